section
-- ===== PART A: goes FIRST, ahead of the names: the tables' words, and 'selects' of the private methods out of them =====
/-- a private method of a class that the tables say can be made, by its rows of tables_1 -/
def lw_okq (q : MethodName × Nat) : Prop := (q.1.cls ≠ "java/lang/invoke/MethodHandle" ∧ q.1.cls ≠ "java/lang/invoke/VarHandle") ∧ Cond.instantiable q.1.cls q.2 ∈ tables_1 ∧ Cond.privateMethod q.1 ∈ tables_1 ∧ Cond.instanceMethod q.1 ∈ tables_1
theorem lw_p0 : lw_okq (⟨"PantryMarket", "isUp", "(I)Z"⟩, 2) := ⟨⟨by decide +kernel, by decide +kernel⟩, List.mem_of_getElem? (i := 19) (by decide +kernel), List.mem_of_getElem? (i := 197) (by decide +kernel), List.mem_of_getElem? (i := 198) (by decide +kernel)⟩
theorem lw_p1 : lw_okq (⟨"PantryMarket", "isTill", "(I)Z"⟩, 2) := ⟨⟨by decide +kernel, by decide +kernel⟩, List.mem_of_getElem? (i := 19) (by decide +kernel), List.mem_of_getElem? (i := 201) (by decide +kernel), List.mem_of_getElem? (i := 202) (by decide +kernel)⟩
theorem lw_p2 : lw_okq (⟨"PantryMarket$Reservations", "find", "(I)I"⟩, 6) := ⟨⟨by decide +kernel, by decide +kernel⟩, List.mem_of_getElem? (i := 46) (by decide +kernel), List.mem_of_getElem? (i := 205) (by decide +kernel), List.mem_of_getElem? (i := 206) (by decide +kernel)⟩
theorem lw_p3 : lw_okq (⟨"PantryMarket$Reservations", "remove", "(I)V"⟩, 6) := ⟨⟨by decide +kernel, by decide +kernel⟩, List.mem_of_getElem? (i := 46) (by decide +kernel), List.mem_of_getElem? (i := 209) (by decide +kernel), List.mem_of_getElem? (i := 210) (by decide +kernel)⟩
theorem lw_p4 : lw_okq (⟨"PantryMarket$Till", "writeDown", "()V"⟩, 3) := ⟨⟨by decide +kernel, by decide +kernel⟩, List.mem_of_getElem? (i := 34) (by decide +kernel), List.mem_of_getElem? (i := 217) (by decide +kernel), List.mem_of_getElem? (i := 218) (by decide +kernel)⟩
theorem lw_p5 : lw_okq (⟨"PantryMarket$Book", "copyFrom", "(LPantryMarket$Book;)V"⟩, 8) := ⟨⟨by decide +kernel, by decide +kernel⟩, List.mem_of_getElem? (i := 40) (by decide +kernel), List.mem_of_getElem? (i := 221) (by decide +kernel), List.mem_of_getElem? (i := 222) (by decide +kernel)⟩
theorem lw_p6 : lw_okq (⟨"PantryMarket$Reservations", "copyFrom", "(LPantryMarket$Reservations;)V"⟩, 6) := ⟨⟨by decide +kernel, by decide +kernel⟩, List.mem_of_getElem? (i := 46) (by decide +kernel), List.mem_of_getElem? (i := 228) (by decide +kernel), List.mem_of_getElem? (i := 229) (by decide +kernel)⟩
theorem lw_p7 : lw_okq (⟨"PantryMarket$Pairing", "copyFrom", "(LPantryMarket$Pairing;)V"⟩, 9) := ⟨⟨by decide +kernel, by decide +kernel⟩, List.mem_of_getElem? (i := 79) (by decide +kernel), List.mem_of_getElem? (i := 233) (by decide +kernel), List.mem_of_getElem? (i := 234) (by decide +kernel)⟩
theorem lw_p8 : lw_okq (⟨"PantryMarket$Till", "fallBack", "()V"⟩, 3) := ⟨⟨by decide +kernel, by decide +kernel⟩, List.mem_of_getElem? (i := 34) (by decide +kernel), List.mem_of_getElem? (i := 242) (by decide +kernel), List.mem_of_getElem? (i := 243) (by decide +kernel)⟩
theorem lw_p9 : lw_okq (⟨"PantryMarket$Net", "isSlot", "(I)Z"⟩, 3) := ⟨⟨by decide +kernel, by decide +kernel⟩, List.mem_of_getElem? (i := 168) (by decide +kernel), List.mem_of_getElem? (i := 254) (by decide +kernel), List.mem_of_getElem? (i := 255) (by decide +kernel)⟩
theorem lw_p10 : lw_okq (⟨"PantryMarket$Net", "takeOut", "(I)V"⟩, 3) := ⟨⟨by decide +kernel, by decide +kernel⟩, List.mem_of_getElem? (i := 168) (by decide +kernel), List.mem_of_getElem? (i := 258) (by decide +kernel), List.mem_of_getElem? (i := 259) (by decide +kernel)⟩
theorem lw_p11 : lw_okq (⟨"PantryMarket$Net", "isFull", "()Z"⟩, 3) := ⟨⟨by decide +kernel, by decide +kernel⟩, List.mem_of_getElem? (i := 168) (by decide +kernel), List.mem_of_getElem? (i := 267) (by decide +kernel), List.mem_of_getElem? (i := 268) (by decide +kernel)⟩
theorem lw_p12 : lw_okq (⟨"PantryMarket$Net", "repeat", "(I)V"⟩, 3) := ⟨⟨by decide +kernel, by decide +kernel⟩, List.mem_of_getElem? (i := 168) (by decide +kernel), List.mem_of_getElem? (i := 271) (by decide +kernel), List.mem_of_getElem? (i := 272) (by decide +kernel)⟩
theorem lw_p13 : lw_okq (⟨"PantryMarket$Net", "cell", "(II)I"⟩, 3) := ⟨⟨by decide +kernel, by decide +kernel⟩, List.mem_of_getElem? (i := 168) (by decide +kernel), List.mem_of_getElem? (i := 279) (by decide +kernel), List.mem_of_getElem? (i := 280) (by decide +kernel)⟩
theorem lw_p14 : lw_okq (⟨"PantryMarket$Pairing", "seenCount", "()I"⟩, 9) := ⟨⟨by decide +kernel, by decide +kernel⟩, List.mem_of_getElem? (i := 79) (by decide +kernel), List.mem_of_getElem? (i := 294) (by decide +kernel), List.mem_of_getElem? (i := 295) (by decide +kernel)⟩
theorem lw_p15 : lw_okq (⟨"PantryMarket", "unitsOnTheirWay", "(I)I"⟩, 2) := ⟨⟨by decide +kernel, by decide +kernel⟩, List.mem_of_getElem? (i := 19) (by decide +kernel), List.mem_of_getElem? (i := 308) (by decide +kernel), List.mem_of_getElem? (i := 309) (by decide +kernel)⟩
def lw_privs_1 : List (MethodName × Nat) := [(⟨"PantryMarket", "isUp", "(I)Z"⟩, 2), (⟨"PantryMarket", "isTill", "(I)Z"⟩, 2), (⟨"PantryMarket$Reservations", "find", "(I)I"⟩, 6), (⟨"PantryMarket$Reservations", "remove", "(I)V"⟩, 6), (⟨"PantryMarket$Till", "writeDown", "()V"⟩, 3), (⟨"PantryMarket$Book", "copyFrom", "(LPantryMarket$Book;)V"⟩, 8), (⟨"PantryMarket$Reservations", "copyFrom", "(LPantryMarket$Reservations;)V"⟩, 6), (⟨"PantryMarket$Pairing", "copyFrom", "(LPantryMarket$Pairing;)V"⟩, 9), (⟨"PantryMarket$Till", "fallBack", "()V"⟩, 3), (⟨"PantryMarket$Net", "isSlot", "(I)Z"⟩, 3), (⟨"PantryMarket$Net", "takeOut", "(I)V"⟩, 3), (⟨"PantryMarket$Net", "isFull", "()Z"⟩, 3), (⟨"PantryMarket$Net", "repeat", "(I)V"⟩, 3), (⟨"PantryMarket$Net", "cell", "(II)I"⟩, 3), (⟨"PantryMarket$Pairing", "seenCount", "()I"⟩, 9), (⟨"PantryMarket", "unitsOnTheirWay", "(I)I"⟩, 2)]
theorem lw_r1 : ∀ q ∈ lw_privs_1, lw_okq q := List.forall_mem_cons.mpr ⟨lw_p0, List.forall_mem_cons.mpr ⟨lw_p1, List.forall_mem_cons.mpr ⟨lw_p2, List.forall_mem_cons.mpr ⟨lw_p3, List.forall_mem_cons.mpr ⟨lw_p4, List.forall_mem_cons.mpr ⟨lw_p5, List.forall_mem_cons.mpr ⟨lw_p6, List.forall_mem_cons.mpr ⟨lw_p7, List.forall_mem_cons.mpr ⟨lw_p8, List.forall_mem_cons.mpr ⟨lw_p9, List.forall_mem_cons.mpr ⟨lw_p10, List.forall_mem_cons.mpr ⟨lw_p11, List.forall_mem_cons.mpr ⟨lw_p12, List.forall_mem_cons.mpr ⟨lw_p13, List.forall_mem_cons.mpr ⟨lw_p14, List.forall_mem_cons.mpr ⟨lw_p15, fun _ h => absurd h List.not_mem_nil⟩⟩⟩⟩⟩⟩⟩⟩⟩⟩⟩⟩⟩⟩⟩⟩
theorem lw_p16 : lw_okq (⟨"PantryMarket$Pairing", "openUnitsUnseenBy", "(LPantryMarket$Pairing;I)I"⟩, 9) := ⟨⟨by decide +kernel, by decide +kernel⟩, List.mem_of_getElem? (i := 79) (by decide +kernel), List.mem_of_getElem? (i := 312) (by decide +kernel), List.mem_of_getElem? (i := 313) (by decide +kernel)⟩
theorem lw_p17 : lw_okq (⟨"PantryMarket$Pairing", "hasSeen", "(I)Z"⟩, 9) := ⟨⟨by decide +kernel, by decide +kernel⟩, List.mem_of_getElem? (i := 79) (by decide +kernel), List.mem_of_getElem? (i := 316) (by decide +kernel), List.mem_of_getElem? (i := 317) (by decide +kernel)⟩
theorem lw_p18 : lw_okq (⟨"PantryMarket", "unitsInBooks", "(I)I"⟩, 2) := ⟨⟨by decide +kernel, by decide +kernel⟩, List.mem_of_getElem? (i := 19) (by decide +kernel), List.mem_of_getElem? (i := 320) (by decide +kernel), List.mem_of_getElem? (i := 321) (by decide +kernel)⟩
theorem lw_p19 : lw_okq (⟨"PantryMarket$Book", "unitsOf", "(I)I"⟩, 8) := ⟨⟨by decide +kernel, by decide +kernel⟩, List.mem_of_getElem? (i := 40) (by decide +kernel), List.mem_of_getElem? (i := 324) (by decide +kernel), List.mem_of_getElem? (i := 325) (by decide +kernel)⟩
theorem lw_p20 : lw_okq (⟨"PantryMarket$Reservations", "unitsOf", "(I)I"⟩, 6) := ⟨⟨by decide +kernel, by decide +kernel⟩, List.mem_of_getElem? (i := 46) (by decide +kernel), List.mem_of_getElem? (i := 328) (by decide +kernel), List.mem_of_getElem? (i := 329) (by decide +kernel)⟩
theorem lw_p21 : lw_okq (⟨"PantryMarket", "openVouchers", "()I"⟩, 2) := ⟨⟨by decide +kernel, by decide +kernel⟩, List.mem_of_getElem? (i := 19) (by decide +kernel), List.mem_of_getElem? (i := 336) (by decide +kernel), List.mem_of_getElem? (i := 337) (by decide +kernel)⟩
theorem lw_p22 : lw_okq (⟨"PantryMarket", "allNewsHold", "()Z"⟩, 2) := ⟨⟨by decide +kernel, by decide +kernel⟩, List.mem_of_getElem? (i := 19) (by decide +kernel), List.mem_of_getElem? (i := 340) (by decide +kernel), List.mem_of_getElem? (i := 341) (by decide +kernel)⟩
theorem lw_p23 : lw_okq (⟨"PantryMarket", "newsHold", "(II)Z"⟩, 2) := ⟨⟨by decide +kernel, by decide +kernel⟩, List.mem_of_getElem? (i := 19) (by decide +kernel), List.mem_of_getElem? (i := 344) (by decide +kernel), List.mem_of_getElem? (i := 345) (by decide +kernel)⟩
theorem lw_p24 : lw_okq (⟨"java/lang/Throwable", "fillInStackTrace", "(I)Ljava/lang/Throwable;"⟩, 6) := ⟨⟨by decide +kernel, by decide +kernel⟩, List.mem_of_getElem? (i := 401) (by decide +kernel), List.mem_of_getElem? (i := 399) (by decide +kernel), List.mem_of_getElem? (i := 400) (by decide +kernel)⟩
theorem lw_p25 : lw_okq (⟨"PantryMarket", "checkUp", "(I)V"⟩, 2) := ⟨⟨by decide +kernel, by decide +kernel⟩, List.mem_of_getElem? (i := 19) (by decide +kernel), List.mem_of_getElem? (i := 436) (by decide +kernel), List.mem_of_getElem? (i := 437) (by decide +kernel)⟩
theorem lw_p26 : lw_okq (⟨"PantryMarket", "checkGoods", "(III)V"⟩, 2) := ⟨⟨by decide +kernel, by decide +kernel⟩, List.mem_of_getElem? (i := 19) (by decide +kernel), List.mem_of_getElem? (i := 465) (by decide +kernel), List.mem_of_getElem? (i := 466) (by decide +kernel)⟩
theorem lw_p27 : lw_okq (⟨"PantryMarket", "checkTill", "(I)V"⟩, 2) := ⟨⟨by decide +kernel, by decide +kernel⟩, List.mem_of_getElem? (i := 19) (by decide +kernel), List.mem_of_getElem? (i := 469) (by decide +kernel), List.mem_of_getElem? (i := 470) (by decide +kernel)⟩
theorem lw_p28 : lw_okq (⟨"PantryMarket", "checkSuffices", "(III)V"⟩, 2) := ⟨⟨by decide +kernel, by decide +kernel⟩, List.mem_of_getElem? (i := 19) (by decide +kernel), List.mem_of_getElem? (i := 474) (by decide +kernel), List.mem_of_getElem? (i := 475) (by decide +kernel)⟩
theorem lw_p29 : lw_okq (⟨"PantryMarket$Reservations", "isFull", "()Z"⟩, 6) := ⟨⟨by decide +kernel, by decide +kernel⟩, List.mem_of_getElem? (i := 46) (by decide +kernel), List.mem_of_getElem? (i := 502) (by decide +kernel), List.mem_of_getElem? (i := 503) (by decide +kernel)⟩
theorem lw_p30 : lw_okq (⟨"PantryMarket$Reservations", "add", "(III)I"⟩, 6) := ⟨⟨by decide +kernel, by decide +kernel⟩, List.mem_of_getElem? (i := 46) (by decide +kernel), List.mem_of_getElem? (i := 507) (by decide +kernel), List.mem_of_getElem? (i := 508) (by decide +kernel)⟩
theorem lw_p31 : lw_okq (⟨"PantryMarket", "passTick", "(I)I"⟩, 2) := ⟨⟨by decide +kernel, by decide +kernel⟩, List.mem_of_getElem? (i := 19) (by decide +kernel), List.mem_of_getElem? (i := 518) (by decide +kernel), List.mem_of_getElem? (i := 519) (by decide +kernel)⟩
def lw_privs_2 : List (MethodName × Nat) := [(⟨"PantryMarket$Pairing", "openUnitsUnseenBy", "(LPantryMarket$Pairing;I)I"⟩, 9), (⟨"PantryMarket$Pairing", "hasSeen", "(I)Z"⟩, 9), (⟨"PantryMarket", "unitsInBooks", "(I)I"⟩, 2), (⟨"PantryMarket$Book", "unitsOf", "(I)I"⟩, 8), (⟨"PantryMarket$Reservations", "unitsOf", "(I)I"⟩, 6), (⟨"PantryMarket", "openVouchers", "()I"⟩, 2), (⟨"PantryMarket", "allNewsHold", "()Z"⟩, 2), (⟨"PantryMarket", "newsHold", "(II)Z"⟩, 2), (⟨"java/lang/Throwable", "fillInStackTrace", "(I)Ljava/lang/Throwable;"⟩, 6), (⟨"PantryMarket", "checkUp", "(I)V"⟩, 2), (⟨"PantryMarket", "checkGoods", "(III)V"⟩, 2), (⟨"PantryMarket", "checkTill", "(I)V"⟩, 2), (⟨"PantryMarket", "checkSuffices", "(III)V"⟩, 2), (⟨"PantryMarket$Reservations", "isFull", "()Z"⟩, 6), (⟨"PantryMarket$Reservations", "add", "(III)I"⟩, 6), (⟨"PantryMarket", "passTick", "(I)I"⟩, 2)]
theorem lw_r2 : ∀ q ∈ lw_privs_2, lw_okq q := List.forall_mem_cons.mpr ⟨lw_p16, List.forall_mem_cons.mpr ⟨lw_p17, List.forall_mem_cons.mpr ⟨lw_p18, List.forall_mem_cons.mpr ⟨lw_p19, List.forall_mem_cons.mpr ⟨lw_p20, List.forall_mem_cons.mpr ⟨lw_p21, List.forall_mem_cons.mpr ⟨lw_p22, List.forall_mem_cons.mpr ⟨lw_p23, List.forall_mem_cons.mpr ⟨lw_p24, List.forall_mem_cons.mpr ⟨lw_p25, List.forall_mem_cons.mpr ⟨lw_p26, List.forall_mem_cons.mpr ⟨lw_p27, List.forall_mem_cons.mpr ⟨lw_p28, List.forall_mem_cons.mpr ⟨lw_p29, List.forall_mem_cons.mpr ⟨lw_p30, List.forall_mem_cons.mpr ⟨lw_p31, fun _ h => absurd h List.not_mem_nil⟩⟩⟩⟩⟩⟩⟩⟩⟩⟩⟩⟩⟩⟩⟩⟩
theorem lw_p32 : lw_okq (⟨"PantryMarket$Book", "releaseEnded", "()I"⟩, 8) := ⟨⟨by decide +kernel, by decide +kernel⟩, List.mem_of_getElem? (i := 40) (by decide +kernel), List.mem_of_getElem? (i := 522) (by decide +kernel), List.mem_of_getElem? (i := 523) (by decide +kernel)⟩
theorem lw_p33 : lw_okq (⟨"PantryMarket", "sendOpenAgain", "(I)V"⟩, 2) := ⟨⟨by decide +kernel, by decide +kernel⟩, List.mem_of_getElem? (i := 19) (by decide +kernel), List.mem_of_getElem? (i := 527) (by decide +kernel), List.mem_of_getElem? (i := 528) (by decide +kernel)⟩
theorem lw_p34 : lw_okq (⟨"PantryMarket$Net", "send", "(IIIIII)V"⟩, 3) := ⟨⟨by decide +kernel, by decide +kernel⟩, List.mem_of_getElem? (i := 168) (by decide +kernel), List.mem_of_getElem? (i := 531) (by decide +kernel), List.mem_of_getElem? (i := 532) (by decide +kernel)⟩
theorem lw_p35 : lw_okq (⟨"PantryMarket", "sendNews", "(I)V"⟩, 2) := ⟨⟨by decide +kernel, by decide +kernel⟩, List.mem_of_getElem? (i := 19) (by decide +kernel), List.mem_of_getElem? (i := 536) (by decide +kernel), List.mem_of_getElem? (i := 537) (by decide +kernel)⟩
theorem lw_p36 : lw_okq (⟨"PantryMarket", "canGive", "(IIII)Z"⟩, 2) := ⟨⟨by decide +kernel, by decide +kernel⟩, List.mem_of_getElem? (i := 19) (by decide +kernel), List.mem_of_getElem? (i := 551) (by decide +kernel), List.mem_of_getElem? (i := 552) (by decide +kernel)⟩
theorem lw_p37 : lw_okq (⟨"PantryMarket$Pairing", "canOpen", "()Z"⟩, 9) := ⟨⟨by decide +kernel, by decide +kernel⟩, List.mem_of_getElem? (i := 79) (by decide +kernel), List.mem_of_getElem? (i := 555) (by decide +kernel), List.mem_of_getElem? (i := 556) (by decide +kernel)⟩
theorem lw_p38 : lw_okq (⟨"PantryMarket", "sendVoucher", "(IIII)I"⟩, 2) := ⟨⟨by decide +kernel, by decide +kernel⟩, List.mem_of_getElem? (i := 19) (by decide +kernel), List.mem_of_getElem? (i := 560) (by decide +kernel), List.mem_of_getElem? (i := 561) (by decide +kernel)⟩
theorem lw_p39 : lw_okq (⟨"PantryMarket$Pairing", "open", "(II)I"⟩, 9) := ⟨⟨by decide +kernel, by decide +kernel⟩, List.mem_of_getElem? (i := 79) (by decide +kernel), List.mem_of_getElem? (i := 564) (by decide +kernel), List.mem_of_getElem? (i := 565) (by decide +kernel)⟩
theorem lw_p40 : lw_okq (⟨"PantryMarket", "richestByNews", "(II)I"⟩, 2) := ⟨⟨by decide +kernel, by decide +kernel⟩, List.mem_of_getElem? (i := 19) (by decide +kernel), List.mem_of_getElem? (i := 575) (by decide +kernel), List.mem_of_getElem? (i := 576) (by decide +kernel)⟩
theorem lw_p41 : lw_okq (⟨"PantryMarket", "receiveVoucher", "(IIIII)Z"⟩, 2) := ⟨⟨by decide +kernel, by decide +kernel⟩, List.mem_of_getElem? (i := 19) (by decide +kernel), List.mem_of_getElem? (i := 610) (by decide +kernel), List.mem_of_getElem? (i := 611) (by decide +kernel)⟩
theorem lw_p42 : lw_okq (⟨"PantryMarket$Pairing", "markSeen", "(I)V"⟩, 9) := ⟨⟨by decide +kernel, by decide +kernel⟩, List.mem_of_getElem? (i := 79) (by decide +kernel), List.mem_of_getElem? (i := 615) (by decide +kernel), List.mem_of_getElem? (i := 616) (by decide +kernel)⟩
theorem lw_p43 : lw_okq (⟨"PantryMarket$Pairing", "close", "(I)Z"⟩, 9) := ⟨⟨by decide +kernel, by decide +kernel⟩, List.mem_of_getElem? (i := 79) (by decide +kernel), List.mem_of_getElem? (i := 619) (by decide +kernel), List.mem_of_getElem? (i := 620) (by decide +kernel)⟩
theorem lw_p44 : lw_okq (⟨"PantryMarket$Pairing", "removeOpen", "(I)V"⟩, 9) := ⟨⟨by decide +kernel, by decide +kernel⟩, List.mem_of_getElem? (i := 79) (by decide +kernel), List.mem_of_getElem? (i := 623) (by decide +kernel), List.mem_of_getElem? (i := 624) (by decide +kernel)⟩
theorem lw_p45 : lw_okq (⟨"PantryMarket$Pairing", "hear", "(III)Z"⟩, 9) := ⟨⟨by decide +kernel, by decide +kernel⟩, List.mem_of_getElem? (i := 79) (by decide +kernel), List.mem_of_getElem? (i := 627) (by decide +kernel), List.mem_of_getElem? (i := 628) (by decide +kernel)⟩
theorem lw_p46 : lw_okq (⟨"PantryMarket", "receiveAsk", "(IIII)Z"⟩, 2) := ⟨⟨by decide +kernel, by decide +kernel⟩, List.mem_of_getElem? (i := 19) (by decide +kernel), List.mem_of_getElem? (i := 631) (by decide +kernel), List.mem_of_getElem? (i := 632) (by decide +kernel)⟩
theorem lw_p47 : lw_okq (⟨"PantryMarketModel", "syncNow", "(I)V"⟩, 8) := ⟨⟨by decide +kernel, by decide +kernel⟩, List.mem_of_getElem? (i := 645) (by decide +kernel), List.mem_of_getElem? (i := 654) (by decide +kernel), List.mem_of_getElem? (i := 655) (by decide +kernel)⟩
def lw_privs_3 : List (MethodName × Nat) := [(⟨"PantryMarket$Book", "releaseEnded", "()I"⟩, 8), (⟨"PantryMarket", "sendOpenAgain", "(I)V"⟩, 2), (⟨"PantryMarket$Net", "send", "(IIIIII)V"⟩, 3), (⟨"PantryMarket", "sendNews", "(I)V"⟩, 2), (⟨"PantryMarket", "canGive", "(IIII)Z"⟩, 2), (⟨"PantryMarket$Pairing", "canOpen", "()Z"⟩, 9), (⟨"PantryMarket", "sendVoucher", "(IIII)I"⟩, 2), (⟨"PantryMarket$Pairing", "open", "(II)I"⟩, 9), (⟨"PantryMarket", "richestByNews", "(II)I"⟩, 2), (⟨"PantryMarket", "receiveVoucher", "(IIIII)Z"⟩, 2), (⟨"PantryMarket$Pairing", "markSeen", "(I)V"⟩, 9), (⟨"PantryMarket$Pairing", "close", "(I)Z"⟩, 9), (⟨"PantryMarket$Pairing", "removeOpen", "(I)V"⟩, 9), (⟨"PantryMarket$Pairing", "hear", "(III)Z"⟩, 9), (⟨"PantryMarket", "receiveAsk", "(IIII)Z"⟩, 2), (⟨"PantryMarketModel", "syncNow", "(I)V"⟩, 8)]
theorem lw_r3 : ∀ q ∈ lw_privs_3, lw_okq q := List.forall_mem_cons.mpr ⟨lw_p32, List.forall_mem_cons.mpr ⟨lw_p33, List.forall_mem_cons.mpr ⟨lw_p34, List.forall_mem_cons.mpr ⟨lw_p35, List.forall_mem_cons.mpr ⟨lw_p36, List.forall_mem_cons.mpr ⟨lw_p37, List.forall_mem_cons.mpr ⟨lw_p38, List.forall_mem_cons.mpr ⟨lw_p39, List.forall_mem_cons.mpr ⟨lw_p40, List.forall_mem_cons.mpr ⟨lw_p41, List.forall_mem_cons.mpr ⟨lw_p42, List.forall_mem_cons.mpr ⟨lw_p43, List.forall_mem_cons.mpr ⟨lw_p44, List.forall_mem_cons.mpr ⟨lw_p45, List.forall_mem_cons.mpr ⟨lw_p46, List.forall_mem_cons.mpr ⟨lw_p47, fun _ h => absurd h List.not_mem_nil⟩⟩⟩⟩⟩⟩⟩⟩⟩⟩⟩⟩⟩⟩⟩⟩
theorem lw_p48 : lw_okq (⟨"PantryMarketModel", "takeOut", "(I)V"⟩, 8) := ⟨⟨by decide +kernel, by decide +kernel⟩, List.mem_of_getElem? (i := 645) (by decide +kernel), List.mem_of_getElem? (i := 695) (by decide +kernel), List.mem_of_getElem? (i := 696) (by decide +kernel)⟩
theorem lw_p49 : lw_okq (⟨"PantryMarketModel", "voucher", "(IIIII)Z"⟩, 8) := ⟨⟨by decide +kernel, by decide +kernel⟩, List.mem_of_getElem? (i := 645) (by decide +kernel), List.mem_of_getElem? (i := 699) (by decide +kernel), List.mem_of_getElem? (i := 700) (by decide +kernel)⟩
theorem lw_p50 : lw_okq (⟨"PantryMarketModel", "isSeen", "(III)Z"⟩, 8) := ⟨⟨by decide +kernel, by decide +kernel⟩, List.mem_of_getElem? (i := 645) (by decide +kernel), List.mem_of_getElem? (i := 703) (by decide +kernel), List.mem_of_getElem? (i := 704) (by decide +kernel)⟩
theorem lw_p51 : lw_okq (⟨"PantryMarketModel", "see", "(III)V"⟩, 8) := ⟨⟨by decide +kernel, by decide +kernel⟩, List.mem_of_getElem? (i := 645) (by decide +kernel), List.mem_of_getElem? (i := 707) (by decide +kernel), List.mem_of_getElem? (i := 708) (by decide +kernel)⟩
theorem lw_p52 : lw_okq (⟨"PantryMarketModel", "send", "(IIIIII)V"⟩, 8) := ⟨⟨by decide +kernel, by decide +kernel⟩, List.mem_of_getElem? (i := 645) (by decide +kernel), List.mem_of_getElem? (i := 711) (by decide +kernel), List.mem_of_getElem? (i := 712) (by decide +kernel)⟩
theorem lw_p53 : lw_okq (⟨"PantryMarketModel", "close", "(III)Z"⟩, 8) := ⟨⟨by decide +kernel, by decide +kernel⟩, List.mem_of_getElem? (i := 645) (by decide +kernel), List.mem_of_getElem? (i := 715) (by decide +kernel), List.mem_of_getElem? (i := 716) (by decide +kernel)⟩
theorem lw_p54 : lw_okq (⟨"PantryMarketModel", "told", "(IIIII)Z"⟩, 8) := ⟨⟨by decide +kernel, by decide +kernel⟩, List.mem_of_getElem? (i := 645) (by decide +kernel), List.mem_of_getElem? (i := 719) (by decide +kernel), List.mem_of_getElem? (i := 720) (by decide +kernel)⟩
theorem lw_p55 : lw_okq (⟨"PantryMarketModel", "asked", "(IIII)Z"⟩, 8) := ⟨⟨by decide +kernel, by decide +kernel⟩, List.mem_of_getElem? (i := 645) (by decide +kernel), List.mem_of_getElem? (i := 723) (by decide +kernel), List.mem_of_getElem? (i := 724) (by decide +kernel)⟩
theorem lw_p56 : lw_okq (⟨"PantryMarketModel", "canGive", "(IIII)Z"⟩, 8) := ⟨⟨by decide +kernel, by decide +kernel⟩, List.mem_of_getElem? (i := 645) (by decide +kernel), List.mem_of_getElem? (i := 727) (by decide +kernel), List.mem_of_getElem? (i := 728) (by decide +kernel)⟩
theorem lw_p57 : lw_okq (⟨"PantryMarketModel", "giveNow", "(IIII)I"⟩, 8) := ⟨⟨by decide +kernel, by decide +kernel⟩, List.mem_of_getElem? (i := 645) (by decide +kernel), List.mem_of_getElem? (i := 731) (by decide +kernel), List.mem_of_getElem? (i := 732) (by decide +kernel)⟩
theorem lw_p58 : lw_okq (⟨"PantryMarketModel", "mayTake", "(III)Z"⟩, 8) := ⟨⟨by decide +kernel, by decide +kernel⟩, List.mem_of_getElem? (i := 645) (by decide +kernel), List.mem_of_getElem? (i := 763) (by decide +kernel), List.mem_of_getElem? (i := 764) (by decide +kernel)⟩
theorem lw_p59 : lw_okq (⟨"PantryMarketModel", "areThese", "(III)Z"⟩, 8) := ⟨⟨by decide +kernel, by decide +kernel⟩, List.mem_of_getElem? (i := 645) (by decide +kernel), List.mem_of_getElem? (i := 767) (by decide +kernel), List.mem_of_getElem? (i := 768) (by decide +kernel)⟩
theorem lw_p60 : lw_okq (⟨"PantryMarketModel", "isTill", "(I)Z"⟩, 8) := ⟨⟨by decide +kernel, by decide +kernel⟩, List.mem_of_getElem? (i := 645) (by decide +kernel), List.mem_of_getElem? (i := 771) (by decide +kernel), List.mem_of_getElem? (i := 772) (by decide +kernel)⟩
theorem lw_p61 : lw_okq (⟨"PantryMarketModel", "move", "(IIII)I"⟩, 8) := ⟨⟨by decide +kernel, by decide +kernel⟩, List.mem_of_getElem? (i := 645) (by decide +kernel), List.mem_of_getElem? (i := 775) (by decide +kernel), List.mem_of_getElem? (i := 776) (by decide +kernel)⟩
theorem lw_p62 : lw_okq (⟨"PantryMarketModel", "forget", "(II)V"⟩, 8) := ⟨⟨by decide +kernel, by decide +kernel⟩, List.mem_of_getElem? (i := 645) (by decide +kernel), List.mem_of_getElem? (i := 795) (by decide +kernel), List.mem_of_getElem? (i := 796) (by decide +kernel)⟩
theorem lw_p63 : lw_okq (⟨"PantryMarketModel", "pass", "(I)I"⟩, 8) := ⟨⟨by decide +kernel, by decide +kernel⟩, List.mem_of_getElem? (i := 645) (by decide +kernel), List.mem_of_getElem? (i := 803) (by decide +kernel), List.mem_of_getElem? (i := 804) (by decide +kernel)⟩
def lw_privs_4 : List (MethodName × Nat) := [(⟨"PantryMarketModel", "takeOut", "(I)V"⟩, 8), (⟨"PantryMarketModel", "voucher", "(IIIII)Z"⟩, 8), (⟨"PantryMarketModel", "isSeen", "(III)Z"⟩, 8), (⟨"PantryMarketModel", "see", "(III)V"⟩, 8), (⟨"PantryMarketModel", "send", "(IIIIII)V"⟩, 8), (⟨"PantryMarketModel", "close", "(III)Z"⟩, 8), (⟨"PantryMarketModel", "told", "(IIIII)Z"⟩, 8), (⟨"PantryMarketModel", "asked", "(IIII)Z"⟩, 8), (⟨"PantryMarketModel", "canGive", "(IIII)Z"⟩, 8), (⟨"PantryMarketModel", "giveNow", "(IIII)I"⟩, 8), (⟨"PantryMarketModel", "mayTake", "(III)Z"⟩, 8), (⟨"PantryMarketModel", "areThese", "(III)Z"⟩, 8), (⟨"PantryMarketModel", "isTill", "(I)Z"⟩, 8), (⟨"PantryMarketModel", "move", "(IIII)I"⟩, 8), (⟨"PantryMarketModel", "forget", "(II)V"⟩, 8), (⟨"PantryMarketModel", "pass", "(I)I"⟩, 8)]
theorem lw_r4 : ∀ q ∈ lw_privs_4, lw_okq q := List.forall_mem_cons.mpr ⟨lw_p48, List.forall_mem_cons.mpr ⟨lw_p49, List.forall_mem_cons.mpr ⟨lw_p50, List.forall_mem_cons.mpr ⟨lw_p51, List.forall_mem_cons.mpr ⟨lw_p52, List.forall_mem_cons.mpr ⟨lw_p53, List.forall_mem_cons.mpr ⟨lw_p54, List.forall_mem_cons.mpr ⟨lw_p55, List.forall_mem_cons.mpr ⟨lw_p56, List.forall_mem_cons.mpr ⟨lw_p57, List.forall_mem_cons.mpr ⟨lw_p58, List.forall_mem_cons.mpr ⟨lw_p59, List.forall_mem_cons.mpr ⟨lw_p60, List.forall_mem_cons.mpr ⟨lw_p61, List.forall_mem_cons.mpr ⟨lw_p62, List.forall_mem_cons.mpr ⟨lw_p63, fun _ h => absurd h List.not_mem_nil⟩⟩⟩⟩⟩⟩⟩⟩⟩⟩⟩⟩⟩⟩⟩⟩
theorem lw_p64 : lw_okq (⟨"PantryMarketModel", "over", "(I)I"⟩, 8) := ⟨⟨by decide +kernel, by decide +kernel⟩, List.mem_of_getElem? (i := 645) (by decide +kernel), List.mem_of_getElem? (i := 807) (by decide +kernel), List.mem_of_getElem? (i := 808) (by decide +kernel)⟩
theorem lw_p65 : lw_okq (⟨"PantryMarketModel", "reservedOf", "(II)I"⟩, 8) := ⟨⟨by decide +kernel, by decide +kernel⟩, List.mem_of_getElem? (i := 645) (by decide +kernel), List.mem_of_getElem? (i := 839) (by decide +kernel), List.mem_of_getElem? (i := 840) (by decide +kernel)⟩
theorem lw_p66 : lw_okq (⟨"PantryMarketModel", "underWay", "(I)I"⟩, 8) := ⟨⟨by decide +kernel, by decide +kernel⟩, List.mem_of_getElem? (i := 645) (by decide +kernel), List.mem_of_getElem? (i := 855) (by decide +kernel), List.mem_of_getElem? (i := 856) (by decide +kernel)⟩
theorem lw_p67 : lw_okq (⟨"PantryMarketModel", "settled", "()Z"⟩, 8) := ⟨⟨by decide +kernel, by decide +kernel⟩, List.mem_of_getElem? (i := 645) (by decide +kernel), List.mem_of_getElem? (i := 863) (by decide +kernel), List.mem_of_getElem? (i := 864) (by decide +kernel)⟩
theorem lw_p68 : lw_okq (⟨"PantryMarketModel", "opens", "()I"⟩, 8) := ⟨⟨by decide +kernel, by decide +kernel⟩, List.mem_of_getElem? (i := 645) (by decide +kernel), List.mem_of_getElem? (i := 867) (by decide +kernel), List.mem_of_getElem? (i := 868) (by decide +kernel)⟩
def lw_privs_5 : List (MethodName × Nat) := [(⟨"PantryMarketModel", "over", "(I)I"⟩, 8), (⟨"PantryMarketModel", "reservedOf", "(II)I"⟩, 8), (⟨"PantryMarketModel", "underWay", "(I)I"⟩, 8), (⟨"PantryMarketModel", "settled", "()Z"⟩, 8), (⟨"PantryMarketModel", "opens", "()I"⟩, 8)]
theorem lw_r5 : ∀ q ∈ lw_privs_5, lw_okq q := List.forall_mem_cons.mpr ⟨lw_p64, List.forall_mem_cons.mpr ⟨lw_p65, List.forall_mem_cons.mpr ⟨lw_p66, List.forall_mem_cons.mpr ⟨lw_p67, List.forall_mem_cons.mpr ⟨lw_p68, fun _ h => absurd h List.not_mem_nil⟩⟩⟩⟩⟩
def lw_privs : List (MethodName × Nat) := lw_privs_1 ++ (lw_privs_2 ++ (lw_privs_3 ++ (lw_privs_4 ++ (lw_privs_5))))
def lw_tbl : List Cond := k2_sels lw_privs ++ tables_1
theorem lw_privs_ok : ∀ q ∈ lw_privs, lw_okq q := by
  show ∀ q ∈ lw_privs_1 ++ (lw_privs_2 ++ (lw_privs_3 ++ (lw_privs_4 ++ (lw_privs_5)))), lw_okq q
  exact List.forall_mem_append.mpr ⟨lw_r1, List.forall_mem_append.mpr ⟨lw_r2, List.forall_mem_append.mpr ⟨lw_r3, List.forall_mem_append.mpr ⟨lw_r4, lw_r5⟩⟩⟩⟩
end
section
def zfPm : List (String × String × String × Bool) := [("PantryMarket", "tills", "[LPantryMarket$Till;", true), ("PantryMarket", "net", "LPantryMarket$Net;", true)]
def zfTi : List (String × String × String × Bool) := [("PantryMarket$Till", "up", "Z", false), ("PantryMarket$Till", "book", "LPantryMarket$Book;", true), ("PantryMarket$Till", "kept", "LPantryMarket$Book;", true)]
def zfBo : List (String × String × String × Bool) := [("PantryMarket$Book", "share", "[I", true), ("PantryMarket$Book", "sold", "[I", true), ("PantryMarket$Book", "broken", "[I", true), ("PantryMarket$Book", "booked", "[I", true), ("PantryMarket$Book", "clock", "I", false), ("PantryMarket$Book", "nextStamp", "I", false), ("PantryMarket$Book", "reservations", "LPantryMarket$Reservations;", true), ("PantryMarket$Book", "pairings", "[LPantryMarket$Pairing;", true)]
def zfNe : List (String × String × String × Bool) := [("PantryMarket$Net", "count", "I", false), ("PantryMarket$Net", "lost", "I", false), ("PantryMarket$Net", "cells", "[I", true)]
def zfPa : List (String × String × String × Bool) := [("PantryMarket$Pairing", "nextNumber", "I", false), ("PantryMarket$Pairing", "openCount", "I", false), ("PantryMarket$Pairing", "openNumbers", "[I", true), ("PantryMarket$Pairing", "openArticles", "[I", true), ("PantryMarket$Pairing", "openUnits", "[I", true), ("PantryMarket$Pairing", "floor", "I", false), ("PantryMarket$Pairing", "seenFromFloor", "I", false), ("PantryMarket$Pairing", "newsUnits", "[I", true), ("PantryMarket$Pairing", "newsStamps", "[I", true)]
def zfRe : List (String × String × String × Bool) := [("PantryMarket$Reservations", "nextId", "I", false), ("PantryMarket$Reservations", "count", "I", false), ("PantryMarket$Reservations", "ids", "[I", true), ("PantryMarket$Reservations", "articles", "[I", true), ("PantryMarket$Reservations", "units", "[I", true), ("PantryMarket$Reservations", "ends", "[I", true)]
def zfMo : List (String × String × String × Bool) := [("PantryMarketModel", "thrown", "I", false), ("PantryMarketModel", "n", "I", true), ("PantryMarketModel", "now", "[I", true), ("PantryMarketModel", "kept", "[I", true), ("PantryMarketModel", "down", "[Z", true), ("PantryMarketModel", "messages", "I", false), ("PantryMarketModel", "lost", "I", false), ("PantryMarketModel", "net", "[I", true)]
def zcls : List (String × List (String × String × String × Bool) × List Nat × List Nat × Nat × Nat) := [("PantryMarket", zfPm, [2, 2], [256, 258], 88, 70), ("PantryMarket$Till", zfTi, [1, 2, 2], [229, 231, 233], 103, 72), ("PantryMarket$Book", zfBo, [2, 2, 2, 2, 0, 0, 2, 2], [207, 209, 211, 213, 215, 217, 219, 221], 109, 73), ("PantryMarket$Net", zfNe, [0, 0, 2], [247, 249, 251], 237, 77), ("PantryMarket$Pairing", zfPa, [0, 0, 2, 2, 2, 0, 0, 2, 2], [172, 174, 176, 178, 180, 182, 184, 186, 188], 148, 75), ("PantryMarket$Reservations", zfRe, [0, 0, 2, 2, 2, 2], [132, 134, 136, 138, 140, 142], 115, 74), ("PantryMarketModel", zfMo, [0, 0, 2, 2, 2, 0, 0, 2], [737, 739, 741, 743, 745, 747, 749, 751], 714, 78)]
def zexn : List String := ["java/lang/IllegalArgumentException", "java/lang/IllegalStateException", "java/lang/IndexOutOfBoundsException"]
def zc0 : List (Nat × Instr × List Nat) := [(0, .aload_n 0, []), (1, .invokespecial 1, [4, 92]), (4, .iconst 2, []), (5, .iconst 5, []), (6, .iload_n 1, []), (7, .invokestatic 9, [1, 1, 95, 0, 99]), (10, .invokestatic 15, [1, 2, 98, 0, 99]), (13, .istore_n 2, []), (14, .aload_n 0, []), (15, .iload_n 2, []), (16, .anewarray 18, [103, 101]), (19, .putfield 20, [0, 0, 254, 0]), (22, .iconst 0, []), (23, .istore_n 3, []), (24, .iload_n 3, []), (25, .iload_n 2, []), (26, .if_icmp .ge 23, []), (29, .aload_n 0, []), (30, .getfield 20, [0, 0, 254, 0]), (33, .iload_n 3, []), (34, .new 18, [1, 101]), (37, .dup, []), (38, .iload_n 2, []), (39, .invokespecial 24, [3, 3, 104, 1, 1]), (42, .aastore, [103]), (43, .iinc 3 1, []), (46, .goto (-22), []), (49, .aload_n 0, []), (50, .new 27, [3, 236]), (53, .dup, []), (54, .invokespecial 29, [3, 8, 238, 1, 3]), (57, .putfield 30, [0, 1, 255, 0]), (60, .return_, [])]
def zc1 : List (Nat × Instr × List Nat) := [(0, .iload_n 0, []), (1, .iload_n 1, []), (2, .if_icmp .gt 7, []), (5, .iload_n 0, []), (6, .goto 4, []), (9, .iload_n 1, []), (10, .ireturn, [])]
def zc2 : List (Nat × Instr × List Nat) := [(0, .iload_n 0, []), (1, .iload_n 1, []), (2, .if_icmp .lt 7, []), (5, .iload_n 0, []), (6, .goto 4, []), (9, .iload_n 1, []), (10, .ireturn, [])]
def zc3 : List (Nat × Instr × List Nat) := [(0, .aload_n 0, []), (1, .invokespecial 1, [4, 107]), (4, .aload_n 0, []), (5, .iconst 1, []), (6, .putfield 7, [1, 0, 224, 0]), (9, .aload_n 0, []), (10, .new 13, [2, 108]), (13, .dup, []), (14, .iload_n 1, []), (15, .invokespecial 15, [3, 4, 110, 1, 2]), (18, .putfield 18, [1, 1, 226, 0]), (21, .aload_n 0, []), (22, .new 13, [2, 108]), (25, .dup, []), (26, .iload_n 1, []), (27, .invokespecial 15, [3, 4, 110, 1, 2]), (30, .putfield 22, [1, 2, 228, 0]), (33, .return_, [])]
def zc4 : List (Nat × Instr × List Nat) := [(0, .aload_n 0, []), (1, .invokespecial 3, [4, 113]), (4, .aload_n 0, []), (5, .iconst 4, []), (6, .newarray .int, []), (8, .putfield 9, [2, 0, 191, 0]), (11, .aload_n 0, []), (12, .iconst 4, []), (13, .newarray .int, []), (15, .putfield 15, [2, 1, 193, 0]), (18, .aload_n 0, []), (19, .iconst 4, []), (20, .newarray .int, []), (22, .putfield 18, [2, 2, 195, 0]), (25, .aload_n 0, []), (26, .iconst 4, []), (27, .newarray .int, []), (29, .putfield 21, [2, 3, 197, 0]), (32, .aload_n 0, []), (33, .iconst 0, []), (34, .putfield 24, [2, 4, 199, 0]), (37, .aload_n 0, []), (38, .iconst 0, []), (39, .putfield 28, [2, 5, 201, 0]), (42, .aload_n 0, []), (43, .new 31, [5, 114]), (46, .dup, []), (47, .invokespecial 33, [3, 5, 116, 1, 5]), (50, .putfield 34, [2, 6, 203, 0]), (53, .aload_n 0, []), (54, .iload_n 1, []), (55, .anewarray 38, [104, 146]), (58, .putfield 40, [2, 7, 205, 0]), (61, .iconst 0, []), (62, .istore_n 2, []), (63, .iload_n 2, []), (64, .iload_n 1, []), (65, .if_icmp .ge 22, []), (68, .aload_n 0, []), (69, .getfield 40, [2, 7, 205, 0]), (72, .iload_n 2, []), (73, .new 38, [4, 146]), (76, .dup, []), (77, .invokespecial 44, [3, 6, 149, 1, 4]), (80, .aastore, [104]), (81, .iinc 2 1, []), (84, .goto (-21), []), (87, .return_, [])]
def zc5 : List (Nat × Instr × List Nat) := [(0, .aload_n 0, []), (1, .invokespecial 3, [4, 119]), (4, .aload_n 0, []), (5, .iconst 0, []), (6, .putfield 9, [5, 0, 120, 0]), (9, .aload_n 0, []), (10, .iconst 0, []), (11, .putfield 15, [5, 1, 121, 0]), (14, .aload_n 0, []), (15, .bipush 6, []), (17, .newarray .int, []), (19, .putfield 18, [5, 2, 123, 0]), (22, .aload_n 0, []), (23, .bipush 6, []), (25, .newarray .int, []), (27, .putfield 22, [5, 3, 124, 0]), (30, .aload_n 0, []), (31, .bipush 6, []), (33, .newarray .int, []), (35, .putfield 25, [5, 4, 127, 0]), (38, .aload_n 0, []), (39, .bipush 6, []), (41, .newarray .int, []), (43, .putfield 28, [5, 5, 130, 0]), (46, .return_, [])]
def zc6 : List (Nat × Instr × List Nat) := [(0, .aload_n 0, []), (1, .invokespecial 3, [4, 152]), (4, .aload_n 0, []), (5, .iconst 0, []), (6, .putfield 9, [4, 0, 156, 0]), (9, .aload_n 0, []), (10, .iconst 0, []), (11, .putfield 15, [4, 1, 158, 0]), (14, .aload_n 0, []), (15, .iconst 4, []), (16, .newarray .int, []), (18, .putfield 18, [4, 2, 160, 0]), (21, .aload_n 0, []), (22, .iconst 4, []), (23, .newarray .int, []), (25, .putfield 22, [4, 3, 162, 0]), (28, .aload_n 0, []), (29, .iconst 4, []), (30, .newarray .int, []), (32, .putfield 25, [4, 4, 164, 0]), (35, .aload_n 0, []), (36, .iconst 0, []), (37, .putfield 28, [4, 5, 166, 0]), (40, .aload_n 0, []), (41, .iconst 0, []), (42, .putfield 31, [4, 6, 168, 0]), (45, .aload_n 0, []), (46, .iconst 4, []), (47, .newarray .int, []), (49, .putfield 34, [4, 7, 169, 0]), (52, .aload_n 0, []), (53, .iconst 4, []), (54, .newarray .int, []), (56, .putfield 37, [4, 8, 171, 0]), (59, .aload_n 0, []), (60, .getfield 34, [4, 7, 169, 0]), (63, .iconst (-1), []), (64, .invokestatic 40, [1, 7, 153, 0, 99]), (67, .aload_n 0, []), (68, .getfield 37, [4, 8, 171, 0]), (71, .iconst (-1), []), (72, .invokestatic 40, [1, 7, 153, 0, 99]), (75, .return_, [])]
def zc7 : List (Nat × Instr × List Nat) := [(0, .iconst 0, []), (1, .istore_n 2, []), (2, .aload_n 0, []), (3, .arraylength, []), (4, .istore_n 3, []), (5, .iload_n 2, []), (6, .iload_n 3, []), (7, .if_icmp .ge 13, []), (10, .aload_n 0, []), (11, .iload_n 2, []), (12, .iload_n 1, []), (13, .iastore, []), (14, .iinc 2 1, []), (17, .goto (-12), []), (20, .return_, [])]
def zc8 : List (Nat × Instr × List Nat) := [(0, .aload_n 0, []), (1, .invokespecial 1, [4, 241]), (4, .aload_n 0, []), (5, .iconst 0, []), (6, .putfield 7, [3, 0, 242, 0]), (9, .aload_n 0, []), (10, .iconst 0, []), (11, .putfield 13, [3, 1, 244, 0]), (14, .aload_n 0, []), (15, .sipush 144, []), (18, .newarray .int, []), (20, .putfield 16, [3, 2, 246, 0]), (23, .return_, [])]
def zc9 : List (Nat × Instr × List Nat) := [(0, .aload_n 0, []), (1, .iload_n 1, []), (2, .invokevirtual 107, [2, 10, 265, 0, 0]), (5, .ifCond .ne 5, []), (8, .iconst 0, []), (9, .ireturn, []), (10, .aload_n 0, []), (11, .getfield 20, [0, 0, 254, 0]), (14, .iload_n 1, []), (15, .aaload, [103]), (16, .getfield 43, [1, 1, 227, 1]), (19, .astore_n 3, []), (20, .aload_n 3, []), (21, .getfield 87, [2, 6, 204, 1]), (24, .iload_n 2, []), (25, .invokevirtual 111, [2, 12, 273, 1, 5]), (28, .istore 4, []), (30, .iload 4, []), (32, .iconst (-1), []), (33, .if_icmp .ne 5, []), (36, .iconst 0, []), (37, .ireturn, []), (38, .aload_n 3, []), (39, .getfield 74, [2, 1, 194, 1]), (42, .aload_n 3, []), (43, .getfield 87, [2, 6, 204, 1]), (46, .getfield 115, [5, 3, 126, 1]), (49, .iload 4, []), (51, .iaload, []), (52, .dup2, []), (53, .iaload, []), (54, .aload_n 3, []), (55, .getfield 87, [2, 6, 204, 1]), (58, .getfield 118, [5, 4, 129, 1]), (61, .iload 4, []), (63, .iaload, []), (64, .iadd, []), (65, .iastore, []), (66, .aload_n 3, []), (67, .getfield 87, [2, 6, 204, 1]), (70, .iload 4, []), (72, .invokevirtual 121, [2, 13, 277, 1, 5]), (75, .iconst 1, []), (76, .ireturn, [])]
def zc10 : List (Nat × Instr × List Nat) := [(0, .aload_n 0, []), (1, .iload_n 1, []), (2, .invokevirtual 156, [2, 11, 269, 0, 0]), (5, .ifCond .eq 19, []), (8, .aload_n 0, []), (9, .getfield 20, [0, 0, 254, 0]), (12, .iload_n 1, []), (13, .aaload, [103]), (14, .getfield 149, [1, 0, 225, 1]), (17, .ifCond .eq 7, []), (20, .iconst 1, []), (21, .goto 4, []), (24, .iconst 0, []), (25, .ireturn, [])]
def zc11 : List (Nat × Instr × List Nat) := [(0, .iload_n 1, []), (1, .ifCond .lt 16, []), (4, .iload_n 1, []), (5, .aload_n 0, []), (6, .getfield 20, [0, 0, 254, 0]), (9, .arraylength, []), (10, .if_icmp .ge 7, []), (13, .iconst 1, []), (14, .goto 4, []), (17, .iconst 0, []), (18, .ireturn, [])]
def zc12 : List (Nat × Instr × List Nat) := [(0, .iconst 0, []), (1, .istore_n 2, []), (2, .iload_n 2, []), (3, .aload_n 0, []), (4, .getfield 15, [5, 1, 121, 0]), (7, .if_icmp .ge 21, []), (10, .aload_n 0, []), (11, .getfield 18, [5, 2, 123, 0]), (14, .iload_n 2, []), (15, .iaload, []), (16, .iload_n 1, []), (17, .if_icmp .ne 5, []), (20, .iload_n 2, []), (21, .ireturn, []), (22, .iinc 2 1, []), (25, .goto (-23), []), (28, .iconst (-1), []), (29, .ireturn, [])]
def zc13 : List (Nat × Instr × List Nat) := [(0, .aload_n 0, []), (1, .dup, []), (2, .getfield 15, [5, 1, 121, 0]), (5, .iconst 1, []), (6, .isub, []), (7, .putfield 15, [5, 1, 121, 0]), (10, .iload_n 1, []), (11, .istore_n 2, []), (12, .iload_n 2, []), (13, .aload_n 0, []), (14, .getfield 15, [5, 1, 121, 0]), (17, .if_icmp .ge 65, []), (20, .aload_n 0, []), (21, .getfield 18, [5, 2, 123, 0]), (24, .iload_n 2, []), (25, .aload_n 0, []), (26, .getfield 18, [5, 2, 123, 0]), (29, .iload_n 2, []), (30, .iconst 1, []), (31, .iadd, []), (32, .iaload, []), (33, .iastore, []), (34, .aload_n 0, []), (35, .getfield 22, [5, 3, 124, 0]), (38, .iload_n 2, []), (39, .aload_n 0, []), (40, .getfield 22, [5, 3, 124, 0]), (43, .iload_n 2, []), (44, .iconst 1, []), (45, .iadd, []), (46, .iaload, []), (47, .iastore, []), (48, .aload_n 0, []), (49, .getfield 25, [5, 4, 127, 0]), (52, .iload_n 2, []), (53, .aload_n 0, []), (54, .getfield 25, [5, 4, 127, 0]), (57, .iload_n 2, []), (58, .iconst 1, []), (59, .iadd, []), (60, .iaload, []), (61, .iastore, []), (62, .aload_n 0, []), (63, .getfield 28, [5, 5, 130, 0]), (66, .iload_n 2, []), (67, .aload_n 0, []), (68, .getfield 28, [5, 5, 130, 0]), (71, .iload_n 2, []), (72, .iconst 1, []), (73, .iadd, []), (74, .iaload, []), (75, .iastore, []), (76, .iinc 2 1, []), (79, .goto (-67), []), (82, .return_, [])]
def zc14 : List (Nat × Instr × List Nat) := [(0, .aload_n 0, []), (1, .iload_n 1, []), (2, .invokevirtual 107, [2, 10, 265, 0, 0]), (5, .ifCond .ne 5, []), (8, .iconst 0, []), (9, .ireturn, []), (10, .aload_n 0, []), (11, .getfield 20, [0, 0, 254, 0]), (14, .iload_n 1, []), (15, .aaload, [103]), (16, .invokevirtual 64, [2, 15, 285, 1, 1]), (19, .iconst 1, []), (20, .ireturn, [])]
def zc15 : List (Nat × Instr × List Nat) := [(0, .aload_n 0, []), (1, .getfield 22, [1, 2, 228, 0]), (4, .aload_n 0, []), (5, .getfield 18, [1, 1, 226, 0]), (8, .invokevirtual 25, [2, 16, 289, 1, 2]), (11, .return_, [])]
def zc16 : List (Nat × Instr × List Nat) := [(0, .aload_n 1, []), (1, .getfield 9, [2, 0, 191, 0]), (4, .iconst 0, []), (5, .aload_n 0, []), (6, .getfield 9, [2, 0, 191, 0]), (9, .iconst 0, []), (10, .iconst 4, []), (11, .invokestatic 65, [0, 293]), (14, .aload_n 1, []), (15, .getfield 15, [2, 1, 193, 0]), (18, .iconst 0, []), (19, .aload_n 0, []), (20, .getfield 15, [2, 1, 193, 0]), (23, .iconst 0, []), (24, .iconst 4, []), (25, .invokestatic 65, [0, 293]), (28, .aload_n 1, []), (29, .getfield 18, [2, 2, 195, 0]), (32, .iconst 0, []), (33, .aload_n 0, []), (34, .getfield 18, [2, 2, 195, 0]), (37, .iconst 0, []), (38, .iconst 4, []), (39, .invokestatic 65, [0, 293]), (42, .aload_n 1, []), (43, .getfield 21, [2, 3, 197, 0]), (46, .iconst 0, []), (47, .aload_n 0, []), (48, .getfield 21, [2, 3, 197, 0]), (51, .iconst 0, []), (52, .iconst 4, []), (53, .invokestatic 65, [0, 293]), (56, .aload_n 0, []), (57, .aload_n 1, []), (58, .getfield 24, [2, 4, 199, 0]), (61, .putfield 24, [2, 4, 199, 0]), (64, .aload_n 0, []), (65, .aload_n 1, []), (66, .getfield 28, [2, 5, 201, 0]), (69, .putfield 28, [2, 5, 201, 0]), (72, .aload_n 0, []), (73, .getfield 34, [2, 6, 203, 0]), (76, .aload_n 1, []), (77, .getfield 34, [2, 6, 203, 0]), (80, .invokevirtual 71, [2, 17, 296, 1, 5]), (83, .iconst 0, []), (84, .istore_n 2, []), (85, .iload_n 2, []), (86, .aload_n 0, []), (87, .getfield 40, [2, 7, 205, 0]), (90, .arraylength, []), (91, .if_icmp .ge 24, []), (94, .aload_n 0, []), (95, .getfield 40, [2, 7, 205, 0]), (98, .iload_n 2, []), (99, .aaload, [104]), (100, .aload_n 1, []), (101, .getfield 40, [2, 7, 205, 0]), (104, .iload_n 2, []), (105, .aaload, [104]), (106, .invokevirtual 75, [2, 18, 301, 1, 4]), (109, .iinc 2 1, []), (112, .goto (-27), []), (115, .return_, [])]
def zc17 : List (Nat × Instr × List Nat) := [(0, .aload_n 0, []), (1, .aload_n 1, []), (2, .getfield 9, [5, 0, 120, 0]), (5, .putfield 9, [5, 0, 120, 0]), (8, .aload_n 0, []), (9, .aload_n 1, []), (10, .getfield 15, [5, 1, 121, 0]), (13, .putfield 15, [5, 1, 121, 0]), (16, .aload_n 1, []), (17, .getfield 18, [5, 2, 123, 0]), (20, .iconst 0, []), (21, .aload_n 0, []), (22, .getfield 18, [5, 2, 123, 0]), (25, .iconst 0, []), (26, .bipush 6, []), (28, .invokestatic 31, [0, 300]), (31, .aload_n 1, []), (32, .getfield 22, [5, 3, 124, 0]), (35, .iconst 0, []), (36, .aload_n 0, []), (37, .getfield 22, [5, 3, 124, 0]), (40, .iconst 0, []), (41, .bipush 6, []), (43, .invokestatic 31, [0, 300]), (46, .aload_n 1, []), (47, .getfield 25, [5, 4, 127, 0]), (50, .iconst 0, []), (51, .aload_n 0, []), (52, .getfield 25, [5, 4, 127, 0]), (55, .iconst 0, []), (56, .bipush 6, []), (58, .invokestatic 31, [0, 300]), (61, .aload_n 1, []), (62, .getfield 28, [5, 5, 130, 0]), (65, .iconst 0, []), (66, .aload_n 0, []), (67, .getfield 28, [5, 5, 130, 0]), (70, .iconst 0, []), (71, .bipush 6, []), (73, .invokestatic 31, [0, 300]), (76, .return_, [])]
def zc18 : List (Nat × Instr × List Nat) := [(0, .aload_n 0, []), (1, .aload_n 1, []), (2, .getfield 9, [4, 0, 156, 0]), (5, .putfield 9, [4, 0, 156, 0]), (8, .aload_n 0, []), (9, .aload_n 1, []), (10, .getfield 15, [4, 1, 158, 0]), (13, .putfield 15, [4, 1, 158, 0]), (16, .aload_n 1, []), (17, .getfield 18, [4, 2, 160, 0]), (20, .iconst 0, []), (21, .aload_n 0, []), (22, .getfield 18, [4, 2, 160, 0]), (25, .iconst 0, []), (26, .iconst 4, []), (27, .invokestatic 60, [0, 305]), (30, .aload_n 1, []), (31, .getfield 22, [4, 3, 162, 0]), (34, .iconst 0, []), (35, .aload_n 0, []), (36, .getfield 22, [4, 3, 162, 0]), (39, .iconst 0, []), (40, .iconst 4, []), (41, .invokestatic 60, [0, 305]), (44, .aload_n 1, []), (45, .getfield 25, [4, 4, 164, 0]), (48, .iconst 0, []), (49, .aload_n 0, []), (50, .getfield 25, [4, 4, 164, 0]), (53, .iconst 0, []), (54, .iconst 4, []), (55, .invokestatic 60, [0, 305]), (58, .aload_n 0, []), (59, .aload_n 1, []), (60, .getfield 28, [4, 5, 166, 0]), (63, .putfield 28, [4, 5, 166, 0]), (66, .aload_n 0, []), (67, .aload_n 1, []), (68, .getfield 31, [4, 6, 168, 0]), (71, .putfield 31, [4, 6, 168, 0]), (74, .aload_n 1, []), (75, .getfield 34, [4, 7, 169, 0]), (78, .iconst 0, []), (79, .aload_n 0, []), (80, .getfield 34, [4, 7, 169, 0]), (83, .iconst 0, []), (84, .iconst 4, []), (85, .invokestatic 60, [0, 305]), (88, .aload_n 1, []), (89, .getfield 37, [4, 8, 171, 0]), (92, .iconst 0, []), (93, .aload_n 0, []), (94, .getfield 37, [4, 8, 171, 0]), (97, .iconst 0, []), (98, .iconst 4, []), (99, .invokestatic 60, [0, 305]), (102, .return_, [])]
def zc19 : List (Nat × Instr × List Nat) := [(0, .aload_n 0, []), (1, .iload_n 1, []), (2, .invokevirtual 107, [2, 10, 265, 0, 0]), (5, .ifCond .ne 5, []), (8, .iconst 0, []), (9, .ireturn, []), (10, .aload_n 0, []), (11, .getfield 20, [0, 0, 254, 0]), (14, .iload_n 1, []), (15, .aaload, [103]), (16, .iconst 0, []), (17, .putfield 149, [1, 0, 225, 1]), (20, .aload_n 0, []), (21, .getfield 20, [0, 0, 254, 0]), (24, .iload_n 1, []), (25, .aaload, [103]), (26, .invokevirtual 153, [2, 20, 310, 1, 1]), (29, .iconst 1, []), (30, .ireturn, [])]
def zc20 : List (Nat × Instr × List Nat) := [(0, .aload_n 0, []), (1, .getfield 18, [1, 1, 226, 0]), (4, .aload_n 0, []), (5, .getfield 22, [1, 2, 228, 0]), (8, .invokevirtual 25, [2, 16, 289, 1, 2]), (11, .return_, [])]
def zc21 : List (Nat × Instr × List Nat) := [(0, .aload_n 0, []), (1, .iload_n 1, []), (2, .invokevirtual 156, [2, 11, 269, 0, 0]), (5, .ifCond .eq 15, []), (8, .aload_n 0, []), (9, .getfield 20, [0, 0, 254, 0]), (12, .iload_n 1, []), (13, .aaload, [103]), (14, .getfield 149, [1, 0, 225, 1]), (17, .ifCond .eq 5, []), (20, .iconst 0, []), (21, .ireturn, []), (22, .aload_n 0, []), (23, .getfield 20, [0, 0, 254, 0]), (26, .iload_n 1, []), (27, .aaload, [103]), (28, .iconst 1, []), (29, .putfield 149, [1, 0, 225, 1]), (32, .iconst 1, []), (33, .ireturn, [])]
def zc22 : List (Nat × Instr × List Nat) := [(0, .aload_n 0, []), (1, .getfield 30, [0, 1, 255, 0]), (4, .iload_n 1, []), (5, .invokevirtual 159, [2, 23, 322, 1, 3]), (8, .ifCond .ne 5, []), (11, .iconst 0, []), (12, .ireturn, []), (13, .aload_n 0, []), (14, .getfield 30, [0, 1, 255, 0]), (17, .iload_n 1, []), (18, .invokevirtual 170, [2, 24, 326, 1, 3]), (21, .iconst 1, []), (22, .ireturn, [])]
def zc23 : List (Nat × Instr × List Nat) := [(0, .iload_n 1, []), (1, .ifCond .lt 15, []), (4, .iload_n 1, []), (5, .aload_n 0, []), (6, .getfield 7, [3, 0, 242, 0]), (9, .if_icmp .ge 7, []), (12, .iconst 1, []), (13, .goto 4, []), (16, .iconst 0, []), (17, .ireturn, [])]
def zc24 : List (Nat × Instr × List Nat) := [(0, .aload_n 0, []), (1, .dup, []), (2, .getfield 7, [3, 0, 242, 0]), (5, .iconst 1, []), (6, .isub, []), (7, .putfield 7, [3, 0, 242, 0]), (10, .aload_n 0, []), (11, .getfield 16, [3, 2, 246, 0]), (14, .iload_n 1, []), (15, .iconst 1, []), (16, .iadd, []), (17, .bipush 6, []), (19, .imul, []), (20, .aload_n 0, []), (21, .getfield 16, [3, 2, 246, 0]), (24, .iload_n 1, []), (25, .bipush 6, []), (27, .imul, []), (28, .aload_n 0, []), (29, .getfield 7, [3, 0, 242, 0]), (32, .iload_n 1, []), (33, .isub, []), (34, .bipush 6, []), (36, .imul, []), (37, .invokestatic 24, [0, 330]), (40, .return_, [])]
def zc25 : List (Nat × Instr × List Nat) := [(0, .aload_n 0, []), (1, .getfield 30, [0, 1, 255, 0]), (4, .iload_n 1, []), (5, .invokevirtual 159, [2, 23, 322, 1, 3]), (8, .ifCond .eq 13, []), (11, .aload_n 0, []), (12, .getfield 30, [0, 1, 255, 0]), (15, .invokevirtual 193, [2, 26, 335, 1, 3]), (18, .ifCond .eq 5, []), (21, .iconst 0, []), (22, .ireturn, []), (23, .aload_n 0, []), (24, .getfield 30, [0, 1, 255, 0]), (27, .iload_n 1, []), (28, .invokevirtual 194, [2, 27, 339, 1, 3]), (31, .iconst 1, []), (32, .ireturn, [])]
def zc26 : List (Nat × Instr × List Nat) := [(0, .aload_n 0, []), (1, .getfield 7, [3, 0, 242, 0]), (4, .bipush 24, []), (6, .if_icmp .lt 7, []), (9, .iconst 1, []), (10, .goto 4, []), (13, .iconst 0, []), (14, .ireturn, [])]
def zc27 : List (Nat × Instr × List Nat) := [(0, .aload_n 0, []), (1, .getfield 16, [3, 2, 246, 0]), (4, .iload_n 1, []), (5, .bipush 6, []), (7, .imul, []), (8, .aload_n 0, []), (9, .getfield 16, [3, 2, 246, 0]), (12, .aload_n 0, []), (13, .getfield 7, [3, 0, 242, 0]), (16, .bipush 6, []), (18, .imul, []), (19, .bipush 6, []), (21, .invokestatic 24, [0, 330]), (24, .aload_n 0, []), (25, .dup, []), (26, .getfield 7, [3, 0, 242, 0]), (29, .iconst 1, []), (30, .iadd, []), (31, .putfield 7, [3, 0, 242, 0]), (34, .return_, [])]
def zc28 : List (Nat × Instr × List Nat) := [(0, .aload_n 0, []), (1, .getfield 30, [0, 1, 255, 0]), (4, .iload_n 1, []), (5, .invokevirtual 159, [2, 23, 322, 1, 3]), (8, .ifCond .eq 13, []), (11, .iload_n 2, []), (12, .ifCond .lt 9, []), (15, .iload_n 2, []), (16, .bipush 6, []), (18, .if_icmp .lt 5, []), (21, .iconst (-1), []), (22, .ireturn, []), (23, .aload_n 0, []), (24, .getfield 30, [0, 1, 255, 0]), (27, .iload_n 1, []), (28, .iload_n 2, []), (29, .invokevirtual 167, [2, 29, 347, 1, 3]), (32, .ireturn, [])]
def zc29 : List (Nat × Instr × List Nat) := [(0, .aload_n 0, []), (1, .getfield 16, [3, 2, 246, 0]), (4, .iload_n 1, []), (5, .bipush 6, []), (7, .imul, []), (8, .iload_n 2, []), (9, .iadd, []), (10, .iaload, []), (11, .ireturn, [])]
def zc30 : List (Nat × Instr × List Nat) := [(0, .aload_n 0, []), (1, .iload_n 1, []), (2, .invokevirtual 156, [2, 11, 269, 0, 0]), (5, .ifCond .eq 18, []), (8, .aload_n 0, []), (9, .iload_n 2, []), (10, .invokevirtual 156, [2, 11, 269, 0, 0]), (13, .ifCond .eq 10, []), (16, .iload_n 3, []), (17, .invokestatic 197, [1, 31, 355, 0, 0]), (20, .ifCond .ne 5, []), (23, .iconst (-1), []), (24, .ireturn, []), (25, .aload_n 0, []), (26, .getfield 20, [0, 0, 254, 0]), (29, .iload_n 1, []), (30, .aaload, [103]), (31, .getfield 43, [1, 1, 227, 1]), (34, .getfield 177, [2, 7, 206, 1]), (37, .iload_n 2, []), (38, .aaload, [104]), (39, .getfield 207, [4, 7, 170, 1]), (42, .iload_n 3, []), (43, .iaload, []), (44, .ireturn, [])]
def zc31 : List (Nat × Instr × List Nat) := [(0, .iload_n 0, []), (1, .ifCond .lt 12, []), (4, .iload_n 0, []), (5, .iconst 4, []), (6, .if_icmp .ge 7, []), (9, .iconst 1, []), (10, .goto 4, []), (13, .iconst 0, []), (14, .ireturn, [])]
def zc32 : List (Nat × Instr × List Nat) := [(0, .aload_n 0, []), (1, .iload_n 1, []), (2, .invokevirtual 156, [2, 11, 269, 0, 0]), (5, .ifCond .eq 16, []), (8, .aload_n 0, []), (9, .iload_n 2, []), (10, .invokevirtual 156, [2, 11, 269, 0, 0]), (13, .ifCond .eq 8, []), (16, .iload_n 1, []), (17, .iload_n 2, []), (18, .if_icmp .ne 5, []), (21, .iconst (-1), []), (22, .ireturn, []), (23, .aload_n 0, []), (24, .getfield 20, [0, 0, 254, 0]), (27, .iload_n 1, []), (28, .aaload, [103]), (29, .getfield 43, [1, 1, 227, 1]), (32, .getfield 177, [2, 7, 206, 1]), (35, .iload_n 2, []), (36, .aaload, [104]), (37, .astore 4, []), (39, .iload_n 3, []), (40, .tableswitch 56 0 3 #[32, 38, 44, 50], []), (72, .aload 4, []), (74, .getfield 210, [4, 0, 157, 1]), (77, .ireturn, []), (78, .aload 4, []), (80, .getfield 213, [4, 1, 159, 1]), (83, .ireturn, []), (84, .aload 4, []), (86, .getfield 216, [4, 5, 167, 1]), (89, .ireturn, []), (90, .aload 4, []), (92, .invokevirtual 219, [2, 33, 362, 1, 4]), (95, .ireturn, []), (96, .iconst (-1), []), (97, .ireturn, [])]
def zc33 : List (Nat × Instr × List Nat) := [(0, .aload_n 0, []), (1, .getfield 28, [4, 5, 166, 0]), (4, .aload_n 0, []), (5, .getfield 31, [4, 6, 168, 0]), (8, .invokestatic 50, [1, 34, 366, 0, 99]), (11, .iadd, []), (12, .ireturn, [])]
def zc34 : List (Nat × Instr × List Nat) := [(0, .iload_n 0, []), (1, .iload_n 0, []), (2, .iconst 1, []), (3, .iushr, []), (4, .ldc_w 265, [1, 1431655765, 369]), (7, .iand, []), (8, .isub, []), (9, .istore_n 0, []), (10, .iload_n 0, []), (11, .ldc_w 266, [1, 858993459, 370]), (14, .iand, []), (15, .iload_n 0, []), (16, .iconst 2, []), (17, .iushr, []), (18, .ldc_w 266, [1, 858993459, 370]), (21, .iand, []), (22, .iadd, []), (23, .istore_n 0, []), (24, .iload_n 0, []), (25, .iload_n 0, []), (26, .iconst 4, []), (27, .iushr, []), (28, .iadd, []), (29, .ldc_w 267, [1, 252645135, 371]), (32, .iand, []), (33, .istore_n 0, []), (34, .iload_n 0, []), (35, .iload_n 0, []), (36, .bipush 8, []), (38, .iushr, []), (39, .iadd, []), (40, .istore_n 0, []), (41, .iload_n 0, []), (42, .iload_n 0, []), (43, .bipush 16, []), (45, .iushr, []), (46, .iadd, []), (47, .istore_n 0, []), (48, .iload_n 0, []), (49, .bipush 63, []), (51, .iand, []), (52, .ireturn, [])]
def zc35 : List (Nat × Instr × List Nat) := [(0, .iload_n 1, []), (1, .invokestatic 197, [1, 31, 355, 0, 0]), (4, .ifCond .ne 5, []), (7, .iconst (-1), []), (8, .ireturn, []), (9, .iload_n 2, []), (10, .tableswitch 59 0 2 #[26, 32, 44], []), (36, .aload_n 0, []), (37, .iload_n 1, []), (38, .invokevirtual 223, [2, 36, 376, 0, 0]), (41, .ireturn, []), (42, .aload_n 0, []), (43, .iload_n 1, []), (44, .invokevirtual 223, [2, 36, 376, 0, 0]), (47, .aload_n 0, []), (48, .iload_n 1, []), (49, .invokevirtual 226, [2, 39, 388, 0, 0]), (52, .iadd, []), (53, .ireturn, []), (54, .aload_n 0, []), (55, .getfield 20, [0, 0, 254, 0]), (58, .iconst 0, []), (59, .aaload, [103]), (60, .getfield 43, [1, 1, 227, 1]), (63, .getfield 47, [2, 3, 198, 1]), (66, .iload_n 1, []), (67, .iaload, []), (68, .ireturn, []), (69, .iconst (-1), []), (70, .ireturn, [])]
def zc36 : List (Nat × Instr × List Nat) := [(0, .iconst 0, []), (1, .istore_n 2, []), (2, .iconst 0, []), (3, .istore_n 3, []), (4, .iload_n 3, []), (5, .aload_n 0, []), (6, .getfield 20, [0, 0, 254, 0]), (9, .arraylength, []), (10, .if_icmp .ge 69, []), (13, .iconst 0, []), (14, .istore 4, []), (16, .iload 4, []), (18, .aload_n 0, []), (19, .getfield 20, [0, 0, 254, 0]), (22, .arraylength, []), (23, .if_icmp .ge 50, []), (26, .aload_n 0, []), (27, .getfield 20, [0, 0, 254, 0]), (30, .iload 4, []), (32, .aaload, [103]), (33, .getfield 43, [1, 1, 227, 1]), (36, .getfield 177, [2, 7, 206, 1]), (39, .iload_n 3, []), (40, .aaload, [104]), (41, .astore 5, []), (43, .iload_n 2, []), (44, .aload_n 0, []), (45, .getfield 20, [0, 0, 254, 0]), (48, .iload_n 3, []), (49, .aaload, [103]), (50, .getfield 43, [1, 1, 227, 1]), (53, .getfield 177, [2, 7, 206, 1]), (56, .iload 4, []), (58, .aaload, [104]), (59, .aload 5, []), (61, .iload_n 1, []), (62, .invokevirtual 288, [2, 37, 380, 1, 4]), (65, .iadd, []), (66, .istore_n 2, []), (67, .iinc 4 1, []), (70, .goto (-54), []), (73, .iinc 3 1, []), (76, .goto (-72), []), (79, .iload_n 2, []), (80, .ireturn, [])]
def zc37 : List (Nat × Instr × List Nat) := [(0, .iconst 0, []), (1, .istore_n 3, []), (2, .iconst 0, []), (3, .istore 4, []), (5, .iload 4, []), (7, .aload_n 0, []), (8, .getfield 15, [4, 1, 158, 0]), (11, .if_icmp .ge 44, []), (14, .aload_n 0, []), (15, .getfield 22, [4, 3, 162, 0]), (18, .iload 4, []), (20, .iaload, []), (21, .iload_n 2, []), (22, .if_icmp .ne 27, []), (25, .aload_n 1, []), (26, .aload_n 0, []), (27, .getfield 18, [4, 2, 160, 0]), (30, .iload 4, []), (32, .iaload, []), (33, .invokevirtual 56, [2, 38, 384, 0, 4]), (36, .ifCond .ne 13, []), (39, .iload_n 3, []), (40, .aload_n 0, []), (41, .getfield 25, [4, 4, 164, 0]), (44, .iload 4, []), (46, .iaload, []), (47, .iadd, []), (48, .istore_n 3, []), (49, .iinc 4 1, []), (52, .goto (-47), []), (55, .iload_n 3, []), (56, .ireturn, [])]
def zc38 : List (Nat × Instr × List Nat) := [(0, .iload_n 1, []), (1, .aload_n 0, []), (2, .getfield 28, [4, 5, 166, 0]), (5, .isub, []), (6, .istore_n 2, []), (7, .iload_n 2, []), (8, .ifCond .lt 20, []), (11, .iload_n 2, []), (12, .bipush 16, []), (14, .if_icmp .ge 18, []), (17, .aload_n 0, []), (18, .getfield 31, [4, 6, 168, 0]), (21, .iload_n 2, []), (22, .iushr, []), (23, .iconst 1, []), (24, .iand, []), (25, .ifCond .eq 7, []), (28, .iconst 1, []), (29, .goto 4, []), (32, .iconst 0, []), (33, .ireturn, [])]
def zc39 : List (Nat × Instr × List Nat) := [(0, .iconst 0, []), (1, .istore_n 2, []), (2, .iconst 0, []), (3, .istore_n 3, []), (4, .iload_n 3, []), (5, .aload_n 0, []), (6, .getfield 20, [0, 0, 254, 0]), (9, .arraylength, []), (10, .if_icmp .ge 25, []), (13, .iload_n 2, []), (14, .aload_n 0, []), (15, .getfield 20, [0, 0, 254, 0]), (18, .iload_n 3, []), (19, .aaload, [103]), (20, .getfield 43, [1, 1, 227, 1]), (23, .iload_n 1, []), (24, .invokevirtual 292, [2, 40, 392, 1, 2]), (27, .iadd, []), (28, .istore_n 2, []), (29, .iinc 3 1, []), (32, .goto (-28), []), (35, .iload_n 2, []), (36, .ireturn, [])]
def zc40 : List (Nat × Instr × List Nat) := [(0, .aload_n 0, []), (1, .getfield 9, [2, 0, 191, 0]), (4, .iload_n 1, []), (5, .iaload, []), (6, .aload_n 0, []), (7, .getfield 15, [2, 1, 193, 0]), (10, .iload_n 1, []), (11, .iaload, []), (12, .iadd, []), (13, .aload_n 0, []), (14, .getfield 18, [2, 2, 195, 0]), (17, .iload_n 1, []), (18, .iaload, []), (19, .iadd, []), (20, .aload_n 0, []), (21, .getfield 34, [2, 6, 203, 0]), (24, .iload_n 1, []), (25, .invokevirtual 45, [2, 41, 396, 1, 5]), (28, .iadd, []), (29, .ireturn, [])]
def zc41 : List (Nat × Instr × List Nat) := [(0, .iconst 0, []), (1, .istore_n 2, []), (2, .iconst 0, []), (3, .istore_n 3, []), (4, .iload_n 3, []), (5, .aload_n 0, []), (6, .getfield 15, [5, 1, 121, 0]), (9, .if_icmp .ge 28, []), (12, .aload_n 0, []), (13, .getfield 22, [5, 3, 124, 0]), (16, .iload_n 3, []), (17, .iaload, []), (18, .iload_n 1, []), (19, .if_icmp .ne 12, []), (22, .iload_n 2, []), (23, .aload_n 0, []), (24, .getfield 25, [5, 4, 127, 0]), (27, .iload_n 3, []), (28, .iaload, []), (29, .iadd, []), (30, .istore_n 2, []), (31, .iinc 3 1, []), (34, .goto (-30), []), (37, .iload_n 2, []), (38, .ireturn, [])]
def zc42 : List (Nat × Instr × List Nat) := [(0, .iload_n 1, []), (1, .iconst 5, []), (2, .if_icmp .lt 29, []), (5, .iload_n 1, []), (6, .iconst 5, []), (7, .aload_n 0, []), (8, .getfield 20, [0, 0, 254, 0]), (11, .arraylength, []), (12, .iadd, []), (13, .if_icmp .ge 18, []), (16, .aload_n 0, []), (17, .getfield 20, [0, 0, 254, 0]), (20, .iload_n 1, []), (21, .iconst 5, []), (22, .isub, []), (23, .aaload, [103]), (24, .getfield 43, [1, 1, 227, 1]), (27, .getfield 99, [2, 4, 200, 1]), (30, .ireturn, []), (31, .iload_n 1, []), (32, .bipush 10, []), (34, .if_icmp .lt 36, []), (37, .iload_n 1, []), (38, .bipush 10, []), (40, .aload_n 0, []), (41, .getfield 20, [0, 0, 254, 0]), (44, .arraylength, []), (45, .iadd, []), (46, .if_icmp .ge 24, []), (49, .aload_n 0, []), (50, .getfield 20, [0, 0, 254, 0]), (53, .iload_n 1, []), (54, .bipush 10, []), (56, .isub, []), (57, .aaload, [103]), (58, .getfield 149, [1, 0, 225, 1]), (61, .ifCond .eq 7, []), (64, .iconst 1, []), (65, .goto 4, []), (68, .iconst 0, []), (69, .ireturn, []), (70, .iload_n 1, []), (71, .tableswitch 80 0 4 #[33, 39, 47, 55, 75], []), (104, .aload_n 0, []), (105, .getfield 20, [0, 0, 254, 0]), (108, .arraylength, []), (109, .ireturn, []), (110, .aload_n 0, []), (111, .getfield 30, [0, 1, 255, 0]), (114, .getfield 229, [3, 0, 243, 1]), (117, .ireturn, []), (118, .aload_n 0, []), (119, .getfield 30, [0, 1, 255, 0]), (122, .getfield 232, [3, 1, 245, 1]), (125, .ireturn, []), (126, .aload_n 0, []), (127, .invokevirtual 235, [2, 43, 404, 0, 0]), (130, .ifCond .ne 14, []), (133, .aload_n 0, []), (134, .invokevirtual 238, [2, 44, 408, 0, 0]), (137, .ifCond .eq 7, []), (140, .iconst 1, []), (141, .goto 4, []), (144, .iconst 0, []), (145, .ireturn, []), (146, .aload_n 0, []), (147, .invokevirtual 235, [2, 43, 404, 0, 0]), (150, .ireturn, []), (151, .iconst (-1), []), (152, .ireturn, [])]
def zc43 : List (Nat × Instr × List Nat) := [(0, .iconst 0, []), (1, .istore_n 1, []), (2, .iconst 0, []), (3, .istore_n 2, []), (4, .iload_n 2, []), (5, .aload_n 0, []), (6, .getfield 20, [0, 0, 254, 0]), (9, .arraylength, []), (10, .if_icmp .ge 46, []), (13, .iconst 0, []), (14, .istore_n 3, []), (15, .iload_n 3, []), (16, .aload_n 0, []), (17, .getfield 20, [0, 0, 254, 0]), (20, .arraylength, []), (21, .if_icmp .ge 29, []), (24, .iload_n 1, []), (25, .aload_n 0, []), (26, .getfield 20, [0, 0, 254, 0]), (29, .iload_n 2, []), (30, .aaload, [103]), (31, .getfield 43, [1, 1, 227, 1]), (34, .getfield 177, [2, 7, 206, 1]), (37, .iload_n 3, []), (38, .aaload, [104]), (39, .getfield 213, [4, 1, 159, 1]), (42, .iadd, []), (43, .istore_n 1, []), (44, .iinc 3 1, []), (47, .goto (-32), []), (50, .iinc 2 1, []), (53, .goto (-49), []), (56, .iload_n 1, []), (57, .ireturn, [])]
def zc44 : List (Nat × Instr × List Nat) := [(0, .iconst 0, []), (1, .istore_n 1, []), (2, .iload_n 1, []), (3, .aload_n 0, []), (4, .getfield 20, [0, 0, 254, 0]), (7, .arraylength, []), (8, .if_icmp .ge 42, []), (11, .iconst 0, []), (12, .istore_n 2, []), (13, .iload_n 2, []), (14, .aload_n 0, []), (15, .getfield 20, [0, 0, 254, 0]), (18, .arraylength, []), (19, .if_icmp .ge 25, []), (22, .iload_n 1, []), (23, .iload_n 2, []), (24, .if_icmp .eq 14, []), (27, .aload_n 0, []), (28, .iload_n 1, []), (29, .iload_n 2, []), (30, .invokevirtual 293, [2, 45, 412, 0, 0]), (33, .ifCond .ne 5, []), (36, .iconst 0, []), (37, .ireturn, []), (38, .iinc 2 1, []), (41, .goto (-28), []), (44, .iinc 1 1, []), (47, .goto (-45), []), (50, .iconst 1, []), (51, .ireturn, [])]
def zc45 : List (Nat × Instr × List Nat) := [(0, .iconst 0, []), (1, .istore_n 3, []), (2, .iload_n 3, []), (3, .iconst 4, []), (4, .if_icmp .ge 47, []), (7, .aload_n 0, []), (8, .getfield 20, [0, 0, 254, 0]), (11, .iload_n 1, []), (12, .aaload, [103]), (13, .getfield 43, [1, 1, 227, 1]), (16, .getfield 177, [2, 7, 206, 1]), (19, .iload_n 2, []), (20, .aaload, [104]), (21, .getfield 207, [4, 7, 170, 1]), (24, .iload_n 3, []), (25, .iaload, []), (26, .aload_n 0, []), (27, .getfield 20, [0, 0, 254, 0]), (30, .iload_n 2, []), (31, .aaload, [103]), (32, .getfield 43, [1, 1, 227, 1]), (35, .getfield 61, [2, 0, 192, 1]), (38, .iload_n 3, []), (39, .iaload, []), (40, .if_icmp .eq 5, []), (43, .iconst 0, []), (44, .ireturn, []), (45, .iinc 3 1, []), (48, .goto (-46), []), (51, .iconst 1, []), (52, .ireturn, [])]
def zc46 : List (Nat × Instr × List Nat) := [(0, .iload_n 1, []), (1, .aload_n 0, []), (2, .arraylength, []), (3, .if_icmp .ge 9, []), (6, .aload_n 0, []), (7, .iload_n 1, []), (8, .iaload, []), (9, .goto 4, []), (12, .iconst 0, []), (13, .ireturn, [])]
def zc47 : List (Nat × Instr × List Nat) := [(0, .aload_n 3, []), (1, .iconst 0, []), (2, .aload_n 0, []), (3, .iload_n 1, []), (4, .iload_n 2, []), (5, .invokevirtual 7, [2, 48, 424, 0, 0]), (8, .i2l, []), (9, .lastore, []), (10, .goto 11, []), (13, .astore 4, []), (15, .iconst 1, []), (16, .ireturn, []), (17, .astore 4, []), (19, .iconst 2, []), (20, .ireturn, []), (21, .iconst 0, []), (22, .ireturn, [])]
def zc48 : List (Nat × Instr × List Nat) := [(0, .iload_n 1, []), (1, .invokestatic 34, [1, 49, 428, 0, 0]), (4, .iload_n 2, []), (5, .invokestatic 37, [1, 50, 499, 0, 0]), (8, .aload_n 0, []), (9, .iconst 0, []), (10, .invokevirtual 40, [2, 51, 504, 0, 0]), (13, .aload_n 0, []), (14, .getfield 20, [0, 0, 254, 0]), (17, .iconst 0, []), (18, .aaload, [103]), (19, .astore_n 3, []), (20, .aload_n 3, []), (21, .getfield 43, [1, 1, 227, 1]), (24, .astore 4, []), (26, .aload 4, []), (28, .getfield 47, [2, 3, 198, 1]), (31, .iload_n 1, []), (32, .iaload, []), (33, .iload_n 2, []), (34, .iadd, []), (35, .ldc 53, [1, 100000000, 524]), (37, .if_icmp .le 13, []), (40, .new 54, [201, 508]), (43, .dup, []), (44, .ldc 56, [2, 525]), (46, .invokespecial 58, [5, 1, 518]), (49, .athrow, []), (50, .aload 4, []), (52, .getfield 61, [2, 0, 192, 1]), (55, .iload_n 1, []), (56, .dup2, []), (57, .iaload, []), (58, .iload_n 2, []), (59, .iadd, []), (60, .iastore, []), (61, .aload 4, []), (63, .getfield 47, [2, 3, 198, 1]), (66, .iload_n 1, []), (67, .dup2, []), (68, .iaload, []), (69, .iload_n 2, []), (70, .iadd, []), (71, .iastore, []), (72, .aload_n 3, []), (73, .invokevirtual 64, [2, 15, 285, 1, 1]), (76, .aload 4, []), (78, .getfield 61, [2, 0, 192, 1]), (81, .iload_n 1, []), (82, .iaload, []), (83, .ireturn, [])]
def zc49 : List (Nat × Instr × List Nat) := [(0, .iload_n 0, []), (1, .invokestatic 197, [1, 31, 355, 0, 0]), (4, .ifCond .ne 13, []), (7, .new 82, [200, 431]), (10, .dup, []), (11, .ldc 243, [2, 472]), (13, .invokespecial 86, [5, 0, 473]), (16, .athrow, []), (17, .return_, [])]
def zc50 : List (Nat × Instr × List Nat) := [(0, .iload_n 0, []), (1, .iconst 1, []), (2, .if_icmp .lt 9, []), (5, .iload_n 0, []), (6, .ldc 245, [1, 1000000, 502]), (8, .if_icmp .le 13, []), (11, .new 82, [200, 431]), (14, .dup, []), (15, .ldc 246, [2, 503]), (17, .invokespecial 86, [5, 0, 473]), (20, .athrow, []), (21, .return_, [])]
def zc51 : List (Nat × Instr × List Nat) := [(0, .aload_n 0, []), (1, .iload_n 1, []), (2, .invokevirtual 107, [2, 10, 265, 0, 0]), (5, .ifCond .ne 13, []), (8, .new 54, [201, 508]), (11, .dup, []), (12, .ldc 248, [2, 517]), (14, .invokespecial 58, [5, 1, 518]), (17, .athrow, []), (18, .return_, [])]
def zc52 : List (Nat × Instr × List Nat) := [(0, .aload 4, []), (2, .iconst 0, []), (3, .aload_n 0, []), (4, .iload_n 1, []), (5, .iload_n 2, []), (6, .iload_n 3, []), (7, .invokevirtual 17, [2, 53, 529, 0, 0]), (10, .i2l, []), (11, .lastore, []), (12, .goto 11, []), (15, .astore 5, []), (17, .iconst 1, []), (18, .ireturn, []), (19, .astore 5, []), (21, .iconst 2, []), (22, .ireturn, []), (23, .iconst 0, []), (24, .ireturn, [])]
def zc53 : List (Nat × Instr × List Nat) := [(0, .aload_n 0, []), (1, .iload_n 1, []), (2, .iload_n 2, []), (3, .iload_n 3, []), (4, .invokevirtual 67, [2, 54, 533, 0, 0]), (7, .aload_n 0, []), (8, .iload_n 1, []), (9, .iload_n 2, []), (10, .iload_n 3, []), (11, .invokevirtual 71, [2, 56, 542, 0, 0]), (14, .aload_n 0, []), (15, .getfield 20, [0, 0, 254, 0]), (18, .iload_n 1, []), (19, .aaload, [103]), (20, .getfield 43, [1, 1, 227, 1]), (23, .astore 4, []), (25, .aload 4, []), (27, .getfield 61, [2, 0, 192, 1]), (30, .iload_n 2, []), (31, .dup2, []), (32, .iaload, []), (33, .iload_n 3, []), (34, .isub, []), (35, .iastore, []), (36, .aload 4, []), (38, .getfield 74, [2, 1, 194, 1]), (41, .iload_n 2, []), (42, .dup2, []), (43, .iaload, []), (44, .iload_n 3, []), (45, .iadd, []), (46, .iastore, []), (47, .aload 4, []), (49, .getfield 61, [2, 0, 192, 1]), (52, .iload_n 2, []), (53, .iaload, []), (54, .ireturn, [])]
def zc54 : List (Nat × Instr × List Nat) := [(0, .aload_n 0, []), (1, .iload_n 1, []), (2, .invokevirtual 124, [2, 55, 537, 0, 0]), (5, .iload_n 2, []), (6, .invokestatic 34, [1, 49, 428, 0, 0]), (9, .iload_n 3, []), (10, .invokestatic 37, [1, 50, 499, 0, 0]), (13, .return_, [])]
def zc55 : List (Nat × Instr × List Nat) := [(0, .aload_n 0, []), (1, .iload_n 1, []), (2, .invokevirtual 156, [2, 11, 269, 0, 0]), (5, .ifCond .ne 13, []), (8, .new 82, [200, 431]), (11, .dup, []), (12, .ldc 241, [2, 541]), (14, .invokespecial 86, [5, 0, 473]), (17, .athrow, []), (18, .return_, [])]
def zc56 : List (Nat × Instr × List Nat) := [(0, .aload_n 0, []), (1, .iload_n 1, []), (2, .invokevirtual 40, [2, 51, 504, 0, 0]), (5, .aload_n 0, []), (6, .getfield 20, [0, 0, 254, 0]), (9, .iload_n 1, []), (10, .aaload, [103]), (11, .getfield 43, [1, 1, 227, 1]), (14, .getfield 61, [2, 0, 192, 1]), (17, .iload_n 2, []), (18, .iaload, []), (19, .iload_n 3, []), (20, .if_icmp .ge 13, []), (23, .new 54, [201, 508]), (26, .dup, []), (27, .ldc 250, [2, 546]), (29, .invokespecial 58, [5, 1, 518]), (32, .athrow, []), (33, .return_, [])]
def zc57 : List (Nat × Instr × List Nat) := [(0, .aload 4, []), (2, .iconst 0, []), (3, .aload_n 0, []), (4, .iload_n 1, []), (5, .iload_n 2, []), (6, .iload_n 3, []), (7, .invokevirtual 21, [2, 58, 550, 0, 0]), (10, .i2l, []), (11, .lastore, []), (12, .goto 11, []), (15, .astore 5, []), (17, .iconst 1, []), (18, .ireturn, []), (19, .astore 5, []), (21, .iconst 2, []), (22, .ireturn, []), (23, .iconst 0, []), (24, .ireturn, [])]
def zc58 : List (Nat × Instr × List Nat) := [(0, .aload_n 0, []), (1, .iload_n 1, []), (2, .iload_n 2, []), (3, .iload_n 3, []), (4, .invokevirtual 67, [2, 54, 533, 0, 0]), (7, .aload_n 0, []), (8, .iload_n 1, []), (9, .invokevirtual 40, [2, 51, 504, 0, 0]), (12, .aload_n 0, []), (13, .getfield 20, [0, 0, 254, 0]), (16, .iload_n 1, []), (17, .aaload, [103]), (18, .getfield 43, [1, 1, 227, 1]), (21, .astore 4, []), (23, .aload 4, []), (25, .getfield 61, [2, 0, 192, 1]), (28, .iload_n 2, []), (29, .iaload, []), (30, .iload_n 3, []), (31, .iadd, []), (32, .ldc 53, [1, 100000000, 524]), (34, .if_icmp .le 13, []), (37, .new 54, [201, 508]), (40, .dup, []), (41, .ldc 77, [2, 554]), (43, .invokespecial 58, [5, 1, 518]), (46, .athrow, []), (47, .aload 4, []), (49, .getfield 61, [2, 0, 192, 1]), (52, .iload_n 2, []), (53, .dup2, []), (54, .iaload, []), (55, .iload_n 3, []), (56, .iadd, []), (57, .iastore, []), (58, .aload 4, []), (60, .getfield 74, [2, 1, 194, 1]), (63, .iload_n 2, []), (64, .dup2, []), (65, .iaload, []), (66, .iload_n 3, []), (67, .isub, []), (68, .iastore, []), (69, .aload 4, []), (71, .getfield 61, [2, 0, 192, 1]), (74, .iload_n 2, []), (75, .iaload, []), (76, .ireturn, [])]
def zc59 : List (Nat × Instr × List Nat) := [(0, .aload 4, []), (2, .iconst 0, []), (3, .aload_n 0, []), (4, .iload_n 1, []), (5, .iload_n 2, []), (6, .iload_n 3, []), (7, .invokevirtual 24, [2, 60, 558, 0, 0]), (10, .i2l, []), (11, .lastore, []), (12, .goto 11, []), (15, .astore 5, []), (17, .iconst 1, []), (18, .ireturn, []), (19, .astore 5, []), (21, .iconst 2, []), (22, .ireturn, []), (23, .iconst 0, []), (24, .ireturn, [])]
def zc60 : List (Nat × Instr × List Nat) := [(0, .aload_n 0, []), (1, .iload_n 1, []), (2, .iload_n 2, []), (3, .iload_n 3, []), (4, .invokevirtual 67, [2, 54, 533, 0, 0]), (7, .aload_n 0, []), (8, .iload_n 1, []), (9, .iload_n 2, []), (10, .iload_n 3, []), (11, .invokevirtual 71, [2, 56, 542, 0, 0]), (14, .aload_n 0, []), (15, .getfield 20, [0, 0, 254, 0]), (18, .iload_n 1, []), (19, .aaload, [103]), (20, .getfield 43, [1, 1, 227, 1]), (23, .astore 4, []), (25, .aload 4, []), (27, .getfield 61, [2, 0, 192, 1]), (30, .iload_n 2, []), (31, .dup2, []), (32, .iaload, []), (33, .iload_n 3, []), (34, .isub, []), (35, .iastore, []), (36, .aload 4, []), (38, .getfield 79, [2, 2, 196, 1]), (41, .iload_n 2, []), (42, .dup2, []), (43, .iaload, []), (44, .iload_n 3, []), (45, .iadd, []), (46, .iastore, []), (47, .aload 4, []), (49, .getfield 61, [2, 0, 192, 1]), (52, .iload_n 2, []), (53, .iaload, []), (54, .ireturn, [])]
def zc61 : List (Nat × Instr × List Nat) := [(0, .aload 5, []), (2, .iconst 0, []), (3, .aload_n 0, []), (4, .iload_n 1, []), (5, .iload_n 2, []), (6, .iload_n 3, []), (7, .iload 4, []), (9, .invokevirtual 27, [2, 62, 565, 0, 0]), (12, .i2l, []), (13, .lastore, []), (14, .goto 11, []), (17, .astore 6, []), (19, .iconst 1, []), (20, .ireturn, []), (21, .astore 6, []), (23, .iconst 2, []), (24, .ireturn, []), (25, .iconst 0, []), (26, .ireturn, [])]
def zc62 : List (Nat × Instr × List Nat) := [(0, .aload_n 0, []), (1, .iload_n 1, []), (2, .iload_n 2, []), (3, .iload_n 3, []), (4, .invokevirtual 67, [2, 54, 533, 0, 0]), (7, .iload 4, []), (9, .iconst 1, []), (10, .if_icmp .lt 10, []), (13, .iload 4, []), (15, .bipush 100, []), (17, .if_icmp .le 13, []), (20, .new 82, [200, 431]), (23, .dup, []), (24, .ldc 84, [2, 569]), (26, .invokespecial 86, [5, 0, 473]), (29, .athrow, []), (30, .aload_n 0, []), (31, .iload_n 1, []), (32, .iload_n 2, []), (33, .iload_n 3, []), (34, .invokevirtual 71, [2, 56, 542, 0, 0]), (37, .aload_n 0, []), (38, .getfield 20, [0, 0, 254, 0]), (41, .iload_n 1, []), (42, .aaload, [103]), (43, .getfield 43, [1, 1, 227, 1]), (46, .astore 5, []), (48, .aload 5, []), (50, .getfield 87, [2, 6, 204, 1]), (53, .invokevirtual 91, [2, 63, 570, 1, 5]), (56, .ifCond .eq 13, []), (59, .new 54, [201, 508]), (62, .dup, []), (63, .ldc 97, [2, 574]), (65, .invokespecial 58, [5, 1, 518]), (68, .athrow, []), (69, .aload 5, []), (71, .getfield 61, [2, 0, 192, 1]), (74, .iload_n 2, []), (75, .dup2, []), (76, .iaload, []), (77, .iload_n 3, []), (78, .isub, []), (79, .iastore, []), (80, .aload 5, []), (82, .getfield 87, [2, 6, 204, 1]), (85, .iload_n 2, []), (86, .iload_n 3, []), (87, .aload 5, []), (89, .getfield 99, [2, 4, 200, 1]), (92, .iload 4, []), (94, .iadd, []), (95, .invokevirtual 103, [2, 64, 575, 1, 5]), (98, .ireturn, [])]
def zc63 : List (Nat × Instr × List Nat) := [(0, .aload_n 0, []), (1, .getfield 15, [5, 1, 121, 0]), (4, .bipush 6, []), (6, .if_icmp .lt 7, []), (9, .iconst 1, []), (10, .goto 4, []), (13, .iconst 0, []), (14, .ireturn, [])]
def zc64 : List (Nat × Instr × List Nat) := [(0, .aload_n 0, []), (1, .getfield 9, [5, 0, 120, 0]), (4, .istore 4, []), (6, .aload_n 0, []), (7, .getfield 18, [5, 2, 123, 0]), (10, .aload_n 0, []), (11, .getfield 15, [5, 1, 121, 0]), (14, .iload 4, []), (16, .iastore, []), (17, .aload_n 0, []), (18, .getfield 22, [5, 3, 124, 0]), (21, .aload_n 0, []), (22, .getfield 15, [5, 1, 121, 0]), (25, .iload_n 1, []), (26, .iastore, []), (27, .aload_n 0, []), (28, .getfield 25, [5, 4, 127, 0]), (31, .aload_n 0, []), (32, .getfield 15, [5, 1, 121, 0]), (35, .iload_n 2, []), (36, .iastore, []), (37, .aload_n 0, []), (38, .getfield 28, [5, 5, 130, 0]), (41, .aload_n 0, []), (42, .getfield 15, [5, 1, 121, 0]), (45, .iload_n 3, []), (46, .iastore, []), (47, .aload_n 0, []), (48, .dup, []), (49, .getfield 15, [5, 1, 121, 0]), (52, .iconst 1, []), (53, .iadd, []), (54, .putfield 15, [5, 1, 121, 0]), (57, .aload_n 0, []), (58, .dup, []), (59, .getfield 9, [5, 0, 120, 0]), (62, .iconst 1, []), (63, .iadd, []), (64, .putfield 9, [5, 0, 120, 0]), (67, .iload 4, []), (69, .ireturn, [])]
def zc65 : List (Nat × Instr × List Nat) := [(0, .aload_n 3, []), (1, .iconst 0, []), (2, .aload_n 0, []), (3, .iload_n 1, []), (4, .iload_n 2, []), (5, .invokevirtual 31, [2, 66, 582, 0, 0]), (8, .i2l, []), (9, .lastore, []), (10, .goto 11, []), (13, .astore 4, []), (15, .iconst 1, []), (16, .ireturn, []), (17, .astore 4, []), (19, .iconst 2, []), (20, .ireturn, []), (21, .iconst 0, []), (22, .ireturn, [])]
def zc66 : List (Nat × Instr × List Nat) := [(0, .aload_n 0, []), (1, .iload_n 1, []), (2, .invokevirtual 124, [2, 55, 537, 0, 0]), (5, .iload_n 2, []), (6, .ifCond .lt 9, []), (9, .iload_n 2, []), (10, .bipush 30, []), (12, .if_icmp .le 13, []), (15, .new 82, [200, 431]), (18, .dup, []), (19, .ldc 84, [2, 569]), (21, .invokespecial 86, [5, 0, 473]), (24, .athrow, []), (25, .aload_n 0, []), (26, .iload_n 1, []), (27, .invokevirtual 40, [2, 51, 504, 0, 0]), (30, .iconst 0, []), (31, .istore_n 3, []), (32, .iconst 0, []), (33, .istore 4, []), (35, .iload 4, []), (37, .iload_n 2, []), (38, .if_icmp .ge 17, []), (41, .iload_n 3, []), (42, .aload_n 0, []), (43, .iload_n 1, []), (44, .invokevirtual 127, [2, 67, 586, 0, 0]), (47, .iadd, []), (48, .istore_n 3, []), (49, .iinc 4 1, []), (52, .goto (-17), []), (55, .iload_n 3, []), (56, .ireturn, [])]
def zc67 : List (Nat × Instr × List Nat) := [(0, .aload_n 0, []), (1, .getfield 20, [0, 0, 254, 0]), (4, .iload_n 1, []), (5, .aaload, [103]), (6, .getfield 43, [1, 1, 227, 1]), (9, .astore_n 2, []), (10, .aload_n 2, []), (11, .dup, []), (12, .getfield 99, [2, 4, 200, 1]), (15, .iconst 1, []), (16, .iadd, []), (17, .putfield 99, [2, 4, 200, 1]), (20, .aload_n 2, []), (21, .invokevirtual 264, [2, 68, 590, 1, 2]), (24, .istore_n 3, []), (25, .aload_n 0, []), (26, .iload_n 1, []), (27, .invokevirtual 267, [2, 69, 595, 0, 0]), (30, .aload_n 0, []), (31, .iload_n 1, []), (32, .invokevirtual 270, [2, 71, 604, 0, 0]), (35, .iload_n 3, []), (36, .ireturn, [])]
def zc68 : List (Nat × Instr × List Nat) := [(0, .aload_n 0, []), (1, .getfield 34, [2, 6, 203, 0]), (4, .getfield 49, [5, 1, 122, 1]), (7, .istore_n 1, []), (8, .iconst 0, []), (9, .istore_n 2, []), (10, .iconst 0, []), (11, .istore_n 3, []), (12, .iload_n 3, []), (13, .iload_n 1, []), (14, .if_icmp .ge 65, []), (17, .aload_n 0, []), (18, .getfield 34, [2, 6, 203, 0]), (21, .getfield 52, [5, 5, 131, 1]), (24, .iload_n 2, []), (25, .iaload, []), (26, .aload_n 0, []), (27, .getfield 24, [2, 4, 199, 0]), (30, .if_icmp .le 9, []), (33, .iinc 2 1, []), (36, .goto 37, []), (39, .aload_n 0, []), (40, .getfield 9, [2, 0, 191, 0]), (43, .aload_n 0, []), (44, .getfield 34, [2, 6, 203, 0]), (47, .getfield 55, [5, 3, 125, 1]), (50, .iload_n 2, []), (51, .iaload, []), (52, .dup2, []), (53, .iaload, []), (54, .aload_n 0, []), (55, .getfield 34, [2, 6, 203, 0]), (58, .getfield 58, [5, 4, 128, 1]), (61, .iload_n 2, []), (62, .iaload, []), (63, .iadd, []), (64, .iastore, []), (65, .aload_n 0, []), (66, .getfield 34, [2, 6, 203, 0]), (69, .iload_n 2, []), (70, .invokevirtual 61, [2, 13, 594, 1, 5]), (73, .iinc 3 1, []), (76, .goto (-64), []), (79, .iload_n 1, []), (80, .aload_n 0, []), (81, .getfield 34, [2, 6, 203, 0]), (84, .getfield 49, [5, 1, 122, 1]), (87, .isub, []), (88, .ireturn, [])]
def zc69 : List (Nat × Instr × List Nat) := [(0, .iconst 0, []), (1, .istore_n 2, []), (2, .iload_n 2, []), (3, .aload_n 0, []), (4, .getfield 20, [0, 0, 254, 0]), (7, .arraylength, []), (8, .if_icmp .ge 73, []), (11, .aload_n 0, []), (12, .getfield 20, [0, 0, 254, 0]), (15, .iload_n 1, []), (16, .aaload, [103]), (17, .getfield 43, [1, 1, 227, 1]), (20, .getfield 177, [2, 7, 206, 1]), (23, .iload_n 2, []), (24, .aaload, [104]), (25, .astore_n 3, []), (26, .iconst 0, []), (27, .istore 4, []), (29, .iload 4, []), (31, .aload_n 3, []), (32, .getfield 213, [4, 1, 159, 1]), (35, .if_icmp .ge 40, []), (38, .aload_n 0, []), (39, .getfield 30, [0, 1, 255, 0]), (42, .iconst 0, []), (43, .iload_n 1, []), (44, .iload_n 2, []), (45, .aload_n 3, []), (46, .getfield 273, [4, 2, 161, 1]), (49, .iload 4, []), (51, .iaload, []), (52, .aload_n 3, []), (53, .getfield 276, [4, 3, 163, 1]), (56, .iload 4, []), (58, .iaload, []), (59, .aload_n 3, []), (60, .getfield 279, [4, 4, 165, 1]), (63, .iload 4, []), (65, .iaload, []), (66, .invokevirtual 145, [2, 70, 599, 1, 3]), (69, .iinc 4 1, []), (72, .goto (-43), []), (75, .iinc 2 1, []), (78, .goto (-76), []), (81, .return_, [])]
def zc70 : List (Nat × Instr × List Nat) := [(0, .aload_n 0, []), (1, .invokevirtual 20, [2, 26, 603, 0, 3]), (4, .ifCond .eq 14, []), (7, .aload_n 0, []), (8, .dup, []), (9, .getfield 13, [3, 1, 244, 0]), (12, .iconst 1, []), (13, .iadd, []), (14, .putfield 13, [3, 1, 244, 0]), (17, .return_, []), (18, .aload_n 0, []), (19, .getfield 7, [3, 0, 242, 0]), (22, .bipush 6, []), (24, .imul, []), (25, .istore 7, []), (27, .aload_n 0, []), (28, .getfield 16, [3, 2, 246, 0]), (31, .iload 7, []), (33, .iload_n 1, []), (34, .iastore, []), (35, .aload_n 0, []), (36, .getfield 16, [3, 2, 246, 0]), (39, .iload 7, []), (41, .iconst 1, []), (42, .iadd, []), (43, .iload_n 2, []), (44, .iastore, []), (45, .aload_n 0, []), (46, .getfield 16, [3, 2, 246, 0]), (49, .iload 7, []), (51, .iconst 2, []), (52, .iadd, []), (53, .iload_n 3, []), (54, .iastore, []), (55, .aload_n 0, []), (56, .getfield 16, [3, 2, 246, 0]), (59, .iload 7, []), (61, .iconst 3, []), (62, .iadd, []), (63, .iload 4, []), (65, .iastore, []), (66, .aload_n 0, []), (67, .getfield 16, [3, 2, 246, 0]), (70, .iload 7, []), (72, .iconst 4, []), (73, .iadd, []), (74, .iload 5, []), (76, .iastore, []), (77, .aload_n 0, []), (78, .getfield 16, [3, 2, 246, 0]), (81, .iload 7, []), (83, .iconst 5, []), (84, .iadd, []), (85, .iload 6, []), (87, .iastore, []), (88, .aload_n 0, []), (89, .dup, []), (90, .getfield 7, [3, 0, 242, 0]), (93, .iconst 1, []), (94, .iadd, []), (95, .putfield 7, [3, 0, 242, 0]), (98, .return_, [])]
def zc71 : List (Nat × Instr × List Nat) := [(0, .aload_n 0, []), (1, .getfield 20, [0, 0, 254, 0]), (4, .iload_n 1, []), (5, .aaload, [103]), (6, .getfield 43, [1, 1, 227, 1]), (9, .astore_n 2, []), (10, .aload_n 0, []), (11, .getfield 20, [0, 0, 254, 0]), (14, .arraylength, []), (15, .istore_n 3, []), (16, .aload_n 2, []), (17, .getfield 99, [2, 4, 200, 1]), (20, .iload_n 3, []), (21, .invokestatic 282, [1, 72, 608, 0, 99]), (24, .istore 4, []), (26, .iload 4, []), (28, .iload_n 1, []), (29, .if_icmp .ne 4, []), (32, .return_, []), (33, .aload_n 2, []), (34, .getfield 99, [2, 4, 200, 1]), (37, .iload_n 3, []), (38, .idiv, []), (39, .iconst 4, []), (40, .invokestatic 282, [1, 72, 608, 0, 99]), (43, .istore 5, []), (45, .aload_n 0, []), (46, .getfield 30, [0, 1, 255, 0]), (49, .iconst 2, []), (50, .iload_n 1, []), (51, .iload 4, []), (53, .iload 5, []), (55, .aload_n 2, []), (56, .getfield 61, [2, 0, 192, 1]), (59, .iload 5, []), (61, .iaload, []), (62, .aload_n 2, []), (63, .getfield 285, [2, 5, 202, 1]), (66, .invokevirtual 145, [2, 70, 599, 1, 3]), (69, .aload_n 2, []), (70, .dup, []), (71, .getfield 285, [2, 5, 202, 1]), (74, .iconst 1, []), (75, .iadd, []), (76, .putfield 285, [2, 5, 202, 1]), (79, .return_, [])]
def zc72 : List (Nat × Instr × List Nat) := [(0, .iload_n 0, []), (1, .iload_n 1, []), (2, .irem, []), (3, .istore_n 2, []), (4, .iload_n 0, []), (5, .iload_n 1, []), (6, .ixor, []), (7, .ifCond .ge 11, []), (10, .iload_n 2, []), (11, .ifCond .eq 7, []), (14, .iload_n 2, []), (15, .iload_n 1, []), (16, .iadd, []), (17, .ireturn, []), (18, .iload_n 2, []), (19, .ireturn, [])]
def zc73 : List (Nat × Instr × List Nat) := [(0, .aload 5, []), (2, .iconst 0, []), (3, .aload_n 0, []), (4, .iload_n 1, []), (5, .iload_n 2, []), (6, .iload_n 3, []), (7, .iload 4, []), (9, .invokevirtual 34, [2, 74, 614, 0, 0]), (12, .i2l, []), (13, .lastore, []), (14, .goto 11, []), (17, .astore 6, []), (19, .iconst 1, []), (20, .ireturn, []), (21, .astore 6, []), (23, .iconst 2, []), (24, .ireturn, []), (25, .iconst 0, []), (26, .ireturn, [])]
def zc74 : List (Nat × Instr × List Nat) := [(0, .aload_n 0, []), (1, .iload_n 1, []), (2, .iload_n 3, []), (3, .iload 4, []), (5, .invokevirtual 67, [2, 54, 533, 0, 0]), (8, .aload_n 0, []), (9, .iload_n 2, []), (10, .invokevirtual 124, [2, 55, 537, 0, 0]), (13, .iload_n 1, []), (14, .iload_n 2, []), (15, .if_icmp .ne 13, []), (18, .new 82, [200, 431]), (21, .dup, []), (22, .ldc 130, [2, 618]), (24, .invokespecial 86, [5, 0, 473]), (27, .athrow, []), (28, .aload_n 0, []), (29, .iload_n 1, []), (30, .iload_n 2, []), (31, .iload_n 3, []), (32, .iload 4, []), (34, .invokevirtual 132, [2, 75, 619, 0, 0]), (37, .ifCond .ne 13, []), (40, .new 54, [201, 508]), (43, .dup, []), (44, .ldc 136, [2, 627]), (46, .invokespecial 58, [5, 1, 518]), (49, .athrow, []), (50, .aload_n 0, []), (51, .iload_n 1, []), (52, .iload_n 2, []), (53, .iload_n 3, []), (54, .iload 4, []), (56, .invokevirtual 138, [2, 77, 628, 0, 0]), (59, .ireturn, [])]
def zc75 : List (Nat × Instr × List Nat) := [(0, .aload_n 0, []), (1, .getfield 20, [0, 0, 254, 0]), (4, .iload_n 1, []), (5, .aaload, [103]), (6, .astore 5, []), (8, .aload 5, []), (10, .getfield 149, [1, 0, 225, 1]), (13, .ifCond .eq 38, []), (16, .aload 5, []), (18, .getfield 43, [1, 1, 227, 1]), (21, .getfield 61, [2, 0, 192, 1]), (24, .iload_n 3, []), (25, .iaload, []), (26, .iload 4, []), (28, .if_icmp .lt 23, []), (31, .aload 5, []), (33, .getfield 43, [1, 1, 227, 1]), (36, .getfield 177, [2, 7, 206, 1]), (39, .iload_n 2, []), (40, .aaload, [104]), (41, .invokevirtual 252, [2, 76, 623, 1, 4]), (44, .ifCond .eq 7, []), (47, .iconst 1, []), (48, .goto 4, []), (51, .iconst 0, []), (52, .ireturn, [])]
def zc76 : List (Nat × Instr × List Nat) := [(0, .aload_n 0, []), (1, .getfield 15, [4, 1, 158, 0]), (4, .ifCond .eq 27, []), (7, .aload_n 0, []), (8, .getfield 15, [4, 1, 158, 0]), (11, .iconst 4, []), (12, .if_icmp .ge 23, []), (15, .aload_n 0, []), (16, .getfield 9, [4, 0, 156, 0]), (19, .aload_n 0, []), (20, .getfield 18, [4, 2, 160, 0]), (23, .iconst 0, []), (24, .iaload, []), (25, .isub, []), (26, .bipush 16, []), (28, .if_icmp .ge 7, []), (31, .iconst 1, []), (32, .goto 4, []), (35, .iconst 0, []), (36, .ireturn, [])]
def zc77 : List (Nat × Instr × List Nat) := [(0, .aload_n 0, []), (1, .getfield 20, [0, 0, 254, 0]), (4, .iload_n 1, []), (5, .aaload, [103]), (6, .getfield 43, [1, 1, 227, 1]), (9, .astore 5, []), (11, .aload 5, []), (13, .getfield 61, [2, 0, 192, 1]), (16, .iload_n 3, []), (17, .dup2, []), (18, .iaload, []), (19, .iload 4, []), (21, .isub, []), (22, .iastore, []), (23, .aload 5, []), (25, .getfield 177, [2, 7, 206, 1]), (28, .iload_n 2, []), (29, .aaload, [104]), (30, .iload_n 3, []), (31, .iload 4, []), (33, .invokevirtual 255, [2, 78, 632, 1, 4]), (36, .istore 6, []), (38, .aload_n 0, []), (39, .getfield 20, [0, 0, 254, 0]), (42, .iload_n 1, []), (43, .aaload, [103]), (44, .invokevirtual 64, [2, 15, 285, 1, 1]), (47, .aload_n 0, []), (48, .getfield 30, [0, 1, 255, 0]), (51, .iconst 0, []), (52, .iload_n 1, []), (53, .iload_n 2, []), (54, .iload 6, []), (56, .iload_n 3, []), (57, .iload 4, []), (59, .invokevirtual 145, [2, 70, 599, 1, 3]), (62, .iload 6, []), (64, .ireturn, [])]
def zc78 : List (Nat × Instr × List Nat) := [(0, .aload_n 0, []), (1, .getfield 9, [4, 0, 156, 0]), (4, .istore_n 3, []), (5, .aload_n 0, []), (6, .getfield 18, [4, 2, 160, 0]), (9, .aload_n 0, []), (10, .getfield 15, [4, 1, 158, 0]), (13, .iload_n 3, []), (14, .iastore, []), (15, .aload_n 0, []), (16, .getfield 22, [4, 3, 162, 0]), (19, .aload_n 0, []), (20, .getfield 15, [4, 1, 158, 0]), (23, .iload_n 1, []), (24, .iastore, []), (25, .aload_n 0, []), (26, .getfield 25, [4, 4, 164, 0]), (29, .aload_n 0, []), (30, .getfield 15, [4, 1, 158, 0]), (33, .iload_n 2, []), (34, .iastore, []), (35, .aload_n 0, []), (36, .dup, []), (37, .getfield 15, [4, 1, 158, 0]), (40, .iconst 1, []), (41, .iadd, []), (42, .putfield 15, [4, 1, 158, 0]), (45, .aload_n 0, []), (46, .dup, []), (47, .getfield 9, [4, 0, 156, 0]), (50, .iconst 1, []), (51, .iadd, []), (52, .putfield 9, [4, 0, 156, 0]), (55, .iload_n 3, []), (56, .ireturn, [])]
def zc79 : List (Nat × Instr × List Nat) := [(0, .aload 4, []), (2, .iconst 0, []), (3, .aload_n 0, []), (4, .iload_n 1, []), (5, .iload_n 2, []), (6, .iload_n 3, []), (7, .invokevirtual 37, [2, 80, 639, 0, 0]), (10, .i2l, []), (11, .lastore, []), (12, .goto 11, []), (15, .astore 5, []), (17, .iconst 1, []), (18, .ireturn, []), (19, .astore 5, []), (21, .iconst 2, []), (22, .ireturn, []), (23, .iconst 0, []), (24, .ireturn, [])]
def zc80 : List (Nat × Instr × List Nat) := [(0, .aload_n 0, []), (1, .iload_n 1, []), (2, .iload_n 2, []), (3, .iload_n 3, []), (4, .invokevirtual 67, [2, 54, 533, 0, 0]), (7, .aload_n 0, []), (8, .iload_n 1, []), (9, .invokevirtual 40, [2, 51, 504, 0, 0]), (12, .aload_n 0, []), (13, .iload_n 1, []), (14, .iload_n 2, []), (15, .invokevirtual 142, [2, 81, 643, 0, 0]), (18, .istore 4, []), (20, .iload 4, []), (22, .iconst (-1), []), (23, .if_icmp .eq 17, []), (26, .aload_n 0, []), (27, .getfield 30, [0, 1, 255, 0]), (30, .iconst 3, []), (31, .iload_n 1, []), (32, .iload 4, []), (34, .iload_n 2, []), (35, .iload_n 3, []), (36, .iconst (-1), []), (37, .invokevirtual 145, [2, 70, 599, 1, 3]), (40, .iload 4, []), (42, .ireturn, [])]
def zc81 : List (Nat × Instr × List Nat) := [(0, .iconst (-1), []), (1, .istore_n 3, []), (2, .iconst 0, []), (3, .istore 4, []), (5, .iconst 0, []), (6, .istore 5, []), (8, .iload 5, []), (10, .aload_n 0, []), (11, .getfield 20, [0, 0, 254, 0]), (14, .arraylength, []), (15, .if_icmp .ge 45, []), (18, .aload_n 0, []), (19, .getfield 20, [0, 0, 254, 0]), (22, .iload_n 1, []), (23, .aaload, [103]), (24, .getfield 43, [1, 1, 227, 1]), (27, .getfield 177, [2, 7, 206, 1]), (30, .iload 5, []), (32, .aaload, [104]), (33, .getfield 207, [4, 7, 170, 1]), (36, .iload_n 2, []), (37, .iaload, []), (38, .istore 6, []), (40, .iload 6, []), (42, .iload 4, []), (44, .if_icmp .le 10, []), (47, .iload 5, []), (49, .istore_n 3, []), (50, .iload 6, []), (52, .istore 4, []), (54, .iinc 5 1, []), (57, .goto (-49), []), (60, .iload_n 3, []), (61, .ireturn, [])]
def zc82 : List (Nat × Instr × List Nat) := [(0, .aload_n 3, []), (1, .iconst 0, []), (2, .aload_n 0, []), (3, .iload_n 1, []), (4, .iload_n 2, []), (5, .invokevirtual 40, [2, 83, 650, 0, 0]), (8, .i2l, []), (9, .lastore, []), (10, .goto 11, []), (13, .astore 4, []), (15, .iconst 1, []), (16, .ireturn, []), (17, .astore 4, []), (19, .iconst 2, []), (20, .ireturn, []), (21, .iconst 0, []), (22, .ireturn, [])]
def zc83 : List (Nat × Instr × List Nat) := [(0, .iload_n 1, []), (1, .invokestatic 34, [1, 49, 428, 0, 0]), (4, .iload_n 2, []), (5, .ifCond .eq 7, []), (8, .iload_n 2, []), (9, .invokestatic 37, [1, 50, 499, 0, 0]), (12, .aload_n 0, []), (13, .iconst 0, []), (14, .invokevirtual 40, [2, 51, 504, 0, 0]), (17, .aload_n 0, []), (18, .getfield 20, [0, 0, 254, 0]), (21, .iconst 0, []), (22, .aaload, [103]), (23, .getfield 43, [1, 1, 227, 1]), (26, .astore_n 3, []), (27, .iload_n 2, []), (28, .aload_n 3, []), (29, .getfield 61, [2, 0, 192, 1]), (32, .iload_n 1, []), (33, .iaload, []), (34, .isub, []), (35, .istore 4, []), (37, .aload_n 3, []), (38, .getfield 61, [2, 0, 192, 1]), (41, .iload_n 1, []), (42, .iload_n 2, []), (43, .iastore, []), (44, .aload_n 3, []), (45, .getfield 47, [2, 3, 198, 1]), (48, .iload_n 1, []), (49, .dup2, []), (50, .iaload, []), (51, .iload 4, []), (53, .iadd, []), (54, .iastore, []), (55, .iload 4, []), (57, .ireturn, [])]
def zc84 : List (Nat × Instr × List Nat) := [(0, .aload_n 2, []), (1, .iconst 0, []), (2, .aload_n 0, []), (3, .iload_n 1, []), (4, .invokevirtual 43, [2, 85, 658, 0, 0]), (7, .i2l, []), (8, .lastore, []), (9, .goto 6, []), (12, .astore_n 3, []), (13, .iconst 1, []), (14, .ireturn, []), (15, .iconst 0, []), (16, .ireturn, [])]
def zc85 : List (Nat × Instr × List Nat) := [(0, .aload_n 0, []), (1, .getfield 30, [0, 1, 255, 0]), (4, .iload_n 1, []), (5, .invokevirtual 159, [2, 23, 322, 1, 3]), (8, .ifCond .ne 13, []), (11, .new 162, [202, 662]), (14, .dup, []), (15, .ldc 164, [2, 671]), (17, .invokespecial 166, [5, 2, 672]), (20, .athrow, []), (21, .aload_n 0, []), (22, .getfield 30, [0, 1, 255, 0]), (25, .iload_n 1, []), (26, .iconst 0, []), (27, .invokevirtual 167, [2, 29, 347, 1, 3]), (30, .istore_n 2, []), (31, .aload_n 0, []), (32, .getfield 30, [0, 1, 255, 0]), (35, .iload_n 1, []), (36, .iconst 1, []), (37, .invokevirtual 167, [2, 29, 347, 1, 3]), (40, .istore_n 3, []), (41, .aload_n 0, []), (42, .getfield 30, [0, 1, 255, 0]), (45, .iload_n 1, []), (46, .iconst 2, []), (47, .invokevirtual 167, [2, 29, 347, 1, 3]), (50, .istore 4, []), (52, .aload_n 0, []), (53, .getfield 30, [0, 1, 255, 0]), (56, .iload_n 1, []), (57, .iconst 3, []), (58, .invokevirtual 167, [2, 29, 347, 1, 3]), (61, .istore 5, []), (63, .aload_n 0, []), (64, .getfield 30, [0, 1, 255, 0]), (67, .iload_n 1, []), (68, .iconst 4, []), (69, .invokevirtual 167, [2, 29, 347, 1, 3]), (72, .istore 6, []), (74, .aload_n 0, []), (75, .getfield 30, [0, 1, 255, 0]), (78, .iload_n 1, []), (79, .iconst 5, []), (80, .invokevirtual 167, [2, 29, 347, 1, 3]), (83, .istore 7, []), (85, .aload_n 0, []), (86, .getfield 30, [0, 1, 255, 0]), (89, .iload_n 1, []), (90, .invokevirtual 170, [2, 24, 326, 1, 3]), (93, .aload_n 0, []), (94, .iload 4, []), (96, .invokevirtual 107, [2, 10, 265, 0, 0]), (99, .ifCond .ne 5, []), (102, .iconst 0, []), (103, .ireturn, []), (104, .iload_n 2, []), (105, .tableswitch 99 0 2 #[27, 45, 70], []), (132, .aload_n 0, []), (133, .iload_n 3, []), (134, .iload 4, []), (136, .iload 5, []), (138, .iload 6, []), (140, .iload 7, []), (142, .invokevirtual 173, [2, 86, 678, 0, 0]), (145, .istore 8, []), (147, .goto 70, []), (150, .aload_n 0, []), (151, .getfield 20, [0, 0, 254, 0]), (154, .iload 4, []), (156, .aaload, [103]), (157, .getfield 43, [1, 1, 227, 1]), (160, .getfield 177, [2, 7, 206, 1]), (163, .iload_n 3, []), (164, .aaload, [104]), (165, .iload 5, []), (167, .invokevirtual 181, [2, 88, 687, 1, 4]), (170, .istore 8, []), (172, .goto 45, []), (175, .aload_n 0, []), (176, .getfield 20, [0, 0, 254, 0]), (179, .iload 4, []), (181, .aaload, [103]), (182, .getfield 43, [1, 1, 227, 1]), (185, .getfield 177, [2, 7, 206, 1]), (188, .iload_n 3, []), (189, .aaload, [104]), (190, .iload 5, []), (192, .iload 6, []), (194, .iload 7, []), (196, .invokevirtual 186, [2, 90, 695, 1, 4]), (199, .istore 8, []), (201, .goto 16, []), (204, .aload_n 0, []), (205, .iload_n 3, []), (206, .iload 4, []), (208, .iload 5, []), (210, .iload 6, []), (212, .invokevirtual 190, [2, 91, 699, 0, 0]), (215, .istore 8, []), (217, .iload 8, []), (219, .ifCond .eq 7, []), (222, .iconst 1, []), (223, .goto 4, []), (226, .iconst 0, []), (227, .ireturn, [])]
def zc86 : List (Nat × Instr × List Nat) := [(0, .aload_n 0, []), (1, .getfield 20, [0, 0, 254, 0]), (4, .iload_n 2, []), (5, .aaload, [103]), (6, .getfield 43, [1, 1, 227, 1]), (9, .astore 6, []), (11, .aload 6, []), (13, .getfield 177, [2, 7, 206, 1]), (16, .iload_n 1, []), (17, .aaload, [104]), (18, .astore 7, []), (20, .aload 7, []), (22, .iload_n 3, []), (23, .invokevirtual 258, [2, 38, 682, 1, 4]), (26, .ifCond .ne 7, []), (29, .iconst 1, []), (30, .goto 4, []), (33, .iconst 0, []), (34, .istore 8, []), (36, .iload 8, []), (38, .ifCond .eq 31, []), (41, .aload 7, []), (43, .iload_n 3, []), (44, .invokevirtual 261, [2, 87, 683, 1, 4]), (47, .aload 6, []), (49, .getfield 61, [2, 0, 192, 1]), (52, .iload 4, []), (54, .dup2, []), (55, .iaload, []), (56, .iload 5, []), (58, .iadd, []), (59, .iastore, []), (60, .aload_n 0, []), (61, .getfield 20, [0, 0, 254, 0]), (64, .iload_n 2, []), (65, .aaload, [103]), (66, .invokevirtual 64, [2, 15, 285, 1, 1]), (69, .aload_n 0, []), (70, .getfield 30, [0, 1, 255, 0]), (73, .iconst 1, []), (74, .iload_n 2, []), (75, .iload_n 1, []), (76, .iload_n 3, []), (77, .iconst (-1), []), (78, .iconst (-1), []), (79, .invokevirtual 145, [2, 70, 599, 1, 3]), (82, .iload 8, []), (84, .ireturn, [])]
def zc87 : List (Nat × Instr × List Nat) := [(0, .aload_n 0, []), (1, .dup, []), (2, .getfield 31, [4, 6, 168, 0]), (5, .iconst 1, []), (6, .iload_n 1, []), (7, .aload_n 0, []), (8, .getfield 28, [4, 5, 166, 0]), (11, .isub, []), (12, .ishl, []), (13, .ior, []), (14, .putfield 31, [4, 6, 168, 0]), (17, .iconst 0, []), (18, .istore_n 2, []), (19, .iload_n 2, []), (20, .bipush 16, []), (22, .if_icmp .ge 38, []), (25, .aload_n 0, []), (26, .getfield 31, [4, 6, 168, 0]), (29, .iconst 1, []), (30, .iand, []), (31, .ifCond .eq 29, []), (34, .aload_n 0, []), (35, .dup, []), (36, .getfield 31, [4, 6, 168, 0]), (39, .iconst 1, []), (40, .iushr, []), (41, .putfield 31, [4, 6, 168, 0]), (44, .aload_n 0, []), (45, .dup, []), (46, .getfield 28, [4, 5, 166, 0]), (49, .iconst 1, []), (50, .iadd, []), (51, .putfield 28, [4, 5, 166, 0]), (54, .iinc 2 1, []), (57, .goto (-38), []), (60, .return_, [])]
def zc88 : List (Nat × Instr × List Nat) := [(0, .iconst 0, []), (1, .istore_n 2, []), (2, .iload_n 2, []), (3, .aload_n 0, []), (4, .getfield 15, [4, 1, 158, 0]), (7, .if_icmp .ge 26, []), (10, .aload_n 0, []), (11, .getfield 18, [4, 2, 160, 0]), (14, .iload_n 2, []), (15, .iaload, []), (16, .iload_n 1, []), (17, .if_icmp .ne 10, []), (20, .aload_n 0, []), (21, .iload_n 2, []), (22, .invokevirtual 46, [2, 89, 691, 0, 4]), (25, .iconst 1, []), (26, .ireturn, []), (27, .iinc 2 1, []), (30, .goto (-28), []), (33, .iconst 0, []), (34, .ireturn, [])]
def zc89 : List (Nat × Instr × List Nat) := [(0, .aload_n 0, []), (1, .dup, []), (2, .getfield 15, [4, 1, 158, 0]), (5, .iconst 1, []), (6, .isub, []), (7, .putfield 15, [4, 1, 158, 0]), (10, .iload_n 1, []), (11, .istore_n 2, []), (12, .iload_n 2, []), (13, .aload_n 0, []), (14, .getfield 15, [4, 1, 158, 0]), (17, .if_icmp .ge 51, []), (20, .aload_n 0, []), (21, .getfield 18, [4, 2, 160, 0]), (24, .iload_n 2, []), (25, .aload_n 0, []), (26, .getfield 18, [4, 2, 160, 0]), (29, .iload_n 2, []), (30, .iconst 1, []), (31, .iadd, []), (32, .iaload, []), (33, .iastore, []), (34, .aload_n 0, []), (35, .getfield 22, [4, 3, 162, 0]), (38, .iload_n 2, []), (39, .aload_n 0, []), (40, .getfield 22, [4, 3, 162, 0]), (43, .iload_n 2, []), (44, .iconst 1, []), (45, .iadd, []), (46, .iaload, []), (47, .iastore, []), (48, .aload_n 0, []), (49, .getfield 25, [4, 4, 164, 0]), (52, .iload_n 2, []), (53, .aload_n 0, []), (54, .getfield 25, [4, 4, 164, 0]), (57, .iload_n 2, []), (58, .iconst 1, []), (59, .iadd, []), (60, .iaload, []), (61, .iastore, []), (62, .iinc 2 1, []), (65, .goto (-53), []), (68, .return_, [])]
def zc90 : List (Nat × Instr × List Nat) := [(0, .iload_n 3, []), (1, .aload_n 0, []), (2, .getfield 37, [4, 8, 171, 0]), (5, .iload_n 1, []), (6, .iaload, []), (7, .if_icmp .gt 5, []), (10, .iconst 0, []), (11, .ireturn, []), (12, .aload_n 0, []), (13, .getfield 34, [4, 7, 169, 0]), (16, .iload_n 1, []), (17, .iload_n 2, []), (18, .iastore, []), (19, .aload_n 0, []), (20, .getfield 37, [4, 8, 171, 0]), (23, .iload_n 1, []), (24, .iload_n 3, []), (25, .iastore, []), (26, .iconst 1, []), (27, .ireturn, [])]
def zc91 : List (Nat × Instr × List Nat) := [(0, .aload_n 0, []), (1, .iload_n 2, []), (2, .iload_n 1, []), (3, .iload_n 3, []), (4, .iload 4, []), (6, .invokevirtual 132, [2, 75, 619, 0, 0]), (9, .ifCond .ne 5, []), (12, .iconst 0, []), (13, .ireturn, []), (14, .aload_n 0, []), (15, .iload_n 2, []), (16, .iload_n 1, []), (17, .iload_n 3, []), (18, .iload 4, []), (20, .invokevirtual 138, [2, 77, 628, 0, 0]), (23, .pop, []), (24, .iconst 1, []), (25, .ireturn, [])]
def zc92 : List (Nat × Instr × List Nat) := [(0, .aload 4, []), (2, .iconst 0, []), (3, .aload_n 0, []), (4, .iload_n 1, []), (5, .iload_n 2, []), (6, .iload_n 3, []), (7, .invokevirtual 49, [2, 93, 706, 0, 0]), (10, .i2l, []), (11, .lastore, []), (12, .goto 7, []), (15, .astore 5, []), (17, .iconst 1, []), (18, .ireturn, []), (19, .iconst 0, []), (20, .ireturn, [])]
def zc93 : List (Nat × Instr × List Nat) := [(0, .aload_n 0, []), (1, .iload_n 1, []), (2, .invokevirtual 156, [2, 11, 269, 0, 0]), (5, .ifCond .eq 10, []), (8, .iload_n 2, []), (9, .invokestatic 197, [1, 31, 355, 0, 0]), (12, .ifCond .ne 13, []), (15, .new 162, [202, 662]), (18, .dup, []), (19, .ldc 200, [2, 710]), (21, .invokespecial 166, [5, 2, 672]), (24, .athrow, []), (25, .aload_n 0, []), (26, .getfield 20, [0, 0, 254, 0]), (29, .iload_n 1, []), (30, .aaload, [103]), (31, .getfield 43, [1, 1, 227, 1]), (34, .astore 4, []), (36, .iload_n 3, []), (37, .tableswitch 65 0 3 #[31, 39, 47, 55], []), (68, .aload 4, []), (70, .getfield 61, [2, 0, 192, 1]), (73, .iload_n 2, []), (74, .iaload, []), (75, .ireturn, []), (76, .aload 4, []), (78, .getfield 74, [2, 1, 194, 1]), (81, .iload_n 2, []), (82, .iaload, []), (83, .ireturn, []), (84, .aload 4, []), (86, .getfield 79, [2, 2, 196, 1]), (89, .iload_n 2, []), (90, .iaload, []), (91, .ireturn, []), (92, .aload 4, []), (94, .getfield 87, [2, 6, 204, 1]), (97, .iload_n 2, []), (98, .invokevirtual 202, [2, 41, 711, 1, 5]), (101, .ireturn, []), (102, .new 162, [202, 662]), (105, .dup, []), (106, .ldc 205, [2, 712]), (108, .invokespecial 166, [5, 2, 672]), (111, .athrow, [])]
def zc94 : List (Nat × Instr × List Nat) := [(0, .aload_n 0, []), (1, .invokespecial 1, [4, 718]), (4, .aload_n 0, []), (5, .sipush 820, []), (8, .newarray .int, []), (10, .putfield 7, [6, 2, 731, 0]), (13, .aload_n 0, []), (14, .sipush 820, []), (17, .newarray .int, []), (19, .putfield 13, [6, 3, 732, 0]), (22, .aload_n 0, []), (23, .iconst 5, []), (24, .newarray .boolean, []), (26, .putfield 16, [6, 4, 733, 0]), (29, .aload_n 0, []), (30, .sipush 150, []), (33, .newarray .int, []), (35, .putfield 20, [6, 7, 736, 0]), (38, .aload_n 0, []), (39, .iload_n 1, []), (40, .iconst 2, []), (41, .if_icmp .ge 7, []), (44, .iconst 2, []), (45, .goto 13, []), (48, .iload_n 1, []), (49, .iconst 5, []), (50, .if_icmp .le 7, []), (53, .iconst 5, []), (54, .goto 4, []), (57, .iload_n 1, []), (58, .putfield 23, [6, 1, 730, 0]), (61, .iconst 0, []), (62, .istore_n 2, []), (63, .iload_n 2, []), (64, .iconst 5, []), (65, .if_icmp .ge 76, []), (68, .iconst 0, []), (69, .istore_n 3, []), (70, .iload_n 3, []), (71, .iconst 5, []), (72, .if_icmp .ge 58, []), (75, .iconst 0, []), (76, .istore 4, []), (78, .iload 4, []), (80, .iconst 4, []), (81, .if_icmp .ge 43, []), (84, .aload_n 0, []), (85, .getfield 7, [6, 2, 731, 0]), (88, .iload_n 2, []), (89, .iload_n 3, []), (90, .invokestatic 27, [1, 95, 719, 0, 6]), (93, .bipush 16, []), (95, .iadd, []), (96, .iload 4, []), (98, .iadd, []), (99, .iconst (-1), []), (100, .iastore, []), (101, .aload_n 0, []), (102, .getfield 7, [6, 2, 731, 0]), (105, .iload_n 2, []), (106, .iload_n 3, []), (107, .invokestatic 27, [1, 95, 719, 0, 6]), (110, .bipush 20, []), (112, .iadd, []), (113, .iload 4, []), (115, .iadd, []), (116, .iconst (-1), []), (117, .iastore, []), (118, .iinc 4 1, []), (121, .goto (-43), []), (124, .iinc 3 1, []), (127, .goto (-57), []), (130, .aload_n 0, []), (131, .iload_n 2, []), (132, .invokevirtual 31, [2, 96, 722, 0, 6]), (135, .iinc 2 1, []), (138, .goto (-75), []), (141, .return_, [])]
def zc95 : List (Nat × Instr × List Nat) := [(0, .sipush 164, []), (3, .iload_n 0, []), (4, .imul, []), (5, .bipush 44, []), (7, .iadd, []), (8, .bipush 24, []), (10, .iload_n 1, []), (11, .imul, []), (12, .iadd, []), (13, .ireturn, [])]
def zc96 : List (Nat × Instr × List Nat) := [(0, .iconst 0, []), (1, .istore_n 2, []), (2, .iload_n 2, []), (3, .sipush 164, []), (6, .if_icmp .ge 31, []), (9, .aload_n 0, []), (10, .getfield 13, [6, 3, 732, 0]), (13, .iload_n 1, []), (14, .invokestatic 38, [1, 97, 726, 0, 6]), (17, .iload_n 2, []), (18, .iadd, []), (19, .aload_n 0, []), (20, .getfield 7, [6, 2, 731, 0]), (23, .iload_n 1, []), (24, .invokestatic 38, [1, 97, 726, 0, 6]), (27, .iload_n 2, []), (28, .iadd, []), (29, .iaload, []), (30, .iastore, []), (31, .iinc 2 1, []), (34, .goto (-32), []), (37, .return_, [])]
def zc97 : List (Nat × Instr × List Nat) := [(0, .sipush 164, []), (3, .iload_n 0, []), (4, .imul, []), (5, .ireturn, [])]
def zc98 : List (Nat × Instr × List Nat) := [(0, .aload_n 0, []), (1, .getfield 35, [6, 0, 729, 0]), (4, .ireturn, [])]
def zc99 : List (Nat × Instr × List Nat) := [(0, .aload_n 0, []), (1, .iload_n 1, []), (2, .ifCond .lt 11, []), (5, .iload_n 1, []), (6, .aload_n 0, []), (7, .getfield 53, [6, 5, 734, 0]), (10, .if_icmp .lt 7, []), (13, .iconst 1, []), (14, .goto 4, []), (17, .iconst 0, []), (18, .putfield 35, [6, 0, 729, 0]), (21, .aload_n 0, []), (22, .getfield 35, [6, 0, 729, 0]), (25, .ifCond .le 5, []), (28, .iconst 0, []), (29, .ireturn, []), (30, .bipush 6, []), (32, .iload_n 1, []), (33, .imul, []), (34, .istore_n 2, []), (35, .aload_n 0, []), (36, .getfield 20, [6, 7, 736, 0]), (39, .iload_n 2, []), (40, .iaload, []), (41, .istore_n 3, []), (42, .aload_n 0, []), (43, .getfield 20, [6, 7, 736, 0]), (46, .iload_n 2, []), (47, .iconst 1, []), (48, .iadd, []), (49, .iaload, []), (50, .istore 4, []), (52, .aload_n 0, []), (53, .getfield 20, [6, 7, 736, 0]), (56, .iload_n 2, []), (57, .iconst 2, []), (58, .iadd, []), (59, .iaload, []), (60, .istore 5, []), (62, .aload_n 0, []), (63, .getfield 20, [6, 7, 736, 0]), (66, .iload_n 2, []), (67, .iconst 3, []), (68, .iadd, []), (69, .iaload, []), (70, .istore 6, []), (72, .aload_n 0, []), (73, .getfield 20, [6, 7, 736, 0]), (76, .iload_n 2, []), (77, .iconst 4, []), (78, .iadd, []), (79, .iaload, []), (80, .istore 7, []), (82, .aload_n 0, []), (83, .getfield 20, [6, 7, 736, 0]), (86, .iload_n 2, []), (87, .iconst 5, []), (88, .iadd, []), (89, .iaload, []), (90, .istore 8, []), (92, .aload_n 0, []), (93, .iload_n 1, []), (94, .invokevirtual 79, [2, 100, 763, 0, 6]), (97, .aload_n 0, []), (98, .getfield 16, [6, 4, 733, 0]), (101, .iload 5, []), (103, .baload, []), (104, .ifCond .eq 5, []), (107, .iconst 0, []), (108, .ireturn, []), (109, .iload_n 3, []), (110, .ifCond .ne 20, []), (113, .aload_n 0, []), (114, .iload 4, []), (116, .iload 5, []), (118, .iload 6, []), (120, .iload 7, []), (122, .iload 8, []), (124, .invokevirtual 82, [2, 101, 767, 0, 6]), (127, .goto 55, []), (130, .iload_n 3, []), (131, .iconst 1, []), (132, .if_icmp .ne 16, []), (135, .aload_n 0, []), (136, .iload 5, []), (138, .iload 4, []), (140, .iload 6, []), (142, .invokevirtual 86, [2, 105, 783, 0, 6]), (145, .goto 37, []), (148, .iload_n 3, []), (149, .iconst 2, []), (150, .if_icmp .ne 20, []), (153, .aload_n 0, []), (154, .iload 4, []), (156, .iload 5, []), (158, .iload 6, []), (160, .iload 7, []), (162, .iload 8, []), (164, .invokevirtual 89, [2, 106, 787, 0, 6]), (167, .goto 15, []), (170, .aload_n 0, []), (171, .iload 4, []), (173, .iload 5, []), (175, .iload 6, []), (177, .iload 7, []), (179, .invokevirtual 92, [2, 107, 791, 0, 6]), (182, .istore 9, []), (184, .iload 9, []), (186, .ifCond .eq 7, []), (189, .iconst 1, []), (190, .goto 4, []), (193, .iconst 0, []), (194, .ireturn, [])]
def zc100 : List (Nat × Instr × List Nat) := [(0, .aload_n 0, []), (1, .dup, []), (2, .getfield 53, [6, 5, 734, 0]), (5, .iconst 1, []), (6, .isub, []), (7, .putfield 53, [6, 5, 734, 0]), (10, .bipush 6, []), (12, .iload_n 1, []), (13, .imul, []), (14, .istore_n 2, []), (15, .iload_n 2, []), (16, .bipush 6, []), (18, .aload_n 0, []), (19, .getfield 53, [6, 5, 734, 0]), (22, .imul, []), (23, .if_icmp .ge 24, []), (26, .aload_n 0, []), (27, .getfield 20, [6, 7, 736, 0]), (30, .iload_n 2, []), (31, .aload_n 0, []), (32, .getfield 20, [6, 7, 736, 0]), (35, .iload_n 2, []), (36, .bipush 6, []), (38, .iadd, []), (39, .iaload, []), (40, .iastore, []), (41, .iinc 2 1, []), (44, .goto (-29), []), (47, .return_, [])]
def zc101 : List (Nat × Instr × List Nat) := [(0, .aload_n 0, []), (1, .iload_n 2, []), (2, .iload_n 1, []), (3, .iload_n 3, []), (4, .invokevirtual 63, [2, 102, 771, 0, 6]), (7, .ifCond .ne 7, []), (10, .iconst 1, []), (11, .goto 4, []), (14, .iconst 0, []), (15, .istore 6, []), (17, .iload 6, []), (19, .ifCond .eq 32, []), (22, .aload_n 0, []), (23, .iload_n 2, []), (24, .iload_n 1, []), (25, .iload_n 3, []), (26, .invokevirtual 67, [2, 103, 775, 0, 6]), (29, .aload_n 0, []), (30, .getfield 7, [6, 2, 731, 0]), (33, .iload_n 2, []), (34, .invokestatic 38, [1, 97, 726, 0, 6]), (37, .iload 4, []), (39, .iadd, []), (40, .dup2, []), (41, .iaload, []), (42, .iload 5, []), (44, .iadd, []), (45, .iastore, []), (46, .aload_n 0, []), (47, .iload_n 2, []), (48, .invokevirtual 31, [2, 96, 722, 0, 6]), (51, .aload_n 0, []), (52, .iconst 1, []), (53, .iload_n 2, []), (54, .iload_n 1, []), (55, .iload_n 3, []), (56, .iconst (-1), []), (57, .iconst (-1), []), (58, .invokevirtual 59, [2, 104, 779, 0, 6]), (61, .iload 6, []), (63, .ireturn, [])]
def zc102 : List (Nat × Instr × List Nat) := [(0, .iload_n 1, []), (1, .iload_n 2, []), (2, .invokestatic 27, [1, 95, 719, 0, 6]), (5, .istore 4, []), (7, .iload_n 3, []), (8, .aload_n 0, []), (9, .getfield 7, [6, 2, 731, 0]), (12, .iload 4, []), (14, .bipush 14, []), (16, .iadd, []), (17, .iaload, []), (18, .isub, []), (19, .istore 5, []), (21, .iload 5, []), (23, .ifCond .lt 29, []), (26, .iload 5, []), (28, .bipush 16, []), (30, .if_icmp .ge 26, []), (33, .aload_n 0, []), (34, .getfield 7, [6, 2, 731, 0]), (37, .iload 4, []), (39, .bipush 15, []), (41, .iadd, []), (42, .iaload, []), (43, .iload 5, []), (45, .ishr, []), (46, .iconst 1, []), (47, .iand, []), (48, .iconst 1, []), (49, .if_icmp .ne 7, []), (52, .iconst 1, []), (53, .goto 4, []), (56, .iconst 0, []), (57, .ireturn, [])]
def zc103 : List (Nat × Instr × List Nat) := [(0, .iload_n 1, []), (1, .iload_n 2, []), (2, .invokestatic 27, [1, 95, 719, 0, 6]), (5, .istore 4, []), (7, .iload_n 3, []), (8, .aload_n 0, []), (9, .getfield 7, [6, 2, 731, 0]), (12, .iload 4, []), (14, .bipush 14, []), (16, .iadd, []), (17, .iaload, []), (18, .isub, []), (19, .istore 5, []), (21, .aload_n 0, []), (22, .getfield 7, [6, 2, 731, 0]), (25, .iload 4, []), (27, .bipush 15, []), (29, .iadd, []), (30, .aload_n 0, []), (31, .getfield 7, [6, 2, 731, 0]), (34, .iload 4, []), (36, .bipush 15, []), (38, .iadd, []), (39, .iaload, []), (40, .iconst 1, []), (41, .iload 5, []), (43, .ishl, []), (44, .ior, []), (45, .iastore, []), (46, .aload_n 0, []), (47, .getfield 7, [6, 2, 731, 0]), (50, .iload 4, []), (52, .bipush 15, []), (54, .iadd, []), (55, .iaload, []), (56, .iconst 1, []), (57, .iand, []), (58, .iconst 1, []), (59, .if_icmp .ne 42, []), (62, .aload_n 0, []), (63, .getfield 7, [6, 2, 731, 0]), (66, .iload 4, []), (68, .bipush 15, []), (70, .iadd, []), (71, .aload_n 0, []), (72, .getfield 7, [6, 2, 731, 0]), (75, .iload 4, []), (77, .bipush 15, []), (79, .iadd, []), (80, .iaload, []), (81, .iconst 1, []), (82, .ishr, []), (83, .iastore, []), (84, .aload_n 0, []), (85, .getfield 7, [6, 2, 731, 0]), (88, .iload 4, []), (90, .bipush 14, []), (92, .iadd, []), (93, .dup2, []), (94, .iaload, []), (95, .iconst 1, []), (96, .iadd, []), (97, .iastore, []), (98, .goto (-52), []), (101, .return_, [])]
def zc104 : List (Nat × Instr × List Nat) := [(0, .aload_n 0, []), (1, .getfield 53, [6, 5, 734, 0]), (4, .bipush 24, []), (6, .if_icmp .ne 14, []), (9, .aload_n 0, []), (10, .dup, []), (11, .getfield 56, [6, 6, 735, 0]), (14, .iconst 1, []), (15, .iadd, []), (16, .putfield 56, [6, 6, 735, 0]), (19, .return_, []), (20, .bipush 6, []), (22, .aload_n 0, []), (23, .getfield 53, [6, 5, 734, 0]), (26, .imul, []), (27, .istore 7, []), (29, .aload_n 0, []), (30, .getfield 20, [6, 7, 736, 0]), (33, .iload 7, []), (35, .iload_n 1, []), (36, .iastore, []), (37, .aload_n 0, []), (38, .getfield 20, [6, 7, 736, 0]), (41, .iload 7, []), (43, .iconst 1, []), (44, .iadd, []), (45, .iload_n 2, []), (46, .iastore, []), (47, .aload_n 0, []), (48, .getfield 20, [6, 7, 736, 0]), (51, .iload 7, []), (53, .iconst 2, []), (54, .iadd, []), (55, .iload_n 3, []), (56, .iastore, []), (57, .aload_n 0, []), (58, .getfield 20, [6, 7, 736, 0]), (61, .iload 7, []), (63, .iconst 3, []), (64, .iadd, []), (65, .iload 4, []), (67, .iastore, []), (68, .aload_n 0, []), (69, .getfield 20, [6, 7, 736, 0]), (72, .iload 7, []), (74, .iconst 4, []), (75, .iadd, []), (76, .iload 5, []), (78, .iastore, []), (79, .aload_n 0, []), (80, .getfield 20, [6, 7, 736, 0]), (83, .iload 7, []), (85, .iconst 5, []), (86, .iadd, []), (87, .iload 6, []), (89, .iastore, []), (90, .aload_n 0, []), (91, .dup, []), (92, .getfield 53, [6, 5, 734, 0]), (95, .iconst 1, []), (96, .iadd, []), (97, .putfield 53, [6, 5, 734, 0]), (100, .return_, [])]
def zc105 : List (Nat × Instr × List Nat) := [(0, .iload_n 1, []), (1, .iload_n 2, []), (2, .invokestatic 27, [1, 95, 719, 0, 6]), (5, .istore 4, []), (7, .iconst 0, []), (8, .istore 5, []), (10, .iload 5, []), (12, .aload_n 0, []), (13, .getfield 7, [6, 2, 731, 0]), (16, .iload 4, []), (18, .iconst 1, []), (19, .iadd, []), (20, .iaload, []), (21, .if_icmp .ge 27, []), (24, .aload_n 0, []), (25, .getfield 7, [6, 2, 731, 0]), (28, .iload 4, []), (30, .iconst 2, []), (31, .iadd, []), (32, .iconst 3, []), (33, .iload 5, []), (35, .imul, []), (36, .iadd, []), (37, .iaload, []), (38, .iload_n 3, []), (39, .if_icmp .eq 9, []), (42, .iinc 5 1, []), (45, .goto (-35), []), (48, .iload 5, []), (50, .aload_n 0, []), (51, .getfield 7, [6, 2, 731, 0]), (54, .iload 4, []), (56, .iconst 1, []), (57, .iadd, []), (58, .iaload, []), (59, .if_icmp .ne 5, []), (62, .iconst 0, []), (63, .ireturn, []), (64, .aload_n 0, []), (65, .getfield 7, [6, 2, 731, 0]), (68, .iload 4, []), (70, .iconst 1, []), (71, .iadd, []), (72, .dup2, []), (73, .iaload, []), (74, .iconst 1, []), (75, .isub, []), (76, .iastore, []), (77, .iload 4, []), (79, .iconst 2, []), (80, .iadd, []), (81, .iconst 3, []), (82, .iload 5, []), (84, .imul, []), (85, .iadd, []), (86, .istore 6, []), (88, .iload 6, []), (90, .iload 4, []), (92, .iconst 2, []), (93, .iadd, []), (94, .iconst 3, []), (95, .aload_n 0, []), (96, .getfield 7, [6, 2, 731, 0]), (99, .iload 4, []), (101, .iconst 1, []), (102, .iadd, []), (103, .iaload, []), (104, .imul, []), (105, .iadd, []), (106, .if_icmp .ge 25, []), (109, .aload_n 0, []), (110, .getfield 7, [6, 2, 731, 0]), (113, .iload 6, []), (115, .aload_n 0, []), (116, .getfield 7, [6, 2, 731, 0]), (119, .iload 6, []), (121, .iconst 3, []), (122, .iadd, []), (123, .iaload, []), (124, .iastore, []), (125, .iinc 6 1, []), (128, .goto (-40), []), (131, .iconst 1, []), (132, .ireturn, [])]
def zc106 : List (Nat × Instr × List Nat) := [(0, .iload_n 2, []), (1, .iload_n 1, []), (2, .invokestatic 27, [1, 95, 719, 0, 6]), (5, .istore 6, []), (7, .iload 5, []), (9, .aload_n 0, []), (10, .getfield 7, [6, 2, 731, 0]), (13, .iload 6, []), (15, .bipush 20, []), (17, .iadd, []), (18, .iload_n 3, []), (19, .iadd, []), (20, .iaload, []), (21, .if_icmp .gt 5, []), (24, .iconst 0, []), (25, .ireturn, []), (26, .aload_n 0, []), (27, .getfield 7, [6, 2, 731, 0]), (30, .iload 6, []), (32, .bipush 20, []), (34, .iadd, []), (35, .iload_n 3, []), (36, .iadd, []), (37, .iload 5, []), (39, .iastore, []), (40, .aload_n 0, []), (41, .getfield 7, [6, 2, 731, 0]), (44, .iload 6, []), (46, .bipush 16, []), (48, .iadd, []), (49, .iload_n 3, []), (50, .iadd, []), (51, .iload 4, []), (53, .iastore, []), (54, .iconst 1, []), (55, .ireturn, [])]
def zc107 : List (Nat × Instr × List Nat) := [(0, .aload_n 0, []), (1, .iload_n 2, []), (2, .iload_n 1, []), (3, .iload_n 3, []), (4, .iload 4, []), (6, .invokevirtual 71, [2, 108, 795, 0, 6]), (9, .ifCond .ne 5, []), (12, .iconst 0, []), (13, .ireturn, []), (14, .aload_n 0, []), (15, .iload_n 2, []), (16, .iload_n 1, []), (17, .iload_n 3, []), (18, .iload 4, []), (20, .invokevirtual 75, [2, 109, 799, 0, 6]), (23, .istore 5, []), (25, .iconst 1, []), (26, .ireturn, [])]
def zc108 : List (Nat × Instr × List Nat) := [(0, .iload_n 1, []), (1, .iload_n 2, []), (2, .invokestatic 27, [1, 95, 719, 0, 6]), (5, .istore 5, []), (7, .aload_n 0, []), (8, .getfield 7, [6, 2, 731, 0]), (11, .iload 5, []), (13, .iconst 1, []), (14, .iadd, []), (15, .iaload, []), (16, .ifCond .eq 25, []), (19, .aload_n 0, []), (20, .getfield 7, [6, 2, 731, 0]), (23, .iload 5, []), (25, .iaload, []), (26, .aload_n 0, []), (27, .getfield 7, [6, 2, 731, 0]), (30, .iload 5, []), (32, .iconst 2, []), (33, .iadd, []), (34, .iaload, []), (35, .bipush 16, []), (37, .iadd, []), (38, .if_icmp .ge 7, []), (41, .iconst 1, []), (42, .goto 4, []), (45, .iconst 0, []), (46, .istore 6, []), (48, .aload_n 0, []), (49, .getfield 16, [6, 4, 733, 0]), (52, .iload_n 1, []), (53, .baload, []), (54, .ifCond .ne 41, []), (57, .aload_n 0, []), (58, .getfield 7, [6, 2, 731, 0]), (61, .iload_n 1, []), (62, .invokestatic 38, [1, 97, 726, 0, 6]), (65, .iload_n 3, []), (66, .iadd, []), (67, .iaload, []), (68, .iload 4, []), (70, .if_icmp .lt 25, []), (73, .aload_n 0, []), (74, .getfield 7, [6, 2, 731, 0]), (77, .iload 5, []), (79, .iconst 1, []), (80, .iadd, []), (81, .iaload, []), (82, .iconst 4, []), (83, .if_icmp .ge 12, []), (86, .iload 6, []), (88, .ifCond .eq 7, []), (91, .iconst 1, []), (92, .goto 4, []), (95, .iconst 0, []), (96, .ireturn, [])]
def zc109 : List (Nat × Instr × List Nat) := [(0, .iload_n 1, []), (1, .iload_n 2, []), (2, .invokestatic 27, [1, 95, 719, 0, 6]), (5, .istore 5, []), (7, .aload_n 0, []), (8, .getfield 7, [6, 2, 731, 0]), (11, .iload 5, []), (13, .iaload, []), (14, .istore 6, []), (16, .aload_n 0, []), (17, .getfield 7, [6, 2, 731, 0]), (20, .iload_n 1, []), (21, .invokestatic 38, [1, 97, 726, 0, 6]), (24, .iload_n 3, []), (25, .iadd, []), (26, .dup2, []), (27, .iaload, []), (28, .iload 4, []), (30, .isub, []), (31, .iastore, []), (32, .iload 5, []), (34, .iconst 2, []), (35, .iadd, []), (36, .iconst 3, []), (37, .aload_n 0, []), (38, .getfield 7, [6, 2, 731, 0]), (41, .iload 5, []), (43, .iconst 1, []), (44, .iadd, []), (45, .iaload, []), (46, .imul, []), (47, .iadd, []), (48, .istore 7, []), (50, .aload_n 0, []), (51, .getfield 7, [6, 2, 731, 0]), (54, .iload 7, []), (56, .iload 6, []), (58, .iastore, []), (59, .aload_n 0, []), (60, .getfield 7, [6, 2, 731, 0]), (63, .iload 7, []), (65, .iconst 1, []), (66, .iadd, []), (67, .iload_n 3, []), (68, .iastore, []), (69, .aload_n 0, []), (70, .getfield 7, [6, 2, 731, 0]), (73, .iload 7, []), (75, .iconst 2, []), (76, .iadd, []), (77, .iload 4, []), (79, .iastore, []), (80, .aload_n 0, []), (81, .getfield 7, [6, 2, 731, 0]), (84, .iload 5, []), (86, .iconst 1, []), (87, .iadd, []), (88, .dup2, []), (89, .iaload, []), (90, .iconst 1, []), (91, .iadd, []), (92, .iastore, []), (93, .aload_n 0, []), (94, .getfield 7, [6, 2, 731, 0]), (97, .iload 5, []), (99, .dup2, []), (100, .iaload, []), (101, .iconst 1, []), (102, .iadd, []), (103, .iastore, []), (104, .aload_n 0, []), (105, .iload_n 1, []), (106, .invokevirtual 31, [2, 96, 722, 0, 6]), (109, .aload_n 0, []), (110, .iconst 0, []), (111, .iload_n 1, []), (112, .iload_n 2, []), (113, .iload 6, []), (115, .iload_n 3, []), (116, .iload 4, []), (118, .invokevirtual 59, [2, 104, 779, 0, 6]), (121, .iload 6, []), (123, .ireturn, [])]
def zc110 : List (Nat × Instr × List Nat) := [(0, .aload_n 0, []), (1, .iconst 0, []), (2, .putfield 35, [6, 0, 729, 0]), (5, .iload_n 1, []), (6, .ifCond .lt 11, []), (9, .iload_n 1, []), (10, .aload_n 0, []), (11, .getfield 53, [6, 5, 734, 0]), (14, .if_icmp .lt 5, []), (17, .iconst 0, []), (18, .ireturn, []), (19, .aload_n 0, []), (20, .iload_n 1, []), (21, .invokevirtual 79, [2, 100, 763, 0, 6]), (24, .iconst 1, []), (25, .ireturn, [])]
def zc111 : List (Nat × Instr × List Nat) := [(0, .aload_n 0, []), (1, .iconst 0, []), (2, .putfield 35, [6, 0, 729, 0]), (5, .iload_n 1, []), (6, .ifCond .lt 20, []), (9, .iload_n 1, []), (10, .aload_n 0, []), (11, .getfield 53, [6, 5, 734, 0]), (14, .if_icmp .ge 12, []), (17, .aload_n 0, []), (18, .getfield 53, [6, 5, 734, 0]), (21, .bipush 24, []), (23, .if_icmp .ne 5, []), (26, .iconst 0, []), (27, .ireturn, []), (28, .bipush 6, []), (30, .iload_n 1, []), (31, .imul, []), (32, .istore_n 2, []), (33, .aload_n 0, []), (34, .aload_n 0, []), (35, .getfield 20, [6, 7, 736, 0]), (38, .iload_n 2, []), (39, .iaload, []), (40, .aload_n 0, []), (41, .getfield 20, [6, 7, 736, 0]), (44, .iload_n 2, []), (45, .iconst 1, []), (46, .iadd, []), (47, .iaload, []), (48, .aload_n 0, []), (49, .getfield 20, [6, 7, 736, 0]), (52, .iload_n 2, []), (53, .iconst 2, []), (54, .iadd, []), (55, .iaload, []), (56, .aload_n 0, []), (57, .getfield 20, [6, 7, 736, 0]), (60, .iload_n 2, []), (61, .iconst 3, []), (62, .iadd, []), (63, .iaload, []), (64, .aload_n 0, []), (65, .getfield 20, [6, 7, 736, 0]), (68, .iload_n 2, []), (69, .iconst 4, []), (70, .iadd, []), (71, .iaload, []), (72, .aload_n 0, []), (73, .getfield 20, [6, 7, 736, 0]), (76, .iload_n 2, []), (77, .iconst 5, []), (78, .iadd, []), (79, .iaload, []), (80, .invokevirtual 59, [2, 104, 779, 0, 6]), (83, .iconst 1, []), (84, .ireturn, [])]
def zc112 : List (Nat × Instr × List Nat) := [(0, .aload_n 0, []), (1, .iconst 0, []), (2, .putfield 35, [6, 0, 729, 0]), (5, .iload_n 1, []), (6, .ifCond .lt 20, []), (9, .iload_n 1, []), (10, .aload_n 0, []), (11, .getfield 53, [6, 5, 734, 0]), (14, .if_icmp .ge 12, []), (17, .iload_n 2, []), (18, .ifCond .lt 8, []), (21, .iload_n 2, []), (22, .iconst 5, []), (23, .if_icmp .le 7, []), (26, .iconst (-1), []), (27, .goto 14, []), (30, .aload_n 0, []), (31, .getfield 20, [6, 7, 736, 0]), (34, .bipush 6, []), (36, .iload_n 1, []), (37, .imul, []), (38, .iload_n 2, []), (39, .iadd, []), (40, .iaload, []), (41, .ireturn, [])]
def zc113 : List (Nat × Instr × List Nat) := [(0, .aload_n 0, []), (1, .iload_n 1, []), (2, .invokestatic 47, [1, 114, 819, 0, 6]), (5, .ifCond .eq 10, []), (8, .iload_n 2, []), (9, .invokestatic 50, [1, 115, 822, 0, 6]), (12, .ifCond .ne 7, []), (15, .iconst 1, []), (16, .goto 4, []), (19, .iconst 0, []), (20, .putfield 35, [6, 0, 729, 0]), (23, .aload_n 0, []), (24, .getfield 35, [6, 0, 729, 0]), (27, .ifCond .le 5, []), (30, .iconst 0, []), (31, .ireturn, []), (32, .aload_n 0, []), (33, .aload_n 0, []), (34, .getfield 16, [6, 4, 733, 0]), (37, .iconst 0, []), (38, .baload, []), (39, .ifCond .ne 19, []), (42, .aload_n 0, []), (43, .getfield 7, [6, 2, 731, 0]), (46, .bipush 12, []), (48, .iload_n 1, []), (49, .iadd, []), (50, .iaload, []), (51, .iload_n 2, []), (52, .iadd, []), (53, .ldc 95, [1, 100000000, 826]), (55, .if_icmp .le 7, []), (58, .iconst 2, []), (59, .goto 4, []), (62, .iconst 0, []), (63, .putfield 35, [6, 0, 729, 0]), (66, .aload_n 0, []), (67, .getfield 35, [6, 0, 729, 0]), (70, .ifCond .le 5, []), (73, .iconst 0, []), (74, .ireturn, []), (75, .aload_n 0, []), (76, .getfield 7, [6, 2, 731, 0]), (79, .iload_n 1, []), (80, .dup2, []), (81, .iaload, []), (82, .iload_n 2, []), (83, .iadd, []), (84, .iastore, []), (85, .aload_n 0, []), (86, .getfield 7, [6, 2, 731, 0]), (89, .bipush 12, []), (91, .iload_n 1, []), (92, .iadd, []), (93, .dup2, []), (94, .iaload, []), (95, .iload_n 2, []), (96, .iadd, []), (97, .iastore, []), (98, .aload_n 0, []), (99, .iconst 0, []), (100, .invokevirtual 31, [2, 96, 722, 0, 6]), (103, .aload_n 0, []), (104, .getfield 7, [6, 2, 731, 0]), (107, .iload_n 1, []), (108, .iaload, []), (109, .ireturn, [])]
def zc114 : List (Nat × Instr × List Nat) := [(0, .iload_n 0, []), (1, .ifCond .lt 12, []), (4, .iload_n 0, []), (5, .iconst 4, []), (6, .if_icmp .ge 7, []), (9, .iconst 1, []), (10, .goto 4, []), (13, .iconst 0, []), (14, .ireturn, [])]
def zc115 : List (Nat × Instr × List Nat) := [(0, .iload_n 0, []), (1, .iconst 1, []), (2, .if_icmp .lt 13, []), (5, .iload_n 0, []), (6, .ldc 42, [1, 1000000, 825]), (8, .if_icmp .gt 7, []), (11, .iconst 1, []), (12, .goto 4, []), (15, .iconst 0, []), (16, .ireturn, [])]
def zc116 : List (Nat × Instr × List Nat) := [(0, .aload_n 0, []), (1, .iload_n 1, []), (2, .iload_n 2, []), (3, .iload_n 3, []), (4, .invokevirtual 99, [2, 117, 831, 0, 6]), (7, .ifCond .eq 14, []), (10, .aload_n 0, []), (11, .iload_n 1, []), (12, .iload_n 2, []), (13, .iload_n 3, []), (14, .iconst 4, []), (15, .invokevirtual 102, [2, 120, 843, 0, 6]), (18, .goto 4, []), (21, .iconst 0, []), (22, .ireturn, [])]
def zc117 : List (Nat × Instr × List Nat) := [(0, .aload_n 0, []), (1, .aload_n 0, []), (2, .iload_n 1, []), (3, .iload_n 2, []), (4, .iload_n 3, []), (5, .invokevirtual 96, [2, 118, 835, 0, 6]), (8, .ifCond .eq 7, []), (11, .iconst 0, []), (12, .goto 4, []), (15, .iconst 1, []), (16, .putfield 35, [6, 0, 729, 0]), (19, .aload_n 0, []), (20, .getfield 35, [6, 0, 729, 0]), (23, .ifCond .ne 36, []), (26, .aload_n 0, []), (27, .aload_n 0, []), (28, .getfield 16, [6, 4, 733, 0]), (31, .iload_n 1, []), (32, .baload, []), (33, .ifCond .ne 18, []), (36, .aload_n 0, []), (37, .getfield 7, [6, 2, 731, 0]), (40, .iload_n 1, []), (41, .invokestatic 38, [1, 97, 726, 0, 6]), (44, .iload_n 2, []), (45, .iadd, []), (46, .iaload, []), (47, .iload_n 3, []), (48, .if_icmp .ge 7, []), (51, .iconst 2, []), (52, .goto 4, []), (55, .iconst 0, []), (56, .putfield 35, [6, 0, 729, 0]), (59, .aload_n 0, []), (60, .getfield 35, [6, 0, 729, 0]), (63, .ifCond .ne 7, []), (66, .iconst 1, []), (67, .goto 4, []), (70, .iconst 0, []), (71, .ireturn, [])]
def zc118 : List (Nat × Instr × List Nat) := [(0, .aload_n 0, []), (1, .iload_n 1, []), (2, .invokevirtual 43, [2, 119, 839, 0, 6]), (5, .ifCond .eq 21, []), (8, .iload_n 2, []), (9, .invokestatic 47, [1, 114, 819, 0, 6]), (12, .ifCond .eq 14, []), (15, .iload_n 3, []), (16, .invokestatic 50, [1, 115, 822, 0, 6]), (19, .ifCond .eq 7, []), (22, .iconst 1, []), (23, .goto 4, []), (26, .iconst 0, []), (27, .ireturn, [])]
def zc119 : List (Nat × Instr × List Nat) := [(0, .iload_n 1, []), (1, .ifCond .lt 15, []), (4, .iload_n 1, []), (5, .aload_n 0, []), (6, .getfield 23, [6, 1, 730, 0]), (9, .if_icmp .ge 7, []), (12, .iconst 1, []), (13, .goto 4, []), (16, .iconst 0, []), (17, .ireturn, [])]
def zc120 : List (Nat × Instr × List Nat) := [(0, .aload_n 0, []), (1, .getfield 7, [6, 2, 731, 0]), (4, .iload_n 1, []), (5, .invokestatic 38, [1, 97, 726, 0, 6]), (8, .iload_n 2, []), (9, .iadd, []), (10, .dup2, []), (11, .iaload, []), (12, .iload_n 3, []), (13, .isub, []), (14, .iastore, []), (15, .aload_n 0, []), (16, .getfield 7, [6, 2, 731, 0]), (19, .iload_n 1, []), (20, .invokestatic 38, [1, 97, 726, 0, 6]), (23, .iload 4, []), (25, .iadd, []), (26, .iload_n 2, []), (27, .iadd, []), (28, .dup2, []), (29, .iaload, []), (30, .iload_n 3, []), (31, .iadd, []), (32, .iastore, []), (33, .aload_n 0, []), (34, .getfield 7, [6, 2, 731, 0]), (37, .iload_n 1, []), (38, .invokestatic 38, [1, 97, 726, 0, 6]), (41, .iload_n 2, []), (42, .iadd, []), (43, .iaload, []), (44, .ireturn, [])]
def zc121 : List (Nat × Instr × List Nat) := [(0, .aload_n 0, []), (1, .iload_n 1, []), (2, .iload_n 2, []), (3, .iload_n 3, []), (4, .invokevirtual 99, [2, 117, 831, 0, 6]), (7, .ifCond .eq 15, []), (10, .aload_n 0, []), (11, .iload_n 1, []), (12, .iload_n 2, []), (13, .iload_n 3, []), (14, .bipush 8, []), (16, .invokevirtual 102, [2, 120, 843, 0, 6]), (19, .goto 4, []), (22, .iconst 0, []), (23, .ireturn, [])]
def zc122 : List (Nat × Instr × List Nat) := [(0, .aload_n 0, []), (1, .aload_n 0, []), (2, .iload_n 1, []), (3, .iload_n 2, []), (4, .iload_n 3, []), (5, .invokevirtual 96, [2, 118, 835, 0, 6]), (8, .ifCond .eq 7, []), (11, .iconst 0, []), (12, .goto 4, []), (15, .iconst 1, []), (16, .putfield 35, [6, 0, 729, 0]), (19, .aload_n 0, []), (20, .getfield 35, [6, 0, 729, 0]), (23, .ifCond .le 5, []), (26, .iconst 0, []), (27, .ireturn, []), (28, .aload_n 0, []), (29, .aload_n 0, []), (30, .getfield 16, [6, 4, 733, 0]), (33, .iload_n 1, []), (34, .baload, []), (35, .ifCond .ne 21, []), (38, .aload_n 0, []), (39, .getfield 7, [6, 2, 731, 0]), (42, .iload_n 1, []), (43, .invokestatic 38, [1, 97, 726, 0, 6]), (46, .iload_n 2, []), (47, .iadd, []), (48, .iaload, []), (49, .iload_n 3, []), (50, .iadd, []), (51, .ldc 95, [1, 100000000, 826]), (53, .if_icmp .le 7, []), (56, .iconst 2, []), (57, .goto 4, []), (60, .iconst 0, []), (61, .putfield 35, [6, 0, 729, 0]), (64, .aload_n 0, []), (65, .getfield 35, [6, 0, 729, 0]), (68, .ifCond .le 7, []), (71, .iconst 0, []), (72, .goto 12, []), (75, .aload_n 0, []), (76, .iload_n 1, []), (77, .iload_n 2, []), (78, .iload_n 3, []), (79, .ineg, []), (80, .iconst 4, []), (81, .invokevirtual 102, [2, 120, 843, 0, 6]), (84, .ireturn, [])]
def zc123 : List (Nat × Instr × List Nat) := [(0, .aload_n 0, []), (1, .aload_n 0, []), (2, .iload_n 1, []), (3, .iload_n 2, []), (4, .iload_n 3, []), (5, .invokevirtual 96, [2, 118, 835, 0, 6]), (8, .ifCond .eq 20, []), (11, .iload 4, []), (13, .iconst 1, []), (14, .if_icmp .lt 14, []), (17, .iload 4, []), (19, .bipush 100, []), (21, .if_icmp .gt 7, []), (24, .iconst 0, []), (25, .goto 4, []), (28, .iconst 1, []), (29, .putfield 35, [6, 0, 729, 0]), (32, .aload_n 0, []), (33, .getfield 35, [6, 0, 729, 0]), (36, .ifCond .le 5, []), (39, .iconst 0, []), (40, .ireturn, []), (41, .iload_n 1, []), (42, .invokestatic 38, [1, 97, 726, 0, 6]), (45, .istore 5, []), (47, .aload_n 0, []), (48, .aload_n 0, []), (49, .getfield 16, [6, 4, 733, 0]), (52, .iload_n 1, []), (53, .baload, []), (54, .ifCond .ne 31, []), (57, .aload_n 0, []), (58, .getfield 7, [6, 2, 731, 0]), (61, .iload 5, []), (63, .iload_n 2, []), (64, .iadd, []), (65, .iaload, []), (66, .iload_n 3, []), (67, .if_icmp .lt 18, []), (70, .aload_n 0, []), (71, .getfield 7, [6, 2, 731, 0]), (74, .iload 5, []), (76, .bipush 19, []), (78, .iadd, []), (79, .iaload, []), (80, .bipush 6, []), (82, .if_icmp .ne 7, []), (85, .iconst 2, []), (86, .goto 4, []), (89, .iconst 0, []), (90, .putfield 35, [6, 0, 729, 0]), (93, .aload_n 0, []), (94, .getfield 35, [6, 0, 729, 0]), (97, .ifCond .le 5, []), (100, .iconst 0, []), (101, .ireturn, []), (102, .iload 5, []), (104, .bipush 20, []), (106, .iadd, []), (107, .iconst 4, []), (108, .aload_n 0, []), (109, .getfield 7, [6, 2, 731, 0]), (112, .iload 5, []), (114, .bipush 19, []), (116, .iadd, []), (117, .iaload, []), (118, .imul, []), (119, .iadd, []), (120, .istore 6, []), (122, .aload_n 0, []), (123, .getfield 7, [6, 2, 731, 0]), (126, .iload 6, []), (128, .aload_n 0, []), (129, .getfield 7, [6, 2, 731, 0]), (132, .iload 5, []), (134, .bipush 17, []), (136, .iadd, []), (137, .iaload, []), (138, .iastore, []), (139, .aload_n 0, []), (140, .getfield 7, [6, 2, 731, 0]), (143, .iload 6, []), (145, .iconst 1, []), (146, .iadd, []), (147, .iload_n 2, []), (148, .iastore, []), (149, .aload_n 0, []), (150, .getfield 7, [6, 2, 731, 0]), (153, .iload 6, []), (155, .iconst 2, []), (156, .iadd, []), (157, .iload_n 3, []), (158, .iastore, []), (159, .aload_n 0, []), (160, .getfield 7, [6, 2, 731, 0]), (163, .iload 6, []), (165, .iconst 3, []), (166, .iadd, []), (167, .aload_n 0, []), (168, .getfield 7, [6, 2, 731, 0]), (171, .iload 5, []), (173, .bipush 16, []), (175, .iadd, []), (176, .iaload, []), (177, .iload 4, []), (179, .iadd, []), (180, .iastore, []), (181, .aload_n 0, []), (182, .getfield 7, [6, 2, 731, 0]), (185, .iload 5, []), (187, .iload_n 2, []), (188, .iadd, []), (189, .dup2, []), (190, .iaload, []), (191, .iload_n 3, []), (192, .isub, []), (193, .iastore, []), (194, .aload_n 0, []), (195, .getfield 7, [6, 2, 731, 0]), (198, .iload 5, []), (200, .bipush 19, []), (202, .iadd, []), (203, .dup2, []), (204, .iaload, []), (205, .iconst 1, []), (206, .iadd, []), (207, .iastore, []), (208, .aload_n 0, []), (209, .getfield 7, [6, 2, 731, 0]), (212, .iload 5, []), (214, .bipush 17, []), (216, .iadd, []), (217, .dup2, []), (218, .iaload, []), (219, .iconst 1, []), (220, .iadd, []), (221, .iastore, []), (222, .aload_n 0, []), (223, .getfield 7, [6, 2, 731, 0]), (226, .iload 6, []), (228, .iaload, []), (229, .ireturn, [])]
def zc124 : List (Nat × Instr × List Nat) := [(0, .aload_n 0, []), (1, .iconst 0, []), (2, .putfield 35, [6, 0, 729, 0]), (5, .aload_n 0, []), (6, .iload_n 1, []), (7, .invokevirtual 43, [2, 119, 839, 0, 6]), (10, .ifCond .ne 5, []), (13, .iconst 0, []), (14, .ireturn, []), (15, .iload_n 1, []), (16, .invokestatic 38, [1, 97, 726, 0, 6]), (19, .istore_n 3, []), (20, .iconst 0, []), (21, .istore 4, []), (23, .iload 4, []), (25, .aload_n 0, []), (26, .getfield 7, [6, 2, 731, 0]), (29, .iload_n 3, []), (30, .bipush 19, []), (32, .iadd, []), (33, .iaload, []), (34, .if_icmp .ge 27, []), (37, .aload_n 0, []), (38, .getfield 7, [6, 2, 731, 0]), (41, .iload_n 3, []), (42, .bipush 20, []), (44, .iadd, []), (45, .iconst 4, []), (46, .iload 4, []), (48, .imul, []), (49, .iadd, []), (50, .iaload, []), (51, .iload_n 2, []), (52, .if_icmp .eq 9, []), (55, .iinc 4 1, []), (58, .goto (-35), []), (61, .aload_n 0, []), (62, .getfield 16, [6, 4, 733, 0]), (65, .iload_n 1, []), (66, .baload, []), (67, .ifCond .ne 17, []), (70, .iload 4, []), (72, .aload_n 0, []), (73, .getfield 7, [6, 2, 731, 0]), (76, .iload_n 3, []), (77, .bipush 19, []), (79, .iadd, []), (80, .iaload, []), (81, .if_icmp .ne 5, []), (84, .iconst 0, []), (85, .ireturn, []), (86, .aload_n 0, []), (87, .getfield 7, [6, 2, 731, 0]), (90, .iload_n 3, []), (91, .bipush 20, []), (93, .iadd, []), (94, .iconst 4, []), (95, .iload 4, []), (97, .imul, []), (98, .iadd, []), (99, .iconst 1, []), (100, .iadd, []), (101, .iaload, []), (102, .istore 5, []), (104, .aload_n 0, []), (105, .getfield 7, [6, 2, 731, 0]), (108, .iload_n 3, []), (109, .iconst 4, []), (110, .iadd, []), (111, .iload 5, []), (113, .iadd, []), (114, .dup2, []), (115, .iaload, []), (116, .aload_n 0, []), (117, .getfield 7, [6, 2, 731, 0]), (120, .iload_n 3, []), (121, .bipush 20, []), (123, .iadd, []), (124, .iconst 4, []), (125, .iload 4, []), (127, .imul, []), (128, .iadd, []), (129, .iconst 2, []), (130, .iadd, []), (131, .iaload, []), (132, .iadd, []), (133, .iastore, []), (134, .aload_n 0, []), (135, .iload_n 1, []), (136, .iload 4, []), (138, .invokevirtual 105, [2, 125, 863, 0, 6]), (141, .iconst 1, []), (142, .ireturn, [])]
def zc125 : List (Nat × Instr × List Nat) := [(0, .iload_n 1, []), (1, .invokestatic 38, [1, 97, 726, 0, 6]), (4, .istore_n 3, []), (5, .aload_n 0, []), (6, .getfield 7, [6, 2, 731, 0]), (9, .iload_n 3, []), (10, .bipush 19, []), (12, .iadd, []), (13, .dup2, []), (14, .iaload, []), (15, .iconst 1, []), (16, .isub, []), (17, .iastore, []), (18, .iload_n 3, []), (19, .bipush 20, []), (21, .iadd, []), (22, .iconst 4, []), (23, .iload_n 2, []), (24, .imul, []), (25, .iadd, []), (26, .istore 4, []), (28, .iload 4, []), (30, .iload_n 3, []), (31, .bipush 20, []), (33, .iadd, []), (34, .iconst 4, []), (35, .aload_n 0, []), (36, .getfield 7, [6, 2, 731, 0]), (39, .iload_n 3, []), (40, .bipush 19, []), (42, .iadd, []), (43, .iaload, []), (44, .imul, []), (45, .iadd, []), (46, .if_icmp .ge 25, []), (49, .aload_n 0, []), (50, .getfield 7, [6, 2, 731, 0]), (53, .iload 4, []), (55, .aload_n 0, []), (56, .getfield 7, [6, 2, 731, 0]), (59, .iload 4, []), (61, .iconst 4, []), (62, .iadd, []), (63, .iaload, []), (64, .iastore, []), (65, .iinc 4 1, []), (68, .goto (-40), []), (71, .return_, [])]
def zc126 : List (Nat × Instr × List Nat) := [(0, .aload_n 0, []), (1, .aload_n 0, []), (2, .iload_n 1, []), (3, .invokevirtual 43, [2, 119, 839, 0, 6]), (6, .ifCond .eq 13, []), (9, .iload_n 2, []), (10, .ifCond .lt 9, []), (13, .iload_n 2, []), (14, .bipush 30, []), (16, .if_icmp .le 7, []), (19, .iconst 1, []), (20, .goto 4, []), (23, .iconst 0, []), (24, .putfield 35, [6, 0, 729, 0]), (27, .aload_n 0, []), (28, .getfield 35, [6, 0, 729, 0]), (31, .ifCond .le 5, []), (34, .iconst 0, []), (35, .ireturn, []), (36, .aload_n 0, []), (37, .aload_n 0, []), (38, .getfield 16, [6, 4, 733, 0]), (41, .iload_n 1, []), (42, .baload, []), (43, .ifCond .eq 7, []), (46, .iconst 2, []), (47, .goto 4, []), (50, .iconst 0, []), (51, .putfield 35, [6, 0, 729, 0]), (54, .iconst 0, []), (55, .istore_n 3, []), (56, .iconst 0, []), (57, .istore 4, []), (59, .iload 4, []), (61, .iload_n 2, []), (62, .if_icmp .ge 24, []), (65, .aload_n 0, []), (66, .getfield 35, [6, 0, 729, 0]), (69, .ifCond .ne 17, []), (72, .iload_n 3, []), (73, .aload_n 0, []), (74, .iload_n 1, []), (75, .invokevirtual 112, [2, 127, 871, 0, 6]), (78, .iadd, []), (79, .istore_n 3, []), (80, .iinc 4 1, []), (83, .goto (-24), []), (86, .iload_n 3, []), (87, .ireturn, [])]
def zc127 : List (Nat × Instr × List Nat) := [(0, .iload_n 1, []), (1, .invokestatic 38, [1, 97, 726, 0, 6]), (4, .istore_n 2, []), (5, .aload_n 0, []), (6, .getfield 7, [6, 2, 731, 0]), (9, .iload_n 2, []), (10, .bipush 16, []), (12, .iadd, []), (13, .dup2, []), (14, .iaload, []), (15, .iconst 1, []), (16, .iadd, []), (17, .iastore, []), (18, .aload_n 0, []), (19, .iload_n 1, []), (20, .invokevirtual 109, [2, 128, 875, 0, 6]), (23, .istore_n 3, []), (24, .iconst 0, []), (25, .istore 4, []), (27, .iload 4, []), (29, .aload_n 0, []), (30, .getfield 23, [6, 1, 730, 0]), (33, .if_icmp .ge 84, []), (36, .iload_n 1, []), (37, .iload 4, []), (39, .invokestatic 27, [1, 95, 719, 0, 6]), (42, .istore 5, []), (44, .iconst 0, []), (45, .istore 6, []), (47, .iload 6, []), (49, .aload_n 0, []), (50, .getfield 7, [6, 2, 731, 0]), (53, .iload 5, []), (55, .iconst 1, []), (56, .iadd, []), (57, .iaload, []), (58, .if_icmp .ge 53, []), (61, .iload 5, []), (63, .iconst 2, []), (64, .iadd, []), (65, .iconst 3, []), (66, .iload 6, []), (68, .imul, []), (69, .iadd, []), (70, .istore 7, []), (72, .aload_n 0, []), (73, .iconst 0, []), (74, .iload_n 1, []), (75, .iload 4, []), (77, .aload_n 0, []), (78, .getfield 7, [6, 2, 731, 0]), (81, .iload 7, []), (83, .iaload, []), (84, .aload_n 0, []), (85, .getfield 7, [6, 2, 731, 0]), (88, .iload 7, []), (90, .iconst 1, []), (91, .iadd, []), (92, .iaload, []), (93, .aload_n 0, []), (94, .getfield 7, [6, 2, 731, 0]), (97, .iload 7, []), (99, .iconst 2, []), (100, .iadd, []), (101, .iaload, []), (102, .invokevirtual 59, [2, 104, 779, 0, 6]), (105, .iinc 6 1, []), (108, .goto (-61), []), (111, .iinc 4 1, []), (114, .goto (-87), []), (117, .aload_n 0, []), (118, .getfield 7, [6, 2, 731, 0]), (121, .iload_n 2, []), (122, .bipush 16, []), (124, .iadd, []), (125, .iaload, []), (126, .aload_n 0, []), (127, .getfield 23, [6, 1, 730, 0]), (130, .irem, []), (131, .istore 4, []), (133, .aload_n 0, []), (134, .getfield 7, [6, 2, 731, 0]), (137, .iload_n 2, []), (138, .bipush 16, []), (140, .iadd, []), (141, .iaload, []), (142, .aload_n 0, []), (143, .getfield 23, [6, 1, 730, 0]), (146, .idiv, []), (147, .iconst 4, []), (148, .irem, []), (149, .istore 5, []), (151, .iload 4, []), (153, .iload_n 1, []), (154, .if_icmp .eq 44, []), (157, .aload_n 0, []), (158, .iconst 2, []), (159, .iload_n 1, []), (160, .iload 4, []), (162, .iload 5, []), (164, .aload_n 0, []), (165, .getfield 7, [6, 2, 731, 0]), (168, .iload_n 2, []), (169, .iload 5, []), (171, .iadd, []), (172, .iaload, []), (173, .aload_n 0, []), (174, .getfield 7, [6, 2, 731, 0]), (177, .iload_n 2, []), (178, .bipush 18, []), (180, .iadd, []), (181, .iaload, []), (182, .invokevirtual 59, [2, 104, 779, 0, 6]), (185, .aload_n 0, []), (186, .getfield 7, [6, 2, 731, 0]), (189, .iload_n 2, []), (190, .bipush 18, []), (192, .iadd, []), (193, .dup2, []), (194, .iaload, []), (195, .iconst 1, []), (196, .iadd, []), (197, .iastore, []), (198, .iload_n 3, []), (199, .ireturn, [])]
def zc128 : List (Nat × Instr × List Nat) := [(0, .iload_n 1, []), (1, .invokestatic 38, [1, 97, 726, 0, 6]), (4, .istore_n 2, []), (5, .iconst 0, []), (6, .istore_n 3, []), (7, .iconst 0, []), (8, .istore 4, []), (10, .iload 4, []), (12, .aload_n 0, []), (13, .getfield 7, [6, 2, 731, 0]), (16, .iload_n 2, []), (17, .bipush 19, []), (19, .iadd, []), (20, .iaload, []), (21, .if_icmp .ge 86, []), (24, .iload_n 2, []), (25, .bipush 20, []), (27, .iadd, []), (28, .iconst 4, []), (29, .iload 4, []), (31, .imul, []), (32, .iadd, []), (33, .istore 5, []), (35, .aload_n 0, []), (36, .getfield 7, [6, 2, 731, 0]), (39, .iload 5, []), (41, .iconst 3, []), (42, .iadd, []), (43, .iaload, []), (44, .aload_n 0, []), (45, .getfield 7, [6, 2, 731, 0]), (48, .iload_n 2, []), (49, .bipush 16, []), (51, .iadd, []), (52, .iaload, []), (53, .if_icmp .gt 48, []), (56, .aload_n 0, []), (57, .getfield 7, [6, 2, 731, 0]), (60, .iload 5, []), (62, .iconst 1, []), (63, .iadd, []), (64, .iaload, []), (65, .istore 6, []), (67, .aload_n 0, []), (68, .getfield 7, [6, 2, 731, 0]), (71, .iload_n 2, []), (72, .iload 6, []), (74, .iadd, []), (75, .dup2, []), (76, .iaload, []), (77, .aload_n 0, []), (78, .getfield 7, [6, 2, 731, 0]), (81, .iload 5, []), (83, .iconst 2, []), (84, .iadd, []), (85, .iaload, []), (86, .iadd, []), (87, .iastore, []), (88, .aload_n 0, []), (89, .iload_n 1, []), (90, .iload 4, []), (92, .invokevirtual 105, [2, 125, 863, 0, 6]), (95, .iinc 3 1, []), (98, .goto 6, []), (101, .iinc 4 1, []), (104, .goto (-94), []), (107, .iload_n 3, []), (108, .ireturn, [])]
def zc129 : List (Nat × Instr × List Nat) := [(0, .aload_n 0, []), (1, .aload_n 0, []), (2, .iload_n 1, []), (3, .iload_n 3, []), (4, .iload 4, []), (6, .invokevirtual 96, [2, 118, 835, 0, 6]), (9, .ifCond .eq 20, []), (12, .aload_n 0, []), (13, .iload_n 2, []), (14, .invokevirtual 43, [2, 119, 839, 0, 6]), (17, .ifCond .eq 12, []), (20, .iload_n 2, []), (21, .iload_n 1, []), (22, .if_icmp .eq 7, []), (25, .iconst 0, []), (26, .goto 4, []), (29, .iconst 1, []), (30, .putfield 35, [6, 0, 729, 0]), (33, .aload_n 0, []), (34, .getfield 35, [6, 0, 729, 0]), (37, .ifCond .le 5, []), (40, .iconst 0, []), (41, .ireturn, []), (42, .aload_n 0, []), (43, .aload_n 0, []), (44, .iload_n 1, []), (45, .iload_n 2, []), (46, .iload_n 3, []), (47, .iload 4, []), (49, .invokevirtual 71, [2, 108, 795, 0, 6]), (52, .ifCond .eq 7, []), (55, .iconst 0, []), (56, .goto 4, []), (59, .iconst 2, []), (60, .putfield 35, [6, 0, 729, 0]), (63, .aload_n 0, []), (64, .getfield 35, [6, 0, 729, 0]), (67, .ifCond .le 7, []), (70, .iconst 0, []), (71, .goto 12, []), (74, .aload_n 0, []), (75, .iload_n 1, []), (76, .iload_n 2, []), (77, .iload_n 3, []), (78, .iload 4, []), (80, .invokevirtual 75, [2, 109, 799, 0, 6]), (83, .ireturn, [])]
def zc130 : List (Nat × Instr × List Nat) := [(0, .aload_n 0, []), (1, .aload_n 0, []), (2, .iload_n 1, []), (3, .iload_n 2, []), (4, .iload_n 3, []), (5, .invokevirtual 96, [2, 118, 835, 0, 6]), (8, .ifCond .eq 7, []), (11, .iconst 0, []), (12, .goto 4, []), (15, .iconst 1, []), (16, .putfield 35, [6, 0, 729, 0]), (19, .aload_n 0, []), (20, .getfield 35, [6, 0, 729, 0]), (23, .ifCond .le 5, []), (26, .iconst 0, []), (27, .ireturn, []), (28, .aload_n 0, []), (29, .aload_n 0, []), (30, .getfield 16, [6, 4, 733, 0]), (33, .iload_n 1, []), (34, .baload, []), (35, .ifCond .eq 7, []), (38, .iconst 2, []), (39, .goto 4, []), (42, .iconst 0, []), (43, .putfield 35, [6, 0, 729, 0]), (46, .aload_n 0, []), (47, .getfield 35, [6, 0, 729, 0]), (50, .ifCond .le 5, []), (53, .iconst 0, []), (54, .ireturn, []), (55, .iconst (-1), []), (56, .istore 4, []), (58, .iconst 0, []), (59, .istore 5, []), (61, .iconst 0, []), (62, .istore 6, []), (64, .iload 6, []), (66, .aload_n 0, []), (67, .getfield 23, [6, 1, 730, 0]), (70, .if_icmp .ge 69, []), (73, .iload 6, []), (75, .iload_n 1, []), (76, .if_icmp .ne 7, []), (79, .iconst (-1), []), (80, .goto 19, []), (83, .aload_n 0, []), (84, .getfield 7, [6, 2, 731, 0]), (87, .iload_n 1, []), (88, .iload 6, []), (90, .invokestatic 27, [1, 95, 719, 0, 6]), (93, .bipush 16, []), (95, .iadd, []), (96, .iload_n 2, []), (97, .iadd, []), (98, .iaload, []), (99, .istore 7, []), (101, .iload 7, []), (103, .iload 5, []), (105, .if_icmp .le 8, []), (108, .iload 6, []), (110, .goto 5, []), (113, .iload 4, []), (115, .istore 4, []), (117, .iload 7, []), (119, .iload 5, []), (121, .if_icmp .le 8, []), (124, .iload 7, []), (126, .goto 5, []), (129, .iload 5, []), (131, .istore 5, []), (133, .iinc 6 1, []), (136, .goto (-72), []), (139, .iload 4, []), (141, .ifCond .lt 14, []), (144, .aload_n 0, []), (145, .iconst 3, []), (146, .iload_n 1, []), (147, .iload 4, []), (149, .iload_n 2, []), (150, .iload_n 3, []), (151, .iconst (-1), []), (152, .invokevirtual 59, [2, 104, 779, 0, 6]), (155, .iload 4, []), (157, .ireturn, [])]
def zc131 : List (Nat × Instr × List Nat) := [(0, .aload_n 0, []), (1, .iload_n 1, []), (2, .invokestatic 47, [1, 114, 819, 0, 6]), (5, .ifCond .eq 13, []), (8, .iload_n 2, []), (9, .ifCond .lt 9, []), (12, .iload_n 2, []), (13, .ldc 42, [1, 1000000, 825]), (15, .if_icmp .le 7, []), (18, .iconst 1, []), (19, .goto 4, []), (22, .iconst 0, []), (23, .putfield 35, [6, 0, 729, 0]), (26, .aload_n 0, []), (27, .getfield 35, [6, 0, 729, 0]), (30, .ifCond .le 5, []), (33, .iconst 0, []), (34, .ireturn, []), (35, .aload_n 0, []), (36, .aload_n 0, []), (37, .getfield 16, [6, 4, 733, 0]), (40, .iconst 0, []), (41, .baload, []), (42, .ifCond .eq 7, []), (45, .iconst 2, []), (46, .goto 4, []), (49, .iconst 0, []), (50, .putfield 35, [6, 0, 729, 0]), (53, .aload_n 0, []), (54, .getfield 35, [6, 0, 729, 0]), (57, .ifCond .le 5, []), (60, .iconst 0, []), (61, .ireturn, []), (62, .iload_n 2, []), (63, .aload_n 0, []), (64, .getfield 7, [6, 2, 731, 0]), (67, .iload_n 1, []), (68, .iaload, []), (69, .isub, []), (70, .istore_n 3, []), (71, .aload_n 0, []), (72, .getfield 7, [6, 2, 731, 0]), (75, .iload_n 1, []), (76, .iload_n 2, []), (77, .iastore, []), (78, .aload_n 0, []), (79, .getfield 7, [6, 2, 731, 0]), (82, .bipush 12, []), (84, .iload_n 1, []), (85, .iadd, []), (86, .dup2, []), (87, .iaload, []), (88, .iload_n 3, []), (89, .iadd, []), (90, .iastore, []), (91, .iload_n 3, []), (92, .ireturn, [])]
def zc132 : List (Nat × Instr × List Nat) := [(0, .aload_n 0, []), (1, .iconst 0, []), (2, .putfield 35, [6, 0, 729, 0]), (5, .aload_n 0, []), (6, .iload_n 1, []), (7, .invokevirtual 43, [2, 119, 839, 0, 6]), (10, .ifCond .eq 24, []), (13, .aload_n 0, []), (14, .getfield 16, [6, 4, 733, 0]), (17, .aload_n 0, []), (18, .iload_n 1, []), (19, .invokevirtual 43, [2, 119, 839, 0, 6]), (22, .ifCond .eq 7, []), (25, .iload_n 1, []), (26, .goto 4, []), (29, .iconst 0, []), (30, .baload, []), (31, .ifCond .eq 5, []), (34, .iconst 0, []), (35, .ireturn, []), (36, .aload_n 0, []), (37, .iload_n 1, []), (38, .invokevirtual 31, [2, 96, 722, 0, 6]), (41, .iconst 1, []), (42, .ireturn, [])]
def zc133 : List (Nat × Instr × List Nat) := [(0, .aload_n 0, []), (1, .iconst 0, []), (2, .putfield 35, [6, 0, 729, 0]), (5, .aload_n 0, []), (6, .iload_n 1, []), (7, .invokevirtual 43, [2, 119, 839, 0, 6]), (10, .ifCond .eq 24, []), (13, .aload_n 0, []), (14, .getfield 16, [6, 4, 733, 0]), (17, .aload_n 0, []), (18, .iload_n 1, []), (19, .invokevirtual 43, [2, 119, 839, 0, 6]), (22, .ifCond .eq 7, []), (25, .iload_n 1, []), (26, .goto 4, []), (29, .iconst 0, []), (30, .baload, []), (31, .ifCond .eq 5, []), (34, .iconst 0, []), (35, .ireturn, []), (36, .aload_n 0, []), (37, .getfield 16, [6, 4, 733, 0]), (40, .iload_n 1, []), (41, .iconst 1, []), (42, .bastore, []), (43, .iconst 0, []), (44, .istore_n 2, []), (45, .iload_n 2, []), (46, .sipush 164, []), (49, .if_icmp .ge 31, []), (52, .aload_n 0, []), (53, .getfield 7, [6, 2, 731, 0]), (56, .iload_n 1, []), (57, .invokestatic 38, [1, 97, 726, 0, 6]), (60, .iload_n 2, []), (61, .iadd, []), (62, .aload_n 0, []), (63, .getfield 13, [6, 3, 732, 0]), (66, .iload_n 1, []), (67, .invokestatic 38, [1, 97, 726, 0, 6]), (70, .iload_n 2, []), (71, .iadd, []), (72, .iaload, []), (73, .iastore, []), (74, .iinc 2 1, []), (77, .goto (-32), []), (80, .iconst 1, []), (81, .ireturn, [])]
def zc134 : List (Nat × Instr × List Nat) := [(0, .aload_n 0, []), (1, .iconst 0, []), (2, .putfield 35, [6, 0, 729, 0]), (5, .aload_n 0, []), (6, .iload_n 1, []), (7, .invokevirtual 43, [2, 119, 839, 0, 6]), (10, .ifCond .eq 24, []), (13, .aload_n 0, []), (14, .getfield 16, [6, 4, 733, 0]), (17, .aload_n 0, []), (18, .iload_n 1, []), (19, .invokevirtual 43, [2, 119, 839, 0, 6]), (22, .ifCond .eq 7, []), (25, .iload_n 1, []), (26, .goto 4, []), (29, .iconst 0, []), (30, .baload, []), (31, .ifCond .ne 5, []), (34, .iconst 0, []), (35, .ireturn, []), (36, .aload_n 0, []), (37, .getfield 16, [6, 4, 733, 0]), (40, .iload_n 1, []), (41, .iconst 0, []), (42, .bastore, []), (43, .iconst 1, []), (44, .ireturn, [])]
def zc135 : List (Nat × Instr × List Nat) := [(0, .aload_n 0, []), (1, .aload_n 0, []), (2, .iload_n 1, []), (3, .invokevirtual 43, [2, 119, 839, 0, 6]), (6, .ifCond .eq 23, []), (9, .iload_n 2, []), (10, .invokestatic 47, [1, 114, 819, 0, 6]), (13, .ifCond .eq 16, []), (16, .iload_n 3, []), (17, .ifCond .lt 12, []), (20, .iload_n 3, []), (21, .iconst 4, []), (22, .if_icmp .ge 7, []), (25, .iconst 0, []), (26, .goto 4, []), (29, .iconst 1, []), (30, .putfield 35, [6, 0, 729, 0]), (33, .aload_n 0, []), (34, .getfield 35, [6, 0, 729, 0]), (37, .ifCond .le 7, []), (40, .iconst 0, []), (41, .goto 32, []), (44, .iload_n 3, []), (45, .iconst 3, []), (46, .if_icmp .ne 12, []), (49, .aload_n 0, []), (50, .iload_n 1, []), (51, .iload_n 2, []), (52, .invokevirtual 115, [2, 136, 907, 0, 6]), (55, .goto 18, []), (58, .aload_n 0, []), (59, .getfield 7, [6, 2, 731, 0]), (62, .iload_n 1, []), (63, .invokestatic 38, [1, 97, 726, 0, 6]), (66, .iconst 4, []), (67, .iload_n 3, []), (68, .imul, []), (69, .iadd, []), (70, .iload_n 2, []), (71, .iadd, []), (72, .iaload, []), (73, .ireturn, [])]
def zc136 : List (Nat × Instr × List Nat) := [(0, .iload_n 1, []), (1, .invokestatic 38, [1, 97, 726, 0, 6]), (4, .istore_n 3, []), (5, .iconst 0, []), (6, .istore 4, []), (8, .iconst 0, []), (9, .istore 5, []), (11, .iload 5, []), (13, .aload_n 0, []), (14, .getfield 7, [6, 2, 731, 0]), (17, .iload_n 3, []), (18, .bipush 19, []), (20, .iadd, []), (21, .iaload, []), (22, .if_icmp .ge 54, []), (25, .iload 4, []), (27, .aload_n 0, []), (28, .getfield 7, [6, 2, 731, 0]), (31, .iload_n 3, []), (32, .bipush 20, []), (34, .iadd, []), (35, .iconst 4, []), (36, .iload 5, []), (38, .imul, []), (39, .iadd, []), (40, .iconst 1, []), (41, .iadd, []), (42, .iaload, []), (43, .iload_n 2, []), (44, .if_icmp .ne 22, []), (47, .aload_n 0, []), (48, .getfield 7, [6, 2, 731, 0]), (51, .iload_n 3, []), (52, .bipush 20, []), (54, .iadd, []), (55, .iconst 4, []), (56, .iload 5, []), (58, .imul, []), (59, .iadd, []), (60, .iconst 2, []), (61, .iadd, []), (62, .iaload, []), (63, .goto 4, []), (66, .iconst 0, []), (67, .iadd, []), (68, .istore 4, []), (70, .iinc 5 1, []), (73, .goto (-62), []), (76, .iload 4, []), (78, .ireturn, [])]
def zc137 : List (Nat × Instr × List Nat) := [(0, .aload_n 0, []), (1, .iconst 0, []), (2, .putfield 35, [6, 0, 729, 0]), (5, .aload_n 0, []), (6, .iload_n 1, []), (7, .invokevirtual 43, [2, 119, 839, 0, 6]), (10, .ifCond .eq 18, []), (13, .aload_n 0, []), (14, .iload_n 2, []), (15, .invokevirtual 43, [2, 119, 839, 0, 6]), (18, .ifCond .eq 10, []), (21, .iload_n 3, []), (22, .invokestatic 47, [1, 114, 819, 0, 6]), (25, .ifCond .ne 7, []), (28, .iconst (-1), []), (29, .goto 53, []), (32, .aload_n 0, []), (33, .getfield 7, [6, 2, 731, 0]), (36, .aload_n 0, []), (37, .iload_n 1, []), (38, .invokevirtual 43, [2, 119, 839, 0, 6]), (41, .ifCond .eq 7, []), (44, .iload_n 1, []), (45, .goto 4, []), (48, .iconst 0, []), (49, .aload_n 0, []), (50, .iload_n 2, []), (51, .invokevirtual 43, [2, 119, 839, 0, 6]), (54, .ifCond .eq 7, []), (57, .iload_n 2, []), (58, .goto 4, []), (61, .iconst 0, []), (62, .invokestatic 27, [1, 95, 719, 0, 6]), (65, .bipush 16, []), (67, .iadd, []), (68, .iload_n 3, []), (69, .invokestatic 47, [1, 114, 819, 0, 6]), (72, .ifCond .eq 7, []), (75, .iload_n 3, []), (76, .goto 4, []), (79, .iconst 0, []), (80, .iadd, []), (81, .iaload, []), (82, .ireturn, [])]
def zc138 : List (Nat × Instr × List Nat) := [(0, .aload_n 0, []), (1, .iconst 0, []), (2, .putfield 35, [6, 0, 729, 0]), (5, .aload_n 0, []), (6, .iload_n 1, []), (7, .invokevirtual 43, [2, 119, 839, 0, 6]), (10, .ifCond .eq 25, []), (13, .aload_n 0, []), (14, .iload_n 2, []), (15, .invokevirtual 43, [2, 119, 839, 0, 6]), (18, .ifCond .eq 17, []), (21, .iload_n 1, []), (22, .iload_n 2, []), (23, .if_icmp .eq 12, []), (26, .iload_n 3, []), (27, .ifCond .lt 8, []), (30, .iload_n 3, []), (31, .iconst 3, []), (32, .if_icmp .le 5, []), (35, .iconst (-1), []), (36, .ireturn, []), (37, .iload_n 1, []), (38, .iload_n 2, []), (39, .invokestatic 27, [1, 95, 719, 0, 6]), (42, .istore 4, []), (44, .aload_n 0, []), (45, .getfield 7, [6, 2, 731, 0]), (48, .iload 4, []), (50, .bipush 14, []), (52, .iadd, []), (53, .iaload, []), (54, .istore 5, []), (56, .iconst 0, []), (57, .istore 6, []), (59, .iload 6, []), (61, .bipush 16, []), (63, .if_icmp .ge 29, []), (66, .iload 5, []), (68, .aload_n 0, []), (69, .getfield 7, [6, 2, 731, 0]), (72, .iload 4, []), (74, .bipush 15, []), (76, .iadd, []), (77, .iaload, []), (78, .iload 6, []), (80, .ishr, []), (81, .iconst 1, []), (82, .iand, []), (83, .iadd, []), (84, .istore 5, []), (86, .iinc 6 1, []), (89, .goto (-30), []), (92, .iload_n 3, []), (93, .iconst 2, []), (94, .if_icmp .ge 15, []), (97, .aload_n 0, []), (98, .getfield 7, [6, 2, 731, 0]), (101, .iload 4, []), (103, .iload_n 3, []), (104, .iadd, []), (105, .iaload, []), (106, .goto 23, []), (109, .iload_n 3, []), (110, .iconst 2, []), (111, .if_icmp .ne 16, []), (114, .aload_n 0, []), (115, .getfield 7, [6, 2, 731, 0]), (118, .iload 4, []), (120, .bipush 14, []), (122, .iadd, []), (123, .iaload, []), (124, .goto 5, []), (127, .iload 5, []), (129, .ireturn, [])]
def zc139 : List (Nat × Instr × List Nat) := [(0, .aload_n 0, []), (1, .iconst 0, []), (2, .putfield 35, [6, 0, 729, 0]), (5, .iload_n 1, []), (6, .invokestatic 47, [1, 114, 819, 0, 6]), (9, .ifCond .eq 12, []), (12, .iload_n 2, []), (13, .ifCond .lt 8, []), (16, .iload_n 2, []), (17, .iconst 2, []), (18, .if_icmp .le 5, []), (21, .iconst (-1), []), (22, .ireturn, []), (23, .iload_n 2, []), (24, .iconst 2, []), (25, .if_icmp .ne 13, []), (28, .aload_n 0, []), (29, .getfield 7, [6, 2, 731, 0]), (32, .bipush 12, []), (34, .iload_n 1, []), (35, .iadd, []), (36, .iaload, []), (37, .ireturn, []), (38, .aload_n 0, []), (39, .iload_n 1, []), (40, .invokevirtual 118, [2, 140, 923, 0, 6]), (43, .istore_n 3, []), (44, .iconst 0, []), (45, .istore 4, []), (47, .iload 4, []), (49, .aload_n 0, []), (50, .getfield 23, [6, 1, 730, 0]), (53, .if_icmp .ge 68, []), (56, .iload_n 2, []), (57, .iconst 1, []), (58, .if_icmp .ne 63, []), (61, .iload_n 3, []), (62, .aload_n 0, []), (63, .getfield 7, [6, 2, 731, 0]), (66, .iload 4, []), (68, .invokestatic 38, [1, 97, 726, 0, 6]), (71, .iload_n 1, []), (72, .iadd, []), (73, .iaload, []), (74, .aload_n 0, []), (75, .getfield 7, [6, 2, 731, 0]), (78, .iload 4, []), (80, .invokestatic 38, [1, 97, 726, 0, 6]), (83, .iconst 4, []), (84, .iadd, []), (85, .iload_n 1, []), (86, .iadd, []), (87, .iaload, []), (88, .iadd, []), (89, .aload_n 0, []), (90, .getfield 7, [6, 2, 731, 0]), (93, .iload 4, []), (95, .invokestatic 38, [1, 97, 726, 0, 6]), (98, .bipush 8, []), (100, .iadd, []), (101, .iload_n 1, []), (102, .iadd, []), (103, .iaload, []), (104, .iadd, []), (105, .aload_n 0, []), (106, .iload 4, []), (108, .iload_n 1, []), (109, .invokevirtual 115, [2, 136, 907, 0, 6]), (112, .iadd, []), (113, .iadd, []), (114, .istore_n 3, []), (115, .iinc 4 1, []), (118, .goto (-71), []), (121, .iload_n 3, []), (122, .ireturn, [])]
def zc140 : List (Nat × Instr × List Nat) := [(0, .iconst 0, []), (1, .istore_n 2, []), (2, .iconst 0, []), (3, .istore_n 3, []), (4, .iload_n 3, []), (5, .aload_n 0, []), (6, .getfield 23, [6, 1, 730, 0]), (9, .if_icmp .ge 115, []), (12, .iconst 0, []), (13, .istore 4, []), (15, .iload 4, []), (17, .aload_n 0, []), (18, .getfield 23, [6, 1, 730, 0]), (21, .if_icmp .ge 97, []), (24, .iload_n 3, []), (25, .iload 4, []), (27, .invokestatic 27, [1, 95, 719, 0, 6]), (30, .istore 5, []), (32, .iconst 0, []), (33, .istore 6, []), (35, .iload 6, []), (37, .aload_n 0, []), (38, .getfield 7, [6, 2, 731, 0]), (41, .iload 5, []), (43, .iconst 1, []), (44, .iadd, []), (45, .iaload, []), (46, .if_icmp .ge 66, []), (49, .iload 5, []), (51, .iconst 2, []), (52, .iadd, []), (53, .iconst 3, []), (54, .iload 6, []), (56, .imul, []), (57, .iadd, []), (58, .istore 7, []), (60, .iload_n 2, []), (61, .aload_n 0, []), (62, .getfield 7, [6, 2, 731, 0]), (65, .iload 7, []), (67, .iconst 1, []), (68, .iadd, []), (69, .iaload, []), (70, .iload_n 1, []), (71, .if_icmp .ne 32, []), (74, .aload_n 0, []), (75, .iload 4, []), (77, .iload_n 3, []), (78, .aload_n 0, []), (79, .getfield 7, [6, 2, 731, 0]), (82, .iload 7, []), (84, .iaload, []), (85, .invokevirtual 63, [2, 102, 771, 0, 6]), (88, .ifCond .ne 15, []), (91, .aload_n 0, []), (92, .getfield 7, [6, 2, 731, 0]), (95, .iload 7, []), (97, .iconst 2, []), (98, .iadd, []), (99, .iaload, []), (100, .goto 4, []), (103, .iconst 0, []), (104, .iadd, []), (105, .istore_n 2, []), (106, .iinc 6 1, []), (109, .goto (-74), []), (112, .iinc 4 1, []), (115, .goto (-100), []), (118, .iinc 3 1, []), (121, .goto (-117), []), (124, .iload_n 2, []), (125, .ireturn, [])]
def zc141 : List (Nat × Instr × List Nat) := [(0, .aload_n 0, []), (1, .iconst 0, []), (2, .putfield 35, [6, 0, 729, 0]), (5, .iload_n 1, []), (6, .iconst 5, []), (7, .if_icmp .lt 28, []), (10, .iload_n 1, []), (11, .iconst 5, []), (12, .aload_n 0, []), (13, .getfield 23, [6, 1, 730, 0]), (16, .iadd, []), (17, .if_icmp .ge 18, []), (20, .aload_n 0, []), (21, .getfield 7, [6, 2, 731, 0]), (24, .iload_n 1, []), (25, .iconst 5, []), (26, .isub, []), (27, .invokestatic 38, [1, 97, 726, 0, 6]), (30, .bipush 16, []), (32, .iadd, []), (33, .iaload, []), (34, .ireturn, []), (35, .iload_n 1, []), (36, .bipush 10, []), (38, .if_icmp .lt 32, []), (41, .iload_n 1, []), (42, .bipush 10, []), (44, .aload_n 0, []), (45, .getfield 23, [6, 1, 730, 0]), (48, .iadd, []), (49, .if_icmp .ge 21, []), (52, .aload_n 0, []), (53, .getfield 16, [6, 4, 733, 0]), (56, .iload_n 1, []), (57, .bipush 10, []), (59, .isub, []), (60, .baload, []), (61, .ifCond .eq 7, []), (64, .iconst 0, []), (65, .goto 4, []), (68, .iconst 1, []), (69, .ireturn, []), (70, .iload_n 1, []), (71, .ifCond .ne 10, []), (74, .aload_n 0, []), (75, .getfield 23, [6, 1, 730, 0]), (78, .goto 60, []), (81, .iload_n 1, []), (82, .iconst 1, []), (83, .if_icmp .ne 10, []), (86, .aload_n 0, []), (87, .getfield 53, [6, 5, 734, 0]), (90, .goto 48, []), (93, .iload_n 1, []), (94, .iconst 2, []), (95, .if_icmp .ne 10, []), (98, .aload_n 0, []), (99, .getfield 56, [6, 6, 735, 0]), (102, .goto 36, []), (105, .iload_n 1, []), (106, .iconst 3, []), (107, .if_icmp .ne 18, []), (110, .aload_n 0, []), (111, .invokevirtual 125, [2, 142, 931, 0, 6]), (114, .ifCond .eq 7, []), (117, .iconst 1, []), (118, .goto 20, []), (121, .iconst 0, []), (122, .goto 16, []), (125, .iload_n 1, []), (126, .iconst 4, []), (127, .if_icmp .ne 10, []), (130, .aload_n 0, []), (131, .invokevirtual 121, [2, 143, 935, 0, 6]), (134, .goto 4, []), (137, .iconst (-1), []), (138, .ireturn, [])]
def zc142 : List (Nat × Instr × List Nat) := [(0, .aload_n 0, []), (1, .invokevirtual 121, [2, 143, 935, 0, 6]), (4, .ifCond .ne 7, []), (7, .iconst 1, []), (8, .goto 4, []), (11, .iconst 0, []), (12, .istore_n 1, []), (13, .iconst 0, []), (14, .istore_n 2, []), (15, .iload_n 2, []), (16, .aload_n 0, []), (17, .getfield 23, [6, 1, 730, 0]), (20, .if_icmp .ge 86, []), (23, .iconst 0, []), (24, .istore_n 3, []), (25, .iload_n 3, []), (26, .aload_n 0, []), (27, .getfield 23, [6, 1, 730, 0]), (30, .if_icmp .ge 70, []), (33, .iconst 0, []), (34, .istore 4, []), (36, .iload 4, []), (38, .iconst 4, []), (39, .if_icmp .ge 55, []), (42, .iload_n 1, []), (43, .ifCond .eq 43, []), (46, .iload_n 3, []), (47, .iload_n 2, []), (48, .if_icmp .eq 34, []), (51, .aload_n 0, []), (52, .getfield 7, [6, 2, 731, 0]), (55, .iload_n 2, []), (56, .iload_n 3, []), (57, .invokestatic 27, [1, 95, 719, 0, 6]), (60, .bipush 16, []), (62, .iadd, []), (63, .iload 4, []), (65, .iadd, []), (66, .iaload, []), (67, .aload_n 0, []), (68, .getfield 7, [6, 2, 731, 0]), (71, .iload_n 3, []), (72, .invokestatic 38, [1, 97, 726, 0, 6]), (75, .iload 4, []), (77, .iadd, []), (78, .iaload, []), (79, .if_icmp .ne 7, []), (82, .iconst 1, []), (83, .goto 4, []), (86, .iconst 0, []), (87, .istore_n 1, []), (88, .iinc 4 1, []), (91, .goto (-55), []), (94, .iinc 3 1, []), (97, .goto (-72), []), (100, .iinc 2 1, []), (103, .goto (-88), []), (106, .iload_n 1, []), (107, .ireturn, [])]
def zc143 : List (Nat × Instr × List Nat) := [(0, .iconst 0, []), (1, .istore_n 1, []), (2, .iconst 0, []), (3, .istore_n 2, []), (4, .iload_n 2, []), (5, .aload_n 0, []), (6, .getfield 23, [6, 1, 730, 0]), (9, .if_icmp .ge 40, []), (12, .iconst 0, []), (13, .istore_n 3, []), (14, .iload_n 3, []), (15, .aload_n 0, []), (16, .getfield 23, [6, 1, 730, 0]), (19, .if_icmp .ge 24, []), (22, .iload_n 1, []), (23, .aload_n 0, []), (24, .getfield 7, [6, 2, 731, 0]), (27, .iload_n 2, []), (28, .iload_n 3, []), (29, .invokestatic 27, [1, 95, 719, 0, 6]), (32, .iconst 1, []), (33, .iadd, []), (34, .iaload, []), (35, .iadd, []), (36, .istore_n 1, []), (37, .iinc 3 1, []), (40, .goto (-26), []), (43, .iinc 2 1, []), (46, .goto (-42), []), (49, .iload_n 1, []), (50, .ireturn, [])]
def zc144_0 : List (Nat × Instr × List Nat) := [(0, .new 8, [0, 87]), (3, .dup, []), (4, .aload_n 0, []), (5, .iconst 0, []), (6, .invokestatic 52, [1, 46, 416, 0, 99]), (9, .invokespecial 58, [3, 0, 89, 0, 0]), (12, .astore_n 1, []), (13, .new 61, [6, 713]), (16, .dup, []), (17, .aload_n 0, []), (18, .iconst 0, []), (19, .invokestatic 52, [1, 46, 416, 0, 99]), (22, .invokespecial 63, [3, 94, 715, 0, 6]), (25, .astore_n 2, []), (26, .iconst 1, []), (27, .newarray .long, []), (29, .astore_n 3, []), (30, .iconst 1, []), (31, .istore 4, []), (33, .iload 4, []), (35, .aload_n 0, []), (36, .arraylength, []), (37, .iconst 5, []), (38, .isub, []), (39, .if_icmp .gt 1322, []), (42, .aload_n 0, []), (43, .iload 4, []), (45, .iaload, []), (46, .bipush 31, []), (48, .iand, []), (49, .tableswitch 1306 0 21 #[103, 171, 251, 331, 411, 503, 540, 608, 700, 780, 848, 873, 898, 923, 979, 1004, 1029, 1066, 1146, 1195, 1244, 1281], []), (152, .aload_n 1, []), (153, .aload_n 0, []), (154, .iload 4, []), (156, .iconst 1, []), (157, .iadd, []), (158, .iaload, []), (159, .aload_n 0, []), (160, .iload 4, []), (162, .iconst 2, []), (163, .iadd, []), (164, .iaload, []), (165, .aload_n 3, []), (166, .invokestatic 64, [1, 47, 419, 0, 99]), (169, .istore 5, []), (171, .aload_n 2, []), (172, .aload_n 0, []), (173, .iload 4, []), (175, .iconst 1, []), (176, .iadd, []), (177, .iaload, []), (178, .aload_n 0, []), (179, .iload 4, []), (181, .iconst 2, []), (182, .iadd, []), (183, .iaload, []), (184, .invokevirtual 67, [2, 113, 815, 0, 6]), (187, .istore 6, []), (189, .aload_n 2, []), (190, .invokevirtual 68, [2, 98, 755, 0, 6]), (193, .iload 5, []), (195, .if_icmp .eq 5, []), (198, .iconst 0, []), (199, .ireturn, []), (200, .iload 5, []), (202, .ifCond .ne 15, []), (205, .aload_n 3, []), (206, .iconst 0, []), (207, .laload, []), (208, .iload 6, []), (210, .i2l, []), (211, .lcmp, []), (212, .ifCond .eq 5, []), (215, .iconst 0, []), (216, .ireturn, []), (217, .goto 1138, []), (220, .aload_n 1, []), (221, .aload_n 0, []), (222, .iload 4, []), (224, .iconst 1, []), (225, .iadd, []), (226, .iaload, []), (227, .aload_n 0, []), (228, .iload 4, []), (230, .iconst 2, []), (231, .iadd, []), (232, .iaload, []), (233, .aload_n 0, []), (234, .iload 4, []), (236, .iconst 3, []), (237, .iadd, []), (238, .iaload, []), (239, .aload_n 3, []), (240, .invokestatic 72, [1, 52, 526, 0, 99]), (243, .istore 5, []), (245, .aload_n 2, []), (246, .aload_n 0, []), (247, .iload 4, []), (249, .iconst 1, []), (250, .iadd, [])]
def zc144_1 : List (Nat × Instr × List Nat) := [(251, .iaload, []), (252, .aload_n 0, []), (253, .iload 4, []), (255, .iconst 2, []), (256, .iadd, []), (257, .iaload, []), (258, .aload_n 0, []), (259, .iload 4, []), (261, .iconst 3, []), (262, .iadd, []), (263, .iaload, []), (264, .invokevirtual 75, [2, 116, 827, 0, 6]), (267, .istore 6, []), (269, .aload_n 2, []), (270, .invokevirtual 68, [2, 98, 755, 0, 6]), (273, .iload 5, []), (275, .if_icmp .eq 5, []), (278, .iconst 0, []), (279, .ireturn, []), (280, .iload 5, []), (282, .ifCond .ne 15, []), (285, .aload_n 3, []), (286, .iconst 0, []), (287, .laload, []), (288, .iload 6, []), (290, .i2l, []), (291, .lcmp, []), (292, .ifCond .eq 5, []), (295, .iconst 0, []), (296, .ireturn, []), (297, .goto 1058, []), (300, .aload_n 1, []), (301, .aload_n 0, []), (302, .iload 4, []), (304, .iconst 1, []), (305, .iadd, []), (306, .iaload, []), (307, .aload_n 0, []), (308, .iload 4, []), (310, .iconst 2, []), (311, .iadd, []), (312, .iaload, []), (313, .aload_n 0, []), (314, .iload 4, []), (316, .iconst 3, []), (317, .iadd, []), (318, .iaload, []), (319, .aload_n 3, []), (320, .invokestatic 76, [1, 57, 547, 0, 99]), (323, .istore 5, []), (325, .aload_n 2, []), (326, .aload_n 0, []), (327, .iload 4, []), (329, .iconst 1, []), (330, .iadd, []), (331, .iaload, []), (332, .aload_n 0, []), (333, .iload 4, []), (335, .iconst 2, []), (336, .iadd, []), (337, .iaload, []), (338, .aload_n 0, []), (339, .iload 4, []), (341, .iconst 3, []), (342, .iadd, []), (343, .iaload, []), (344, .invokevirtual 78, [2, 122, 851, 0, 6]), (347, .istore 6, []), (349, .aload_n 2, []), (350, .invokevirtual 68, [2, 98, 755, 0, 6]), (353, .iload 5, []), (355, .if_icmp .eq 5, []), (358, .iconst 0, []), (359, .ireturn, []), (360, .iload 5, []), (362, .ifCond .ne 15, []), (365, .aload_n 3, []), (366, .iconst 0, []), (367, .laload, []), (368, .iload 6, []), (370, .i2l, []), (371, .lcmp, []), (372, .ifCond .eq 5, []), (375, .iconst 0, []), (376, .ireturn, []), (377, .goto 978, []), (380, .aload_n 1, []), (381, .aload_n 0, []), (382, .iload 4, []), (384, .iconst 1, []), (385, .iadd, []), (386, .iaload, []), (387, .aload_n 0, []), (388, .iload 4, []), (390, .iconst 2, []), (391, .iadd, []), (392, .iaload, []), (393, .aload_n 0, []), (394, .iload 4, []), (396, .iconst 3, [])]
def zc144_2 : List (Nat × Instr × List Nat) := [(397, .iadd, []), (398, .iaload, []), (399, .aload_n 3, []), (400, .invokestatic 79, [1, 59, 555, 0, 99]), (403, .istore 5, []), (405, .aload_n 2, []), (406, .aload_n 0, []), (407, .iload 4, []), (409, .iconst 1, []), (410, .iadd, []), (411, .iaload, []), (412, .aload_n 0, []), (413, .iload 4, []), (415, .iconst 2, []), (416, .iadd, []), (417, .iaload, []), (418, .aload_n 0, []), (419, .iload 4, []), (421, .iconst 3, []), (422, .iadd, []), (423, .iaload, []), (424, .invokevirtual 81, [2, 121, 847, 0, 6]), (427, .istore 6, []), (429, .aload_n 2, []), (430, .invokevirtual 68, [2, 98, 755, 0, 6]), (433, .iload 5, []), (435, .if_icmp .eq 5, []), (438, .iconst 0, []), (439, .ireturn, []), (440, .iload 5, []), (442, .ifCond .ne 15, []), (445, .aload_n 3, []), (446, .iconst 0, []), (447, .laload, []), (448, .iload 6, []), (450, .i2l, []), (451, .lcmp, []), (452, .ifCond .eq 5, []), (455, .iconst 0, []), (456, .ireturn, []), (457, .goto 898, []), (460, .aload_n 1, []), (461, .aload_n 0, []), (462, .iload 4, []), (464, .iconst 1, []), (465, .iadd, []), (466, .iaload, []), (467, .aload_n 0, []), (468, .iload 4, []), (470, .iconst 2, []), (471, .iadd, []), (472, .iaload, []), (473, .aload_n 0, []), (474, .iload 4, []), (476, .iconst 3, []), (477, .iadd, []), (478, .iaload, []), (479, .aload_n 0, []), (480, .iload 4, []), (482, .iconst 4, []), (483, .iadd, []), (484, .iaload, []), (485, .aload_n 3, []), (486, .invokestatic 82, [1, 61, 562, 0, 99]), (489, .istore 5, []), (491, .aload_n 2, []), (492, .aload_n 0, []), (493, .iload 4, []), (495, .iconst 1, []), (496, .iadd, []), (497, .iaload, []), (498, .aload_n 0, []), (499, .iload 4, []), (501, .iconst 2, []), (502, .iadd, []), (503, .iaload, []), (504, .aload_n 0, []), (505, .iload 4, []), (507, .iconst 3, []), (508, .iadd, []), (509, .iaload, []), (510, .aload_n 0, []), (511, .iload 4, []), (513, .iconst 4, []), (514, .iadd, []), (515, .iaload, []), (516, .invokevirtual 85, [2, 123, 855, 0, 6]), (519, .istore 6, []), (521, .aload_n 2, []), (522, .invokevirtual 68, [2, 98, 755, 0, 6]), (525, .iload 5, []), (527, .if_icmp .eq 5, []), (530, .iconst 0, []), (531, .ireturn, []), (532, .iload 5, []), (534, .ifCond .ne 15, []), (537, .aload_n 3, []), (538, .iconst 0, []), (539, .laload, []), (540, .iload 6, [])]
def zc144_3 : List (Nat × Instr × List Nat) := [(542, .i2l, []), (543, .lcmp, []), (544, .ifCond .eq 5, []), (547, .iconst 0, []), (548, .ireturn, []), (549, .goto 806, []), (552, .aload_n 1, []), (553, .aload_n 0, []), (554, .iload 4, []), (556, .iconst 1, []), (557, .iadd, []), (558, .iaload, []), (559, .aload_n 0, []), (560, .iload 4, []), (562, .iconst 2, []), (563, .iadd, []), (564, .iaload, []), (565, .invokevirtual 86, [2, 9, 261, 0, 0]), (568, .aload_n 2, []), (569, .aload_n 0, []), (570, .iload 4, []), (572, .iconst 1, []), (573, .iadd, []), (574, .iaload, []), (575, .aload_n 0, []), (576, .iload 4, []), (578, .iconst 2, []), (579, .iadd, []), (580, .iaload, []), (581, .invokevirtual 90, [2, 124, 859, 0, 6]), (584, .if_icmp .eq 771, []), (587, .iconst 0, []), (588, .ireturn, []), (589, .aload_n 1, []), (590, .aload_n 0, []), (591, .iload 4, []), (593, .iconst 1, []), (594, .iadd, []), (595, .iaload, []), (596, .aload_n 0, []), (597, .iload 4, []), (599, .iconst 2, []), (600, .iadd, []), (601, .iaload, []), (602, .aload_n 3, []), (603, .invokestatic 91, [1, 65, 579, 0, 99]), (606, .istore 5, []), (608, .aload_n 2, []), (609, .aload_n 0, []), (610, .iload 4, []), (612, .iconst 1, []), (613, .iadd, []), (614, .iaload, []), (615, .aload_n 0, []), (616, .iload 4, []), (618, .iconst 2, []), (619, .iadd, []), (620, .iaload, []), (621, .invokevirtual 93, [2, 126, 867, 0, 6]), (624, .istore 6, []), (626, .aload_n 2, []), (627, .invokevirtual 68, [2, 98, 755, 0, 6]), (630, .iload 5, []), (632, .if_icmp .eq 5, []), (635, .iconst 0, []), (636, .ireturn, []), (637, .iload 5, []), (639, .ifCond .ne 15, []), (642, .aload_n 3, []), (643, .iconst 0, []), (644, .laload, []), (645, .iload 6, []), (647, .i2l, []), (648, .lcmp, []), (649, .ifCond .eq 5, []), (652, .iconst 0, []), (653, .ireturn, []), (654, .goto 701, []), (657, .aload_n 1, []), (658, .aload_n 0, []), (659, .iload 4, []), (661, .iconst 1, []), (662, .iadd, []), (663, .iaload, []), (664, .aload_n 0, []), (665, .iload 4, []), (667, .iconst 2, []), (668, .iadd, []), (669, .iaload, []), (670, .aload_n 0, []), (671, .iload 4, []), (673, .iconst 3, []), (674, .iadd, []), (675, .iaload, []), (676, .aload_n 0, []), (677, .iload 4, []), (679, .iconst 4, []), (680, .iadd, []), (681, .iaload, []), (682, .aload_n 3, [])]
def zc144_4 : List (Nat × Instr × List Nat) := [(683, .invokestatic 94, [1, 73, 611, 0, 99]), (686, .istore 5, []), (688, .aload_n 2, []), (689, .aload_n 0, []), (690, .iload 4, []), (692, .iconst 1, []), (693, .iadd, []), (694, .iaload, []), (695, .aload_n 0, []), (696, .iload 4, []), (698, .iconst 2, []), (699, .iadd, []), (700, .iaload, []), (701, .aload_n 0, []), (702, .iload 4, []), (704, .iconst 3, []), (705, .iadd, []), (706, .iaload, []), (707, .aload_n 0, []), (708, .iload 4, []), (710, .iconst 4, []), (711, .iadd, []), (712, .iaload, []), (713, .invokevirtual 96, [2, 129, 879, 0, 6]), (716, .istore 6, []), (718, .aload_n 2, []), (719, .invokevirtual 68, [2, 98, 755, 0, 6]), (722, .iload 5, []), (724, .if_icmp .eq 5, []), (727, .iconst 0, []), (728, .ireturn, []), (729, .iload 5, []), (731, .ifCond .ne 15, []), (734, .aload_n 3, []), (735, .iconst 0, []), (736, .laload, []), (737, .iload 6, []), (739, .i2l, []), (740, .lcmp, []), (741, .ifCond .eq 5, []), (744, .iconst 0, []), (745, .ireturn, []), (746, .goto 609, []), (749, .aload_n 1, []), (750, .aload_n 0, []), (751, .iload 4, []), (753, .iconst 1, []), (754, .iadd, []), (755, .iaload, []), (756, .aload_n 0, []), (757, .iload 4, []), (759, .iconst 2, []), (760, .iadd, []), (761, .iaload, []), (762, .aload_n 0, []), (763, .iload 4, []), (765, .iconst 3, []), (766, .iadd, []), (767, .iaload, []), (768, .aload_n 3, []), (769, .invokestatic 97, [1, 79, 636, 0, 99]), (772, .istore 5, []), (774, .aload_n 2, []), (775, .aload_n 0, []), (776, .iload 4, []), (778, .iconst 1, []), (779, .iadd, []), (780, .iaload, []), (781, .aload_n 0, []), (782, .iload 4, []), (784, .iconst 2, []), (785, .iadd, []), (786, .iaload, []), (787, .aload_n 0, []), (788, .iload 4, []), (790, .iconst 3, []), (791, .iadd, []), (792, .iaload, []), (793, .invokevirtual 99, [2, 130, 883, 0, 6]), (796, .istore 6, []), (798, .aload_n 2, []), (799, .invokevirtual 68, [2, 98, 755, 0, 6]), (802, .iload 5, []), (804, .if_icmp .eq 5, []), (807, .iconst 0, []), (808, .ireturn, []), (809, .iload 5, []), (811, .ifCond .ne 15, []), (814, .aload_n 3, []), (815, .iconst 0, []), (816, .laload, []), (817, .iload 6, []), (819, .i2l, []), (820, .lcmp, []), (821, .ifCond .eq 5, []), (824, .iconst 0, []), (825, .ireturn, []), (826, .goto 529, []), (829, .aload_n 1, []), (830, .aload_n 0, [])]
def zc144_5 : List (Nat × Instr × List Nat) := [(831, .iload 4, []), (833, .iconst 1, []), (834, .iadd, []), (835, .iaload, []), (836, .aload_n 0, []), (837, .iload 4, []), (839, .iconst 2, []), (840, .iadd, []), (841, .iaload, []), (842, .aload_n 3, []), (843, .invokestatic 100, [1, 82, 647, 0, 99]), (846, .istore 5, []), (848, .aload_n 2, []), (849, .aload_n 0, []), (850, .iload 4, []), (852, .iconst 1, []), (853, .iadd, []), (854, .iaload, []), (855, .aload_n 0, []), (856, .iload 4, []), (858, .iconst 2, []), (859, .iadd, []), (860, .iaload, []), (861, .invokevirtual 102, [2, 131, 887, 0, 6]), (864, .istore 6, []), (866, .aload_n 2, []), (867, .invokevirtual 68, [2, 98, 755, 0, 6]), (870, .iload 5, []), (872, .if_icmp .eq 5, []), (875, .iconst 0, []), (876, .ireturn, []), (877, .iload 5, []), (879, .ifCond .ne 15, []), (882, .aload_n 3, []), (883, .iconst 0, []), (884, .laload, []), (885, .iload 6, []), (887, .i2l, []), (888, .lcmp, []), (889, .ifCond .eq 5, []), (892, .iconst 0, []), (893, .ireturn, []), (894, .goto 461, []), (897, .aload_n 1, []), (898, .aload_n 0, []), (899, .iload 4, []), (901, .iconst 1, []), (902, .iadd, []), (903, .iaload, []), (904, .invokevirtual 103, [2, 14, 281, 0, 0]), (907, .aload_n 2, []), (908, .aload_n 0, []), (909, .iload 4, []), (911, .iconst 1, []), (912, .iadd, []), (913, .iaload, []), (914, .invokevirtual 107, [2, 132, 891, 0, 6]), (917, .if_icmp .eq 438, []), (920, .iconst 0, []), (921, .ireturn, []), (922, .aload_n 1, []), (923, .aload_n 0, []), (924, .iload 4, []), (926, .iconst 1, []), (927, .iadd, []), (928, .iaload, []), (929, .invokevirtual 108, [2, 19, 306, 0, 0]), (932, .aload_n 2, []), (933, .aload_n 0, []), (934, .iload 4, []), (936, .iconst 1, []), (937, .iadd, []), (938, .iaload, []), (939, .invokevirtual 111, [2, 133, 895, 0, 6]), (942, .if_icmp .eq 413, []), (945, .iconst 0, []), (946, .ireturn, []), (947, .aload_n 1, []), (948, .aload_n 0, []), (949, .iload 4, []), (951, .iconst 1, []), (952, .iadd, []), (953, .iaload, []), (954, .invokevirtual 112, [2, 21, 314, 0, 0]), (957, .aload_n 2, []), (958, .aload_n 0, []), (959, .iload 4, []), (961, .iconst 1, []), (962, .iadd, []), (963, .iaload, []), (964, .invokevirtual 115, [2, 134, 899, 0, 6]), (967, .if_icmp .eq 388, []), (970, .iconst 0, []), (971, .ireturn, []), (972, .aload_n 1, []), (973, .aload_n 0, []), (974, .iload 4, []), (976, .iconst 1, []), (977, .iadd, []), (978, .iaload, [])]
def zc144_6 : List (Nat × Instr × List Nat) := [(979, .aload_n 3, []), (980, .invokestatic 116, [1, 84, 654, 0, 99]), (983, .istore 5, []), (985, .aload_n 2, []), (986, .aload_n 0, []), (987, .iload 4, []), (989, .iconst 1, []), (990, .iadd, []), (991, .iaload, []), (992, .invokevirtual 119, [2, 99, 759, 0, 6]), (995, .istore 6, []), (997, .aload_n 2, []), (998, .invokevirtual 68, [2, 98, 755, 0, 6]), (1001, .iload 5, []), (1003, .if_icmp .eq 5, []), (1006, .iconst 0, []), (1007, .ireturn, []), (1008, .iload 5, []), (1010, .ifCond .ne 15, []), (1013, .aload_n 3, []), (1014, .iconst 0, []), (1015, .laload, []), (1016, .iload 6, []), (1018, .i2l, []), (1019, .lcmp, []), (1020, .ifCond .eq 5, []), (1023, .iconst 0, []), (1024, .ireturn, []), (1025, .goto 330, []), (1028, .aload_n 1, []), (1029, .aload_n 0, []), (1030, .iload 4, []), (1032, .iconst 1, []), (1033, .iadd, []), (1034, .iaload, []), (1035, .invokevirtual 120, [2, 22, 318, 0, 0]), (1038, .aload_n 2, []), (1039, .aload_n 0, []), (1040, .iload 4, []), (1042, .iconst 1, []), (1043, .iadd, []), (1044, .iaload, []), (1045, .invokevirtual 123, [2, 110, 803, 0, 6]), (1048, .if_icmp .eq 307, []), (1051, .iconst 0, []), (1052, .ireturn, []), (1053, .aload_n 1, []), (1054, .aload_n 0, []), (1055, .iload 4, []), (1057, .iconst 1, []), (1058, .iadd, []), (1059, .iaload, []), (1060, .invokevirtual 124, [2, 25, 331, 0, 0]), (1063, .aload_n 2, []), (1064, .aload_n 0, []), (1065, .iload 4, []), (1067, .iconst 1, []), (1068, .iadd, []), (1069, .iaload, []), (1070, .invokevirtual 127, [2, 111, 807, 0, 6]), (1073, .if_icmp .eq 282, []), (1076, .iconst 0, []), (1077, .ireturn, []), (1078, .aload_n 1, []), (1079, .aload_n 0, []), (1080, .iload 4, []), (1082, .iconst 1, []), (1083, .iadd, []), (1084, .iaload, []), (1085, .aload_n 0, []), (1086, .iload 4, []), (1088, .iconst 2, []), (1089, .iadd, []), (1090, .iaload, []), (1091, .invokevirtual 128, [2, 28, 343, 0, 0]), (1094, .aload_n 2, []), (1095, .aload_n 0, []), (1096, .iload 4, []), (1098, .iconst 1, []), (1099, .iadd, []), (1100, .iaload, []), (1101, .aload_n 0, []), (1102, .iload 4, []), (1104, .iconst 2, []), (1105, .iadd, []), (1106, .iaload, []), (1107, .invokevirtual 131, [2, 112, 811, 0, 6]), (1110, .if_icmp .eq 245, []), (1113, .iconst 0, []), (1114, .ireturn, []), (1115, .aload_n 1, []), (1116, .aload_n 0, []), (1117, .iload 4, []), (1119, .iconst 1, []), (1120, .iadd, []), (1121, .iaload, []), (1122, .aload_n 0, []), (1123, .iload 4, []), (1125, .iconst 2, []), (1126, .iadd, [])]
def zc144_7 : List (Nat × Instr × List Nat) := [(1127, .iaload, []), (1128, .aload_n 0, []), (1129, .iload 4, []), (1131, .iconst 3, []), (1132, .iadd, []), (1133, .iaload, []), (1134, .aload_n 3, []), (1135, .invokestatic 132, [1, 92, 703, 0, 99]), (1138, .istore 5, []), (1140, .aload_n 2, []), (1141, .aload_n 0, []), (1142, .iload 4, []), (1144, .iconst 1, []), (1145, .iadd, []), (1146, .iaload, []), (1147, .aload_n 0, []), (1148, .iload 4, []), (1150, .iconst 2, []), (1151, .iadd, []), (1152, .iaload, []), (1153, .aload_n 0, []), (1154, .iload 4, []), (1156, .iconst 3, []), (1157, .iadd, []), (1158, .iaload, []), (1159, .invokevirtual 134, [2, 135, 903, 0, 6]), (1162, .istore 6, []), (1164, .aload_n 2, []), (1165, .invokevirtual 68, [2, 98, 755, 0, 6]), (1168, .iload 5, []), (1170, .if_icmp .eq 5, []), (1173, .iconst 0, []), (1174, .ireturn, []), (1175, .iload 5, []), (1177, .ifCond .ne 15, []), (1180, .aload_n 3, []), (1181, .iconst 0, []), (1182, .laload, []), (1183, .iload 6, []), (1185, .i2l, []), (1186, .lcmp, []), (1187, .ifCond .eq 5, []), (1190, .iconst 0, []), (1191, .ireturn, []), (1192, .goto 163, []), (1195, .aload_n 1, []), (1196, .aload_n 0, []), (1197, .iload 4, []), (1199, .iconst 1, []), (1200, .iadd, []), (1201, .iaload, []), (1202, .aload_n 0, []), (1203, .iload 4, []), (1205, .iconst 2, []), (1206, .iadd, []), (1207, .iaload, []), (1208, .aload_n 0, []), (1209, .iload 4, []), (1211, .iconst 3, []), (1212, .iadd, []), (1213, .iaload, []), (1214, .invokevirtual 135, [2, 30, 351, 0, 0]), (1217, .aload_n 2, []), (1218, .aload_n 0, []), (1219, .iload 4, []), (1221, .iconst 1, []), (1222, .iadd, []), (1223, .iaload, []), (1224, .aload_n 0, []), (1225, .iload 4, []), (1227, .iconst 2, []), (1228, .iadd, []), (1229, .iaload, []), (1230, .aload_n 0, []), (1231, .iload 4, []), (1233, .iconst 3, []), (1234, .iadd, []), (1235, .iaload, []), (1236, .invokevirtual 138, [2, 137, 911, 0, 6]), (1239, .if_icmp .eq 116, []), (1242, .iconst 0, []), (1243, .ireturn, []), (1244, .aload_n 1, []), (1245, .aload_n 0, []), (1246, .iload 4, []), (1248, .iconst 1, []), (1249, .iadd, []), (1250, .iaload, []), (1251, .aload_n 0, []), (1252, .iload 4, []), (1254, .iconst 2, []), (1255, .iadd, []), (1256, .iaload, []), (1257, .aload_n 0, []), (1258, .iload 4, []), (1260, .iconst 3, []), (1261, .iadd, []), (1262, .iaload, []), (1263, .invokevirtual 139, [2, 32, 358, 0, 0]), (1266, .aload_n 2, [])]
def zc144_8 : List (Nat × Instr × List Nat) := [(1267, .aload_n 0, []), (1268, .iload 4, []), (1270, .iconst 1, []), (1271, .iadd, []), (1272, .iaload, []), (1273, .aload_n 0, []), (1274, .iload 4, []), (1276, .iconst 2, []), (1277, .iadd, []), (1278, .iaload, []), (1279, .aload_n 0, []), (1280, .iload 4, []), (1282, .iconst 3, []), (1283, .iadd, []), (1284, .iaload, []), (1285, .invokevirtual 142, [2, 138, 915, 0, 6]), (1288, .if_icmp .eq 67, []), (1291, .iconst 0, []), (1292, .ireturn, []), (1293, .aload_n 1, []), (1294, .aload_n 0, []), (1295, .iload 4, []), (1297, .iconst 1, []), (1298, .iadd, []), (1299, .iaload, []), (1300, .aload_n 0, []), (1301, .iload 4, []), (1303, .iconst 2, []), (1304, .iadd, []), (1305, .iaload, []), (1306, .invokevirtual 143, [2, 35, 372, 0, 0]), (1309, .aload_n 2, []), (1310, .aload_n 0, []), (1311, .iload 4, []), (1313, .iconst 1, []), (1314, .iadd, []), (1315, .iaload, []), (1316, .aload_n 0, []), (1317, .iload 4, []), (1319, .iconst 2, []), (1320, .iadd, []), (1321, .iaload, []), (1322, .invokevirtual 146, [2, 139, 919, 0, 6]), (1325, .if_icmp .eq 30, []), (1328, .iconst 0, []), (1329, .ireturn, []), (1330, .aload_n 1, []), (1331, .aload_n 0, []), (1332, .iload 4, []), (1334, .iconst 1, []), (1335, .iadd, []), (1336, .iaload, []), (1337, .invokevirtual 147, [2, 42, 400, 0, 0]), (1340, .aload_n 2, []), (1341, .aload_n 0, []), (1342, .iload 4, []), (1344, .iconst 1, []), (1345, .iadd, []), (1346, .iaload, []), (1347, .invokevirtual 150, [2, 141, 927, 0, 6]), (1350, .if_icmp .eq 5, []), (1353, .iconst 0, []), (1354, .ireturn, []), (1355, .iinc 4 5, []), (1358, .goto (-1325), []), (1361, .iconst 1, []), (1362, .ireturn, [])]
def zc144 : List (Nat × Instr × List Nat) := zc144_0 ++ (zc144_1 ++ (zc144_2 ++ (zc144_3 ++ (zc144_4 ++ (zc144_5 ++ (zc144_6 ++ (zc144_7 ++ (zc144_8))))))))
def zmi : List (Nat × Nat × Bool × Nat × Nat × Nat × List (Nat × Nat × Nat × Nat × Nat × Nat) × List (Nat × Instr × List Nat)) := [(4, 1, false, 0, 4, 127, [], zc0), (2, 2, true, 1, 0, 0, [], zc1), (2, 2, true, 1, 0, 0, [], zc2), (2, 1, false, 0, 3, 98, [], zc3), (3, 1, false, 0, 2, 68, [], zc4), (1, 0, false, 0, 1, 40, [], zc5), (1, 0, false, 0, 1, 40, [], zc6), (4, 2, true, 0, 0, 0, [], zc7), (1, 0, false, 0, 1, 40, [], zc8), (5, 2, false, 2, 2, 58, [], zc9), (2, 1, false, 2, 1, 29, [], zc10), (2, 1, false, 2, 0, 0, [], zc11), (3, 1, false, 1, 0, 0, [], zc12), (3, 1, false, 0, 0, 0, [], zc13), (2, 1, false, 2, 4, 127, [], zc14), (1, 0, false, 0, 3, 99, [], zc15), (3, 1, false, 0, 2, 69, [], zc16), (2, 1, false, 0, 1, 40, [], zc17), (2, 1, false, 0, 1, 40, [], zc18), (2, 1, false, 2, 4, 127, [], zc19), (1, 0, false, 0, 3, 99, [], zc20), (2, 1, false, 2, 1, 29, [], zc21), (2, 1, false, 2, 2, 69, [], zc22), (2, 1, false, 2, 0, 0, [], zc23), (2, 1, false, 0, 1, 40, [], zc24), (2, 1, false, 2, 2, 69, [], zc25), (1, 0, false, 2, 0, 0, [], zc26), (2, 1, false, 0, 1, 40, [], zc27), (3, 2, false, 1, 1, 30, [], zc28), (3, 2, false, 1, 0, 0, [], zc29), (4, 3, false, 1, 1, 29, [], zc30), (1, 1, true, 2, 0, 0, [], zc31), (5, 3, false, 1, 2, 56, [], zc32), (1, 0, false, 1, 1, 28, [], zc33), (1, 1, true, 1, 0, 0, [], zc34), (3, 2, false, 1, 3, 95, [], zc35), (6, 1, false, 1, 2, 62, [], zc36), (5, 2, false, 1, 1, 30, [], zc37), (3, 1, false, 2, 0, 0, [], zc38), (4, 1, false, 1, 2, 60, [], zc39), (2, 1, false, 1, 1, 31, [], zc40), (4, 1, false, 1, 0, 0, [], zc41), (2, 1, false, 1, 2, 61, [], zc42), (4, 0, false, 1, 0, 0, [], zc43), (3, 0, false, 2, 1, 31, [], zc44), (4, 2, false, 2, 0, 0, [], zc45), (2, 2, true, 1, 0, 0, [], zc46), (5, 4, true, 1, 8, 161, [(0, 10, 13, 13, 200, 422), (0, 10, 17, 15, 201, 423)], zc47), (5, 2, false, 1, 7, 129, [], zc48), (1, 1, true, 0, 6, 100, [], zc49), (1, 1, true, 0, 6, 100, [], zc50), (2, 1, false, 0, 6, 100, [], zc51), (6, 5, true, 1, 9, 192, [(0, 12, 15, 13, 200, 422), (0, 12, 19, 15, 201, 423)], zc52), (5, 3, false, 1, 8, 160, [], zc53), (4, 3, false, 0, 7, 129, [], zc54), (2, 1, false, 0, 6, 100, [], zc55), (4, 3, false, 0, 7, 129, [], zc56), (6, 5, true, 1, 9, 192, [(0, 12, 15, 13, 200, 422), (0, 12, 19, 15, 201, 423)], zc57), (5, 3, false, 1, 8, 160, [], zc58), (6, 5, true, 1, 9, 192, [(0, 12, 15, 13, 200, 422), (0, 12, 19, 15, 201, 423)], zc59), (5, 3, false, 1, 8, 160, [], zc60), (7, 6, true, 1, 9, 193, [(0, 14, 17, 13, 200, 422), (0, 14, 21, 15, 201, 423)], zc61), (6, 4, false, 1, 8, 160, [], zc62), (1, 0, false, 2, 0, 0, [], zc63), (5, 3, false, 1, 0, 0, [], zc64), (5, 4, true, 1, 8, 161, [(0, 10, 13, 13, 200, 422), (0, 10, 17, 15, 201, 423)], zc65), (5, 2, false, 1, 7, 129, [], zc66), (4, 1, false, 1, 3, 96, [], zc67), (4, 0, false, 1, 1, 30, [], zc68), (5, 1, false, 0, 2, 63, [], zc69), (8, 6, false, 0, 1, 28, [], zc70), (6, 1, false, 0, 2, 63, [], zc71), (3, 2, true, 1, 0, 0, [], zc72), (7, 6, true, 1, 9, 193, [(0, 14, 17, 13, 200, 422), (0, 14, 21, 15, 201, 423)], zc73), (5, 4, false, 1, 8, 161, [], zc74), (6, 4, false, 2, 1, 28, [], zc75), (1, 0, false, 2, 0, 0, [], zc76), (7, 4, false, 1, 4, 127, [], zc77), (4, 2, false, 1, 0, 0, [], zc78), (6, 5, true, 1, 9, 192, [(0, 12, 15, 13, 200, 422), (0, 12, 19, 15, 201, 423)], zc79), (5, 3, false, 1, 8, 160, [], zc80), (7, 2, false, 1, 0, 0, [], zc81), (5, 4, true, 1, 8, 161, [(0, 10, 13, 13, 200, 422), (0, 10, 17, 15, 201, 423)], zc82), (5, 2, false, 1, 7, 129, [], zc83), (4, 3, true, 1, 7, 229, [(0, 9, 12, 47, 202, 657)], zc84), (9, 1, false, 1, 6, 193, [], zc85), (9, 5, false, 2, 4, 127, [], zc86), (3, 1, false, 0, 0, 0, [], zc87), (3, 1, false, 2, 1, 30, [], zc88), (3, 1, false, 0, 0, 0, [], zc89), (4, 3, false, 2, 0, 0, [], zc90), (5, 4, false, 2, 5, 161, [], zc91), (6, 5, true, 1, 7, 132, [(0, 12, 15, 47, 202, 657)], zc92), (5, 3, false, 1, 6, 100, [], zc93), (5, 1, false, 0, 2, 58, [], zc94), (2, 2, true, 1, 0, 0, [], zc95), (3, 1, false, 0, 1, 28, [], zc96), (1, 1, true, 1, 0, 0, [], zc97), (1, 0, false, 1, 0, 0, [], zc98), (10, 1, false, 1, 4, 126, [], zc99), (3, 1, false, 0, 0, 0, [], zc100), (7, 5, false, 2, 2, 62, [], zc101), (6, 3, false, 2, 1, 29, [], zc102), (6, 3, false, 0, 1, 29, [], zc103), (8, 6, false, 0, 0, 0, [], zc104), (7, 3, false, 2, 1, 29, [], zc105), (7, 5, false, 2, 1, 29, [], zc106), (6, 4, false, 2, 3, 93, [], zc107), (7, 4, false, 2, 1, 29, [], zc108), (8, 4, false, 1, 2, 58, [], zc109), (2, 1, false, 2, 1, 30, [], zc110), (3, 1, false, 2, 1, 35, [], zc111), (3, 2, false, 1, 0, 0, [], zc112), (3, 2, false, 1, 2, 58, [], zc113), (1, 1, true, 2, 0, 0, [], zc114), (1, 1, true, 2, 0, 0, [], zc115), (4, 3, false, 1, 3, 91, [], zc116), (4, 3, false, 2, 2, 60, [], zc117), (4, 3, false, 2, 1, 29, [], zc118), (2, 1, false, 2, 0, 0, [], zc119), (5, 4, false, 1, 1, 28, [], zc120), (4, 3, false, 1, 3, 91, [], zc121), (4, 3, false, 1, 2, 60, [], zc122), (7, 4, false, 1, 2, 60, [], zc123), (6, 2, false, 2, 2, 60, [], zc124), (5, 2, false, 0, 1, 28, [], zc125), (5, 2, false, 1, 4, 129, [], zc126), (8, 1, false, 1, 3, 94, [], zc127), (7, 1, false, 1, 2, 60, [], zc128), (5, 4, false, 1, 3, 93, [], zc129), (8, 3, false, 1, 2, 60, [], zc130), (4, 2, false, 1, 1, 28, [], zc131), (2, 1, false, 2, 2, 58, [], zc132), (3, 1, false, 2, 1, 29, [], zc133), (2, 1, false, 2, 1, 29, [], zc134), (4, 3, false, 1, 2, 61, [], zc135), (6, 2, false, 1, 1, 28, [], zc136), (4, 3, false, 1, 1, 29, [], zc137), (7, 3, false, 1, 1, 29, [], zc138), (5, 2, false, 1, 3, 97, [], zc139), (8, 1, false, 1, 2, 62, [], zc140), (2, 1, false, 1, 3, 92, [], zc141), (5, 0, false, 2, 2, 60, [], zc142), (4, 0, false, 1, 1, 29, [], zc143), (7, 1, true, 2, 12, 440, [], zc144)]
end
section
abbrev Zc : Type := Nat × List Value
abbrev Zh : Type := List Zc
abbrev Ze : Type := Nat × Instr × List Nat
abbrev Zm : Type := Nat × Nat × Bool × Nat × Nat × Nat × List (Nat × Nat × Nat × Nat × Nat × Nat) × List Ze
abbrev Zr : Type := (Option Value ⊕ Nat) × Zh × Bool
def zM0 (M : Zm) : Nat := M.1
def zMp (M : Zm) : Nat := M.2.1
def zMs (M : Zm) : Bool := M.2.2.1
def zMr (M : Zm) : Nat := M.2.2.2.1
def zMf (M : Zm) : Nat := M.2.2.2.2.1
def zMl (M : Zm) : Nat := M.2.2.2.2.2.1
def zMh (M : Zm) : List (Nat × Nat × Nat × Nat × Nat × Nat) := M.2.2.2.2.2.2.1
def zMc (M : Zm) : List Ze := M.2.2.2.2.2.2.2
def zlk : List Ze → Nat → Option (Instr × List Nat)
  | [], _ => none
  | x :: t, pc => bif Nat.beq x.1 pc then some x.2 else zlk t pc
/-- lengths of the instructions that occur -/
def zlen : Instr → Nat
  | .bipush _ => 2
  | .sipush _ => 3
  | .ldc _ => 2
  | .ldc_w _ => 3
  | .iload _ => 2
  | .aload _ => 2
  | .istore _ => 2
  | .astore _ => 2
  | .iinc _ _ => 3
  | .ifCond _ _ => 3
  | .if_icmp _ _ => 3
  | .goto _ => 3
  | .getfield _ => 3
  | .putfield _ => 3
  | .invokevirtual _ => 3
  | .invokespecial _ => 3
  | .invokestatic _ => 3
  | .new _ => 3
  | .anewarray _ => 3
  | .newarray _ => 2
  | _ => 1
def ztab : Instr → Bool
  | .tableswitch _ _ _ _ => true
  | _ => false
/-- the step's kind: 0 in the frame alone, 1 with the heap, 2 the rest -/
def zkind : Instr → Nat
  | .getfield _ => 1
  | .putfield _ => 1
  | .arraylength => 1
  | .iaload => 1
  | .baload => 1
  | .laload => 1
  | .aaload => 1
  | .iastore => 1
  | .bastore => 1
  | .lastore => 1
  | .aastore => 1
  | .newarray _ => 1
  | .anewarray _ => 1
  | .ireturn => 2
  | .return_ => 2
  | .new _ => 2
  | .ldc _ => 2
  | .ldc_w _ => 2
  | .invokevirtual _ => 2
  | .invokespecial _ => 2
  | .invokestatic _ => 2
  | .athrow => 3
  | _ => 0
def zst (ls : List Slot) (i : Nat) (v : Value) : Option (List Slot) :=
  match ls[i]? with
  | some .unset => some (ls.set i (.val v))
  | some (.val (.int _)) => some (ls.set i (.val v))
  | some (.val (.ref _)) => some (ls.set i (.val v))
  | _ => none
def ztg (pc : Nat) (off : Int) : Option Nat := if 0 ≤ (pc : Int) + off then some ((pc : Int) + off).toNat else none
def zcnd : ClassFile.Cond → Int32 → Int32 → Bool
  | .eq, a, b => decide (a = b)
  | .ne, a, b => decide (¬ a = b)
  | .lt, a, b => decide (a < b)
  | .ge, a, b => decide (b ≤ a)
  | .gt, a, b => decide (b < a)
  | .le, a, b => decide (a ≤ b)
def zbr (b : Bool) (pc : Nat) (off : Int) (ls : List Slot) (r : List Value) : Option (Nat × List Slot × List Value) :=
  (ztg pc off).bind fun t => some (bif b then t else pc + 3, ls, r)
def zi1 {α : Type} (st : List Value) (f : Int32 → List Value → Option α) : Option α :=
  match st with
  | .int x :: r => f x r
  | _ => none
def zr1 {α : Type} (st : List Value) (f : Nat → List Value → Option α) : Option α :=
  match st with
  | .ref x :: r => f x r
  | _ => none
def zl1 {α : Type} (st : List Value) (f : Int64 → List Value → Option α) : Option α :=
  match st with
  | .long x :: r => f x r
  | _ => none
def zli {α : Type} (ls : List Slot) (i : Nat) (f : Int32 → Option α) : Option α :=
  match ls[i]? with
  | some (.val (.int x)) => f x
  | _ => none
def zlr {α : Type} (ls : List Slot) (i : Nat) (f : Nat → Option α) : Option α :=
  match ls[i]? with
  | some (.val (.ref x)) => f x
  | _ => none
def zfr : Instr → Nat → List Slot → List Value → Option (Nat × List Slot × List Value)
  | .iconst n, pc, ls, st => some (pc + 1, ls, .int (Int32.ofInt n) :: st)
  | .bipush n, pc, ls, st => some (pc + 2, ls, .int (Int8.ofInt n).toInt32 :: st)
  | .sipush n, pc, ls, st => some (pc + 3, ls, .int (Int16.ofInt n).toInt32 :: st)
  | .iload i, pc, ls, st => zli ls i fun x => some (pc + 2, ls, .int x :: st)
  | .iload_n i, pc, ls, st => zli ls i.val fun x => some (pc + 1, ls, .int x :: st)
  | .aload i, pc, ls, st => zlr ls i fun x => some (pc + 2, ls, .ref x :: st)
  | .aload_n i, pc, ls, st => zlr ls i.val fun x => some (pc + 1, ls, .ref x :: st)
  | .istore i, pc, ls, st => zi1 st fun x r => (zst ls i (.int x)).bind fun l => some (pc + 2, l, r)
  | .istore_n i, pc, ls, st => zi1 st fun x r => (zst ls i.val (.int x)).bind fun l => some (pc + 1, l, r)
  | .astore i, pc, ls, st => zr1 st fun x r => (zst ls i (.ref x)).bind fun l => some (pc + 2, l, r)
  | .astore_n i, pc, ls, st => zr1 st fun x r => (zst ls i.val (.ref x)).bind fun l => some (pc + 1, l, r)
  | .iinc i n, pc, ls, st => zli ls i fun x => (zst ls i (.int (x + Int32.ofInt n))).bind fun l => some (pc + 3, l, st)
  | .pop, pc, ls, st => zi1 st fun _ r => some (pc + 1, ls, r)
  | .dup, pc, ls, st => zr1 st fun x r => some (pc + 1, ls, .ref x :: .ref x :: r)
  | .dup2, pc, ls, st => zi1 st fun y r => zr1 r fun x r => some (pc + 1, ls, .int y :: .ref x :: .int y :: .ref x :: r)
  | .iadd, pc, ls, st => zi1 st fun y r => zi1 r fun x r => some (pc + 1, ls, .int (x + y) :: r)
  | .isub, pc, ls, st => zi1 st fun y r => zi1 r fun x r => some (pc + 1, ls, .int (x - y) :: r)
  | .imul, pc, ls, st => zi1 st fun y r => zi1 r fun x r => some (pc + 1, ls, .int (x * y) :: r)
  | .idiv, pc, ls, st => zi1 st fun y r => zi1 r fun x r => if y = 0 then none else some (pc + 1, ls, .int (x / y) :: r)
  | .irem, pc, ls, st => zi1 st fun y r => zi1 r fun x r => if y = 0 then none else some (pc + 1, ls, .int (x - x / y * y) :: r)
  | .ineg, pc, ls, st => zi1 st fun x r => some (pc + 1, ls, .int (-x) :: r)
  | .iand, pc, ls, st => zi1 st fun y r => zi1 r fun x r => some (pc + 1, ls, .int (x &&& y) :: r)
  | .ior, pc, ls, st => zi1 st fun y r => zi1 r fun x r => some (pc + 1, ls, .int (x ||| y) :: r)
  | .ixor, pc, ls, st => zi1 st fun y r => zi1 r fun x r => some (pc + 1, ls, .int (x ^^^ y) :: r)
  | .ishl, pc, ls, st => zi1 st fun y r => zi1 r fun x r => some (pc + 1, ls, .int (x <<< (y &&& 31)) :: r)
  | .ishr, pc, ls, st => zi1 st fun y r => zi1 r fun x r => some (pc + 1, ls, .int (x >>> (y &&& 31)) :: r)
  | .iushr, pc, ls, st => zi1 st fun y r => zi1 r fun x r => some (pc + 1, ls, .int (x.toUInt32 >>> (y.toUInt32 &&& Int32.toUInt32 31)).toInt32 :: r)
  | .i2l, pc, ls, st => zi1 st fun x r => some (pc + 1, ls, .long x.toInt64 :: r)
  | .lcmp, pc, ls, st => zl1 st fun y r => zl1 r fun x r => some (pc + 1, ls, .int (lg_cmp x y) :: r)
  | .goto off, pc, ls, st => (ztg pc off).bind fun t => some (t, ls, st)
  | .ifCond cd off, pc, ls, st => zi1 st fun x r => zbr (zcnd cd x 0) pc off ls r
  | .if_icmp cd off, pc, ls, st => zi1 st fun y r => zi1 r fun x r => zbr (zcnd cd x y) pc off ls r
  | .tableswitch d lo hi offs, pc, ls, st => zi1 st fun x r =>
    if x.toInt < lo ∨ hi < x.toInt then (ztg pc d).bind fun t => some (t, ls, r)
    else (offs[(x.toInt - lo).toNat]?).bind fun o => (ztg pc o).bind fun t => some (t, ls, r)
  | _, _, _, _ => none
def zix (i : Int32) (n : Nat) : Option Nat := if i < 0 ∨ n ≤ i.toNatClampNeg then none else some i.toNatClampNeg
/-- a value that a field of the kind takes -/
def zfit : Nat → Value → Bool
  | 0, .int _ => true
  | 1, .int x => decide (x = 0 ∨ x = 1)
  | 2, .ref _ => true
  | _, _ => false
def zfk (ci k : Nat) : Nat := ((zcls.getD ci ("", [], [], [], 0, 0)).2.2.1).getD k 9
def zfn (ci : Nat) : Nat := ((zcls.getD ci ("", [], [], [], 0, 0)).2.1).length
def zdv : Nat → Value
  | 2 => .null
  | _ => .int 0
def znewv (ci : Nat) : List Value := ((zcls.getD ci ("", [], [], [], 0, 0)).2.2.1).map zdv
def zcap : Nat := 8000
def zatag : ArrayType → Option (Nat × Value)
  | .int => some (100, .int 0)
  | .long => some (101, .long 0)
  | .boolean => some (102, .int 0)
  | _ => none
def zp1 {α : Type} (st : List Value) (f : Nat → List Value → Option α) : Option α :=
  match st with
  | .ref (x + 1) :: r => f x r
  | _ => none
def zv1 {α : Type} (st : List Value) (f : Value → List Value → Option α) : Option α :=
  match st with
  | v :: r => f v r
  | _ => none
/-- read at a place -/
def zrd (tag : Nat) (i : Int32) (a : Nat) (h : Zh) (f : Value → Option (List Value × Zh × Bool)) : Option (List Value × Zh × Bool) :=
  (h[a]?).bind fun c => if c.1 = tag then (zix i c.2.length).bind fun k => (c.2[k]?).bind f else none
def zwr (tag : Nat) (i : Int32) (a : Nat) (v : Value) (h : Zh) (r : List Value) : Option (List Value × Zh × Bool) :=
  (h[a]?).bind fun c => if c.1 = tag then (zix i c.2.length).bind fun k => some (r, h.set a (tag, c.2.set k v), true) else none
def zhp : Instr → List Nat → List Value → Zh → Option (List Value × Zh × Bool)
  | .getfield _, ci :: k :: _, st, h => zr1 st fun a r =>
    (h[a]?).bind fun c => if c.1 = ci then (c.2[k]?).bind fun v => some (v :: r, h, false) else none
  | .putfield _, ci :: k :: _, st, h => zv1 st fun v r => zp1 r fun a r =>
    (h[a + 1]?).bind fun c => if c.1 = ci ∧ k < c.2.length ∧ zfit (zfk ci k) v = true then some (r, h.set (a + 1) (ci, c.2.set k v), true) else none
  | .arraylength, _, st, h => zr1 st fun a r =>
    (h[a]?).bind fun c => if 100 ≤ c.1 ∧ c.1 < 105 then some (.int (Int32.ofNat c.2.length) :: r, h, false) else none
  | .iaload, _, st, h => zi1 st fun i r => zr1 r fun a r => zrd 100 i a h fun v => some (v :: r, h, false)
  | .laload, _, st, h => zi1 st fun i r => zr1 r fun a r => zrd 101 i a h fun v => some (v :: r, h, false)
  | .baload, _, st, h => zi1 st fun i r => zr1 r fun a r => zrd 102 i a h fun v => some (v :: r, h, false)
  | .aaload, t :: _, st, h => zi1 st fun i r => zr1 r fun a r => if t = 103 ∨ t = 104 then zrd t i a h fun v => some (v :: r, h, false) else none
  | .iastore, _, st, h => zi1 st fun x r => zi1 r fun i r => zp1 r fun a r => zwr 100 i (a + 1) (.int x) h r
  | .lastore, _, st, h => zl1 st fun x r => zi1 r fun i r => zp1 r fun a r => zwr 101 i (a + 1) (.long x) h r
  | .bastore, _, st, h => zi1 st fun x r => zi1 r fun i r => zp1 r fun a r => if x = 0 ∨ x = 1 then zwr 102 i (a + 1) (.int x) h r else none
  | .aastore, t :: _, st, h => zr1 st fun v r => zi1 r fun i r => zp1 r fun a r =>
    (h[v]?).bind fun d => if (t = 103 ∧ d.1 = 1) ∨ (t = 104 ∧ d.1 = 4) then zwr t i (a + 1) (.ref v) h r else none
  | .newarray t, _, st, h => zi1 st fun n r =>
    (zatag t).bind fun q => if ¬ n < 0 ∧ n.toNatClampNeg ≤ 820 ∧ h.length < zcap then some (.ref h.length :: r, h ++ [(q.1, List.replicate n.toNatClampNeg q.2)], true) else none
  | .anewarray _, t :: _, st, h => zi1 st fun n r =>
    if (t = 103 ∨ t = 104) ∧ ¬ n < 0 ∧ n.toNatClampNeg ≤ 820 ∧ h.length < zcap then some (.ref h.length :: r, h ++ [(t, List.replicate n.toNatClampNeg .null)], true) else none
  | _, _, _, _ => none
/-- a copy of a stretch -/
def zcpy (f g : List Value) (sp dp n : Nat) : List Value := (List.range g.length).map fun k => if dp ≤ k ∧ k < dp + n then f.getD (sp + (k - dp)) .null else g.getD k .null
def zok1 (v : Value) : Bool := match v with
  | .int _ => true
  | .ref _ => true
  | _ => false
def zisi (v : Value) : Bool := match v with
  | .int _ => true
  | _ => false
def zent (M : Zm) (vs : List Value) : List Slot := vs.map Slot.val ++ List.replicate (zM0 M - vs.length) Slot.unset
/-- the room that a call asks -/
def zroom (M N : Zm) : Bool := decide (zMf N + 1 ≤ zMf M) && decide (16 + (zM0 N + 11) + zMl N ≤ zMl M)
def zhand : List (Nat × Nat × Nat × Nat × Nat × Nat) → Nat → Nat → Option Nat
  | [], _, _ => none
  | x :: t, pc, tag => bif (Nat.ble x.1 pc && Nat.blt pc x.2.1) then (bif Nat.beq x.2.2.2.2.1 tag then some x.2.2.1 else zhand t pc tag) else zhand t pc tag
/-- the way on behind a call -/
def zgo (k : Nat → List Value → Zh → Bool → Option Zr) (M : Zm) (pc : Nat) (st : List Value) (cl : Bool) (r : Zr) : Option Zr :=
  match r with
  | (.inl v, h, c) => k (pc + 3) (v.toList ++ st) h (cl && c)
  | (.inr a, h, _) =>
    (h[a]?).bind fun c => if 200 ≤ c.1 ∧ c.1 < 203 ∧ a = h.length - 1 then
      match zhand (zMh M) pc c.1 with
      | some q => k q [.ref a] h false
      | none => if zMh M = [] then some (.inr a, h, false) else none
    else none
def zcall (run : Nat → Nat → List Slot → List Value → Zh → Bool → Option Zr) (k : Nat → List Value → Zh → Bool → Option Zr) (M : Zm) (j pc : Nat) (vs st : List Value) (h : Zh) (cl : Bool) : Option Zr :=
  (zmi[j]?).bind fun N => if zroom M N = true ∧ vs.length ≤ zM0 N ∧ vs.all zok1 = true ∧ st.length ≤ 8 then (run j 0 (zent N vs) [] h true).bind fun r => zgo k M pc st cl r else none
def zobj (run : Nat → Nat → List Slot → List Value → Zh → Bool → Option Zr) (k : Nat → List Value → Zh → Bool → Option Zr) (M : Zm) (j ci pc : Nat) (st : List Value) (h : Zh) (cl : Bool) : Option Zr :=
  (zmi[j]?).bind fun N => if zMs N = false ∧ zMp N ≤ st.length then zr1 (st.drop (zMp N)) fun a r => (h[a]?).bind fun c =>
    if c.1 = ci ∧ ci < 7 then zcall run k M j pc (.ref a :: (st.take (zMp N)).reverse) r h cl else none
  else none
def zthr (M : Zm) (t pc : Nat) (st : List Value) (h : Zh) (cl : Bool) : Option Zr :=
  (zlk (zMc M) (pc + 3)).bind fun q3 => (zlk (zMc M) (pc + 4)).bind fun q4 => (zlk (zMc M) (pc + 6)).bind fun q6 => (zlk (zMc M) (pc + 9)).bind fun q9 =>
    match q3.1, q4, q6, q9.1 with
    | .dup, (.ldc _, 2 :: _), (.invokespecial _, 5 :: t' :: _), .athrow =>
      if 200 ≤ t ∧ t < 203 ∧ t = 200 + t' ∧ zMh M = [] ∧ 6 ≤ zMf M ∧ 100 ≤ zMl M ∧ st.length ≤ 8 ∧ h.length < zcap ∧ cl = true then some (.inr h.length, h ++ [(t, [])], false) else none
    | _, _, _, _ => none
def zrun : Nat → Nat → Nat → List Slot → List Value → Zh → Bool → Option Zr
  | 0, _, _, _, _, _, _ => none
  | n + 1, j, pc, ls, st, h, cl =>
    (zmi[j]?).bind fun M => (zlk (zMc M) pc).bind fun q =>
      match zkind q.1 with
      | 0 => (zfr q.1 pc ls st).bind fun r => zrun n j r.1 r.2.1 r.2.2 h cl
      | 1 => (zhp q.1 q.2 st h).bind fun r => zrun n j (pc + zlen q.1) ls r.1 r.2.1 (cl && !r.2.2)
      | _ =>
        match q.1, q.2 with
        | .ireturn, _ => zi1 st fun v r => if r = [] ∧ (zMr M = 1 ∨ (zMr M = 2 ∧ (v = 0 ∨ v = 1))) then some (.inl (some (.int v)), h, cl) else none
        | .return_, _ => if st = [] ∧ zMr M = 0 then some (.inl none, h, cl) else none
        | .ldc _, 1 :: v :: _ => zrun n j (pc + 2) ls (.int (Int32.ofNat v) :: st) h cl
        | .ldc_w _, 1 :: v :: _ => zrun n j (pc + 3) ls (.int (Int32.ofNat v) :: st) h cl
        | .new _, t :: _ =>
          if t < 7 then
            (if h.length < zcap then zrun n j (pc + 3) ls (.ref h.length :: st) (h ++ [(t, znewv t)]) false else none)
          else zthr M t pc st h cl
        | .invokespecial _, 4 :: _ => zr1 st fun _ r => if 1 ≤ zMf M ∧ 40 ≤ zMl M ∧ r.length ≤ 8 then zrun n j (pc + 3) ls r h cl else none
        | .invokestatic _, 0 :: _ => zi1 st fun k r => zi1 r fun dp r => zp1 r fun a r => zi1 r fun sp r => zr1 r fun b r =>
          (h[b]?).bind fun c => (h[a + 1]?).bind fun d =>
            if c.1 = 100 ∧ d.1 = 100 ∧ ¬ sp < 0 ∧ ¬ dp < 0 ∧ ¬ k < 0 ∧ sp.toNatClampNeg + k.toNatClampNeg ≤ c.2.length ∧ dp.toNatClampNeg + k.toNatClampNeg ≤ d.2.length ∧ c.2.all zisi = true ∧ 1 ≤ zMf M ∧ 40 ≤ zMl M ∧ r.length ≤ 8 then
              zrun n j (pc + 3) ls r (h.set (a + 1) (100, zcpy c.2 d.2 sp.toNatClampNeg dp.toNatClampNeg k.toNatClampNeg)) false
            else none
        | .invokestatic _, 1 :: j' :: _ =>
          (zmi[j']?).bind fun N => if zMs N = true ∧ zMp N ≤ st.length then
            zcall (zrun n) (zrun n j · ls · · ·) M j' pc (st.take (zMp N)).reverse (st.drop (zMp N)) h cl else none
        | .invokevirtual _, 2 :: j' :: _ :: _ :: ci :: _ => zobj (zrun n) (zrun n j · ls · · ·) M j' ci pc st h cl
        | .invokespecial _, 3 :: j' :: _ :: _ :: ci :: _ => zobj (zrun n) (zrun n j · ls · · ·) M j' ci pc st h cl
        | _, _ => none
theorem zrun_test : (zrun 300 2 0 [.val (.int 2), .val (.int 5)] [] [] true) = some (.inl (some (.int 5)), [], true) := by decide +kernel
end
section
def zT (fs : List (String × String × String × Bool)) : u_T := fun k => fs.getD k ("", "", "", false)
def zvc : List vw_C := zcls.map fun q => (q.1, zT q.2.1, q.2.1.length)
def zaty : Nat → FieldType
  | 100 => .int
  | 101 => .long
  | 102 => .boolean
  | 103 => .object "PantryMarket$Till"
  | _ => .object "PantryMarket$Pairing"
/-- what the tables say of an entry -/
def zevf (own : String) (idx ci k w ne : Nat) : Bool :=
  match zvc[ci]? with
  | some q => decide (ci < 7) && decide (k < zfn ci) && decide (lw_tbl[w]? = some (if ne = 0 then Cond.fieldLink own idx q.1 (q.2.1 k).2.1 (q.2.1 k).2.2.1 else Cond.fieldLinkNest own idx q.1 (q.2.1 k).2.1 (q.2.1 k).2.2.1 "PantryMarket"))
  | none => false
def zevp (own : String) (init : Bool) (ci k ne : Nat) : Bool :=
  match zvc[ci]? with
  | some q => decide ((q.2.1 k).2.2.2 = false) || (init && decide (own = q.1) && decide (ne = 0))
  | none => false
def zeva (own : String) (idx t w : Nat) : Bool :=
  match zaty t with
  | .object C => decide (lw_tbl[w]? = some (Cond.classLink own idx C)) && decide (Cond.arrayOver (.object C) ∈ lw_tbl)
  | _ => false
def zevn (own : String) (idx t w : Nat) : Bool :=
  match zvc[t]? with
  | some q => decide (lw_tbl[w]? = some (Cond.classLink own idx q.1))
  | none => false
def zh4 (hs : List (Nat × Nat × Nat × Nat × Nat × Nat)) : List (Nat × Nat × Nat × Nat) := hs.map fun x => (x.1, x.2.1, x.2.2.1, x.2.2.2.1)
def zexq (tag : Nat) : String := zexn.getD (tag - 200) ""
def zevh (own : String) (x : Nat × Nat × Nat × Nat × Nat × Nat) : Bool :=
  decide (lw_tbl[x.2.2.2.2.2]? = some (Cond.classLink own x.2.2.2.1 (zexq x.2.2.2.2.1))) && decide (200 ≤ x.2.2.2.2.1) && decide (x.2.2.2.2.1 < 203) && decide (x.2.2.2.1 ≠ 0)
def zcw (y : MethodName) (bytes : ByteArray) (maxL : Nat) (ret : Option FieldType) (hs : List (Nat × Nat × Nat × Nat × Nat × Nat)) : Cond := if hs = [] then .code y bytes maxL ret else .codeWith y bytes maxL ret (zh4 hs)
def zmn : List (MethodName × ByteArray × Option FieldType × Nat × Nat × Nat × Nat) := [(⟨"PantryMarket", "<init>", "(I)V"⟩, prog_1_method_1_code, none, 91, 90, 70, 0), (⟨"java/lang/Math", "min", "(II)I"⟩, prog_14_method_69_code, some .int, 97, 96, 71, 0), (⟨"java/lang/Math", "max", "(II)I"⟩, prog_14_method_65_code, some .int, 100, 99, 71, 0), (⟨"PantryMarket$Till", "<init>", "(I)V"⟩, prog_6_method_1_code, none, 106, 105, 72, 0), (⟨"PantryMarket$Book", "<init>", "(I)V"⟩, prog_2_method_1_code, none, 112, 111, 73, 0), (⟨"PantryMarket$Reservations", "<init>", "()V"⟩, prog_5_method_1_code, none, 118, 117, 74, 0), (⟨"PantryMarket$Pairing", "<init>", "()V"⟩, prog_4_method_1_code, none, 151, 150, 75, 0), (⟨"java/util/Arrays", "fill", "([II)V"⟩, prog_19_method_103_code, none, 155, 154, 76, 0), (⟨"PantryMarket$Net", "<init>", "()V"⟩, prog_3_method_1_code, none, 240, 239, 77, 0), (⟨"PantryMarket", "pick", "(II)Z"⟩, prog_1_method_7_code, some .boolean, 264, 262, 70, 263), (⟨"PantryMarket", "isUp", "(I)Z"⟩, prog_1_method_25_code, some .boolean, 268, 267, 70, 0), (⟨"PantryMarket", "isTill", "(I)Z"⟩, prog_1_method_24_code, some .boolean, 272, 271, 70, 1), (⟨"PantryMarket$Reservations", "find", "(I)I"⟩, prog_5_method_4_code, some .int, 276, 275, 74, 2), (⟨"PantryMarket$Reservations", "remove", "(I)V"⟩, prog_5_method_5_code, none, 280, 279, 74, 3), (⟨"PantryMarket", "sync", "(I)Z"⟩, prog_1_method_12_code, some .boolean, 284, 282, 70, 283), (⟨"PantryMarket$Till", "writeDown", "()V"⟩, prog_6_method_2_code, none, 288, 287, 72, 4), (⟨"PantryMarket$Book", "copyFrom", "(LPantryMarket$Book;)V"⟩, prog_2_method_4_code, none, 292, 291, 73, 5), (⟨"PantryMarket$Reservations", "copyFrom", "(LPantryMarket$Reservations;)V"⟩, prog_5_method_7_code, none, 299, 298, 74, 6), (⟨"PantryMarket$Pairing", "copyFrom", "(LPantryMarket$Pairing;)V"⟩, prog_4_method_11_code, none, 304, 303, 75, 7), (⟨"PantryMarket", "crash", "(I)Z"⟩, prog_1_method_13_code, some .boolean, 309, 307, 70, 308), (⟨"PantryMarket$Till", "fallBack", "()V"⟩, prog_6_method_3_code, none, 313, 312, 72, 8), (⟨"PantryMarket", "back", "(I)Z"⟩, prog_1_method_14_code, some .boolean, 317, 315, 70, 316), (⟨"PantryMarket", "drop", "(I)Z"⟩, prog_1_method_16_code, some .boolean, 321, 319, 70, 320), (⟨"PantryMarket$Net", "isSlot", "(I)Z"⟩, prog_3_method_2_code, some .boolean, 325, 324, 77, 9), (⟨"PantryMarket$Net", "takeOut", "(I)V"⟩, prog_3_method_6_code, none, 329, 328, 77, 10), (⟨"PantryMarket", "twice", "(I)Z"⟩, prog_1_method_17_code, some .boolean, 334, 332, 70, 333), (⟨"PantryMarket$Net", "isFull", "()Z"⟩, prog_3_method_3_code, some .boolean, 338, 337, 77, 11), (⟨"PantryMarket$Net", "repeat", "(I)V"⟩, prog_3_method_7_code, none, 342, 341, 77, 12), (⟨"PantryMarket", "slot", "(II)I"⟩, prog_1_method_18_code, some .int, 346, 344, 70, 345), (⟨"PantryMarket$Net", "cell", "(II)I"⟩, prog_3_method_4_code, some .int, 350, 349, 77, 13), (⟨"PantryMarket", "news", "(III)I"⟩, prog_1_method_20_code, some .int, 354, 352, 70, 353), (⟨"PantryMarket", "isArticle", "(I)Z"⟩, prog_1_method_26_code, some .boolean, 357, 356, 70, 0), (⟨"PantryMarket", "pair", "(III)I"⟩, prog_1_method_21_code, some .int, 361, 359, 70, 360), (⟨"PantryMarket$Pairing", "seenCount", "()I"⟩, prog_4_method_8_code, some .int, 365, 364, 75, 14), (⟨"java/lang/Integer", "bitCount", "(I)I"⟩, prog_13_method_49_code, some .int, 368, 367, 86, 0), (⟨"PantryMarket", "total", "(II)I"⟩, prog_1_method_22_code, some .int, 375, 373, 70, 374), (⟨"PantryMarket", "unitsOnTheirWay", "(I)I"⟩, prog_1_method_41_code, some .int, 379, 378, 70, 15), (⟨"PantryMarket$Pairing", "openUnitsUnseenBy", "(LPantryMarket$Pairing;I)I"⟩, prog_4_method_9_code, some .int, 383, 382, 75, 16), (⟨"PantryMarket$Pairing", "hasSeen", "(I)Z"⟩, prog_4_method_6_code, some .boolean, 387, 386, 75, 17), (⟨"PantryMarket", "unitsInBooks", "(I)I"⟩, prog_1_method_42_code, some .int, 391, 390, 70, 18), (⟨"PantryMarket$Book", "unitsOf", "(I)I"⟩, prog_2_method_2_code, some .int, 395, 394, 73, 19), (⟨"PantryMarket$Reservations", "unitsOf", "(I)I"⟩, prog_5_method_6_code, some .int, 399, 398, 74, 20), (⟨"PantryMarket", "look", "(I)I"⟩, prog_1_method_23_code, some .int, 403, 401, 70, 402), (⟨"PantryMarket", "openVouchers", "()I"⟩, prog_1_method_43_code, some .int, 407, 406, 70, 21), (⟨"PantryMarket", "allNewsHold", "()Z"⟩, prog_1_method_44_code, some .boolean, 411, 410, 70, 22), (⟨"PantryMarket", "newsHold", "(II)Z"⟩, prog_1_method_45_code, some .boolean, 415, 414, 70, 23), (⟨"PantryMarketLaw", "cell", "([II)I"⟩, method_2_code, some .int, 418, 417, 69, 0), (⟨"PantryMarketLaw", "stock", "(LPantryMarket;II[J)I"⟩, method_3_code, some .int, 421, 420, 69, 0), (⟨"PantryMarket", "stock", "(II)I"⟩, prog_1_method_2_code, some .int, 427, 425, 70, 426), (⟨"PantryMarket", "checkArticle", "(I)V"⟩, prog_1_method_28_code, none, 430, 429, 70, 0), (⟨"PantryMarket", "checkUnits", "(I)V"⟩, prog_1_method_29_code, none, 501, 500, 70, 0), (⟨"PantryMarket", "checkUp", "(I)V"⟩, prog_1_method_31_code, none, 507, 506, 70, 25), (⟨"PantryMarketLaw", "sell", "(LPantryMarket;III[J)I"⟩, method_4_code, some .int, 528, 527, 69, 0), (⟨"PantryMarket", "sell", "(III)I"⟩, prog_1_method_3_code, some .int, 532, 530, 70, 531), (⟨"PantryMarket", "checkGoods", "(III)V"⟩, prog_1_method_30_code, none, 536, 535, 70, 26), (⟨"PantryMarket", "checkTill", "(I)V"⟩, prog_1_method_27_code, none, 540, 539, 70, 27), (⟨"PantryMarket", "checkSuffices", "(III)V"⟩, prog_1_method_32_code, none, 545, 544, 70, 28), (⟨"PantryMarketLaw", "unsell", "(LPantryMarket;III[J)I"⟩, method_5_code, some .int, 549, 548, 69, 0), (⟨"PantryMarket", "unsell", "(III)I"⟩, prog_1_method_4_code, some .int, 553, 551, 70, 552), (⟨"PantryMarketLaw", "broken", "(LPantryMarket;III[J)I"⟩, method_6_code, some .int, 557, 556, 69, 0), (⟨"PantryMarket", "broken", "(III)I"⟩, prog_1_method_5_code, some .int, 561, 559, 70, 560), (⟨"PantryMarketLaw", "reserve", "(LPantryMarket;IIII[J)I"⟩, method_7_code, some .int, 564, 563, 69, 0), (⟨"PantryMarket", "reserve", "(IIII)I"⟩, prog_1_method_6_code, some .int, 568, 566, 70, 567), (⟨"PantryMarket$Reservations", "isFull", "()Z"⟩, prog_5_method_2_code, some .boolean, 573, 572, 74, 29), (⟨"PantryMarket$Reservations", "add", "(III)I"⟩, prog_5_method_3_code, some .int, 578, 577, 74, 30), (⟨"PantryMarketLaw", "tick", "(LPantryMarket;II[J)I"⟩, method_8_code, some .int, 581, 580, 69, 0), (⟨"PantryMarket", "tick", "(II)I"⟩, prog_1_method_8_code, some .int, 585, 583, 70, 584), (⟨"PantryMarket", "passTick", "(I)I"⟩, prog_1_method_37_code, some .int, 589, 588, 70, 31), (⟨"PantryMarket$Book", "releaseEnded", "()I"⟩, prog_2_method_3_code, some .int, 593, 592, 73, 32), (⟨"PantryMarket", "sendOpenAgain", "(I)V"⟩, prog_1_method_38_code, none, 598, 597, 70, 33), (⟨"PantryMarket$Net", "send", "(IIIIII)V"⟩, prog_3_method_5_code, none, 602, 601, 77, 34), (⟨"PantryMarket", "sendNews", "(I)V"⟩, prog_1_method_39_code, none, 607, 606, 70, 35), (⟨"java/lang/Math", "floorMod", "(II)I"⟩, prog_14_method_50_code, some .int, 610, 609, 71, 0), (⟨"PantryMarketLaw", "give", "(LPantryMarket;IIII[J)I"⟩, method_9_code, some .int, 613, 612, 69, 0), (⟨"PantryMarket", "give", "(IIII)I"⟩, prog_1_method_9_code, some .int, 617, 615, 70, 616), (⟨"PantryMarket", "canGive", "(IIII)Z"⟩, prog_1_method_33_code, some .boolean, 622, 621, 70, 36), (⟨"PantryMarket$Pairing", "canOpen", "()Z"⟩, prog_4_method_2_code, some .boolean, 626, 625, 75, 37), (⟨"PantryMarket", "sendVoucher", "(IIII)I"⟩, prog_1_method_34_code, some .int, 631, 630, 70, 38), (⟨"PantryMarket$Pairing", "open", "(II)I"⟩, prog_4_method_3_code, some .int, 635, 634, 75, 39), (⟨"PantryMarketLaw", "ask", "(LPantryMarket;III[J)I"⟩, method_10_code, some .int, 638, 637, 69, 0), (⟨"PantryMarket", "ask", "(III)I"⟩, prog_1_method_10_code, some .int, 642, 640, 70, 641), (⟨"PantryMarket", "richestByNews", "(II)I"⟩, prog_1_method_40_code, some .int, 646, 645, 70, 40), (⟨"PantryMarketLaw", "counted", "(LPantryMarket;II[J)I"⟩, method_11_code, some .int, 649, 648, 69, 0), (⟨"PantryMarket", "counted", "(II)I"⟩, prog_1_method_11_code, some .int, 653, 651, 70, 652), (⟨"PantryMarketLaw", "deliver", "(LPantryMarket;I[J)I"⟩, method_12_code, some .int, 656, 655, 69, 0), (⟨"PantryMarket", "deliver", "(I)I"⟩, prog_1_method_15_code, some .int, 661, 659, 70, 660), (⟨"PantryMarket", "receiveVoucher", "(IIIII)Z"⟩, prog_1_method_35_code, some .boolean, 681, 680, 70, 41), (⟨"PantryMarket$Pairing", "markSeen", "(I)V"⟩, prog_4_method_7_code, none, 686, 685, 75, 42), (⟨"PantryMarket$Pairing", "close", "(I)Z"⟩, prog_4_method_4_code, some .boolean, 690, 689, 75, 43), (⟨"PantryMarket$Pairing", "removeOpen", "(I)V"⟩, prog_4_method_5_code, none, 694, 693, 75, 44), (⟨"PantryMarket$Pairing", "hear", "(III)Z"⟩, prog_4_method_10_code, some .boolean, 698, 697, 75, 45), (⟨"PantryMarket", "receiveAsk", "(IIII)Z"⟩, prog_1_method_36_code, some .boolean, 702, 701, 70, 46), (⟨"PantryMarketLaw", "has", "(LPantryMarket;III[J)I"⟩, method_13_code, some .int, 705, 704, 69, 0), (⟨"PantryMarket", "has", "(III)I"⟩, prog_1_method_19_code, some .int, 709, 707, 70, 708), (⟨"PantryMarketModel", "<init>", "(I)V"⟩, prog_8_method_1_code, none, 717, 716, 78, 0), (⟨"PantryMarketModel", "other", "(II)I"⟩, prog_8_method_4_code, some .int, 721, 720, 78, 0), (⟨"PantryMarketModel", "syncNow", "(I)V"⟩, prog_8_method_5_code, none, 725, 724, 78, 47), (⟨"PantryMarketModel", "at", "(I)I"⟩, prog_8_method_3_code, some .int, 728, 727, 78, 0), (⟨"PantryMarketModel", "thrown", "()I"⟩, prog_8_method_2_code, some .int, 758, 756, 78, 757), (⟨"PantryMarketModel", "deliver", "(I)I"⟩, prog_8_method_21_code, some .int, 762, 760, 78, 761), (⟨"PantryMarketModel", "takeOut", "(I)V"⟩, prog_8_method_12_code, none, 766, 765, 78, 48), (⟨"PantryMarketModel", "voucher", "(IIIII)Z"⟩, prog_8_method_18_code, some .boolean, 770, 769, 78, 49), (⟨"PantryMarketModel", "isSeen", "(III)Z"⟩, prog_8_method_15_code, some .boolean, 774, 773, 78, 50), (⟨"PantryMarketModel", "see", "(III)V"⟩, prog_8_method_16_code, none, 778, 777, 78, 51), (⟨"PantryMarketModel", "send", "(IIIIII)V"⟩, prog_8_method_11_code, none, 782, 781, 78, 52), (⟨"PantryMarketModel", "close", "(III)Z"⟩, prog_8_method_17_code, some .boolean, 786, 785, 78, 53), (⟨"PantryMarketModel", "told", "(IIIII)Z"⟩, prog_8_method_19_code, some .boolean, 790, 789, 78, 54), (⟨"PantryMarketModel", "asked", "(IIII)Z"⟩, prog_8_method_20_code, some .boolean, 794, 793, 78, 55), (⟨"PantryMarketModel", "canGive", "(IIII)Z"⟩, prog_8_method_13_code, some .boolean, 798, 797, 78, 56), (⟨"PantryMarketModel", "giveNow", "(IIII)I"⟩, prog_8_method_14_code, some .int, 802, 801, 78, 57), (⟨"PantryMarketModel", "drop", "(I)Z"⟩, prog_8_method_22_code, some .boolean, 806, 804, 78, 805), (⟨"PantryMarketModel", "twice", "(I)Z"⟩, prog_8_method_23_code, some .boolean, 810, 808, 78, 809), (⟨"PantryMarketModel", "slot", "(II)I"⟩, prog_8_method_24_code, some .int, 814, 812, 78, 813), (⟨"PantryMarketModel", "stock", "(II)I"⟩, prog_8_method_25_code, some .int, 818, 816, 78, 817), (⟨"PantryMarketModel", "isArticle", "(I)Z"⟩, prog_8_method_7_code, some .boolean, 821, 820, 78, 0), (⟨"PantryMarketModel", "isUnits", "(I)Z"⟩, prog_8_method_8_code, some .boolean, 824, 823, 78, 0), (⟨"PantryMarketModel", "sell", "(III)I"⟩, prog_8_method_27_code, some .int, 830, 828, 78, 829), (⟨"PantryMarketModel", "mayTake", "(III)Z"⟩, prog_8_method_26_code, some .boolean, 834, 833, 78, 58), (⟨"PantryMarketModel", "areThese", "(III)Z"⟩, prog_8_method_9_code, some .boolean, 838, 837, 78, 59), (⟨"PantryMarketModel", "isTill", "(I)Z"⟩, prog_8_method_6_code, some .boolean, 842, 841, 78, 60), (⟨"PantryMarketModel", "move", "(IIII)I"⟩, prog_8_method_10_code, some .int, 846, 845, 78, 61), (⟨"PantryMarketModel", "broken", "(III)I"⟩, prog_8_method_28_code, some .int, 850, 848, 78, 849), (⟨"PantryMarketModel", "unsell", "(III)I"⟩, prog_8_method_29_code, some .int, 854, 852, 78, 853), (⟨"PantryMarketModel", "reserve", "(IIII)I"⟩, prog_8_method_30_code, some .int, 858, 856, 78, 857), (⟨"PantryMarketModel", "pick", "(II)Z"⟩, prog_8_method_32_code, some .boolean, 862, 860, 78, 861), (⟨"PantryMarketModel", "forget", "(II)V"⟩, prog_8_method_31_code, none, 866, 865, 78, 62), (⟨"PantryMarketModel", "tick", "(II)I"⟩, prog_8_method_35_code, some .int, 870, 868, 78, 869), (⟨"PantryMarketModel", "pass", "(I)I"⟩, prog_8_method_34_code, some .int, 874, 873, 78, 63), (⟨"PantryMarketModel", "over", "(I)I"⟩, prog_8_method_33_code, some .int, 878, 877, 78, 64), (⟨"PantryMarketModel", "give", "(IIII)I"⟩, prog_8_method_36_code, some .int, 882, 880, 78, 881), (⟨"PantryMarketModel", "ask", "(III)I"⟩, prog_8_method_37_code, some .int, 886, 884, 78, 885), (⟨"PantryMarketModel", "counted", "(II)I"⟩, prog_8_method_38_code, some .int, 890, 888, 78, 889), (⟨"PantryMarketModel", "sync", "(I)Z"⟩, prog_8_method_39_code, some .boolean, 894, 892, 78, 893), (⟨"PantryMarketModel", "crash", "(I)Z"⟩, prog_8_method_40_code, some .boolean, 898, 896, 78, 897), (⟨"PantryMarketModel", "back", "(I)Z"⟩, prog_8_method_41_code, some .boolean, 902, 900, 78, 901), (⟨"PantryMarketModel", "has", "(III)I"⟩, prog_8_method_43_code, some .int, 906, 904, 78, 905), (⟨"PantryMarketModel", "reservedOf", "(II)I"⟩, prog_8_method_42_code, some .int, 910, 909, 78, 65), (⟨"PantryMarketModel", "news", "(III)I"⟩, prog_8_method_44_code, some .int, 914, 912, 78, 913), (⟨"PantryMarketModel", "pair", "(III)I"⟩, prog_8_method_45_code, some .int, 918, 916, 78, 917), (⟨"PantryMarketModel", "total", "(II)I"⟩, prog_8_method_47_code, some .int, 922, 920, 78, 921), (⟨"PantryMarketModel", "underWay", "(I)I"⟩, prog_8_method_46_code, some .int, 926, 925, 78, 66), (⟨"PantryMarketModel", "look", "(I)I"⟩, prog_8_method_50_code, some .int, 930, 928, 78, 929), (⟨"PantryMarketModel", "settled", "()Z"⟩, prog_8_method_49_code, some .boolean, 934, 933, 78, 67), (⟨"PantryMarketModel", "opens", "()I"⟩, prog_8_method_48_code, some .int, 938, 937, 78, 68), (⟨"PantryMarketLaw", "law", "([I)Z"⟩, code, some .boolean, 0, 0, 0, 0)]
abbrev Zn : Type := MethodName × ByteArray × Option FieldType × Nat × Nat × Nat × Nat
def zevi (own : String) (idx kind j w ne ci : Nat) : Bool :=
  match zmn[j]?, zmi[j]? with
  | some q, some N =>
    decide (lw_tbl[w]? = some (if ne = 0 then Cond.methodLink own idx q.1 else Cond.methodLinkNest own idx q.1 "PantryMarket"))
      && decide (lw_tbl[q.2.2.2.1]? = some (zcw q.1 q.2.1 (zM0 N) q.2.2.1 (zMh N)))
      && decide (lw_tbl[q.2.2.2.2.1]? = some (if kind = 1 then Cond.static q.1 else Cond.instanceMethod q.1))
      && decide (lw_tbl[q.2.2.2.2.2.1]? = some (Cond.initialized q.1.cls))
      && (decide (kind ≠ 2) || decide (lw_tbl[q.2.2.2.2.2.2]? = some (Cond.selects q.1.cls q.1 q.1)))
      && (decide (kind ≠ 3) || (decide (q.1.name = "<init>") && decide (q.2.2.1 = none) && decide (zMh N = [])))
      && decide (q.1.cls ≠ "java/lang/invoke/MethodHandle") && decide (q.1.cls ≠ "java/lang/invoke/VarHandle") && plainFor q.1
      && decide ((parseMethodDescriptor q.1.desc).map (fun d => d.parameters.length) = some (zMp N))
      && (decide (kind = 1) || (match zvc[ci]? with | some c => decide (c.1 = q.1.cls) | none => false))
  | _, _ => false
def zall (own : String) (init : Bool) : Instr → List Nat → Bool
  | .getfield i, ci :: k :: w :: ne :: _ => zevf own i ci k w ne
  | .putfield i, ci :: k :: w :: ne :: _ => zevf own i ci k w ne && zevp own init ci k ne
  | .newarray t, _ => decide (Cond.arrayClass (newarray.typeOf t) ∈ lw_tbl)
  | .anewarray i, t :: w :: _ => zeva own i t w
  | .new i, t :: w :: _ => if t < 7 then zevn own i t w else decide (lw_tbl[w]? = some (Cond.classLink own i (zexq t)))
  | .ldc i, 1 :: v :: w :: _ => decide (lw_tbl[w]? = some (Cond.constant own i (Int32.ofNat v)))
  | .ldc i, 2 :: w :: _ =>
    match lw_tbl[w]? with
    | some (.stringRef o k _) => decide (o = own) && decide (k = i)
    | _ => false
  | .ldc_w i, 1 :: v :: w :: _ => decide (lw_tbl[w]? = some (Cond.constant own i (Int32.ofNat v)))
  | .invokestatic i, 0 :: w :: _ => decide (lw_tbl[w]? = some (Cond.methodLink own i arraycopyName))
  | .invokespecial i, 4 :: w :: _ => decide (lw_tbl[w]? = some (Cond.methodLink own i Lib.objectInit))
  | .invokespecial i, 5 :: t :: w :: _ => decide (lw_tbl[w]? = some (Cond.methodLink own i (Bundle.initS (zexn.getD t ""))))
  | .invokestatic i, 1 :: j :: w :: ne :: ci :: _ => zevi own i 1 j w ne ci
  | .invokevirtual i, 2 :: j :: w :: ne :: ci :: _ => zevi own i 2 j w ne ci
  | .invokespecial i, 3 :: j :: w :: ne :: ci :: _ => zevi own i 3 j w ne ci
  | .getfield _, _ => false
  | .putfield _, _ => false
  | .anewarray _, _ => false
  | .new _, _ => false
  | .ldc _, _ => false
  | .ldc_w _, _ => false
  | .invokestatic _, _ => false
  | .invokevirtual _, _ => false
  | .invokespecial _, _ => false
  | _, _ => true
def zentok (q : Zn) (x : Ze) : Bool :=
  (match decode q.2.1 x.1 with
    | .ok (i, n) => decide (i = x.2.1) && (decide (n = zlen x.2.1) || ztab x.2.1)
    | _ => false) && zall q.1.cls (decide (q.1.name = "<init>")) x.2.1 x.2.2
def zrett : Nat → Option FieldType
  | 0 => none
  | 1 => some .int
  | _ => some .boolean
def zmok (j : Nat) : Bool :=
  match zmn[j]?, zmi[j]? with
  | some q, some N => (zMc N).all (zentok q) && (zMh N).all (zevh q.1.cls) && decide (q.2.2.1 = zrett (zMr N))
  | _, _ => false
end
section
theorem zmok_0 : ((List.range 10).map (· + 0)).all zmok = true := by decide +kernel
theorem zmok_1 : ((List.range 15).map (· + 10)).all zmok = true := by decide +kernel
theorem zmok_2 : ((List.range 15).map (· + 25)).all zmok = true := by decide +kernel
theorem zmok_3 : ((List.range 15).map (· + 40)).all zmok = true := by decide +kernel
theorem zmok_4 : ((List.range 15).map (· + 55)).all zmok = true := by decide +kernel
theorem zmok_5 : ((List.range 15).map (· + 70)).all zmok = true := by decide +kernel
theorem zmok_6 : ((List.range 15).map (· + 85)).all zmok = true := by decide +kernel
theorem zmok_7 : ((List.range 10).map (· + 100)).all zmok = true := by decide +kernel
theorem zmok_8 : ((List.range 10).map (· + 110)).all zmok = true := by decide +kernel
theorem zmok_9 : ((List.range 8).map (· + 120)).all zmok = true := by decide +kernel
theorem zmok_10 : ((List.range 8).map (· + 128)).all zmok = true := by decide +kernel
theorem zmok_11 : ((List.range 8).map (· + 136)).all zmok = true := by decide +kernel
theorem zmok_l0 : zc144_0.all (zentok (⟨"PantryMarketLaw", "law", "([I)Z"⟩, code, some .boolean, 0, 0, 0, 0)) = true := by decide +kernel
theorem zmok_l1 : zc144_1.all (zentok (⟨"PantryMarketLaw", "law", "([I)Z"⟩, code, some .boolean, 0, 0, 0, 0)) = true := by decide +kernel
theorem zmok_l2 : zc144_2.all (zentok (⟨"PantryMarketLaw", "law", "([I)Z"⟩, code, some .boolean, 0, 0, 0, 0)) = true := by decide +kernel
theorem zmok_l3 : zc144_3.all (zentok (⟨"PantryMarketLaw", "law", "([I)Z"⟩, code, some .boolean, 0, 0, 0, 0)) = true := by decide +kernel
theorem zmok_l4 : zc144_4.all (zentok (⟨"PantryMarketLaw", "law", "([I)Z"⟩, code, some .boolean, 0, 0, 0, 0)) = true := by decide +kernel
theorem zmok_l5 : zc144_5.all (zentok (⟨"PantryMarketLaw", "law", "([I)Z"⟩, code, some .boolean, 0, 0, 0, 0)) = true := by decide +kernel
theorem zmok_l6 : zc144_6.all (zentok (⟨"PantryMarketLaw", "law", "([I)Z"⟩, code, some .boolean, 0, 0, 0, 0)) = true := by decide +kernel
theorem zmok_l7 : zc144_7.all (zentok (⟨"PantryMarketLaw", "law", "([I)Z"⟩, code, some .boolean, 0, 0, 0, 0)) = true := by decide +kernel
theorem zmok_l8 : zc144_8.all (zentok (⟨"PantryMarketLaw", "law", "([I)Z"⟩, code, some .boolean, 0, 0, 0, 0)) = true := by decide +kernel
theorem zmok_law : zmok 144 = true := by
  show ((zc144_0 ++ (zc144_1 ++ (zc144_2 ++ (zc144_3 ++ (zc144_4 ++ (zc144_5 ++ (zc144_6 ++ (zc144_7 ++ zc144_8)))))))).all (zentok (⟨"PantryMarketLaw", "law", "([I)Z"⟩, code, some .boolean, 0, 0, 0, 0)) && true && decide ((some FieldType.boolean : Option FieldType) = some .boolean)) = true
  simp only [List.all_append, zmok_l0, zmok_l1, zmok_l2, zmok_l3, zmok_l4, zmok_l5, zmok_l6, zmok_l7, zmok_l8, Bool.and_self, decide_true]
theorem zmoku_0 {j : Nat} (h1 : 0 ≤ j) (h2 : j < 10) : zmok j = true := List.all_eq_true.mp zmok_0 j (List.mem_map.mpr ⟨j - 0, List.mem_range.mpr (by omega), by omega⟩)
theorem zmoku_1 {j : Nat} (h1 : 10 ≤ j) (h2 : j < 25) : zmok j = true := List.all_eq_true.mp zmok_1 j (List.mem_map.mpr ⟨j - 10, List.mem_range.mpr (by omega), by omega⟩)
theorem zmoku_2 {j : Nat} (h1 : 25 ≤ j) (h2 : j < 40) : zmok j = true := List.all_eq_true.mp zmok_2 j (List.mem_map.mpr ⟨j - 25, List.mem_range.mpr (by omega), by omega⟩)
theorem zmoku_3 {j : Nat} (h1 : 40 ≤ j) (h2 : j < 55) : zmok j = true := List.all_eq_true.mp zmok_3 j (List.mem_map.mpr ⟨j - 40, List.mem_range.mpr (by omega), by omega⟩)
theorem zmoku_4 {j : Nat} (h1 : 55 ≤ j) (h2 : j < 70) : zmok j = true := List.all_eq_true.mp zmok_4 j (List.mem_map.mpr ⟨j - 55, List.mem_range.mpr (by omega), by omega⟩)
theorem zmoku_5 {j : Nat} (h1 : 70 ≤ j) (h2 : j < 85) : zmok j = true := List.all_eq_true.mp zmok_5 j (List.mem_map.mpr ⟨j - 70, List.mem_range.mpr (by omega), by omega⟩)
theorem zmoku_6 {j : Nat} (h1 : 85 ≤ j) (h2 : j < 100) : zmok j = true := List.all_eq_true.mp zmok_6 j (List.mem_map.mpr ⟨j - 85, List.mem_range.mpr (by omega), by omega⟩)
theorem zmoku_7 {j : Nat} (h1 : 100 ≤ j) (h2 : j < 110) : zmok j = true := List.all_eq_true.mp zmok_7 j (List.mem_map.mpr ⟨j - 100, List.mem_range.mpr (by omega), by omega⟩)
theorem zmoku_8 {j : Nat} (h1 : 110 ≤ j) (h2 : j < 120) : zmok j = true := List.all_eq_true.mp zmok_8 j (List.mem_map.mpr ⟨j - 110, List.mem_range.mpr (by omega), by omega⟩)
theorem zmoku_9 {j : Nat} (h1 : 120 ≤ j) (h2 : j < 128) : zmok j = true := List.all_eq_true.mp zmok_9 j (List.mem_map.mpr ⟨j - 120, List.mem_range.mpr (by omega), by omega⟩)
theorem zmoku_10 {j : Nat} (h1 : 128 ≤ j) (h2 : j < 136) : zmok j = true := List.all_eq_true.mp zmok_10 j (List.mem_map.mpr ⟨j - 128, List.mem_range.mpr (by omega), by omega⟩)
theorem zmoku_11 {j : Nat} (h1 : 136 ≤ j) (h2 : j < 144) : zmok j = true := List.all_eq_true.mp zmok_11 j (List.mem_map.mpr ⟨j - 136, List.mem_range.mpr (by omega), by omega⟩)
theorem zmok_all {j : Nat} (h : j < 145) : zmok j = true := by
  by_cases h0 : j < 10
  · exact zmoku_0 (by omega) h0
  by_cases h1 : j < 25
  · exact zmoku_1 (by omega) h1
  by_cases h2 : j < 40
  · exact zmoku_2 (by omega) h2
  by_cases h3 : j < 55
  · exact zmoku_3 (by omega) h3
  by_cases h4 : j < 70
  · exact zmoku_4 (by omega) h4
  by_cases h5 : j < 85
  · exact zmoku_5 (by omega) h5
  by_cases h6 : j < 100
  · exact zmoku_6 (by omega) h6
  by_cases h7 : j < 110
  · exact zmoku_7 (by omega) h7
  by_cases h8 : j < 120
  · exact zmoku_8 (by omega) h8
  by_cases h9 : j < 128
  · exact zmoku_9 (by omega) h9
  by_cases h10 : j < 136
  · exact zmoku_10 (by omega) h10
  by_cases h11 : j < 144
  · exact zmoku_11 (by omega) h11
  have hj : j = 144 := by omega
  subst hj
  exact zmok_law
end
section
theorem zi1_some {α : Type} {st : List Value} {f : Int32 → List Value → Option α} {q : α} (h : zi1 st f = some q) : ∃ x r, st = .int x :: r ∧ f x r = some q := by
  unfold zi1 at h
  split at h
  · exact ⟨_, _, rfl, h⟩
  · cases h
theorem zr1_some {α : Type} {st : List Value} {f : Nat → List Value → Option α} {q : α} (h : zr1 st f = some q) : ∃ x r, st = .ref x :: r ∧ f x r = some q := by
  unfold zr1 at h
  split at h
  · exact ⟨_, _, rfl, h⟩
  · cases h
theorem zl1_some {α : Type} {st : List Value} {f : Int64 → List Value → Option α} {q : α} (h : zl1 st f = some q) : ∃ x r, st = .long x :: r ∧ f x r = some q := by
  unfold zl1 at h
  split at h
  · exact ⟨_, _, rfl, h⟩
  · cases h
theorem zp1_some {α : Type} {st : List Value} {f : Nat → List Value → Option α} {q : α} (h : zp1 st f = some q) : ∃ x r, st = .ref (x + 1) :: r ∧ f x r = some q := by
  unfold zp1 at h
  split at h
  · exact ⟨_, _, rfl, h⟩
  · cases h
theorem zv1_some {α : Type} {st : List Value} {f : Value → List Value → Option α} {q : α} (h : zv1 st f = some q) : ∃ x r, st = x :: r ∧ f x r = some q := by
  unfold zv1 at h
  split at h
  · exact ⟨_, _, rfl, h⟩
  · cases h
theorem zli_some {α : Type} {ls : List Slot} {i : Nat} {f : Int32 → Option α} {q : α} (h : zli ls i f = some q) : ∃ x, ls[i]? = some (.val (.int x)) ∧ f x = some q := by
  unfold zli at h
  split at h
  · exact ⟨_, by assumption, h⟩
  · cases h
theorem zlr_some {α : Type} {ls : List Slot} {i : Nat} {f : Nat → Option α} {q : α} (h : zlr ls i f = some q) : ∃ x, ls[i]? = some (.val (.ref x)) ∧ f x = some q := by
  unfold zlr at h
  split at h
  · exact ⟨_, by assumption, h⟩
  · cases h
theorem ztg_some {pc t : Nat} {off : Int} (h : ztg pc off = some t) : (pc : Int) + off = (t : Int) := by
  unfold ztg at h
  split at h
  · cases h
    omega
  · cases h
def zrf (b z : Nat) : Nat → Nat
  | 0 => b
  | k + 1 => z + k
def zv (b z : Nat) : Value → Value
  | .ref a => .ref (zrf b z a)
  | v => v
def zs (b z : Nat) : Slot → Slot
  | .val v => .val (zv b z v)
  | x => x
def zls (b z : Nat) (ls : List Slot) : Array Slot := (ls.map (zs b z)).toArray
theorem zls_get {b z : Nat} {ls : List Slot} {i : Nat} {v : Value} (h : ls[i]? = some (.val v)) : (zls b z ls)[i]? = some (.val (zv b z v)) := by
  simp [zls, h, zs]
theorem zls_size {b z : Nat} {ls : List Slot} : (zls b z ls).size = ls.length := by simp [zls]
theorem zst_ok {b z : Nat} {ls l : List Slot} {i : Nat} {v : Value} (h : zst ls i v = some l) (hv : (zv b z v).category = 1) : storeLocals (zls b z ls) i (zv b z v) = some (zls b z l) := by
  unfold zst at h
  split at h
  · rename_i hx
    cases h
    rw [storeLocals_cat1 (x := .unset) (by simp [zls, hx, zs]) hv trivial]
    simp [zls, zs, List.map_set]
  · rename_i w hx
    cases h
    rw [storeLocals_cat1 (x := .val (.int w)) (by simp [zls, hx, zs, zv]) hv rfl]
    simp [zls, zs, List.map_set]
  · rename_i w hx
    cases h
    rw [storeLocals_cat1 (x := .val (.ref (zrf b z w))) (by simp [zls, hx, zs, zv]) hv rfl]
    simp [zls, zs, List.map_set]
  · cases h
theorem zst_len {ls l : List Slot} {i : Nat} {v : Value} (h : zst ls i v = some l) : l.length = ls.length := by
  unfold zst at h
  split at h <;> cases h <;> simp
section ZFR
variable {p : Program} {l : Launch} {e : Env} {R : Room} {s : State} {m : MethodId} {args : Array Value} {below : List Frame} {meth : Method} {c : Code} {H : Heap} {locs : List Loc} {cells slots : Nat} {Q : State → Prop}
variable {cc : ByteArray} {pc : Nat} {ls ls' : List Slot} {b z : Nat} {rest : List Value}
theorem zw_istore (hexec : p.tables.exec = Jvm.exec) (hb : c.code = cc) {i : Nat} {x : Int32} (hdg : decode cc pc = .ok (.istore i, 2)) (h : zst ls i (.int x) = some ls')
    (k : W p l e R s m args below meth c H locs cells slots Q (F0 m (pc + 2) (zls b z ls') rest)) : W p l e R s m args below meth c H locs cells slots Q (F0 m pc (zls b z ls) (.int x :: rest)) := by
  have e' := zst_ok (b := b) (z := z) h rfl
  simp only [zv] at e'
  intro T hT X
  obtain ⟨t, a, b⟩ := k T hT X
  refine ⟨t, ?_, b⟩
  jvm_step X.here [X.here.top, ↓top_set X.here.top, hexec, hb, hdg, e']
  exact a
theorem zw_istore_n (hexec : p.tables.exec = Jvm.exec) (hb : c.code = cc) {i : Fin 4} {x : Int32} (hdg : decode cc pc = .ok (.istore_n i, 1)) (h : zst ls i.val (.int x) = some ls')
    (k : W p l e R s m args below meth c H locs cells slots Q (F0 m (pc + 1) (zls b z ls') rest)) : W p l e R s m args below meth c H locs cells slots Q (F0 m pc (zls b z ls) (.int x :: rest)) := by
  have e' := zst_ok (b := b) (z := z) h rfl
  simp only [zv] at e'
  intro T hT X
  obtain ⟨t, a, b⟩ := k T hT X
  refine ⟨t, ?_, b⟩
  jvm_step X.here [X.here.top, ↓top_set X.here.top, hexec, hb, hdg, e']
  exact a
theorem zw_astore (hexec : p.tables.exec = Jvm.exec) (hb : c.code = cc) {i : Nat} {x : Nat} (hdg : decode cc pc = .ok (.astore i, 2)) (h : zst ls i (.ref x) = some ls')
    (k : W p l e R s m args below meth c H locs cells slots Q (F0 m (pc + 2) (zls b z ls') rest)) : W p l e R s m args below meth c H locs cells slots Q (F0 m pc (zls b z ls) (.ref (zrf b z x) :: rest)) := by
  have e' := zst_ok (b := b) (z := z) h rfl
  simp only [zv] at e'
  intro T hT X
  obtain ⟨t, a, b⟩ := k T hT X
  refine ⟨t, ?_, b⟩
  jvm_step X.here [X.here.top, ↓top_set X.here.top, hexec, hb, hdg, e', Value.isRef]
  exact a
theorem zw_astore_n (hexec : p.tables.exec = Jvm.exec) (hb : c.code = cc) {i : Fin 4} {x : Nat} (hdg : decode cc pc = .ok (.astore_n i, 1)) (h : zst ls i.val (.ref x) = some ls')
    (k : W p l e R s m args below meth c H locs cells slots Q (F0 m (pc + 1) (zls b z ls') rest)) : W p l e R s m args below meth c H locs cells slots Q (F0 m pc (zls b z ls) (.ref (zrf b z x) :: rest)) := by
  have e' := zst_ok (b := b) (z := z) h rfl
  simp only [zv] at e'
  intro T hT X
  obtain ⟨t, a, b⟩ := k T hT X
  refine ⟨t, ?_, b⟩
  jvm_step X.here [X.here.top, ↓top_set X.here.top, hexec, hb, hdg, e', Value.isRef]
  exact a
theorem zw_iinc (hexec : p.tables.exec = Jvm.exec) (hb : c.code = cc) {i : Nat} {n : Int} {x : Int32} (hdg : decode cc pc = .ok (.iinc i n, 3)) (hx : ls[i]? = some (.val (.int x))) (h : zst ls i (.int (x + Int32.ofInt n)) = some ls')
    (k : W p l e R s m args below meth c H locs cells slots Q (F0 m (pc + 3) (zls b z ls') rest)) : W p l e R s m args below meth c H locs cells slots Q (F0 m pc (zls b z ls) rest) := by
  have e' := zst_ok (b := b) (z := z) h rfl
  have hg := zls_get (b := b) (z := z) hx
  simp only [zv] at e' hg
  intro T hT X
  obtain ⟨t, a, b⟩ := k T hT X
  refine ⟨t, ?_, b⟩
  jvm_step X.here [X.here.top, ↓top_set X.here.top, hexec, hb, hdg, hg, e']
  exact a
theorem zw_dup2 (hexec : p.tables.exec = Jvm.exec) (hb : c.code = cc) {y : Int32} {x : Nat} {lz : Array Slot} (hdg : decode cc pc = .ok (.dup2, 1))
    (k : W p l e R s m args below meth c H locs cells slots Q (F0 m (pc + 1) lz (.int y :: .ref x :: .int y :: .ref x :: rest))) : W p l e R s m args below meth c H locs cells slots Q (F0 m pc lz (.int y :: .ref x :: rest)) := by
  intro T hT X
  obtain ⟨t, a, b⟩ := k T hT X
  refine ⟨t, ?_, b⟩
  jvm_step X.here [X.here.top, hexec, hb, hdg, Value.category]
  exact a
end ZFR
end
section
section ZFS
variable {p : Program} {l : Launch} {e : Env} {R : Room} {s : State} {m : MethodId} {args : Array Value} {below : List Frame} {meth : Method} {c : Code} {H : Heap} {locs : List Loc} {cells slots : Nat} {Q : State → Prop}
variable {cc : ByteArray} {pc : Nat} {ls : List Slot} {b z : Nat}
theorem zbr_ok {cd : Bool} {off : Int} {r : Nat × List Slot × List Value} {st : List Value} (h : zbr cd pc off ls st = some r)
    (k : W p l e R s m args below meth c H locs cells slots Q (F0 m r.1 (zls b z r.2.1) (r.2.2.map (zv b z)))) :
    ∃ t : Nat, (pc : Int) + off = (t : Int) ∧ (cd = true → W p l e R s m args below meth c H locs cells slots Q (F0 m t (zls b z ls) (st.map (zv b z)))) ∧ (cd = false → W p l e R s m args below meth c H locs cells slots Q (F0 m (pc + 3) (zls b z ls) (st.map (zv b z)))) := by
  unfold zbr at h
  obtain ⟨t, ht, h⟩ := Option.bind_eq_some_iff.mp h
  cases h
  refine ⟨t, ztg_some ht, fun hc => ?_, fun hc => ?_⟩ <;> (subst hc; exact k)
theorem zif_ok (hexec : p.tables.exec = Jvm.exec) (hb : c.code = cc) {cd : ClassFile.Cond} {x : Int32} {off : Int} {tgt : Nat} {lz : Array Slot} {rest : List Value} (hdg : decode cc pc = .ok (.ifCond cd off, 3)) (ht : (pc : Int) + off = (tgt : Int))
    (kt : zcnd cd x 0 = true → W p l e R s m args below meth c H locs cells slots Q (F0 m tgt lz rest)) (kf : zcnd cd x 0 = false → W p l e R s m args below meth c H locs cells slots Q (F0 m (pc + 3) lz rest)) :
    W p l e R s m args below meth c H locs cells slots Q (F0 m pc lz (.int x :: rest)) := by
  cases cd
  · exact lv_if_eq hexec hb hdg ht (fun h => kt (by simpa [zcnd] using h)) (fun h => kf (by simpa [zcnd] using h))
  · exact lv_if_ne hexec hb hdg ht (fun h => kt (by simpa [zcnd] using h)) (fun h => kf (by simpa [zcnd] using h))
  · exact lv_if_lt hexec hb hdg ht (fun h => kt (by simpa [zcnd] using h)) (fun h => kf (by simpa [zcnd] using h))
  · exact lv_if_ge hexec hb hdg ht (fun h => kt (by simpa [zcnd] using h)) (fun h => kf (by simpa [zcnd] using h))
  · exact lv_if_gt hexec hb hdg ht (fun h => kt (by simpa [zcnd] using h)) (fun h => kf (by simpa [zcnd] using h))
  · exact lv_if_le hexec hb hdg ht (fun h => kt (by simpa [zcnd] using h)) (fun h => kf (by simpa [zcnd] using h))
theorem zcm_ok (hexec : p.tables.exec = Jvm.exec) (hb : c.code = cc) {cd : ClassFile.Cond} {x y : Int32} {off : Int} {tgt : Nat} {lz : Array Slot} {rest : List Value} (hdg : decode cc pc = .ok (.if_icmp cd off, 3)) (ht : (pc : Int) + off = (tgt : Int))
    (kt : zcnd cd x y = true → W p l e R s m args below meth c H locs cells slots Q (F0 m tgt lz rest)) (kf : zcnd cd x y = false → W p l e R s m args below meth c H locs cells slots Q (F0 m (pc + 3) lz rest)) :
    W p l e R s m args below meth c H locs cells slots Q (F0 m pc lz (.int y :: .int x :: rest)) := by
  cases cd
  · exact lv_icmp_eq hexec hb hdg ht (fun h => kt (by simpa [zcnd] using h)) (fun h => kf (by simpa [zcnd] using h))
  · exact lv_icmp_ne hexec hb hdg ht (fun h => kt (by simpa [zcnd] using h)) (fun h => kf (by simpa [zcnd] using h))
  · exact lv_icmp_lt hexec hb hdg ht (fun h => kt (by simpa [zcnd] using h)) (fun h => kf (by simpa [zcnd] using h))
  · exact lv_icmp_ge hexec hb hdg ht (fun h => kt (by simpa [zcnd] using h)) (fun h => kf (by simpa [zcnd] using h))
  · exact lv_icmp_gt hexec hb hdg ht (fun h => kt (by simpa [zcnd] using h)) (fun h => kf (by simpa [zcnd] using h))
  · exact lv_icmp_le hexec hb hdg ht (fun h => kt (by simpa [zcnd] using h)) (fun h => kf (by simpa [zcnd] using h))
set_option maxHeartbeats 4000000 in
theorem zfr_ok (hexec : p.tables.exec = Jvm.exec) (hb : c.code = cc) {ins : Instr} {n : Nat} {st : List Value} {r : Nat × List Slot × List Value} (hdg : decode cc pc = .ok (ins, n)) (hn : n = zlen ins ∨ ztab ins = true) (h : zfr ins pc ls st = some r)
    (k : W p l e R s m args below meth c H locs cells slots Q (F0 m r.1 (zls b z r.2.1) (r.2.2.map (zv b z)))) : W p l e R s m args below meth c H locs cells slots Q (F0 m pc (zls b z ls) (st.map (zv b z))) := by
  have hl : ztab ins = false → decode cc pc = .ok (ins, zlen ins) := fun hf => by
    rcases hn with hn | hn
    · rw [← hn]; exact hdg
    · rw [hf] at hn; cases hn
  cases ins
  case iconst v => cases h; exact lv_iconst hexec hb (hl rfl) rfl k
  case bipush v => cases h; exact lv_bipush hexec hb (hl rfl) rfl k
  case sipush v => cases h; exact lv_sipush hexec hb (hl rfl) rfl k
  case iload i => obtain ⟨x, hx, h⟩ := zli_some h; cases h; exact lv_iload hexec hb (hl rfl) (zls_get hx) k
  case iload_n i => obtain ⟨x, hx, h⟩ := zli_some h; cases h; exact lv_iload_n hexec hb (hl rfl) rfl (zls_get hx) k
  case aload i => obtain ⟨x, hx, h⟩ := zlr_some h; cases h; exact lv_aload hexec hb (hl rfl) (zls_get hx) k
  case aload_n i => obtain ⟨x, hx, h⟩ := zlr_some h; cases h; exact lv_aload_n hexec hb (hl rfl) rfl (zls_get hx) k
  case istore i => obtain ⟨x, r, rfl, h⟩ := zi1_some h; obtain ⟨l', hl', h⟩ := Option.bind_eq_some_iff.mp h; cases h; exact zw_istore hexec hb (hl rfl) hl' k
  case istore_n i => obtain ⟨x, r, rfl, h⟩ := zi1_some h; obtain ⟨l', hl', h⟩ := Option.bind_eq_some_iff.mp h; cases h; exact zw_istore_n hexec hb (hl rfl) hl' k
  case astore i => obtain ⟨x, r, rfl, h⟩ := zr1_some h; obtain ⟨l', hl', h⟩ := Option.bind_eq_some_iff.mp h; cases h; exact zw_astore hexec hb (hl rfl) hl' k
  case astore_n i => obtain ⟨x, r, rfl, h⟩ := zr1_some h; obtain ⟨l', hl', h⟩ := Option.bind_eq_some_iff.mp h; cases h; exact zw_astore_n hexec hb (hl rfl) hl' k
  case iinc i v => obtain ⟨x, hx, h⟩ := zli_some h; obtain ⟨l', hl', h⟩ := Option.bind_eq_some_iff.mp h; cases h; exact zw_iinc hexec hb (hl rfl) hx hl' k
  case pop => obtain ⟨x, r, rfl, h⟩ := zi1_some h; cases h; exact lv_pop hexec hb (hl rfl) rfl k
  case dup => obtain ⟨x, r, rfl, h⟩ := zr1_some h; cases h; exact lv_dup hexec hb (hl rfl) rfl k
  case dup2 => obtain ⟨y, r, rfl, h⟩ := zi1_some h; obtain ⟨x, r, rfl, h⟩ := zr1_some h; cases h; exact zw_dup2 hexec hb (hl rfl) k
  case iadd => obtain ⟨y, r, rfl, h⟩ := zi1_some h; obtain ⟨x, r, rfl, h⟩ := zi1_some h; cases h; exact lv_iadd hexec hb (hl rfl) k
  case isub => obtain ⟨y, r, rfl, h⟩ := zi1_some h; obtain ⟨x, r, rfl, h⟩ := zi1_some h; cases h; exact lv_isub hexec hb (hl rfl) k
  case imul => obtain ⟨y, r, rfl, h⟩ := zi1_some h; obtain ⟨x, r, rfl, h⟩ := zi1_some h; cases h; exact lv_imul hexec hb (hl rfl) k
  case idiv =>
    obtain ⟨y, r, rfl, h1⟩ := zi1_some h; obtain ⟨x, r, rfl, h2⟩ := zi1_some h1
    split at h2
    · cases h2
    · cases h2; exact lv_idiv hexec hb (hl rfl) (by assumption) k
  case irem =>
    obtain ⟨y, r, rfl, h1⟩ := zi1_some h; obtain ⟨x, r, rfl, h2⟩ := zi1_some h1
    split at h2
    · cases h2
    · cases h2; exact lv_irem hexec hb (hl rfl) (by assumption) k
  case ineg => obtain ⟨x, r, rfl, h⟩ := zi1_some h; cases h; exact lv_ineg hexec hb (hl rfl) k
  case iand => obtain ⟨y, r, rfl, h⟩ := zi1_some h; obtain ⟨x, r, rfl, h⟩ := zi1_some h; cases h; exact lv_iand hexec hb (hl rfl) k
  case ior => obtain ⟨y, r, rfl, h⟩ := zi1_some h; obtain ⟨x, r, rfl, h⟩ := zi1_some h; cases h; exact lv_ior hexec hb (hl rfl) k
  case ixor => obtain ⟨y, r, rfl, h⟩ := zi1_some h; obtain ⟨x, r, rfl, h⟩ := zi1_some h; cases h; exact lv_ixor hexec hb (hl rfl) k
  case ishl => obtain ⟨y, r, rfl, h⟩ := zi1_some h; obtain ⟨x, r, rfl, h⟩ := zi1_some h; cases h; exact lv_ishl hexec hb (hl rfl) k
  case ishr => obtain ⟨y, r, rfl, h⟩ := zi1_some h; obtain ⟨x, r, rfl, h⟩ := zi1_some h; cases h; exact lv_ishr hexec hb (hl rfl) k
  case iushr => obtain ⟨y, r, rfl, h⟩ := zi1_some h; obtain ⟨x, r, rfl, h⟩ := zi1_some h; cases h; exact lv_iushr hexec hb (hl rfl) rfl k
  case i2l => obtain ⟨x, r, rfl, h⟩ := zi1_some h; cases h; exact lv_i2l hexec hb (hl rfl) rfl k
  case lcmp => obtain ⟨y, r, rfl, h⟩ := zl1_some h; obtain ⟨x, r, rfl, h⟩ := zl1_some h; cases h; exact W.lcmp hexec hb (hl rfl) k
  case goto off => obtain ⟨t, ht, h⟩ := Option.bind_eq_some_iff.mp h; cases h; exact lv_goto hexec hb (hl rfl) (ztg_some ht) k
  case ifCond cd off => obtain ⟨x, r, rfl, h⟩ := zi1_some h; obtain ⟨t, ht, kt, kf⟩ := zbr_ok h k; exact zif_ok hexec hb (hl rfl) ht kt kf
  case if_icmp cd off => obtain ⟨y, r, rfl, h⟩ := zi1_some h; obtain ⟨x, r, rfl, h⟩ := zi1_some h; obtain ⟨t, ht, kt, kf⟩ := zbr_ok h k; exact zcm_ok hexec hb (hl rfl) ht kt kf
  case tableswitch d lo hi offs =>
    obtain ⟨x, r, rfl, h1⟩ := zi1_some h
    split at h1
    · obtain ⟨t, ht, h3⟩ := Option.bind_eq_some_iff.mp h1; cases h3
      exact lv_tableOut hexec hb hdg (by assumption) (ztg_some ht) k
    · rename_i hno
      obtain ⟨o, ho, h2⟩ := Option.bind_eq_some_iff.mp h1
      obtain ⟨t, ht, h3⟩ := Option.bind_eq_some_iff.mp h2; cases h3
      exact lv_tableIn hexec hb hdg (fun q => hno (Or.inl q)) (fun q => hno (Or.inr q)) ho (ztg_some ht) k
  all_goals exact absurd h (by simp [zfr])
end ZFS
end
section
def zwk : Cond → Bool
  | .arrayClass _ => true
  | .arrayOver (.object _) => true
  | .stringRef _ _ _ => true
  | .laysStatic _ _ _ => true
  | .fieldLinkNest _ _ _ _ _ _ => true
  | .methodLinkNest _ _ _ _ => true
  | w => w.onTables && w.keepsFace
theorem zwk_all : lw_tbl.all zwk = true := by decide +kernel
/-- where a state lies behind the start: warmer tables, the old cells as they were -/
def zEn (s0 U : State) : Prop := s0.WarmedH U.vm ∧ ∀ q : Nat, q < s0.heap.size → U.heap[q]? = s0.heap[q]?
theorem zlays_move {s0 U : State} {A A' : Array Value} {o n d : String} (hE : zEn s0 U) (h : (Cond.laysStatic o n d).before A s0 = true) : (Cond.laysStatic o n d).before A' U = true := by
  obtain ⟨c, k, i, f, a, cell, hc, hi, hst, ha, hcell, hs, hcls, hlt, hty⟩ := Cond.laysStatic_spec h
  have hvm := hE.1.alike
  obtain ⟨k', hi', he⟩ := State.fieldFound?_setVm hvm hi
  have hc' : U.vm.findClass o = some c := by rw [hvm.findClass]; exact hc
  have hi2 : U.fieldFound? o n d = some (c, k', i, f) := hi'
  have ha' : k'.statics = some a := by rw [he]; exact ha
  have hty' : k'.staticTypes[f.slot]? = some f.type := by rw [he]; exact hty
  have hcell' : U.heap[a]? = some cell := by rw [hE.2 a (Array.getElem?_eq_some_iff.mp hcell).1]; exact hcell
  simp [Cond.before, Cond.holds, Cond.value, hc', hi2, ha', hcell', hst, hs, hcls, hlt, hty']
theorem zref_move {s0 U : State} {A A' : Array Value} {o n d : String} (hE : zEn s0 U) (hl : (Cond.laysStatic o n d).before A s0 = true) (hini : (Cond.initialized o).before A s0 = true) (h : (Cond.isRef (.static o n d)).before A s0 = true) : (Cond.isRef (.static o n d)).before A' U = true := by
  have hZ := va_Zqof (A := fun q => s0.heap.size ≤ q) hl hini h (fun a ha => Nat.not_le.mpr ha)
  have hZ2 := (hZ.moved hE.1.alike).kept (H1 := U.heap) (fun a ha _ => hE.2 a ha)
  have key : ∀ v : Value, va_Z o n d v (fun q => s0.heap.size ≤ q) U U.heap → (Term.static o n d).eval A' U none [] U = some v := by
    intro v hv
    obtain ⟨cf, kf, fi, f, a, cell, h1, h2, h3, h4, h5, h6, h7, h8⟩ := hv
    simp [Term.eval, State.fieldNamed?, h1, h2, h4, h5, h6, h7]
  rcases hZ2 with hz | ⟨t, hz⟩
  · simp [Cond.before, Cond.holds, Cond.value, key _ hz]
  · simp [Cond.before, Cond.holds, Cond.value, key _ hz]
theorem zwat {s0 U : State} {A A' : Array Value} (hE : zEn s0 U) {w : Cond} (hw : w ∈ lw_tbl) (h : w.before A s0 = true) : w.before A' U = true := by
  have hk : zwk w = true := List.all_eq_true.mp zwk_all w hw
  have face : w.onTables = true → w.keepsFace = true → w.before A' U = true := fun h1 h2 =>
    va_tabs h1 (rfl : (s0.setVm U.vm).vm = U.vm) (Cond.before_shiftedFace (State.Shifted.of_warmed hE.1) w h2 h)
  unfold zwk at hk
  split at hk
  · exact word_at hE.1 (Or.inr ⟨_, rfl⟩) h
  · exact va_AO.use (va_AO.moved hE.1.alike (va_AO.of h))
  · have h1 := Cond.stringRef_warmed hE.1 h
    simp only [Cond.before, Cond.holds, Cond.value, State.names, State.poolOf?, State.resolvedAt?] at h1 ⊢
    exact h1
  · exact zlays_move hE h
  · exact va_tabs rfl (rfl : (s0.setVm U.vm).vm = U.vm) (Cond.fieldLinkNest_warmed hE.1 h)
  · exact va_tabs rfl (rfl : (s0.setVm U.vm).vm = U.vm) (Cond.methodLinkNest_warmed hE.1 h)
  · rw [Bool.and_eq_true] at hk
    exact face hk.1 hk.2
end
section
def zR (s0 : State) (D : va_G) (b : Nat) (c : Zc) (cell : Cell) : Prop :=
  (c.1 < 7 → cell.cls = D.1 c.1 ∧ cell.vm = .none ∧ c.2.length = zfn c.1 ∧ ∀ k, k < zfn c.1 → cell.slots[D.2 c.1 k]? = some (zv b s0.heap.size (c.2.getD k .null))) ∧
  (100 ≤ c.1 → c.1 < 105 → cell.vm ≠ .unknown ∧ s0.isArrayOf cell (zaty c.1) ∧ (103 ≤ c.1 → va_RA s0 cell.cls (zaty c.1)) ∧ cell.slots = (c.2.map (zv b s0.heap.size)).toArray) ∧
  (200 ≤ c.1 → c.1 < 203 → s0.vm.findClass (zexn.getD (c.1 - 200) "") = some cell.cls ∧ cell.vm.isStatics = false)
def zRel (s0 : State) (D : va_G) (b : Nat) (h : Zh) (H : Heap) : Prop :=
  (1 ≤ h.length ∧ H.size + 1 = s0.heap.size + h.length) ∧ (∀ q : Nat, q < s0.heap.size → H[q]? = s0.heap[q]?) ∧ ∀ (k : Nat) (c : Zc), h[k]? = some c → ∃ cell, H[zrf b s0.heap.size k]? = some cell ∧ zR s0 D b c cell
theorem zrf_inj {b z : Nat} (hb : b < z) {i j : Nat} (h : zrf b z i = zrf b z j) : i = j := by
  cases i <;> cases j <;> simp only [zrf] at h <;> omega
theorem zRel.set {s0 : State} {D : va_G} {b : Nat} {h : Zh} {H H' : Heap} {k : Nat} {c' : Zc} {cell : Cell} (hb : b < s0.heap.size) (hR : zRel s0 D b h H) (hc : H'[zrf b s0.heap.size (k + 1)]? = some cell) (hz : zR s0 D b c' cell) (hs : H'.size = H.size) (ho : ∀ q : Nat, q ≠ zrf b s0.heap.size (k + 1) → H'[q]? = H[q]?) : zRel s0 D b (h.set (k + 1) c') H' := by
  obtain ⟨h1, h2, h3⟩ := hR
  refine ⟨by rw [List.length_set, hs]; exact h1, fun q hq => ?_, fun i c hi => ?_⟩
  · rw [ho q (by simp only [zrf]; omega)]; exact h2 q hq
  · by_cases hik : i = k + 1
    · subst hik
      rw [List.getElem?_set] at hi
      simp only [if_true] at hi
      split at hi
      · cases hi; exact ⟨cell, hc, hz⟩
      · cases hi
    · rw [List.getElem?_set_ne (Ne.symm hik)] at hi
      obtain ⟨cl, g1, g2⟩ := h3 i c hi
      exact ⟨cl, by rw [ho _ (fun e => hik (zrf_inj hb e))]; exact g1, g2⟩
theorem zRel.push {s0 : State} {D : va_G} {b : Nat} {h : Zh} {H H' : Heap} {c' : Zc} {cell : Cell} (hb : b < s0.heap.size) (hR : zRel s0 D b h H) (hc : H'[H.size]? = some cell) (hz : zR s0 D b c' cell) (hs : H'.size = H.size + 1) (ho : ∀ q : Nat, q < H.size → H'[q]? = H[q]?) : zRel s0 D b (h ++ [c']) H' := by
  obtain ⟨⟨h0, h1⟩, h2, h3⟩ := hR
  refine ⟨⟨by simp, by rw [List.length_append, hs]; simp only [List.length_cons, List.length_nil]; omega⟩, fun q hq => ?_, fun i c hi => ?_⟩
  · rw [ho q (by omega)]; exact h2 q hq
  · by_cases hik : i < h.length
    · rw [List.getElem?_append_left hik] at hi
      obtain ⟨cl, g1, g2⟩ := h3 i c hi
      exact ⟨cl, by rw [ho _ (Array.getElem?_eq_some_iff.mp g1).1]; exact g1, g2⟩
    · have hlt := (List.getElem?_eq_some_iff.mp hi).1
      rw [List.length_append, List.length_cons, List.length_nil] at hlt
      have he : i = h.length := by omega
      subst he
      rw [List.getElem?_append_right (Nat.le_refl _), Nat.sub_self] at hi
      cases hi
      have e : zrf b s0.heap.size h.length = H.size := by
        obtain ⟨n, hn⟩ : ∃ n, h.length = n + 1 := ⟨h.length - 1, by omega⟩
        rw [hn]
        simp only [zrf]
        omega
      exact ⟨cell, by rw [e]; exact hc, hz⟩
theorem zRel.top {s0 : State} {D : va_G} {b : Nat} {h : Zh} {H : Heap} (hR : zRel s0 D b h H) : zrf b s0.heap.size h.length = H.size := by
  obtain ⟨⟨h0, h1⟩, -⟩ := hR
  obtain ⟨n, hn⟩ : ∃ n, h.length = n + 1 := ⟨h.length - 1, by omega⟩
  rw [hn]
  simp only [zrf]
  omega
theorem zRel.en {s0 : State} {D : va_G} {b : Nat} {h : Zh} {U : State} (hR : zRel s0 D b h U.heap) (hW : s0.WarmedH U.vm) : zEn s0 U := ⟨hW, hR.2.1⟩
/-- what is given at the start -/
def zB (s0 : State) (D : va_G) (b : Nat) : Prop :=
  b < s0.heap.size ∧ (∀ w ∈ lw_tbl, w.before #[Value.ref b] s0 = true) ∧ va_K D zvc [] s0 ∧
  (Cond.isRef (.static "java/lang/Throwable" "UNASSIGNED_STACK" "[Ljava/lang/StackTraceElement;")).before #[Value.ref b] s0 = true ∧
  (Cond.isRef (.static "java/lang/Throwable" "SUPPRESSED_SENTINEL" "Ljava/util/List;")).before #[Value.ref b] s0 = true ∧
  ∀ x y : Nat, x < 3 → y < 3 → x ≠ y → (Cond.not (Cond.castable (zexn.getD x "") (zexn.getD y ""))).before #[Value.ref b] s0 = true
def zfty (ci k : Nat) : FieldType := (parseFieldDescriptor (((zvc.getD ci ("", zT [], 0)).2.1 k).2.2.1)).getD .int
def zkok (ty : FieldType) : Nat → Bool
  | 0 => decide (ty = .int)
  | 1 => decide (ty = .boolean)
  | 2 => match ty with
    | .object _ => true
    | .array _ => true
    | _ => false
  | _ => false
def zclok (ci : Nat) : Bool :=
  match zvc[ci]? with
  | none => false
  | some q => decide (q.2.2 = zfn ci) && (u_ws q.1 q.2.1 q.2.2).all (fun w => decide (w ∈ lw_tbl)) && (List.range q.2.2).all (fun a => (List.range q.2.2).all (fun b => decide (a = b ∨ (q.2.1 a).2.1 ≠ (q.2.1 b).2.1))) && (List.range q.2.2).all (fun k => decide (parseFieldDescriptor (q.2.1 k).2.2.1 = some (zfty ci k)) && zkok (zfty ci k) (zfk ci k) && decide ((q.2.1 k).1 = q.1) && decide (defaultValue (zfty ci k) = zdv (zfk ci k)))
    && decide (Cond.instantiable q.1 (zfn ci) ∈ lw_tbl) && decide (Cond.initialized q.1 ∈ lw_tbl) && decide ((znewv ci).length = zfn ci) && decide (zfn ci ≤ 820)
theorem zclok_all : (List.range 7).all zclok = true := by decide +kernel
theorem zcl_of {ci : Nat} (h : ci < 7) : ∃ (C : String) (T : u_T), zvc[ci]? = some (C, T, zfn ci) ∧ (∀ w ∈ u_ws C T (zfn ci), w ∈ lw_tbl) ∧ (∀ a, a < zfn ci → ∀ b, b < zfn ci → a ≠ b → (T a).2.1 ≠ (T b).2.1) ∧
    (∀ k, k < zfn ci → parseFieldDescriptor (T k).2.2.1 = some (zfty ci k) ∧ zkok (zfty ci k) (zfk ci k) = true ∧ (T k).1 = C ∧ defaultValue (zfty ci k) = zdv (zfk ci k)) ∧ Cond.instantiable C (zfn ci) ∈ lw_tbl ∧ Cond.initialized C ∈ lw_tbl ∧ (znewv ci).length = zfn ci ∧ zfn ci ≤ 820 := by
  have h1 := List.all_eq_true.mp zclok_all ci (List.mem_range.mpr h)
  unfold zclok at h1
  split at h1
  · cases h1
  · rename_i q hq
    obtain ⟨C, T, N⟩ := q
    simp only [Bool.and_eq_true, decide_eq_true_eq, List.all_eq_true, List.mem_range] at h1
    obtain ⟨⟨⟨⟨⟨⟨⟨e1, e2⟩, e3⟩, e4⟩, e5⟩, e6⟩, e7⟩, e8⟩ := h1
    subst e1
    refine ⟨C, T, hq, e2, fun a ha b hb hab he => ?_, fun k hk => ?_, e5, e6, e7, e8⟩
    · rcases e3 a ha b hb with h3 | h3
      · exact hab h3
      · exact h3 he
    · obtain ⟨⟨⟨g1, g2⟩, g3⟩, g4⟩ := e4 k hk
      exact ⟨g1, g2, g3, g4⟩
end
section
theorem zmem {w : Cond} {i : Nat} (h : lw_tbl[i]? = some w) : w ∈ lw_tbl := List.mem_of_getElem? h
section ZHS
variable {p : Program} {l : Launch} {e : Env} {R : Room} {s : State} {m : MethodId} {args : Array Value} {below : List Frame} {meth : Method} {c : Code} {H : Heap} {locs : List Loc} {cells slots : Nat} {Q : State → Prop}
variable {cc : ByteArray} {pc : Nat} {lz : Array Slot} {b : Nat} {s0 : State} {D : va_G} {h : Zh} {own : String} {init : Bool} {rest : List Value}
theorem zw_at (hB : zB s0 D b) (hE : zEn s0 s) {w : Cond} (hw : w ∈ lw_tbl) : w.before args s = true := zwat hE hw (hB.2.1 w hw)
/-- a place of an array's, as the cell has it -/
theorem zarr_get {cell : Cell} {vs : List Value} {z : Nat} (hs : cell.slots = (vs.map (zv b z)).toArray) {i : Int32} {k : Nat} (hk : zix i vs.length = some k) {v : Value} (hv : vs[k]? = some v) :
    ¬ (i < 0 ∨ cell.slots.size ≤ i.toNatClampNeg) ∧ cell.slots[i.toNatClampNeg]? = some (zv b z v) := by
  unfold zix at hk
  split at hk
  · cases hk
  · rename_i hno
    cases hk
    refine ⟨by rw [hs]; simpa using hno, ?_⟩
    rw [hs]
    simp [hv]
theorem zget_ok (hexec : p.tables.exec = Jvm.exec) (hb : c.code = cc) (hB : zB s0 D b) (hE : zEn s0 s) (hown : s.vm.findClass own = some m.cls) {idx ci k w ne a : Nat} {cl : Zc} {v : Value} (hdg : decode cc pc = .ok (.getfield idx, 3)) (hev : zevf own idx ci k w ne = true) (hcl : h[a]? = some cl) (htag : cl.1 = ci) (hv : cl.2[k]? = some v) (hR : zRel s0 D b h H)
    (kk : W p l e R s m args below meth c H locs cells slots Q (F0 m (pc + 3) lz (zv b s0.heap.size v :: rest))) : W p l e R s m args below meth c H locs cells slots Q (F0 m pc lz (.ref (zrf b s0.heap.size a) :: rest)) := by
  unfold zevf at hev
  split at hev
  · rename_i q hq
    obtain ⟨C, T, N⟩ := q
    simp only [Bool.and_eq_true, decide_eq_true_eq] at hev
    obtain ⟨⟨e1, e2⟩, e3⟩ := hev
    obtain ⟨C', T', f1, f2, f3, f4, f5, f6, f7, f8⟩ := zcl_of e1
    cases hq.symm.trans f1
    obtain ⟨cell, g1, g2, -⟩ := hR.2.2 a cl hcl
    obtain ⟨g3, g4, g5, g6⟩ := g2 (by rw [htag]; exact e1)
    rw [htag] at g3 g5 g6
    obtain ⟨hS, hfc, kC, hkC, hkind⟩ := (va_K.moved hE.1.alike hB.2.2.1).1 ci _ f1
    obtain ⟨cf, kf, fi, f, hi, hsl⟩ := hS k e2
    have hts : ∀ w ∈ lw_tbl, w.before args s = true := fun w hw => zw_at hB hE hw
    have hst := (u_facts hfc hkC (u_lays hts f2 e2) hi).1
    have hi' : s.fieldFound? C (T k).2.1 (T k).2.2.1 = some (cf, kf, fi, f) := by
      have := (f4 k e2).2.2.1
      rw [this] at hi
      exact hi
    have hsl2 : cell.slots[f.slot]? = some (zv b s0.heap.size v) := by
      rw [hsl, g6 k e2]
      congr 2
      rw [List.getD_eq_getElem?_getD, hv]
      rfl
    have hkn : cell.vm ≠ .unknown := by rw [g4]; exact fun h => by cases h
    have hw := hts _ (zmem e3)
    by_cases hne : ne = 0
    · rw [if_pos hne] at hw
      exact W.getf hexec hb hown hw hi' hst g1 hkn hsl2 rfl rfl hdg kk
    · rw [if_neg hne] at hw
      exact va_Wgetf hexec hb hown hw hi' hst g1 hkn hsl2 rfl rfl hdg kk
  · cases hev
theorem zfit_ok {ty : FieldType} {kd : Nat} {v : Value} {z : Nat} (hk : zkok ty kd = true) (hf : zfit kd v = true) : narrow ty (zv b z v) = zv b z v ∧ fits ty (zv b z v) = true := by
  unfold zfit at hf
  split at hf
  · simp only [zkok, decide_eq_true_eq] at hk
    subst hk
    exact ⟨rfl, rfl⟩
  · simp only [zkok, decide_eq_true_eq] at hk hf
    subst hk
    rcases hf with rfl | rfl
    · show narrow .boolean (.int _) = .int _ ∧ fits .boolean (.int _) = true
      exact ⟨by decide, by decide⟩
    · show narrow .boolean (.int _) = .int _ ∧ fits .boolean (.int _) = true
      exact ⟨by decide, by decide⟩
  · unfold zkok at hk
    cases ty <;> first | exact ⟨rfl, rfl⟩ | (simp at hk)
  · cases hf
theorem zput_ok (hexec : p.tables.exec = Jvm.exec) (hb : c.code = cc) (hB : zB s0 D b) (hE : zEn s0 s) (hown : s.vm.findClass own = some m.cls) (hinit : init = true → meth.name = "<init>") {idx ci k w ne a : Nat} {cl : Zc} {v : Value} (hdg : decode cc pc = .ok (.putfield idx, 3)) (hev : zevf own idx ci k w ne = true) (hev2 : zevp own init ci k ne = true) (hcl : h[a + 1]? = some cl) (htag : cl.1 = ci) (hk : k < cl.2.length) (hfit : zfit (zfk ci k) v = true) (hR : zRel s0 D b h H) (hL : ∀ q ∈ locs, s0.heap.size ≤ q.base)
    (kk : ∀ (H' : Heap) (locs' : List Loc), zRel s0 D b (h.set (a + 1) (ci, cl.2.set k v)) H' → (∀ q ∈ locs', s0.heap.size ≤ q.base) → W p l e R s m args below meth c H' locs' cells slots Q (F0 m (pc + 3) lz rest)) : W p l e R s m args below meth c H locs cells slots Q (F0 m pc lz (zv b s0.heap.size v :: .ref (zrf b s0.heap.size (a + 1)) :: rest)) := by
  unfold zevf at hev
  split at hev
  · rename_i q hq
    obtain ⟨C, T, N⟩ := q
    simp only [Bool.and_eq_true, decide_eq_true_eq] at hev
    obtain ⟨⟨e1, e2⟩, e3⟩ := hev
    obtain ⟨C', T', f1, f2, f3, f4, f5, f6, f7, f8⟩ := zcl_of e1
    cases hq.symm.trans f1
    obtain ⟨cell, g1, g2, -⟩ := hR.2.2 (a + 1) cl hcl
    obtain ⟨g3, g4, g5, g6⟩ := g2 (by rw [htag]; exact e1)
    rw [htag] at g3 g5 g6
    have hK := va_K.moved hE.1.alike hB.2.2.1
    obtain ⟨hS, hfc, kC, hkC, hkind⟩ := hK.1 ci _ f1
    obtain ⟨cf, kf, fi, f, hi, hsl⟩ := hS k e2
    have hts : ∀ w ∈ lw_tbl, w.before args s = true := fun w hw => zw_at hB hE hw
    have hl3 := u_lays hts f2 e2
    have hst := (u_facts hfc hkC hl3 hi).1
    have hap := va_apart (own := own) hts f2 (zfty ci) (fun k hk => (f4 k hk).1) f3 hK f1
    have hi' : s.fieldFound? C (T k).2.1 (T k).2.2.1 = some (cf, kf, fi, f) := by
      have := (f4 k e2).2.2.1
      rw [this] at hi
      exact hi
    obtain ⟨n1, n2⟩ := zfit_ok (b := b) (z := s0.heap.size) (f4 k e2).2.1 hfit
    have h6 := u_fits hfc hkC hkind hl3 hi (f4 k e2).1 n1 n2
    have hlt : f.slot < cell.slots.size := by rw [hsl]; exact k2_hasslot (g6 k e2)
    have hw := hts _ (zmem e3)
    have fin : ∀ H' : Heap, H'[zrf b s0.heap.size (a + 1)]? = some (cell.setSlot f.slot (zv b s0.heap.size v)) → H'.size = H.size → (∀ q, q ≠ zrf b s0.heap.size (a + 1) → H'[q]? = H[q]?) → W p l e R s m args below meth c H' (locs ++ [⟨zrf b s0.heap.size (a + 1), f.slot⟩]) cells slots Q (F0 m (pc + 3) lz rest) := by
      intro H' x1 x2 x3
      refine kk H' _ (hR.set hB.1 x1 ⟨fun _ => ⟨g3, g4, by rw [List.length_set]; exact g5, fun j hj => ?_⟩, fun y => absurd y (by show ¬ 100 ≤ ci; omega), fun y => absurd y (by show ¬ 200 ≤ ci; omega)⟩ x2 x3) ?_
      · have hset := t_set (V := fun j => zv b s0.heap.size (cl.2.getD j .null)) g6 hap e2 (zv b s0.heap.size v) j hj
        rw [hsl, hset]
        congr 1
        unfold updV
        split
        · rename_i hjk
          subst hjk
          simp [List.getD_eq_getElem?_getD, hk]
        · rename_i hjk
          simp [List.getD_eq_getElem?_getD, List.getElem?_set_ne (Ne.symm hjk)]
      · intro q hq
        rcases List.mem_append.mp hq with hq | hq
        · exact hL q hq
        · rw [List.mem_singleton.mp hq]
          simp only [zrf]
          omega
    unfold zevp at hev2
    rw [f1] at hev2
    simp only [Bool.or_eq_true, Bool.and_eq_true, decide_eq_true_eq] at hev2
    by_cases hfin : (T k).2.2.2 = false
    · have hlay := hts _ (f2 _ (u_in_lay e2))
      unfold u_lay at hlay
      rw [if_neg (by rw [hfin]; decide)] at hlay
      have h7 := u_store hfc hkC hkind hlay hi (f4 k e2).1 n1 n2
      by_cases hne : ne = 0
      · rw [if_pos hne] at hw
        exact W.putK hexec hb (f := f) ⟨hown, hw, ⟨_, _, _, hi'⟩, hst⟩ (by rw [g3]; exact h7) g1 g4 hlt rfl rfl hdg fin
      · rw [if_neg hne] at hw
        exact va_WputK hexec hb hown hw hi' hst (by rw [g3]; exact h7) g1 g4 hlt rfl rfl hdg fin
    · obtain ⟨⟨i1, i2⟩, i3⟩ := hev2.resolve_left hfin
      have hfin2 : (T k).2.2.2 = true := by cases hx : (T k).2.2.2 <;> simp_all
      have hlay := hts _ (f2 _ (u_in_lay e2))
      unfold u_lay at hlay
      rw [if_pos hfin2] at hlay
      have hcf : m.cls = cf := by
        obtain ⟨_, _, c', _, _, _, -, -, hf', -, -, -, hown2, -⟩ := Cond.laysFinal_spec hlay
        have e1 : c' = cf := by have := hi.symm.trans hf'; simp at this; exact this.1.symm
        rw [(f4 k e2).2.2.1, ← i2] at hown2
        rw [← e1]; exact Option.some.inj (hown.symm.trans hown2)
      rw [if_pos i3] at hw
      exact W.putFinK hexec hb hown hw hi' hst hcf (hinit i1) (by rw [g3]; exact h6) g1 g4 hlt rfl rfl hdg fin
  · cases hev
end ZHS
end
section
theorem zrd_some {tag : Nat} {i : Int32} {a : Nat} {h : Zh} {f : Value → Option (List Value × Zh × Bool)} {r : List Value × Zh × Bool} (hr : zrd tag i a h f = some r) : ∃ c k v, h[a]? = some c ∧ c.1 = tag ∧ zix i c.2.length = some k ∧ c.2[k]? = some v ∧ f v = some r := by
  unfold zrd at hr
  obtain ⟨c, hc, hr⟩ := Option.bind_eq_some_iff.mp hr
  split at hr
  · obtain ⟨k, hk, hr⟩ := Option.bind_eq_some_iff.mp hr
    obtain ⟨v, hv, hr⟩ := Option.bind_eq_some_iff.mp hr
    exact ⟨c, k, v, hc, by assumption, hk, hv, hr⟩
  · cases hr
theorem zwr_some {tag : Nat} {i : Int32} {a : Nat} {v : Value} {h : Zh} {rs : List Value} {r : List Value × Zh × Bool} (hr : zwr tag i a v h rs = some r) : ∃ c k, h[a]? = some c ∧ c.1 = tag ∧ zix i c.2.length = some k ∧ r = (rs, h.set a (tag, c.2.set k v), true) := by
  unfold zwr at hr
  obtain ⟨c, hc, hr⟩ := Option.bind_eq_some_iff.mp hr
  split at hr
  · obtain ⟨k, hk, hr⟩ := Option.bind_eq_some_iff.mp hr
    cases hr
    exact ⟨c, k, hc, by assumption, hk, rfl⟩
  · cases hr
theorem zix_some {i : Int32} {n k : Nat} (h : zix i n = some k) : ¬ (i < 0 ∨ n ≤ i.toNatClampNeg) ∧ k = i.toNatClampNeg ∧ k < n := by
  unfold zix at h
  split at h
  · cases h
  · rename_i hno
    cases h
    exact ⟨hno, rfl, Nat.not_le.mp fun q => hno (Or.inr q)⟩
section ZAR
variable {p : Program} {l : Launch} {e : Env} {R : Room} {s : State} {m : MethodId} {args : Array Value} {below : List Frame} {meth : Method} {c : Code} {H : Heap} {locs : List Loc} {cells slots : Nat} {Q : State → Prop}
variable {cc : ByteArray} {pc : Nat} {lz : Array Slot} {b : Nat} {s0 : State} {D : va_G} {h : Zh} {own : String} {init : Bool} {rest : List Value}
/-- the cell of an array -/
theorem zcell (hE : zEn s0 s) (hR : zRel s0 D b h H) {a tag : Nat} {cl : Zc} (hcl : h[a]? = some cl) (htag : cl.1 = tag) (h1 : 100 ≤ tag) (h2 : tag < 105) : ∃ cell, H[zrf b s0.heap.size a]? = some cell ∧ cell.vm ≠ .unknown ∧ s.isArrayOf cell (zaty tag) ∧ s0.isArrayOf cell (zaty tag) ∧ (103 ≤ tag → va_RA s0 cell.cls (zaty tag)) ∧ cell.slots = (cl.2.map (zv b s0.heap.size)).toArray := by
  obtain ⟨cell, g1, -, g2, -⟩ := hR.2.2 a cl hcl
  rw [htag] at g2
  obtain ⟨g3, g4, g5, g6⟩ := g2 h1 h2
  exact ⟨cell, g1, g3, State.isArrayOf_alike hE.1.alike g4, g4, g5, g6⟩
theorem zload_ok (hexec : p.tables.exec = Jvm.exec) (hb : c.code = cc) (hE : zEn s0 s) (hR : zRel s0 D b h H) {ins : Instr} {tag a k : Nat} {cl : Zc} {v : Value} {i : Int32} (hins : (ins = .iaload ∧ tag = 100) ∨ (ins = .laload ∧ tag = 101) ∨ (ins = .baload ∧ tag = 102) ∨ (ins = .aaload ∧ (tag = 103 ∨ tag = 104))) (hdg : decode cc pc = .ok (ins, 1)) (hcl : h[a]? = some cl) (htag : cl.1 = tag) (hk : zix i cl.2.length = some k) (hv : cl.2[k]? = some v)
    (kk : W p l e R s m args below meth c H locs cells slots Q (F0 m (pc + 1) lz (zv b s0.heap.size v :: rest))) : W p l e R s m args below meth c H locs cells slots Q (F0 m pc lz (.int i :: .ref (zrf b s0.heap.size a) :: rest)) := by
  have hr : 100 ≤ tag ∧ tag < 105 := by
    rcases hins with ⟨-, h⟩ | ⟨-, h⟩ | ⟨-, h⟩ | ⟨-, h | h⟩ <;> subst h <;> exact ⟨by decide, by decide⟩
  obtain ⟨cell, g1, g2, g3, -, -, g4⟩ := zcell hE hR hcl htag hr.1 hr.2
  obtain ⟨x1, x2⟩ := zarr_get g4 hk hv
  rcases hins with ⟨rfl, rfl⟩ | ⟨rfl, rfl⟩ | ⟨rfl, rfl⟩ | ⟨rfl, rfl | rfl⟩
  · exact W.iald hexec hb g1 g3 g2 x1 x2 rfl rfl hdg kk
  · exact W.lald hexec hb g1 g3 g2 x1 x2 rfl rfl hdg kk
  · exact W.zald hexec hb g1 g3 g2 x1 x2 rfl rfl hdg kk
  · exact W.aald hexec hb g1 g3 rfl g2 x1 x2 rfl rfl hdg kk
  · exact W.aald hexec hb g1 g3 rfl g2 x1 x2 rfl rfl hdg kk
theorem zalen_ok (hexec : p.tables.exec = Jvm.exec) (hb : c.code = cc) (hE : zEn s0 s) (hR : zRel s0 D b h H) {a : Nat} {cl : Zc} (hdg : decode cc pc = .ok (.arraylength, 1)) (hcl : h[a]? = some cl) (h1 : 100 ≤ cl.1) (h2 : cl.1 < 105)
    (kk : W p l e R s m args below meth c H locs cells slots Q (F0 m (pc + 1) lz (.int (Int32.ofNat cl.2.length) :: rest))) : W p l e R s m args below meth c H locs cells slots Q (F0 m pc lz (.ref (zrf b s0.heap.size a) :: rest)) := by
  obtain ⟨cell, g1, g2, g3, -, -, g4⟩ := zcell hE hR hcl rfl h1 h2
  exact W.alen hexec hb g1 g3 (by rw [g4]; simp) rfl rfl hdg kk
/-- behind a store -/
theorem zstored (hB : zB s0 D b) (hR : zRel s0 D b h H) {H' : Heap} {a tag k : Nat} {cl : Zc} {cell : Cell} {v : Value} (htag : cl.1 = tag) (h1 : 100 ≤ tag) (h2 : tag < 105) (g2 : cell.vm ≠ .unknown) (g3 : s0.isArrayOf cell (zaty tag)) (g4 : 103 ≤ tag → va_RA s0 cell.cls (zaty tag)) (g5 : cell.slots = (cl.2.map (zv b s0.heap.size)).toArray)
    (e1 : H'[zrf b s0.heap.size (a + 1)]? = some (cell.setSlot k (zv b s0.heap.size v))) (e2 : H'.size = H.size) (e3 : ∀ q : Nat, q ≠ zrf b s0.heap.size (a + 1) → H'[q]? = H[q]?) : zRel s0 D b (h.set (a + 1) (tag, cl.2.set k v)) H' := by
  refine hR.set hB.1 e1 ⟨fun y => absurd y (by show ¬ tag < 7; omega), fun _ _ => ⟨g2, g3, g4, ?_⟩, fun y => absurd y (by show ¬ 200 ≤ tag; omega)⟩ e2 e3
  show cell.slots.setIfInBounds k (zv b s0.heap.size v) = _
  rw [g5]
  simp [List.map_set]
theorem zlocs {a k : Nat} (hL : ∀ q ∈ locs, s0.heap.size ≤ q.base) : ∀ q ∈ locs ++ [(⟨zrf b s0.heap.size (a + 1), k⟩ : Loc)], s0.heap.size ≤ q.base := by
  intro q hq
  rcases List.mem_append.mp hq with hq | hq
  · exact hL q hq
  · rw [List.mem_singleton.mp hq]
    simp only [zrf]
    omega
theorem zstore_ok (hexec : p.tables.exec = Jvm.exec) (hb : c.code = cc) (hB : zB s0 D b) (hE : zEn s0 s) (hR : zRel s0 D b h H) (hL : ∀ q ∈ locs, s0.heap.size ≤ q.base) {ins : Instr} {tag a k : Nat} {cl : Zc} {v : Value} {i : Int32} (hins : (ins = .iastore ∧ tag = 100 ∧ ∃ x, v = .int x) ∨ (ins = .lastore ∧ tag = 101 ∧ ∃ x, v = .long x) ∨ (ins = .bastore ∧ tag = 102 ∧ (v = .int 0 ∨ v = .int 1))) (hdg : decode cc pc = .ok (ins, 1)) (hcl : h[a + 1]? = some cl) (htag : cl.1 = tag) (hk : zix i cl.2.length = some k)
    (kk : ∀ (H' : Heap) (locs' : List Loc), zRel s0 D b (h.set (a + 1) (tag, cl.2.set k v)) H' → (∀ q ∈ locs', s0.heap.size ≤ q.base) → W p l e R s m args below meth c H' locs' cells slots Q (F0 m (pc + 1) lz rest)) : W p l e R s m args below meth c H locs cells slots Q (F0 m pc lz (v :: .int i :: .ref (zrf b s0.heap.size (a + 1)) :: rest)) := by
  obtain ⟨x1, x2, x3⟩ := zix_some hk
  have hr : 100 ≤ tag ∧ tag < 105 := by
    rcases hins with ⟨-, h, -⟩ | ⟨-, h, -⟩ | ⟨-, h, -⟩ <;> subst h <;> exact ⟨by decide, by decide⟩
  obtain ⟨cell, g1, g2, g3, g3', g6, g4⟩ := zcell hE hR hcl htag hr.1 hr.2
  have hin : ¬ (i < 0 ∨ cell.slots.size ≤ i.toNatClampNeg) := by rw [g4]; simpa using x1
  subst x2
  rcases hins with ⟨rfl, rfl, x, rfl⟩ | ⟨rfl, rfl, x, rfl⟩ | ⟨rfl, rfl, hx⟩
  · exact W.iast hexec hb g1 g3 g2 hin rfl rfl hdg fun H' e1 e2 e3 => kk H' _ (zstored hB hR htag hr.1 hr.2 g2 g3' g6 g4 e1 e2 e3) (zlocs hL)
  · exact W.last hexec hb g1 g3 g2 hin rfl rfl hdg fun H' e1 e2 e3 => kk H' _ (zstored hB hR htag hr.1 hr.2 g2 g3' g6 g4 e1 e2 e3) (zlocs hL)
  · rcases hx with rfl | rfl
    · exact W.zast hexec hb g1 g3 g2 hin rfl rfl hdg fun H' e1 e2 e3 => kk H' _ (zstored hB hR htag hr.1 hr.2 g2 g3' g6 g4 e1 e2 e3) (zlocs hL)
    · exact W.zast hexec hb g1 g3 g2 hin rfl rfl hdg fun H' e1 e2 e3 => kk H' _ (zstored hB hR htag hr.1 hr.2 g2 g3' g6 g4 e1 e2 e3) (zlocs hL)
theorem zaast_ok (hexec : p.tables.exec = Jvm.exec) (hb : c.code = cc) (hB : zB s0 D b) (hE : zEn s0 s) (hR : zRel s0 D b h H) (hL : ∀ q ∈ locs, s0.heap.size ≤ q.base) {tag a k x : Nat} {cl d : Zc} {i : Int32} (hdg : decode cc pc = .ok (.aastore, 1)) (hcl : h[a + 1]? = some cl) (htag : cl.1 = tag) (hd : h[x]? = some d) (hins : (tag = 103 ∧ d.1 = 1) ∨ (tag = 104 ∧ d.1 = 4)) (hk : zix i cl.2.length = some k)
    (kk : ∀ (H' : Heap) (locs' : List Loc), zRel s0 D b (h.set (a + 1) (tag, cl.2.set k (.ref x))) H' → (∀ q ∈ locs', s0.heap.size ≤ q.base) → W p l e R s m args below meth c H' locs' cells slots Q (F0 m (pc + 1) lz rest)) : W p l e R s m args below meth c H locs cells slots Q (F0 m pc lz (.ref (zrf b s0.heap.size x) :: .int i :: .ref (zrf b s0.heap.size (a + 1)) :: rest)) := by
  obtain ⟨x1, x2, x3⟩ := zix_some hk
  have hr : 103 ≤ tag ∧ tag < 105 := by
    rcases hins with ⟨h, -⟩ | ⟨h, -⟩ <;> subst h <;> exact ⟨by decide, by decide⟩
  obtain ⟨cell, g1, g2, g3, g3', g6, g4⟩ := zcell hE hR hcl htag (by omega) hr.2
  have hin : ¬ (i < 0 ∨ cell.slots.size ≤ i.toNatClampNeg) := by rw [g4]; simpa using x1
  subst x2
  have hK := va_K.moved hE.1.alike hB.2.2.1
  obtain ⟨cellV, v1, v2, -⟩ := hR.2.2 x d hd
  have hd7 : d.1 < 7 := by rcases hins with ⟨-, h⟩ | ⟨-, h⟩ <;> omega
  obtain ⟨v3, v4, -⟩ := v2 hd7
  have key : ∀ C : String, zaty tag = .object C → ∀ T N, zvc[d.1]? = some (C, T, N) → W p l e R s m args below meth c H locs cells slots Q (F0 m pc lz (.ref (zrf b s0.heap.size x) :: .int i :: .ref (zrf b s0.heap.size (a + 1)) :: rest)) := by
    intro C hC T N hz
    have hcls := (hK.1 d.1 _ hz).2
    have hra : va_RA s cell.cls (.object C) := by rw [← hC]; exact (g6 hr.1).moved hE.1.alike
    obtain ⟨kA, comp, k1, k2, k3, -⟩ := hra
    have hcomp : comp = D.1 d.1 := Option.some.inj (k3.symm.trans hcls.1)
    subst hcomp
    obtain ⟨kC, hkC, -⟩ := hcls.2
    refine W.aast hexec hb g1 g3.1 g2 k1 k2 rfl hkC ⟨fun q => hin (Or.inl q), Nat.not_le.mp fun q => hin (Or.inr q)⟩ v1 (fun q h => by rw [v4] at h; cases h) (by rw [v3]; exact hkC) (by rw [v3]; exact va_assign hcls) rfl rfl hdg fun H' e1 e2 e3 => ?_
    exact kk H' _ (zstored (v := .ref x) hB hR htag (by omega) hr.2 g2 g3' g6 g4 e1 e2 e3) (zlocs hL)
  rcases hins with ⟨h1, h2⟩ | ⟨h1, h2⟩
  · subst h1
    exact key "PantryMarket$Till" rfl _ _ (by rw [h2]; rfl)
  · subst h1
    exact key "PantryMarket$Pairing" rfl _ _ (by rw [h2]; rfl)
theorem znew_ok (hexec : p.tables.exec = Jvm.exec) (hb : c.code = cc) (hB : zB s0 D b) (hE : zEn s0 s) (hR : zRel s0 D b h H) (hown : s.vm.findClass own = some m.cls) {idx t w : Nat} (ht : t < 7) (hdg : decode cc pc = .ok (.new idx, 3)) (hev : zevn own idx t w = true) (hcells : cells + 1 ≤ R.cells) (hslots : slots + 820 ≤ R.slots)
    (kk : ∀ H' : Heap, zRel s0 D b (h ++ [(t, znewv t)]) H' → W p l e R s m args below meth c H' locs (cells + 1) (slots + 820) Q (F0 m (pc + 3) lz (.ref (zrf b s0.heap.size h.length) :: rest))) : W p l e R s m args below meth c H locs cells slots Q (F0 m pc lz rest) := by
  obtain ⟨C, T, f1, f2, f3, f4, f5, f6, f7, f8⟩ := zcl_of ht
  unfold zevn at hev
  rw [f1] at hev
  simp only [decide_eq_true_eq] at hev
  have hts : ∀ w ∈ lw_tbl, w.before args s = true := fun w hw => zw_at hB hE hw
  have hK := va_K.moved hE.1.alike hB.2.2.1
  have hKn := hK.1 t _ f1
  refine W.newcK hexec hb hown (hts _ (zmem hev)) (hts _ f5) (hts _ f6) rfl hdg hcells (by omega) hKn.2.1 rfl fun H1 kC hkC e1 z1 o1 => ?_
  obtain ⟨cell, u1, u2, u3, u4⟩ := u_born (zfty t) hts f2 hKn hkC e1 (fun k hk => (f4 k hk).1)
  rw [← hR.top]
  refine W.widen (Nat.le_refl _) (by omega) (kk H1 (hR.push hB.1 u1 ⟨fun _ => ⟨u2, u3, f7, fun k hk => ?_⟩, fun y => absurd y (by show ¬ 100 ≤ t; omega), fun y => absurd y (by show ¬ 200 ≤ t; omega)⟩ z1 o1))
  refine (u4 k hk).trans ?_
  show some (defaultValue (zfty t k)) = _
  rw [(f4 k hk).2.2.2]
  congr 1
  have hlt : k < (znewv t).length := by rw [f7]; exact hk
  have e : (znewv t).getD k .null = zdv (zfk t k) := by
    unfold znewv at hlt ⊢
    unfold zfk
    rw [List.length_map] at hlt
    generalize ((zcls.getD t ("", [], [], [], 0, 0)).2.2.1) = L at hlt ⊢
    simp [List.getD_eq_getElem?_getD, hlt]
  show _ = zv b s0.heap.size ((znewv t).getD k .null)
  rw [e]
  unfold zdv
  split <;> rfl
theorem znewa_ok (hexec : p.tables.exec = Jvm.exec) (hb : c.code = cc) (hB : zB s0 D b) (hE : zEn s0 s) (hR : zRel s0 D b h H) {t : ArrayType} {q : Nat × Value} {n : Int32} (hdg : decode cc pc = .ok (.newarray t, 2)) (hev : Cond.arrayClass (newarray.typeOf t) ∈ lw_tbl) (hq : zatag t = some q) (hn : ¬ n < 0) (hN : n.toNatClampNeg ≤ 820) (hcells : cells + 1 ≤ R.cells) (hslots : slots + 820 ≤ R.slots)
    (kk : ∀ H' : Heap, zRel s0 D b (h ++ [(q.1, List.replicate n.toNatClampNeg q.2)]) H' → W p l e R s m args below meth c H' locs (cells + 1) (slots + 820) Q (F0 m (pc + 2) lz (.ref (zrf b s0.heap.size h.length) :: rest))) : W p l e R s m args below meth c H locs cells slots Q (F0 m pc lz (.int n :: rest)) := by
  have hbytes : n.toNatClampNeg * componentBytes (newarray.typeOf t) ≤ 536870912 := by
    have : componentBytes (newarray.typeOf t) ≤ 8 := by cases t <;> decide
    calc n.toNatClampNeg * componentBytes (newarray.typeOf t) ≤ 820 * 8 := Nat.mul_le_mul hN this
      _ ≤ 536870912 := by decide
  refine va_newaK hexec hb (zw_at hB hE hev) rfl hdg rfl hn rfl hbytes hcells (by omega) rfl fun H1 cA e1 z1 o1 hAr hNm => ?_
  have hAr0 : ArrOfT s0 cA (newarray.typeOf t) := arrOfT_moved hE.1.alike.symm hAr
  rw [← hR.top]
  refine W.widen (Nat.le_refl _) (by omega) (kk H1 (hR.push hB.1 e1 ?_ z1 o1))
  have hz : ∀ v : Value, zv b s0.heap.size v = v → (arrV cA n.toNatClampNeg (fun _ => v)).slots = ((List.replicate n.toNatClampNeg v).map (zv b s0.heap.size)).toArray := by
    intro v hv
    rw [List.map_replicate, hv]
    unfold arrV
    apply Array.ext
    · simp
    · intro i h1 h2
      simp
  cases t <;> simp only [zatag] at hq <;> cases hq
  · exact ⟨fun y => absurd y (by simp), fun _ _ => ⟨(fun y => by cases y), hAr0 _ _, fun y => absurd y (by simp), hz _ rfl⟩, fun y => absurd y (by simp)⟩
  · exact ⟨fun y => absurd y (by simp), fun _ _ => ⟨(fun y => by cases y), hAr0 _ _, fun y => absurd y (by simp), hz _ rfl⟩, fun y => absurd y (by simp)⟩
  · exact ⟨fun y => absurd y (by simp), fun _ _ => ⟨(fun y => by cases y), hAr0 _ _, fun y => absurd y (by simp), hz _ rfl⟩, fun y => absurd y (by simp)⟩
theorem zanew_ok (hexec : p.tables.exec = Jvm.exec) (hb : c.code = cc) (hB : zB s0 D b) (hE : zEn s0 s) (hR : zRel s0 D b h H) (hown : s.vm.findClass own = some m.cls) {idx t w : Nat} {n : Int32} (ht : t = 103 ∨ t = 104) (hdg : decode cc pc = .ok (.anewarray idx, 3)) (hev : zeva own idx t w = true) (hn : ¬ n < 0) (hN : n.toNatClampNeg ≤ 820) (hcells : cells + 1 ≤ R.cells) (hslots : slots + 820 ≤ R.slots)
    (kk : ∀ H' : Heap, zRel s0 D b (h ++ [(t, List.replicate n.toNatClampNeg .null)]) H' → W p l e R s m args below meth c H' locs (cells + 1) (slots + 820) Q (F0 m (pc + 3) lz (.ref (zrf b s0.heap.size h.length) :: rest))) : W p l e R s m args below meth c H locs cells slots Q (F0 m pc lz (.int n :: rest)) := by
  have hts : ∀ w ∈ lw_tbl, w.before args s = true := fun w hw => zw_at hB hE hw
  have key : ∀ C : String, zaty t = .object C → lw_tbl[w]? = some (Cond.classLink own idx C) → Cond.arrayOver (.object C) ∈ lw_tbl → W p l e R s m args below meth c H locs cells slots Q (F0 m pc lz (.int n :: rest)) := by
    intro C hC h1 h2
    refine W.anew hexec hb hown (hts _ (zmem h1)) (hts _ h2) rfl hdg rfl hn (by omega) hcells (by omega) fun cA kA comp f1 f2 f3 f4 => ?_
    rw [← hR.top]
    refine W.widen (Nat.le_refl _) (by omega) (kk _ (hR.push (cell := { cls := cA, slots := Array.replicate n.toNatClampNeg .null, vm := .none }) hB.1 (by simp) ?_ (by simp) (fun q hq => by rw [Array.getElem?_push, if_neg (Nat.ne_of_lt hq)])))
    have hr : va_RA s0 cA (.object C) := va_RA.moved hE.1.alike.symm ⟨kA, comp, f2, f3, f4, f1⟩
    have har : s0.isArrayOf ({ cls := cA, slots := Array.replicate n.toNatClampNeg .null, vm := .none } : Cell) (.object C) := State.isArrayOf_alike hE.1.alike.symm ⟨(fun k h => by cases h), kA, f2, comp, f3⟩
    refine ⟨fun y => absurd y (by rcases ht with rfl | rfl <;> simp), fun _ _ => ⟨(fun y => by cases y), by rw [hC]; exact har, fun _ => by rw [hC]; exact hr, ?_⟩, fun y => absurd y (by rcases ht with rfl | rfl <;> simp)⟩
    simp [zv]
  unfold zeva at hev
  split at hev
  · rename_i C hC
    simp only [Bool.and_eq_true, decide_eq_true_eq] at hev
    exact key C hC hev.1 hev.2
  · cases hev
end ZAR
end
section
theorem zpairs (at_ : Nat) : ∀ (xs : List Value) (i : Nat) (ce : Cell) (k : Nat), k < ce.slots.size → (ce.storePairs at_ (xs.zipIdx i)).slots[k]? = if at_ + i ≤ k ∧ k < at_ + i + xs.length then xs[k - (at_ + i)]? else ce.slots[k]?
  | [], i, ce, k, _ => by
    rw [if_neg (by simp only [List.length_nil]; omega)]
    rfl
  | x :: xs, i, ce, k, hk => by
    rw [List.zipIdx_cons]
    show ((ce.setSlot (at_ + i) x).storePairs at_ (xs.zipIdx (i + 1))).slots[k]? = _
    rw [zpairs at_ xs (i + 1) _ k (by simpa [Cell.setSlot] using hk)]
    by_cases hki : k = at_ + i
    · subst hki
      rw [if_neg (by omega), if_pos (by simp only [List.length_cons]; omega), Nat.sub_self]
      simp [Cell.setSlot, hk]
    · by_cases h : at_ + (i + 1) ≤ k ∧ k < at_ + (i + 1) + xs.length
      · rw [if_pos h, if_pos (by simp only [List.length_cons]; omega)]
        have e : k - (at_ + i) = (k - (at_ + (i + 1))) + 1 := by omega
        rw [e, List.getElem?_cons_succ]
      · rw [if_neg h, if_neg (by simp only [List.length_cons]; omega)]
        simp [Cell.setSlot, Array.getElem?_setIfInBounds, Ne.symm hki]
theorem zcopied {b z : Nat} {cs cd : Cell} {f g : List Value} {sp dp n : Nat} (hf : cs.slots = (f.map (zv b z)).toArray) (hg : cd.slots = (g.map (zv b z)).toArray) (h1 : sp + n ≤ f.length) :
    (cd.storeRun dp (cs.stretch sp n)).slots = ((zcpy f g sp dp n).map (zv b z)).toArray := by
  have hsz : (cd.storeRun dp (cs.stretch sp n)).slots.size = g.length := by
    have := (Cell.storePairs_facts cd dp (cs.stretch sp n).zipIdx).2.2.1
    rw [Cell.storeRun, this, hg]
    simp
  apply Array.ext_getElem?
  intro k
  by_cases hk : k < g.length
  · rw [Cell.storeRun, zpairs dp _ 0 cd k (by rw [hg]; simpa using hk)]
    have hl : (cs.stretch sp n).length = n := by simp [Cell.stretch]
    rw [hl, Nat.add_zero]
    have hr : ((zcpy f g sp dp n).map (zv b z)).toArray[k]? = some (zv b z (if dp ≤ k ∧ k < dp + n then f.getD (sp + (k - dp)) .null else g.getD k .null)) := by
      simp [zcpy, hk]
    rw [hr]
    by_cases h : dp ≤ k ∧ k < dp + n
    · rw [if_pos h, if_pos h]
      have h2 : k - dp < n := by omega
      simp only [Cell.stretch, List.getElem?_map, List.getElem?_range h2, Option.map_some]
      rw [hf]
      have h3 : sp + (k - dp) < f.length := by omega
      simp [h3]
    · rw [if_neg h, if_neg h, hg]
      simp [hk]
  · have e1 : (cd.storeRun dp (cs.stretch sp n)).slots[k]? = none := by
      rw [Array.getElem?_eq_none_iff]; omega
    rw [e1]
    symm
    rw [Array.getElem?_eq_none_iff]
    simp [zcpy]
    omega
theorem zcat_le {z b : Nat} : ∀ r : List Value, ((r.map (zv b z)).map fun v => v.category).sum ≤ 2 * r.length
  | [] => by simp
  | v :: r => by
    have := zcat_le (z := z) (b := b) r
    have h2 : (zv b z v).category ≤ 2 := by cases v <;> simp [zv, Value.category]
    simp only [List.map_cons, List.sum_cons, List.length_cons]
    omega
section ZMO
variable {p : Program} {l : Launch} {e : Env} {R : Room} {s : State} {m : MethodId} {args : Array Value} {below : List Frame} {meth : Method} {c : Code} {H : Heap} {locs : List Loc} {cells slots : Nat} {Q : State → Prop}
variable {cc : ByteArray} {pc : Nat} {lz : Array Slot} {b : Nat} {s0 : State} {D : va_G} {h : Zh} {own : String} {init : Bool} {rest : List Value}
theorem zcopy_ok (hexec : p.tables.exec = Jvm.exec) (hb : c.code = cc) (hml : lz.size = c.maxLocals) (hB : zB s0 D b) (hE : zEn s0 s) (hR : zRel s0 D b h H) (hL : ∀ q ∈ locs, s0.heap.size ≤ q.base) (hown : s.vm.findClass own = some m.cls) {idx w x a : Nat} {cx ca : Zc} {k dp sp : Int32} {r : List Value} (hdg : decode cc pc = .ok (.invokestatic idx, 3)) (hev : lw_tbl[w]? = some (Cond.methodLink own idx arraycopyName)) (hx : h[x]? = some cx) (ha : h[a + 1]? = some ca) (tx : cx.1 = 100) (ta : ca.1 = 100) (h1 : ¬ sp < 0) (h2 : ¬ dp < 0) (h3 : ¬ k < 0) (h4 : sp.toNatClampNeg + k.toNatClampNeg ≤ cx.2.length) (h5 : dp.toNatClampNeg + k.toNatClampNeg ≤ ca.2.length) (hint : cx.2.all zisi = true) (hf : 1 ≤ R.frames) (hlo : 40 ≤ R.locals) (hr : r.length ≤ 8)
    (kk : ∀ (H' : Heap) (locs' : List Loc), zRel s0 D b (h.set (a + 1) (100, zcpy cx.2 ca.2 sp.toNatClampNeg dp.toNatClampNeg k.toNatClampNeg)) H' → (∀ q ∈ locs', s0.heap.size ≤ q.base) → W p l e R s m args below meth c H' locs' cells slots Q (F0 m (pc + 3) lz (r.map (zv b s0.heap.size)))) : W p l e R s m args below meth c H locs cells slots Q (F0 m pc lz (.int k :: .int dp :: .ref (zrf b s0.heap.size (a + 1)) :: .int sp :: .ref (zrf b s0.heap.size x) :: r.map (zv b s0.heap.size))) := by
  have nn : ∀ z : Int32, ¬ z < 0 → z.toInt = (z.toNatClampNeg : Int) := by
    intro z hz
    have hz0 : (0 : Int) ≤ z.toInt := by
      have := Int32.not_lt.mp hz
      simpa using Int32.le_iff_toInt_le.mp this
    show z.toInt = ((z.toInt.toNat : Nat) : Int)
    omega
  have hts : ∀ w ∈ lw_tbl, w.before args s = true := fun w hw => zw_at hB hE hw
  obtain ⟨cs, c1, c2, c3, -, -, c6⟩ := zcell hE hR hx tx (by decide) (by decide)
  obtain ⟨cd, d1, d2, d3, d3', d5, d6⟩ := zcell hE hR ha ta (by decide) (by decide)
  obtain ⟨c30, ks, hks, cm0, hkk0⟩ := c3
  obtain ⟨d30, kd, hkd, cm1, hkk1⟩ := d3
  intro T hT X
  obtain ⟨vm', X', step⟩ := X.arraycopy hexec hown (hts _ (zmem hev)) (hts (.native arraycopyName) (by decide +kernel)) (hts (.static arraycopyName) (by decide +kernel)) (hts (.initialized "java/lang/System") (by decide +kernel)) (src := zrf b s0.heap.size x) (dst := zrf b s0.heap.size (a + 1)) (cs := cs) (cd := cd) (srcPos := sp) (destPos := dp) (n := k) (by rw [hT]; exact c1) (by rw [hT]; exact d1)
    c30 d30 c2 d2 hks hkd hkk0 hkk1 (by rfl) h1 h2 h3
    (by rw [nn sp h1, nn k h3, c6]; simp; omega)
    (by rw [nn dp h2, nn k h3, d6]; simp; omega)
    (fun vm₁ _ i hi => by
      have hlt : sp.toNatClampNeg + i < cx.2.length := by omega
      have hmem : cx.2[sp.toNatClampNeg + i] ∈ cx.2 := List.getElem_mem hlt
      have hq := List.all_eq_true.mp hint _ hmem
      have e : cs.slots.getD (sp.toNatClampNeg + i) .null = zv b s0.heap.size (cx.2[sp.toNatClampNeg + i]) := by
        rw [c6]; simp [hlt]
      rw [e]
      revert hq
      cases cx.2[sp.toNatClampNeg + i] <;> intro hq <;> first | exact ⟨rfl, trivial⟩ | (cases hq))
    (g := F0 m pc lz (.int k :: .int dp :: .ref (zrf b s0.heap.size (a + 1)) :: .int sp :: .ref (zrf b s0.heap.size x) :: r.map (zv b s0.heap.size))) rfl hml (rest := r.map (zv b s0.heap.size)) rfl (by rw [hb]; exact hdg) hf (by
      have := zcat_le (z := s0.heap.size) (b := b) r
      have e7 : nativeFrameWords "java/lang/System" "arraycopy" 5 = 7 := by decide +kernel
      rw [e7]
      show 2 * 0 + _ + _ ≤ _
      omega)
  have hl : zrf b s0.heap.size (a + 1) < H.size := (Array.getElem?_eq_some_iff.mp d1).1
  have hheap : ((T.setVm vm').setCell (zrf b s0.heap.size (a + 1)) (copied cs cd sp dp k)).heap = H.setIfInBounds (zrf b s0.heap.size (a + 1)) (copied cs cd sp dp k) := by rw [← hT]; rfl
  have hfx := Cell.storePairs_facts cd dp.toNatClampNeg (cs.stretch sp.toNatClampNeg k.toNatClampNeg).zipIdx
  have e1 : (copied cs cd sp dp k).vm = cd.vm := hfx.2.1
  have e2 : (copied cs cd sp dp k).cls = cd.cls := hfx.1
  have y1 : (copied cs cd sp dp k).vm ≠ .unknown := by rw [e1]; exact d2
  have y2 : s0.isArrayOf (copied cs cd sp dp k) (zaty 100) := by
    unfold State.isArrayOf
    rw [e1, e2]
    exact d3'
  obtain ⟨t, a1, b1⟩ := kk _ _ (hR.set (H' := H.setIfInBounds (zrf b s0.heap.size (a + 1)) (copied cs cd sp dp k)) (cell := copied cs cd sp dp k) (c' := (100, zcpy cx.2 ca.2 sp.toNatClampNeg dp.toNatClampNeg k.toNatClampNeg)) hB.1 (by simp [Array.getElem?_setIfInBounds, hl])
    ⟨fun y => absurd y (by simp), fun _ _ => ⟨y1, y2, fun y => absurd y (by simp), zcopied c6 d6 h4⟩, fun y => absurd y (by simp)⟩ (by simp) (fun q hq => by simp [Array.getElem?_setIfInBounds, Ne.symm hq]))
    (fun q hq => by
      rcases List.mem_append.mp hq with h | h
      · exact hL q h
      · obtain ⟨z, -, hz⟩ := List.mem_map.mp h
        rw [← hz]
        simp only [zrf]
        omega) _ hheap X'
  exact ⟨t, step t a1, b1⟩
theorem zldc_ok (hexec : p.tables.exec = Jvm.exec) (hb : c.code = cc) (hB : zB s0 D b) (hE : zEn s0 s) (hown : s.vm.findClass own = some m.cls) {idx w v : Nat} (hdg : decode cc pc = .ok (.ldc idx, 2)) (hev : lw_tbl[w]? = some (Cond.constant own idx (Int32.ofNat v)))
    (kk : W p l e R s m args below meth c H locs cells slots Q (F0 m (pc + 2) lz (.int (Int32.ofNat v) :: rest))) : W p l e R s m args below meth c H locs cells slots Q (F0 m pc lz rest) :=
  W.ldc hexec hb hown (zw_at hB hE (zmem hev)) rfl hdg kk
theorem zldcw_ok (hexec : p.tables.exec = Jvm.exec) (hb : c.code = cc) (hB : zB s0 D b) (hE : zEn s0 s) (hown : s.vm.findClass own = some m.cls) {idx w v : Nat} (hdg : decode cc pc = .ok (.ldc_w idx, 3)) (hev : lw_tbl[w]? = some (Cond.constant own idx (Int32.ofNat v)))
    (kk : W p l e R s m args below meth c H locs cells slots Q (F0 m (pc + 3) lz (.int (Int32.ofNat v) :: rest))) : W p l e R s m args below meth c H locs cells slots Q (F0 m pc lz rest) := by
  have hconst : (Cond.constant own idx (Int32.ofNat v)).before args s = true := zw_at hB hE (zmem hev)
  subst hb
  intro T hT X
  obtain ⟨t, a1, b1⟩ := kk T hT X
  refine ⟨t, ?_, b1⟩
  obtain ⟨k, cf, bytes, hk, hcf, hcp, hbb⟩ := Cond.constant_spec hown hconst
  obtain ⟨k', hk', he⟩ := X.warmed.alike.2.2 _ _ hk
  jvm_step X.here [X.here.top, hexec, hdg, ldc_w.wp_int (s := T) (f := F0 m pc lz rest) X.here.top hk' (by rw [he]; exact hcf) hcp, hbb]
  exact a1
theorem zobi_ok (hexec : p.tables.exec = Jvm.exec) (hb : c.code = cc) (hml : lz.size = c.maxLocals) (hB : zB s0 D b) (hE : zEn s0 s) (hown : s.vm.findClass own = some m.cls) {idx w a : Nat} {r : List Value} (hdg : decode cc pc = .ok (.invokespecial idx, 3)) (hev : lw_tbl[w]? = some (Cond.methodLink own idx Lib.objectInit)) (hf : 1 ≤ R.frames) (hlo : 40 ≤ R.locals) (hr : r.length ≤ 8)
    (kk : W p l e R s m args below meth c H locs cells slots Q (F0 m (pc + 3) lz (r.map (zv b s0.heap.size)))) : W p l e R s m args below meth c H locs cells slots Q (F0 m pc lz (.ref a :: r.map (zv b s0.heap.size))) := by
  have hts : ∀ w ∈ lw_tbl, w.before args s = true := fun w hw => zw_at hB hE hw
  refine W.objInit hexec hb hown (hts _ (zmem hev)) (hts _ (by decide +kernel)) (hts _ (by decide +kernel)) rfl hml rfl hdg hf ?_ kk
  have := zcat_le (z := s0.heap.size) (b := b) r
  show 2 * 0 + _ + _ ≤ _
  omega
end ZMO
end
section
theorem zble (a b : Nat) : decide (a ≤ b) = Nat.ble a b := by
  rw [Bool.eq_iff_iff]
  simp [Nat.ble_eq]
theorem zblt (a b : Nat) : decide (a < b) = Nat.blt a b := by
  rw [Bool.eq_iff_iff]
  simp [Nat.blt_eq]
section ZCT
theorem zgo_cold {Q : Handler → Pre} {E : CtlPost} {e : Env} {d : Bool} {acts : List Action} {S : State} {f : JFrame} {a : Addr} {x : ExceptionTableEntry} {t : List ExceptionTableEntry} {c : ClassId} {vm' : Vm} {ce : Cell} (hx : covers x f.pc = true) (h0 : x.catchType ≠ 0)
    (hg : (Jvm.resolveClass f.method.cls x.catchType).Gives e.toSetting S.vm (.ok c) vm') (hsz : vm'.classes.size ≤ S.vm.classes.size) (hcell : S.heap[a]? = some ce) (hobj : ∀ k, ce.vm ≠ .statics k)
    (hk : ∃ k, vm'.classes[ce.cls]? = some k) (hc : ∃ k, vm'.classes[c]? = some k) :
    wp (findHandler.go f a (x :: t)) Q E e d acts S ↔
      if vm'.assignable ce.cls c = true then Q (.found x.handlerPc) d acts (S.setVm vm') else wp (findHandler.go f a t) Q E e d acts (S.setVm vm') := by
  simp only [covers] at hx
  obtain ⟨ha, ht⟩ := hg.op (op := VmOp.resolveClass f.method.cls x.catchType) rfl
  cases hfit : vm'.assignable ce.cls c <;>
    simp [findHandler.go, hx, h0, ha, ht, hsz, hcell, hobj, hk, hc, hfit, VmOp.dirties, VmOp.acts]
theorem zcastable : ∀ x, x < 3 → Cond.castable (zexn.getD x "") (zexn.getD x "") ∈ lw_tbl := by decide +kernel
/-- which of the three catches which -/
theorem zassign {s0 s : State} {D : va_G} {b : Nat} (hB : zB s0 D b) (hW : s0.vm.Alike s.vm) {x y : Nat} {cx cy : ClassId} (hx : 200 ≤ x ∧ x < 203) (hy : 200 ≤ y ∧ y < 203) (h1 : s.vm.findClass (zexq x) = some cx) (h2 : s.vm.findClass (zexq y) = some cy) : s.vm.assignable cx cy = Nat.beq y x := by
  have h1' : s0.vm.findClass (zexq x) = some cx := by rw [← hW.findClass]; exact h1
  have h2' : s0.vm.findClass (zexq y) = some cy := by rw [← hW.findClass]; exact h2
  rw [hW.assignable]
  by_cases hxy : x = y
  · subst hxy
    obtain ⟨c, t, g1, g2, g3⟩ := Cond.castable_spec (hB.2.1 _ (zcastable (x - 200) (by omega)))
    have e1 : c = cx := Option.some.inj (g1.symm.trans h1')
    have e2 : t = cy := Option.some.inj (g2.symm.trans h2')
    rw [← e1, ← e2, g3]
    simp
  · obtain ⟨c, t, g1, g2, g3⟩ := va_Nc.of (hB.2.2.2.2.2 (x - 200) (y - 200) (by omega) (by omega) (by omega))
    have e1 : c = cx := Option.some.inj (g1.symm.trans h1')
    have e2 : t = cy := Option.some.inj (g2.symm.trans h2')
    rw [← e1, ← e2, g3]
    symm
    cases hq : Nat.beq y x
    · rfl
    · exact absurd (Nat.eq_of_beq_eq_true hq).symm hxy
theorem zfind {s0 s : State} {D : va_G} {b : Nat} {args : Array Value} (hB : zB s0 D b) (hE : zEn s0 s) {own : String} {m : MethodId} (hown : s.vm.findClass own = some m.cls) {e : Env} (hpl : e.platform.magicAccessors = ({} : Platform).magicAccessors) {f : JFrame} (hf : f.method = m) {a : Addr} {ce : Cell} {tag : Nat} (ht : 200 ≤ tag ∧ tag < 203) (hcls : s0.vm.findClass (zexq tag) = some ce.cls) (hst : ce.vm.isStatics = false) :
    ∀ hs : List (Nat × Nat × Nat × Nat × Nat × Nat), (∀ x ∈ hs, zevh own x = true) → ∀ S : State, s.WarmedH S.vm → S.heap[a]? = some ce → ∀ q, zhand hs f.pc tag = some q →
      ∃ vm', s.WarmedH vm' ∧ ∀ (Q : Handler → Pre) (E : CtlPost) (d : Bool) (acts : List Action), wp (findHandler.go f a (tableOf (zh4 hs))) Q E e d acts S ↔ Q (.found q) d acts (S.setVm vm')
  | [], _, _, _, _, q, h => by cases h
  | x :: t, hev, S, hW, hcell, q, h => by
    obtain ⟨x1, x2, x3, x4, x5, x6⟩ := x
    have hev1 := hev _ List.mem_cons_self
    simp only [zevh, Bool.and_eq_true, decide_eq_true_eq] at hev1
    obtain ⟨⟨⟨e1, e2⟩, e3⟩, e4⟩ := hev1
    have htl : ∀ x ∈ t, zevh own x = true := fun y hy => hev y (List.mem_cons_of_mem _ hy)
    unfold zhand at h
    have hE2 : zEn s0 s := hE
    cases hcov : (Nat.ble x1 f.pc && Nat.blt f.pc x2) with
    | false =>
      simp only [hcov, cond_false] at h
      obtain ⟨vm', w1, w2⟩ := zfind (args := args) hB hE hown hpl hf ht hcls hst t htl S hW hcell q h
      refine ⟨vm', w1, fun Q E d acts => ?_⟩
      rw [← w2 Q E d acts]
      refine W.findHandler_go_skip (x := ⟨x1, x2, x3, x4⟩) (t := tableOf (zh4 t)) ?_
      have hc2 : (decide (x1 ≤ f.pc) && decide (f.pc < x2)) = false := by rw [zble, zblt]; exact hcov
      simp only [covers]
      exact hc2
    | true =>
      simp only [hcov, cond_true] at h
      have hcv : covers (⟨x1, x2, x3, x4⟩ : ExceptionTableEntry) f.pc = true := by
        simp only [covers]
        simpa [Nat.ble_eq, Nat.blt_eq] using hcov
      obtain ⟨cc, hfcc, hcl⟩ := Cond.classLink_spec hown (zw_at (args := args) hB hE (zmem e1)) e.platform hpl
      obtain ⟨hg₁, hwarm₁, hready₁⟩ := State.classEntry (e := e) hW hcl
      have hal : s0.vm.Alike (S.vm.noted m.cls x4 (.cls cc)) := hE.1.alike.trans hwarm₁.alike
      have hsz : (S.vm.noted m.cls x4 (.cls cc)).classes.size ≤ S.vm.classes.size := by simp [Vm.noted]
      have hcE : s.vm.findClass (zexq tag) = some ce.cls := by rw [hE.1.alike.findClass]; exact hcls
      have hcE1 : (S.vm.noted m.cls x4 (.cls cc)).findClass (zexq tag) = some ce.cls := by rw [hwarm₁.alike.findClass]; exact hcE
      have hcx1 : (S.vm.noted m.cls x4 (.cls cc)).findClass (zexq x5) = some cc := by rw [hwarm₁.alike.findClass]; exact hfcc
      have has : (S.vm.noted m.cls x4 (.cls cc)).assignable ce.cls cc = Nat.beq x5 tag := zassign (s := S.setVm (S.vm.noted m.cls x4 (.cls cc))) hB hal ht ⟨e2, e3⟩ hcE1 hcx1
      have key : ∀ (Q : Handler → Pre) (E : CtlPost) (d : Bool) (acts : List Action), wp (findHandler.go f a (tableOf (zh4 ((x1, x2, x3, x4, x5, x6) :: t)))) Q E e d acts S ↔ if (S.vm.noted m.cls x4 (.cls cc)).assignable ce.cls cc = true then Q (.found x3) d acts (S.setVm (S.vm.noted m.cls x4 (.cls cc))) else wp (findHandler.go f a (tableOf (zh4 t))) Q E e d acts (S.setVm (S.vm.noted m.cls x4 (.cls cc))) := fun Q E d acts =>
        zgo_cold (x := ⟨x1, x2, x3, x4⟩) (t := tableOf (zh4 t)) hcv e4 (by rw [hf]; exact hg₁) hsz hcell (fun k h => by rw [h] at hst; cases hst) (Vm.classAt_of_findClass hcE1) (Vm.classAt_of_findClass hcx1)
      cases hb : Nat.beq x5 tag with
      | true =>
        simp only [hb, cond_true] at h
        cases h
        refine ⟨_, hwarm₁, fun Q E d acts => ?_⟩
        rw [key Q E d acts, has, hb, if_pos rfl]
      | false =>
        simp only [hb, cond_false] at h
        obtain ⟨vm', w1, w2⟩ := zfind (args := args) hB hE hown hpl hf ht hcls hst t htl (S.setVm (S.vm.noted m.cls x4 (.cls cc))) hwarm₁ hcell q h
        refine ⟨vm', w1, fun Q E d acts => ?_⟩
        rw [key Q E d acts, has, hb, if_neg (by decide)]
        exact w2 Q E d acts
theorem zstepcatch {e : Env} {S : State} {a : Addr} {f : JFrame} {r : List Frame} {pc : Nat} {vm' : Vm} (hfind : ∀ (Q : Handler → Pre) (E : CtlPost) (d : Bool) (acts : List Action), wp (findHandler f a) Q E e d acts S ↔ Q (.found pc) d acts (S.setVm vm')) :
    (stepThrowing e S a (.java f :: r)).Is ((S.setVm vm').setFrames (.java { f with pc := pc, stack := [.ref a] } :: r)) [] := by
  simp only [stepThrowing, searchFrame, vmDo]
  generalize hr : Sem.go _ e false [] S = res
  obtain ⟨as, rfl, ha⟩ := Sem.eq_ok_of hr (a := Handler.found pc) (s' := S.setVm vm') (acts' := []) (by simp [hfind _ _ _ _])
  exact ⟨rfl, ha⟩
theorem zcaught {p : Program} {l : Launch} {e : Env} {R : Room} {s : State} {m : MethodId} {args : Array Value} {below : List Frame} {meth : Method} {c : Code} {U : State} {locs : List Loc} {cells slots : Nat} {s0 : State} {D : va_G} {b : Nat} {own : String} {hs : List (Nat × Nat × Nat × Nat × Nat × Nat)} {g : JFrame} {a : Addr} {ce : Cell} {tag q : Nat}
    (X : Stand p l e R s m args below meth c U locs cells slots) (hB : zB s0 D b) (hE : zEn s0 s) (hown : s.vm.findClass own = some m.cls) (hev : ∀ x ∈ hs, zevh own x = true) (htab : c.exceptionTable.toList = tableOf (zh4 hs)) (hg : g.method = m) (ht : 200 ≤ tag ∧ tag < 203) (hcls : s0.vm.findClass (zexq tag) = some ce.cls) (hst : ce.vm.isStatics = false) (hcell : U.heap[a]? = some ce) (hq : zhand hs g.pc tag = some q) :
    ∃ vm', Stand p l e R s m args below meth c (U.setVm vm') locs cells slots ∧ ∀ target, Steps p.tables e below ((U.setVm vm').setTop { g with pc := q, stack := [.ref a] }) target → Steps p.tables e below ((U.setTop g).pushFrame (.throwing a)) target := by
  have hpl : e.platform.magicAccessors = ({} : Platform).magicAccessors := by rw [X.admits.platform]
  obtain ⟨vm', w1, w2⟩ := zfind (args := args) hB hE hown hpl hg ht hcls hst hs hev ((U.setTop g).pushFrame (.throwing a)) X.warmed hcell q hq
  refine ⟨vm', X.noted w1, fun target hrest => ?_⟩
  have h : At U g.method c below := by rw [hg]; exact X.here
  obtain ⟨hgo, hw⟩ := h.throwing a
  refine Steps.head hgo hw ?_
  have hm : ((U.setTop g).pushFrame (.throwing a)).vm.method? g.method = some meth := by rw [hg]; exact X.method'
  have hfind : ∀ (Q : Handler → Pre) (E : CtlPost) (d : Bool) (acts : List Action), wp (findHandler g a) Q E e d acts ((U.setTop g).pushFrame (.throwing a)) ↔ Q (.found q) d acts (((U.setTop g).pushFrame (.throwing a)).setVm vm') := fun Q E d acts => by
    rw [W.findHandler_eq hm X.code, htab]
    exact w2 Q E d acts
  rw [stepThread_throwing (frames_entered h.top _), (zstepcatch (S := (U.setTop g).pushFrame (.throwing a)) hfind).1]
  obtain ⟨g₀, hg0⟩ := Option.isSome_iff_exists.mp h.top
  obtain ⟨r, hr⟩ := State.topJava?_eq_some.mp hg0
  have e1 : (((U.setTop g).pushFrame (.throwing a)).setVm vm').setFrames (.java { g with pc := q, stack := [.ref a] } :: U.frames.tail) = (U.setVm vm').setTop { g with pc := q, stack := [.ref a] } := by
    have hr' : (U.setVm vm').frames = .java g₀ :: r := hr
    rw [State.setTop_of_frames _ hr', State.pushFrame, State.setTop_of_frames _ hr, hr]
    show (((U.setFrames _).setFrames _).setFrames _).setVm vm' = (U.setFrames _).setVm vm'
    rw [State.setFrames_setFrames, State.setFrames_setFrames]
    rfl
  rw [e1]
  exact hrest
end ZCT
end
section
def zout (b z : Nat) : (Option Value ⊕ Nat) → Outcome → Prop
  | .inl v, o => o = .returned (v.map (zv b z))
  | .inr a, o => o = .threw (zrf b z a)
def zE (s0 : State) (D : va_G) (b : Nat) (h0 : Zh) (r : Zr) : Array Value → State → Outcome → State → Prop := fun _ st o t =>
  zout b s0.heap.size r.1 o ∧ zRel s0 D b r.2.1 t.heap ∧ (h0.length ≤ r.2.1.length ∧ r.2.1.length ≤ zcap) ∧ st.WarmedH t.vm ∧
    ∃ L : List Loc, st.sameButNew ({ t with vm := st.vm } : State) L (r.2.1.length - h0.length) (820 * (r.2.1.length - h0.length)) ∧ (∀ q ∈ L, s0.heap.size ≤ q.base) ∧ (r.2.2 = true → L = [] ∧ r.2.1 = h0)
def zQ (below : List Frame) (s : State) (s0 : State) (D : va_G) (b : Nat) (h0 : Zh) (r : Zr) : State → Prop := fun t => ∃ o, t.status = .running ∧ Ended t below o ∧ zE s0 D b h0 r #[] s o t
def zP (s0 : State) (D : va_G) (b : Nat) (vs : List Value) (h0 : Zh) : Array Value → State → Prop := fun a U => a = (vs.map (zv b s0.heap.size)).toArray ∧ s0.WarmedH U.vm ∧ zRel s0 D b h0 U.heap
def zrm (N : Zm) (h0 : Zh) : Room := { frames := zMf N, cells := zcap - h0.length, slots := 820 * (zcap - h0.length), locals := zMl N }
theorem zcw_spec {args : Array Value} {s : State} {y : MethodName} {bytes : ByteArray} {maxL : Nat} {ret : Option FieldType} {hs : List (Nat × Nat × Nat × Nat × Nat × Nat)} (h : (zcw y bytes maxL ret hs).before args s = true) :
    ∃ mk methM cM, s.methodNamed? y = some mk ∧ s.vm.method? mk = some methM ∧ methM.code = some cM ∧ cM.code = bytes ∧ cM.maxLocals = maxL ∧ methM.sig.returnType = ret ∧ methM.locks = false ∧ cM.exceptionTable.toList = tableOf (zh4 hs) ∧ parseMethodDescriptor y.desc = some methM.sig := by
  unfold zcw at h
  split at h
  · rename_i hh
    subst hh
    obtain ⟨mk, hnamed⟩ := Cond.code_named h
    obtain ⟨methM, cM, h1, h2, h3, h4, h5, h6, h7, h8⟩ := Cond.code_spec hnamed h
    refine ⟨mk, methM, cM, hnamed, h1, h2, h3, h4, h5, h6, ?_, h8⟩
    have : cM.exceptionTable = #[] := by simpa using h7
    rw [this]
    rfl
  · obtain ⟨mk, methM, cM, h0, h1, h2, h3, h4, h5, h6, h7, h8⟩ := Cond.codeWith_spec h
    refine ⟨mk, methM, cM, h0, h1, h2, h3, h4, h6, h7, ?_, h8⟩
    rw [← h5, table_eq]
theorem zsame_nil {s s' : State} {c n : Nat} (h : s.sameButNew s' [] c n) : ∀ q : Nat, q < s.heap.size → s'.heap[q]? = s.heap[q]? := by
  intro q hq
  obtain ⟨-, -, -, -, -, h6⟩ := h
  have hc : s.heap[q]? = some s.heap[q] := Array.getElem?_eq_getElem hq
  obtain ⟨c', g1, g2, g3, g4⟩ := h6 q _ hc
  rw [g1, hc, g2]
  have : c'.slots = s.heap[q].slots := Array.ext_getElem? fun i => g4 i (by simp)
  rw [this]
section ZTH
variable {p : Program} {l : Launch} {e : Env} {R : Room} {s : State} {m : MethodId} {args : Array Value} {below : List Frame} {meth : Method} {c : Code} {H : Heap} {locs : List Loc} {cells slots : Nat}
variable {cc : ByteArray} {pc : Nat} {lz : Array Slot} {b : Nat} {s0 : State} {D : va_G} {h : Zh} {own : String} {st : List Value}
theorem zatoms : ∀ x, x < 3 → (∀ a ∈ Bundle.throwableAtoms ++ Bundle.throwableSAtoms ++ Bundle.chainSAtoms (zexn.getD x "") ["java/lang/RuntimeException", "java/lang/Exception"], a ∈ lw_tbl) := by decide +kernel
def zat2 (X : String) : List Cond := [.instantiable X 6, .initialized X, .castable X X, .selects X Bundle.tFill0 Bundle.tFill0, .selects X Bundle.tFill Bundle.tFill,
  .lays X Bundle.tN "cause" "Ljava/lang/Throwable;", .lays X Bundle.tN "stackTrace" Bundle.steD, .lays X Bundle.tN "suppressedExceptions" Bundle.listD, .lays X Bundle.tN "detailMessage" "Ljava/lang/String;",
  .fieldLink Bundle.tN 198 Bundle.tN "backtrace" "Ljava/lang/Object;", .lays Bundle.tN Bundle.tN "backtrace" "Ljava/lang/Object;", .lays X Bundle.tN "backtrace" "Ljava/lang/Object;"]
theorem zatoms2 : ∀ x, x < 3 → ∀ a ∈ zat2 (zexn.getD x ""), a ∈ lw_tbl := by decide +kernel
theorem zexfit : ∀ x, x < 3 → Bundle.fit (zexn.getD x "") = true := by decide +kernel
theorem zown (hB : zB s0 D b) (hE : zEn s0 s) {ic x w : Nat} (hx : x < 3) (hln : lw_tbl[w]? = some (Cond.methodLink own ic (Bundle.initS (zexn.getD x "")))) : ∀ a ∈ Bundle.ownAtoms own ic (zexn.getD x "") ["java/lang/RuntimeException", "java/lang/Exception"], a.before args s = true := by
  have hts : ∀ w ∈ lw_tbl, w.before args s = true := fun w hw => zw_at hB hE hw
  have h2 : ∀ a ∈ zat2 (zexn.getD x ""), a.before args s = true := fun a ha => hts a (zatoms2 x hx a ha)
  have hini : (Cond.initialized "java/lang/Throwable").before #[Value.ref b] s0 = true := hB.2.1 _ (by decide +kernel)
  have hu : (Cond.isRef (.static Bundle.tN "UNASSIGNED_STACK" Bundle.steD)).before args s = true := zref_move hE (hB.2.1 _ (by decide +kernel)) hini hB.2.2.2.1
  have hv : (Cond.isRef (.static Bundle.tN "SUPPRESSED_SENTINEL" Bundle.listD)).before args s = true := zref_move hE (hB.2.1 _ (by decide +kernel)) hini hB.2.2.2.2.1
  intro a ha
  unfold Bundle.ownAtoms at ha
  rcases List.mem_append.mp ha with ha | ha
  · exact hts a (zatoms x hx a ha)
  · simp only [List.mem_cons, List.not_mem_nil, or_false] at ha
    rcases ha with rfl | rfl | rfl | rfl | rfl | rfl | rfl | rfl | rfl | rfl | rfl | rfl | rfl | rfl
    · exact hts _ (zmem hln)
    all_goals first
      | exact hu
      | exact hv
      | exact h2 _ (by simp [zat2])
theorem zthrow_ok (hexec : p.tables.exec = Jvm.exec) (hb : c.code = cc) (htr : e.platform.stackTraces = false) (hB : zB s0 D b) (hE : zEn s0 s) (hR : zRel s0 D b h H) (hown : s.vm.findClass own = some m.cls) (hml : lz.size = c.maxLocals) (hlocks : meth.locks = false) (htab : c.exceptionTable.toList = []) {idx sidx ic t w wl wi : Nat} {tx : String}
    (d0 : decode cc pc = .ok (.new idx, 3)) (d3 : decode cc (pc + 3) = .ok (.dup, 1)) (d4 : decode cc (pc + 4) = .ok (.ldc sidx, 2)) (d6 : decode cc (pc + 6) = .ok (.invokespecial ic, 3)) (d9 : decode cc (pc + 9) = .ok (.athrow, 1)) (ht : 200 ≤ t ∧ t < 203)
    (hcl : lw_tbl[w]? = some (Cond.classLink own idx (zexq t))) (hstr : lw_tbl[wl]? = some (Cond.stringRef own sidx tx)) (hln : lw_tbl[wi]? = some (Cond.methodLink own ic (Bundle.initS (zexq t)))) (hf : 6 ≤ R.frames) (hlo : 100 ≤ R.locals) (hst : st.length ≤ 8) (hcap : h.length < zcap) (hcells : 1 ≤ R.cells) (hslots : 820 ≤ R.slots) :
    W p l e R s m args below meth c H [] 0 0 (zQ below s s0 D b h (.inr h.length, h ++ [(t, [])], false)) (F0 m pc lz (st.map (zv b s0.heap.size))) := by
  have hts : ∀ w ∈ lw_tbl, w.before args s = true := fun w hw => zw_at hB hE hw
  have hx : t - 200 < 3 := by omega
  have h2 : ∀ a ∈ zat2 (zexn.getD (t - 200) ""), a.before args s = true := fun a ha => hts a (zatoms2 _ hx a ha)
  obtain ⟨cX, kX, hfc, hk, hkind, -, -, hn6⟩ := Cond.instantiable_spec (h2 (.instantiable (zexn.getD (t - 200) "") 6) (by simp [zat2]))
  obtain ⟨kS, cfS, iS, aS, -, -, -, -, -, hevS⟩ := Cond.stringRef_spec hown (hts _ (zmem hstr))
  intro T0 hT0 X0
  have hHs : H.size = s.heap.size := by
    have g1 : s.heap.size ≤ T0.heap.size := X0.same.2.1
    have g2 : T0.heap.size ≤ s.heap.size + 0 := X0.same.2.2.1
    rw [hT0] at g1 g2
    omega
  have hHq : ∀ q : Nat, q < s.heap.size → H[q]? = s.heap[q]? := fun q hq => by
    have := zsame_nil X0.same q hq
    rw [← this, ← hT0]
    rfl
  revert T0
  suffices hW : W p l e R s m args below meth c H [] 0 0 (zQ below s s0 D b h (.inr h.length, h ++ [(t, [])], false)) (F0 m pc lz (st.map (zv b s0.heap.size))) from fun T0 hT0 X0 => hW T0 hT0 X0
  refine W.newcK hexec hb hown (hts _ (zmem hcl)) (h2 (.instantiable (zexn.getD (t - 200) "") 6) (by simp [zat2])) (h2 (.initialized (zexn.getD (t - 200) "")) (by simp [zat2])) rfl d0 (by omega) (by omega) hfc rfl fun H1 kC hkC e1 z1 o1 => ?_
  refine lv_dup hexec hb d3 rfl ?_
  intro T hT X
  refine (fun k => ?_ : (∃ U, Steps p.tables e below (T.setTop (F0 m (pc + 6) lz (.ref aS :: .ref H.size :: .ref H.size :: st.map (zv b s0.heap.size)))) U ∧ zQ below s s0 D b h (.inr h.length, h ++ [(t, [])], false) U) → _) ?_
  · obtain ⟨U, k1, k2⟩ := k
    exact ⟨U, X.ldcString hexec hown (text := tx) (a := aS) (hts _ (zmem hstr)) hevS (g := F0 m (pc + 4) lz (.ref H.size :: .ref H.size :: st.map (zv b s0.heap.size))) rfl (by rw [hb]; exact d4) U k1, k2⟩
  · cases hk.symm.trans hkC
    obtain ⟨U, u1, u2, u3, u4, u5, ce, u6, u7⟩ := X.ctorThrowS hexec htr hown (cls := zexn.getD (t - 200) "") (names := ["java/lang/RuntimeException", "java/lang/Exception"]) (ic := ic) (zexfit _ hx) (by decide +kernel) (zown hB hE hx hln) (by simp) (a := H.size) hfc hk (by rw [hT]; exact e1) (by omega) (msg := .ref aS) rfl
      (g := F0 m (pc + 6) lz (.ref aS :: .ref H.size :: .ref H.size :: st.map (zv b s0.heap.size))) rfl hml rfl rfl (rest := st.map (zv b s0.heap.size)) rfl (by rw [hb]; exact d6) (by rw [hb]; exact d9) (by rw [htab]; simp) (by simp; omega) (by
        have := zcat_le (z := s0.heap.size) (b := b) st
        show 2 * 0 + (1 + ((st.map (zv b s0.heap.size)).map fun v => v.category).sum) + (13 * (2 + 1) + 42) ≤ R.locals
        omega) hlocks
    have hU1 : H.size < U.heap.size := (Array.getElem?_eq_some_iff.mp u6).1
    have hU2 : U.heap.size ≤ s.heap.size + (0 + 1) := u5.2.2.1
    refine ⟨U, u1, .threw H.size, u2, u3, ?_, ?_, ?_, u4, [], ?_, ?_, ?_⟩
    · show Outcome.threw H.size = .threw (zrf b s0.heap.size h.length)
      rw [hR.top]
    · refine hR.push hB.1 u6 ⟨fun y => absurd y (by show ¬ t < 7; omega), fun _ y => absurd y (by show ¬ t < 105; omega), fun _ _ => ⟨?_, ?_⟩⟩ (by omega) (fun q hq => ?_)
      · rw [← hE.1.alike.findClass]
        exact u7.cls
      · rw [u7.vm]
        rfl
      · rw [hHq q (by omega)]
        exact zsame_nil u5 q (by omega)
    · exact ⟨by simp, by simp; omega⟩
    · refine u5.mono ?_ ?_
      · simp
      · simp
    · simp
    · exact fun y => by cases y
end ZTH
end
section
section ZIN
variable {p : Program} {l : Launch} {e : Env} {R : Room} {s : State} {m : MethodId} {args : Array Value} {below : List Frame} {meth : Method} {c : Code} {T : State} {locs : List Loc} {cells slots : Nat}
/-- the instruction's own step: static -/
theorem zinvS (X : Stand p l e R s m args below meth c T locs cells slots) (hexec : p.tables.exec = Jvm.exec) {own host : String} {idx ne maxL : Nat} {y : MethodName} {bytes : ByteArray} {ret : Option FieldType} {hs : List (Nat × Nat × Nat × Nat × Nat × Nat)} (hown : s.vm.findClass own = some m.cls)
    (hlink : (if ne = 0 then Cond.methodLink own idx y else Cond.methodLinkNest own idx y host).before args s = true) (hcode : (zcw y bytes maxL ret hs).before args s = true) (hstat : (Cond.static y).before args s = true) (hini : (Cond.initialized y.cls).before args s = true) (hy : y.cls ≠ "java/lang/invoke/MethodHandle" ∧ y.cls ≠ "java/lang/invoke/VarHandle")
    {g : JFrame} (hg : g.method = m) {argsL rest : List Value} (hlen : (parseMethodDescriptor y.desc).map (fun d => d.parameters.length) = some argsL.length) (hstack : g.stack = argsL.reverse ++ rest) (hdg : decode c.code g.pc = .ok (.invokestatic idx, 3)) :
    ∃ mk vm₁, s.methodNamed? y = some mk ∧ Stand p l e R s m args below meth c (T.setVm vm₁) locs cells slots ∧ ∀ target, (∀ acts, Steps p.tables e below (doInvoke e ((T.setVm vm₁).setTop { g with stack := rest }) acts mk argsL.toArray).1 target) → Steps p.tables e below (T.setTop g) target := by
  obtain ⟨mk, methM, cM, hnamed, hmethM, -, -, -, -, -, -, hsig⟩ := zcw_spec hcode
  have hl : argsL.length = methM.sig.parameters.length := by
    rw [hsig] at hlen
    exact (Option.some.inj hlen).symm
  have hstatic : methM.isStatic = true := Cond.static_spec hnamed hmethM hstat
  obtain ⟨kP, hkP, -⟩ := className_of_methodNamed hnamed
  have hinitP : kP.init = .initialized := Cond.initialized_spec (findClass_of_methodNamed hnamed) hkP hini
  by_cases hne : ne = 0
  · rw [if_pos hne] at hlink
    obtain ⟨vm₁, X₁, hstep₁⟩ := X.invokestatic hexec hown hlink hnamed hmethM hstatic hkP hinitP hy (g := g) hg (argsL := argsL) (rest := rest) hl hstack hdg
    exact ⟨mk, vm₁, hnamed, X₁, hstep₁⟩
  · rw [if_neg hne] at hlink
    obtain ⟨vm₁, X₁, hstep₁⟩ := X.invokestaticNest hexec hown hlink hnamed hmethM hstatic hkP hinitP hy (g := g) hg (argsL := argsL) (rest := rest) hl hstack hdg
    exact ⟨mk, vm₁, hnamed, X₁, hstep₁⟩
/-- virtual -/
theorem zinvV (X : Stand p l e R s m args below meth c T locs cells slots) (hexec : p.tables.exec = Jvm.exec) {own host : String} {idx ne maxL : Nat} {y : MethodName} {bytes : ByteArray} {ret : Option FieldType} {hs : List (Nat × Nat × Nat × Nat × Nat × Nat)} (hown : s.vm.findClass own = some m.cls)
    (hlink : (if ne = 0 then Cond.methodLink own idx y else Cond.methodLinkNest own idx y host).before args s = true) (hcode : (zcw y bytes maxL ret hs).before args s = true) (hinst : (Cond.instanceMethod y).before args s = true) (hsel : (Cond.selects y.cls y y).before args s = true) (hy : y.cls ≠ "java/lang/invoke/MethodHandle" ∧ y.cls ≠ "java/lang/invoke/VarHandle")
    {a : Addr} {ce : Cell} (hcell : T.heap[a]? = some ce) (hobj : ce.vm.isStatics = false) (hcls : s.vm.findClass y.cls = some ce.cls)
    {g : JFrame} (hg : g.method = m) {argsL rest : List Value} (hlen : (parseMethodDescriptor y.desc).map (fun d => d.parameters.length) = some argsL.length) (hstack : g.stack = argsL.reverse ++ .ref a :: rest) (hdg : decode c.code g.pc = .ok (.invokevirtual idx, 3)) :
    ∃ mk vm₁, s.methodNamed? y = some mk ∧ Stand p l e R s m args below meth c (T.setVm vm₁) locs cells slots ∧ ∀ target, (∀ acts, Steps p.tables e below (doInvoke e ((T.setVm vm₁).setTop { g with stack := rest }) acts mk (.ref a :: argsL).toArray).1 target) → Steps p.tables e below (T.setTop g) target := by
  obtain ⟨mk, methM, hnamed, hmethM, hstM, habM⟩ := Cond.instanceMethod_spec hinst
  obtain ⟨mk', methM', cM, hnamed', hmethM', -, -, -, -, -, -, hsig⟩ := zcw_spec hcode
  cases hnamed.symm.trans hnamed'
  cases hmethM.symm.trans hmethM'
  have hl : argsL.length = methM.sig.parameters.length := by
    rw [hsig] at hlen
    exact (Option.some.inj hlen).symm
  obtain ⟨c2, r2, m2, q1, q2, q3, q4, kP, hkP, hkPi⟩ := Cond.selects_spec hsel
  cases hcls.symm.trans q1
  cases (State.methodFound?_of_named hnamed hy).symm.trans q2
  cases hnamed.symm.trans q3
  have hselP : selectMethod e.platform s.vm ce.cls mk = .method mk := by rw [Launch.admits_selectMethod X.admits]; exact q4
  by_cases hne : ne = 0
  · rw [if_pos hne] at hlink
    obtain ⟨vm₁, X₁, hstep₁⟩ := X.invokevirtual hexec hown hlink hnamed hmethM hstM hkP hkPi hy (a := a) (cell := ce) hcell (fun z h => by rw [h] at hobj; cases hobj) hselP hmethM habM hkP hkPi (g := g) hg (argsL := argsL) (rest := rest) hl hstack hdg
    exact ⟨mk, vm₁, hnamed, X₁, hstep₁⟩
  · rw [if_neg hne] at hlink
    obtain ⟨vm₁, X₁, hstep₁⟩ := X.invokevirtualNest hexec hown hlink hnamed hmethM hstM hkP hkPi hy (a := a) (cell := ce) hcell (fun z h => by rw [h] at hobj; cases hobj) hselP hmethM habM hkP hkPi (g := g) hg (argsL := argsL) (rest := rest) hl hstack hdg
    exact ⟨mk, vm₁, hnamed, X₁, hstep₁⟩
/-- a constructor -/
theorem zinvI (X : Stand p l e R s m args below meth c T locs cells slots) (hexec : p.tables.exec = Jvm.exec) {own host : String} {idx ne maxL : Nat} {y : MethodName} {bytes : ByteArray} (hown : s.vm.findClass own = some m.cls)
    (hlink : (if ne = 0 then Cond.methodLink own idx y else Cond.methodLinkNest own idx y host).before args s = true) (hcode : (Cond.code y bytes maxL none).before args s = true) (hinst : (Cond.instanceMethod y).before args s = true) (hy1 : y.name = "<init>") (hy : y.cls ≠ "java/lang/invoke/MethodHandle" ∧ y.cls ≠ "java/lang/invoke/VarHandle")
    {a : Addr} {g : JFrame} (hg : g.method = m) {argsL rest : List Value} (hlen : (parseMethodDescriptor y.desc).map (fun d => d.parameters.length) = some argsL.length) (hstack : g.stack = argsL.reverse ++ .ref a :: rest) (hdg : decode c.code g.pc = .ok (.invokespecial idx, 3)) :
    ∃ mk vm₁, s.methodNamed? y = some mk ∧ Stand p l e R s m args below meth c (T.setVm vm₁) locs cells slots ∧ ∀ target, (∀ acts, Steps p.tables e below (doInvoke e ((T.setVm vm₁).setTop { g with stack := rest }) acts mk (.ref a :: argsL).toArray).1 target) → Steps p.tables e below (T.setTop g) target := by
  subst hg
  have hpl : e.platform.magicAccessors = ({} : Platform).magicAccessors := by rw [X.admits.platform]
  have hl : ∀ sig, parseMethodDescriptor y.desc = some sig → argsL.length = sig.parameters.length := fun sig h => by
    rw [h] at hlen
    exact (Option.some.inj hlen).symm
  by_cases hne : ne = 0
  · rw [if_pos hne] at hlink
    obtain ⟨mk, methM, cM, kP, vm₁, hnamed, -, -, -, -, -, -, -, hW₁, hstep₁⟩ := Steps.initColdArgs (e := e) X.here hexec X.warmed hpl hown hy1 hy hlink hinst hcode (f := g) rfl hl hstack hdg
    exact ⟨mk, vm₁, hnamed, X.noted hW₁, hstep₁⟩
  · rw [if_neg hne] at hlink
    obtain ⟨mk, methM, cM, kP, vm₁, hnamed, -, -, -, -, -, -, -, hW₁, hstep₁⟩ := Steps.initColdArgsNest (e := e) X.here hexec X.warmed hpl hown hy1 hy hlink hinst hcode (f := g) rfl hl hstack hdg
    exact ⟨mk, vm₁, hnamed, X.noted hW₁, hstep₁⟩
/-- a callee by its contract, whatever its end -/
theorem zback {U : State} (X : Stand p l e R s m args below meth c U locs cells slots) {y : MethodName} {S : Spec} {P : Array Value → State → Prop} {Q : Array Value → State → Outcome → State → Prop} (hM : MetFree l y S P (fun _ _ _ _ _ => True) Q) {g : JFrame} (hg : g.method = m) (hsize : g.locals.size = c.maxLocals) {mk : MethodId} (hn : s.methodNamed? y = some mk) {a : Array Value} {maxL : Nat}
    (hcode : ∃ methY cY, s.vm.method? mk = some methY ∧ methY.code = some cY ∧ cY.maxLocals = maxL) (hini : (Cond.initialized y.cls).before a s = true) (hpre : S.pre.before a U = true)
    (hframes : S.room.frames + 1 ≤ R.frames) (hlocals : 2 * g.monitorRoom + (g.stack.map fun v => v.category).sum + (maxL + 11) + S.room.locals ≤ R.locals) (hcells : cells + S.room.cells ≤ R.cells) (hslots : slots + S.room.slots ≤ R.slots)
    {ig : Instr} {len : Nat} (hdg : decode c.code g.pc = .ok (ig, len)) (hP : P a (U.calling g mk a)) :
    ∃ o s₂, Steps p.tables e below (doInvoke e (U.setTop g) [] mk a).1 s₂ ∧ s₂.status = .running ∧ Ended s₂ (.java g :: U.frames.tail) o ∧ Q a (U.calling g mk a) o s₂ := by
  obtain ⟨methY, cY, hmY, hcY, hlY⟩ := hcode
  have hmY' : U.vm.method? mk = some methY := by rw [X.warmed.alike.method?]; exact hmY
  have hn' := X.named hn
  obtain ⟨kY, hkY, -⟩ := className_of_methodNamed hn'
  have hini' : (Cond.initialized y.cls).before a U = true := word_at X.warmed (Or.inl (by first | rfl | simp [Cond.onTables, Cond.keeps, Cond.steady])) hini
  have hinitY : kY.init = .initialized := Cond.initialized_spec (findClass_of_methodNamed hn') hkY hini'
  have h : At U g.method c below := by rw [hg]; exact X.here
  have happ : S.appliesLoose y e.platform (U.calling g mk a) = true :=
    Spec.appliesLoose_calling (g := g) h hdg hn' hkY hinitY (X.room_calling (g := g) (R' := S.room) hsize hmY' hcY hframes (by rw [hlY]; exact hlocals) hcells hslots) hpre
  obtain ⟨mid, hmid⟩ := h.above
  have hfr : (U.setTop g).frames = (.java g :: mid) ++ below := by rw [State.frames_setTop' g h.top, hmid]; rfl
  obtain ⟨o, s₂, hsteps, hrun, hend, hq⟩ := Steps.callFree hM p X.admits X.cas X.clock (acts := []) hfr happ hP trivial
  rw [State.frames_setTop' g h.top] at hend
  exact ⟨o, s₂, hsteps, hrun, hend, hq⟩
/-- behind it: the point at which the caller stands again -/
theorem zstands {U : State} (X : Stand p l e R s m args below meth c U locs cells slots) {g : JFrame} {mk : MethodId} {a : Array Value} {s₂ : State} {L : List Loc} {k n : Nat} (hW : (U.calling g mk a).WarmedH s₂.vm) (hs : (U.calling g mk a).sameButNew ({ s₂ with vm := (U.calling g mk a).vm } : State) L k n) :
    Stand p l e R s m args below meth c (({ U with heap := s₂.heap, slotsUsed := s₂.slotsUsed } : State).setVm s₂.vm) (locs ++ L) (cells + k) (slots + n) ∧ s₂ = ({ (U.calling g mk a).setFrames s₂.frames with heap := s₂.heap, slotsUsed := s₂.slotsUsed } : State).setVm s₂.vm := by
  obtain ⟨e2, q2, q3, q4, q5, q6⟩ := hs
  have hW' : U.WarmedH s₂.vm := hW
  obtain ⟨g₀, hg0⟩ := Option.isSome_iff_exists.mp X.here.top
  obtain ⟨r, hr⟩ := State.topJava?_eq_some.mp hg0
  have hsame : U.sameButNew ({ U with heap := s₂.heap, slotsUsed := s₂.slotsUsed } : State) L k n := by
    refine ⟨?_, q2, q3, q4, q5, q6⟩
    obtain ⟨t, ht, -⟩ := State.frames_cons hr
    show ({ U with heap := s₂.heap, slotsUsed := s₂.slotsUsed } : State) = { U.setFrames U.frames with heap := s₂.heap, slotsUsed := s₂.slotsUsed }
    rw [State.setFrames_self ht]
  refine ⟨⟨X.admits, X.cas, X.clock, X.frames, X.room, X.hears, X.method, X.code, (X.here.setHeapUsed s₂.heap s₂.slotsUsed).setVm hW'.alike, X.tail, State.WarmedH.trans X.warmed hW', X.limits, X.bytes, X.same.trans (hsame.setVm s.vm)⟩, ?_⟩
  have : s₂ = ({ s₂ with vm := (U.calling g mk a).vm } : State).setVm s₂.vm := rfl
  rw [e2] at this
  exact this
theorem zafterR {U : State} (X : Stand p l e R s m args below meth c U locs cells slots) {g : JFrame} (hg : g.method = m) {mk : MethodId} {a : Array Value} {s₂ : State} {L : List Loc} {k n len : Nat} {ig : Instr} {v : Option Value} (hdg : decode c.code g.pc = .ok (ig, len)) (hW : (U.calling g mk a).WarmedH s₂.vm) (hs : (U.calling g mk a).sameButNew ({ s₂ with vm := (U.calling g mk a).vm } : State) L k n) (hend : Ended s₂ (.java g :: U.frames.tail) (.returned v)) :
    s₂ = (({ U with heap := s₂.heap, slotsUsed := s₂.slotsUsed } : State).setVm s₂.vm).setTop { g with pc := g.pc + len, stack := v.toList ++ g.stack } := by
  obtain ⟨-, e3⟩ := zstands X hW hs
  have h : At U g.method c below := by rw [hg]; exact X.here
  obtain ⟨c₂, i₂, len₂, hc₂, hd₂, hf₂⟩ := hend
  have hW' : U.WarmedH s₂.vm := hW
  have hcc : c₂ = c := by
    have h1 : s₂.code? g.method = U.code? g.method := by
      rw [State.code?_eq, State.code?_eq, hW'.alike.method?]
    exact Option.some.inj (hc₂.symm.trans (h1.trans h.code))
  subst hcc
  have hlen : len₂ = len := by rw [hdg] at hd₂; cases hd₂; rfl
  subst hlen
  obtain ⟨g₀, hg0⟩ := Option.isSome_iff_exists.mp h.top
  obtain ⟨r, hr⟩ := State.topJava?_eq_some.mp hg0
  have hr' : (({ U with heap := s₂.heap, slotsUsed := s₂.slotsUsed } : State).setVm s₂.vm).frames = .java g₀ :: r := hr
  refine e3.trans ?_
  rw [hf₂, State.calling_eq h.top, State.setFrames_setFrames, State.setTop_of_frames _ hr', hr]
  rfl
theorem zafterT {U : State} (X : Stand p l e R s m args below meth c U locs cells slots) {g : JFrame} (hg : g.method = m) {mk : MethodId} {a : Array Value} {s₂ : State} {L : List Loc} {k n : Nat} {x : Addr} (hW : (U.calling g mk a).WarmedH s₂.vm) (hs : (U.calling g mk a).sameButNew ({ s₂ with vm := (U.calling g mk a).vm } : State) L k n) (hend : Ended s₂ (.java g :: U.frames.tail) (.threw x)) :
    s₂ = ((({ U with heap := s₂.heap, slotsUsed := s₂.slotsUsed } : State).setVm s₂.vm).setTop g).pushFrame (.throwing x) := by
  obtain ⟨-, e3⟩ := zstands X hW hs
  have h : At U g.method c below := by rw [hg]; exact X.here
  have hf₂ : s₂.frames = .throwing x :: .java g :: U.frames.tail := hend
  obtain ⟨g₀, hg0⟩ := Option.isSome_iff_exists.mp h.top
  obtain ⟨r, hr⟩ := State.topJava?_eq_some.mp hg0
  have hr' : (({ U with heap := s₂.heap, slotsUsed := s₂.slotsUsed } : State).setVm s₂.vm).frames = .java g₀ :: r := hr
  refine e3.trans ?_
  rw [hf₂, State.calling_eq h.top, State.setFrames_setFrames, State.pushFrame, State.frames_setTop _ hr', State.setTop_of_frames _ hr', State.setFrames_setFrames, hr]
  rfl
end ZIN
end
section
theorem zlk_mem : ∀ {L : List Ze} {pc : Nat} {x : Instr × List Nat}, zlk L pc = some x → (pc, x) ∈ L
  | [], _, _, h => by cases h
  | y :: t, pc, x, h => by
    unfold zlk at h
    cases hb : Nat.beq y.1 pc with
    | true =>
      simp only [hb, cond_true, Option.some.injEq] at h
      have := Nat.eq_of_beq_eq_true hb
      subst h
      subst this
      exact List.mem_cons_self
    | false =>
      simp only [hb, cond_false] at h
      exact List.mem_cons_of_mem _ (zlk_mem h)
theorem zmok_ent {j : Nat} {q : Zn} {N : Zm} (hm : zmok j = true) (hq : zmn[j]? = some q) (hN : zmi[j]? = some N) {pc : Nat} {ins : Instr} {ax : List Nat} (h : zlk (zMc N) pc = some (ins, ax)) :
    (∃ n, decode q.2.1 pc = .ok (ins, n) ∧ (n = zlen ins ∨ ztab ins = true)) ∧ zall q.1.cls (decide (q.1.name = "<init>")) ins ax = true := by
  unfold zmok at hm
  rw [hq, hN] at hm
  simp only [Bool.and_eq_true, List.all_eq_true] at hm
  have h1 := hm.1.1 _ (zlk_mem h)
  unfold zentok at h1
  rw [Bool.and_eq_true] at h1
  obtain ⟨h1, h2⟩ := h1
  refine ⟨?_, h2⟩
  split at h1
  · rename_i i n hd
    simp only [Bool.and_eq_true, Bool.or_eq_true, decide_eq_true_eq] at h1
    obtain ⟨rfl, h3⟩ := h1
    exact ⟨n, hd, h3⟩
  · cases h1
theorem zmok_rest {j : Nat} {q : Zn} {N : Zm} (hm : zmok j = true) (hq : zmn[j]? = some q) (hN : zmi[j]? = some N) : (∀ x ∈ zMh N, zevh q.1.cls x = true) ∧ q.2.2.1 = zrett (zMr N) := by
  unfold zmok at hm
  rw [hq, hN] at hm
  simp only [Bool.and_eq_true, List.all_eq_true, decide_eq_true_eq] at hm
  exact ⟨hm.1.2, hm.2⟩
theorem zdec1 {cc : ByteArray} {pc : Nat} {ins : Instr} (h : ∃ n, decode cc pc = .ok (ins, n) ∧ (n = zlen ins ∨ ztab ins = true)) (ht : ztab ins = false) : decode cc pc = .ok (ins, zlen ins) := by
  obtain ⟨n, h1, h2 | h2⟩ := h
  · rw [← h2]; exact h1
  · rw [ht] at h2; cases h2
theorem zst_len2 {ls l : List Slot} {i : Nat} {v : Value} (h : zst ls i v = some l) : l.length = ls.length := zst_len h
set_option maxHeartbeats 4000000 in
theorem zfr_len {ins : Instr} {pc : Nat} {ls : List Slot} {st : List Value} {r : Nat × List Slot × List Value} (h : zfr ins pc ls st = some r) : r.2.1.length = ls.length := by
  cases ins
  case iconst v => cases h; rfl
  case bipush v => cases h; rfl
  case sipush v => cases h; rfl
  case iload i => obtain ⟨x, hx, h⟩ := zli_some h; cases h; rfl
  case iload_n i => obtain ⟨x, hx, h⟩ := zli_some h; cases h; rfl
  case aload i => obtain ⟨x, hx, h⟩ := zlr_some h; cases h; rfl
  case aload_n i => obtain ⟨x, hx, h⟩ := zlr_some h; cases h; rfl
  case istore i => obtain ⟨x, r, rfl, h⟩ := zi1_some h; obtain ⟨l', hl', h⟩ := Option.bind_eq_some_iff.mp h; cases h; exact zst_len hl'
  case istore_n i => obtain ⟨x, r, rfl, h⟩ := zi1_some h; obtain ⟨l', hl', h⟩ := Option.bind_eq_some_iff.mp h; cases h; exact zst_len hl'
  case astore i => obtain ⟨x, r, rfl, h⟩ := zr1_some h; obtain ⟨l', hl', h⟩ := Option.bind_eq_some_iff.mp h; cases h; exact zst_len hl'
  case astore_n i => obtain ⟨x, r, rfl, h⟩ := zr1_some h; obtain ⟨l', hl', h⟩ := Option.bind_eq_some_iff.mp h; cases h; exact zst_len hl'
  case iinc i v => obtain ⟨x, hx, h⟩ := zli_some h; obtain ⟨l', hl', h⟩ := Option.bind_eq_some_iff.mp h; cases h; exact zst_len hl'
  case pop => obtain ⟨x, r, rfl, h⟩ := zi1_some h; cases h; rfl
  case dup => obtain ⟨x, r, rfl, h⟩ := zr1_some h; cases h; rfl
  case dup2 => obtain ⟨y, r, rfl, h⟩ := zi1_some h; obtain ⟨x, r, rfl, h⟩ := zr1_some h; cases h; rfl
  case idiv =>
    obtain ⟨y, r, rfl, h1⟩ := zi1_some h; obtain ⟨x, r, rfl, h2⟩ := zi1_some h1
    split at h2
    · cases h2
    · cases h2; rfl
  case irem =>
    obtain ⟨y, r, rfl, h1⟩ := zi1_some h; obtain ⟨x, r, rfl, h2⟩ := zi1_some h1
    split at h2
    · cases h2
    · cases h2; rfl
  case ineg => obtain ⟨x, r, rfl, h⟩ := zi1_some h; cases h; rfl
  case i2l => obtain ⟨x, r, rfl, h⟩ := zi1_some h; cases h; rfl
  case lcmp => obtain ⟨y, r, rfl, h⟩ := zl1_some h; obtain ⟨x, r, rfl, h⟩ := zl1_some h; cases h; rfl
  case goto off => obtain ⟨t, ht, h⟩ := Option.bind_eq_some_iff.mp h; cases h; rfl
  case ifCond cd off => obtain ⟨x, r, rfl, h1⟩ := zi1_some h; unfold zbr at h1; obtain ⟨t, ht, h2⟩ := Option.bind_eq_some_iff.mp h1; cases h2; rfl
  case if_icmp cd off => obtain ⟨y, r, rfl, h0⟩ := zi1_some h; obtain ⟨x, r, rfl, h1⟩ := zi1_some h0; unfold zbr at h1; obtain ⟨t, ht, h2⟩ := Option.bind_eq_some_iff.mp h1; cases h2; rfl
  case tableswitch d lo hi offs =>
    obtain ⟨x, r, rfl, h1⟩ := zi1_some h
    split at h1
    · obtain ⟨t, ht, h3⟩ := Option.bind_eq_some_iff.mp h1; cases h3; rfl
    · obtain ⟨o, ho, h2⟩ := Option.bind_eq_some_iff.mp h1
      obtain ⟨t, ht, h3⟩ := Option.bind_eq_some_iff.mp h2; cases h3; rfl
  all_goals first
    | (obtain ⟨y, r, rfl, h⟩ := zi1_some h; obtain ⟨x, r, rfl, h⟩ := zi1_some h; cases h; rfl)
    | exact absurd h (by simp [zfr])
/-- where a method stands -/
def zCx (p : Program) (e : Env) (R : Room) (s : State) (m : MethodId) (meth : Method) (c : Code) (s0 : State) (D : va_G) (b : Nat) (j : Nat) (N : Zm) (q : Zn) (h0 : Zh) : Prop :=
  (p.tables.exec = Jvm.exec ∧ e.platform.stackTraces = false ∧ zB s0 D b ∧ zEn s0 s) ∧ (zmi[j]? = some N ∧ zmn[j]? = some q ∧ zmok j = true) ∧
  (c.code = q.2.1 ∧ c.maxLocals = zM0 N ∧ c.exceptionTable.toList = tableOf (zh4 (zMh N)) ∧ meth.sig.returnType = q.2.2.1 ∧ meth.locks = false ∧ s.vm.findClass q.1.cls = some m.cls ∧ meth.name = q.1.name) ∧
  (zMf N ≤ R.frames ∧ zMl N ≤ R.locals ∧ zcap - h0.length ≤ R.cells ∧ 820 * (zcap - h0.length) ≤ R.slots)
section ZSO
variable {p : Program} {l : Launch} {e : Env} {R : Room} {s : State} {m : MethodId} {args : Array Value} {below : List Frame} {meth : Method} {c : Code} {H : Heap} {locs : List Loc} {Q : State → Prop}
variable {pc j : Nat} {lz : Array Slot} {b : Nat} {s0 : State} {D : va_G} {h h0 : Zh} {N : Zm} {q : Zn} {st : List Value}
set_option maxHeartbeats 4000000 in
theorem zhp_ok (hC : zCx p e R s m meth c s0 D b j N q h0) {ins : Instr} {ax : List Nat} {r : List Value × Zh × Bool} (hd : ∃ n, decode q.2.1 pc = .ok (ins, n) ∧ (n = zlen ins ∨ ztab ins = true)) (hev : zall q.1.cls (decide (q.1.name = "<init>")) ins ax = true) (hr : zhp ins ax st h = some r) (hR : zRel s0 D b h H) (hL : ∀ x ∈ locs, s0.heap.size ≤ x.base) (hlen : h0.length ≤ h.length ∧ h.length ≤ zcap)
    (kk : ∀ (H' : Heap) (locs' : List Loc), zRel s0 D b r.2.1 H' → (∀ x ∈ locs', s0.heap.size ≤ x.base) → (h0.length ≤ r.2.1.length ∧ r.2.1.length ≤ zcap) → (r.2.2 = false → r.2.1 = h ∧ locs' = locs) → W p l e R s m args below meth c H' locs' (r.2.1.length - h0.length) (820 * (r.2.1.length - h0.length)) Q (F0 m (pc + zlen ins) lz (r.1.map (zv b s0.heap.size)))) :
    W p l e R s m args below meth c H locs (h.length - h0.length) (820 * (h.length - h0.length)) Q (F0 m pc lz (st.map (zv b s0.heap.size))) := by
  obtain ⟨⟨hexec, htr, hB, hE⟩, ⟨hN, hq, hok⟩, ⟨hb, hml, htab, hret, hlocks, hown, hname⟩, hfr, hlo, hce, hsl⟩ := hC
  have hinit : decide (q.1.name = "<init>") = true → meth.name = "<init>" := fun y => by rw [hname]; exact of_decide_eq_true y
  have pushed : ∀ x : Zc, (h ++ [x]).length - h0.length = h.length - h0.length + 1 := fun x => by have := hlen.1; simp; omega
  have pushed2 : ∀ x : Zc, 820 * ((h ++ [x]).length - h0.length) = 820 * (h.length - h0.length) + 820 := fun x => by rw [pushed]; omega
  cases ins
  case getfield idx =>
    match ax, hev, hr with
    | ci :: k :: w :: ne :: tl, hev, hr =>
      obtain ⟨a, r', rfl, h1⟩ := zr1_some hr
      obtain ⟨cl, hcl, h2⟩ := Option.bind_eq_some_iff.mp h1
      split at h2
      · rename_i htag
        obtain ⟨v, hv, h3⟩ := Option.bind_eq_some_iff.mp h2
        cases h3
        exact zget_ok hexec hb hB hE hown (zdec1 hd rfl) hev hcl htag hv hR (kk H locs hR hL hlen fun _ => ⟨rfl, rfl⟩)
      · cases h2
  case putfield idx =>
    match ax, hev, hr with
    | ci :: k :: w :: ne :: tl, hev, hr =>
      have hev : (zevf q.1.cls idx ci k w ne && zevp q.1.cls (decide (q.1.name = "<init>")) ci k ne) = true := hev
      rw [Bool.and_eq_true] at hev
      obtain ⟨v, r', rfl, h1⟩ := zv1_some hr
      obtain ⟨a, r', rfl, h1⟩ := zp1_some h1
      obtain ⟨cl, hcl, h2⟩ := Option.bind_eq_some_iff.mp h1
      split at h2
      · rename_i ht
        obtain ⟨htag, hk, hfit⟩ := ht
        cases h2
        refine zput_ok hexec hb hB hE hown hinit (zdec1 hd rfl) hev.1 hev.2 hcl htag hk hfit hR hL fun H' locs' g1 g2 => ?_
        have := kk H' locs' g1 g2 (by simpa using hlen) (fun y => by cases y)
        simp only [List.length_set] at this
        exact this
      · cases h2
  case arraylength =>
    obtain ⟨a, r', rfl, h1⟩ := zr1_some hr
    obtain ⟨cl, hcl, h2⟩ := Option.bind_eq_some_iff.mp h1
    split at h2
    · rename_i ht
      cases h2
      exact zalen_ok hexec hb hE hR (zdec1 hd rfl) hcl ht.1 ht.2 (kk H locs hR hL hlen fun _ => ⟨rfl, rfl⟩)
    · cases h2
  case iaload =>
    obtain ⟨i, r', rfl, h1⟩ := zi1_some hr
    obtain ⟨a, r', rfl, h1⟩ := zr1_some h1
    obtain ⟨cl, k, v, hcl, htag, hk, hv, h3⟩ := zrd_some h1
    cases h3
    exact zload_ok hexec hb hE hR (Or.inl ⟨rfl, rfl⟩) (zdec1 hd rfl) hcl htag hk hv (kk H locs hR hL hlen fun _ => ⟨rfl, rfl⟩)
  case laload =>
    obtain ⟨i, r', rfl, h1⟩ := zi1_some hr
    obtain ⟨a, r', rfl, h1⟩ := zr1_some h1
    obtain ⟨cl, k, v, hcl, htag, hk, hv, h3⟩ := zrd_some h1
    cases h3
    exact zload_ok hexec hb hE hR (Or.inr (Or.inl ⟨rfl, rfl⟩)) (zdec1 hd rfl) hcl htag hk hv (kk H locs hR hL hlen fun _ => ⟨rfl, rfl⟩)
  case baload =>
    obtain ⟨i, r', rfl, h1⟩ := zi1_some hr
    obtain ⟨a, r', rfl, h1⟩ := zr1_some h1
    obtain ⟨cl, k, v, hcl, htag, hk, hv, h3⟩ := zrd_some h1
    cases h3
    exact zload_ok hexec hb hE hR (Or.inr (Or.inr (Or.inl ⟨rfl, rfl⟩))) (zdec1 hd rfl) hcl htag hk hv (kk H locs hR hL hlen fun _ => ⟨rfl, rfl⟩)
  case aaload =>
    match ax, hr with
    | t :: tl, hr =>
      obtain ⟨i, r', rfl, h1⟩ := zi1_some hr
      obtain ⟨a, r', rfl, h1⟩ := zr1_some h1
      split at h1
      · rename_i ht
        obtain ⟨cl, k, v, hcl, htag, hk, hv, h3⟩ := zrd_some h1
        cases h3
        exact zload_ok hexec hb hE hR (Or.inr (Or.inr (Or.inr ⟨rfl, ht⟩))) (zdec1 hd rfl) hcl htag hk hv (kk H locs hR hL hlen fun _ => ⟨rfl, rfl⟩)
      · cases h1
  case iastore =>
    obtain ⟨x, r', rfl, h1⟩ := zi1_some hr
    obtain ⟨i, r', rfl, h1⟩ := zi1_some h1
    obtain ⟨a, r', rfl, h1⟩ := zp1_some h1
    obtain ⟨cl, k, hcl, htag, hk, rfl⟩ := zwr_some h1
    refine zstore_ok hexec hb hB hE hR hL (Or.inl ⟨rfl, rfl, x, rfl⟩) (zdec1 hd rfl) hcl htag hk fun H' locs' g1 g2 => ?_
    have := kk H' locs' g1 g2 (by simpa using hlen) (fun y => by cases y)
    simp only [List.length_set] at this
    exact this
  case lastore =>
    obtain ⟨x, r', rfl, h1⟩ := zl1_some hr
    obtain ⟨i, r', rfl, h1⟩ := zi1_some h1
    obtain ⟨a, r', rfl, h1⟩ := zp1_some h1
    obtain ⟨cl, k, hcl, htag, hk, rfl⟩ := zwr_some h1
    refine zstore_ok hexec hb hB hE hR hL (Or.inr (Or.inl ⟨rfl, rfl, x, rfl⟩)) (zdec1 hd rfl) hcl htag hk fun H' locs' g1 g2 => ?_
    have := kk H' locs' g1 g2 (by simpa using hlen) (fun y => by cases y)
    simp only [List.length_set] at this
    exact this
  case bastore =>
    obtain ⟨x, r', rfl, h1⟩ := zi1_some hr
    obtain ⟨i, r', rfl, h1⟩ := zi1_some h1
    obtain ⟨a, r', rfl, h1⟩ := zp1_some h1
    split at h1
    · rename_i hx
      obtain ⟨cl, k, hcl, htag, hk, rfl⟩ := zwr_some h1
      refine zstore_ok (v := .int x) hexec hb hB hE hR hL (Or.inr (Or.inr ⟨rfl, rfl, by rcases hx with rfl | rfl <;> simp⟩)) (zdec1 hd rfl) hcl htag hk fun H' locs' g1 g2 => ?_
      have := kk H' locs' g1 g2 (by simpa using hlen) (fun y => by cases y)
      simp only [List.length_set] at this
      exact this
    · cases h1
  case aastore =>
    match ax, hr with
    | t :: tl, hr =>
      obtain ⟨x, r', rfl, h1⟩ := zr1_some hr
      obtain ⟨i, r', rfl, h1⟩ := zi1_some h1
      obtain ⟨a, r', rfl, h1⟩ := zp1_some h1
      obtain ⟨d, hd2, h2⟩ := Option.bind_eq_some_iff.mp h1
      split at h2
      · rename_i hx
        obtain ⟨cl, k, hcl, htag, hk, rfl⟩ := zwr_some h2
        refine zaast_ok hexec hb hB hE hR hL (zdec1 hd rfl) hcl htag hd2 hx hk fun H' locs' g1 g2 => ?_
        have := kk H' locs' g1 g2 (by simpa using hlen) (fun y => by cases y)
        simp only [List.length_set] at this
        exact this
      · cases h2
  case newarray t =>
    obtain ⟨n, r', rfl, h1⟩ := zi1_some hr
    obtain ⟨y, hy, h2⟩ := Option.bind_eq_some_iff.mp h1
    split at h2
    · rename_i hx
      obtain ⟨hn, hN8, hcap⟩ := hx
      cases h2
      have hev2 : Cond.arrayClass (newarray.typeOf t) ∈ lw_tbl := of_decide_eq_true hev
      refine znewa_ok hexec hb hB hE hR (zdec1 hd rfl) hev2 hy hn hN8 (by have := hlen.1; omega) (by have := hlen.1; omega) fun H' g1 => ?_
      have := kk H' locs g1 hL ⟨by have := hlen.1; simp; omega, by simp; omega⟩ (fun y => by cases y)
      rw [pushed, show 820 * (h.length - h0.length + 1) = 820 * (h.length - h0.length) + 820 by omega] at this
      exact this
    · cases h2
  case anewarray idx =>
    match ax, hev, hr with
    | t :: w :: tl, hev, hr =>
      obtain ⟨n, r', rfl, h1⟩ := zi1_some hr
      split at h1
      · rename_i hx
        obtain ⟨ht, hn, hN8, hcap⟩ := hx
        cases h1
        refine zanew_ok hexec hb hB hE hR hown ht (zdec1 hd rfl) hev hn hN8 (by have := hlen.1; omega) (by have := hlen.1; omega) fun H' g1 => ?_
        have := kk H' locs g1 hL ⟨by have := hlen.1; simp; omega, by simp; omega⟩ (fun y => by cases y)
        rw [pushed, show 820 * (h.length - h0.length + 1) = 820 * (h.length - h0.length) + 820 by omega] at this
        exact this
      · cases h1
  all_goals exact absurd hr (by simp [zhp])
end ZSO
end
section
/-- what the induction has -/
def zIH (l : Launch) (s0 : State) (D : va_G) (b : Nat) (n : Nat) : Prop :=
  ∀ (j pc : Nat) (ls : List Slot) (st : List Value) (h : Zh) (cl : Bool) (r : Zr), zrun n j pc ls st h cl = some r →
    ∀ (p : Program) (e : Env) (R : Room) (s : State) (m : MethodId) (args : Array Value) (below : List Frame) (meth : Method) (c : Code) (H : Heap) (locs : List Loc) (N : Zm) (q : Zn) (h0 : Zh),
      zCx p e R s m meth c s0 D b j N q h0 → ls.length = zM0 N → zRel s0 D b h H → (∀ x ∈ locs, s0.heap.size ≤ x.base) → (h0.length ≤ h.length ∧ h.length ≤ zcap) → (cl = true → locs = [] ∧ h = h0) →
      W p l e R s m args below meth c H locs (h.length - h0.length) (820 * (h.length - h0.length)) (zQ below s s0 D b h0 r) (F0 m pc (zls b s0.heap.size ls) (st.map (zv b s0.heap.size)))
theorem zents {b z : Nat} {N : Zm} {vs : List Value} : zls b z (zent N vs) = ((vs.map (zv b z)).map Slot.val ++ List.replicate (zM0 N - (vs.map (zv b z)).length) Slot.unset).toArray := by
  unfold zls zent
  simp [zs, Function.comp_def]
theorem zok1_cat {b z : Nat} {vs : List Value} (h : vs.all zok1 = true) : ∀ v ∈ vs.map (zv b z), v.category = 1 := by
  intro v hv
  obtain ⟨x, hx, rfl⟩ := List.mem_map.mp hv
  have := List.all_eq_true.mp h x hx
  cases x <;> first | rfl | (cases this)
/-- a method's contract out of its run -/
theorem zmet_of {l : Launch} (hl : l.stackTraces = false) {s0 : State} {D : va_G} {b n : Nat} (hB : zB s0 D b) (ih : zIH l s0 D b n) {j : Nat} {N : Zm} {q : Zn} (hN : zmi[j]? = some N) (hq : zmn[j]? = some q) (hok : zmok j = true) (hpl : plainFor q.1 = true) {vs : List Value} {h : Zh} {r : Zr} (hvs : vs.length ≤ zM0 N) (hcat : vs.all zok1 = true) (hcap : h.length ≤ zcap) (hrun : zrun n j 0 (zent N vs) [] h true = some r) :
    MetFree l q.1 (headSpec [zcw q.1 q.2.1 (zM0 N) q.2.2.1 (zMh N)] (zrm N h)) (zP s0 D b vs h) (fun _ _ _ _ _ => True) (zE s0 D b h r) := by
  refine MetFree.of_bodySF (code := q.2.1) (maxLocals := zM0 N) (ret := q.2.2.1) hpl ?_ ?_
  · intro args s m hp hn
    obtain ⟨mk, methM, cM, h1, h2, h3, h4, h5, h6, h7, -, -⟩ := zcw_spec (atoms_spec (ws := [zcw q.1 q.2.1 (zM0 N) q.2.2.1 (zMh N)]) hp _ List.mem_cons_self)
    cases hn.symm.trans h1
    exact ⟨methM, cM, h2, h3, h4, h5, h6, h7⟩
  · intro p e s m args below meth c s₁ B hml hP _
    obtain ⟨rfl, hW, hR⟩ := hP
    obtain ⟨mk, methM, cM, h1, h2, h3, h4, h5, h6, h7, h8, -⟩ := zcw_spec (atoms_spec (ws := [zcw q.1 q.2.1 (zM0 N) q.2.2.1 (zMh N)]) B.pre _ List.mem_cons_self)
    cases B.named.symm.trans h1
    cases B.method.symm.trans h2
    have X₀ := Stand.of_body B
    cases X₀.code.symm.trans h3
    have hh0 : s₁.heap = s.heap := by rw [B.state]; rfl
    have hC : zCx p e (zrm N h) s m meth c s0 D b j N q h := ⟨⟨B.exec, by rw [B.admits.platform]; exact hl, hB, hR.en hW⟩, ⟨hN, hq, hok⟩, ⟨B.bytes, hml, h8, B.returns, B.notSynchronized, findClass_of_methodNamed B.named, (name_of_methodNamed B.named B.method).1⟩, ⟨Nat.le_refl _, Nat.le_refl _, Nat.le_refl _, Nat.le_refl _⟩⟩
    have hlen : (zent N vs).length = zM0 N := by simp [zent]; omega
    have K := ih j 0 (zent N vs) [] h true r hrun p e (zrm N h) s m (vs.map (zv b s0.heap.size)).toArray below meth c s.heap [] N q h hC hlen hR (by simp) ⟨Nat.le_refl _, hcap⟩ (fun _ => ⟨rfl, rfl⟩)
    rw [Nat.sub_self, Nat.mul_zero] at K
    obtain ⟨t, a1, o, b1, b2, b3⟩ := K s₁ hh0 X₀
    rw [entry_eq m (vs.map (zv b s0.heap.size)) (zok1_cat hcat), ← zents]
    exact ⟨t, o, a1, b1, b2, b3⟩
section ZCA
variable {p : Program} {l : Launch} {e : Env} {R : Room} {s : State} {m : MethodId} {args : Array Value} {below : List Frame} {meth : Method} {c : Code} {H : Heap} {locs : List Loc}
variable {pc j : Nat} {b : Nat} {s0 : State} {D : va_G} {h h0 : Zh} {N : Zm} {q : Zn} {st : List Value} {ls : List Slot}
set_option maxHeartbeats 4000000 in
theorem zcall_ok (hl : l.stackTraces = false) {n : Nat} (ih : zIH l s0 D b n) (hC : zCx p e R s m meth c s0 D b j N q h0) (hls : ls.length = zM0 N) (hR : zRel s0 D b h H) (hL : ∀ x ∈ locs, s0.heap.size ≤ x.base) (hlen : h0.length ≤ h.length ∧ h.length ≤ zcap) {cl : Bool} (hcl : cl = true → locs = [] ∧ h = h0)
    {j' : Nat} {q' : Zn} (hq' : zmn[j']? = some q') (hj' : j' < 145) (hpl : plainFor q'.1 = true) {w1 w2 : Nat} (hcw : ∀ N', zmi[j']? = some N' → lw_tbl[w1]? = some (zcw q'.1 q'.2.1 (zM0 N') q'.2.2.1 (zMh N'))) (hini : lw_tbl[w2]? = some (Cond.initialized q'.1.cls))
    {vs : List Value} {r : Zr} (hrun : zcall (zrun n) (zrun n j · ls · · ·) N j' pc vs st h cl = some r) {stk : List Value} {ig : Instr} (hdg : decode c.code pc = .ok (ig, 3))
    (hinv : ∀ T : State, T.heap = H → Stand p l e R s m args below meth c T locs (h.length - h0.length) (820 * (h.length - h0.length)) → ∃ mk vm₁, s.methodNamed? q'.1 = some mk ∧ Stand p l e R s m args below meth c (T.setVm vm₁) locs (h.length - h0.length) (820 * (h.length - h0.length)) ∧
      ∀ target, (∀ acts, Steps p.tables e below (doInvoke e ((T.setVm vm₁).setTop (F0 m pc (zls b s0.heap.size ls) (st.map (zv b s0.heap.size)))) acts mk (vs.map (zv b s0.heap.size)).toArray).1 target) → Steps p.tables e below (T.setTop (F0 m pc (zls b s0.heap.size ls) stk)) target) :
    W p l e R s m args below meth c H locs (h.length - h0.length) (820 * (h.length - h0.length)) (zQ below s s0 D b h0 r) (F0 m pc (zls b s0.heap.size ls) stk) := by
  have hC0 := hC
  obtain ⟨⟨hexec, htr, hB, hE⟩, ⟨hN, hq, hok⟩, ⟨hb, hml, htab, hret, hlocks, hown, hname⟩, hfr, hlo, hce, hsl⟩ := hC
  unfold zcall at hrun
  obtain ⟨N', hN', h1⟩ := Option.bind_eq_some_iff.mp hrun
  split at h1
  · rename_i hc4
    obtain ⟨hroom, hvl, hcat, hstl⟩ := hc4
    obtain ⟨r', hr', hgo⟩ := Option.bind_eq_some_iff.mp h1
    simp only [zroom, Bool.and_eq_true, decide_eq_true_eq] at hroom
    have hcwN := hcw N' hN'
    have hM := zmet_of hl hB ih hN' hq' (zmok_all hj') hpl hvl hcat hlen.2 hr'
    have hts : ∀ (a : Array Value) (U : State), zEn s0 U → ∀ w ∈ lw_tbl, w.before a U = true := fun a U hU w hw => zwat hU hw (hB.2.1 w hw)
    intro T hT X
    obtain ⟨mk, vm₁, hn, X₁, step⟩ := hinv T hT X
    have hU : (T.setVm vm₁).heap = H := hT
    have hEU : zEn s0 (T.setVm vm₁) := ⟨State.WarmedH.trans hE.1 X₁.warmed, by rw [hU]; exact hR.2.1⟩
    obtain ⟨mk', methM, cM, g1, g2, g3, -, g5, -⟩ := zcw_spec (hts #[] s hE _ (zmem hcwN))
    cases hn.symm.trans g1
    have hcall : (T.setVm vm₁).calling (F0 m pc (zls b s0.heap.size ls) (st.map (zv b s0.heap.size))) mk (vs.map (zv b s0.heap.size)).toArray = (T.setVm vm₁).setFrames (.invoking mk (vs.map (zv b s0.heap.size)).toArray :: .java (F0 m pc (zls b s0.heap.size ls) (st.map (zv b s0.heap.size))) :: (T.setVm vm₁).frames.tail) := State.calling_eq X₁.here.top _ _ _
    have hhc : ((T.setVm vm₁).calling (F0 m pc (zls b s0.heap.size ls) (st.map (zv b s0.heap.size))) mk (vs.map (zv b s0.heap.size)).toArray).heap = H := by rw [hcall]; exact hT
    have hvc : ((T.setVm vm₁).calling (F0 m pc (zls b s0.heap.size ls) (st.map (zv b s0.heap.size))) mk (vs.map (zv b s0.heap.size)).toArray).vm = vm₁ := by rw [hcall]; rfl
    have hlen1 := hlen.1
    have hlen2 := hlen.2
    obtain ⟨o, s₂, hsteps, hst2, hend, hq2⟩ := zback X₁ hM (g := F0 m pc (zls b s0.heap.size ls) (st.map (zv b s0.heap.size))) rfl (by rw [hml, ← hls]; exact zls_size) hn (a := (vs.map (zv b s0.heap.size)).toArray) (maxL := zM0 N') ⟨methM, cM, g2, g3, g5⟩ (hts _ _ hE _ (zmem hini))
      (atoms_intro fun w hw => by rw [List.mem_singleton.mp hw]; exact hts _ _ hEU _ (zmem hcwN))
      (by show zMf N' + 1 ≤ R.frames; omega)
      (by
        have := zcat_le (z := s0.heap.size) (b := b) st
        show 2 * 0 + ((st.map (zv b s0.heap.size)).map fun v => v.category).sum + (zM0 N' + 11) + zMl N' ≤ R.locals
        omega)
      (by show h.length - h0.length + (zcap - h.length) ≤ R.cells; omega)
      (by show 820 * (h.length - h0.length) + 820 * (zcap - h.length) ≤ R.slots; omega)
      hdg ⟨rfl, by rw [hvc]; exact hEU.1, by rw [hhc]; exact hR⟩
    obtain ⟨hout, hR2, hl2, hW2, L, hsame, hLL, hclr⟩ := hq2
    have hstand := (zstands X₁ hW2 hsame).1
    have hL2 : ∀ x ∈ locs ++ L, s0.heap.size ≤ x.base := fun x hx => by
      rcases List.mem_append.mp hx with hx | hx
      · exact hL x hx
      · exact hLL x hx
    have hl21 := hl2.1
    have hc1 : h.length - h0.length + (r'.2.1.length - h.length) = r'.2.1.length - h0.length := by omega
    have hc2 : 820 * (h.length - h0.length) + 820 * (r'.2.1.length - h.length) = 820 * (r'.2.1.length - h0.length) := by omega
    rw [hc1, hc2] at hstand
    obtain ⟨ro, h', c'⟩ := r'
    cases ro with
    | inl v =>
      have hout : o = .returned (v.map (zv b s0.heap.size)) := hout
      subst hout
      have hs₂ := zafterR X₁ (g := F0 m pc (zls b s0.heap.size ls) (st.map (zv b s0.heap.size))) rfl hdg hW2 hsame hend
      have hgo : zrun n j (pc + 3) ls (v.toList ++ st) h' (cl && c') = some r := hgo
      have K := ih j (pc + 3) ls (v.toList ++ st) h' (cl && c') r hgo p e R s m args below meth c s₂.heap (locs ++ L) N q h0 hC0 hls hR2 hL2 ⟨Nat.le_trans hlen.1 hl2.1, hl2.2⟩ (fun hb => by
        rw [Bool.and_eq_true] at hb
        obtain ⟨k1, k2⟩ := hcl hb.1
        obtain ⟨k3, k4⟩ := hclr hb.2
        refine ⟨by rw [k1, k3]; rfl, ?_⟩
        rw [← k2]
        exact k4)
      obtain ⟨t, a1, b1⟩ := K (({ (T.setVm vm₁) with heap := s₂.heap, slotsUsed := s₂.slotsUsed } : State).setVm s₂.vm) rfl hstand
      refine ⟨t, step t fun acts => ?_, b1⟩
      rw [doInvoke_state]
      refine hsteps.trans ?_
      rw [hs₂]
      have hst3 : (v.toList ++ st).map (zv b s0.heap.size) = (v.map (zv b s0.heap.size)).toList ++ st.map (zv b s0.heap.size) := by cases v <;> simp
      rw [hst3] at a1
      exact a1
    | inr x =>
      have hout : o = .threw (zrf b s0.heap.size x) := hout
      subst hout
      have hs₂ := zafterT X₁ (g := F0 m pc (zls b s0.heap.size ls) (st.map (zv b s0.heap.size))) rfl hW2 hsame hend
      obtain ⟨cx, hcx, hgo2⟩ := Option.bind_eq_some_iff.mp (show ((h'[x]?).bind _) = some r from hgo)
      split at hgo2
      · rename_i htg
        obtain ⟨cell, e1, -, -, e4⟩ := hR2.2.2 x cx hcx
        obtain ⟨e5, e6⟩ := e4 htg.1 htg.2.1
        split at hgo2
        · rename_i q2 hh
          have htab2 := htab
          obtain ⟨vm', X₃, st3⟩ := zcaught hstand hB hE hown (zmok_rest hok hq hN).1 htab2 (g := F0 m pc (zls b s0.heap.size ls) (st.map (zv b s0.heap.size))) (a := zrf b s0.heap.size x) (ce := cell) (tag := cx.1) (q := q2) rfl ⟨htg.1, htg.2.1⟩ e5 e6 e1 hh
          have K := ih j q2 ls [.ref x] h' false r hgo2 p e R s m args below meth c s₂.heap (locs ++ L) N q h0 hC0 hls hR2 hL2 ⟨Nat.le_trans hlen.1 hl2.1, hl2.2⟩ (fun hb => by cases hb)
          obtain ⟨t, a1, b1⟩ := K ((({ (T.setVm vm₁) with heap := s₂.heap, slotsUsed := s₂.slotsUsed } : State).setVm s₂.vm).setVm vm') rfl X₃
          refine ⟨t, step t fun acts => ?_, b1⟩
          rw [doInvoke_state]
          refine hsteps.trans ?_
          rw [hs₂]
          exact st3 t a1
        · split at hgo2
          · rename_i hnil
            cases hgo2
            have htab2 : c.exceptionTable.toList = [] := by rw [htab, hnil]; rfl
            obtain ⟨w1, w2, w3, w4, w5⟩ := hstand.leaveThrown (zrf b s0.heap.size x) (g := F0 m pc (zls b s0.heap.size ls) (st.map (zv b s0.heap.size))) rfl rfl rfl (by rw [htab2]; simp) hlocks
            refine ⟨_, step _ fun acts => ?_, .threw (zrf b s0.heap.size x), w2, w3, rfl, hR2, ⟨Nat.le_trans hlen.1 hl2.1, hl2.2⟩, w4, locs ++ L, w5, hL2, fun hb => by cases hb⟩
            rw [doInvoke_state]
            refine hsteps.trans ?_
            rw [hs₂]
            exact w1
          · cases hgo2
      · cases hgo2
  · cases h1
end ZCA
end
section
theorem zmn_lt {j : Nat} {q : Zn} (h : zmn[j]? = some q) : j < 145 := by
  have h1 := (List.getElem?_eq_some_iff.mp h).1
  have h2 : zmn.length = 145 := by decide +kernel
  omega
/-- what an entry of a call says -/
theorem zevi_spec {own : String} {idx kind j w ne ci : Nat} (h : zevi own idx kind j w ne ci = true) : ∃ (q : Zn) (N : Zm), zmn[j]? = some q ∧ zmi[j]? = some N ∧
    lw_tbl[w]? = some (if ne = 0 then Cond.methodLink own idx q.1 else Cond.methodLinkNest own idx q.1 "PantryMarket") ∧ lw_tbl[q.2.2.2.1]? = some (zcw q.1 q.2.1 (zM0 N) q.2.2.1 (zMh N)) ∧ lw_tbl[q.2.2.2.2.1]? = some (if kind = 1 then Cond.static q.1 else Cond.instanceMethod q.1) ∧ lw_tbl[q.2.2.2.2.2.1]? = some (Cond.initialized q.1.cls) ∧
    (kind = 2 → lw_tbl[q.2.2.2.2.2.2]? = some (Cond.selects q.1.cls q.1 q.1)) ∧ (kind = 3 → q.1.name = "<init>" ∧ q.2.2.1 = none ∧ zMh N = []) ∧ (q.1.cls ≠ "java/lang/invoke/MethodHandle" ∧ q.1.cls ≠ "java/lang/invoke/VarHandle") ∧ plainFor q.1 = true ∧
    (parseMethodDescriptor q.1.desc).map (fun d => d.parameters.length) = some (zMp N) ∧ (kind ≠ 1 → ∃ c, zvc[ci]? = some c ∧ c.1 = q.1.cls) := by
  unfold zevi at h
  split at h
  · rename_i q N hq hN
    simp only [Bool.and_eq_true, Bool.or_eq_true, decide_eq_true_eq] at h
    obtain ⟨⟨⟨⟨⟨⟨⟨⟨⟨⟨h1, h2⟩, h3⟩, h4⟩, h5⟩, h6⟩, h7⟩, h8⟩, h9⟩, h10⟩, h11⟩ := h
    refine ⟨q, N, hq, hN, h1, h2, h3, h4, fun hk => ?_, fun hk => ?_, ⟨h7, h8⟩, h9, h10, fun hk => ?_⟩
    · rcases h5 with h5 | h5
      · exact absurd hk h5
      · exact h5
    · rcases h6 with h6 | h6
      · exact absurd hk h6
      · exact ⟨h6.1.1, h6.1.2, h6.2⟩
    · rcases h11 with h11 | h11
      · exact absurd h11 hk
      · split at h11
        · rename_i cc hcc
          exact ⟨cc, hcc, of_decide_eq_true h11⟩
        · cases h11
  · cases h
section ZS2
variable {p : Program} {l : Launch} {e : Env} {R : Room} {s : State} {m : MethodId} {args : Array Value} {below : List Frame} {meth : Method} {c : Code} {H : Heap} {locs : List Loc}
variable {pc j : Nat} {b : Nat} {s0 : State} {D : va_G} {h h0 : Zh} {N : Zm} {q : Zn} {st : List Value} {ls : List Slot}
theorem zstat_ok (hl : l.stackTraces = false) {n : Nat} (ih : zIH l s0 D b n) (hC : zCx p e R s m meth c s0 D b j N q h0) (hls : ls.length = zM0 N) (hR : zRel s0 D b h H) (hL : ∀ x ∈ locs, s0.heap.size ≤ x.base) (hlen : h0.length ≤ h.length ∧ h.length ≤ zcap) {cl : Bool} (hcl : cl = true → locs = [] ∧ h = h0)
    {idx j' w ne ci : Nat} {N' : Zm} {r : Zr} (hd : decode q.2.1 pc = .ok (.invokestatic idx, 3)) (hev : zevi q.1.cls idx 1 j' w ne ci = true) (hN' : zmi[j']? = some N') (hst : zMp N' ≤ st.length) (hrun : zcall (zrun n) (zrun n j · ls · · ·) N j' pc (st.take (zMp N')).reverse (st.drop (zMp N')) h cl = some r) :
    W p l e R s m args below meth c H locs (h.length - h0.length) (820 * (h.length - h0.length)) (zQ below s s0 D b h0 r) (F0 m pc (zls b s0.heap.size ls) (st.map (zv b s0.heap.size))) := by
  obtain ⟨q', N2, hq', hN2, e1, e2, e3, e4, -, -, e7, e8, e9, -⟩ := zevi_spec hev
  cases hN'.symm.trans hN2
  have hC0 := hC
  obtain ⟨⟨hexec, htr, hB, hE⟩, ⟨hN, hq, hok⟩, ⟨hb, hml, htab, hret, hlocks, hown, hname⟩, hfr, hlo, hce, hsl⟩ := hC
  have hts : ∀ w ∈ lw_tbl, w.before args s = true := fun w hw => zw_at hB hE hw
  refine zcall_ok hl ih hC0 hls hR hL hlen hcl hq' (zmn_lt hq') e8 (fun N3 h3 => by cases hN'.symm.trans h3; exact e2) e4 hrun (by rw [hb]; exact hd) fun T hT X => ?_
  have hl1 : ((st.take (zMp N')).reverse.map (zv b s0.heap.size)).length = zMp N' := by simp; omega
  obtain ⟨mk, vm₁, g1, g2, g3⟩ := zinvS X hexec (own := q.1.cls) (host := "PantryMarket") (idx := idx) (ne := ne) (y := q'.1) hown (hts _ (zmem e1)) (hts _ (zmem e2)) (by have := hts _ (zmem e3); simpa using this) (hts _ (zmem e4)) e7 (g := F0 m pc (zls b s0.heap.size ls) (st.map (zv b s0.heap.size))) rfl (argsL := (st.take (zMp N')).reverse.map (zv b s0.heap.size)) (rest := (st.drop (zMp N')).map (zv b s0.heap.size)) (by rw [hl1]; exact e9) (by
    show st.map (zv b s0.heap.size) = _
    rw [← List.map_reverse, List.reverse_reverse, ← List.map_append, List.take_append_drop]) (by rw [hb]; exact hd)
  exact ⟨mk, vm₁, g1, g2, g3⟩
theorem zobj_ok (hl : l.stackTraces = false) {n : Nat} (ih : zIH l s0 D b n) (hC : zCx p e R s m meth c s0 D b j N q h0) (hls : ls.length = zM0 N) (hR : zRel s0 D b h H) (hL : ∀ x ∈ locs, s0.heap.size ≤ x.base) (hlen : h0.length ≤ h.length ∧ h.length ≤ zcap) {cl : Bool} (hcl : cl = true → locs = [] ∧ h = h0)
    {idx j' w ne ci kind : Nat} {r : Zr} {ins : Instr} (hkind : (kind = 2 ∧ ins = .invokevirtual idx) ∨ (kind = 3 ∧ ins = .invokespecial idx)) (hd : decode q.2.1 pc = .ok (ins, 3)) (hev : zevi q.1.cls idx kind j' w ne ci = true) (hrun : zobj (zrun n) (zrun n j · ls · · ·) N j' ci pc st h cl = some r) :
    W p l e R s m args below meth c H locs (h.length - h0.length) (820 * (h.length - h0.length)) (zQ below s s0 D b h0 r) (F0 m pc (zls b s0.heap.size ls) (st.map (zv b s0.heap.size))) := by
  obtain ⟨q', N2, hq', hN2, e1, e2, e3, e4, e5, e6, e7, e8, e9, e10⟩ := zevi_spec hev
  unfold zobj at hrun
  obtain ⟨N', hN', h1⟩ := Option.bind_eq_some_iff.mp hrun
  have eN : N' = N2 := Option.some.inj (hN'.symm.trans hN2)
  subst eN
  split at h1
  · rename_i hms
    obtain ⟨-, hst⟩ := hms
    obtain ⟨a, r', hr', h2⟩ := zr1_some h1
    obtain ⟨cx, hcx, h3⟩ := Option.bind_eq_some_iff.mp h2
    split at h3
    · rename_i hci
      obtain ⟨htag, hci7⟩ := hci
      have hC0 := hC
      obtain ⟨⟨hexec, htr, hB, hE⟩, ⟨hN, hq, hok⟩, ⟨hb, hml, htab, hret, hlocks, hown, hname⟩, hfr, hlo, hce, hsl⟩ := hC
      have hts : ∀ w ∈ lw_tbl, w.before args s = true := fun w hw => zw_at hB hE hw
      have hk1 : kind ≠ 1 := by rcases hkind with ⟨h, -⟩ | ⟨h, -⟩ <;> omega
      have e3' : (Cond.instanceMethod q'.1).before args s = true := by
        have := hts _ (zmem e3)
        rwa [if_neg hk1] at this
      have hl1 : ((st.take (zMp N')).reverse.map (zv b s0.heap.size)).length = zMp N' := by simp; omega
      have hstk : st.map (zv b s0.heap.size) = ((st.take (zMp N')).reverse.map (zv b s0.heap.size)).reverse ++ .ref (zrf b s0.heap.size a) :: r'.map (zv b s0.heap.size) := by
        rw [← List.map_reverse, List.reverse_reverse]
        conv => lhs; rw [← List.take_append_drop (zMp N') st]
        rw [List.map_append, hr']
        rfl
      have hdg : decode c.code pc = .ok (ins, 3) := by rw [hb]; exact hd
      obtain ⟨cell, x1, x2, -⟩ := hR.2.2 a cx hcx
      obtain ⟨x3, x4, -⟩ := x2 (by rw [htag]; exact hci7)
      refine zcall_ok hl ih hC0 hls hR hL hlen hcl hq' (zmn_lt hq') e8 (fun N3 h3 => by cases hN'.symm.trans h3; exact e2) e4 h3 hdg fun T hT X => ?_
      rcases hkind with ⟨hk, rfl⟩ | ⟨hk, rfl⟩
      · obtain ⟨c3, hc3, hc4⟩ := e10 hk1
        obtain ⟨C, TT, f1, -⟩ := zcl_of hci7
        have hcl3 : s.vm.findClass q'.1.cls = some cell.cls := by
          cases hc3.symm.trans f1
          have := ((va_K.moved hE.1.alike hB.2.2.1).1 ci _ f1).2.1
          rw [x3, htag, ← hc4]
          exact this
        obtain ⟨mk, vm₁, g1, g2, g3⟩ := zinvV X hexec (own := q.1.cls) (host := "PantryMarket") (idx := idx) (ne := ne) (y := q'.1) hown (hts _ (zmem e1)) (hts _ (zmem e2)) e3' (hts _ (zmem (e5 hk))) e7 (a := zrf b s0.heap.size a) (ce := cell) (by rw [hT]; exact x1) (by rw [x4]; rfl) hcl3 (g := F0 m pc (zls b s0.heap.size ls) (st.map (zv b s0.heap.size))) rfl (argsL := (st.take (zMp N')).reverse.map (zv b s0.heap.size)) (rest := r'.map (zv b s0.heap.size)) (by rw [hl1]; exact e9) hstk hdg
        exact ⟨mk, vm₁, g1, g2, g3⟩
      · obtain ⟨y1, y2, y3⟩ := e6 hk
        have hcode : (Cond.code q'.1 q'.2.1 (zM0 N') none).before args s = true := by
          have := hts _ (zmem e2)
          unfold zcw at this
          rw [if_pos y3, y2] at this
          exact this
        obtain ⟨mk, vm₁, g1, g2, g3⟩ := zinvI X hexec (own := q.1.cls) (host := "PantryMarket") (idx := idx) (ne := ne) (y := q'.1) hown (hts _ (zmem e1)) hcode e3' y1 e7 (a := zrf b s0.heap.size a) (g := F0 m pc (zls b s0.heap.size ls) (st.map (zv b s0.heap.size))) rfl (argsL := (st.take (zMp N')).reverse.map (zv b s0.heap.size)) (rest := r'.map (zv b s0.heap.size)) (by rw [hl1]; exact e9) hstk hdg
        exact ⟨mk, vm₁, g1, g2, g3⟩
    · cases h3
  · cases h1
/-- the ends -/
theorem zret_ok (hC : zCx p e R s m meth c s0 D b j N q h0) (hR : zRel s0 D b h H) (hL : ∀ x ∈ locs, s0.heap.size ≤ x.base) (hlen : h0.length ≤ h.length ∧ h.length ≤ zcap) {cl : Bool} (hcl : cl = true → locs = [] ∧ h = h0) {v : Int32} {lz : Array Slot} (hd : decode q.2.1 pc = .ok (.ireturn, 1)) (hv : zMr N = 1 ∨ (zMr N = 2 ∧ (v = 0 ∨ v = 1))) :
    W p l e R s m args below meth c H locs (h.length - h0.length) (820 * (h.length - h0.length)) (zQ below s s0 D b h0 (.inl (some (.int v)), h, cl)) (F0 m pc lz [.int v]) := by
  obtain ⟨⟨hexec, htr, hB, hE⟩, ⟨hN, hq, hok⟩, ⟨hb, hml, htab, hret, hlocks, hown, hname⟩, hfr, hlo, hce, hsl⟩ := hC
  have hrt := (zmok_rest hok hq hN).2
  intro T hT X
  have hr : ∃ ty, meth.sig.returnType = some ty ∧ narrow ty (.int v) = .int v := by
    rw [hret, hrt]
    rcases hv with hv | ⟨hv, hx⟩
    · rw [hv]
      exact ⟨.int, rfl, rfl⟩
    · rw [hv]
      exact ⟨.boolean, rfl, by rcases hx with rfl | rfl <;> decide⟩
  obtain ⟨ty, hr, hnar⟩ := hr
  obtain ⟨fs, hret2, hrun, hended, hW, hframe⟩ := X.leave (v := some (.int v)) (fun h => by rw [hr] at h; cases h) hlocks
  have hmeth' : T.vm.method? m = some meth := X.method'
  refine ⟨T.setFrames fs, ?_, .returned (some (.int v)), hrun, hended, rfl, by show zRel s0 D b h T.heap; rw [hT]; exact hR, hlen, hW, locs, hframe, hL, hcl⟩
  jvm_step X.here [X.here.top, hexec, hb, hd, hmeth', hr, hnar]
  (try refine ⟨rfl, ?_⟩); (try refine ⟨rfl, ?_⟩)
  first | (intro acts; rw [hret2 _ acts rfl rfl rfl]) | rw [hret2 _ _ rfl rfl rfl]
  exact Steps.refl _
theorem zvret_ok (hC : zCx p e R s m meth c s0 D b j N q h0) (hR : zRel s0 D b h H) (hL : ∀ x ∈ locs, s0.heap.size ≤ x.base) (hlen : h0.length ≤ h.length ∧ h.length ≤ zcap) {cl : Bool} (hcl : cl = true → locs = [] ∧ h = h0) {lz : Array Slot} (hd : decode q.2.1 pc = .ok (.return_, 1)) (hv : zMr N = 0) :
    W p l e R s m args below meth c H locs (h.length - h0.length) (820 * (h.length - h0.length)) (zQ below s s0 D b h0 (.inl none, h, cl)) (F0 m pc lz []) := by
  obtain ⟨⟨hexec, htr, hB, hE⟩, ⟨hN, hq, hok⟩, ⟨hb, hml, htab, hret, hlocks, hown, hname⟩, hfr, hlo, hce, hsl⟩ := hC
  have hrt := (zmok_rest hok hq hN).2
  intro T hT X
  have hr : meth.sig.returnType = none := by
    rw [hret, hrt, hv]
    rfl
  obtain ⟨fs, hret2, hrun, hended, hW, hframe⟩ := X.leave (v := none) (fun _ => rfl) hlocks
  have hmeth' : T.vm.method? m = some meth := X.method'
  refine ⟨T.setFrames fs, ?_, .returned none, hrun, hended, rfl, by show zRel s0 D b h T.heap; rw [hT]; exact hR, hlen, hW, locs, hframe, hL, hcl⟩
  jvm_step X.here [X.here.top, hexec, hb, hd, hmeth', hr]
  (try refine ⟨rfl, ?_⟩); (try refine ⟨rfl, ?_⟩)
  first | (intro acts; rw [hret2 _ acts rfl rfl rfl]) | rw [hret2 _ _ rfl rfl rfl]
  exact Steps.refl _
end ZS2
end
section
section ZS3
set_option maxHeartbeats 8000000 in
theorem zsound (l : Launch) (hl : l.stackTraces = false) {s0 : State} {D : va_G} {b : Nat} : ∀ n, zIH l s0 D b n
  | 0 => fun j pc ls st h cl r hrun => by cases hrun
  | n + 1 => by
    have ih := zsound l hl (s0 := s0) (D := D) (b := b) n
    intro j pc ls st h cl r hrun p e R s m args below meth c H locs N q h0 hC hls hR hL hlen hcl
    have hC0 := hC
    obtain ⟨⟨hexec, htr, hB, hE⟩, ⟨hN, hq, hok⟩, ⟨hb, hml, htab, hret, hlocks, hown, hname⟩, hfr, hlo, hce, hsl⟩ := hC
    have hml2 : (zls b s0.heap.size ls).size = c.maxLocals := by rw [hml, ← hls]; exact zls_size
    unfold zrun at hrun
    obtain ⟨M, hM, h1⟩ := Option.bind_eq_some_iff.mp hrun
    cases hN.symm.trans hM
    obtain ⟨⟨ins, ax⟩, hlk, h2⟩ := Option.bind_eq_some_iff.mp h1
    obtain ⟨hd, hev⟩ := zmok_ent hok hq hN hlk
    dsimp only at h2
    split at h2
    · obtain ⟨r0, hr0, h3⟩ := Option.bind_eq_some_iff.mp h2
      obtain ⟨nn, hd1, hd2⟩ := hd
      exact zfr_ok hexec hb hd1 hd2 hr0 (ih j _ _ _ h cl r h3 p e R s m args below meth c H locs N q h0 hC0 (by rw [zfr_len hr0]; exact hls) hR hL hlen hcl)
    · obtain ⟨r0, hr0, h3⟩ := Option.bind_eq_some_iff.mp h2
      refine zhp_ok hC0 hd hev hr0 hR hL hlen fun H' locs' g1 g2 g3 g4 => ?_
      refine ih j _ _ _ _ _ r h3 p e R s m args below meth c H' locs' N q h0 hC0 hls g1 g2 g3 fun hb => ?_
      rw [Bool.and_eq_true] at hb
      obtain ⟨k1, k2⟩ := hcl hb.1
      obtain ⟨k3, k4⟩ := g4 (by simpa using hb.2)
      exact ⟨by rw [k4]; exact k1, by rw [k3]; exact k2⟩
    · rename_i hk0 hk1
      clear hk0 hk1
      split at h2
      · obtain ⟨v, r1, rfl, h3⟩ := zi1_some h2
        split at h3
        · rename_i hv
          obtain ⟨rfl, hv⟩ := hv
          cases h3
          exact zret_ok hC0 hR hL hlen hcl (zdec1 hd rfl) hv
        · cases h3
      · split at h2
        · rename_i hv
          obtain ⟨rfl, hv⟩ := hv
          cases h2
          exact zvret_ok hC0 hR hL hlen hcl (zdec1 hd rfl) hv
        · cases h2
      · rename_i idx v tl
        cases tl with
        | nil => cases hev
        | cons w tl =>
          have hev : decide (lw_tbl[w]? = some (Cond.constant q.1.cls idx (Int32.ofNat v))) = true := hev
          exact zldc_ok hexec hb hB hE hown (zdec1 hd rfl) (of_decide_eq_true hev) (ih j _ _ _ h cl r h2 p e R s m args below meth c H locs N q h0 hC0 hls hR hL hlen hcl)
      · rename_i idx v tl
        cases tl with
        | nil => cases hev
        | cons w tl =>
          have hev : decide (lw_tbl[w]? = some (Cond.constant q.1.cls idx (Int32.ofNat v))) = true := hev
          exact zldcw_ok hexec hb hB hE hown (zdec1 hd rfl) (of_decide_eq_true hev) (ih j _ _ _ h cl r h2 p e R s m args below meth c H locs N q h0 hC0 hls hR hL hlen hcl)
      · rename_i idx t tl
        cases tl with
        | nil => cases hev
        | cons w tl =>
          have hev : (if t < 7 then zevn q.1.cls idx t w else decide (lw_tbl[w]? = some (Cond.classLink q.1.cls idx (zexq t)))) = true := hev
          split at h2
          · rename_i ht
            rw [if_pos ht] at hev
            split at h2
            · rename_i hcap
              have hlen1 := hlen.1
              refine znew_ok hexec hb hB hE hR hown ht (zdec1 hd rfl) hev (by omega) (by omega) fun H' g1 => ?_
              have K := ih j _ _ _ _ _ r h2 p e R s m args below meth c H' locs N q h0 hC0 hls g1 hL ⟨by simp; omega, by simp; omega⟩ (fun hb => by cases hb)
              have e1 : (h ++ [(t, znewv t)]).length - h0.length = h.length - h0.length + 1 := by simp; omega
              rw [e1, show 820 * (h.length - h0.length + 1) = 820 * (h.length - h0.length) + 820 by omega] at K
              exact K
            · cases h2
          · rename_i ht
            rw [if_neg ht] at hev
            unfold zthr at h2
            obtain ⟨⟨i3, a3⟩, k3, h3⟩ := Option.bind_eq_some_iff.mp h2
            obtain ⟨⟨i4, a4⟩, k4, h4⟩ := Option.bind_eq_some_iff.mp h3
            obtain ⟨⟨i6, a6⟩, k6, h6⟩ := Option.bind_eq_some_iff.mp h4
            obtain ⟨⟨i9, a9⟩, k9, h9⟩ := Option.bind_eq_some_iff.mp h6
            obtain ⟨d3, v3⟩ := zmok_ent hok hq hN k3
            obtain ⟨d4, v4⟩ := zmok_ent hok hq hN k4
            obtain ⟨d6, v6⟩ := zmok_ent hok hq hN k6
            obtain ⟨d9, v9⟩ := zmok_ent hok hq hN k9
            dsimp only at h9
            split at h9
            · rename_i sidx tl4 ic t' tl6 he4 he6
              cases he4
              cases he6
              split at h9
              · rename_i hx
                obtain ⟨x1, x2, x3, x4, x5, x6, x7, x8, x9⟩ := hx
                cases h9
                cases tl4 with
                | nil => cases v4
                | cons w4 tl4 =>
                  cases tl6 with
                  | nil => cases v6
                  | cons w6 tl6 =>
                    have v6 : decide (lw_tbl[w6]? = some (Cond.methodLink q.1.cls ic (Bundle.initS (zexn.getD t' "")))) = true := v6
                    have hln : lw_tbl[w6]? = some (Cond.methodLink q.1.cls ic (Bundle.initS (zexq t))) := by
                      have := of_decide_eq_true v6
                      rw [this]
                      unfold zexq
                      rw [x3, Nat.add_sub_cancel_left]
                    have hs : ∃ tx, lw_tbl[w4]? = some (Cond.stringRef q.1.cls sidx tx) := by
                      have v4 : (match lw_tbl[w4]? with
                        | some (.stringRef o k _) => decide (o = q.1.cls) && decide (k = sidx)
                        | _ => false) = true := v4
                      split at v4
                      · rename_i o k tx hw
                        simp only [Bool.and_eq_true, decide_eq_true_eq] at v4
                        obtain ⟨rfl, rfl⟩ := v4
                        exact ⟨tx, hw⟩
                      · cases v4
                    obtain ⟨tx, hs⟩ := hs
                    obtain ⟨y1, y2⟩ := hcl x9
                    subst y1
                    subst y2
                    have htab2 : c.exceptionTable.toList = [] := by rw [htab, x4]; rfl
                    rw [Nat.sub_self, Nat.mul_zero]
                    exact zthrow_ok hexec hb htr hB hE hR hown hml2 hlocks htab2 (zdec1 hd rfl) (zdec1 d3 rfl) (zdec1 d4 rfl) (zdec1 d6 rfl) (zdec1 d9 rfl) ⟨x1, x2⟩ (of_decide_eq_true hev) hs hln (by omega) (by omega) x7 x8 (by omega) (by omega)
              · cases h9
            · cases h9
      · rename_i idx tl
        cases tl with
        | nil => cases hev
        | cons w tl =>
          have hev : decide (lw_tbl[w]? = some (Cond.methodLink q.1.cls idx Lib.objectInit)) = true := hev
          obtain ⟨a, r1, rfl, h3⟩ := zr1_some h2
          split at h3
          · rename_i hx
            obtain ⟨x1, x2, x3⟩ := hx
            exact zobi_ok hexec hb hml2 hB hE hown (zdec1 hd rfl) (of_decide_eq_true hev) (by omega) (by omega) x3 (ih j _ _ _ h cl r h3 p e R s m args below meth c H locs N q h0 hC0 hls hR hL hlen hcl)
          · cases h3
      · rename_i idx tl
        cases tl with
        | nil => cases hev
        | cons w tl =>
          have hev : decide (lw_tbl[w]? = some (Cond.methodLink q.1.cls idx arraycopyName)) = true := hev
          obtain ⟨k, r1, rfl, h31⟩ := zi1_some h2
          obtain ⟨dp, r2, rfl, h32⟩ := zi1_some h31
          obtain ⟨a, r3, rfl, h33⟩ := zp1_some h32
          obtain ⟨sp, r4, rfl, h34⟩ := zi1_some h33
          obtain ⟨x, r5, rfl, h35⟩ := zr1_some h34
          obtain ⟨cx, hx, h4⟩ := Option.bind_eq_some_iff.mp h35
          obtain ⟨ca, ha, h5⟩ := Option.bind_eq_some_iff.mp h4
          split at h5
          · rename_i hx2
            obtain ⟨x1, x2, x3, x4, x5, x6, x7, x8, x9, x10, x11⟩ := hx2
            refine zcopy_ok hexec hb hml2 hB hE hR hL hown (zdec1 hd rfl) (of_decide_eq_true hev) hx ha x1 x2 x3 x4 x5 x6 x7 x8 (by omega) (by omega) x11 fun H' locs' g1 g2 => ?_
            have K := ih j _ _ _ _ _ r h5 p e R s m args below meth c H' locs' N q h0 hC0 hls g1 g2 (by simpa using hlen) (fun hb => by cases hb)
            simpa using K
          · cases h5
      · rename_i idx j' tl
        obtain ⟨N', hN', h3⟩ := Option.bind_eq_some_iff.mp h2
        split at h3
        · rename_i hx
          match tl, hev with
          | w :: ne :: ci :: tl, hev => exact zstat_ok hl ih hC0 hls hR hL hlen hcl (zdec1 hd rfl) hev hN' hx.2 h3
          | [], hev => cases hev
          | [_], hev => cases hev
          | [_, _], hev => cases hev
        · cases h3
      · rename_i idx j' w ne ci tl
        exact zobj_ok hl ih hC0 hls hR hL hlen hcl (Or.inl ⟨rfl, rfl⟩) (zdec1 hd rfl) hev h2
      · rename_i idx j' w ne ci tl
        exact zobj_ok hl ih hC0 hls hR hL hlen hcl (Or.inr ⟨rfl, rfl⟩) (zdec1 hd rfl) hev h2
      · cases h2
end ZS3
end
section
/-- the step of zrun, with the way on as an argument -/
def zstep (run : Nat → Nat → List Slot → List Value → Zh → Bool → Option Zr) (j pc : Nat) (ls : List Slot) (st : List Value) (h : Zh) (cl : Bool) (M : Zm) (q : Instr × List Nat) : Option Zr :=
      match zkind q.1 with
      | 0 => (zfr q.1 pc ls st).bind fun r => run j r.1 r.2.1 r.2.2 h cl
      | 1 => (zhp q.1 q.2 st h).bind fun r => run j (pc + zlen q.1) ls r.1 r.2.1 (cl && !r.2.2)
      | _ =>
        match q.1, q.2 with
        | .ireturn, _ => zi1 st fun v r => if r = [] ∧ (zMr M = 1 ∨ (zMr M = 2 ∧ (v = 0 ∨ v = 1))) then some (.inl (some (.int v)), h, cl) else none
        | .return_, _ => if st = [] ∧ zMr M = 0 then some (.inl none, h, cl) else none
        | .ldc _, 1 :: v :: _ => run j (pc + 2) ls (.int (Int32.ofNat v) :: st) h cl
        | .ldc_w _, 1 :: v :: _ => run j (pc + 3) ls (.int (Int32.ofNat v) :: st) h cl
        | .new _, t :: _ =>
          if t < 7 then
            (if h.length < zcap then run j (pc + 3) ls (.ref h.length :: st) (h ++ [(t, znewv t)]) false else none)
          else zthr M t pc st h cl
        | .invokespecial _, 4 :: _ => zr1 st fun _ r => if 1 ≤ zMf M ∧ 40 ≤ zMl M ∧ r.length ≤ 8 then run j (pc + 3) ls r h cl else none
        | .invokestatic _, 0 :: _ => zi1 st fun k r => zi1 r fun dp r => zp1 r fun a r => zi1 r fun sp r => zr1 r fun b r =>
          (h[b]?).bind fun c => (h[a + 1]?).bind fun d =>
            if c.1 = 100 ∧ d.1 = 100 ∧ ¬ sp < 0 ∧ ¬ dp < 0 ∧ ¬ k < 0 ∧ sp.toNatClampNeg + k.toNatClampNeg ≤ c.2.length ∧ dp.toNatClampNeg + k.toNatClampNeg ≤ d.2.length ∧ c.2.all zisi = true ∧ 1 ≤ zMf M ∧ 40 ≤ zMl M ∧ r.length ≤ 8 then
              run j (pc + 3) ls r (h.set (a + 1) (100, zcpy c.2 d.2 sp.toNatClampNeg dp.toNatClampNeg k.toNatClampNeg)) false
            else none
        | .invokestatic _, 1 :: j' :: _ =>
          (zmi[j']?).bind fun N => if zMs N = true ∧ zMp N ≤ st.length then
            zcall run (run j · ls · · ·) M j' pc (st.take (zMp N)).reverse (st.drop (zMp N)) h cl else none
        | .invokevirtual _, 2 :: j' :: _ :: _ :: ci :: _ => zobj run (run j · ls · · ·) M j' ci pc st h cl
        | .invokespecial _, 3 :: j' :: _ :: _ :: ci :: _ => zobj run (run j · ls · · ·) M j' ci pc st h cl
        | _, _ => none
theorem zrun_succ (n j pc : Nat) (ls : List Slot) (st : List Value) (h : Zh) (cl : Bool) : zrun (n + 1) j pc ls st h cl = (zmi[j]?).bind fun M => (zlk (zMc M) pc).bind fun q => zstep (zrun n) j pc ls st h cl M q := rfl
abbrev Zrun : Type := Nat → Nat → List Slot → List Value → Zh → Bool → Option Zr
def zle (f g : Zrun) : Prop := ∀ j pc ls st h cl r, f j pc ls st h cl = some r → g j pc ls st h cl = some r
theorem zcall_mono {f g : Zrun} (hfg : zle f g) {j0 : Nat} {ls : List Slot} {M : Zm} {j pc : Nat} {vs st : List Value} {h : Zh} {cl : Bool} {r : Zr} (hr : zcall f (f j0 · ls · · ·) M j pc vs st h cl = some r) : zcall g (g j0 · ls · · ·) M j pc vs st h cl = some r := by
  unfold zcall at hr ⊢
  obtain ⟨N, hN, h1⟩ := Option.bind_eq_some_iff.mp hr
  rw [hN, Option.bind_some]
  split at h1
  · rename_i hc
    rw [if_pos hc]
    obtain ⟨r', hr', h2⟩ := Option.bind_eq_some_iff.mp h1
    rw [hfg _ _ _ _ _ _ _ hr', Option.bind_some]
    obtain ⟨ro, h', c'⟩ := r'
    cases ro with
    | inl v => exact hfg _ _ _ _ _ _ _ h2
    | inr a =>
      unfold zgo at h2 ⊢
      dsimp only at h2 ⊢
      obtain ⟨c, hc1, h3⟩ := Option.bind_eq_some_iff.mp h2
      rw [hc1, Option.bind_some]
      split at h3
      · rename_i hcc
        rw [if_pos hcc]
        split at h3
        · exact hfg _ _ _ _ _ _ _ h3
        · exact h3
      · cases h3
  · cases h1
theorem zobj_mono {f g : Zrun} (hfg : zle f g) {j0 : Nat} {ls : List Slot} {M : Zm} {j ci pc : Nat} {st : List Value} {h : Zh} {cl : Bool} {r : Zr} (hr : zobj f (f j0 · ls · · ·) M j ci pc st h cl = some r) : zobj g (g j0 · ls · · ·) M j ci pc st h cl = some r := by
  unfold zobj at hr ⊢
  obtain ⟨N, hN, h1⟩ := Option.bind_eq_some_iff.mp hr
  rw [hN, Option.bind_some]
  split at h1
  · rename_i hc
    rw [if_pos hc]
    obtain ⟨a, r', hr', h2⟩ := zr1_some h1
    rw [hr']
    show ((h[a]?).bind _) = _
    obtain ⟨c, hc1, h3⟩ := Option.bind_eq_some_iff.mp h2
    rw [hc1, Option.bind_some]
    split at h3
    · rename_i hcc
      rw [if_pos hcc]
      exact zcall_mono hfg h3
    · cases h3
  · cases h1
theorem zstep_mono {f g : Zrun} (hfg : zle f g) {j pc : Nat} {ls : List Slot} {st : List Value} {h : Zh} {cl : Bool} {M : Zm} {q : Instr × List Nat} {r : Zr} (hr : zstep f j pc ls st h cl M q = some r) : zstep g j pc ls st h cl M q = some r := by
  unfold zstep at hr ⊢
  split at hr
  · obtain ⟨r0, hr0, h3⟩ := Option.bind_eq_some_iff.mp hr
    show ((zfr q.1 pc ls st).bind _) = _
    rw [hr0, Option.bind_some]
    exact hfg _ _ _ _ _ _ _ h3
  · obtain ⟨r0, hr0, h3⟩ := Option.bind_eq_some_iff.mp hr
    show ((zhp q.1 q.2 st h).bind _) = _
    rw [hr0, Option.bind_some]
    exact hfg _ _ _ _ _ _ _ h3
  · obtain ⟨ins, ax⟩ := q
    dsimp only at hr ⊢
    split at hr
    · exact hr
    · exact hr
    · exact hfg _ _ _ _ _ _ _ hr
    · exact hfg _ _ _ _ _ _ _ hr
    · split at hr
      · rename_i ht
        rw [if_pos ht]
        split at hr
        · rename_i hc
          rw [if_pos hc]
          exact hfg _ _ _ _ _ _ _ hr
        · cases hr
      · rename_i ht
        rw [if_neg ht]
        exact hr
    · obtain ⟨a, r1, rfl, h3⟩ := zr1_some hr
      show (if _ then _ else _) = _
      split at h3
      · rename_i hc
        rw [if_pos hc]
        exact hfg _ _ _ _ _ _ _ h3
      · cases h3
    · obtain ⟨k, r1, rfl, h31⟩ := zi1_some hr
      obtain ⟨dp, r2, rfl, h32⟩ := zi1_some h31
      obtain ⟨a, r3, rfl, h33⟩ := zp1_some h32
      obtain ⟨sp, r4, rfl, h34⟩ := zi1_some h33
      obtain ⟨x, r5, rfl, h35⟩ := zr1_some h34
      obtain ⟨cx, hx, h4⟩ := Option.bind_eq_some_iff.mp h35
      obtain ⟨ca, ha, h5⟩ := Option.bind_eq_some_iff.mp h4
      show ((h[x]?).bind _) = _
      rw [hx, Option.bind_some, ha, Option.bind_some]
      split at h5
      · rename_i hc
        rw [if_pos hc]
        exact hfg _ _ _ _ _ _ _ h5
      · cases h5
    · obtain ⟨N, hN, h3⟩ := Option.bind_eq_some_iff.mp hr
      show ((zmi[_]?).bind _) = _
      rw [hN, Option.bind_some]
      split at h3
      · rename_i hc
        rw [if_pos hc]
        exact zcall_mono hfg h3
      · cases h3
    · exact zobj_mono hfg hr
    · exact zobj_mono hfg hr
    · cases hr
theorem zrun_mono1 : ∀ n, zle (zrun n) (zrun (n + 1))
  | 0 => fun j pc ls st h cl r hr => by cases hr
  | n + 1 => fun j pc ls st h cl r hr => by
    rw [zrun_succ] at hr ⊢
    obtain ⟨M, hM, h1⟩ := Option.bind_eq_some_iff.mp hr
    obtain ⟨q, hq, h2⟩ := Option.bind_eq_some_iff.mp h1
    rw [hM, Option.bind_some, hq, Option.bind_some]
    exact zstep_mono (zrun_mono1 n) h2
theorem zrun_mono {n m : Nat} (h : n ≤ m) : zle (zrun n) (zrun m) := by
  obtain ⟨k, rfl⟩ := Nat.le.dest h
  induction k with
  | zero => exact fun j pc ls st h cl r hr => hr
  | succ k ih => exact fun j pc ls st h cl r hr => zrun_mono1 (n + k) _ _ _ _ _ _ _ (ih (by omega) _ _ _ _ _ _ _ hr)
/-- it runs to r -/
def ZR (j pc : Nat) (ls : List Slot) (st : List Value) (h : Zh) (cl : Bool) (r : Zr) : Prop := ∃ f, zrun f j pc ls st h cl = some r
end
section
abbrev Ky : Type := Nat × Nat × Nat
abbrev Kd : Type := (Nat × Nat) ⊕ Ky
/-- where a slot's content lies: a number's place in the flat state, or a key -/
def klocs : List (Nat → Nat → Nat → Kd) := [
  fun _ _ s => if s = 0 then .inr (1, 0, 0) else .inr (20, 0, 0),
  fun _ _ s => .inr (2, s, 0),
  fun b _ s => if s = 0 then .inl (10, b) else if s = 1 then .inr (3, 2 * b, 0) else .inr (3, 2 * b + 1, 0),
  fun b _ s => if s = 4 then .inl (b, 16) else if s = 5 then .inl (b, 18) else if s = 6 then .inr (8, b, 0) else if s = 7 then .inr (13, b, 0) else .inr (4 + s, b, 0),
  fun b _ s => .inl (b, s),
  fun b _ s => .inl (b, 4 + s),
  fun b _ s => .inl (b, 8 + s),
  fun b _ s => .inl (b, 12 + s),
  fun b _ s => if s = 0 then .inl (b, 17) else if s = 1 then .inl (b, 19) else .inr (7 + s, b, 0),
  fun b _ s => .inl (b, 20 + 4 * s),
  fun b _ s => .inl (b, 20 + 4 * s + 1),
  fun b _ s => .inl (b, 20 + 4 * s + 2),
  fun b _ s => .inl (b, 20 + 4 * s + 3),
  fun b _ s => .inr (14, b, s),
  fun b o s => if s = 0 then .inl (b, 44 + 24 * o) else if s = 1 then .inl (b, 44 + 24 * o + 1) else if s = 5 then .inl (b, 44 + 24 * o + 14) else if s = 6 then .inl (b, 44 + 24 * o + 15) else if s = 7 then .inr (18, b, o) else if s = 8 then .inr (19, b, o) else .inr (13 + s, b, o),
  fun b o s => .inl (b, 44 + 24 * o + 2 + 3 * s),
  fun b o s => .inl (b, 44 + 24 * o + 2 + 3 * s + 1),
  fun b o s => .inl (b, 44 + 24 * o + 2 + 3 * s + 2),
  fun b o s => .inl (b, 44 + 24 * o + 16 + s),
  fun b o s => .inl (b, 44 + 24 * o + 20 + s),
  fun _ _ s => if s = 0 then .inl (12, 0) else if s = 1 then .inl (12, 1) else .inr (21, 0, 0),
  fun _ _ s => .inl (11, s),
  fun _ _ s => if s = 0 then .inl (42, 0) else if s = 1 then .inl (42, 1) else if s = 5 then .inl (42, 2) else if s = 6 then .inl (42, 3) else if s = 7 then .inr (26, 0, 0) else .inr (21 + s, 0, 0),
  fun _ _ s => .inl (20 + s / 164, s % 164),
  fun _ _ s => .inl (30 + s / 164, s % 164),
  fun _ _ s => .inl (40, s),
  fun _ _ s => .inl (41, s),
  fun _ _ s => .inl (50, s),
  fun _ _ s => .inl (60, s)]
def kloc (κ : Ky) (s : Nat) : Kd := (klocs.getD κ.1 (fun _ _ _ => .inl (0, 0))) κ.2.1 κ.2.2 s
def ktag (κ : Ky) : Nat := [0, 103, 1, 2, 100, 100, 100, 100, 5, 100, 100, 100, 100, 104, 4, 100, 100, 100, 100, 100, 3, 100, 6, 100, 100, 102, 100, 101, 100].getD κ.1 0
def klen (n L : Nat) (κ : Ky) : Nat := [2, n, 3, 8, 4, 4, 4, 4, 6, 6, 6, 6, 6, n, 9, 4, 4, 4, 4, 4, 3, 144, 8, 820, 820, 5, 150, 1, L].getD κ.1 0
/-- the place of a key's cell in the heap -/
def kad (n : Nat) (κ : Ky) : Nat :=
  let w := 23 + 12 * n
  let v := 11 + 6 * n
  let z := 3 + n * w
  let t := 4 + (κ.2.1 / 2) * w + (κ.2.1 % 2) * v
  [1, 2, 3 + κ.2.1 * w, t, t + 1, t + 2, t + 3, t + 4, t + 5, t + 6, t + 7, t + 8, t + 9, t + 10, t + 11 + 6 * κ.2.2, t + 12 + 6 * κ.2.2, t + 13 + 6 * κ.2.2, t + 14 + 6 * κ.2.2, t + 15 + 6 * κ.2.2, t + 16 + 6 * κ.2.2,
    z, z + 1, z + 2, z + 3, z + 4, z + 5, z + 6, z + 7, 0].getD κ.1 0
def knn (n : Nat) : Nat := 11 + n * (23 + 12 * n)
/-- the key at a place -/
def kof (n a : Nat) : Ky :=
  let w := 23 + 12 * n
  let v := 11 + 6 * n
  let z := 3 + n * w
  if a = 0 then (28, 0, 0) else if a = 1 then (0, 0, 0) else if a = 2 then (1, 0, 0)
  else if z ≤ a then (20 + (a - z), 0, 0)
  else
    let q := (a - 3) / w
    let r := (a - 3) % w
    if r = 0 then (2, q, 0)
    else
      let b := 2 * q + (r - 1) / v
      let x := (r - 1) % v
      if x ≤ 5 then ([3, 4, 5, 6, 7, 8].getD x 0, b, 0) else if x ≤ 10 then (3 + x, b, 0) else (14 + (x - 11) % 6, b, (x - 11) / 6)
def kok (n : Nat) (κ : Ky) : Bool :=
  if κ.1 = 2 then decide (κ.2.1 < n) && decide (κ.2.2 = 0)
  else if 3 ≤ κ.1 ∧ κ.1 ≤ 13 then decide (κ.2.1 < 2 * n) && decide (κ.2.2 = 0)
  else if 14 ≤ κ.1 ∧ κ.1 ≤ 19 then decide (κ.2.1 < 2 * n) && decide (κ.2.2 < n)
  else decide (κ.1 < 29) && decide (κ.2.1 = 0) && decide (κ.2.2 = 0)
theorem kof_all : ((List.range 4).all fun m => (List.range 29).all fun k => (List.range 10).all fun b => (List.range 5).all fun o => !kok (m + 2) (k, b, o) || (decide (kad (m + 2) (k, b, o) < knn (m + 2)) && decide (kof (m + 2) (kad (m + 2) (k, b, o)) = (k, b, o)))) = true := by decide +kernel
theorem kad_all : ((List.range 4).all fun m => (List.range (knn (m + 2))).all fun a => decide (kad (m + 2) (kof (m + 2) a) = a) && kok (m + 2) (kof (m + 2) a)) = true := by decide +kernel
theorem kok_bounds {n : Nat} {κ : Ky} (hn : n ≤ 5) (hk : kok n κ = true) : κ.1 < 29 ∧ κ.2.1 < 10 ∧ κ.2.2 < 5 := by
  unfold kok at hk
  split at hk
  · simp only [Bool.and_eq_true, decide_eq_true_eq] at hk
    omega
  · split at hk
    · simp only [Bool.and_eq_true, decide_eq_true_eq] at hk
      omega
    · split at hk
      · simp only [Bool.and_eq_true, decide_eq_true_eq] at hk
        omega
      · simp only [Bool.and_eq_true, decide_eq_true_eq] at hk
        omega
theorem kof_kad {n : Nat} {κ : Ky} (hn : 2 ≤ n ∧ n ≤ 5) (hk : kok n κ = true) : kad n κ < knn n ∧ kof n (kad n κ) = κ := by
  obtain ⟨m, rfl⟩ : ∃ m, n = m + 2 := ⟨n - 2, by omega⟩
  obtain ⟨h1, h2, h3⟩ := kok_bounds hn.2 hk
  have h := kof_all
  simp only [List.all_eq_true, List.mem_range] at h
  have h4 := h m (by omega) κ.1 h1 κ.2.1 h2 κ.2.2 h3
  have hk2 : kok (m + 2) (κ.1, κ.2.1, κ.2.2) = true := hk
  rw [hk2] at h4
  simpa using h4
theorem kad_kof {n a : Nat} (hn : 2 ≤ n ∧ n ≤ 5) (ha : a < knn n) : kad n (kof n a) = a ∧ kok n (kof n a) = true := by
  obtain ⟨m, rfl⟩ : ∃ m, n = m + 2 := ⟨n - 2, by omega⟩
  have h := kad_all
  simp only [List.all_eq_true, List.mem_range] at h
  have h4 := h m (by omega) a ha
  simpa using h4
abbrev Ks : Type := Nat → Nat → Int32
def kv (n : Nat) (σ : Ks) (tag : Nat) : Kd → Value
  | .inl p => if tag = 101 then .long (σ p.1 p.2).toInt64 else .int (σ p.1 p.2)
  | .inr κ => .ref (kad n κ)
def kcell (n L : Nat) (σ : Ks) (κ : Ky) : Zc := (ktag κ, (List.range (klen n L κ)).map fun s => kv n σ (ktag κ) (kloc κ s))
def khp (n L : Nat) (σ : Ks) (g : List Nat) : Zh := (List.range (knn n)).map (fun a => kcell n L σ (kof n a)) ++ g.map fun t => (t, [])
def kup (σ : Ks) (a i : Nat) (v : Int32) : Ks := fun x y => if x = a ∧ y = i then v else σ x y
theorem khp_get {n L : Nat} {σ : Ks} {g : List Nat} {κ : Ky} (hn : 2 ≤ n ∧ n ≤ 5) (hk : kok n κ = true) : (khp n L σ g)[kad n κ]? = some (kcell n L σ κ) := by
  obtain ⟨h1, h2⟩ := kof_kad hn hk
  unfold khp
  rw [List.getElem?_append_left (by simpa using h1)]
  simp [h1, h2]
theorem khp_len {n L : Nat} {σ : Ks} {g : List Nat} : (khp n L σ g).length = knn n + g.length := by simp [khp]
end
section
def kinvb (i : Nat) : Nat × Nat × Nat :=
  if i < 4 then (4, 0, i) else if i < 8 then (5, 0, i - 4) else if i < 12 then (6, 0, i - 8) else if i < 16 then (7, 0, i - 12) else if i = 16 then (3, 0, 4) else if i = 17 then (8, 0, 0) else if i = 18 then (3, 0, 5) else if i = 19 then (8, 0, 1)
  else if i < 44 then (9 + (i - 20) % 4, 0, (i - 20) / 4)
  else if (i - 44) % 24 = 0 then (14, (i - 44) / 24, 0) else if (i - 44) % 24 = 1 then (14, (i - 44) / 24, 1) else if (i - 44) % 24 < 14 then (15 + ((i - 44) % 24 - 2) % 3, (i - 44) / 24, ((i - 44) % 24 - 2) / 3)
  else if (i - 44) % 24 = 14 then (14, (i - 44) / 24, 5) else if (i - 44) % 24 = 15 then (14, (i - 44) / 24, 6) else if (i - 44) % 24 < 20 then (18, (i - 44) / 24, (i - 44) % 24 - 16) else (19, (i - 44) / 24, (i - 44) % 24 - 20)
def kinv (a i : Nat) : Nat × Nat × Nat × Nat :=
  if a < 10 then ((kinvb i).1, a, (kinvb i).2.1, (kinvb i).2.2) else if a = 10 then (2, i, 0, 0) else if a = 11 then (21, 0, 0, i) else if a = 12 then (20, 0, 0, i)
  else if a < 30 then (23, 0, 0, (a - 20) * 164 + i) else if a < 40 then (24, 0, 0, (a - 30) * 164 + i) else if a = 40 then (25, 0, 0, i) else if a = 41 then (26, 0, 0, i)
  else if a = 42 then (22, 0, 0, if i = 0 then 0 else if i = 1 then 1 else if i = 2 then 5 else 6) else if a = 50 then (27, 0, 0, i) else (28, 0, 0, i)
def kposb (k o s : Nat) : Option Nat := match kloc (k, 0, o) s with
  | .inl p => some p.2
  | .inr _ => none
theorem kposb_all : ((List.range 17).all fun k => (List.range 5).all fun o => (List.range 9).all fun s => (decide (k < 11) && decide (o ≠ 0)) || decide (klen 5 0 (k + 3, 0, o) ≤ s) || (match kposb (k + 3) o s with
  | some i => decide (kinvb i = (k + 3, o, s))
  | none => true)) = true := by decide +kernel
theorem kloc_b {k b o s a i : Nat} (h3 : 3 ≤ k) (h19 : k < 20) (h : kloc (k, b, o) s = .inl (a, i)) : a = b ∧ kposb k o s = some i := by
  have hc : k = 3 ∨ k = 4 ∨ k = 5 ∨ k = 6 ∨ k = 7 ∨ k = 8 ∨ k = 9 ∨ k = 10 ∨ k = 11 ∨ k = 12 ∨ k = 13 ∨ k = 14 ∨ k = 15 ∨ k = 16 ∨ k = 17 ∨ k = 18 ∨ k = 19 := by omega
  rcases hc with rfl | rfl | rfl | rfl | rfl | rfl | rfl | rfl | rfl | rfl | rfl | rfl | rfl | rfl | rfl | rfl | rfl
  all_goals
    simp only [kposb, kloc, klocs, List.getD_cons_zero, List.getD_cons_succ] at h ⊢
  all_goals (repeat' split at h)
  all_goals cases h
  all_goals first
    | exact ⟨rfl, rfl⟩
    | (refine ⟨rfl, ?_⟩; simp [*])
theorem klen_b {n L k b o : Nat} (h3 : 3 ≤ k) (h19 : k < 20) (h13 : k ≠ 13) : klen n L (k, b, o) = klen 5 0 (k, 0, o) := by
  have hc : k = 3 ∨ k = 4 ∨ k = 5 ∨ k = 6 ∨ k = 7 ∨ k = 8 ∨ k = 9 ∨ k = 10 ∨ k = 11 ∨ k = 12 ∨ k = 14 ∨ k = 15 ∨ k = 16 ∨ k = 17 ∨ k = 18 ∨ k = 19 := by omega
  rcases hc with rfl | rfl | rfl | rfl | rfl | rfl | rfl | rfl | rfl | rfl | rfl | rfl | rfl | rfl | rfl | rfl <;> rfl
theorem klen9 {k o : Nat} (h3 : 3 ≤ k) (h19 : k < 20) : klen 5 0 (k, 0, o) ≤ 9 := by
  have hc : k = 3 ∨ k = 4 ∨ k = 5 ∨ k = 6 ∨ k = 7 ∨ k = 8 ∨ k = 9 ∨ k = 10 ∨ k = 11 ∨ k = 12 ∨ k = 13 ∨ k = 14 ∨ k = 15 ∨ k = 16 ∨ k = 17 ∨ k = 18 ∨ k = 19 := by omega
  rcases hc with rfl | rfl | rfl | rfl | rfl | rfl | rfl | rfl | rfl | rfl | rfl | rfl | rfl | rfl | rfl | rfl | rfl <;> simp [klen]
theorem kinv_ok {n L : Nat} {κ : Ky} {s a i : Nat} (hn : n ≤ 5) (hk : kok n κ = true) (hs : s < klen n L κ) (h : kloc κ s = .inl (a, i)) : kinv a i = (κ.1, κ.2.1, κ.2.2, s) := by
  obtain ⟨k, b, o⟩ := κ
  obtain ⟨h1, h2, h3⟩ := kok_bounds hn hk
  dsimp only at h1 h2 h3 ⊢
  by_cases hb : 3 ≤ k ∧ k < 20
  · obtain ⟨rfl, hp⟩ := kloc_b hb.1 hb.2 h
    have hne : k ≠ 13 := by
      rintro rfl
      cases h
    rw [klen_b hb.1 hb.2 hne] at hs
    have h9 := klen9 (o := o) hb.1 hb.2
    have hall := kposb_all
    simp only [List.all_eq_true, List.mem_range] at hall
    have h4 := hall (k - 3) (by omega) o h3 s (by omega)
    rw [Nat.sub_add_cancel hb.1, hp] at h4
    simp only [Bool.or_eq_true, Bool.and_eq_true, decide_eq_true_eq] at h4
    have ho : ¬ (k - 3 < 11 ∧ o ≠ 0) := by
      rintro ⟨x1, x2⟩
      unfold kok at hk
      rw [if_neg (by show ¬ k = 2; omega), if_pos (by show 3 ≤ k ∧ k ≤ 13; omega)] at hk
      simp only [Bool.and_eq_true, decide_eq_true_eq] at hk
      exact x2 hk.2
    have h5 : kinvb i = (k, o, s) := by
      rcases h4 with (h4 | h4) | h4
      · exact absurd h4 ho
      · omega
      · exact h4
    unfold kinv
    rw [if_pos h2, h5]
  · have hc : k = 0 ∨ k = 1 ∨ k = 2 ∨ k = 20 ∨ k = 21 ∨ k = 22 ∨ k = 23 ∨ k = 24 ∨ k = 25 ∨ k = 26 ∨ k = 27 ∨ k = 28 := by omega
    rcases hc with rfl | rfl | rfl | rfl | rfl | rfl | rfl | rfl | rfl | rfl | rfl | rfl
    all_goals
      simp only [klen, kloc, klocs, List.getD_cons_zero, List.getD_cons_succ] at hs h
    all_goals
      simp [kok] at hk
    · split at h <;> cases h
    · cases h
    · split at h
      · rename_i h0
        cases h
        rw [hk.2, h0]
        rfl
      · split at h <;> cases h
    · obtain ⟨rfl, rfl⟩ := hk
      split at h
      · rename_i h0
        cases h
        rw [h0]
        rfl
      · split at h
        · rename_i h0
          cases h
          rw [h0]
          rfl
        · cases h
    · obtain ⟨rfl, rfl⟩ := hk
      cases h
      rfl
    · obtain ⟨rfl, rfl⟩ := hk
      repeat' split at h
      all_goals cases h
      all_goals (rename_i h0; rw [h0]; rfl)
    · obtain ⟨rfl, rfl⟩ := hk
      cases h
      unfold kinv
      rw [if_neg (by omega), if_neg (by omega), if_neg (by omega), if_neg (by omega), if_pos (by omega)]
      simp only [Prod.mk.injEq, true_and]
      omega
    · obtain ⟨rfl, rfl⟩ := hk
      cases h
      unfold kinv
      rw [if_neg (by omega), if_neg (by omega), if_neg (by omega), if_neg (by omega), if_neg (by omega), if_pos (by omega)]
      simp only [Prod.mk.injEq, true_and]
      omega
    all_goals
      obtain ⟨rfl, rfl⟩ := hk
      cases h
      rfl
end
section
def kvv (tag : Nat) (v : Int32) : Value := if tag = 101 then .long v.toInt64 else .int v
theorem kv_up {n : Nat} {σ : Ks} {tag a i : Nat} {v : Int32} {d : Kd} (h : d ≠ .inl (a, i)) : kv n (kup σ a i v) tag d = kv n σ tag d := by
  cases d with
  | inr κ => rfl
  | inl p =>
    obtain ⟨x, y⟩ := p
    have hne : ¬ (x = a ∧ y = i) := fun q => h (by rw [q.1, q.2])
    simp only [kv, kup, hne, if_false]
theorem khp_set {n L : Nat} {σ : Ks} {g : List Nat} {κ : Ky} {s a i : Nat} {v : Int32} (hn : 2 ≤ n ∧ n ≤ 5) (hk : kok n κ = true) (hs : s < klen n L κ) (hl : kloc κ s = .inl (a, i)) :
    khp n L (kup σ a i v) g = (khp n L σ g).set (kad n κ) (ktag κ, (kcell n L σ κ).2.set s (kvv (ktag κ) v)) := by
  have hinj := kinv_ok hn.2 hk hs hl
  obtain ⟨h1, h2⟩ := kof_kad hn hk
  unfold khp
  rw [List.set_append_left _ _ (by simpa using h1)]
  congr 1
  apply List.ext_getElem?
  intro x
  by_cases hx : x < knn n
  · by_cases hxk : x = kad n κ
    · subst hxk
      rw [List.getElem?_set_self (by simpa using h1)]
      simp only [List.getElem?_map, List.getElem?_range h1, Option.map_some, h2]
      unfold kcell
      congr 2
      apply List.ext_getElem?
      intro y
      by_cases hy : y < klen n L κ
      · by_cases hys : y = s
        · subst hys
          rw [List.getElem?_set_self (by simpa using hy)]
          simp only [List.getElem?_map, List.getElem?_range hy, Option.map_some, hl]
          simp [kv, kup, kvv]
        · rw [List.getElem?_set_ne (Ne.symm hys)]
          simp only [List.getElem?_map, List.getElem?_range hy, Option.map_some]
          rw [kv_up]
          intro hq
          have := kinv_ok hn.2 hk hy hq
          rw [hinj] at this
          simp only [Prod.mk.injEq] at this
          exact hys this.2.2.2.symm
      · rw [List.getElem?_eq_none_iff.mpr (by simpa using hy), List.getElem?_eq_none_iff.mpr (by simpa using hy)]
    · rw [List.getElem?_set_ne (Ne.symm hxk)]
      simp only [List.getElem?_map, List.getElem?_range hx, Option.map_some]
      obtain ⟨g1, g2⟩ := kad_kof hn hx
      unfold kcell
      congr 2
      apply List.map_congr_left
      intro y hy
      rw [kv_up]
      intro hq
      have := kinv_ok hn.2 g2 (List.mem_range.mp hy) hq
      rw [hinj] at this
      simp only [Prod.mk.injEq] at this
      apply hxk
      rw [← g1]
      congr 1
      exact (Prod.ext this.1 (Prod.ext this.2.1 this.2.2.1)).symm
  · rw [List.getElem?_eq_none_iff.mpr (by simpa using hx), List.getElem?_eq_none_iff.mpr (by simpa using hx)]
section ZRU
variable {j pc : Nat} {ls ls' : List Slot} {st st' : List Value} {h h' : Zh} {cl : Bool} {r : Zr} {M : Zm} {ins : Instr} {ax : List Nat} {n L : Nat} {σ : Ks} {g : List Nat} {κ : Ky}
theorem zr_of {q : Instr × List Nat} (hM : zmi[j]? = some M) (hq : zlk (zMc M) pc = some q) (k : ∃ f, zstep (zrun f) j pc ls st h cl M q = some r) : ZR j pc ls st h cl r := by
  obtain ⟨f, hf⟩ := k
  exact ⟨f + 1, by rw [zrun_succ, hM, Option.bind_some, hq, Option.bind_some]; exact hf⟩
theorem zr_fr {pc' : Nat} (hM : zmi[j]? = some M) (hq : zlk (zMc M) pc = some (ins, ax)) (hk : zkind ins = 0) (hf : zfr ins pc ls st = some (pc', ls', st')) (k : ZR j pc' ls' st' h cl r) : ZR j pc ls st h cl r := by
  obtain ⟨f, hr⟩ := k
  refine zr_of hM hq ⟨f, ?_⟩
  unfold zstep
  try dsimp only
  rw [hk]
  try dsimp only
  rw [hf, Option.bind_some]
  exact hr
theorem zr_if {cd : ClassFile.Cond} {off : Int} {t : Nat} {x : Int32} (hM : zmi[j]? = some M) (hq : zlk (zMc M) pc = some (.ifCond cd off, ax)) (ht : ztg pc off = some t) (kt : zcnd cd x 0 = true → ZR j t ls st h cl r) (kf : zcnd cd x 0 = false → ZR j (pc + 3) ls st h cl r) : ZR j pc ls (.int x :: st) h cl r := by
  cases hc : zcnd cd x 0 with
  | true => exact zr_fr hM hq rfl (by show zbr (zcnd cd x 0) pc off ls st = _; unfold zbr; rw [ht, Option.bind_some, hc]; rfl) (kt hc)
  | false => exact zr_fr hM hq rfl (by show zbr (zcnd cd x 0) pc off ls st = _; unfold zbr; rw [ht, Option.bind_some, hc]; rfl) (kf hc)
theorem zr_ic {cd : ClassFile.Cond} {off : Int} {t : Nat} {x y : Int32} (hM : zmi[j]? = some M) (hq : zlk (zMc M) pc = some (.if_icmp cd off, ax)) (ht : ztg pc off = some t) (kt : zcnd cd x y = true → ZR j t ls st h cl r) (kf : zcnd cd x y = false → ZR j (pc + 3) ls st h cl r) : ZR j pc ls (.int y :: .int x :: st) h cl r := by
  cases hc : zcnd cd x y with
  | true => exact zr_fr hM hq rfl (by show zbr (zcnd cd x y) pc off ls st = _; unfold zbr; rw [ht, Option.bind_some, hc]; rfl) (kt hc)
  | false => exact zr_fr hM hq rfl (by show zbr (zcnd cd x y) pc off ls st = _; unfold zbr; rw [ht, Option.bind_some, hc]; rfl) (kf hc)
theorem zr_hp {st2 : List Value} {w : Bool} (hM : zmi[j]? = some M) (hq : zlk (zMc M) pc = some (ins, ax)) (hk : zkind ins = 1) (hf : zhp ins ax st h = some (st2, h', w)) (k : ZR j (pc + zlen ins) ls st2 h' (cl && !w) r) : ZR j pc ls st h cl r := by
  obtain ⟨f, hr⟩ := k
  refine zr_of hM hq ⟨f, ?_⟩
  unfold zstep
  try dsimp only
  rw [hk]
  try dsimp only
  rw [hf, Option.bind_some]
  exact hr
theorem zr_clt (k : ZR j pc ls st h cl r) : ZR j pc ls st h (cl && !false) r := by
  rw [Bool.not_false, Bool.and_true]
  exact k
theorem zr_clf (k : ZR j pc ls st h false r) : ZR j pc ls st h (cl && !true) r := by
  rw [Bool.not_true, Bool.and_false]
  exact k
theorem zr_getf {idx ci s : Nat} (hn : 2 ≤ n ∧ n ≤ 5) (hM : zmi[j]? = some M) (hq : zlk (zMc M) pc = some (.getfield idx, ci :: s :: ax)) (hk : kok n κ = true) (ht : ktag κ = ci) (hs0 : Nat.blt s (klen n L κ) = true) (k : ZR j (pc + 3) ls (kv n σ ci (kloc κ s) :: st) (khp n L σ g) cl r) : ZR j pc ls (.ref (kad n κ) :: st) (khp n L σ g) cl r := by
  have hs : s < klen n L κ := by rw [← Nat.blt_eq]; exact hs0
  refine zr_hp (w := false) hM hq rfl ?_ (zr_clt k)
  show ((khp n L σ g)[kad n κ]?).bind _ = _
  rw [khp_get hn hk, Option.bind_some]
  try dsimp only
  rw [if_pos (show (kcell n L σ κ).1 = ci from ht)]
  subst ht
  simp [kcell, hs]
theorem zr_put0 {a i s : Nat} {v : Int32} (hn : 2 ≤ n ∧ n ≤ 5) (hk : kok n κ = true) (hs : s < klen n L κ) (hl : kloc κ s = .inl (a, i)) : (khp n L σ g).set (kad n κ) (ktag κ, (kcell n L σ κ).2.set s (kvv (ktag κ) v)) = khp n L (kup σ a i v) g := (khp_set hn hk hs hl).symm
theorem kad_pos (hn : 2 ≤ n ∧ n ≤ 5) (hk : kok n κ = true) (h28 : κ.1 ≠ 28) : ∃ x, kad n κ = x + 1 := by
  cases hx : kad n κ with
  | succ x => exact ⟨x, rfl⟩
  | zero =>
    have h2 := (kof_kad hn hk).2
    rw [hx] at h2
    have h3 : kof n 0 = (28, 0, 0) := rfl
    rw [h3] at h2
    exact absurd (by rw [← h2]) h28
theorem zr_putf {idx ci s a i : Nat} {v : Int32} (hn : 2 ≤ n ∧ n ≤ 5) (hM : zmi[j]? = some M) (hq : zlk (zMc M) pc = some (.putfield idx, ci :: s :: ax)) (hk : kok n κ = true) (h280 : Nat.beq κ.1 28 = false) (ht : ktag κ = ci) (h1010 : Nat.beq ci 101 = false) (hs0 : Nat.blt s (klen n L κ) = true) (hl : kloc κ s = .inl (a, i)) (hfit : zfit (zfk ci s) (.int v) = true) (k : ZR j (pc + 3) ls st (khp n L (kup σ a i v) g) false r) : ZR j pc ls (.int v :: .ref (kad n κ) :: st) (khp n L σ g) cl r := by
  have hs : s < klen n L κ := by rw [← Nat.blt_eq]; exact hs0
  have h28 : κ.1 ≠ 28 := Nat.ne_of_beq_eq_false h280
  have h101 : ci ≠ 101 := Nat.ne_of_beq_eq_false h1010
  obtain ⟨x, hx⟩ := kad_pos hn hk h28
  refine zr_hp (w := true) (h' := khp n L (kup σ a i v) g) (st2 := st) hM hq rfl ?_ (zr_clf k)
  rw [hx]
  show ((khp n L σ g)[x + 1]?).bind _ = _
  rw [← hx, khp_get hn hk, Option.bind_some]
  try dsimp only
  have hlen : s < (kcell n L σ κ).2.length := by simpa [kcell] using hs
  rw [if_pos ⟨ht, hlen, hfit⟩, ← zr_put0 hn hk hs hl, ht]
  congr 5
  simp [kvv, h101]
theorem zr_alen (hn : 2 ≤ n ∧ n ≤ 5) (hM : zmi[j]? = some M) (hq : zlk (zMc M) pc = some (.arraylength, ax)) (hk : kok n κ = true) (ht0 : (Nat.ble 100 (ktag κ) && Nat.blt (ktag κ) 105) = true) (k : ZR j (pc + 1) ls (.int (Int32.ofNat (klen n L κ)) :: st) (khp n L σ g) cl r) : ZR j pc ls (.ref (kad n κ) :: st) (khp n L σ g) cl r := by
  have ht : 100 ≤ ktag κ ∧ ktag κ < 105 := by
    rw [Bool.and_eq_true] at ht0
    exact ⟨Nat.le_of_ble_eq_true ht0.1, by rw [← Nat.blt_eq]; exact ht0.2⟩
  refine zr_hp (w := false) hM hq rfl ?_ (zr_clt k)
  show ((khp n L σ g)[kad n κ]?).bind _ = _
  rw [khp_get hn hk, Option.bind_some]
  try dsimp only
  rw [if_pos (show 100 ≤ (kcell n L σ κ).1 ∧ (kcell n L σ κ).1 < 105 from ht)]
  simp [kcell]
theorem zrd_k {i : Int32} {s : Nat} {f : Value → Option (List Value × Zh × Bool)} (hn : 2 ≤ n ∧ n ≤ 5) (hk : kok n κ = true) (hz : zix i (klen n L κ) = some s) : zrd (ktag κ) i (kad n κ) (khp n L σ g) f = f (kv n σ (ktag κ) (kloc κ s)) := by
  obtain ⟨-, -, hs⟩ := zix_some hz
  unfold zrd
  rw [khp_get hn hk, Option.bind_some]
  try dsimp only
  rw [if_pos (show (kcell n L σ κ).1 = ktag κ from rfl)]
  have hlen : (kcell n L σ κ).2.length = klen n L κ := by simp [kcell]
  rw [hlen, hz, Option.bind_some]
  simp [kcell, hs]
theorem zr_iald {i : Int32} {s : Nat} (hn : 2 ≤ n ∧ n ≤ 5) (hM : zmi[j]? = some M) (hq : zlk (zMc M) pc = some (.iaload, ax)) (hk : kok n κ = true) (ht : ktag κ = 100) (hz : zix i (klen n L κ) = some s) (k : ZR j (pc + 1) ls (kv n σ 100 (kloc κ s) :: st) (khp n L σ g) cl r) : ZR j pc ls (.int i :: .ref (kad n κ) :: st) (khp n L σ g) cl r := by
  refine zr_hp (w := false) hM hq rfl ?_ (zr_clt k)
  show zrd 100 i (kad n κ) (khp n L σ g) _ = _
  rw [← ht, zrd_k hn hk hz]
theorem zr_bald {i : Int32} {s : Nat} (hn : 2 ≤ n ∧ n ≤ 5) (hM : zmi[j]? = some M) (hq : zlk (zMc M) pc = some (.baload, ax)) (hk : kok n κ = true) (ht : ktag κ = 102) (hz : zix i (klen n L κ) = some s) (k : ZR j (pc + 1) ls (kv n σ 102 (kloc κ s) :: st) (khp n L σ g) cl r) : ZR j pc ls (.int i :: .ref (kad n κ) :: st) (khp n L σ g) cl r := by
  refine zr_hp (w := false) hM hq rfl ?_ (zr_clt k)
  show zrd 102 i (kad n κ) (khp n L σ g) _ = _
  rw [← ht, zrd_k hn hk hz]
theorem zr_lald {i : Int32} {s : Nat} (hn : 2 ≤ n ∧ n ≤ 5) (hM : zmi[j]? = some M) (hq : zlk (zMc M) pc = some (.laload, ax)) (hk : kok n κ = true) (ht : ktag κ = 101) (hz : zix i (klen n L κ) = some s) (k : ZR j (pc + 1) ls (kv n σ 101 (kloc κ s) :: st) (khp n L σ g) cl r) : ZR j pc ls (.int i :: .ref (kad n κ) :: st) (khp n L σ g) cl r := by
  refine zr_hp (w := false) hM hq rfl ?_ (zr_clt k)
  show zrd 101 i (kad n κ) (khp n L σ g) _ = _
  rw [← ht, zrd_k hn hk hz]
theorem zr_aald {i : Int32} {s t : Nat} (hn : 2 ≤ n ∧ n ≤ 5) (hM : zmi[j]? = some M) (hq : zlk (zMc M) pc = some (.aaload, t :: ax)) (hk : kok n κ = true) (ht : ktag κ = t) (h340 : (Nat.beq t 103 || Nat.beq t 104) = true) (hz : zix i (klen n L κ) = some s) (k : ZR j (pc + 1) ls (kv n σ t (kloc κ s) :: st) (khp n L σ g) cl r) : ZR j pc ls (.int i :: .ref (kad n κ) :: st) (khp n L σ g) cl r := by
  refine zr_hp (w := false) hM hq rfl ?_ (zr_clt k)
  have h34 : t = 103 ∨ t = 104 := by
    rw [Bool.or_eq_true] at h340
    rcases h340 with h | h
    · exact Or.inl (Nat.eq_of_beq_eq_true h)
    · exact Or.inr (Nat.eq_of_beq_eq_true h)
  show (if t = 103 ∨ t = 104 then zrd t i (kad n κ) (khp n L σ g) _ else none) = _
  rw [if_pos h34, ← ht, zrd_k hn hk hz]
theorem zwr_k {i : Int32} {s a y : Nat} {v : Int32} {rs : List Value} (hn : 2 ≤ n ∧ n ≤ 5) (hk : kok n κ = true) (hz : zix i (klen n L κ) = some s) (hl : kloc κ s = .inl (a, y)) : zwr (ktag κ) i (kad n κ) (kvv (ktag κ) v) (khp n L σ g) rs = some (rs, khp n L (kup σ a y v) g, true) := by
  obtain ⟨-, -, hs⟩ := zix_some hz
  unfold zwr
  rw [khp_get hn hk, Option.bind_some]
  try dsimp only
  rw [if_pos (show (kcell n L σ κ).1 = ktag κ from rfl)]
  have hlen : (kcell n L σ κ).2.length = klen n L κ := by simp [kcell]
  rw [hlen, hz, Option.bind_some, zr_put0 hn hk hs hl]
theorem zr_iast {i v : Int32} {s a y : Nat} (hn : 2 ≤ n ∧ n ≤ 5) (hM : zmi[j]? = some M) (hq : zlk (zMc M) pc = some (.iastore, ax)) (hk : kok n κ = true) (h280 : Nat.beq κ.1 28 = false) (ht : ktag κ = 100) (hz : zix i (klen n L κ) = some s) (hl : kloc κ s = .inl (a, y)) (k : ZR j (pc + 1) ls st (khp n L (kup σ a y v) g) false r) : ZR j pc ls (.int v :: .int i :: .ref (kad n κ) :: st) (khp n L σ g) cl r := by
  have h28 : κ.1 ≠ 28 := Nat.ne_of_beq_eq_false h280
  obtain ⟨x, hx⟩ := kad_pos hn hk h28
  refine zr_hp (w := true) (h' := khp n L (kup σ a y v) g) (st2 := st) hM hq rfl ?_ (zr_clf k)
  have hw := zwr_k (σ := σ) (g := g) (v := v) (rs := st) hn hk hz hl
  rw [ht, hx] at hw
  rw [hx]
  exact hw
theorem zr_bast {i v : Int32} {s a y : Nat} (hn : 2 ≤ n ∧ n ≤ 5) (hM : zmi[j]? = some M) (hq : zlk (zMc M) pc = some (.bastore, ax)) (hk : kok n κ = true) (h280 : Nat.beq κ.1 28 = false) (ht : ktag κ = 102) (hv : v = 0 ∨ v = 1) (hz : zix i (klen n L κ) = some s) (hl : kloc κ s = .inl (a, y)) (k : ZR j (pc + 1) ls st (khp n L (kup σ a y v) g) false r) : ZR j pc ls (.int v :: .int i :: .ref (kad n κ) :: st) (khp n L σ g) cl r := by
  have h28 : κ.1 ≠ 28 := Nat.ne_of_beq_eq_false h280
  obtain ⟨x, hx⟩ := kad_pos hn hk h28
  refine zr_hp (w := true) (h' := khp n L (kup σ a y v) g) (st2 := st) hM hq rfl ?_ (zr_clf k)
  have hw := zwr_k (σ := σ) (g := g) (v := v) (rs := st) hn hk hz hl
  rw [ht, hx] at hw
  rw [hx]
  show (if v = 0 ∨ v = 1 then zwr 102 i (x + 1) (.int v) (khp n L σ g) st else none) = _
  rw [if_pos hv]
  exact hw
theorem zr_last {i v : Int32} {s a y : Nat} (hn : 2 ≤ n ∧ n ≤ 5) (hM : zmi[j]? = some M) (hq : zlk (zMc M) pc = some (.lastore, ax)) (hk : kok n κ = true) (h280 : Nat.beq κ.1 28 = false) (ht : ktag κ = 101) (hz : zix i (klen n L κ) = some s) (hl : kloc κ s = .inl (a, y)) (k : ZR j (pc + 1) ls st (khp n L (kup σ a y v) g) false r) : ZR j pc ls (.long v.toInt64 :: .int i :: .ref (kad n κ) :: st) (khp n L σ g) cl r := by
  have h28 : κ.1 ≠ 28 := Nat.ne_of_beq_eq_false h280
  obtain ⟨x, hx⟩ := kad_pos hn hk h28
  refine zr_hp (w := true) (h' := khp n L (kup σ a y v) g) (st2 := st) hM hq rfl ?_ (zr_clf k)
  have hw := zwr_k (σ := σ) (g := g) (v := v) (rs := st) hn hk hz hl
  rw [ht, hx] at hw
  rw [hx]
  exact hw
theorem zr_ift {cd : ClassFile.Cond} {off : Int} {t : Nat} {x : Int32} (hM : zmi[j]? = some M) (hq : zlk (zMc M) pc = some (.ifCond cd off, ax)) (ht : ztg pc off = some t) (hc : zcnd cd x 0 = true) (k : ZR j t ls st h cl r) : ZR j pc ls (.int x :: st) h cl r := zr_if hM hq ht (fun _ => k) (fun y => by rw [hc] at y; cases y)
theorem zr_iff {cd : ClassFile.Cond} {off : Int} {t : Nat} {x : Int32} (hM : zmi[j]? = some M) (hq : zlk (zMc M) pc = some (.ifCond cd off, ax)) (ht : ztg pc off = some t) (hc : zcnd cd x 0 = false) (k : ZR j (pc + 3) ls st h cl r) : ZR j pc ls (.int x :: st) h cl r := zr_if hM hq ht (fun y => by rw [hc] at y; cases y) (fun _ => k)
theorem zr_ict {cd : ClassFile.Cond} {off : Int} {t : Nat} {x y : Int32} (hM : zmi[j]? = some M) (hq : zlk (zMc M) pc = some (.if_icmp cd off, ax)) (ht : ztg pc off = some t) (hc : zcnd cd x y = true) (k : ZR j t ls st h cl r) : ZR j pc ls (.int y :: .int x :: st) h cl r := zr_ic hM hq ht (fun _ => k) (fun y => by rw [hc] at y; cases y)
theorem zr_icf {cd : ClassFile.Cond} {off : Int} {t : Nat} {x y : Int32} (hM : zmi[j]? = some M) (hq : zlk (zMc M) pc = some (.if_icmp cd off, ax)) (ht : ztg pc off = some t) (hc : zcnd cd x y = false) (k : ZR j (pc + 3) ls st h cl r) : ZR j pc ls (.int y :: .int x :: st) h cl r := zr_ic hM hq ht (fun y => by rw [hc] at y; cases y) (fun _ => k)
theorem zr_swi {d lo hi : Int} {offs : Array Int} {t : Nat} {x : Int32} {c o : Int} (hM : zmi[j]? = some M) (hq : zlk (zMc M) pc = some (.tableswitch d lo hi offs, ax)) (hx : x.toInt = c) (hr : (decide (lo ≤ c) && decide (c ≤ hi)) = true) (ho : offs[(c - lo).toNat]? = some o) (ht : ztg pc o = some t) (k : ZR j t ls st h cl r) : ZR j pc ls (.int x :: st) h cl r := by
  refine zr_fr hM hq rfl ?_ k
  simp only [Bool.and_eq_true, decide_eq_true_eq] at hr
  show (if x.toInt < lo ∨ hi < x.toInt then _ else _) = _
  rw [hx, if_neg (by omega), ho, Option.bind_some, ht, Option.bind_some]
theorem zr_swo {d lo hi : Int} {offs : Array Int} {t : Nat} {x : Int32} (hM : zmi[j]? = some M) (hq : zlk (zMc M) pc = some (.tableswitch d lo hi offs, ax)) (hx : x.toInt < lo ∨ hi < x.toInt) (ht : ztg pc d = some t) (k : ZR j t ls st h cl r) : ZR j pc ls (.int x :: st) h cl r := by
  refine zr_fr hM hq rfl ?_ k
  show (if x.toInt < lo ∨ hi < x.toInt then _ else _) = _
  rw [if_pos hx, ht, Option.bind_some]
end ZRU
theorem kokT {n t : Nat} (h : t < n) : kok n (2, t, 0) = true := by simp [kok, h]
theorem kokB {n k b : Nat} (hk : (Nat.ble 3 k && Nat.ble k 13) = true) (h : b < 2 * n) : kok n (k, b, 0) = true := by
  rw [Bool.and_eq_true] at hk
  have h1 := Nat.le_of_ble_eq_true hk.1
  have h2 := Nat.le_of_ble_eq_true hk.2
  unfold kok
  rw [if_neg (by show ¬ k = 2; omega), if_pos ⟨h1, h2⟩]
  simp [h]
theorem kokP {n k b o : Nat} (hk : (Nat.ble 14 k && Nat.ble k 19) = true) (h : b < 2 * n) (ho : o < n) : kok n (k, b, o) = true := by
  rw [Bool.and_eq_true] at hk
  have h1 := Nat.le_of_ble_eq_true hk.1
  have h2 := Nat.le_of_ble_eq_true hk.2
  unfold kok
  rw [if_neg (by show ¬ k = 2; omega), if_neg (by show ¬ (3 ≤ k ∧ k ≤ 13); omega), if_pos ⟨h1, h2⟩]
  simp [h, ho]
def zop : Option Int32 → Slot
  | none => .unset
  | some x => .val (.int x)
def zopr : Option Nat → Slot
  | none => .unset
  | some x => .val (.ref x)
theorem khp_thr {n L : Nat} {σ : Ks} {g : List Nat} {t : Nat} : khp n L σ g ++ [(t, [])] = khp n L σ (g ++ [t]) := by
  simp [khp]
end
section
section ZRC
variable {j pc : Nat} {ls ls' : List Slot} {st st' : List Value} {h h' : Zh} {cl : Bool} {r : Zr} {M N : Zm} {ins : Instr} {ax : List Nat} {n L : Nat} {σ : Ks} {g : List Nat} {κ : Ky}
theorem zr_iret {v : Int32} (hM : zmi[j]? = some M) (hq : zlk (zMc M) pc = some (.ireturn, ax)) (hr : zMr M = 1) : ZR j pc ls [.int v] h cl (.inl (some (.int v)), h, cl) := by
  refine zr_of hM hq ⟨0, ?_⟩
  show (if _ then _ else _) = _
  rw [if_pos ⟨rfl, Or.inl hr⟩]
theorem zr_zret {v : Int32} (hM : zmi[j]? = some M) (hq : zlk (zMc M) pc = some (.ireturn, ax)) (hr : zMr M = 2) (hv : v = 0 ∨ v = 1) : ZR j pc ls [.int v] h cl (.inl (some (.int v)), h, cl) := by
  refine zr_of hM hq ⟨0, ?_⟩
  show (if _ then _ else _) = _
  rw [if_pos ⟨rfl, Or.inr ⟨hr, hv⟩⟩]
theorem zr_vret (hM : zmi[j]? = some M) (hq : zlk (zMc M) pc = some (.return_, ax)) (hr : zMr M = 0) : ZR j pc ls [] h cl (.inl none, h, cl) := by
  refine zr_of hM hq ⟨0, ?_⟩
  show (if _ then _ else _) = _
  rw [if_pos ⟨rfl, hr⟩]
theorem zr_ldc {idx v : Nat} (hM : zmi[j]? = some M) (hq : zlk (zMc M) pc = some (.ldc idx, 1 :: v :: ax)) (k : ZR j (pc + 2) ls (.int (Int32.ofNat v) :: st) h cl r) : ZR j pc ls st h cl r := by
  obtain ⟨f, hf⟩ := k
  exact zr_of hM hq ⟨f, hf⟩
theorem zr_ldcw {idx v : Nat} (hM : zmi[j]? = some M) (hq : zlk (zMc M) pc = some (.ldc_w idx, 1 :: v :: ax)) (k : ZR j (pc + 3) ls (.int (Int32.ofNat v) :: st) h cl r) : ZR j pc ls st h cl r := by
  obtain ⟨f, hf⟩ := k
  exact zr_of hM hq ⟨f, hf⟩
def zcok (M N : Zm) (vs st : List Value) : Bool := zroom M N && Nat.ble vs.length (zM0 N) && vs.all zok1 && Nat.ble st.length 8
theorem zcall_run {f : Nat} {j' : Nat} {vs : List Value} {r' : Zr} (hN : zmi[j']? = some N) (hc : zcok M N vs st = true) (hf : zrun f j' 0 (zent N vs) [] h true = some r') : zcall (zrun f) (zrun f j · ls · · ·) M j' pc vs st h cl = zgo (zrun f j · ls · · ·) M pc st cl r' := by
  unfold zcall
  rw [hN, Option.bind_some]
  simp only [zcok, Bool.and_eq_true] at hc
  rw [if_pos ⟨hc.1.1.1, Nat.le_of_ble_eq_true hc.1.1.2, hc.1.2, Nat.le_of_ble_eq_true hc.2⟩, hf, Option.bind_some]
/-- the way behind a call that answers -/
theorem zgo_ret {j' : Nat} {vs : List Value} {v : Option Value} {c' : Bool} (hN : zmi[j']? = some N) (hc : zcok M N vs st = true) (hcal : ZR j' 0 (zent N vs) [] h true (.inl v, h', c')) (k : ZR j (pc + 3) ls (v.toList ++ st) h' (cl && c') r) : ∃ f, zcall (zrun f) (zrun f j · ls · · ·) M j' pc vs st h cl = some r := by
  obtain ⟨f1, h1⟩ := hcal
  obtain ⟨f2, h2⟩ := k
  refine ⟨max f1 f2, ?_⟩
  rw [zcall_run hN hc (zrun_mono (Nat.le_max_left f1 f2) _ _ _ _ _ _ _ h1)]
  exact zrun_mono (Nat.le_max_right f1 f2) _ _ _ _ _ _ _ h2
/-- behind one that throws, without a handler -/
theorem zgo_thr {j' : Nat} {vs : List Value} {t : Nat} {c' : Bool} {h0 : Zh} (hN : zmi[j']? = some N) (hc : zcok M N vs st = true) (hcal : ZR j' 0 (zent N vs) [] h true (.inr h0.length, h0 ++ [(t, [])], c')) (ht : 200 ≤ t ∧ t < 203) (hh : zMh M = []) : ∃ f, zcall (zrun f) (zrun f j · ls · · ·) M j' pc vs st h cl = some (.inr h0.length, h0 ++ [(t, [])], false) := by
  obtain ⟨f1, h1⟩ := hcal
  refine ⟨f1, ?_⟩
  rw [zcall_run hN hc h1]
  unfold zgo
  dsimp only
  rw [List.getElem?_append_right (Nat.le_refl _), Nat.sub_self]
  show (if _ then _ else _) = _
  rw [if_pos ⟨ht.1, ht.2, by simp⟩, hh]
  rfl
/-- behind one that throws, into a handler -/
theorem zgo_cat {j' : Nat} {vs : List Value} {t q : Nat} {c' : Bool} {h0 : Zh} (hN : zmi[j']? = some N) (hc : zcok M N vs st = true) (hcal : ZR j' 0 (zent N vs) [] h true (.inr h0.length, h0 ++ [(t, [])], c')) (ht : 200 ≤ t ∧ t < 203) (hh : zhand (zMh M) pc t = some q) (k : ZR j q ls [.ref h0.length] (h0 ++ [(t, [])]) false r) : ∃ f, zcall (zrun f) (zrun f j · ls · · ·) M j' pc vs st h cl = some r := by
  obtain ⟨f1, h1⟩ := hcal
  obtain ⟨f2, h2⟩ := k
  refine ⟨max f1 f2, ?_⟩
  rw [zcall_run hN hc (zrun_mono (Nat.le_max_left f1 f2) _ _ _ _ _ _ _ h1)]
  unfold zgo
  dsimp only
  rw [List.getElem?_append_right (Nat.le_refl _), Nat.sub_self]
  show (if _ then _ else _) = _
  rw [if_pos ⟨ht.1, ht.2, by simp⟩]
  show (match zhand (zMh M) pc t with | some q => _ | none => _) = _
  rw [hh]
  exact zrun_mono (Nat.le_max_right f1 f2) _ _ _ _ _ _ _ h2
theorem zr_stat {idx j' : Nat} {vs st2 : List Value} (hM : zmi[j]? = some M) (hq : zlk (zMc M) pc = some (.invokestatic idx, 1 :: j' :: ax)) (hN : zmi[j']? = some N) (hs : zMs N = true) (hl : Nat.ble (zMp N) st.length = true) (hv : (st.take (zMp N)).reverse = vs) (hd : st.drop (zMp N) = st2) (k : ∃ f, zcall (zrun f) (zrun f j · ls · · ·) M j' pc vs st2 h cl = some r) : ZR j pc ls st h cl r := by
  obtain ⟨f, hf⟩ := k
  refine zr_of hM hq ⟨f, ?_⟩
  show ((zmi[j']?).bind _) = _
  rw [hN, Option.bind_some, if_pos ⟨hs, Nat.le_of_ble_eq_true hl⟩, hv, hd]
  exact hf
theorem zobj_run {f j' ci a : Nat} {vs st2 : List Value} {c : Zc} (hN : zmi[j']? = some N) (hs : zMs N = false) (hl : Nat.ble (zMp N) st.length = true) (hv : (st.take (zMp N)).reverse = vs) (hd : st.drop (zMp N) = .ref a :: st2) (hc : h[a]? = some c) (ht : c.1 = ci) (h7 : ci < 7) : zobj (zrun f) (zrun f j · ls · · ·) M j' ci pc st h cl = zcall (zrun f) (zrun f j · ls · · ·) M j' pc (.ref a :: vs) st2 h cl := by
  unfold zobj
  rw [hN, Option.bind_some, if_pos ⟨hs, Nat.le_of_ble_eq_true hl⟩, hd]
  show ((h[a]?).bind _) = _
  rw [hc, Option.bind_some, if_pos ⟨ht, h7⟩, hv]
theorem zr_virt {idx j' x1 x2 ci : Nat} {vs st2 : List Value} (hn : 2 ≤ n ∧ n ≤ 5) (hM : zmi[j]? = some M) (hq : zlk (zMc M) pc = some (.invokevirtual idx, 2 :: j' :: x1 :: x2 :: ci :: ax)) (hN : zmi[j']? = some N) (hs : zMs N = false) (hl : Nat.ble (zMp N) st.length = true) (hv : (st.take (zMp N)).reverse = vs) (hd : st.drop (zMp N) = .ref (kad n κ) :: st2) (hk : kok n κ = true) (ht : ktag κ = ci) (h7 : Nat.blt ci 7 = true)
    (k : ∃ f, zcall (zrun f) (zrun f j · ls · · ·) M j' pc (.ref (kad n κ) :: vs) st2 (khp n L σ g) cl = some r) : ZR j pc ls st (khp n L σ g) cl r := by
  obtain ⟨f, hf⟩ := k
  refine zr_of hM hq ⟨f, ?_⟩
  show zobj (zrun f) _ M j' ci pc st (khp n L σ g) cl = _
  rw [zobj_run hN hs hl hv hd (khp_get hn hk) ht (by rw [← Nat.blt_eq]; exact h7)]
  exact hf
/-- a throw of its own -/
theorem zr_throw {idx t sidx ic t' : Nat} {a3 a4 a6 a9 : List Nat} (hM : zmi[j]? = some M) (hq : zlk (zMc M) pc = some (.new idx, t :: ax)) (h3 : zlk (zMc M) (pc + 3) = some (.dup, a3)) (h4 : zlk (zMc M) (pc + 4) = some (.ldc sidx, 2 :: a4)) (h6 : zlk (zMc M) (pc + 6) = some (.invokespecial ic, 5 :: t' :: a6)) (h9 : zlk (zMc M) (pc + 9) = some (.athrow, a9))
    (hc : (Nat.ble 200 t && Nat.blt t 203 && Nat.beq t (200 + t') && decide (zMh M = []) && Nat.ble 6 (zMf M) && Nat.ble 100 (zMl M) && Nat.ble st.length 8) = true) (hcap : h.length < zcap) : ZR j pc ls st h true (.inr h.length, h ++ [(t, [])], false) := by
  simp only [Bool.and_eq_true, decide_eq_true_eq] at hc
  obtain ⟨⟨⟨⟨⟨⟨c1, c2⟩, c3⟩, c4⟩, c5⟩, c6⟩, c7⟩ := hc
  have c1 := Nat.le_of_ble_eq_true c1
  have c2 : t < 203 := by rw [← Nat.blt_eq]; exact c2
  refine zr_of hM hq ⟨0, ?_⟩
  show (if t < 7 then _ else zthr M t pc st h true) = _
  rw [if_neg (by omega)]
  unfold zthr
  rw [h3, Option.bind_some, h4, Option.bind_some, h6, Option.bind_some, h9, Option.bind_some]
  show (if _ then _ else _) = _
  rw [if_pos ⟨c1, c2, Nat.eq_of_beq_eq_true c3, c4, Nat.le_of_ble_eq_true c5, Nat.le_of_ble_eq_true c6, Nat.le_of_ble_eq_true c7, hcap, rfl⟩]
theorem zr_iret2 {v : Int32} (hM : zmi[j]? = some M) (hq : zlk (zMc M) pc = some (.ireturn, ax)) (hr : zMr M = 1) (he : r = (.inl (some (.int v)), h, cl)) : ZR j pc ls [.int v] h cl r := by
  rw [he]
  exact zr_iret hM hq hr
theorem zr_zret2 {v : Int32} (hM : zmi[j]? = some M) (hq : zlk (zMc M) pc = some (.ireturn, ax)) (hr : zMr M = 2) (hv : v = 0 ∨ v = 1) (he : r = (.inl (some (.int v)), h, cl)) : ZR j pc ls [.int v] h cl r := by
  rw [he]
  exact zr_zret hM hq hr hv
theorem zr_vret2 (hM : zmi[j]? = some M) (hq : zlk (zMc M) pc = some (.return_, ax)) (hr : zMr M = 0) (he : r = (.inl none, h, cl)) : ZR j pc ls [] h cl r := by
  rw [he]
  exact zr_vret hM hq hr
theorem zr_throw2 {idx t sidx ic t' : Nat} {a3 a4 a6 a9 : List Nat} (hM : zmi[j]? = some M) (hq : zlk (zMc M) pc = some (.new idx, t :: ax)) (h3 : zlk (zMc M) (pc + 3) = some (.dup, a3)) (h4 : zlk (zMc M) (pc + 4) = some (.ldc sidx, 2 :: a4)) (h6 : zlk (zMc M) (pc + 6) = some (.invokespecial ic, 5 :: t' :: a6)) (h9 : zlk (zMc M) (pc + 9) = some (.athrow, a9))
    (hc : (Nat.ble 200 t && Nat.blt t 203 && Nat.beq t (200 + t') && decide (zMh M = []) && Nat.ble 6 (zMf M) && Nat.ble 100 (zMl M) && Nat.ble st.length 8) = true) (hcap : h.length < zcap) (hcl : cl = true) (he : r = (.inr h.length, h ++ [(t, [])], false)) : ZR j pc ls st h cl r := by
  subst hcl
  rw [he]
  exact zr_throw hM hq h3 h4 h6 h9 hc hcap
theorem zgo_thr2 {j' : Nat} {vs : List Value} {t : Nat} {c' : Bool} {h0 : Zh} (hN : zmi[j']? = some N) (hc : zcok M N vs st = true) (hcal : ZR j' 0 (zent N vs) [] h true (.inr h0.length, h0 ++ [(t, [])], c')) (ht : (Nat.ble 200 t && Nat.blt t 203) = true) (hh : zMh M = []) (he : r = (.inr h0.length, h0 ++ [(t, [])], false)) : ∃ f, zcall (zrun f) (zrun f j · ls · · ·) M j' pc vs st h cl = some r := by
  rw [he]
  rw [Bool.and_eq_true] at ht
  exact zgo_thr hN hc hcal ⟨Nat.le_of_ble_eq_true ht.1, by rw [← Nat.blt_eq]; exact ht.2⟩ hh
/-- a copy of a stretch, as the keyed heap sees it -/
def Kcp (n L : Nat) (σ : Ks) (κ1 : Ky) (sp : Int32) (κ2 : Ky) (dp k : Int32) (σ' : Ks) : Prop :=
  (¬ sp < 0 ∧ ¬ dp < 0 ∧ ¬ k < 0 ∧ sp.toNatClampNeg + k.toNatClampNeg ≤ klen n L κ1 ∧ dp.toNatClampNeg + k.toNatClampNeg ≤ klen n L κ2) ∧
  ∀ g, (khp n L σ g).set (kad n κ2) (100, zcpy (kcell n L σ κ1).2 (kcell n L σ κ2).2 sp.toNatClampNeg dp.toNatClampNeg k.toNatClampNeg) = khp n L σ' g
theorem kint {κ : Ky} (hk : κ.1 < 29) (ht : ktag κ = 100) (s : Nat) : ∃ p, kloc κ s = .inl p := by
  obtain ⟨k, b, o⟩ := κ
  dsimp only at hk
  have hc : k = 0 ∨ k = 1 ∨ k = 2 ∨ k = 3 ∨ k = 4 ∨ k = 5 ∨ k = 6 ∨ k = 7 ∨ k = 8 ∨ k = 9 ∨ k = 10 ∨ k = 11 ∨ k = 12 ∨ k = 13 ∨ k = 14 ∨ k = 15 ∨ k = 16 ∨ k = 17 ∨ k = 18 ∨ k = 19 ∨ k = 20 ∨ k = 21 ∨ k = 22 ∨ k = 23 ∨ k = 24 ∨ k = 25 ∨ k = 26 ∨ k = 27 ∨ k = 28 := by omega
  rcases hc with rfl | rfl | rfl | rfl | rfl | rfl | rfl | rfl | rfl | rfl | rfl | rfl | rfl | rfl | rfl | rfl | rfl | rfl | rfl | rfl | rfl | rfl | rfl | rfl | rfl | rfl | rfl | rfl | rfl
  all_goals first
    | exact ⟨_, rfl⟩
    | (cases ht)
theorem zr_copy {idx : Nat} {κ1 κ2 : Ky} {sp dp k : Int32} {σ' : Ks} (hn : 2 ≤ n ∧ n ≤ 5) (hM : zmi[j]? = some M) (hq : zlk (zMc M) pc = some (.invokestatic idx, 0 :: ax)) (hk1 : kok n κ1 = true) (hk2 : kok n κ2 = true) (ht1 : ktag κ1 = 100) (ht2 : ktag κ2 = 100) (h280 : Nat.beq κ2.1 28 = false) (ha : Kcp n L σ κ1 sp κ2 dp k σ') (hc : (Nat.ble 1 (zMf M) && Nat.ble 40 (zMl M) && Nat.ble st.length 8) = true)
    (kk : ZR j (pc + 3) ls st (khp n L σ' g) false r) : ZR j pc ls (.int k :: .int dp :: .ref (kad n κ2) :: .int sp :: .ref (kad n κ1) :: st) (khp n L σ g) cl r := by
  have h28 : κ2.1 ≠ 28 := Nat.ne_of_beq_eq_false h280
  obtain ⟨x, hx⟩ := kad_pos hn hk2 h28
  simp only [Bool.and_eq_true] at hc
  obtain ⟨⟨c1, c2⟩, c3⟩ := hc
  obtain ⟨⟨a1, a2, a3, a4, a5⟩, a6⟩ := ha
  obtain ⟨f, hf⟩ := kk
  refine zr_of hM hq ⟨f, ?_⟩
  rw [hx]
  show ((khp n L σ g)[kad n κ1]?).bind _ = _
  rw [khp_get hn hk1, Option.bind_some, ← hx, khp_get hn hk2, Option.bind_some]
  have hl1 : (kcell n L σ κ1).2.length = klen n L κ1 := by simp [kcell]
  have hl2 : (kcell n L σ κ2).2.length = klen n L κ2 := by simp [kcell]
  have hb := kok_bounds hn.2 hk1
  have hall : (kcell n L σ κ1).2.all zisi = true := by
    rw [List.all_eq_true]
    intro v hv
    unfold kcell at hv
    obtain ⟨s, -, rfl⟩ := List.mem_map.mp hv
    obtain ⟨p, hp⟩ := kint hb.1 ht1 s
    rw [hp, ht1]
    rfl
  rw [if_pos ⟨ht1, ht2, a1, a2, a3, by rw [hl1]; exact a4, by rw [hl2]; exact a5, hall, Nat.le_of_ble_eq_true c1, Nat.le_of_ble_eq_true c2, Nat.le_of_ble_eq_true c3⟩, a6]
  exact hf
end ZRC
theorem nI_mul (a b : Nat) : nI a * nI b = nI (a * b) := (Int32.ofNat_mul a b).symm
theorem zix_nI {a n : Nat} (h : a < n) (hn : n < 2 ^ 31) : zix (nI a) n = some a := by
  unfold zix
  rw [if_neg (nI_in h hn), nI_clamp (by omega)]
end
section
set_option maxHeartbeats 4000000 in
theorem s11_0_ff {n L : Nat} {σ : Ks} {g : List Nat} {cl : Bool} {p1 : Int32} (hn : 2 ≤ n ∧ n ≤ 5) (h1 : zcnd .lt p1 0 = false) (h2 : zcnd .ge p1 (Int32.ofNat n) = false) : ZR 11 0 [.val (.ref (kad n (0, 0, 0))), .val (.int p1)] [] (khp n L σ g) cl (.inl (some (.int (Int32.ofInt 1))), khp n L σ (g), cl) := by
  have hM : zmi[11]? = some _ := rfl
  refine zr_fr hM rfl rfl rfl ?_
  refine zr_iff hM rfl rfl h1 ?_
  refine zr_fr hM rfl rfl rfl ?_
  refine zr_fr hM rfl rfl rfl ?_
  refine zr_getf (κ := (0, 0, 0)) hn hM rfl rfl rfl rfl ?_
  refine zr_alen (κ := (1, 0, 0)) hn hM rfl rfl rfl ?_
  refine zr_icf hM rfl rfl h2 ?_
  refine zr_fr hM rfl rfl rfl ?_
  refine zr_fr hM rfl rfl rfl ?_
  exact zr_zret2 hM rfl rfl (by decide) rfl
set_option maxHeartbeats 4000000 in
theorem s11_0_ft {n L : Nat} {σ : Ks} {g : List Nat} {cl : Bool} {p1 : Int32} (hn : 2 ≤ n ∧ n ≤ 5) (h1 : zcnd .lt p1 0 = false) (h2 : zcnd .ge p1 (Int32.ofNat n) = true) : ZR 11 0 [.val (.ref (kad n (0, 0, 0))), .val (.int p1)] [] (khp n L σ g) cl (.inl (some (.int (Int32.ofInt 0))), khp n L σ (g), cl) := by
  have hM : zmi[11]? = some _ := rfl
  refine zr_fr hM rfl rfl rfl ?_
  refine zr_iff hM rfl rfl h1 ?_
  refine zr_fr hM rfl rfl rfl ?_
  refine zr_fr hM rfl rfl rfl ?_
  refine zr_getf (κ := (0, 0, 0)) hn hM rfl rfl rfl rfl ?_
  refine zr_alen (κ := (1, 0, 0)) hn hM rfl rfl rfl ?_
  refine zr_ict hM rfl rfl h2 ?_
  refine zr_fr hM rfl rfl rfl ?_
  exact zr_zret2 hM rfl rfl (by decide) rfl
set_option maxHeartbeats 4000000 in
theorem s11_0_t {n L : Nat} {σ : Ks} {g : List Nat} {cl : Bool} {p1 : Int32} (hn : 2 ≤ n ∧ n ≤ 5) (h1 : zcnd .lt p1 0 = true) : ZR 11 0 [.val (.ref (kad n (0, 0, 0))), .val (.int p1)] [] (khp n L σ g) cl (.inl (some (.int (Int32.ofInt 0))), khp n L σ (g), cl) := by
  have hM : zmi[11]? = some _ := rfl
  refine zr_fr hM rfl rfl rfl ?_
  refine zr_ift hM rfl rfl h1 ?_
  refine zr_fr hM rfl rfl rfl ?_
  exact zr_zret2 hM rfl rfl (by decide) rfl
set_option maxHeartbeats 4000000 in
theorem s10_0_ff {n L : Nat} {σ : Ks} {g : List Nat} {cl : Bool} {p1 : Int32} {r1 : Int32} {x3 : Nat} (hn : 2 ≤ n ∧ n ≤ 5) (c1_ : ZR 11 0 [.val (.ref (kad n (0, 0, 0))), .val (.int p1)] [] (khp n L σ g) true (.inl (some (.int r1)), khp n L σ g, true)) (h2 : zcnd .eq r1 0 = false) (z3 : zix p1 n = some x3) (h4 : zcnd .eq (σ 10 x3) 0 = false) : ZR 10 0 [.val (.ref (kad n (0, 0, 0))), .val (.int p1)] [] (khp n L σ g) cl (.inl (some (.int (Int32.ofInt 1))), khp n L σ (g), cl) := by
  have hM : zmi[10]? = some _ := rfl
  have l3 := (zix_some z3).2.2
  refine zr_fr hM rfl rfl rfl ?_
  refine zr_fr hM rfl rfl rfl ?_
  refine zr_virt (κ := (0, 0, 0)) hn hM rfl rfl rfl rfl rfl rfl rfl rfl rfl ?_
  refine zgo_ret rfl rfl c1_ ?_
  rw [Bool.and_true]
  refine zr_iff hM rfl rfl h2 ?_
  refine zr_fr hM rfl rfl rfl ?_
  refine zr_getf (κ := (0, 0, 0)) hn hM rfl rfl rfl rfl ?_
  refine zr_fr hM rfl rfl rfl ?_
  refine zr_aald (κ := (1, 0, 0)) hn hM rfl rfl rfl rfl z3 ?_
  refine zr_getf (κ := (2, x3, 0)) hn hM rfl (kokT (by omega)) rfl rfl ?_
  refine zr_iff hM rfl rfl h4 ?_
  refine zr_fr hM rfl rfl rfl ?_
  refine zr_fr hM rfl rfl rfl ?_
  exact zr_zret2 hM rfl rfl (by decide) rfl
set_option maxHeartbeats 4000000 in
theorem s10_0_ft {n L : Nat} {σ : Ks} {g : List Nat} {cl : Bool} {p1 : Int32} {r1 : Int32} {x3 : Nat} (hn : 2 ≤ n ∧ n ≤ 5) (c1_ : ZR 11 0 [.val (.ref (kad n (0, 0, 0))), .val (.int p1)] [] (khp n L σ g) true (.inl (some (.int r1)), khp n L σ g, true)) (h2 : zcnd .eq r1 0 = false) (z3 : zix p1 n = some x3) (h4 : zcnd .eq (σ 10 x3) 0 = true) : ZR 10 0 [.val (.ref (kad n (0, 0, 0))), .val (.int p1)] [] (khp n L σ g) cl (.inl (some (.int (Int32.ofInt 0))), khp n L σ (g), cl) := by
  have hM : zmi[10]? = some _ := rfl
  have l3 := (zix_some z3).2.2
  refine zr_fr hM rfl rfl rfl ?_
  refine zr_fr hM rfl rfl rfl ?_
  refine zr_virt (κ := (0, 0, 0)) hn hM rfl rfl rfl rfl rfl rfl rfl rfl rfl ?_
  refine zgo_ret rfl rfl c1_ ?_
  rw [Bool.and_true]
  refine zr_iff hM rfl rfl h2 ?_
  refine zr_fr hM rfl rfl rfl ?_
  refine zr_getf (κ := (0, 0, 0)) hn hM rfl rfl rfl rfl ?_
  refine zr_fr hM rfl rfl rfl ?_
  refine zr_aald (κ := (1, 0, 0)) hn hM rfl rfl rfl rfl z3 ?_
  refine zr_getf (κ := (2, x3, 0)) hn hM rfl (kokT (by omega)) rfl rfl ?_
  refine zr_ift hM rfl rfl h4 ?_
  refine zr_fr hM rfl rfl rfl ?_
  exact zr_zret2 hM rfl rfl (by decide) rfl
set_option maxHeartbeats 4000000 in
theorem s10_0_t {n L : Nat} {σ : Ks} {g : List Nat} {cl : Bool} {p1 : Int32} {r1 : Int32} (hn : 2 ≤ n ∧ n ≤ 5) (c1_ : ZR 11 0 [.val (.ref (kad n (0, 0, 0))), .val (.int p1)] [] (khp n L σ g) true (.inl (some (.int r1)), khp n L σ g, true)) (h2 : zcnd .eq r1 0 = true) : ZR 10 0 [.val (.ref (kad n (0, 0, 0))), .val (.int p1)] [] (khp n L σ g) cl (.inl (some (.int (Int32.ofInt 0))), khp n L σ (g), cl) := by
  have hM : zmi[10]? = some _ := rfl
  refine zr_fr hM rfl rfl rfl ?_
  refine zr_fr hM rfl rfl rfl ?_
  refine zr_virt (κ := (0, 0, 0)) hn hM rfl rfl rfl rfl rfl rfl rfl rfl rfl ?_
  refine zgo_ret rfl rfl c1_ ?_
  rw [Bool.and_true]
  refine zr_ift hM rfl rfl h2 ?_
  refine zr_fr hM rfl rfl rfl ?_
  exact zr_zret2 hM rfl rfl (by decide) rfl
set_option maxHeartbeats 4000000 in
theorem s12_0_r {n L : Nat} {σ : Ks} {g : List Nat} {cl : Bool} {r : Zr} {b : Nat} {p1 : Int32} (hn : 2 ≤ n ∧ n ≤ 5) (hb : b < 2 * n) (k : ZR 12 2 [.val (.ref (kad n (8, b, 0))), .val (.int p1), .val (.int (Int32.ofInt 0))] [] (khp n L σ (g)) cl r) : ZR 12 0 [.val (.ref (kad n (8, b, 0))), .val (.int p1), .unset] [] (khp n L σ g) cl r := by
  have hM : zmi[12]? = some _ := rfl
  refine zr_fr hM rfl rfl rfl ?_
  refine zr_fr hM rfl rfl rfl ?_
  exact k
set_option maxHeartbeats 4000000 in
theorem s12_2_ff {n L : Nat} {σ : Ks} {g : List Nat} {cl : Bool} {b : Nat} {v1 : Int32} {v2 : Int32} {x2 : Nat} (hn : 2 ≤ n ∧ n ≤ 5) (hb : b < 2 * n) (h1 : zcnd .ge v2 (σ b 19) = false) (z2 : zix v2 6 = some x2) (h3 : zcnd .ne (σ b (20 + 4 * x2)) v1 = false) : ZR 12 2 [.val (.ref (kad n (8, b, 0))), .val (.int v1), .val (.int v2)] [] (khp n L σ g) cl (.inl (some (.int v2)), khp n L σ (g), cl) := by
  have hM : zmi[12]? = some _ := rfl
  have l2 := (zix_some z2).2.2
  refine zr_fr hM rfl rfl rfl ?_
  refine zr_fr hM rfl rfl rfl ?_
  refine zr_getf (κ := (8, b, 0)) hn hM rfl (kokB rfl (by omega)) rfl rfl ?_
  refine zr_icf hM rfl rfl h1 ?_
  refine zr_fr hM rfl rfl rfl ?_
  refine zr_getf (κ := (8, b, 0)) hn hM rfl (kokB rfl (by omega)) rfl rfl ?_
  refine zr_fr hM rfl rfl rfl ?_
  refine zr_iald (κ := (9, b, 0)) hn hM rfl (kokB rfl (by omega)) rfl z2 ?_
  refine zr_fr hM rfl rfl rfl ?_
  refine zr_icf hM rfl rfl h3 ?_
  refine zr_fr hM rfl rfl rfl ?_
  exact zr_iret2 hM rfl rfl rfl
set_option maxHeartbeats 4000000 in
theorem s12_2_ft {n L : Nat} {σ : Ks} {g : List Nat} {cl : Bool} {r : Zr} {b : Nat} {v1 : Int32} {v2 : Int32} {x2 : Nat} (hn : 2 ≤ n ∧ n ≤ 5) (hb : b < 2 * n) (h1 : zcnd .ge v2 (σ b 19) = false) (z2 : zix v2 6 = some x2) (h3 : zcnd .ne (σ b (20 + 4 * x2)) v1 = true) (k : ZR 12 2 [.val (.ref (kad n (8, b, 0))), .val (.int v1), .val (.int (v2 + Int32.ofInt 1))] [] (khp n L σ (g)) cl r) : ZR 12 2 [.val (.ref (kad n (8, b, 0))), .val (.int v1), .val (.int v2)] [] (khp n L σ g) cl r := by
  have hM : zmi[12]? = some _ := rfl
  have l2 := (zix_some z2).2.2
  refine zr_fr hM rfl rfl rfl ?_
  refine zr_fr hM rfl rfl rfl ?_
  refine zr_getf (κ := (8, b, 0)) hn hM rfl (kokB rfl (by omega)) rfl rfl ?_
  refine zr_icf hM rfl rfl h1 ?_
  refine zr_fr hM rfl rfl rfl ?_
  refine zr_getf (κ := (8, b, 0)) hn hM rfl (kokB rfl (by omega)) rfl rfl ?_
  refine zr_fr hM rfl rfl rfl ?_
  refine zr_iald (κ := (9, b, 0)) hn hM rfl (kokB rfl (by omega)) rfl z2 ?_
  refine zr_fr hM rfl rfl rfl ?_
  refine zr_ict hM rfl rfl h3 ?_
  refine zr_fr hM rfl rfl rfl ?_
  refine zr_fr hM rfl rfl rfl ?_
  exact k
set_option maxHeartbeats 4000000 in
theorem s12_2_t {n L : Nat} {σ : Ks} {g : List Nat} {cl : Bool} {b : Nat} {v1 : Int32} {v2 : Int32} (hn : 2 ≤ n ∧ n ≤ 5) (hb : b < 2 * n) (h1 : zcnd .ge v2 (σ b 19) = true) : ZR 12 2 [.val (.ref (kad n (8, b, 0))), .val (.int v1), .val (.int v2)] [] (khp n L σ g) cl (.inl (some (.int (Int32.ofInt (-1)))), khp n L σ (g), cl) := by
  have hM : zmi[12]? = some _ := rfl
  refine zr_fr hM rfl rfl rfl ?_
  refine zr_fr hM rfl rfl rfl ?_
  refine zr_getf (κ := (8, b, 0)) hn hM rfl (kokB rfl (by omega)) rfl rfl ?_
  refine zr_ict hM rfl rfl h1 ?_
  refine zr_fr hM rfl rfl rfl ?_
  exact zr_iret2 hM rfl rfl rfl
set_option maxHeartbeats 4000000 in
theorem s13_0_r {n L : Nat} {σ : Ks} {g : List Nat} {cl : Bool} {r : Zr} {b : Nat} {p1 : Int32} (hn : 2 ≤ n ∧ n ≤ 5) (hb : b < 2 * n) (k : ZR 13 12 [.val (.ref (kad n (8, b, 0))), .val (.int p1), .val (.int p1)] [] (khp n L (kup σ b 19 ((σ b 19) - (Int32.ofInt 1))) (g)) false r) : ZR 13 0 [.val (.ref (kad n (8, b, 0))), .val (.int p1), .unset] [] (khp n L σ g) cl r := by
  have hM : zmi[13]? = some _ := rfl
  refine zr_fr hM rfl rfl rfl ?_
  refine zr_fr hM rfl rfl rfl ?_
  refine zr_getf (κ := (8, b, 0)) hn hM rfl (kokB rfl (by omega)) rfl rfl ?_
  refine zr_fr hM rfl rfl rfl ?_
  refine zr_fr hM rfl rfl rfl ?_
  refine zr_putf (κ := (8, b, 0)) hn hM rfl (kokB rfl (by omega)) rfl rfl rfl rfl rfl rfl ?_
  refine zr_fr hM rfl rfl rfl ?_
  refine zr_fr hM rfl rfl rfl ?_
  exact k
set_option maxHeartbeats 4000000 in
theorem s13_12_f {n L : Nat} {σ : Ks} {g : List Nat} {cl : Bool} {r : Zr} {b : Nat} {v1 : Int32} {v2 : Int32} {x2 : Nat} {x3 : Nat} (hn : 2 ≤ n ∧ n ≤ 5) (hb : b < 2 * n) (h1 : zcnd .ge v2 (σ b 19) = false) (z2 : zix (v2 + (Int32.ofInt 1)) 6 = some x2) (z3 : zix v2 6 = some x3) (k : ZR 13 12 [.val (.ref (kad n (8, b, 0))), .val (.int v1), .val (.int (v2 + Int32.ofInt 1))] [] (khp n L (kup (kup (kup (kup σ b (20 + 4 * x3) (σ b (20 + 4 * x2))) b (20 + 4 * x3 + 1) ((kup σ b (20 + 4 * x3) (σ b (20 + 4 * x2))) b (20 + 4 * x2 + 1))) b (20 + 4 * x3 + 2) ((kup (kup σ b (20 + 4 * x3) (σ b (20 + 4 * x2))) b (20 + 4 * x3 + 1) ((kup σ b (20 + 4 * x3) (σ b (20 + 4 * x2))) b (20 + 4 * x2 + 1))) b (20 + 4 * x2 + 2))) b (20 + 4 * x3 + 3) ((kup (kup (kup σ b (20 + 4 * x3) (σ b (20 + 4 * x2))) b (20 + 4 * x3 + 1) ((kup σ b (20 + 4 * x3) (σ b (20 + 4 * x2))) b (20 + 4 * x2 + 1))) b (20 + 4 * x3 + 2) ((kup (kup σ b (20 + 4 * x3) (σ b (20 + 4 * x2))) b (20 + 4 * x3 + 1) ((kup σ b (20 + 4 * x3) (σ b (20 + 4 * x2))) b (20 + 4 * x2 + 1))) b (20 + 4 * x2 + 2))) b (20 + 4 * x2 + 3))) (g)) false r) : ZR 13 12 [.val (.ref (kad n (8, b, 0))), .val (.int v1), .val (.int v2)] [] (khp n L σ g) cl r := by
  have hM : zmi[13]? = some _ := rfl
  have l2 := (zix_some z2).2.2
  have l3 := (zix_some z3).2.2
  refine zr_fr hM rfl rfl rfl ?_
  refine zr_fr hM rfl rfl rfl ?_
  refine zr_getf (κ := (8, b, 0)) hn hM rfl (kokB rfl (by omega)) rfl rfl ?_
  refine zr_icf hM rfl rfl h1 ?_
  refine zr_fr hM rfl rfl rfl ?_
  refine zr_getf (κ := (8, b, 0)) hn hM rfl (kokB rfl (by omega)) rfl rfl ?_
  refine zr_fr hM rfl rfl rfl ?_
  refine zr_fr hM rfl rfl rfl ?_
  refine zr_getf (κ := (8, b, 0)) hn hM rfl (kokB rfl (by omega)) rfl rfl ?_
  refine zr_fr hM rfl rfl rfl ?_
  refine zr_fr hM rfl rfl rfl ?_
  refine zr_fr hM rfl rfl rfl ?_
  refine zr_iald (κ := (9, b, 0)) hn hM rfl (kokB rfl (by omega)) rfl z2 ?_
  refine zr_iast (κ := (9, b, 0)) hn hM rfl (kokB rfl (by omega)) rfl rfl z3 rfl ?_
  refine zr_fr hM rfl rfl rfl ?_
  refine zr_getf (κ := (8, b, 0)) hn hM rfl (kokB rfl (by omega)) rfl rfl ?_
  refine zr_fr hM rfl rfl rfl ?_
  refine zr_fr hM rfl rfl rfl ?_
  refine zr_getf (κ := (8, b, 0)) hn hM rfl (kokB rfl (by omega)) rfl rfl ?_
  refine zr_fr hM rfl rfl rfl ?_
  refine zr_fr hM rfl rfl rfl ?_
  refine zr_fr hM rfl rfl rfl ?_
  refine zr_iald (κ := (10, b, 0)) hn hM rfl (kokB rfl (by omega)) rfl z2 ?_
  refine zr_iast (κ := (10, b, 0)) hn hM rfl (kokB rfl (by omega)) rfl rfl z3 rfl ?_
  refine zr_fr hM rfl rfl rfl ?_
  refine zr_getf (κ := (8, b, 0)) hn hM rfl (kokB rfl (by omega)) rfl rfl ?_
  refine zr_fr hM rfl rfl rfl ?_
  refine zr_fr hM rfl rfl rfl ?_
  refine zr_getf (κ := (8, b, 0)) hn hM rfl (kokB rfl (by omega)) rfl rfl ?_
  refine zr_fr hM rfl rfl rfl ?_
  refine zr_fr hM rfl rfl rfl ?_
  refine zr_fr hM rfl rfl rfl ?_
  refine zr_iald (κ := (11, b, 0)) hn hM rfl (kokB rfl (by omega)) rfl z2 ?_
  refine zr_iast (κ := (11, b, 0)) hn hM rfl (kokB rfl (by omega)) rfl rfl z3 rfl ?_
  refine zr_fr hM rfl rfl rfl ?_
  refine zr_getf (κ := (8, b, 0)) hn hM rfl (kokB rfl (by omega)) rfl rfl ?_
  refine zr_fr hM rfl rfl rfl ?_
  refine zr_fr hM rfl rfl rfl ?_
  refine zr_getf (κ := (8, b, 0)) hn hM rfl (kokB rfl (by omega)) rfl rfl ?_
  refine zr_fr hM rfl rfl rfl ?_
  refine zr_fr hM rfl rfl rfl ?_
  refine zr_fr hM rfl rfl rfl ?_
  refine zr_iald (κ := (12, b, 0)) hn hM rfl (kokB rfl (by omega)) rfl z2 ?_
  refine zr_iast (κ := (12, b, 0)) hn hM rfl (kokB rfl (by omega)) rfl rfl z3 rfl ?_
  refine zr_fr hM rfl rfl rfl ?_
  refine zr_fr hM rfl rfl rfl ?_
  exact k
set_option maxHeartbeats 4000000 in
theorem s13_12_t {n L : Nat} {σ : Ks} {g : List Nat} {cl : Bool} {b : Nat} {v1 : Int32} {v2 : Int32} (hn : 2 ≤ n ∧ n ≤ 5) (hb : b < 2 * n) (h1 : zcnd .ge v2 (σ b 19) = true) : ZR 13 12 [.val (.ref (kad n (8, b, 0))), .val (.int v1), .val (.int v2)] [] (khp n L σ g) cl (.inl (none), khp n L σ (g), cl) := by
  have hM : zmi[13]? = some _ := rfl
  refine zr_fr hM rfl rfl rfl ?_
  refine zr_fr hM rfl rfl rfl ?_
  refine zr_getf (κ := (8, b, 0)) hn hM rfl (kokB rfl (by omega)) rfl rfl ?_
  refine zr_ict hM rfl rfl h1 ?_
  exact zr_vret2 hM rfl rfl rfl
set_option maxHeartbeats 4000000 in
theorem s23_0_ff {n L : Nat} {σ : Ks} {g : List Nat} {cl : Bool} {p1 : Int32} (hn : 2 ≤ n ∧ n ≤ 5) (h1 : zcnd .lt p1 0 = false) (h2 : zcnd .ge p1 (σ 12 0) = false) : ZR 23 0 [.val (.ref (kad n (20, 0, 0))), .val (.int p1)] [] (khp n L σ g) cl (.inl (some (.int (Int32.ofInt 1))), khp n L σ (g), cl) := by
  have hM : zmi[23]? = some _ := rfl
  refine zr_fr hM rfl rfl rfl ?_
  refine zr_iff hM rfl rfl h1 ?_
  refine zr_fr hM rfl rfl rfl ?_
  refine zr_fr hM rfl rfl rfl ?_
  refine zr_getf (κ := (20, 0, 0)) hn hM rfl rfl rfl rfl ?_
  refine zr_icf hM rfl rfl h2 ?_
  refine zr_fr hM rfl rfl rfl ?_
  refine zr_fr hM rfl rfl rfl ?_
  exact zr_zret2 hM rfl rfl (by decide) rfl
set_option maxHeartbeats 4000000 in
theorem s23_0_ft {n L : Nat} {σ : Ks} {g : List Nat} {cl : Bool} {p1 : Int32} (hn : 2 ≤ n ∧ n ≤ 5) (h1 : zcnd .lt p1 0 = false) (h2 : zcnd .ge p1 (σ 12 0) = true) : ZR 23 0 [.val (.ref (kad n (20, 0, 0))), .val (.int p1)] [] (khp n L σ g) cl (.inl (some (.int (Int32.ofInt 0))), khp n L σ (g), cl) := by
  have hM : zmi[23]? = some _ := rfl
  refine zr_fr hM rfl rfl rfl ?_
  refine zr_iff hM rfl rfl h1 ?_
  refine zr_fr hM rfl rfl rfl ?_
  refine zr_fr hM rfl rfl rfl ?_
  refine zr_getf (κ := (20, 0, 0)) hn hM rfl rfl rfl rfl ?_
  refine zr_ict hM rfl rfl h2 ?_
  refine zr_fr hM rfl rfl rfl ?_
  exact zr_zret2 hM rfl rfl (by decide) rfl
set_option maxHeartbeats 4000000 in
theorem s23_0_t {n L : Nat} {σ : Ks} {g : List Nat} {cl : Bool} {p1 : Int32} (hn : 2 ≤ n ∧ n ≤ 5) (h1 : zcnd .lt p1 0 = true) : ZR 23 0 [.val (.ref (kad n (20, 0, 0))), .val (.int p1)] [] (khp n L σ g) cl (.inl (some (.int (Int32.ofInt 0))), khp n L σ (g), cl) := by
  have hM : zmi[23]? = some _ := rfl
  refine zr_fr hM rfl rfl rfl ?_
  refine zr_ift hM rfl rfl h1 ?_
  refine zr_fr hM rfl rfl rfl ?_
  exact zr_zret2 hM rfl rfl (by decide) rfl
set_option maxHeartbeats 4000000 in
theorem s26_0_f {n L : Nat} {σ : Ks} {g : List Nat} {cl : Bool} (hn : 2 ≤ n ∧ n ≤ 5) (h1 : zcnd .lt (σ 12 0) ((Int8.ofInt 24).toInt32) = false) : ZR 26 0 [.val (.ref (kad n (20, 0, 0)))] [] (khp n L σ g) cl (.inl (some (.int (Int32.ofInt 1))), khp n L σ (g), cl) := by
  have hM : zmi[26]? = some _ := rfl
  refine zr_fr hM rfl rfl rfl ?_
  refine zr_getf (κ := (20, 0, 0)) hn hM rfl rfl rfl rfl ?_
  refine zr_fr hM rfl rfl rfl ?_
  refine zr_icf hM rfl rfl h1 ?_
  refine zr_fr hM rfl rfl rfl ?_
  refine zr_fr hM rfl rfl rfl ?_
  exact zr_zret2 hM rfl rfl (by decide) rfl
set_option maxHeartbeats 4000000 in
theorem s26_0_t {n L : Nat} {σ : Ks} {g : List Nat} {cl : Bool} (hn : 2 ≤ n ∧ n ≤ 5) (h1 : zcnd .lt (σ 12 0) ((Int8.ofInt 24).toInt32) = true) : ZR 26 0 [.val (.ref (kad n (20, 0, 0)))] [] (khp n L σ g) cl (.inl (some (.int (Int32.ofInt 0))), khp n L σ (g), cl) := by
  have hM : zmi[26]? = some _ := rfl
  refine zr_fr hM rfl rfl rfl ?_
  refine zr_getf (κ := (20, 0, 0)) hn hM rfl rfl rfl rfl ?_
  refine zr_fr hM rfl rfl rfl ?_
  refine zr_ict hM rfl rfl h1 ?_
  refine zr_fr hM rfl rfl rfl ?_
  exact zr_zret2 hM rfl rfl (by decide) rfl
set_option maxHeartbeats 4000000 in
theorem s29_0_r {n L : Nat} {σ : Ks} {g : List Nat} {cl : Bool} {p1 : Int32} {p2 : Int32} {x1 : Nat} (hn : 2 ≤ n ∧ n ≤ 5) (z1 : zix ((p1 * ((Int8.ofInt 6).toInt32)) + p2) 144 = some x1) : ZR 29 0 [.val (.ref (kad n (20, 0, 0))), .val (.int p1), .val (.int p2)] [] (khp n L σ g) cl (.inl (some (.int (σ 11 x1))), khp n L σ (g), cl) := by
  have hM : zmi[29]? = some _ := rfl
  have l1 := (zix_some z1).2.2
  refine zr_fr hM rfl rfl rfl ?_
  refine zr_getf (κ := (20, 0, 0)) hn hM rfl rfl rfl rfl ?_
  refine zr_fr hM rfl rfl rfl ?_
  refine zr_fr hM rfl rfl rfl ?_
  refine zr_fr hM rfl rfl rfl ?_
  refine zr_fr hM rfl rfl rfl ?_
  refine zr_fr hM rfl rfl rfl ?_
  refine zr_iald (κ := (21, 0, 0)) hn hM rfl rfl rfl z1 ?_
  exact zr_iret2 hM rfl rfl rfl
set_option maxHeartbeats 4000000 in
theorem s70_0_f {n L : Nat} {σ : Ks} {g : List Nat} {cl : Bool} {p1 : Int32} {p2 : Int32} {p3 : Int32} {p4 : Int32} {p5 : Int32} {p6 : Int32} {r1 : Int32} (hn : 2 ≤ n ∧ n ≤ 5) (c1_ : ZR 26 0 [.val (.ref (kad n (20, 0, 0)))] [] (khp n L σ g) true (.inl (some (.int r1)), khp n L σ g, true)) (h2 : zcnd .eq r1 0 = false) : ZR 70 0 [.val (.ref (kad n (20, 0, 0))), .val (.int p1), .val (.int p2), .val (.int p3), .val (.int p4), .val (.int p5), .val (.int p6), .unset] [] (khp n L σ g) cl (.inl (none), khp n L (kup σ 12 1 ((σ 12 1) + (Int32.ofInt 1))) (g), false) := by
  have hM : zmi[70]? = some _ := rfl
  refine zr_fr hM rfl rfl rfl ?_
  refine zr_virt (κ := (20, 0, 0)) hn hM rfl rfl rfl rfl rfl rfl rfl rfl rfl ?_
  refine zgo_ret rfl rfl c1_ ?_
  rw [Bool.and_true]
  refine zr_iff hM rfl rfl h2 ?_
  refine zr_fr hM rfl rfl rfl ?_
  refine zr_fr hM rfl rfl rfl ?_
  refine zr_getf (κ := (20, 0, 0)) hn hM rfl rfl rfl rfl ?_
  refine zr_fr hM rfl rfl rfl ?_
  refine zr_fr hM rfl rfl rfl ?_
  refine zr_putf (κ := (20, 0, 0)) hn hM rfl rfl rfl rfl rfl rfl rfl rfl ?_
  exact zr_vret2 hM rfl rfl rfl
set_option maxHeartbeats 4000000 in
theorem s70_0_t {n L : Nat} {σ : Ks} {g : List Nat} {cl : Bool} {p1 : Int32} {p2 : Int32} {p3 : Int32} {p4 : Int32} {p5 : Int32} {p6 : Int32} {r1 : Int32} {x3 : Nat} {x4 : Nat} {x5 : Nat} {x6 : Nat} {x7 : Nat} {x8 : Nat} (hn : 2 ≤ n ∧ n ≤ 5) (c1_ : ZR 26 0 [.val (.ref (kad n (20, 0, 0)))] [] (khp n L σ g) true (.inl (some (.int r1)), khp n L σ g, true)) (h2 : zcnd .eq r1 0 = true) (z3 : zix ((σ 12 0) * ((Int8.ofInt 6).toInt32)) 144 = some x3) (z4 : zix (((σ 12 0) * ((Int8.ofInt 6).toInt32)) + (Int32.ofInt 1)) 144 = some x4) (z5 : zix (((σ 12 0) * ((Int8.ofInt 6).toInt32)) + (Int32.ofInt 2)) 144 = some x5) (z6 : zix (((σ 12 0) * ((Int8.ofInt 6).toInt32)) + (Int32.ofInt 3)) 144 = some x6) (z7 : zix (((σ 12 0) * ((Int8.ofInt 6).toInt32)) + (Int32.ofInt 4)) 144 = some x7) (z8 : zix (((σ 12 0) * ((Int8.ofInt 6).toInt32)) + (Int32.ofInt 5)) 144 = some x8) : ZR 70 0 [.val (.ref (kad n (20, 0, 0))), .val (.int p1), .val (.int p2), .val (.int p3), .val (.int p4), .val (.int p5), .val (.int p6), .unset] [] (khp n L σ g) cl (.inl (none), khp n L (kup (kup (kup (kup (kup (kup (kup σ 11 x3 p1) 11 x4 p2) 11 x5 p3) 11 x6 p4) 11 x7 p5) 11 x8 p6) 12 0 (((kup (kup (kup (kup (kup (kup σ 11 x3 p1) 11 x4 p2) 11 x5 p3) 11 x6 p4) 11 x7 p5) 11 x8 p6) 12 0) + (Int32.ofInt 1))) (g), false) := by
  have hM : zmi[70]? = some _ := rfl
  have l3 := (zix_some z3).2.2
  have l4 := (zix_some z4).2.2
  have l5 := (zix_some z5).2.2
  have l6 := (zix_some z6).2.2
  have l7 := (zix_some z7).2.2
  have l8 := (zix_some z8).2.2
  refine zr_fr hM rfl rfl rfl ?_
  refine zr_virt (κ := (20, 0, 0)) hn hM rfl rfl rfl rfl rfl rfl rfl rfl rfl ?_
  refine zgo_ret rfl rfl c1_ ?_
  rw [Bool.and_true]
  refine zr_ift hM rfl rfl h2 ?_
  refine zr_fr hM rfl rfl rfl ?_
  refine zr_getf (κ := (20, 0, 0)) hn hM rfl rfl rfl rfl ?_
  refine zr_fr hM rfl rfl rfl ?_
  refine zr_fr hM rfl rfl rfl ?_
  refine zr_fr hM rfl rfl rfl ?_
  refine zr_fr hM rfl rfl rfl ?_
  refine zr_getf (κ := (20, 0, 0)) hn hM rfl rfl rfl rfl ?_
  refine zr_fr hM rfl rfl rfl ?_
  refine zr_fr hM rfl rfl rfl ?_
  refine zr_iast (κ := (21, 0, 0)) hn hM rfl rfl rfl rfl z3 rfl ?_
  refine zr_fr hM rfl rfl rfl ?_
  refine zr_getf (κ := (20, 0, 0)) hn hM rfl rfl rfl rfl ?_
  refine zr_fr hM rfl rfl rfl ?_
  refine zr_fr hM rfl rfl rfl ?_
  refine zr_fr hM rfl rfl rfl ?_
  refine zr_fr hM rfl rfl rfl ?_
  refine zr_iast (κ := (21, 0, 0)) hn hM rfl rfl rfl rfl z4 rfl ?_
  refine zr_fr hM rfl rfl rfl ?_
  refine zr_getf (κ := (20, 0, 0)) hn hM rfl rfl rfl rfl ?_
  refine zr_fr hM rfl rfl rfl ?_
  refine zr_fr hM rfl rfl rfl ?_
  refine zr_fr hM rfl rfl rfl ?_
  refine zr_fr hM rfl rfl rfl ?_
  refine zr_iast (κ := (21, 0, 0)) hn hM rfl rfl rfl rfl z5 rfl ?_
  refine zr_fr hM rfl rfl rfl ?_
  refine zr_getf (κ := (20, 0, 0)) hn hM rfl rfl rfl rfl ?_
  refine zr_fr hM rfl rfl rfl ?_
  refine zr_fr hM rfl rfl rfl ?_
  refine zr_fr hM rfl rfl rfl ?_
  refine zr_fr hM rfl rfl rfl ?_
  refine zr_iast (κ := (21, 0, 0)) hn hM rfl rfl rfl rfl z6 rfl ?_
  refine zr_fr hM rfl rfl rfl ?_
  refine zr_getf (κ := (20, 0, 0)) hn hM rfl rfl rfl rfl ?_
  refine zr_fr hM rfl rfl rfl ?_
  refine zr_fr hM rfl rfl rfl ?_
  refine zr_fr hM rfl rfl rfl ?_
  refine zr_fr hM rfl rfl rfl ?_
  refine zr_iast (κ := (21, 0, 0)) hn hM rfl rfl rfl rfl z7 rfl ?_
  refine zr_fr hM rfl rfl rfl ?_
  refine zr_getf (κ := (20, 0, 0)) hn hM rfl rfl rfl rfl ?_
  refine zr_fr hM rfl rfl rfl ?_
  refine zr_fr hM rfl rfl rfl ?_
  refine zr_fr hM rfl rfl rfl ?_
  refine zr_fr hM rfl rfl rfl ?_
  refine zr_iast (κ := (21, 0, 0)) hn hM rfl rfl rfl rfl z8 rfl ?_
  refine zr_fr hM rfl rfl rfl ?_
  refine zr_fr hM rfl rfl rfl ?_
  refine zr_getf (κ := (20, 0, 0)) hn hM rfl rfl rfl rfl ?_
  refine zr_fr hM rfl rfl rfl ?_
  refine zr_fr hM rfl rfl rfl ?_
  refine zr_putf (κ := (20, 0, 0)) hn hM rfl rfl rfl rfl rfl rfl rfl rfl ?_
  exact zr_vret2 hM rfl rfl rfl
set_option maxHeartbeats 4000000 in
theorem s24_0_r {n L : Nat} {σ : Ks} {g : List Nat} {cl : Bool} {p1 : Int32} {σ1 : Ks} (hn : 2 ≤ n ∧ n ≤ 5) (a1 : Kcp n L (kup σ 12 0 ((σ 12 0) - (Int32.ofInt 1))) (21, 0, 0) ((p1 + (Int32.ofInt 1)) * ((Int8.ofInt 6).toInt32)) (21, 0, 0) (p1 * ((Int8.ofInt 6).toInt32)) ((((kup σ 12 0 ((σ 12 0) - (Int32.ofInt 1))) 12 0) - p1) * ((Int8.ofInt 6).toInt32)) σ1) : ZR 24 0 [.val (.ref (kad n (20, 0, 0))), .val (.int p1)] [] (khp n L σ g) cl (.inl (none), khp n L σ1 (g), false) := by
  have hM : zmi[24]? = some _ := rfl
  refine zr_fr hM rfl rfl rfl ?_
  refine zr_fr hM rfl rfl rfl ?_
  refine zr_getf (κ := (20, 0, 0)) hn hM rfl rfl rfl rfl ?_
  refine zr_fr hM rfl rfl rfl ?_
  refine zr_fr hM rfl rfl rfl ?_
  refine zr_putf (κ := (20, 0, 0)) hn hM rfl rfl rfl rfl rfl rfl rfl rfl ?_
  refine zr_fr hM rfl rfl rfl ?_
  refine zr_getf (κ := (20, 0, 0)) hn hM rfl rfl rfl rfl ?_
  refine zr_fr hM rfl rfl rfl ?_
  refine zr_fr hM rfl rfl rfl ?_
  refine zr_fr hM rfl rfl rfl ?_
  refine zr_fr hM rfl rfl rfl ?_
  refine zr_fr hM rfl rfl rfl ?_
  refine zr_fr hM rfl rfl rfl ?_
  refine zr_getf (κ := (20, 0, 0)) hn hM rfl rfl rfl rfl ?_
  refine zr_fr hM rfl rfl rfl ?_
  refine zr_fr hM rfl rfl rfl ?_
  refine zr_fr hM rfl rfl rfl ?_
  refine zr_fr hM rfl rfl rfl ?_
  refine zr_getf (κ := (20, 0, 0)) hn hM rfl rfl rfl rfl ?_
  refine zr_fr hM rfl rfl rfl ?_
  refine zr_fr hM rfl rfl rfl ?_
  refine zr_fr hM rfl rfl rfl ?_
  refine zr_fr hM rfl rfl rfl ?_
  refine zr_copy (κ1 := (21, 0, 0)) (κ2 := (21, 0, 0)) hn hM rfl rfl rfl rfl rfl rfl a1 rfl ?_
  exact zr_vret2 hM rfl rfl rfl
set_option maxHeartbeats 4000000 in
theorem s27_0_r {n L : Nat} {σ : Ks} {g : List Nat} {cl : Bool} {p1 : Int32} {σ1 : Ks} (hn : 2 ≤ n ∧ n ≤ 5) (a1 : Kcp n L σ (21, 0, 0) (p1 * ((Int8.ofInt 6).toInt32)) (21, 0, 0) ((σ 12 0) * ((Int8.ofInt 6).toInt32)) ((Int8.ofInt 6).toInt32) σ1) : ZR 27 0 [.val (.ref (kad n (20, 0, 0))), .val (.int p1)] [] (khp n L σ g) cl (.inl (none), khp n L (kup σ1 12 0 ((σ1 12 0) + (Int32.ofInt 1))) (g), false) := by
  have hM : zmi[27]? = some _ := rfl
  refine zr_fr hM rfl rfl rfl ?_
  refine zr_getf (κ := (20, 0, 0)) hn hM rfl rfl rfl rfl ?_
  refine zr_fr hM rfl rfl rfl ?_
  refine zr_fr hM rfl rfl rfl ?_
  refine zr_fr hM rfl rfl rfl ?_
  refine zr_fr hM rfl rfl rfl ?_
  refine zr_getf (κ := (20, 0, 0)) hn hM rfl rfl rfl rfl ?_
  refine zr_fr hM rfl rfl rfl ?_
  refine zr_getf (κ := (20, 0, 0)) hn hM rfl rfl rfl rfl ?_
  refine zr_fr hM rfl rfl rfl ?_
  refine zr_fr hM rfl rfl rfl ?_
  refine zr_fr hM rfl rfl rfl ?_
  refine zr_copy (κ1 := (21, 0, 0)) (κ2 := (21, 0, 0)) hn hM rfl rfl rfl rfl rfl rfl a1 rfl ?_
  refine zr_fr hM rfl rfl rfl ?_
  refine zr_fr hM rfl rfl rfl ?_
  refine zr_getf (κ := (20, 0, 0)) hn hM rfl rfl rfl rfl ?_
  refine zr_fr hM rfl rfl rfl ?_
  refine zr_fr hM rfl rfl rfl ?_
  refine zr_putf (κ := (20, 0, 0)) hn hM rfl rfl rfl rfl rfl rfl rfl rfl ?_
  exact zr_vret2 hM rfl rfl rfl
end
