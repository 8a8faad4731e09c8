section
-- ===== PART A: goes FIRST, ahead of the names: the tables' words, and 'selects' of the private methods out of them =====
/-- a private method of a class that the tables say can be made, by its rows of tables_1 -/
def lw_okq (q : MethodName × Nat) : Prop := (q.1.cls ≠ "java/lang/invoke/MethodHandle" ∧ q.1.cls ≠ "java/lang/invoke/VarHandle") ∧ Cond.instantiable q.1.cls q.2 ∈ tables_1 ∧ Cond.privateMethod q.1 ∈ tables_1 ∧ Cond.instanceMethod q.1 ∈ tables_1
theorem lw_p0 : lw_okq (⟨"java/lang/Throwable", "fillInStackTrace", "(I)Ljava/lang/Throwable;"⟩, 6) := ⟨⟨by decide +kernel, by decide +kernel⟩, List.mem_of_getElem? (i := 183) (by decide +kernel), List.mem_of_getElem? (i := 181) (by decide +kernel), List.mem_of_getElem? (i := 182) (by decide +kernel)⟩
theorem lw_p1 : lw_okq (⟨"DunningDesk$CaseBook", "isFull", "()Z"⟩, 7) := ⟨⟨by decide +kernel, by decide +kernel⟩, List.mem_of_getElem? (i := 25) (by decide +kernel), List.mem_of_getElem? (i := 213) (by decide +kernel), List.mem_of_getElem? (i := 214) (by decide +kernel)⟩
theorem lw_p2 : lw_okq (⟨"DunningDesk$CaseBook", "add", "(II)I"⟩, 7) := ⟨⟨by decide +kernel, by decide +kernel⟩, List.mem_of_getElem? (i := 25) (by decide +kernel), List.mem_of_getElem? (i := 233) (by decide +kernel), List.mem_of_getElem? (i := 234) (by decide +kernel)⟩
theorem lw_p3 : lw_okq (⟨"DunningDesk$MessageBook", "release", "(II)V"⟩, 13) := ⟨⟨by decide +kernel, by decide +kernel⟩, List.mem_of_getElem? (i := 61) (by decide +kernel), List.mem_of_getElem? (i := 237) (by decide +kernel), List.mem_of_getElem? (i := 238) (by decide +kernel)⟩
theorem lw_p4 : lw_okq (⟨"DunningDesk", "requireCase", "(I)V"⟩, 3) := ⟨⟨by decide +kernel, by decide +kernel⟩, List.mem_of_getElem? (i := 17) (by decide +kernel), List.mem_of_getElem? (i := 275) (by decide +kernel), List.mem_of_getElem? (i := 276) (by decide +kernel)⟩
theorem lw_p5 : lw_okq (⟨"DunningDesk$CaseBook", "contains", "(I)Z"⟩, 7) := ⟨⟨by decide +kernel, by decide +kernel⟩, List.mem_of_getElem? (i := 25) (by decide +kernel), List.mem_of_getElem? (i := 279) (by decide +kernel), List.mem_of_getElem? (i := 280) (by decide +kernel)⟩
theorem lw_p6 : lw_okq (⟨"DunningDesk", "requireOpen", "(I)V"⟩, 3) := ⟨⟨by decide +kernel, by decide +kernel⟩, List.mem_of_getElem? (i := 17) (by decide +kernel), List.mem_of_getElem? (i := 304) (by decide +kernel), List.mem_of_getElem? (i := 305) (by decide +kernel)⟩
theorem lw_p7 : lw_okq (⟨"DunningDesk$CaseBook", "isOpen", "(I)Z"⟩, 7) := ⟨⟨by decide +kernel, by decide +kernel⟩, List.mem_of_getElem? (i := 25) (by decide +kernel), List.mem_of_getElem? (i := 308) (by decide +kernel), List.mem_of_getElem? (i := 309) (by decide +kernel)⟩
theorem lw_p8 : lw_okq (⟨"DunningDesk$CaseBook", "pauseUntil", "(II)I"⟩, 7) := ⟨⟨by decide +kernel, by decide +kernel⟩, List.mem_of_getElem? (i := 25) (by decide +kernel), List.mem_of_getElem? (i := 313) (by decide +kernel), List.mem_of_getElem? (i := 314) (by decide +kernel)⟩
theorem lw_p9 : lw_okq (⟨"DunningDesk$MessageBook", "lettersFrom", "(II)I"⟩, 13) := ⟨⟨by decide +kernel, by decide +kernel⟩, List.mem_of_getElem? (i := 61) (by decide +kernel), List.mem_of_getElem? (i := 339) (by decide +kernel), List.mem_of_getElem? (i := 340) (by decide +kernel)⟩
theorem lw_p10 : lw_okq (⟨"DunningDesk$MessageBook", "contains", "(I)Z"⟩, 13) := ⟨⟨by decide +kernel, by decide +kernel⟩, List.mem_of_getElem? (i := 61) (by decide +kernel), List.mem_of_getElem? (i := 343) (by decide +kernel), List.mem_of_getElem? (i := 344) (by decide +kernel)⟩
theorem lw_p11 : lw_okq (⟨"DunningDesk", "isAnyReminderLeft", "(I)Z"⟩, 3) := ⟨⟨by decide +kernel, by decide +kernel⟩, List.mem_of_getElem? (i := 17) (by decide +kernel), List.mem_of_getElem? (i := 355) (by decide +kernel), List.mem_of_getElem? (i := 356) (by decide +kernel)⟩
theorem lw_p12 : lw_okq (⟨"DunningDesk$MessageBook", "find", "(I)I"⟩, 13) := ⟨⟨by decide +kernel, by decide +kernel⟩, List.mem_of_getElem? (i := 61) (by decide +kernel), List.mem_of_getElem? (i := 362) (by decide +kernel), List.mem_of_getElem? (i := 363) (by decide +kernel)⟩
theorem lw_p13 : lw_okq (⟨"DunningDesk$CaseBook", "reminderDay", "(I)I"⟩, 7) := ⟨⟨by decide +kernel, by decide +kernel⟩, List.mem_of_getElem? (i := 25) (by decide +kernel), List.mem_of_getElem? (i := 382) (by decide +kernel), List.mem_of_getElem? (i := 383) (by decide +kernel)⟩
theorem lw_p14 : lw_okq (⟨"DunningDesk$MessageBook", "isFull", "()Z"⟩, 13) := ⟨⟨by decide +kernel, by decide +kernel⟩, List.mem_of_getElem? (i := 61) (by decide +kernel), List.mem_of_getElem? (i := 400) (by decide +kernel), List.mem_of_getElem? (i := 401) (by decide +kernel)⟩
theorem lw_p15 : lw_okq (⟨"DunningDesk$MessageBook", "add", "(IICIII)I"⟩, 13) := ⟨⟨by decide +kernel, by decide +kernel⟩, List.mem_of_getElem? (i := 61) (by decide +kernel), List.mem_of_getElem? (i := 405) (by decide +kernel), List.mem_of_getElem? (i := 406) (by decide +kernel)⟩
def lw_privs_1 : List (MethodName × Nat) := [(⟨"java/lang/Throwable", "fillInStackTrace", "(I)Ljava/lang/Throwable;"⟩, 6), (⟨"DunningDesk$CaseBook", "isFull", "()Z"⟩, 7), (⟨"DunningDesk$CaseBook", "add", "(II)I"⟩, 7), (⟨"DunningDesk$MessageBook", "release", "(II)V"⟩, 13), (⟨"DunningDesk", "requireCase", "(I)V"⟩, 3), (⟨"DunningDesk$CaseBook", "contains", "(I)Z"⟩, 7), (⟨"DunningDesk", "requireOpen", "(I)V"⟩, 3), (⟨"DunningDesk$CaseBook", "isOpen", "(I)Z"⟩, 7), (⟨"DunningDesk$CaseBook", "pauseUntil", "(II)I"⟩, 7), (⟨"DunningDesk$MessageBook", "lettersFrom", "(II)I"⟩, 13), (⟨"DunningDesk$MessageBook", "contains", "(I)Z"⟩, 13), (⟨"DunningDesk", "isAnyReminderLeft", "(I)Z"⟩, 3), (⟨"DunningDesk$MessageBook", "find", "(I)I"⟩, 13), (⟨"DunningDesk$CaseBook", "reminderDay", "(I)I"⟩, 7), (⟨"DunningDesk$MessageBook", "isFull", "()Z"⟩, 13), (⟨"DunningDesk$MessageBook", "add", "(IICIII)I"⟩, 13)]
theorem lw_r1 : ∀ q ∈ lw_privs_1, lw_okq q := List.forall_mem_cons.mpr ⟨lw_p0, List.forall_mem_cons.mpr ⟨lw_p1, List.forall_mem_cons.mpr ⟨lw_p2, List.forall_mem_cons.mpr ⟨lw_p3, List.forall_mem_cons.mpr ⟨lw_p4, List.forall_mem_cons.mpr ⟨lw_p5, List.forall_mem_cons.mpr ⟨lw_p6, List.forall_mem_cons.mpr ⟨lw_p7, List.forall_mem_cons.mpr ⟨lw_p8, List.forall_mem_cons.mpr ⟨lw_p9, List.forall_mem_cons.mpr ⟨lw_p10, List.forall_mem_cons.mpr ⟨lw_p11, List.forall_mem_cons.mpr ⟨lw_p12, List.forall_mem_cons.mpr ⟨lw_p13, List.forall_mem_cons.mpr ⟨lw_p14, List.forall_mem_cons.mpr ⟨lw_p15, fun _ h => absurd h List.not_mem_nil⟩⟩⟩⟩⟩⟩⟩⟩⟩⟩⟩⟩⟩⟩⟩⟩
theorem lw_p16 : lw_okq (⟨"DunningDesk", "requireMessage", "(I)V"⟩, 3) := ⟨⟨by decide +kernel, by decide +kernel⟩, List.mem_of_getElem? (i := 17) (by decide +kernel), List.mem_of_getElem? (i := 424) (by decide +kernel), List.mem_of_getElem? (i := 425) (by decide +kernel)⟩
theorem lw_p17 : lw_okq (⟨"DunningDesk", "requireState", "(IC)V"⟩, 3) := ⟨⟨by decide +kernel, by decide +kernel⟩, List.mem_of_getElem? (i := 17) (by decide +kernel), List.mem_of_getElem? (i := 451) (by decide +kernel), List.mem_of_getElem? (i := 452) (by decide +kernel)⟩
theorem lw_p18 : lw_okq (⟨"DunningDesk$MessageBook", "countReady", "(II)I"⟩, 13) := ⟨⟨by decide +kernel, by decide +kernel⟩, List.mem_of_getElem? (i := 61) (by decide +kernel), List.mem_of_getElem? (i := 463) (by decide +kernel), List.mem_of_getElem? (i := 464) (by decide +kernel)⟩
theorem lw_p19 : lw_okq (⟨"DunningDesk$MessageBook", "isReady", "(III)Z"⟩, 13) := ⟨⟨by decide +kernel, by decide +kernel⟩, List.mem_of_getElem? (i := 61) (by decide +kernel), List.mem_of_getElem? (i := 467) (by decide +kernel), List.mem_of_getElem? (i := 468) (by decide +kernel)⟩
theorem lw_p20 : lw_okq (⟨"DunningDesk$MessageBook", "nextReady", "(III)I"⟩, 13) := ⟨⟨by decide +kernel, by decide +kernel⟩, List.mem_of_getElem? (i := 61) (by decide +kernel), List.mem_of_getElem? (i := 479) (by decide +kernel), List.mem_of_getElem? (i := 480) (by decide +kernel)⟩
theorem lw_p21 : lw_okq (⟨"DunningDesk$MessageBook", "goesBefore", "(II)Z"⟩, 13) := ⟨⟨by decide +kernel, by decide +kernel⟩, List.mem_of_getElem? (i := 61) (by decide +kernel), List.mem_of_getElem? (i := 483) (by decide +kernel), List.mem_of_getElem? (i := 484) (by decide +kernel)⟩
theorem lw_p22 : lw_okq (⟨"DunningDesk$MessageBook", "countTakenBy", "(I)I"⟩, 13) := ⟨⟨by decide +kernel, by decide +kernel⟩, List.mem_of_getElem? (i := 61) (by decide +kernel), List.mem_of_getElem? (i := 498) (by decide +kernel), List.mem_of_getElem? (i := 499) (by decide +kernel)⟩
theorem lw_p23 : lw_okq (⟨"DunningDesk$MessageBook", "giveTo", "(III)V"⟩, 13) := ⟨⟨by decide +kernel, by decide +kernel⟩, List.mem_of_getElem? (i := 61) (by decide +kernel), List.mem_of_getElem? (i := 504) (by decide +kernel), List.mem_of_getElem? (i := 505) (by decide +kernel)⟩
theorem lw_p24 : lw_okq (⟨"DunningDesk$MessageBook", "close", "(I)V"⟩, 13) := ⟨⟨by decide +kernel, by decide +kernel⟩, List.mem_of_getElem? (i := 61) (by decide +kernel), List.mem_of_getElem? (i := 515) (by decide +kernel), List.mem_of_getElem? (i := 516) (by decide +kernel)⟩
theorem lw_p25 : lw_okq (⟨"DunningDesk", "settle", "(I)Z"⟩, 3) := ⟨⟨by decide +kernel, by decide +kernel⟩, List.mem_of_getElem? (i := 17) (by decide +kernel), List.mem_of_getElem? (i := 519) (by decide +kernel), List.mem_of_getElem? (i := 520) (by decide +kernel)⟩
theorem lw_p26 : lw_okq (⟨"DunningDesk$CaseBook", "pay", "(II)Z"⟩, 7) := ⟨⟨by decide +kernel, by decide +kernel⟩, List.mem_of_getElem? (i := 25) (by decide +kernel), List.mem_of_getElem? (i := 523) (by decide +kernel), List.mem_of_getElem? (i := 524) (by decide +kernel)⟩
theorem lw_p27 : lw_okq (⟨"DunningDesk$CaseBook", "endWait", "(I)Z"⟩, 7) := ⟨⟨by decide +kernel, by decide +kernel⟩, List.mem_of_getElem? (i := 25) (by decide +kernel), List.mem_of_getElem? (i := 527) (by decide +kernel), List.mem_of_getElem? (i := 528) (by decide +kernel)⟩
theorem lw_p28 : lw_okq (⟨"DunningDesk$CaseBook", "sendLetter", "(II)Z"⟩, 7) := ⟨⟨by decide +kernel, by decide +kernel⟩, List.mem_of_getElem? (i := 25) (by decide +kernel), List.mem_of_getElem? (i := 531) (by decide +kernel), List.mem_of_getElem? (i := 532) (by decide +kernel)⟩
theorem lw_p29 : lw_okq (⟨"DunningDesk$MessageBook", "putBack", "(II)V"⟩, 13) := ⟨⟨by decide +kernel, by decide +kernel⟩, List.mem_of_getElem? (i := 61) (by decide +kernel), List.mem_of_getElem? (i := 543) (by decide +kernel), List.mem_of_getElem? (i := 544) (by decide +kernel)⟩
theorem lw_p30 : lw_okq (⟨"DunningDesk$MessageBook", "wake", "(II)V"⟩, 13) := ⟨⟨by decide +kernel, by decide +kernel⟩, List.mem_of_getElem? (i := 61) (by decide +kernel), List.mem_of_getElem? (i := 554) (by decide +kernel), List.mem_of_getElem? (i := 555) (by decide +kernel)⟩
theorem lw_p31 : lw_okq (⟨"DunningDesk$MessageBook", "countIn", "(C)I"⟩, 13) := ⟨⟨by decide +kernel, by decide +kernel⟩, List.mem_of_getElem? (i := 61) (by decide +kernel), List.mem_of_getElem? (i := 558) (by decide +kernel), List.mem_of_getElem? (i := 559) (by decide +kernel)⟩
def lw_privs_2 : List (MethodName × Nat) := [(⟨"DunningDesk", "requireMessage", "(I)V"⟩, 3), (⟨"DunningDesk", "requireState", "(IC)V"⟩, 3), (⟨"DunningDesk$MessageBook", "countReady", "(II)I"⟩, 13), (⟨"DunningDesk$MessageBook", "isReady", "(III)Z"⟩, 13), (⟨"DunningDesk$MessageBook", "nextReady", "(III)I"⟩, 13), (⟨"DunningDesk$MessageBook", "goesBefore", "(II)Z"⟩, 13), (⟨"DunningDesk$MessageBook", "countTakenBy", "(I)I"⟩, 13), (⟨"DunningDesk$MessageBook", "giveTo", "(III)V"⟩, 13), (⟨"DunningDesk$MessageBook", "close", "(I)V"⟩, 13), (⟨"DunningDesk", "settle", "(I)Z"⟩, 3), (⟨"DunningDesk$CaseBook", "pay", "(II)Z"⟩, 7), (⟨"DunningDesk$CaseBook", "endWait", "(I)Z"⟩, 7), (⟨"DunningDesk$CaseBook", "sendLetter", "(II)Z"⟩, 7), (⟨"DunningDesk$MessageBook", "putBack", "(II)V"⟩, 13), (⟨"DunningDesk$MessageBook", "wake", "(II)V"⟩, 13), (⟨"DunningDesk$MessageBook", "countIn", "(C)I"⟩, 13)]
theorem lw_r2 : ∀ q ∈ lw_privs_2, lw_okq q := List.forall_mem_cons.mpr ⟨lw_p16, List.forall_mem_cons.mpr ⟨lw_p17, List.forall_mem_cons.mpr ⟨lw_p18, List.forall_mem_cons.mpr ⟨lw_p19, List.forall_mem_cons.mpr ⟨lw_p20, List.forall_mem_cons.mpr ⟨lw_p21, List.forall_mem_cons.mpr ⟨lw_p22, List.forall_mem_cons.mpr ⟨lw_p23, List.forall_mem_cons.mpr ⟨lw_p24, List.forall_mem_cons.mpr ⟨lw_p25, List.forall_mem_cons.mpr ⟨lw_p26, List.forall_mem_cons.mpr ⟨lw_p27, List.forall_mem_cons.mpr ⟨lw_p28, List.forall_mem_cons.mpr ⟨lw_p29, List.forall_mem_cons.mpr ⟨lw_p30, List.forall_mem_cons.mpr ⟨lw_p31, fun _ h => absurd h List.not_mem_nil⟩⟩⟩⟩⟩⟩⟩⟩⟩⟩⟩⟩⟩⟩⟩⟩
theorem lw_p32 : lw_okq (⟨"DunningDesk$MessageBook", "putBackTakenUntil", "(II)V"⟩, 13) := ⟨⟨by decide +kernel, by decide +kernel⟩, List.mem_of_getElem? (i := 61) (by decide +kernel), List.mem_of_getElem? (i := 584) (by decide +kernel), List.mem_of_getElem? (i := 585) (by decide +kernel)⟩
theorem lw_p33 : lw_okq (⟨"DunningDesk", "postReminders", "()I"⟩, 3) := ⟨⟨by decide +kernel, by decide +kernel⟩, List.mem_of_getElem? (i := 17) (by decide +kernel), List.mem_of_getElem? (i := 589) (by decide +kernel), List.mem_of_getElem? (i := 590) (by decide +kernel)⟩
theorem lw_p34 : lw_okq (⟨"DunningDesk", "isReminderDue", "(I)Z"⟩, 3) := ⟨⟨by decide +kernel, by decide +kernel⟩, List.mem_of_getElem? (i := 17) (by decide +kernel), List.mem_of_getElem? (i := 593) (by decide +kernel), List.mem_of_getElem? (i := 594) (by decide +kernel)⟩
theorem lw_p35 : lw_okq (⟨"DunningDesk$CaseBook", "countOpen", "()I"⟩, 7) := ⟨⟨by decide +kernel, by decide +kernel⟩, List.mem_of_getElem? (i := 25) (by decide +kernel), List.mem_of_getElem? (i := 636) (by decide +kernel), List.mem_of_getElem? (i := 637) (by decide +kernel)⟩
theorem lw_p36 : lw_okq (⟨"DunningDesk$CaseBook", "sumOfAmounts", "()I"⟩, 7) := ⟨⟨by decide +kernel, by decide +kernel⟩, List.mem_of_getElem? (i := 25) (by decide +kernel), List.mem_of_getElem? (i := 641) (by decide +kernel), List.mem_of_getElem? (i := 642) (by decide +kernel)⟩
theorem lw_p37 : lw_okq (⟨"DunningDeskModel", "noCase", "(I)Z"⟩, 19) := ⟨⟨by decide +kernel, by decide +kernel⟩, List.mem_of_getElem? (i := 645) (by decide +kernel), List.mem_of_getElem? (i := 725) (by decide +kernel), List.mem_of_getElem? (i := 726) (by decide +kernel)⟩
theorem lw_p38 : lw_okq (⟨"DunningDeskModel", "mayRemind", "(I)Z"⟩, 19) := ⟨⟨by decide +kernel, by decide +kernel⟩, List.mem_of_getElem? (i := 645) (by decide +kernel), List.mem_of_getElem? (i := 750) (by decide +kernel), List.mem_of_getElem? (i := 751) (by decide +kernel)⟩
theorem lw_p39 : lw_okq (⟨"DunningDeskModel", "find", "(I)I"⟩, 19) := ⟨⟨by decide +kernel, by decide +kernel⟩, List.mem_of_getElem? (i := 645) (by decide +kernel), List.mem_of_getElem? (i := 754) (by decide +kernel), List.mem_of_getElem? (i := 755) (by decide +kernel)⟩
theorem lw_p40 : lw_okq (⟨"DunningDeskModel", "remindsFrom", "(I)I"⟩, 19) := ⟨⟨by decide +kernel, by decide +kernel⟩, List.mem_of_getElem? (i := 645) (by decide +kernel), List.mem_of_getElem? (i := 758) (by decide +kernel), List.mem_of_getElem? (i := 759) (by decide +kernel)⟩
theorem lw_p41 : lw_okq (⟨"DunningDeskModel", "raises", "(I)I"⟩, 19) := ⟨⟨by decide +kernel, by decide +kernel⟩, List.mem_of_getElem? (i := 645) (by decide +kernel), List.mem_of_getElem? (i := 766) (by decide +kernel), List.mem_of_getElem? (i := 767) (by decide +kernel)⟩
theorem lw_p42 : lw_okq (⟨"DunningDeskModel", "adds", "(IICIII)I"⟩, 19) := ⟨⟨by decide +kernel, by decide +kernel⟩, List.mem_of_getElem? (i := 645) (by decide +kernel), List.mem_of_getElem? (i := 770) (by decide +kernel), List.mem_of_getElem? (i := 771) (by decide +kernel)⟩
theorem lw_p43 : lw_okq (⟨"DunningDeskModel", "noMessage", "(I)Z"⟩, 19) := ⟨⟨by decide +kernel, by decide +kernel⟩, List.mem_of_getElem? (i := 645) (by decide +kernel), List.mem_of_getElem? (i := 782) (by decide +kernel), List.mem_of_getElem? (i := 783) (by decide +kernel)⟩
theorem lw_p44 : lw_okq (⟨"DunningDeskModel", "readyIn", "(I)I"⟩, 19) := ⟨⟨by decide +kernel, by decide +kernel⟩, List.mem_of_getElem? (i := 645) (by decide +kernel), List.mem_of_getElem? (i := 802) (by decide +kernel), List.mem_of_getElem? (i := 803) (by decide +kernel)⟩
theorem lw_p45 : lw_okq (⟨"DunningDeskModel", "isReady", "(II)Z"⟩, 19) := ⟨⟨by decide +kernel, by decide +kernel⟩, List.mem_of_getElem? (i := 645) (by decide +kernel), List.mem_of_getElem? (i := 806) (by decide +kernel), List.mem_of_getElem? (i := 807) (by decide +kernel)⟩
theorem lw_p46 : lw_okq (⟨"DunningDeskModel", "place", "(II)I"⟩, 19) := ⟨⟨by decide +kernel, by decide +kernel⟩, List.mem_of_getElem? (i := 645) (by decide +kernel), List.mem_of_getElem? (i := 814) (by decide +kernel), List.mem_of_getElem? (i := 815) (by decide +kernel)⟩
theorem lw_p47 : lw_okq (⟨"DunningDeskModel", "taken", "(I)I"⟩, 19) := ⟨⟨by decide +kernel, by decide +kernel⟩, List.mem_of_getElem? (i := 645) (by decide +kernel), List.mem_of_getElem? (i := 822) (by decide +kernel), List.mem_of_getElem? (i := 823) (by decide +kernel)⟩
def lw_privs_3 : List (MethodName × Nat) := [(⟨"DunningDesk$MessageBook", "putBackTakenUntil", "(II)V"⟩, 13), (⟨"DunningDesk", "postReminders", "()I"⟩, 3), (⟨"DunningDesk", "isReminderDue", "(I)Z"⟩, 3), (⟨"DunningDesk$CaseBook", "countOpen", "()I"⟩, 7), (⟨"DunningDesk$CaseBook", "sumOfAmounts", "()I"⟩, 7), (⟨"DunningDeskModel", "noCase", "(I)Z"⟩, 19), (⟨"DunningDeskModel", "mayRemind", "(I)Z"⟩, 19), (⟨"DunningDeskModel", "find", "(I)I"⟩, 19), (⟨"DunningDeskModel", "remindsFrom", "(I)I"⟩, 19), (⟨"DunningDeskModel", "raises", "(I)I"⟩, 19), (⟨"DunningDeskModel", "adds", "(IICIII)I"⟩, 19), (⟨"DunningDeskModel", "noMessage", "(I)Z"⟩, 19), (⟨"DunningDeskModel", "readyIn", "(I)I"⟩, 19), (⟨"DunningDeskModel", "isReady", "(II)Z"⟩, 19), (⟨"DunningDeskModel", "place", "(II)I"⟩, 19), (⟨"DunningDeskModel", "taken", "(I)I"⟩, 19)]
theorem lw_r3 : ∀ q ∈ lw_privs_3, lw_okq q := List.forall_mem_cons.mpr ⟨lw_p32, List.forall_mem_cons.mpr ⟨lw_p33, List.forall_mem_cons.mpr ⟨lw_p34, List.forall_mem_cons.mpr ⟨lw_p35, List.forall_mem_cons.mpr ⟨lw_p36, List.forall_mem_cons.mpr ⟨lw_p37, List.forall_mem_cons.mpr ⟨lw_p38, List.forall_mem_cons.mpr ⟨lw_p39, List.forall_mem_cons.mpr ⟨lw_p40, List.forall_mem_cons.mpr ⟨lw_p41, List.forall_mem_cons.mpr ⟨lw_p42, List.forall_mem_cons.mpr ⟨lw_p43, List.forall_mem_cons.mpr ⟨lw_p44, List.forall_mem_cons.mpr ⟨lw_p45, List.forall_mem_cons.mpr ⟨lw_p46, List.forall_mem_cons.mpr ⟨lw_p47, fun _ h => absurd h List.not_mem_nil⟩⟩⟩⟩⟩⟩⟩⟩⟩⟩⟩⟩⟩⟩⟩⟩
theorem lw_p48 : lw_okq (⟨"DunningDeskModel", "back", "(I)I"⟩, 19) := ⟨⟨by decide +kernel, by decide +kernel⟩, List.mem_of_getElem? (i := 645) (by decide +kernel), List.mem_of_getElem? (i := 834) (by decide +kernel), List.mem_of_getElem? (i := 835) (by decide +kernel)⟩
theorem lw_p49 : lw_okq (⟨"DunningDeskModel", "in", "(C)I"⟩, 19) := ⟨⟨by decide +kernel, by decide +kernel⟩, List.mem_of_getElem? (i := 645) (by decide +kernel), List.mem_of_getElem? (i := 842) (by decide +kernel), List.mem_of_getElem? (i := 843) (by decide +kernel)⟩
theorem lw_p50 : lw_okq (⟨"DunningDeskModel", "passes", "()I"⟩, 19) := ⟨⟨by decide +kernel, by decide +kernel⟩, List.mem_of_getElem? (i := 645) (by decide +kernel), List.mem_of_getElem? (i := 858) (by decide +kernel), List.mem_of_getElem? (i := 859) (by decide +kernel)⟩
def lw_privs_4 : List (MethodName × Nat) := [(⟨"DunningDeskModel", "back", "(I)I"⟩, 19), (⟨"DunningDeskModel", "in", "(C)I"⟩, 19), (⟨"DunningDeskModel", "passes", "()I"⟩, 19)]
theorem lw_r4 : ∀ q ∈ lw_privs_4, lw_okq q := List.forall_mem_cons.mpr ⟨lw_p48, List.forall_mem_cons.mpr ⟨lw_p49, List.forall_mem_cons.mpr ⟨lw_p50, fun _ h => absurd h List.not_mem_nil⟩⟩⟩
def lw_privs : List (MethodName × Nat) := lw_privs_1 ++ (lw_privs_2 ++ (lw_privs_3 ++ (lw_privs_4)))
def lw_tbl : List Cond := k2_sels lw_privs ++ tables_1
theorem lw_privs_ok : ∀ q ∈ lw_privs, lw_okq q := by
  show ∀ q ∈ lw_privs_1 ++ (lw_privs_2 ++ (lw_privs_3 ++ (lw_privs_4))), lw_okq q
  exact List.forall_mem_append.mpr ⟨lw_r1, List.forall_mem_append.mpr ⟨lw_r2, List.forall_mem_append.mpr ⟨lw_r3, lw_r4⟩⟩⟩
/-- the streams that the claim lets the run draw from -/
abbrev lw_cs : List Choice := [Jvm.Choice.named "NaN.bits"]
theorem lw_bits : nanBits ∈ lw_cs := by first | decide | exact List.mem_cons_self | simp [lw_cs, nanBits]
-- ===== end of PART A; then your names; then what follows =====
end
section
/-! ===== BEGIN words of one list among another's, by their places ===== -/
theorem goodIn_r {big : List Cond} (ws : List Cond) (ps : List Nat) (hp : ws = ps.filterMap (fun i => big[i]?)) (h : ws.all goodWord = true) : GoodIn big ws := by
  intro w hw
  have h1 := List.all_eq_true.mp h w hw
  rw [hp] at hw
  obtain ⟨i, -, hi⟩ := List.mem_filterMap.mp hw
  have hm : w ∈ big := by first | exact List.mem_of_getElem? hi | exact List.getElem?_mem hi
  exact ⟨hm, good_of_word h1⟩
theorem goodIn_app {big a b : List Cond} (ha : GoodIn big a) (hb : GoodIn big b) : GoodIn big (a ++ b) := fun w h => (List.mem_append.mp h).elim (ha w) (hb w)
theorem goodIn_ca {big a b : List Cond} {c : Cond} (ha : GoodIn big (c :: a)) (hb : GoodIn big b) : GoodIn big (c :: (a ++ b)) := fun w h => (List.mem_cons.mp h).elim (fun e => ha w (List.mem_cons.mpr (Or.inl e))) (fun h => (List.mem_append.mp h).elim (fun h => ha w (List.mem_cons.mpr (Or.inr h))) (hb w))
theorem goodIn_sub {big ws : List Cond} (hm : ∀ w ∈ ws, w ∈ big) (h : ws.all goodWord = true) : GoodIn big ws := fun w hw => ⟨hm w hw, good_of_word (List.all_eq_true.mp h w hw)⟩
/-! ===== END ===== -/

/-! ===== BEGIN exceptions that leave a method, and their catching by the caller (launches without stack traces) ===== -/
section VXA
/-! The laws vx_back, vx_callV, vx_callS, vx_callSW, vx_throw0, vx_throwS follow proofs of the library, with one case more: JvmDerived/Free/Laws.lean (Back.of_free), Shelf42/LK1.lean (callV, callS), Shelf/KitTraced.lean (throwNew0V, throwNewS). -/
/-- where a method has thrown q: the class by its name, the cell, what was written, the world -/
def vx_T (XC : String → State → State → Prop) (st : State) (q : Addr) (t : State) (mc ms : Nat) (free : Addr → Prop) : Prop :=
  ∃ (E : String) (ce : Cell) (L : List Loc), XC E st t ∧ t.heap[q]? = some ce ∧ ce.vm = .none ∧ st.vm.findClass E = some ce.cls ∧ st.WarmedH t.vm ∧ st.sameButNew ({ t with vm := st.vm } : State) L mc ms ∧ ∀ z ∈ L, free z.base
def vx_Q (Qc : Array Value → State → Outcome → State → Prop) (XC : String → State → State → Prop) (mc ms : Nat) (free : Addr → Prop) : Array Value → State → Outcome → State → Prop := fun a st o t =>
  (Qc a st o t ∧ ∃ L, FrameEnd st o t L mc ms ∧ ∀ q ∈ L, free q.base) ∨ ∃ q, o = .threw q ∧ vx_T XC st q t mc ms free
/-- a callee that returns or throws -/
def vx_Met (l : Launch) (y : MethodName) (ws : List Cond) (rm : Room) (Pc : Array Value → State → Prop) (Qc : Array Value → State → Outcome → State → Prop) (XC : String → State → State → Prop) (mc ms : Nat) (free : Addr → Prop) : Prop :=
  MetFree l y (headSpec ws rm) Pc (fun _ _ _ _ _ => True) (vx_Q Qc XC mc ms free)
def vx_Post (XC : String → State → State → Prop) (mc ms : Nat) (free : Addr → Prop) : Pt → Array Value → Addr → Pt → Prop := fun A a q B =>
  ∃ (g : JFrame) (mk : MethodId) (t : State) (L : List Loc) (E : String) (ce : Cell), B.U.heap = t.heap ∧ B.U.vm = t.vm ∧ XC E (A.U.calling g mk a) t ∧ t.heap[q]? = some ce ∧ ce.vm = .none ∧ A.U.vm.findClass E = some ce.cls ∧ B.locs = A.locs ++ L ∧ (∀ z ∈ L, free z.base) ∧ B.cells = A.cells + mc ∧ B.slots = A.slots + ms
def vx_Back (l : Launch) (R : Room) (p : Program) (e : Env) (below : List Frame) (s : State) (sargs : Array Value) (y : MethodName) (len W9 : Nat)
    (Pre : Pt → Array Value → Prop) (Post : Pt → Array Value → Option Value → Pt → Prop) (PostX : Pt → Array Value → Addr → Pt → Prop) : Prop :=
  ∀ (m : MethodId) (meth : Method) (c : Code) (A : Pt) (g : JFrame) (ig : Instr) (mk : MethodId) (a : Array Value),
    Stand p l e R s m sargs below meth c A.U A.locs A.cells A.slots → g.method = m → g.locals.size = c.maxLocals → decode c.code g.pc = .ok (ig, len) →
    2 * g.monitorRoom + (g.stack.map fun v => v.category).sum ≤ W9 → A.U.methodNamed? y = some mk → Pre A a →
    (∃ (v : Option Value) (B : Pt), Stand p l e R s m sargs below meth c B.U B.locs B.cells B.slots ∧ Post A a v B ∧
      Steps p.tables e below (doInvoke e (A.U.setTop g) [] mk a).1 (B.U.setTop { g with pc := g.pc + len, stack := v.toList ++ g.stack })) ∨
    (∃ (q : Addr) (B : Pt), Stand p l e R s m sargs below meth c B.U B.locs B.cells B.slots ∧ PostX A a q B ∧
      Steps p.tables e below (doInvoke e (A.U.setTop g) [] mk a).1 ((B.U.setTop g).pushFrame (.throwing q)))
section Payer
variable {l : Launch} {R : Room} {p : Program} {e : Env} {below : List Frame} {s : State} {sargs : Array Value} {y : MethodName} {len W9 : Nat}
theorem vx_back {ws : List Cond} {rm : Room} {Pc : Array Value → State → Prop} {Qc : Array Value → State → Outcome → State → Prop} {XC : String → State → State → Prop} {mc ms : Nat} {free : Addr → Prop} {bytes : ByteArray} {maxL : Nat} {ret : Option FieldType}
    (hM : vx_Met l y ws rm Pc Qc XC mc ms free) (hblind : FrameBlind Pc) (hrc : rm.cells = mc) (hrs : rm.slots = ms)
    (hframes : rm.frames + 1 ≤ R.frames) (hlocals : W9 + (maxL + 11) + rm.locals ≤ R.locals)
    (hws : ∀ w ∈ ws, ∀ a' U, s.WarmedH U.vm → w.before a' U = true) (hcode : Cond.code y bytes maxL ret ∈ ws) (hinit : ∀ a' U, s.WarmedH U.vm → (Cond.initialized y.cls).before a' U = true) :
    vx_Back l R p e below s sargs y len W9 (PreOf R mc ms Pc) (PostOf Qc mc ms free) (vx_Post XC mc ms free) := by
  intro m meth c A g ig mk a X hg hsize hdg hW hn hp
  have h1 : (headSpec ws rm).pre.before a A.U = true := atoms_intro fun w hw => hws w hw _ _ X.warmed
  have h2 : (Cond.code y bytes maxL ret).before a A.U = true := hws _ hcode _ _ X.warmed
  have h3 : (Cond.initialized y.cls).before a A.U = true := hinit _ _ X.warmed
  have h4 : A.cells + (headSpec ws rm).room.cells ≤ R.cells := by rw [show (headSpec ws rm).room.cells = mc from hrc]; exact hp.1
  have h5 : A.slots + (headSpec ws rm).room.slots ≤ R.slots := by rw [show (headSpec ws rm).room.slots = ms from hrs]; exact hp.2.1
  have hPc : Pc a (A.U.calling g mk a) := hblind _ _ _ _ hp.2.2
  obtain ⟨U, Ls, c0, s0⟩ := A
  dsimp only [Pt.U, Pt.locs, Pt.cells, Pt.slots] at h1 h2 h3 h4 h5 X hn hPc ⊢
  obtain ⟨methY, cY, hmY, hcY, -, hlY, -, -, -, -⟩ := Cond.code_spec hn h2
  obtain ⟨kY, hkY, -⟩ := className_of_methodNamed hn
  have hinitY : kY.init = .initialized := Cond.initialized_spec (findClass_of_methodNamed hn) hkY h3
  have h : At U g.method c below := by rw [hg]; exact X.here
  have hlocals9 : W9 + (maxL + 11) + (headSpec ws rm).room.locals ≤ R.locals := hlocals
  have happ : (headSpec ws rm).appliesLoose y e.platform (U.calling g mk a) = true :=
    Spec.appliesLoose_calling (g := g) h hdg hn hkY hinitY
      (X.room_calling (g := g) (R' := (headSpec ws rm).room) hsize hmY hcY hframes (by rw [hlY]; omega) h4 h5) h1
  obtain ⟨mid, hmid⟩ := h.above
  have hfr : (U.setTop g).frames = (.java g :: mid) ++ below := by rw [State.frames_setTop' g h.top, hmid]; rfl
  obtain ⟨o, s₂, hsteps, -, hend, hq⟩ := Steps.callFree hM p X.admits X.cas X.clock (acts := []) hfr happ hPc trivial
  have hq' : vx_Q Qc XC mc ms free a (U.calling g mk a) o s₂ := hq
  rw [State.frames_setTop' g h.top] at hend
  obtain ⟨g₀, hg0⟩ := Option.isSome_iff_exists.mp h.top
  obtain ⟨r, hr⟩ := State.topJava?_eq_some.mp hg0
  have hr' : (({ U with heap := s₂.heap, slotsUsed := s₂.slotsUsed } : State).setVm s₂.vm).frames = .java g₀ :: r := hr
  rcases hq' with ⟨hqc, L, hfe, hL⟩ | ⟨q, rfl, E, ce, L, hx, hce, hcv, hcl, hW₂, hsm, hL⟩
  · obtain ⟨⟨v, rfl⟩, hW₂, e2, q2, q3, q4, q5, q6⟩ := id hfe
    have e3 : s₂ = ({ (U.calling g mk a).setFrames s₂.frames with heap := s₂.heap, slotsUsed := s₂.slotsUsed } : State).setVm s₂.vm := by
      have : s₂ = ({ s₂ with vm := (U.calling g mk a).vm } : State).setVm s₂.vm := rfl
      rw [e2] at this
      exact this
    obtain ⟨c₂, i₂, len₂, hc₂, hd₂, hf₂⟩ := hend
    have hW' : U.WarmedH s₂.vm := hW₂
    have hcc : c₂ = c := by
      have h1 : s₂.code? g.method = U.code? g.method := by
        rw [State.code?_eq, State.code?_eq, hW'.alike.method?]
      exact Option.some.inj (hc₂.symm.trans (h1.trans h.code))
    subst hcc
    have hlen : len₂ = len := by rw [hdg] at hd₂; cases hd₂; rfl
    subst hlen
    have hs₂ : s₂ = (({ U with heap := s₂.heap, slotsUsed := s₂.slotsUsed } : State).setVm s₂.vm).setTop { g with pc := g.pc + len₂, stack := v.toList ++ g.stack } := by
      refine e3.trans ?_
      rw [hf₂, State.calling_eq h.top, State.setFrames_setFrames, State.setTop_of_frames _ hr', hr]
      rfl
    have hsame : U.sameButNew ({ U with heap := s₂.heap, slotsUsed := s₂.slotsUsed } : State) L mc ms := by
      refine ⟨?_, q2, q3, q4, q5, q6⟩
      obtain ⟨t, ht, -⟩ := State.frames_cons hr
      show ({ U with heap := s₂.heap, slotsUsed := s₂.slotsUsed } : State) = { U.setFrames U.frames with heap := s₂.heap, slotsUsed := s₂.slotsUsed }
      rw [State.setFrames_self ht]
    subst hg
    refine Or.inl ⟨v, ⟨(({ U with heap := s₂.heap, slotsUsed := s₂.slotsUsed } : State).setVm s₂.vm), Ls ++ L, c0 + mc, s0 + ms⟩,
      ⟨X.admits, X.cas, X.clock, X.frames, X.room, X.hears, X.method, X.code, (X.here.setHeapUsed s₂.heap s₂.slotsUsed).setVm hW'.alike, X.tail, State.WarmedH.trans X.warmed hW', X.limits, X.bytes, X.same.trans (hsame.setVm s.vm)⟩,
      ⟨g, mk, s₂, L, rfl, rfl, hqc, rfl, hL, rfl, rfl⟩, ?_⟩
    show Steps p.tables e below _ ((({ U with heap := s₂.heap, slotsUsed := s₂.slotsUsed } : State).setVm s₂.vm).setTop { g with pc := g.pc + len₂, stack := v.toList ++ g.stack })
    rw [← hs₂]
    exact hsteps
  · obtain ⟨e2, q2, q3, q4, q5, q6⟩ := id hsm
    have e3 : s₂ = ({ (U.calling g mk a).setFrames s₂.frames with heap := s₂.heap, slotsUsed := s₂.slotsUsed } : State).setVm s₂.vm := by
      have : s₂ = ({ s₂ with vm := (U.calling g mk a).vm } : State).setVm s₂.vm := rfl
      rw [e2] at this
      exact this
    have hf₂ : s₂.frames = .throwing q :: .java g :: U.frames.tail := hend
    have hW' : U.WarmedH s₂.vm := hW₂
    have hs₂ : s₂ = ((({ U with heap := s₂.heap, slotsUsed := s₂.slotsUsed } : State).setVm s₂.vm).setTop g).pushFrame (.throwing q) := by
      refine e3.trans ?_
      rw [hf₂, State.calling_eq h.top, State.setFrames_setFrames, State.pushFrame, State.frames_setTop _ hr', State.setTop_of_frames _ hr', State.setFrames_setFrames, hr]
      rfl
    have hsame : U.sameButNew ({ U with heap := s₂.heap, slotsUsed := s₂.slotsUsed } : State) L mc ms := by
      refine ⟨?_, q2, q3, q4, q5, q6⟩
      obtain ⟨t, ht, -⟩ := State.frames_cons hr
      show ({ U with heap := s₂.heap, slotsUsed := s₂.slotsUsed } : State) = { U.setFrames U.frames with heap := s₂.heap, slotsUsed := s₂.slotsUsed }
      rw [State.setFrames_self ht]
    subst hg
    refine Or.inr ⟨q, ⟨(({ U with heap := s₂.heap, slotsUsed := s₂.slotsUsed } : State).setVm s₂.vm), Ls ++ L, c0 + mc, s0 + ms⟩,
      ⟨X.admits, X.cas, X.clock, X.frames, X.room, X.hears, X.method, X.code, (X.here.setHeapUsed s₂.heap s₂.slotsUsed).setVm hW'.alike, X.tail, State.WarmedH.trans X.warmed hW', X.limits, X.bytes, X.same.trans (hsame.setVm s.vm)⟩,
      ⟨g, mk, s₂, L, E, ce, rfl, rfl, hx, hce, hcv, hcl, rfl, hL, rfl, rfl⟩, ?_⟩
    show Steps p.tables e below _ (((({ U with heap := s₂.heap, slotsUsed := s₂.slotsUsed } : State).setVm s₂.vm).setTop g).pushFrame (.throwing q))
    rw [← hs₂]
    exact hsteps
end Payer
section Calls
variable {p : Program} {l : Launch} {e : Env} {R : Room} {s : State} {m : MethodId} {args : Array Value} {below : List Frame} {meth : Method} {c : Code} {T : State} {locs : List Loc} {cells slots : Nat}
theorem vx_callV (X : Stand p l e R s m args below meth c T locs cells slots) (hexec : p.tables.exec = Jvm.exec) {own C : String} {index : Nat} {y : MethodName} {bytes : ByteArray} {maxL : Nat} {ret : Option FieldType}
    (hown : s.vm.findClass own = some m.cls) (hlink : (Cond.methodLink own index y).before args s = true) (hinst : (Cond.instanceMethod y).before args s = true) (hsel : (Cond.selects C y y).before args s = true)
    (hcode : (Cond.code y bytes maxL ret).before args s = true) (hy : y.cls ≠ "java/lang/invoke/MethodHandle" ∧ y.cls ≠ "java/lang/invoke/VarHandle")
    {W9 : Nat} {Pre : Pt → Array Value → Prop} {Post : Pt → Array Value → Option Value → Pt → Prop} {PostX : Pt → Array Value → Addr → Pt → Prop} (hK : vx_Back l R p e below s args y 3 W9 Pre Post PostX)
    {b : Addr} {cellB : Cell} (hcell : T.heap[b]? = some cellB) (hobj : cellB.vm.isStatics = false) (hcls : s.vm.findClass C = some cellB.cls)
    {g : JFrame} (hg : g.method = m) (hsize : g.locals.size = c.maxLocals) {argsL rest : List Value} (hlen : ∀ sig, parseMethodDescriptor y.desc = some sig → argsL.length = sig.parameters.length)
    (hstack : g.stack = argsL.reverse ++ .ref b :: rest) (hW : 2 * g.monitorRoom + (rest.map fun v => v.category).sum ≤ W9) (hdg : decode c.code g.pc = .ok (.invokevirtual index, 3))
    (hpre : ∀ vm₁, s.WarmedH vm₁ → Pre ⟨T.setVm vm₁, locs, cells, slots⟩ (Value.ref b :: argsL).toArray) :
    (∃ (v : Option Value) (vm₁ : Vm) (B : Pt), s.WarmedH vm₁ ∧ Stand p l e R s m args below meth c B.U B.locs B.cells B.slots ∧ Post ⟨T.setVm vm₁, locs, cells, slots⟩ (Value.ref b :: argsL).toArray v B ∧
      ∀ target, Steps p.tables e below (B.U.setTop { g with pc := g.pc + 3, stack := v.toList ++ rest }) target → Steps p.tables e below (T.setTop g) target) ∨
    (∃ (q : Addr) (vm₁ : Vm) (B : Pt), s.WarmedH vm₁ ∧ Stand p l e R s m args below meth c B.U B.locs B.cells B.slots ∧ PostX ⟨T.setVm vm₁, locs, cells, slots⟩ (Value.ref b :: argsL).toArray q B ∧
      Steps p.tables e below (T.setTop g) ((B.U.setTop { g with stack := rest }).pushFrame (.throwing q))) := by
  obtain ⟨mk, methM, hnamed, hmethM, hstM, habM⟩ := Cond.instanceMethod_spec hinst
  obtain ⟨methM', cM, hmethM', -, -, -, -, -, -, hsigM⟩ := Cond.code_spec hnamed hcode
  cases hmethM.symm.trans hmethM'
  obtain ⟨c2, r2, m2, q1, q2, q3, q4, kP, hkP, hkPi⟩ := Cond.selects_spec hsel
  cases hcls.symm.trans q1
  cases (State.methodFound?_of_named hnamed hy).symm.trans q2
  cases hnamed.symm.trans q3
  have hselP : selectMethod e.platform s.vm cellB.cls mk = .method mk := by rw [Launch.admits_selectMethod X.admits]; exact q4
  obtain ⟨vm₁, X₁, hstep₁⟩ := X.invokevirtual hexec hown hlink hnamed hmethM hstM hkP hkPi hy (a := b) (cell := cellB) hcell
    (fun z h => by rw [h] at hobj; cases hobj) hselP hmethM habM hkP hkPi (g := g) hg (argsL := argsL) (rest := rest) (hlen _ hsigM) hstack hdg
  rcases hK m meth c ⟨T.setVm vm₁, locs, cells, slots⟩ { g with stack := rest } (.invokevirtual index) mk (Value.ref b :: argsL).toArray X₁ hg hsize hdg hW (X₁.named hnamed) (hpre vm₁ X₁.warmed) with ⟨v, B, X', hpost, hsteps⟩ | ⟨q, B, X', hpost, hsteps⟩
  · exact Or.inl ⟨v, vm₁, B, X₁.warmed, X', hpost, fun target h => hstep₁ _ fun acts => by rw [doInvoke_state]; exact hsteps.trans h⟩
  · exact Or.inr ⟨q, vm₁, B, X₁.warmed, X', hpost, hstep₁ _ fun acts => by rw [doInvoke_state]; exact hsteps⟩
theorem vx_callS (X : Stand p l e R s m args below meth c T locs cells slots) (hexec : p.tables.exec = Jvm.exec) {own : String} {index : Nat} {y : MethodName} {bytes : ByteArray} {maxL : Nat} {ret : Option FieldType}
    (hown : s.vm.findClass own = some m.cls) (hlink : (Cond.methodLink own index y).before args s = true) (hstat : (Cond.static y).before args s = true) (hinit : (Cond.initialized y.cls).before args s = true)
    (hcode : (Cond.code y bytes maxL ret).before args s = true) (hy : y.cls ≠ "java/lang/invoke/MethodHandle" ∧ y.cls ≠ "java/lang/invoke/VarHandle")
    {W9 : Nat} {Pre : Pt → Array Value → Prop} {Post : Pt → Array Value → Option Value → Pt → Prop} {PostX : Pt → Array Value → Addr → Pt → Prop} (hK : vx_Back l R p e below s args y 3 W9 Pre Post PostX)
    {g : JFrame} (hg : g.method = m) (hsize : g.locals.size = c.maxLocals) {argsL rest : List Value} (hlen : ∀ sig, parseMethodDescriptor y.desc = some sig → argsL.length = sig.parameters.length)
    (hstack : g.stack = argsL.reverse ++ rest) (hW : 2 * g.monitorRoom + (rest.map fun v => v.category).sum ≤ W9) (hdg : decode c.code g.pc = .ok (.invokestatic index, 3))
    (hpre : ∀ vm₁, s.WarmedH vm₁ → Pre ⟨T.setVm vm₁, locs, cells, slots⟩ argsL.toArray) :
    (∃ (v : Option Value) (vm₁ : Vm) (B : Pt), s.WarmedH vm₁ ∧ Stand p l e R s m args below meth c B.U B.locs B.cells B.slots ∧ Post ⟨T.setVm vm₁, locs, cells, slots⟩ argsL.toArray v B ∧
      ∀ target, Steps p.tables e below (B.U.setTop { g with pc := g.pc + 3, stack := v.toList ++ rest }) target → Steps p.tables e below (T.setTop g) target) ∨
    (∃ (q : Addr) (vm₁ : Vm) (B : Pt), s.WarmedH vm₁ ∧ Stand p l e R s m args below meth c B.U B.locs B.cells B.slots ∧ PostX ⟨T.setVm vm₁, locs, cells, slots⟩ argsL.toArray q B ∧
      Steps p.tables e below (T.setTop g) ((B.U.setTop { g with stack := rest }).pushFrame (.throwing q))) := by
  obtain ⟨mk, hnamed⟩ := Cond.code_named hcode
  obtain ⟨methM, cM, hmethM, -, -, -, -, -, -, hsigM⟩ := Cond.code_spec hnamed hcode
  have hstatic : methM.isStatic = true := Cond.static_spec hnamed hmethM hstat
  obtain ⟨kP, hkP, -⟩ := className_of_methodNamed hnamed
  have hinitP : kP.init = .initialized := Cond.initialized_spec (findClass_of_methodNamed hnamed) hkP hinit
  obtain ⟨vm₁, X₁, hstep₁⟩ := X.invokestatic hexec hown hlink hnamed hmethM hstatic hkP hinitP hy (g := g) hg (argsL := argsL) (rest := rest) (hlen _ hsigM) hstack hdg
  rcases hK m meth c ⟨T.setVm vm₁, locs, cells, slots⟩ { g with stack := rest } (.invokestatic index) mk argsL.toArray X₁ hg hsize hdg hW (X₁.named hnamed) (hpre vm₁ X₁.warmed) with ⟨v, B, X', hpost, hsteps⟩ | ⟨q, B, X', hpost, hsteps⟩
  · exact Or.inl ⟨v, vm₁, B, X₁.warmed, X', hpost, fun target h => hstep₁ _ fun acts => by rw [doInvoke_state]; exact hsteps.trans h⟩
  · exact Or.inr ⟨q, vm₁, B, X₁.warmed, X', hpost, hstep₁ _ fun acts => by rw [doInvoke_state]; exact hsteps⟩
end Calls
theorem vx_cls {s : State} {T : State} {vm₁ : Vm} {E : String} {k : ClassId} (hW : s.WarmedH vm₁) (h : (T.setVm vm₁).vm.findClass E = some k) : s.vm.findClass E = some k := by
  have h1 : vm₁.findClass E = some k := h
  rw [hW.alike.findClass] at h1
  exact h1
/-- the method's frame g, with q thrown over it -/
def vx_W (p : Program) (l : Launch) (e : Env) (R : Room) (s : State) (m : MethodId) (args : Array Value) (below : List Frame) (meth : Method) (c : Code) (H : Heap) (locs : List Loc) (cells slots : Nat) (Q : State → Prop) (g : JFrame) (q : Addr) : Prop :=
  ∀ T : State, T.heap = H → Stand p l e R s m args below meth c T locs cells slots → ∃ t, Steps p.tables e below ((T.setTop g).pushFrame (.throwing q)) t ∧ Q t
def vx_Run (p : Program) (l : Launch) (e : Env) (R : Room) (s : State) (m : MethodId) (args : Array Value) (below : List Frame) (meth : Method) (c : Code) (H : Heap) (locs : List Loc) (cells slots mc ms : Nat) (g : JFrame) (rest : List Value) (Qa : State → Outcome → State → Prop) (XC : String → State → State → Prop) (free : Addr → Prop) : Prop :=
  ∀ T : State, T.heap = H → Stand p l e R s m args below meth c T locs cells slots →
    (∃ (v : Option Value) (st₀ t T' : State) (L : List Loc), st₀.heap = H ∧ Stand p l e R s m args below meth c T' (locs ++ L) (cells + mc) (slots + ms) ∧ (∀ q ∈ L, free q.base) ∧ T'.heap = t.heap ∧ T'.vm = t.vm ∧ Qa st₀ (.returned v) t ∧
      Goes p e below T g T' { g with pc := g.pc + 3, stack := v.toList ++ rest }) ∨
    (∃ (q : Addr) (st₀ t T' : State) (L : List Loc) (E : String) (ce : Cell), st₀.heap = H ∧ Stand p l e R s m args below meth c T' (locs ++ L) (cells + mc) (slots + ms) ∧ (∀ z ∈ L, free z.base) ∧ T'.heap = t.heap ∧ T'.vm = t.vm ∧ XC E st₀ t ∧ t.heap[q]? = some ce ∧ ce.vm = .none ∧ s.vm.findClass E = some ce.cls ∧
      Steps p.tables e below (T.setTop g) ((T'.setTop { g with stack := rest }).pushFrame (.throwing q)))
def vx_X {S : Type} (px : S → Prop) (B : String → S → State → Prop) (A : Nat → Prop) : String → State → State → Prop := fun E st t => ∃ u : S, px u ∧ B E u t ∧ va_F A st t
section Runs
variable {p : Program} {l : Launch} {e : Env} {R : Room} {s : State} {m : MethodId} {args : Array Value} {below : List Frame} {meth : Method} {c : Code} {H : Heap} {locs : List Loc} {cells slots : Nat}
variable {y : MethodName} {bytes cc : ByteArray} {maxL nL mc ms n index : Nat} {ret : Option FieldType} {ws : List Cond} {rm : Room} {Pc : Array Value → State → Prop} {Qc : Array Value → State → Outcome → State → Prop} {XC : String → State → State → Prop} {free : Addr → Prop} {Ts : List Cond} {own C : String} {b : Addr} {As rest : List Value} {g : JFrame}
theorem vx_callBack (cb : CallB R s args own index y bytes maxL ret ws rm mc ms n) (hM : vx_Met l y ws rm Pc Qc XC mc ms free) (hbl : FrameBlind Pc) : vx_Back l R p e below s args y 3 8 (PreOf R mc ms Pc) (PostOf Qc mc ms free) (vx_Post XC mc ms free) := by
  obtain ⟨hrc, hrs, hfr, hlo, hws, hcw, -, hini, -⟩ := cb
  exact vx_back (bytes := bytes) (maxL := maxL) (ret := ret) hM hbl hrc hrs hfr hlo hws hcw (fun a' U hW => word_at hW (Or.inl (by first | rfl | simp [Cond.onTables, Cond.keeps, Cond.steady])) hini)
theorem vx_runV (S : CallFix p m c cc nL s args Ts own) (hM : vx_Met l y ws rm Pc Qc XC mc ms free) (cw : CallW R s args own C index y bytes maxL ret ws rm mc ms n) (hp : PreV s H C b Pc As)
    (hg : g.method = m) (hn : As.length = n) (hsize : g.locals.size = nL) (hstack : g.stack = As.reverse ++ .ref b :: rest) (hW : 2 * g.monitorRoom + (rest.map fun v => v.category).sum ≤ 8) (hdg : decode cc g.pc = .ok (.invokevirtual index, 3)) (hf : cells + mc ≤ R.cells ∧ slots + ms ≤ R.slots) :
    vx_Run p l e R s m args below meth c H locs cells slots mc ms g rest (Qc (Value.ref b :: As).toArray) XC free := by
  have hK : vx_Back l R p e below s args y 3 8 (PreOf R mc ms Pc) (PostOf Qc mc ms free) (vx_Post XC mc ms free) := vx_callBack cw.1 hM hp.1
  obtain ⟨⟨-, -, -, -, -, -, hcode, -, hy, hlen, hl⟩, hin, hse⟩ := cw
  obtain ⟨hx, hb, hml, ho, -⟩ := S
  obtain ⟨-, ⟨cellB, hcB, hoB, hclB⟩, hPc⟩ := hp
  intro T hT X
  rcases vx_callV X hx (C := C) (bytes := bytes) (maxL := maxL) (ret := ret) ho hl hin hse hcode hy hK (by rw [hT]; exact hcB) hoB hclB hg (hsize.trans hml.symm) (argsL := As) (rest := rest) (fun sig h => hn.trans (hlen sig h)) hstack hW (by rw [hb]; exact hdg)
    (fun vm₁ hW₁ => ⟨hf.1, hf.2, hPc (T.setVm vm₁) hT hW₁⟩) with ⟨v, vm₁, ⟨U', l2, c2, s2⟩, hW₁, X', ⟨g', mk, t, L, e1, e2, hq, h1, hL, h2, h3⟩, st⟩ | ⟨q, vm₁, ⟨U', l2, c2, s2⟩, hW₁, X', ⟨g', mk, t, L, E, ce, e1, e2, hq, hce, hcv, hcl, h1, hL, h2, h3⟩, st⟩
  · dsimp only [Pt.U, Pt.locs, Pt.cells, Pt.slots] at X' e1 e2 h1 h2 h3 st
    subst h1; subst h2; subst h3
    exact Or.inl ⟨v, (T.setVm vm₁).calling g' mk (Value.ref b :: As).toArray, t, U', L, hT, X', hL, e1, e2, hq, st⟩
  · dsimp only [Pt.U, Pt.locs, Pt.cells, Pt.slots] at X' e1 e2 h1 h2 h3 st hcl
    subst h1; subst h2; subst h3
    exact Or.inr ⟨q, (T.setVm vm₁).calling g' mk (Value.ref b :: As).toArray, t, U', L, E, ce, hT, X', hL, e1, e2, hq, hce, hcv, vx_cls hW₁ hcl, st⟩
theorem vx_runS (S : CallFix p m c cc nL s args Ts own) (hM : vx_Met l y ws rm Pc Qc XC mc ms free) (cw : CallB R s args own index y bytes maxL ret ws rm mc ms n ∧ (Cond.static y).before args s = true) (hp : PreS s H Pc As)
    (hg : g.method = m) (hn : As.length = n) (hsize : g.locals.size = nL) (hstack : g.stack = As.reverse ++ rest) (hW : 2 * g.monitorRoom + (rest.map fun v => v.category).sum ≤ 8) (hdg : decode cc g.pc = .ok (.invokestatic index, 3)) (hf : cells + mc ≤ R.cells ∧ slots + ms ≤ R.slots) :
    vx_Run p l e R s m args below meth c H locs cells slots mc ms g rest (Qc As.toArray) XC free := by
  have hK : vx_Back l R p e below s args y 3 8 (PreOf R mc ms Pc) (PostOf Qc mc ms free) (vx_Post XC mc ms free) := vx_callBack cw.1 hM hp.1
  obtain ⟨⟨-, -, -, -, -, -, hcode, hini, hy, hlen, hl⟩, hstt⟩ := cw
  obtain ⟨hx, hb, hml, ho, -⟩ := S
  intro T hT X
  rcases vx_callS X hx (bytes := bytes) (maxL := maxL) (ret := ret) ho hl hstt hini hcode hy hK hg (hsize.trans hml.symm) (argsL := As) (rest := rest) (fun sig h => hn.trans (hlen sig h)) hstack hW (by rw [hb]; exact hdg)
    (fun vm₁ hW₁ => ⟨hf.1, hf.2, hp.2 (T.setVm vm₁) hT hW₁⟩) with ⟨v, vm₁, ⟨U', l2, c2, s2⟩, hW₁, X', ⟨g', mk, t, L, e1, e2, hq, h1, hL, h2, h3⟩, st⟩ | ⟨q, vm₁, ⟨U', l2, c2, s2⟩, hW₁, X', ⟨g', mk, t, L, E, ce, e1, e2, hq, hce, hcv, hcl, h1, hL, h2, h3⟩, st⟩
  · dsimp only [Pt.U, Pt.locs, Pt.cells, Pt.slots] at X' e1 e2 h1 h2 h3 st
    subst h1; subst h2; subst h3
    exact Or.inl ⟨v, (T.setVm vm₁).calling g' mk As.toArray, t, U', L, hT, X', hL, e1, e2, hq, st⟩
  · dsimp only [Pt.U, Pt.locs, Pt.cells, Pt.slots] at X' e1 e2 h1 h2 h3 st hcl
    subst h1; subst h2; subst h3
    exact Or.inr ⟨q, (T.setVm vm₁).calling g' mk As.toArray, t, U', L, E, ce, hT, X', hL, e1, e2, hq, hce, hcv, vx_cls hW₁ hcl, st⟩
end Runs
section Rows
variable {p : Program} {l : Launch} {e : Env} {R : Room} {s : State} {m : MethodId} {args : Array Value} {below : List Frame} {meth : Method} {c : Code} {H : Heap} {locs : List Loc} {cells slots : Nat} {Q : State → Prop}
variable {mc ms : Nat} {free : Addr → Prop} {A0 A1 : Nat → Prop} {H0 : Heap} {a : Array Value} {pc : Nat} {ls : Array Slot} {st0 rest : List Value}
theorem vx_keep {st₀ t T' : State} {L : List Loc} (h0 : st₀.heap = H) (e1 : T'.heap = t.heap) (hS : va_S A0 H0 H locs) (hA : ∀ q, q < H.size → A1 q → A0 q) (hf : ∀ q, free q → A0 q) (hL : ∀ q ∈ L, free q.base) (hF : va_F A1 st₀ t) :
    H.size ≤ T'.heap.size ∧ (∀ q : Nat, q < H.size → ¬ A1 q → T'.heap[q]? = H[q]?) ∧ va_S A0 H0 T'.heap (locs ++ L) := by
  obtain ⟨hz, hk⟩ := hF
  rw [h0] at hz hk
  exact ⟨by rw [e1]; exact hz, fun q h1 h2 => by rw [e1]; exact hk q h1 h2,
    ⟨Nat.le_trans hS.1 (by rw [e1]; exact hz), fun q h1 h2 => by rw [e1, hk q (Nat.lt_of_lt_of_le h1 hS.1) (fun z => h2 (hA q (Nat.lt_of_lt_of_le h1 hS.1) z))]; exact hS.2.1 q h1 h2, fun q hq => by
      rcases List.mem_append.mp hq with h | h
      · exact hS.2.2 q h
      · exact hf _ (hL q h)⟩⟩
theorem vx_calli {S SX : Type} {post : Int32 → S → Prop} {px : SX → Prop} {B : S → State → Prop} {BX : String → SX → State → Prop} {AX : Nat → Prop} (hr : vx_Run p l e R s m args below meth c H locs cells slots mc ms (F0 m pc ls st0) rest (va_Qi post B A1 a) (vx_X px BX AX) free) (hS : va_S A0 H0 H locs) (hA : ∀ q, q < H.size → A1 q → A0 q) (hf : ∀ q, free q → A0 q) (hAX : ∀ q, q < H.size → AX q → A0 q)
    (kx : ∀ (E : String) (ce : Cell) (q9 : Addr) (u : SX) (t : State) (H1 : Heap) (locs1 : List Loc), t.heap = H1 → s.vm.Alike t.vm → px u → BX E u t → H.size ≤ H1.size → (∀ q : Nat, q < H.size → ¬ AX q → H1[q]? = H[q]?) → va_S A0 H0 H1 locs1 → H1[q9]? = some ce → ce.vm = .none → s.vm.findClass E = some ce.cls → vx_W p l e R s m args below meth c H1 locs1 (cells + mc) (slots + ms) Q (F0 m pc ls rest) q9)
    (kk : ∀ (r : Int32) (u : S) (t : State) (H1 : Heap) (locs1 : List Loc), t.heap = H1 → s.vm.Alike t.vm → post r u → B u t → H.size ≤ H1.size → (∀ q : Nat, q < H.size → ¬ A1 q → H1[q]? = H[q]?) → va_S A0 H0 H1 locs1 → W p l e R s m args below meth c H1 locs1 (cells + mc) (slots + ms) Q (F0 m (pc + 3) ls (.int r :: rest))) : W p l e R s m args below meth c H locs cells slots Q (F0 m pc ls st0) := by
  intro T hT X
  rcases hr T hT X with ⟨v, st₀, t, T', L, h0, X', hL, e1, e2, ⟨⟨r, u, hv, hp, hb⟩, hF⟩, st⟩ | ⟨q, st₀, t, T', L, E, ce, h0, X', hL, e1, e2, ⟨u, hp, hb, hF⟩, hce, hcv, hcl, st⟩
  · cases hv
    obtain ⟨k1, k2, k3⟩ := vx_keep h0 e1 hS hA hf hL hF
    obtain ⟨t2, a1, b1⟩ := kk r u t T'.heap (locs ++ L) e1.symm (by rw [← e2]; exact X'.warmed.alike) hp hb k1 k2 k3 T' rfl X'
    exact ⟨t2, st t2 a1, b1⟩
  · obtain ⟨k1, k2, k3⟩ := vx_keep h0 e1 hS hAX hf hL hF
    obtain ⟨t2, a1, b1⟩ := kx E ce q u t T'.heap (locs ++ L) e1.symm (by rw [← e2]; exact X'.warmed.alike) hp hb k1 k2 k3 (by rw [e1]; exact hce) hcv hcl T' rfl X'
    exact ⟨t2, st.trans a1, b1⟩
theorem vx_calll {S SX : Type} {post : Int64 → S → Prop} {px : SX → Prop} {B : S → State → Prop} {BX : String → SX → State → Prop} {AX : Nat → Prop} (hr : vx_Run p l e R s m args below meth c H locs cells slots mc ms (F0 m pc ls st0) rest (va_Ql post B A1 a) (vx_X px BX AX) free) (hS : va_S A0 H0 H locs) (hA : ∀ q, q < H.size → A1 q → A0 q) (hf : ∀ q, free q → A0 q) (hAX : ∀ q, q < H.size → AX q → A0 q)
    (kx : ∀ (E : String) (ce : Cell) (q9 : Addr) (u : SX) (t : State) (H1 : Heap) (locs1 : List Loc), t.heap = H1 → s.vm.Alike t.vm → px u → BX E u t → H.size ≤ H1.size → (∀ q : Nat, q < H.size → ¬ AX q → H1[q]? = H[q]?) → va_S A0 H0 H1 locs1 → H1[q9]? = some ce → ce.vm = .none → s.vm.findClass E = some ce.cls → vx_W p l e R s m args below meth c H1 locs1 (cells + mc) (slots + ms) Q (F0 m pc ls rest) q9)
    (kk : ∀ (r : Int64) (u : S) (t : State) (H1 : Heap) (locs1 : List Loc), t.heap = H1 → s.vm.Alike t.vm → post r u → B u t → H.size ≤ H1.size → (∀ q : Nat, q < H.size → ¬ A1 q → H1[q]? = H[q]?) → va_S A0 H0 H1 locs1 → W p l e R s m args below meth c H1 locs1 (cells + mc) (slots + ms) Q (F0 m (pc + 3) ls (.long r :: rest))) : W p l e R s m args below meth c H locs cells slots Q (F0 m pc ls st0) := by
  intro T hT X
  rcases hr T hT X with ⟨v, st₀, t, T', L, h0, X', hL, e1, e2, ⟨⟨r, u, hv, hp, hb⟩, hF⟩, st⟩ | ⟨q, st₀, t, T', L, E, ce, h0, X', hL, e1, e2, ⟨u, hp, hb, hF⟩, hce, hcv, hcl, st⟩
  · cases hv
    obtain ⟨k1, k2, k3⟩ := vx_keep h0 e1 hS hA hf hL hF
    obtain ⟨t2, a1, b1⟩ := kk r u t T'.heap (locs ++ L) e1.symm (by rw [← e2]; exact X'.warmed.alike) hp hb k1 k2 k3 T' rfl X'
    exact ⟨t2, st t2 a1, b1⟩
  · obtain ⟨k1, k2, k3⟩ := vx_keep h0 e1 hS hAX hf hL hF
    obtain ⟨t2, a1, b1⟩ := kx E ce q u t T'.heap (locs ++ L) e1.symm (by rw [← e2]; exact X'.warmed.alike) hp hb k1 k2 k3 (by rw [e1]; exact hce) hcv hcl T' rfl X'
    exact ⟨t2, st.trans a1, b1⟩
theorem vx_callf {S SX : Type} {post : UInt32 → S → Prop} {px : SX → Prop} {B : S → State → Prop} {BX : String → SX → State → Prop} {AX : Nat → Prop} (hr : vx_Run p l e R s m args below meth c H locs cells slots mc ms (F0 m pc ls st0) rest (va_Qf post B A1 a) (vx_X px BX AX) free) (hS : va_S A0 H0 H locs) (hA : ∀ q, q < H.size → A1 q → A0 q) (hf : ∀ q, free q → A0 q) (hAX : ∀ q, q < H.size → AX q → A0 q)
    (kx : ∀ (E : String) (ce : Cell) (q9 : Addr) (u : SX) (t : State) (H1 : Heap) (locs1 : List Loc), t.heap = H1 → s.vm.Alike t.vm → px u → BX E u t → H.size ≤ H1.size → (∀ q : Nat, q < H.size → ¬ AX q → H1[q]? = H[q]?) → va_S A0 H0 H1 locs1 → H1[q9]? = some ce → ce.vm = .none → s.vm.findClass E = some ce.cls → vx_W p l e R s m args below meth c H1 locs1 (cells + mc) (slots + ms) Q (F0 m pc ls rest) q9)
    (kk : ∀ (r : UInt32) (u : S) (t : State) (H1 : Heap) (locs1 : List Loc), t.heap = H1 → s.vm.Alike t.vm → post r u → B u t → H.size ≤ H1.size → (∀ q : Nat, q < H.size → ¬ A1 q → H1[q]? = H[q]?) → va_S A0 H0 H1 locs1 → W p l e R s m args below meth c H1 locs1 (cells + mc) (slots + ms) Q (F0 m (pc + 3) ls (.float r :: rest))) : W p l e R s m args below meth c H locs cells slots Q (F0 m pc ls st0) := by
  intro T hT X
  rcases hr T hT X with ⟨v, st₀, t, T', L, h0, X', hL, e1, e2, ⟨⟨r, u, hv, hp, hb⟩, hF⟩, st⟩ | ⟨q, st₀, t, T', L, E, ce, h0, X', hL, e1, e2, ⟨u, hp, hb, hF⟩, hce, hcv, hcl, st⟩
  · cases hv
    obtain ⟨k1, k2, k3⟩ := vx_keep h0 e1 hS hA hf hL hF
    obtain ⟨t2, a1, b1⟩ := kk r u t T'.heap (locs ++ L) e1.symm (by rw [← e2]; exact X'.warmed.alike) hp hb k1 k2 k3 T' rfl X'
    exact ⟨t2, st t2 a1, b1⟩
  · obtain ⟨k1, k2, k3⟩ := vx_keep h0 e1 hS hAX hf hL hF
    obtain ⟨t2, a1, b1⟩ := kx E ce q u t T'.heap (locs ++ L) e1.symm (by rw [← e2]; exact X'.warmed.alike) hp hb k1 k2 k3 (by rw [e1]; exact hce) hcv hcl T' rfl X'
    exact ⟨t2, st.trans a1, b1⟩
theorem vx_calld {S SX : Type} {post : UInt64 → S → Prop} {px : SX → Prop} {B : S → State → Prop} {BX : String → SX → State → Prop} {AX : Nat → Prop} (hr : vx_Run p l e R s m args below meth c H locs cells slots mc ms (F0 m pc ls st0) rest (va_Qd post B A1 a) (vx_X px BX AX) free) (hS : va_S A0 H0 H locs) (hA : ∀ q, q < H.size → A1 q → A0 q) (hf : ∀ q, free q → A0 q) (hAX : ∀ q, q < H.size → AX q → A0 q)
    (kx : ∀ (E : String) (ce : Cell) (q9 : Addr) (u : SX) (t : State) (H1 : Heap) (locs1 : List Loc), t.heap = H1 → s.vm.Alike t.vm → px u → BX E u t → H.size ≤ H1.size → (∀ q : Nat, q < H.size → ¬ AX q → H1[q]? = H[q]?) → va_S A0 H0 H1 locs1 → H1[q9]? = some ce → ce.vm = .none → s.vm.findClass E = some ce.cls → vx_W p l e R s m args below meth c H1 locs1 (cells + mc) (slots + ms) Q (F0 m pc ls rest) q9)
    (kk : ∀ (r : UInt64) (u : S) (t : State) (H1 : Heap) (locs1 : List Loc), t.heap = H1 → s.vm.Alike t.vm → post r u → B u t → H.size ≤ H1.size → (∀ q : Nat, q < H.size → ¬ A1 q → H1[q]? = H[q]?) → va_S A0 H0 H1 locs1 → W p l e R s m args below meth c H1 locs1 (cells + mc) (slots + ms) Q (F0 m (pc + 3) ls (.double r :: rest))) : W p l e R s m args below meth c H locs cells slots Q (F0 m pc ls st0) := by
  intro T hT X
  rcases hr T hT X with ⟨v, st₀, t, T', L, h0, X', hL, e1, e2, ⟨⟨r, u, hv, hp, hb⟩, hF⟩, st⟩ | ⟨q, st₀, t, T', L, E, ce, h0, X', hL, e1, e2, ⟨u, hp, hb, hF⟩, hce, hcv, hcl, st⟩
  · cases hv
    obtain ⟨k1, k2, k3⟩ := vx_keep h0 e1 hS hA hf hL hF
    obtain ⟨t2, a1, b1⟩ := kk r u t T'.heap (locs ++ L) e1.symm (by rw [← e2]; exact X'.warmed.alike) hp hb k1 k2 k3 T' rfl X'
    exact ⟨t2, st t2 a1, b1⟩
  · obtain ⟨k1, k2, k3⟩ := vx_keep h0 e1 hS hAX hf hL hF
    obtain ⟨t2, a1, b1⟩ := kx E ce q u t T'.heap (locs ++ L) e1.symm (by rw [← e2]; exact X'.warmed.alike) hp hb k1 k2 k3 (by rw [e1]; exact hce) hcv hcl T' rfl X'
    exact ⟨t2, st.trans a1, b1⟩
theorem vx_callv {S SX : Type} {post : S → Prop} {px : SX → Prop} {B : S → State → Prop} {BX : String → SX → State → Prop} {AX : Nat → Prop} (hr : vx_Run p l e R s m args below meth c H locs cells slots mc ms (F0 m pc ls st0) rest (va_Qv post B A1 a) (vx_X px BX AX) free) (hS : va_S A0 H0 H locs) (hA : ∀ q, q < H.size → A1 q → A0 q) (hf : ∀ q, free q → A0 q) (hAX : ∀ q, q < H.size → AX q → A0 q)
    (kx : ∀ (E : String) (ce : Cell) (q9 : Addr) (u : SX) (t : State) (H1 : Heap) (locs1 : List Loc), t.heap = H1 → s.vm.Alike t.vm → px u → BX E u t → H.size ≤ H1.size → (∀ q : Nat, q < H.size → ¬ AX q → H1[q]? = H[q]?) → va_S A0 H0 H1 locs1 → H1[q9]? = some ce → ce.vm = .none → s.vm.findClass E = some ce.cls → vx_W p l e R s m args below meth c H1 locs1 (cells + mc) (slots + ms) Q (F0 m pc ls rest) q9)
    (kk : ∀ (u : S) (t : State) (H1 : Heap) (locs1 : List Loc), t.heap = H1 → s.vm.Alike t.vm → post u → B u t → H.size ≤ H1.size → (∀ q : Nat, q < H.size → ¬ A1 q → H1[q]? = H[q]?) → va_S A0 H0 H1 locs1 → W p l e R s m args below meth c H1 locs1 (cells + mc) (slots + ms) Q (F0 m (pc + 3) ls (rest))) : W p l e R s m args below meth c H locs cells slots Q (F0 m pc ls st0) := by
  intro T hT X
  rcases hr T hT X with ⟨v, st₀, t, T', L, h0, X', hL, e1, e2, ⟨⟨u, hv, hp, hb⟩, hF⟩, st⟩ | ⟨q, st₀, t, T', L, E, ce, h0, X', hL, e1, e2, ⟨u, hp, hb, hF⟩, hce, hcv, hcl, st⟩
  · cases hv
    obtain ⟨k1, k2, k3⟩ := vx_keep h0 e1 hS hA hf hL hF
    obtain ⟨t2, a1, b1⟩ := kk u t T'.heap (locs ++ L) e1.symm (by rw [← e2]; exact X'.warmed.alike) hp hb k1 k2 k3 T' rfl X'
    exact ⟨t2, st t2 a1, b1⟩
  · obtain ⟨k1, k2, k3⟩ := vx_keep h0 e1 hS hAX hf hL hF
    obtain ⟨t2, a1, b1⟩ := kx E ce q u t T'.heap (locs ++ L) e1.symm (by rw [← e2]; exact X'.warmed.alike) hp hb k1 k2 k3 (by rw [e1]; exact hce) hcv hcl T' rfl X'
    exact ⟨t2, st.trans a1, b1⟩
/-- caught by the row x of this method's table; the rows ahead don't take it -/
theorem vx_catch {own name : String} {E : String} {ce : Cell} {q : Addr} (hown : s.vm.findClass own = some m.cls) (pre : List ExceptionTableEntry) (x : ExceptionTableEntry) (suf : List ExceptionTableEntry) (hsplit : c.exceptionTable.toList = pre ++ x :: suf)
    (hpass : ∀ z ∈ pre, covers z pc = false ∨ (z.catchType ≠ 0 ∧ ∃ nm : String, (Cond.classLink own z.catchType nm).before args s = true ∧ va_Nc E nm s)) (hx : covers x pc = true) (h0 : x.catchType ≠ 0)
    (hlink : (Cond.classLink own x.catchType name).before args s = true) (hcast : (Cond.castable E name).before args s = true) (hcell : H[q]? = some ce) (hv : ce.vm = .none) (hcl : s.vm.findClass E = some ce.cls)
    (kk : W p l e R s m args below meth c H locs cells slots Q (F0 m x.handlerPc ls [.ref q])) : vx_W p l e R s m args below meth c H locs cells slots Q (F0 m pc ls rest) q := by
  intro T hT X
  have hpl : e.platform.magicAccessors = ({} : Platform).magicAccessors := by rw [X.admits.platform]
  obtain ⟨c3, c4, hc3, hc4, hasg⟩ := Cond.castable_spec hcast
  cases Option.some.inj (hc3.symm.trans hcl)
  obtain ⟨c5, hc5, hcl5⟩ := Cond.classLink_spec hown hlink e.platform hpl
  cases Option.some.inj (hc4.symm.trans hc5)
  obtain ⟨vm', X', st⟩ := X.thenCaughtThrough q (g := F0 m pc ls rest) rfl (Steps.refl _) (by rw [hT]; exact hcell) (by rw [hv]; rfl) (by obtain ⟨k9, h9, -⟩ := Vm.findClass_spec hcl; exact ⟨k9, h9⟩) pre x suf hsplit
    (fun z hz => by
      rcases hpass z hz with h | ⟨hz0, nm, hl1, hn1⟩
      · exact Or.inl h
      · obtain ⟨c6, hc6, hcl6⟩ := Cond.classLink_spec hown hl1 e.platform hpl
        obtain ⟨a8, b8, h1, h2, h3⟩ := hn1
        cases Option.some.inj (h1.symm.trans hcl)
        cases Option.some.inj (h2.symm.trans hc6)
        exact Or.inr ⟨hz0, _, hcl6, h3⟩) hx (Or.inr ⟨h0, c4, hcl5, hasg⟩)
  obtain ⟨t, a1, b1⟩ := kk (T.setVm vm') hT X'
  exact ⟨t, st.trans a1, b1⟩
end Rows
section Ends
variable {p : Program} {l : Launch} {e : Env} {R : Room} {s : State} {m : MethodId} {args : Array Value} {below : List Frame} {meth : Method} {c : Code} {H : Heap} {locs : List Loc} {cells slots : Nat} {Q : State → Prop}
variable {mc ms : Nat} {free : Addr → Prop} {A0 A1 : Nat → Prop} {H0 : Heap} {a : Array Value} {ls : Array Slot} {st0 rest : List Value}
variable {Qc : Array Value → State → Outcome → State → Prop} {XC : String → State → State → Prop}
/-- what a body that may throw owes at its end -/
def vx_MQ (below : List Frame) (Qc : Array Value → State → Outcome → State → Prop) (XC : String → State → State → Prop) (a : Array Value) (s : State) (mc ms : Nat) (free : Addr → Prop) : State → Prop := fun t =>
  ∃ o, t.status = .running ∧ Ended t below o ∧ vx_Q Qc XC mc ms free a s o t
theorem vx_ret {g : JFrame} {mc ms : Nat} (k : W p l e R s m args below meth c H locs cells slots (MQ below Qc args s mc ms free) g) : W p l e R s m args below meth c H locs cells slots (vx_MQ below Qc XC args s mc ms free) g := by
  intro T hT X
  obtain ⟨t, a1, o, b1, b2, b3, b4⟩ := k T hT X
  exact ⟨t, a1, o, b1, b2, Or.inl ⟨b3, b4⟩⟩
/-- not caught here: it goes on to the caller -/
theorem vx_widen {g : JFrame} {q : Addr} {k n : Nat} (h1 : cells ≤ k) (h2 : slots ≤ n) (kk : vx_W p l e R s m args below meth c H locs k n Q g q) : vx_W p l e R s m args below meth c H locs cells slots Q g q := fun T hT X => kk T hT (stand_widen X h1 h2)
theorem vx_out {pc : Nat} {E : String} {ce : Cell} {q : Addr} {mc ms : Nat} (hout : ∀ x ∈ c.exceptionTable.toList, covers x pc = false) (hlocks : meth.locks = false) (hcell : H[q]? = some ce) (hv : ce.vm = .none) (hcl : s.vm.findClass E = some ce.cls)
    (hx : ∀ t : State, t.heap = H → s.vm.Alike t.vm → XC E s t) (hf : ∀ z ∈ locs, free z.base) (hc : cells ≤ mc) (hs : slots ≤ ms) :
    vx_W p l e R s m args below meth c H locs cells slots (vx_MQ below Qc XC args s mc ms free) (F0 m pc ls rest) q := by
  intro T hT X
  obtain ⟨st1, hrun, hend, hW, hsm⟩ := X.leaveThrown q (g := F0 m pc ls rest) rfl rfl rfl hout hlocks
  have hcell9 : (T.setFrames (.throwing q :: below)).heap[q]? = some ce := by
    show T.heap[q]? = some ce
    rw [hT]; exact hcell
  exact ⟨_, st1, .threw q, hrun, hend, Or.inr ⟨q, rfl, E, ce, locs, hx _ hT hW.alike, hcell9, hv, hcl, hW, hsm.mono hc hs, hf⟩⟩
theorem vx_frame {U : State} {k n : Nat} (h : s.sameButNew ({ U with vm := s.vm } : State) locs k n) : s.heap.size ≤ U.heap.size ∧ ∀ q : Nat, q < s.heap.size → (∀ z ∈ locs, z.base ≠ q) → U.heap[q]? = s.heap[q]? := by
  obtain ⟨-, h2, -, -, -, h6⟩ := h
  refine ⟨h2, fun q hq hz => ?_⟩
  obtain ⟨c9, e1, e2, e3, e4⟩ := h6 q _ (Array.getElem?_eq_getElem hq)
  have hs : c9.slots = (s.heap[q]).slots := Array.ext_getElem? fun i => e4 i fun hm => hz _ hm rfl
  have h9 : c9 = s.heap[q] := by
    rw [hs] at e2
    exact e2
  have e5 : U.heap[q]? = some c9 := e1
  rw [e5, h9, Array.getElem?_eq_getElem hq]
/-- the words of a throw but the four that speak of the heap -/
def vx_no (w : Cond) : Bool := decide (w ≠ .isRef (.static Bundle.tN "UNASSIGNED_STACK" Bundle.steD)) && decide (w ≠ .isRef (.static Bundle.tN "SUPPRESSED_SENTINEL" Bundle.listD)) && decide (w ≠ .laysStatic Bundle.tN "UNASSIGNED_STACK" Bundle.steD) && decide (w ≠ .laysStatic Bundle.tN "SUPPRESSED_SENTINEL" Bundle.listD)
def vx_at0 (own : String) (ic : Nat) (X : String) (names : List String) : List Cond := (Bundle.ownAtoms0 own ic X names).filter vx_no
def vx_atS (own : String) (ic : Nat) (X : String) (names : List String) : List Cond := (Bundle.ownAtoms own ic X names).filter vx_no
/-- a word that the tables alone decide, or a good one -/
def vx_ot (w : Cond) : Bool := w.onTables || goodWord w
theorem vx_ot_at {args a' : Array Value} {s U : State} {w : Cond} (hW : s.WarmedH U.vm) (hvm : s.vm = U.vm) (hg : vx_ot w = true) (h : w.before args s = true) : w.before a' U = true := by
  simp only [vx_ot, Bool.or_eq_true] at hg
  rcases hg with hg | hg
  · exact va_tabs hg hvm h
  · exact word_at hW (good_of_word hg) h
/-- a list's words: the good ones out of the method's own list, the others by premises of their own -/
theorem vx_hat {args : Array Value} {s : State} {L B : List Cond} (h1 : ∀ w ∈ L.filter goodWord, w.before args s = true) (h2 : ∀ w ∈ L.filter (fun w => !goodWord w), w ∈ B) (h3 : ∀ w ∈ B, w.before args s = true) : ∀ w ∈ L, w.before args s = true := by
  intro w hw
  by_cases g : goodWord w = true
  · exact h1 w (List.mem_filter.mpr ⟨hw, g⟩)
  · refine h3 w (h2 w (List.mem_filter.mpr ⟨hw, ?_⟩))
    show (!goodWord w) = true
    cases hgw : goodWord w
    · rfl
    · exact absurd hgw g
theorem vx_c {args : Array Value} {s : State} {w : Cond} {B : List Cond} (h : w.before args s = true) (t : ∀ w ∈ B, w.before args s = true) : ∀ w' ∈ w :: B, w'.before args s = true := fun w' h' => (List.mem_cons.mp h').elim (fun e => by rw [e]; exact h) (t w')
theorem vx_n {args : Array Value} {s : State} : ∀ w ∈ ([] : List Cond), w.before args s = true := fun _ h => nomatch h
theorem vx_own {args : Array Value} {s : State} {L : List Cond} (h1 : ∀ w ∈ L.filter vx_no, w.before args s = true)
    (hU : (Cond.isRef (.static Bundle.tN "UNASSIGNED_STACK" Bundle.steD)).before args s = true) (hN : (Cond.isRef (.static Bundle.tN "SUPPRESSED_SENTINEL" Bundle.listD)).before args s = true)
    (lU : (Cond.laysStatic Bundle.tN "UNASSIGNED_STACK" Bundle.steD).before args s = true) (lN : (Cond.laysStatic Bundle.tN "SUPPRESSED_SENTINEL" Bundle.listD).before args s = true) : ∀ w ∈ L, w.before args s = true := by
  intro w hw
  by_cases e1 : w = .isRef (.static Bundle.tN "UNASSIGNED_STACK" Bundle.steD)
  · rw [e1]; exact hU
  · by_cases e2 : w = .isRef (.static Bundle.tN "SUPPRESSED_SENTINEL" Bundle.listD)
    · rw [e2]; exact hN
    · by_cases e3 : w = .laysStatic Bundle.tN "UNASSIGNED_STACK" Bundle.steD
      · rw [e3]; exact lU
      · by_cases e4 : w = .laysStatic Bundle.tN "SUPPRESSED_SENTINEL" Bundle.listD
        · rw [e4]; exact lN
        · exact h1 w (List.mem_filter.mpr ⟨hw, by unfold vx_no; rw [decide_eq_true e1, decide_eq_true e2, decide_eq_true e3, decide_eq_true e4]; rfl⟩)
/-- where a static field lies, its class's statics cell in H -/
def vx_L (C n d : String) (A : Nat → Prop) (U : State) (H : Heap) : Prop := ∃ (c : ClassId) (k : Class) (i : Nat) (f : Field) (a : Nat) (cell : Cell), U.vm.findClass C = some c ∧ U.fieldFound? C n d = some (c, k, i, f) ∧ f.isStatic = true ∧ k.statics = some a ∧ H[a]? = some cell ∧ cell.vm.isStatics = true ∧ cell.cls = c ∧ f.slot < cell.slots.size ∧ k.staticTypes[f.slot]? = some f.type ∧ ¬ A a
theorem vx_L.moved {C n d : String} {A : Nat → Prop} {u U : State} {H : Heap} (hvm : u.vm.Alike U.vm) (h : vx_L C n d A u H) : vx_L C n d A U H := by
  obtain ⟨c, k, i, f, a, cell, h1, h2, h3, h4, h5, h6, h7, h8, h9, h10⟩ := h
  obtain ⟨k', hi', he⟩ := State.fieldFound?_setVm hvm h2
  exact ⟨c, k', i, f, a, cell, by rw [hvm.findClass]; exact h1, hi', h3, by rw [he]; exact h4, h5, h6, h7, h8, by rw [he]; exact h9, h10⟩
theorem vx_L.kept {C n d : String} {A : Nat → Prop} {U : State} {H H1 : Heap} (h : vx_L C n d A U H) (hq : ∀ a : Nat, a < H.size → ¬ A a → H1[a]? = H[a]?) : vx_L C n d A U H1 := by
  obtain ⟨c, k, i, f, a, cell, h1, h2, h3, h4, h5, h6, h7, h8, h9, h10⟩ := h
  exact ⟨c, k, i, f, a, cell, h1, h2, h3, h4, by rw [hq a (Array.getElem?_eq_some_iff.mp h5).1 h10]; exact h5, h6, h7, h8, h9, h10⟩
theorem vx_L.narrow {C n d : String} {A B : Nat → Prop} {U : State} {H : Heap} (h : vx_L C n d A U H) (hAB : ∀ q, B q → A q) : vx_L C n d B U H := by
  obtain ⟨c, k, i, f, a, cell, h1, h2, h3, h4, h5, h6, h7, h8, h9, h10⟩ := h
  exact ⟨c, k, i, f, a, cell, h1, h2, h3, h4, h5, h6, h7, h8, h9, fun z => h10 (hAB _ z)⟩
theorem vx_L.word {C n d : String} {A : Nat → Prop} {s : State} {args : Array Value} (h : vx_L C n d A s s.heap) : (Cond.laysStatic C n d).before args s = true := by
  obtain ⟨c, k, i, f, a, cell, h1, h2, h3, h4, h5, h6, h7, h8, h9, -⟩ := h
  show (Cond.laysStatic C n d).holds args s none s [] = true
  exact Cond.laysStatic_of h1 h2 h3 h4 h5 h6 h7 h8 h9
/-- .. and what it holds: null or some reference -/
def vx_Zq (C n d : String) (A : Nat → Prop) (U : State) (H : Heap) : Prop := va_Zq C n d A U H ∧ vx_L C n d A U H
theorem vx_Zq.moved {C n d : String} {A : Nat → Prop} {u U : State} {H : Heap} (hvm : u.vm.Alike U.vm) (h : vx_Zq C n d A u H) : vx_Zq C n d A U H := ⟨va_Zq.moved hvm h.1, vx_L.moved hvm h.2⟩
theorem vx_Zq.kept {C n d : String} {A : Nat → Prop} {U : State} {H H1 : Heap} (h : vx_Zq C n d A U H) (hq : ∀ a : Nat, a < H.size → ¬ A a → H1[a]? = H[a]?) : vx_Zq C n d A U H1 := ⟨va_Zq.kept h.1 hq, vx_L.kept h.2 hq⟩
theorem vx_Zq.narrow {C n d : String} {A B : Nat → Prop} {U : State} {H : Heap} (h : vx_Zq C n d A U H) (hAB : ∀ q, B q → A q) : vx_Zq C n d B U H := ⟨va_Zq.narrow h.1 hAB, vx_L.narrow h.2 hAB⟩
theorem vx_Zqof {args : Array Value} {s : State} {C n d : String} {A : Nat → Prop} (hl : (Cond.laysStatic C n d).before args s = true) (hini : (Cond.initialized C).before args s = true) (h : (Cond.isRef (.static C n d)).before args s = true) (hA : ∀ a : Nat, a < s.heap.size → ¬ A a) : vx_Zq C n d A s s.heap := by
  refine ⟨va_Zqof hl hini h hA, ?_⟩
  obtain ⟨c, k, i, f, a, cell, h1, h2, h3, h4, h5, h6, h7, h8, h9⟩ := Cond.laysStatic_spec hl
  exact ⟨c, k, i, f, a, cell, h1, h2, h3, h4, h5, h6, h7, h8, h9, hA a (Array.getElem?_eq_some_iff.mp h5).1⟩
theorem vx_isRef {C n d : String} {v : Value} {A : Nat → Prop} {s : State} {args : Array Value} (h : va_Z C n d v A s s.heap) (hv : v.isRef = true) : (Cond.isRef (.static C n d)).before args s = true := by
  obtain ⟨cf, kf, fi, f, a, cell, h1, h2, h3, h4, h5, h6, h7, -⟩ := h
  have he : (Term.static C n d).eval args s none [] s = some v := by
    simp [Term.eval, State.fieldNamed?, h1, h2, h4, h5, h6, h7]
  simp only [Cond.before, Cond.holds, Cond.value, he]
  cases v <;> simp_all [Value.isRef]
theorem vx_isRefq {C n d : String} {A : Nat → Prop} {s : State} {args : Array Value} (h : va_Zq C n d A s s.heap) : (Cond.isRef (.static C n d)).before args s = true := by
  rcases h with h | ⟨t, h⟩
  · exact vx_isRef h rfl
  · exact vx_isRef h rfl
/-- the same frame, seen from here: as if the method were called anew in this heap -/
theorem vx_rebase {T : State} (X : Stand p l e R s m args below meth c T locs cells slots) {R' : Room} (hf : R'.frames ≤ R.frames) (hl : R'.locals ≤ R.locals) (hc : cells + R'.cells ≤ R.cells) (hs : slots + R'.slots ≤ R.slots) :
    Stand p l e R' ((T.setVm s.vm).setFrames (.invoking m args :: below)) m args below meth c T [] 0 0 := by
  have htop : (T.setVm s.vm).topJava?.isSome := X.here.top
  have hF : ((T.setVm s.vm).setFrames (.invoking m args :: below)).frames = .invoking m args :: below := State.frames_setFrames _ (State.cur_lt_of_top htop)
  obtain ⟨g₀, hg0⟩ := Option.isSome_iff_exists.mp htop
  obtain ⟨r, hr⟩ := State.topJava?_eq_some.mp hg0
  have hl9 : e.platform.stackLimits (T.setVm s.vm).me = e.platform.stackLimits s.me := X.limits
  have hb9 : (T.setVm s.vm).me.stackBytes = s.me.stackBytes := X.bytes
  refine ⟨X.admits, X.cas, X.clock, hF, ?_, X.hears, X.method, X.code, X.here, X.tail, X.warmed, ?_, ?_, ?_⟩
  · have h := X.room
    have hU : ((T.setVm s.vm).setFrames (.invoking m args :: below)).localsInUse = s.localsInUse := by
      rw [State.localsInUse_invoking hF (meth := meth) (c := c) X.method X.code, State.localsInUse_invoking X.frames X.method X.code]
    simp only [State.hasRoom, Bool.and_eq_true, decide_eq_true_eq] at h ⊢
    obtain ⟨⟨⟨⟨h1, h2, h3, h4, h5, h6⟩, h7⟩, h8⟩, h9⟩ := h
    rw [X.frames, List.length_cons] at h2 h3
    have q1 := X.heapSize
    have q2 := X.used
    simp only [hF, hU, List.length_cons, State.stackLimits_setFrames, State.stackBytes_setFrames, hl9, hb9]
    refine ⟨⟨⟨⟨by omega, by omega, by omega, by omega, by omega, h6⟩, ?_⟩, ?_⟩, X.book⟩
    · show T.heap.size + R'.cells ≤ e.platform.maxCells
      omega
    · show T.slotsUsed + R'.slots ≤ e.platform.maxSlots
      omega
  · rw [State.stackLimits_setFrames]; rfl
  · rw [State.stackBytes_setFrames]; rfl
  · refine ⟨?_, Nat.le_refl _, Nat.le_refl _, ?_, ?_, fun a c9 h9 => ⟨c9, h9, rfl, rfl, fun _ _ => rfl⟩⟩
    · obtain ⟨t, ht, -⟩ := State.frames_cons hr
      show T.setVm s.vm = { ((T.setVm s.vm).setFrames (.invoking m args :: below)).setFrames (T.setVm s.vm).frames with heap := T.heap, slotsUsed := T.slotsUsed }
      rw [State.setFrames_setFrames, State.setFrames_self ht]
      rfl
    · show T.slotsUsed = T.slotsUsed + ((T.heap.toList.drop T.heap.size).map (·.slots.size)).sum
      rw [List.drop_eq_nil_of_le (Nat.le_of_eq Array.length_toList)]
      rfl
    · show ((T.heap.toList.drop T.heap.size).map (·.slots.size)).sum ≤ 0
      rw [List.drop_eq_nil_of_le (Nat.le_of_eq Array.length_toList)]
      exact Nat.le_refl _
/-- 'throw new E()': new; dup; invokespecial; athrow -/
theorem vx_throw0 {cc : ByteArray} {pc : Nat} (hexec : p.tables.exec = Jvm.exec) (hb : c.code = cc) (hl : l.stackTraces = false) {own cls : String} {names : List String} {ik ic mc ms : Nat} {A : Nat → Prop}
    (hown : s.vm.findClass own = some m.cls) (hcls : Bundle.fit cls = true) (hnames : ∀ n ∈ names, Bundle.fit n = true)
    (hk : (Cond.classLink own ik cls).before args s = true) (hini : (Cond.initialized cls).before args s = true) (hat : ∀ w ∈ vx_at0 own ic cls names, w.before args s = true)
    (hgood : ∀ w ∈ Cond.classLink own ik cls :: Cond.initialized cls :: vx_at0 own ic cls names, vx_ot w = true)
    (hU : vx_Zq Bundle.tN "UNASSIGNED_STACK" Bundle.steD A s s.heap) (hN : vx_Zq Bundle.tN "SUPPRESSED_SENTINEL" Bundle.listD A s s.heap) (hS : va_S A s.heap H locs) (hsize : ls.size = c.maxLocals)
    (d0 : decode cc pc = .ok (.new ik, 3)) (d3 : decode cc (pc + 3) = .ok (.dup, 1)) (d4 : decode cc (pc + 4) = .ok (.invokespecial ic, 3)) (d7 : decode cc (pc + 7) = .ok (.athrow, 1))
    (hout : ∀ x ∈ c.exceptionTable.toList, covers x (pc + 7) = false)
    (hRframes : names.length + 3 < R.frames) (hRlocals : (rest.map fun v => v.category).sum + (13 * (names.length + 1) + 42) ≤ R.locals) (hRcells : cells + 1 ≤ R.cells) (hRslots : slots + 6 ≤ R.slots) (hlocks : meth.locks = false)
    (hx : ∀ t : State, s.vm.Alike t.vm → H.size ≤ t.heap.size → (∀ q : Nat, q < H.size → t.heap[q]? = H[q]?) → XC cls s t)
    (hf : ∀ z ∈ locs, free z.base) (hc : cells + 1 ≤ mc) (hs : slots + 6 ≤ ms) :
    W p l e R s m args below meth c H locs cells slots (vx_MQ below Qc XC args s mc ms free) (F0 m pc ls rest) := by
  intro T hT X
  have htr : e.platform.stackTraces = false := (show e.platform.stackTraces = l.stackTraces by rw [X.admits.platform]).trans hl
  have Y := vx_rebase X (R' := { frames := R.frames, locals := R.locals, cells := 1, slots := 6 }) (Nat.le_refl _) (Nat.le_refl _) hRcells hRslots
  obtain ⟨s', hA⟩ : ∃ z, z = (T.setVm s.vm).setFrames (.invoking m args :: below) := ⟨_, rfl⟩
  rw [← hA] at Y
  have hvm : s'.vm = s.vm := by rw [hA]; rfl
  have hhp : s'.heap = H := by rw [hA]; exact hT
  have hW0 : s.WarmedH s'.vm := by rw [hvm]; exact State.WarmedH.refl s
  have hat' : ∀ w ∈ vx_at0 own ic cls names, w.before args s' = true := fun w hw => vx_ot_at hW0 hvm.symm (hgood w (List.mem_cons_of_mem _ (List.mem_cons_of_mem _ hw))) (hat w hw)
  have hk' : (Cond.classLink own ik cls).before args s' = true := vx_ot_at hW0 hvm.symm (hgood _ List.mem_cons_self) hk
  have hini' : (Cond.initialized cls).before args s' = true := vx_ot_at hW0 hvm.symm (hgood _ (List.mem_cons_of_mem _ List.mem_cons_self)) hini
  have hU' : vx_Zq Bundle.tN "UNASSIGNED_STACK" Bundle.steD A s' s'.heap := by rw [hhp]; exact vx_Zq.moved hW0.alike (hU.kept hS.2.1)
  have hN' : vx_Zq Bundle.tN "SUPPRESSED_SENTINEL" Bundle.listD A s' s'.heap := by rw [hhp]; exact vx_Zq.moved hW0.alike (hN.kept hS.2.1)
  have h : ∀ w ∈ Bundle.ownAtoms0 own ic cls names, w.before args s' = true := vx_own hat' (vx_isRefq hU'.1) (vx_isRefq hN'.1) hU'.2.word hN'.2.word
  have hown' : s'.vm.findClass own = some m.cls := by rw [hvm]; exact hown
  have hins : (Cond.instantiable cls 6).before args s' = true := h _ (by simp [Bundle.ownAtoms0])
  obtain ⟨vm₁, cX, kX, hfX, hkX, -, -, X₁, st1⟩ := Y.newCold hexec (own := own) (C := cls) (index := ik) (n := 6) hown' hk' hins hini'
    (g := F0 m pc ls rest) rfl (by rw [hb]; exact d0) (Nat.le_refl _) (Nat.le_refl _)
  generalize hT1 : (T.setVm vm₁).pushCell { cls := cX, slots := kX.instanceTypes.map defaultValue, vm := .none } = T1 at X₁ st1
  have hcat : (Value.ref T.heap.size).category = 1 := rfl
  have hcellA : T1.heap[T.heap.size]? = some (freshCell cX kX) := by rw [← hT1]; exact State.heap_pushCell_size _ _
  have d3' : decode c.code (pc + 3) = .ok (.dup, 1) := by rw [hb]; exact d3
  obtain ⟨U, hsteps, hrun, hend, hW, hsame, ce, hce, hO⟩ := X₁.ctorThrow0 hexec htr (own := own) (cls := cls) (names := names) (ic := ic) hown' hcls hnames h (fun x hx => nomatch hx) hfX hkX hcellA (by rw [hhp, hT]; exact Nat.le_refl _)
    (g := { method := m, pc := pc + 4, locals := ls, stack := .ref T.heap.size :: .ref T.heap.size :: rest, locked := none }) rfl hsize rfl rfl (rest := rest) rfl
    (by rw [hb]; exact d4) (by rw [hb]; exact d7) hout hRframes (by simp only [List.map_cons, List.sum_cons, hcat]; omega) hlocks
  obtain ⟨f1, f2⟩ := vx_frame hsame
  rw [hhp] at f1 f2
  have hWs : s.WarmedH U.vm := State.WarmedH.trans hW0 hW
  have hcl : s.vm.findClass cls = some ce.cls := by
    have h9 := hO.cls
    rw [hvm] at h9
    exact h9
  have hall : s.sameButNew ({ U with vm := s.vm } : State) locs mc ms := by
    subst hA
    obtain ⟨e1, e2⟩ := hsame
    rw [State.setFrames_setFrames] at e1
    have h2 : (T.setVm s.vm).sameButNew ({ U with vm := s.vm } : State) [] (0 + 1) (0 + 6) := ⟨e1, e2⟩
    have h3 := X.same.trans h2
    rw [List.append_nil] at h3
    exact h3.mono hc hs
  refine ⟨U, ?_, .threw T.heap.size, hrun, hend, Or.inr ⟨T.heap.size, rfl, cls, ce, locs, hx U hWs.alike f1 (fun q hq => f2 q hq (fun z hz => nomatch hz)), hce, hO.vm, hcl, hWs, hall, hf⟩⟩
  refine st1 _ ?_
  show Steps p.tables e below (T1.setTop { method := m, pc := pc + 3, locals := ls, stack := .ref T.heap.size :: rest, locked := none }) _
  jvm_step X₁.here [X₁.here.top, hexec, d3', Value.category]
  exact hsteps
/-- 'throw new E("text")': new; dup; ldc; invokespecial; athrow -/
theorem vx_throwS {cc : ByteArray} {pc : Nat} (hexec : p.tables.exec = Jvm.exec) (hb : c.code = cc) (hl : l.stackTraces = false) {own cls text : String} {names : List String} {ik is ic mc ms sa : Nat} {A : Nat → Prop}
    (hown : s.vm.findClass own = some m.cls) (hcls : Bundle.fit cls = true) (hnames : ∀ n ∈ names, Bundle.fit n = true)
    (hk : (Cond.classLink own ik cls).before args s = true) (hini : (Cond.initialized cls).before args s = true) (hstr : vk_R own is text sa s) (hat : ∀ w ∈ vx_atS own ic cls names, w.before args s = true)
    (hgood : ∀ w ∈ Cond.classLink own ik cls :: Cond.initialized cls :: vx_atS own ic cls names, vx_ot w = true)
    (hU : vx_Zq Bundle.tN "UNASSIGNED_STACK" Bundle.steD A s s.heap) (hN : vx_Zq Bundle.tN "SUPPRESSED_SENTINEL" Bundle.listD A s s.heap) (hS : va_S A s.heap H locs) (hsize : ls.size = c.maxLocals)
    (d0 : decode cc pc = .ok (.new ik, 3)) (d3 : decode cc (pc + 3) = .ok (.dup, 1)) (d4 : decode cc (pc + 4) = .ok (.ldc is, 2)) (d6 : decode cc (pc + 6) = .ok (.invokespecial ic, 3)) (d9 : decode cc (pc + 9) = .ok (.athrow, 1))
    (hout : ∀ x ∈ c.exceptionTable.toList, covers x (pc + 9) = false)
    (hRframes : names.length + 3 < R.frames) (hRlocals : (rest.map fun v => v.category).sum + (13 * (names.length + 1) + 43) ≤ R.locals) (hRcells : cells + 1 ≤ R.cells) (hRslots : slots + 6 ≤ R.slots) (hlocks : meth.locks = false)
    (hx : ∀ t : State, s.vm.Alike t.vm → H.size ≤ t.heap.size → (∀ q : Nat, q < H.size → t.heap[q]? = H[q]?) → XC cls s t)
    (hf : ∀ z ∈ locs, free z.base) (hc : cells + 1 ≤ mc) (hs : slots + 6 ≤ ms) :
    W p l e R s m args below meth c H locs cells slots (vx_MQ below Qc XC args s mc ms free) (F0 m pc ls rest) := by
  intro T hT X
  have htr : e.platform.stackTraces = false := (show e.platform.stackTraces = l.stackTraces by rw [X.admits.platform]).trans hl
  have Y := vx_rebase X (R' := { frames := R.frames, locals := R.locals, cells := 1, slots := 6 }) (Nat.le_refl _) (Nat.le_refl _) hRcells hRslots
  obtain ⟨s', hA⟩ : ∃ z, z = (T.setVm s.vm).setFrames (.invoking m args :: below) := ⟨_, rfl⟩
  rw [← hA] at Y
  have hvm : s'.vm = s.vm := by rw [hA]; rfl
  have hhp : s'.heap = H := by rw [hA]; exact hT
  have hW0 : s.WarmedH s'.vm := by rw [hvm]; exact State.WarmedH.refl s
  have hat' : ∀ w ∈ vx_atS own ic cls names, w.before args s' = true := fun w hw => vx_ot_at hW0 hvm.symm (hgood w (List.mem_cons_of_mem _ (List.mem_cons_of_mem _ hw))) (hat w hw)
  have hk' : (Cond.classLink own ik cls).before args s' = true := vx_ot_at hW0 hvm.symm (hgood _ List.mem_cons_self) hk
  have hini' : (Cond.initialized cls).before args s' = true := vx_ot_at hW0 hvm.symm (hgood _ (List.mem_cons_of_mem _ List.mem_cons_self)) hini
  have hU' : vx_Zq Bundle.tN "UNASSIGNED_STACK" Bundle.steD A s' s'.heap := by rw [hhp]; exact vx_Zq.moved hW0.alike (hU.kept hS.2.1)
  have hN' : vx_Zq Bundle.tN "SUPPRESSED_SENTINEL" Bundle.listD A s' s'.heap := by rw [hhp]; exact vx_Zq.moved hW0.alike (hN.kept hS.2.1)
  have h : ∀ w ∈ Bundle.ownAtoms own ic cls names, w.before args s' = true := vx_own hat' (vx_isRefq hU'.1) (vx_isRefq hN'.1) hU'.2.word hN'.2.word
  have hown' : s'.vm.findClass own = some m.cls := by rw [hvm]; exact hown
  have hins : (Cond.instantiable cls 6).before args s' = true := h _ (by simp [Bundle.ownAtoms])
  obtain ⟨vm₁, cX, kX, hfX, hkX, -, -, X₁, st1⟩ := Y.newCold hexec (own := own) (C := cls) (index := ik) (n := 6) hown' hk' hins hini'
    (g := F0 m pc ls rest) rfl (by rw [hb]; exact d0) (Nat.le_refl _) (Nat.le_refl _)
  generalize hT1 : (T.setVm vm₁).pushCell { cls := cX, slots := kX.instanceTypes.map defaultValue, vm := .none } = T1 at X₁ st1
  have hcat : (Value.ref T.heap.size).category = 1 := rfl
  have hcellA : T1.heap[T.heap.size]? = some (freshCell cX kX) := by rw [← hT1]; exact State.heap_pushCell_size _ _
  have d3' : decode c.code (pc + 3) = .ok (.dup, 1) := by rw [hb]; exact d3
  have d4' : decode c.code (pc + 4) = .ok (.ldc is, 2) := by rw [hb]; exact d4
  have hstr' : vk_R own is text sa s' := vk_R.warm hW0 hstr
  obtain ⟨U, hsteps, hrun, hend, hW, hsame, ce, hce, hO⟩ := X₁.ctorThrowS hexec htr (own := own) (cls := cls) (names := names) (ic := ic) hown' hcls hnames h (fun x hx => nomatch hx) hfX hkX hcellA (by rw [hhp, hT]; exact Nat.le_refl _) (msg := .ref sa) rfl
    (g := { method := m, pc := pc + 6, locals := ls, stack := .ref sa :: .ref T.heap.size :: .ref T.heap.size :: rest, locked := none }) rfl hsize rfl rfl (rest := rest) rfl
    (by rw [hb]; exact d6) (by rw [hb]; exact d9) hout hRframes (by simp only [List.map_cons, List.sum_cons, hcat]; omega) hlocks
  obtain ⟨f1, f2⟩ := vx_frame hsame
  rw [hhp] at f1 f2
  have hWs : s.WarmedH U.vm := State.WarmedH.trans hW0 hW
  have hcl : s.vm.findClass cls = some ce.cls := by
    have h9 := hO.cls
    rw [hvm] at h9
    exact h9
  have hall : s.sameButNew ({ U with vm := s.vm } : State) locs mc ms := by
    subst hA
    obtain ⟨e1, e2⟩ := hsame
    rw [State.setFrames_setFrames] at e1
    have h2 : (T.setVm s.vm).sameButNew ({ U with vm := s.vm } : State) [] (0 + 1) (0 + 6) := ⟨e1, e2⟩
    have h3 := X.same.trans h2
    rw [List.append_nil] at h3
    exact h3.mono hc hs
  refine ⟨U, ?_, .threw T.heap.size, hrun, hend, Or.inr ⟨T.heap.size, rfl, cls, ce, locs, hx U hWs.alike f1 (fun q hq => f2 q hq (fun z hz => nomatch hz)), hce, hO.vm, hcl, hWs, hall, hf⟩⟩
  refine st1 _ ?_
  show Steps p.tables e below (T1.setTop { method := m, pc := pc + 3, locals := ls, stack := .ref T.heap.size :: rest, locked := none }) _
  jvm_step X₁.here [X₁.here.top, hexec, d3', Value.category]
  exact X₁.ldcString hexec (own := own) (text := text) (index := is) (a := sa) hown' hstr'.1 hstr'.2
    (g := { method := m, pc := pc + 4, locals := ls, stack := .ref T.heap.size :: .ref T.heap.size :: rest, locked := none }) rfl d4' _ hsteps
/-- 'throw new E("text")', the text by a wide index -/
theorem vx_throwSW {cc : ByteArray} {pc : Nat} (hexec : p.tables.exec = Jvm.exec) (hb : c.code = cc) (hl : l.stackTraces = false) {own cls text : String} {names : List String} {ik is ic mc ms sa : Nat} {A : Nat → Prop}
    (hown : s.vm.findClass own = some m.cls) (hcls : Bundle.fit cls = true) (hnames : ∀ n ∈ names, Bundle.fit n = true)
    (hk : (Cond.classLink own ik cls).before args s = true) (hini : (Cond.initialized cls).before args s = true) (hstr : vk_R own is text sa s) (hat : ∀ w ∈ vx_atS own ic cls names, w.before args s = true)
    (hgood : ∀ w ∈ Cond.classLink own ik cls :: Cond.initialized cls :: vx_atS own ic cls names, vx_ot w = true)
    (hU : vx_Zq Bundle.tN "UNASSIGNED_STACK" Bundle.steD A s s.heap) (hN : vx_Zq Bundle.tN "SUPPRESSED_SENTINEL" Bundle.listD A s s.heap) (hS : va_S A s.heap H locs) (hsize : ls.size = c.maxLocals)
    (d0 : decode cc pc = .ok (.new ik, 3)) (d3 : decode cc (pc + 3) = .ok (.dup, 1)) (d4 : decode cc (pc + 4) = .ok (.ldc_w is, 3)) (d7 : decode cc (pc + 7) = .ok (.invokespecial ic, 3)) (d10 : decode cc (pc + 10) = .ok (.athrow, 1))
    (hout : ∀ x ∈ c.exceptionTable.toList, covers x (pc + 10) = false)
    (hRframes : names.length + 3 < R.frames) (hRlocals : (rest.map fun v => v.category).sum + (13 * (names.length + 1) + 43) ≤ R.locals) (hRcells : cells + 1 ≤ R.cells) (hRslots : slots + 6 ≤ R.slots) (hlocks : meth.locks = false)
    (hx : ∀ t : State, s.vm.Alike t.vm → H.size ≤ t.heap.size → (∀ q : Nat, q < H.size → t.heap[q]? = H[q]?) → XC cls s t)
    (hf : ∀ z ∈ locs, free z.base) (hc : cells + 1 ≤ mc) (hs : slots + 6 ≤ ms) :
    W p l e R s m args below meth c H locs cells slots (vx_MQ below Qc XC args s mc ms free) (F0 m pc ls rest) := by
  intro T hT X
  have htr : e.platform.stackTraces = false := (show e.platform.stackTraces = l.stackTraces by rw [X.admits.platform]).trans hl
  have Y := vx_rebase X (R' := { frames := R.frames, locals := R.locals, cells := 1, slots := 6 }) (Nat.le_refl _) (Nat.le_refl _) hRcells hRslots
  obtain ⟨s', hA⟩ : ∃ z, z = (T.setVm s.vm).setFrames (.invoking m args :: below) := ⟨_, rfl⟩
  rw [← hA] at Y
  have hvm : s'.vm = s.vm := by rw [hA]; rfl
  have hhp : s'.heap = H := by rw [hA]; exact hT
  have hW0 : s.WarmedH s'.vm := by rw [hvm]; exact State.WarmedH.refl s
  have hat' : ∀ w ∈ vx_atS own ic cls names, w.before args s' = true := fun w hw => vx_ot_at hW0 hvm.symm (hgood w (List.mem_cons_of_mem _ (List.mem_cons_of_mem _ hw))) (hat w hw)
  have hk' : (Cond.classLink own ik cls).before args s' = true := vx_ot_at hW0 hvm.symm (hgood _ List.mem_cons_self) hk
  have hini' : (Cond.initialized cls).before args s' = true := vx_ot_at hW0 hvm.symm (hgood _ (List.mem_cons_of_mem _ List.mem_cons_self)) hini
  have hU' : vx_Zq Bundle.tN "UNASSIGNED_STACK" Bundle.steD A s' s'.heap := by rw [hhp]; exact vx_Zq.moved hW0.alike (hU.kept hS.2.1)
  have hN' : vx_Zq Bundle.tN "SUPPRESSED_SENTINEL" Bundle.listD A s' s'.heap := by rw [hhp]; exact vx_Zq.moved hW0.alike (hN.kept hS.2.1)
  have h : ∀ w ∈ Bundle.ownAtoms own ic cls names, w.before args s' = true := vx_own hat' (vx_isRefq hU'.1) (vx_isRefq hN'.1) hU'.2.word hN'.2.word
  have hown' : s'.vm.findClass own = some m.cls := by rw [hvm]; exact hown
  have hins : (Cond.instantiable cls 6).before args s' = true := h _ (by simp [Bundle.ownAtoms])
  obtain ⟨vm₁, cX, kX, hfX, hkX, -, -, X₁, st1⟩ := Y.newCold hexec (own := own) (C := cls) (index := ik) (n := 6) hown' hk' hins hini'
    (g := F0 m pc ls rest) rfl (by rw [hb]; exact d0) (Nat.le_refl _) (Nat.le_refl _)
  generalize hT1 : (T.setVm vm₁).pushCell { cls := cX, slots := kX.instanceTypes.map defaultValue, vm := .none } = T1 at X₁ st1
  have hcat : (Value.ref T.heap.size).category = 1 := rfl
  have hcellA : T1.heap[T.heap.size]? = some (freshCell cX kX) := by rw [← hT1]; exact State.heap_pushCell_size _ _
  have d3' : decode c.code (pc + 3) = .ok (.dup, 1) := by rw [hb]; exact d3
  have d4' : decode c.code (pc + 4) = .ok (.ldc_w is, 3) := by rw [hb]; exact d4
  have hstr' : vk_R own is text sa s' := vk_R.warm hW0 hstr
  obtain ⟨U, hsteps, hrun, hend, hW, hsame, ce, hce, hO⟩ := X₁.ctorThrowS hexec htr (own := own) (cls := cls) (names := names) (ic := ic) hown' hcls hnames h (fun x hx => nomatch hx) hfX hkX hcellA (by rw [hhp, hT]; exact Nat.le_refl _) (msg := .ref sa) rfl
    (g := { method := m, pc := pc + 7, locals := ls, stack := .ref sa :: .ref T.heap.size :: .ref T.heap.size :: rest, locked := none }) rfl hsize rfl rfl (rest := rest) rfl
    (by rw [hb]; exact d7) (by rw [hb]; exact d10) hout hRframes (by simp only [List.map_cons, List.sum_cons, hcat]; omega) hlocks
  obtain ⟨f1, f2⟩ := vx_frame hsame
  rw [hhp] at f1 f2
  have hWs : s.WarmedH U.vm := State.WarmedH.trans hW0 hW
  have hcl : s.vm.findClass cls = some ce.cls := by
    have h9 := hO.cls
    rw [hvm] at h9
    exact h9
  have hall : s.sameButNew ({ U with vm := s.vm } : State) locs mc ms := by
    subst hA
    obtain ⟨e1, e2⟩ := hsame
    rw [State.setFrames_setFrames] at e1
    have h2 : (T.setVm s.vm).sameButNew ({ U with vm := s.vm } : State) [] (0 + 1) (0 + 6) := ⟨e1, e2⟩
    have h3 := X.same.trans h2
    rw [List.append_nil] at h3
    exact h3.mono hc hs
  refine ⟨U, ?_, .threw T.heap.size, hrun, hend, Or.inr ⟨T.heap.size, rfl, cls, ce, locs, hx U hWs.alike f1 (fun q hq => f2 q hq (fun z hz => nomatch hz)), hce, hO.vm, hcl, hWs, hall, hf⟩⟩
  refine st1 _ ?_
  show Steps p.tables e below (T1.setTop { method := m, pc := pc + 3, locals := ls, stack := .ref T.heap.size :: rest, locked := none }) _
  jvm_step X₁.here [X₁.here.top, hexec, d3', Value.category]
  exact X₁.ldcStringW hexec (own := own) (text := text) (index := is) (a := sa) hown' hstr'.1 hstr'.2
    (g := { method := m, pc := pc + 4, locals := ls, stack := .ref T.heap.size :: .ref T.heap.size :: rest, locked := none }) rfl d4' _ hsteps
end Ends
section Bodies
variable {l : Launch}
theorem vx_ofW {y : MethodName} {ws ws' : List Cond} {rm : Room} {Pc : Array Value → State → Prop} {Qc : Array Value → State → Outcome → State → Prop} {XC : String → State → State → Prop} {mc ms : Nat} {free : Addr → Prop} {cc : ByteArray} {maxL : Nat} {ret : Option FieldType}
    (hy : plainName y.cls = true) (hw : ws = Cond.code y cc maxL ret :: ws')
    (body : ∀ p e s m args below meth c s₁, BodyLoose p l y (headSpec ws rm) cc maxL ret e s m args below meth c s₁ → c.maxLocals = maxL → (∀ x ∈ c.exceptionTable.toList, False) → Pc args s →
      W p l e (headSpec ws rm).room s m args below meth c s.heap [] 0 0 (vx_MQ below Qc XC args s mc ms free) (entryFrame m args maxL)) : vx_Met l y ws rm Pc Qc XC mc ms free := by
  refine MetFree.of_bodyS (code := cc) (maxLocals := maxL) (ret := ret) hy ?_ ?_
  · intro args s m h hn
    obtain ⟨meth, c, h1, h2, h3, h4, h5, h6, -, -⟩ := Cond.code_spec hn (atoms_spec (ws := ws) h _ (by rw [hw]; exact List.mem_cons_self))
    exact ⟨meth, c, h1, h2, h3, h4, h5, h6⟩
  · intro p e s m args below meth c s₁ B hml hP _
    have hh0 : s₁.heap = s.heap := by rw [B.state]; rfl
    have ht : ∀ x ∈ c.exceptionTable.toList, False := by
      obtain ⟨meth9, c9, h1, h2, -, -, -, -, h7, -⟩ := Cond.code_spec B.named (atoms_spec (ws := ws) B.pre _ (by rw [hw]; exact List.mem_cons_self))
      cases Option.some.inj (h1.symm.trans B.method)
      cases Option.some.inj (h2.symm.trans (Stand.of_body B).code)
      intro x hx
      rw [Array.isEmpty_iff.mp h7] at hx
      cases hx
    obtain ⟨t, a1, o, b1, b2, b3⟩ := body p e s m args below meth c s₁ B hml ht hP s₁ hh0 (Stand.of_body B)
    exact ⟨t, o, a1, b1, b2, b3⟩
/-- the table of a body with handlers -/
theorem vx_table {p : Program} {x y : MethodName} {S : Spec} {cc bytes : ByteArray} {maxL maxL' : Nat} {ret ret' : Option FieldType} {e : Env} {s s₁ : State} {m : MethodId} {args : Array Value} {below : List Frame} {meth : Method} {c : Code} {hh : List (Nat × Nat × Nat × Nat)}
    (B : BodyLoose p l y S cc maxL ret e s m args below meth c s₁) (h : (Cond.codeWith y bytes maxL' ret' hh).before args s = true) : c.exceptionTable.toList = tableOf hh := by
  obtain ⟨m9, meth9, c9, hn9, h1, h2, -, -, h6, -⟩ := Cond.codeWith_spec h
  cases Option.some.inj (hn9.symm.trans B.named)
  cases Option.some.inj (h1.symm.trans B.method)
  cases Option.some.inj (h2.symm.trans (Stand.of_body B).code)
  rw [← h6, table_eq]
end Bodies
end VXA
/-! ===== END ===== -/
/-! ===== BEGIN a static call of a method with an exception table ===== -/
section VXS
variable {p : Program} {l : Launch} {e : Env} {R : Room} {s : State} {m : MethodId} {args : Array Value} {below : List Frame} {meth : Method} {c : Code} {T : State} {H : Heap} {locs : List Loc} {cells slots : Nat}
abbrev vx_CSW (R : Room) (s : State) (args : Array Value) (own : String) (index : Nat) (y : MethodName) (bytes : ByteArray) (maxL : Nat) (ret : Option FieldType) (hh : List (Nat × Nat × Nat × Nat)) (ws : List Cond) (rm : Room) (mc ms n : Nat) : Prop :=
  (rm.cells = mc ∧ rm.slots = ms ∧ rm.frames + 1 ≤ R.frames ∧ 8 + (maxL + 11) + rm.locals ≤ R.locals ∧ (∀ w ∈ ws, ∀ (a' : Array Value) (U : State), s.WarmedH U.vm → w.before a' U = true) ∧ Cond.codeWith y bytes maxL ret hh ∈ ws) ∧
  (Cond.codeWith y bytes maxL ret hh).before args s = true ∧ (Cond.initialized y.cls).before args s = true ∧ (y.cls ≠ "java/lang/invoke/MethodHandle" ∧ y.cls ≠ "java/lang/invoke/VarHandle") ∧
  (∀ sig, parseMethodDescriptor y.desc = some sig → n = sig.parameters.length) ∧ (Cond.methodLink own index y).before args s = true ∧ (Cond.static y).before args s = true
theorem vx_cwSW {own : String} {index maxL mc ms : Nat} {y : MethodName} {bytes : ByteArray} {ret : Option FieldType} {hh : List (Nat × Nat × Nat × Nat)} {Ts ws ws' : List Cond} {rm : Room} (n : Nat) (ht : ∀ w ∈ Ts, w.before args s = true) (hT : GoodIn Ts (va_wsS own index y ws)) (hw : ws = Cond.codeWith y bytes maxL ret hh :: ws') (hrc : rm.cells = mc) (hrs : rm.slots = ms)
    (hd : y.cls ≠ "java/lang/invoke/MethodHandle" ∧ y.cls ≠ "java/lang/invoke/VarHandle" ∧ (parseMethodDescriptor y.desc).map (fun d => d.parameters.length) = some n) (hR : rm.frames + 1 ≤ R.frames ∧ 8 + (maxL + 11) + rm.locals ≤ R.locals) :
    vx_CSW R s args own index y bytes maxL ret hh ws rm mc ms n := by
  have ok : ∀ w ∈ va_wsS own index y ws, w.before args s = true := fun w h => ht w (hT w h).1
  have hG : GoodIn Ts ws := fun w h => hT w (by unfold va_wsS; exact List.mem_append_right _ h)
  have hc : Cond.codeWith y bytes maxL ret hh ∈ ws := by rw [hw]; exact List.mem_cons_self
  refine ⟨⟨hrc, hrs, hR.1, hR.2, pay_in ht hG, hc⟩, ht _ (hG _ hc).1, ok _ (by simp [va_wsS]), ⟨hd.1, hd.2.1⟩, fun sig h => ?_, ok _ (by simp [va_wsS]), ok _ (by simp [va_wsS])⟩
  have h2 := hd.2.2
  rw [h] at h2
  exact (Option.some.inj h2).symm
theorem vx_callSW (X : Stand p l e R s m args below meth c T locs cells slots) (hexec : p.tables.exec = Jvm.exec) {own : String} {index : Nat} {y : MethodName} {bytes : ByteArray} {maxL : Nat} {ret : Option FieldType} {hh : List (Nat × Nat × Nat × Nat)}
    (hown : s.vm.findClass own = some m.cls) (hlink : (Cond.methodLink own index y).before args s = true) (hstat : (Cond.static y).before args s = true) (hinit : (Cond.initialized y.cls).before args s = true)
    (hcode : (Cond.codeWith y bytes maxL ret hh).before args s = true) (hy : y.cls ≠ "java/lang/invoke/MethodHandle" ∧ y.cls ≠ "java/lang/invoke/VarHandle")
    {W9 : Nat} {Pre : Pt → Array Value → Prop} {Post : Pt → Array Value → Option Value → Pt → Prop} (hK : Back l R p e below s args y 3 W9 Pre Post)
    {g : JFrame} (hg : g.method = m) (hsize : g.locals.size = c.maxLocals) {argsL rest : List Value} (hlen : ∀ sig, parseMethodDescriptor y.desc = some sig → argsL.length = sig.parameters.length)
    (hstack : g.stack = argsL.reverse ++ rest) (hW : 2 * g.monitorRoom + (rest.map fun v => v.category).sum ≤ W9) (hdg : decode c.code g.pc = .ok (.invokestatic index, 3))
    (hpre : ∀ vm₁, s.WarmedH vm₁ → Pre ⟨T.setVm vm₁, locs, cells, slots⟩ argsL.toArray) :
    ∃ (v : Option Value) (vm₁ : Vm) (B : Pt), s.WarmedH vm₁ ∧ Stand p l e R s m args below meth c B.U B.locs B.cells B.slots ∧ Post ⟨T.setVm vm₁, locs, cells, slots⟩ argsL.toArray v B ∧
      ∀ target, Steps p.tables e below (B.U.setTop { g with pc := g.pc + 3, stack := v.toList ++ rest }) target → Steps p.tables e below (T.setTop g) target := by
  obtain ⟨mk, methM, cM, hnamed, hmethM, -, -, -, -, -, -, hsigM⟩ := Cond.codeWith_spec hcode
  have hstatic : methM.isStatic = true := Cond.static_spec hnamed hmethM hstat
  obtain ⟨kP, hkP, -⟩ := className_of_methodNamed hnamed
  have hinitP : kP.init = .initialized := Cond.initialized_spec (findClass_of_methodNamed hnamed) hkP hinit
  obtain ⟨vm₁, X₁, hstep₁⟩ := X.invokestatic hexec hown hlink hnamed hmethM hstatic hkP hinitP hy (g := g) hg (argsL := argsL) (rest := rest) (hlen _ hsigM) hstack hdg
  obtain ⟨v, B, X', hpost, hsteps⟩ := hK m meth c ⟨T.setVm vm₁, locs, cells, slots⟩ { g with stack := rest } (.invokestatic index) mk argsL.toArray X₁ hg hsize hdg hW (X₁.named hnamed) (hpre vm₁ X₁.warmed)
  exact ⟨v, vm₁, B, X₁.warmed, X', hpost, fun target h => hstep₁ _ fun acts => by rw [doInvoke_state]; exact hsteps.trans h⟩
theorem vx_runSW {y : MethodName} {bytes cc : ByteArray} {maxL nL mc ms n index : Nat} {ret : Option FieldType} {hh : List (Nat × Nat × Nat × Nat)} {ws : List Cond} {rm : Room} {Pc : Array Value → State → Prop} {Qc : Array Value → State → Outcome → State → Prop} {free : Addr → Prop} {Ts : List Cond} {own : String} {As rest : List Value} {g : JFrame}
    (S : CallFix p m c cc nL s args Ts own) (hM : Met l y ws rm Pc Qc mc ms free) (cw : vx_CSW R s args own index y bytes maxL ret hh ws rm mc ms n) (hp : PreS s H Pc As)
    (hg : g.method = m) (hn : As.length = n) (hsize : g.locals.size = nL) (hstack : g.stack = As.reverse ++ rest) (hW : 2 * g.monitorRoom + (rest.map fun v => v.category).sum ≤ 8) (hdg : decode cc g.pc = .ok (.invokestatic index, 3)) (hf : cells + mc ≤ R.cells ∧ slots + ms ≤ R.slots) :
    va_Run p l e R s m args below meth c H locs cells slots mc ms g rest (Qc As.toArray) (free) := by
  obtain ⟨⟨hrc, hrs, hfr, hlo, hws, hcw⟩, hcode, hini, hy, hlen, hl, hstt⟩ := cw
  have hK : Back l R p e below s args y 3 8 (PreOf R mc ms Pc) (PostOf Qc mc ms free) := va_backW (hh := hh) (bytes := bytes) (maxL := maxL) (ret := ret) hM hp.1 hrc hrs hfr hlo hws hcw (fun a' U hW => word_at hW (Or.inl (by first | rfl | simp [Cond.onTables, Cond.keeps, Cond.steady])) hini)
  obtain ⟨hx, hb, hml, ho, -⟩ := S
  intro T hT X
  obtain ⟨v, vm₁, ⟨U', l2, c2, s2⟩, hW₁, X', ⟨g', mk, t, L, e1, e2, hq, h1, hL, h2, h3⟩, st⟩ := vx_callSW X hx (hh := hh) (bytes := bytes) (maxL := maxL) (ret := ret) ho hl hstt hini hcode hy hK hg (hsize.trans hml.symm) (argsL := As) (rest := rest) (fun sig h => hn.trans (hlen sig h)) hstack hW (by rw [hb]; exact hdg)
    (fun vm₁ hW₁ => ⟨hf.1, hf.2, hp.2 (T.setVm vm₁) hT hW₁⟩)
  dsimp only [Pt.U, Pt.locs, Pt.cells, Pt.slots] at X' e1 e2 h1 h2 h3 st
  subst h1; subst h2; subst h3
  exact ⟨v, (T.setVm vm₁).calling g' mk As.toArray, t, U', L, hT, X', hL, e1, e2, hq, st⟩
/-- not caught here, past rows that name other classes: it goes on to the caller -/
theorem vx_outP {p : Program} {l : Launch} {e : Env} {R : Room} {s : State} {m : MethodId} {args : Array Value} {below : List Frame} {meth : Method} {c : Code} {H : Heap} {locs : List Loc} {cells slots : Nat} {free : Addr → Prop} {ls : Array Slot} {rest : List Value} {Qc : Array Value → State → Outcome → State → Prop} {XC : String → State → State → Prop}
    {pc : Nat} {own E : String} {ce : Cell} {q : Addr} {mc ms : Nat} (hown : s.vm.findClass own = some m.cls) (hlocks : meth.locks = false)
    (hpass : ∀ z ∈ c.exceptionTable.toList, covers z pc = false ∨ (z.catchType ≠ 0 ∧ ∃ nm : String, (Cond.classLink own z.catchType nm).before args s = true ∧ va_Nc E nm s)) (hcell : H[q]? = some ce) (hv : ce.vm = .none) (hcl : s.vm.findClass E = some ce.cls)
    (hx : ∀ t : State, t.heap = H → s.vm.Alike t.vm → XC E s t) (hf : ∀ z ∈ locs, free z.base) (hc : cells ≤ mc) (hs : slots ≤ ms) :
    vx_W p l e R s m args below meth c H locs cells slots (vx_MQ below Qc XC args s mc ms free) (F0 m pc ls rest) q := by
  intro T hT X
  have hpl : e.platform.magicAccessors = ({} : Platform).magicAccessors := by rw [X.admits.platform]
  obtain ⟨vm', hW', X', st⟩ := X.outThrough hlocks q (g := F0 m pc ls rest) rfl rfl rfl (cell := ce) (by rw [hT]; exact hcell) (by rw [hv]; rfl)
    (by obtain ⟨k9, h9, -⟩ := Vm.findClass_spec hcl; exact ⟨k9, h9⟩) (fun z hz => by
      rcases hpass z hz with h | ⟨hz0, nm, hl1, hn1⟩
      · exact Or.inl h
      · obtain ⟨c6, hc6, hcl6⟩ := Cond.classLink_spec hown hl1 e.platform hpl
        obtain ⟨a8, b8, h1, h2, h3⟩ := hn1
        cases Option.some.inj (h1.symm.trans hcl)
        cases Option.some.inj (h2.symm.trans hc6)
        exact Or.inr ⟨hz0, _, hcl6, h3⟩)
  obtain ⟨g₀, hfr⟩ := X'.frames_eq
  have hcell9 : ((T.setVm vm').setFrames (.throwing q :: below)).heap[q]? = some ce := by
    show T.heap[q]? = some ce
    rw [hT]; exact hcell
  have hend : Ended ((T.setVm vm').setFrames (.throwing q :: below)) below (.threw q) := State.frames_setFrames _ (State.cur_lt_of_frames hfr)
  refine ⟨(T.setVm vm').setFrames (.throwing q :: below), ?_, .threw q, X'.here.running, hend, Or.inr ⟨q, rfl, E, ce, locs, hx _ hT (X'.ends _).1.alike, hcell9, hv, hcl, (X'.ends _).1, (X'.ends _).2.mono hc hs, hf⟩⟩
  rw [X.pushThrowing_eq]
  exact st
/-- a thing of a world lies in the heap -/
theorem vx_lt {D : va_G} {cl : List vw_C} {ws : va_W} {H1 : Heap} (h : va_P D cl ws H1) {k : Nat} {q : Nat × va_E} (hk : ws[k]? = some q) : q.1 < H1.size := (h k q hk).lt
end VXS
/-! ===== END ===== -/
/-! ===== BEGIN methods with a table of their own: called by a name, returning or throwing ===== -/
section VXH
/-! vx_backW, vx_callVX, vx_callSX, vx_callVW, vx_runVW, vx_runVX, vx_runSX, vx_ofWH follow the same proofs as their sisters above (Free/Laws.lean, Shelf42/LK1.lean); vx_outP calls Shelf42/NT130.lean (outThrough). -/
section
variable {l : Launch} {R : Room} {p : Program} {e : Env} {below : List Frame} {s : State} {sargs : Array Value} {y : MethodName} {len W9 : Nat}
theorem vx_backW {ws : List Cond} {rm : Room} {Pc : Array Value → State → Prop} {Qc : Array Value → State → Outcome → State → Prop} {XC : String → State → State → Prop} {mc ms : Nat} {free : Addr → Prop} {bytes : ByteArray} {maxL : Nat} {ret : Option FieldType} {hh : List (Nat × Nat × Nat × Nat)}
    (hM : vx_Met l y ws rm Pc Qc XC mc ms free) (hblind : FrameBlind Pc) (hrc : rm.cells = mc) (hrs : rm.slots = ms)
    (hframes : rm.frames + 1 ≤ R.frames) (hlocals : W9 + (maxL + 11) + rm.locals ≤ R.locals)
    (hws : ∀ w ∈ ws, ∀ a' U, s.WarmedH U.vm → w.before a' U = true) (hcode : Cond.codeWith y bytes maxL ret hh ∈ ws) (hinit : ∀ a' U, s.WarmedH U.vm → (Cond.initialized y.cls).before a' U = true) :
    vx_Back l R p e below s sargs y len W9 (PreOf R mc ms Pc) (PostOf Qc mc ms free) (vx_Post XC mc ms free) := by
  intro m meth c A g ig mk a X hg hsize hdg hW hn hp
  have h1 : (headSpec ws rm).pre.before a A.U = true := atoms_intro fun w hw => hws w hw _ _ X.warmed
  have h2 : (Cond.codeWith y bytes maxL ret hh).before a A.U = true := hws _ hcode _ _ X.warmed
  have h3 : (Cond.initialized y.cls).before a A.U = true := hinit _ _ X.warmed
  have h4 : A.cells + (headSpec ws rm).room.cells ≤ R.cells := by rw [show (headSpec ws rm).room.cells = mc from hrc]; exact hp.1
  have h5 : A.slots + (headSpec ws rm).room.slots ≤ R.slots := by rw [show (headSpec ws rm).room.slots = ms from hrs]; exact hp.2.1
  have hPc : Pc a (A.U.calling g mk a) := hblind _ _ _ _ hp.2.2
  obtain ⟨U, Ls, c0, s0⟩ := A
  dsimp only [Pt.U, Pt.locs, Pt.cells, Pt.slots] at h1 h2 h3 h4 h5 X hn hPc ⊢
  obtain ⟨m9, methY, cY, hn9, hmY, hcY, -, hlY, -⟩ := Cond.codeWith_spec h2
  cases Option.some.inj (hn9.symm.trans hn)
  obtain ⟨kY, hkY, -⟩ := className_of_methodNamed hn
  have hinitY : kY.init = .initialized := Cond.initialized_spec (findClass_of_methodNamed hn) hkY h3
  have h : At U g.method c below := by rw [hg]; exact X.here
  have hlocals9 : W9 + (maxL + 11) + (headSpec ws rm).room.locals ≤ R.locals := hlocals
  have happ : (headSpec ws rm).appliesLoose y e.platform (U.calling g mk a) = true :=
    Spec.appliesLoose_calling (g := g) h hdg hn hkY hinitY
      (X.room_calling (g := g) (R' := (headSpec ws rm).room) hsize hmY hcY hframes (by rw [hlY]; omega) h4 h5) h1
  obtain ⟨mid, hmid⟩ := h.above
  have hfr : (U.setTop g).frames = (.java g :: mid) ++ below := by rw [State.frames_setTop' g h.top, hmid]; rfl
  obtain ⟨o, s₂, hsteps, -, hend, hq⟩ := Steps.callFree hM p X.admits X.cas X.clock (acts := []) hfr happ hPc trivial
  have hq' : vx_Q Qc XC mc ms free a (U.calling g mk a) o s₂ := hq
  rw [State.frames_setTop' g h.top] at hend
  obtain ⟨g₀, hg0⟩ := Option.isSome_iff_exists.mp h.top
  obtain ⟨r, hr⟩ := State.topJava?_eq_some.mp hg0
  have hr' : (({ U with heap := s₂.heap, slotsUsed := s₂.slotsUsed } : State).setVm s₂.vm).frames = .java g₀ :: r := hr
  rcases hq' with ⟨hqc, L, hfe, hL⟩ | ⟨q, rfl, E, ce, L, hx, hce, hcv, hcl, hW₂, hsm, hL⟩
  · obtain ⟨⟨v, rfl⟩, hW₂, e2, q2, q3, q4, q5, q6⟩ := id hfe
    have e3 : s₂ = ({ (U.calling g mk a).setFrames s₂.frames with heap := s₂.heap, slotsUsed := s₂.slotsUsed } : State).setVm s₂.vm := by
      have : s₂ = ({ s₂ with vm := (U.calling g mk a).vm } : State).setVm s₂.vm := rfl
      rw [e2] at this
      exact this
    obtain ⟨c₂, i₂, len₂, hc₂, hd₂, hf₂⟩ := hend
    have hW' : U.WarmedH s₂.vm := hW₂
    have hcc : c₂ = c := by
      have h1 : s₂.code? g.method = U.code? g.method := by
        rw [State.code?_eq, State.code?_eq, hW'.alike.method?]
      exact Option.some.inj (hc₂.symm.trans (h1.trans h.code))
    subst hcc
    have hlen : len₂ = len := by rw [hdg] at hd₂; cases hd₂; rfl
    subst hlen
    have hs₂ : s₂ = (({ U with heap := s₂.heap, slotsUsed := s₂.slotsUsed } : State).setVm s₂.vm).setTop { g with pc := g.pc + len₂, stack := v.toList ++ g.stack } := by
      refine e3.trans ?_
      rw [hf₂, State.calling_eq h.top, State.setFrames_setFrames, State.setTop_of_frames _ hr', hr]
      rfl
    have hsame : U.sameButNew ({ U with heap := s₂.heap, slotsUsed := s₂.slotsUsed } : State) L mc ms := by
      refine ⟨?_, q2, q3, q4, q5, q6⟩
      obtain ⟨t, ht, -⟩ := State.frames_cons hr
      show ({ U with heap := s₂.heap, slotsUsed := s₂.slotsUsed } : State) = { U.setFrames U.frames with heap := s₂.heap, slotsUsed := s₂.slotsUsed }
      rw [State.setFrames_self ht]
    subst hg
    refine Or.inl ⟨v, ⟨(({ U with heap := s₂.heap, slotsUsed := s₂.slotsUsed } : State).setVm s₂.vm), Ls ++ L, c0 + mc, s0 + ms⟩,
      ⟨X.admits, X.cas, X.clock, X.frames, X.room, X.hears, X.method, X.code, (X.here.setHeapUsed s₂.heap s₂.slotsUsed).setVm hW'.alike, X.tail, State.WarmedH.trans X.warmed hW', X.limits, X.bytes, X.same.trans (hsame.setVm s.vm)⟩,
      ⟨g, mk, s₂, L, rfl, rfl, hqc, rfl, hL, rfl, rfl⟩, ?_⟩
    show Steps p.tables e below _ ((({ U with heap := s₂.heap, slotsUsed := s₂.slotsUsed } : State).setVm s₂.vm).setTop { g with pc := g.pc + len₂, stack := v.toList ++ g.stack })
    rw [← hs₂]
    exact hsteps
  · obtain ⟨e2, q2, q3, q4, q5, q6⟩ := id hsm
    have e3 : s₂ = ({ (U.calling g mk a).setFrames s₂.frames with heap := s₂.heap, slotsUsed := s₂.slotsUsed } : State).setVm s₂.vm := by
      have : s₂ = ({ s₂ with vm := (U.calling g mk a).vm } : State).setVm s₂.vm := rfl
      rw [e2] at this
      exact this
    have hf₂ : s₂.frames = .throwing q :: .java g :: U.frames.tail := hend
    have hW' : U.WarmedH s₂.vm := hW₂
    have hs₂ : s₂ = ((({ U with heap := s₂.heap, slotsUsed := s₂.slotsUsed } : State).setVm s₂.vm).setTop g).pushFrame (.throwing q) := by
      refine e3.trans ?_
      rw [hf₂, State.calling_eq h.top, State.setFrames_setFrames, State.pushFrame, State.frames_setTop _ hr', State.setTop_of_frames _ hr', State.setFrames_setFrames, hr]
      rfl
    have hsame : U.sameButNew ({ U with heap := s₂.heap, slotsUsed := s₂.slotsUsed } : State) L mc ms := by
      refine ⟨?_, q2, q3, q4, q5, q6⟩
      obtain ⟨t, ht, -⟩ := State.frames_cons hr
      show ({ U with heap := s₂.heap, slotsUsed := s₂.slotsUsed } : State) = { U.setFrames U.frames with heap := s₂.heap, slotsUsed := s₂.slotsUsed }
      rw [State.setFrames_self ht]
    subst hg
    refine Or.inr ⟨q, ⟨(({ U with heap := s₂.heap, slotsUsed := s₂.slotsUsed } : State).setVm s₂.vm), Ls ++ L, c0 + mc, s0 + ms⟩,
      ⟨X.admits, X.cas, X.clock, X.frames, X.room, X.hears, X.method, X.code, (X.here.setHeapUsed s₂.heap s₂.slotsUsed).setVm hW'.alike, X.tail, State.WarmedH.trans X.warmed hW', X.limits, X.bytes, X.same.trans (hsame.setVm s.vm)⟩,
      ⟨g, mk, s₂, L, E, ce, rfl, rfl, hx, hce, hcv, hcl, rfl, hL, rfl, rfl⟩, ?_⟩
    show Steps p.tables e below _ (((({ U with heap := s₂.heap, slotsUsed := s₂.slotsUsed } : State).setVm s₂.vm).setTop g).pushFrame (.throwing q))
    rw [← hs₂]
    exact hsteps
end
variable {p : Program} {l : Launch} {e : Env} {R : Room} {s : State} {m : MethodId} {args : Array Value} {below : List Frame} {meth : Method} {c : Code} {T : State} {H : Heap} {locs : List Loc} {cells slots : Nat}
theorem vx_callVX (X : Stand p l e R s m args below meth c T locs cells slots) (hexec : p.tables.exec = Jvm.exec) {own C : String} {index : Nat} {y : MethodName} {bytes : ByteArray} {maxL : Nat} {ret : Option FieldType} {hh : List (Nat × Nat × Nat × Nat)}
    (hown : s.vm.findClass own = some m.cls) (hlink : (Cond.methodLink own index y).before args s = true) (hinst : (Cond.instanceMethod y).before args s = true) (hsel : (Cond.selects C y y).before args s = true)
    (hcode : (Cond.codeWith y bytes maxL ret hh).before args s = true) (hy : y.cls ≠ "java/lang/invoke/MethodHandle" ∧ y.cls ≠ "java/lang/invoke/VarHandle")
    {W9 : Nat} {Pre : Pt → Array Value → Prop} {Post : Pt → Array Value → Option Value → Pt → Prop} {PostX : Pt → Array Value → Addr → Pt → Prop} (hK : vx_Back l R p e below s args y 3 W9 Pre Post PostX)
    {b : Addr} {cellB : Cell} (hcell : T.heap[b]? = some cellB) (hobj : cellB.vm.isStatics = false) (hcls : s.vm.findClass C = some cellB.cls)
    {g : JFrame} (hg : g.method = m) (hsize : g.locals.size = c.maxLocals) {argsL rest : List Value} (hlen : ∀ sig, parseMethodDescriptor y.desc = some sig → argsL.length = sig.parameters.length)
    (hstack : g.stack = argsL.reverse ++ .ref b :: rest) (hW : 2 * g.monitorRoom + (rest.map fun v => v.category).sum ≤ W9) (hdg : decode c.code g.pc = .ok (.invokevirtual index, 3))
    (hpre : ∀ vm₁, s.WarmedH vm₁ → Pre ⟨T.setVm vm₁, locs, cells, slots⟩ (Value.ref b :: argsL).toArray) :
    (∃ (v : Option Value) (vm₁ : Vm) (B : Pt), s.WarmedH vm₁ ∧ Stand p l e R s m args below meth c B.U B.locs B.cells B.slots ∧ Post ⟨T.setVm vm₁, locs, cells, slots⟩ (Value.ref b :: argsL).toArray v B ∧
      ∀ target, Steps p.tables e below (B.U.setTop { g with pc := g.pc + 3, stack := v.toList ++ rest }) target → Steps p.tables e below (T.setTop g) target) ∨
    (∃ (q : Addr) (vm₁ : Vm) (B : Pt), s.WarmedH vm₁ ∧ Stand p l e R s m args below meth c B.U B.locs B.cells B.slots ∧ PostX ⟨T.setVm vm₁, locs, cells, slots⟩ (Value.ref b :: argsL).toArray q B ∧
      Steps p.tables e below (T.setTop g) ((B.U.setTop { g with stack := rest }).pushFrame (.throwing q))) := by
  obtain ⟨mk, methM, hnamed, hmethM, hstM, habM⟩ := Cond.instanceMethod_spec hinst
  obtain ⟨m8, methM', cM, hn8, hmethM', -, -, -, -, -, -, hsigM⟩ := Cond.codeWith_spec hcode
  cases Option.some.inj (hn8.symm.trans hnamed)
  cases hmethM.symm.trans hmethM'
  obtain ⟨c2, r2, m2, q1, q2, q3, q4, kP, hkP, hkPi⟩ := Cond.selects_spec hsel
  cases hcls.symm.trans q1
  cases (State.methodFound?_of_named hnamed hy).symm.trans q2
  cases hnamed.symm.trans q3
  have hselP : selectMethod e.platform s.vm cellB.cls mk = .method mk := by rw [Launch.admits_selectMethod X.admits]; exact q4
  obtain ⟨vm₁, X₁, hstep₁⟩ := X.invokevirtual hexec hown hlink hnamed hmethM hstM hkP hkPi hy (a := b) (cell := cellB) hcell
    (fun z h => by rw [h] at hobj; cases hobj) hselP hmethM habM hkP hkPi (g := g) hg (argsL := argsL) (rest := rest) (hlen _ hsigM) hstack hdg
  rcases hK m meth c ⟨T.setVm vm₁, locs, cells, slots⟩ { g with stack := rest } (.invokevirtual index) mk (Value.ref b :: argsL).toArray X₁ hg hsize hdg hW (X₁.named hnamed) (hpre vm₁ X₁.warmed) with ⟨v, B, X', hpost, hsteps⟩ | ⟨q, B, X', hpost, hsteps⟩
  · exact Or.inl ⟨v, vm₁, B, X₁.warmed, X', hpost, fun target h => hstep₁ _ fun acts => by rw [doInvoke_state]; exact hsteps.trans h⟩
  · exact Or.inr ⟨q, vm₁, B, X₁.warmed, X', hpost, hstep₁ _ fun acts => by rw [doInvoke_state]; exact hsteps⟩
theorem vx_callSX (X : Stand p l e R s m args below meth c T locs cells slots) (hexec : p.tables.exec = Jvm.exec) {own : String} {index : Nat} {y : MethodName} {bytes : ByteArray} {maxL : Nat} {ret : Option FieldType} {hh : List (Nat × Nat × Nat × Nat)}
    (hown : s.vm.findClass own = some m.cls) (hlink : (Cond.methodLink own index y).before args s = true) (hstat : (Cond.static y).before args s = true) (hinit : (Cond.initialized y.cls).before args s = true)
    (hcode : (Cond.codeWith y bytes maxL ret hh).before args s = true) (hy : y.cls ≠ "java/lang/invoke/MethodHandle" ∧ y.cls ≠ "java/lang/invoke/VarHandle")
    {W9 : Nat} {Pre : Pt → Array Value → Prop} {Post : Pt → Array Value → Option Value → Pt → Prop} {PostX : Pt → Array Value → Addr → Pt → Prop} (hK : vx_Back l R p e below s args y 3 W9 Pre Post PostX)
    {g : JFrame} (hg : g.method = m) (hsize : g.locals.size = c.maxLocals) {argsL rest : List Value} (hlen : ∀ sig, parseMethodDescriptor y.desc = some sig → argsL.length = sig.parameters.length)
    (hstack : g.stack = argsL.reverse ++ rest) (hW : 2 * g.monitorRoom + (rest.map fun v => v.category).sum ≤ W9) (hdg : decode c.code g.pc = .ok (.invokestatic index, 3))
    (hpre : ∀ vm₁, s.WarmedH vm₁ → Pre ⟨T.setVm vm₁, locs, cells, slots⟩ argsL.toArray) :
    (∃ (v : Option Value) (vm₁ : Vm) (B : Pt), s.WarmedH vm₁ ∧ Stand p l e R s m args below meth c B.U B.locs B.cells B.slots ∧ Post ⟨T.setVm vm₁, locs, cells, slots⟩ argsL.toArray v B ∧
      ∀ target, Steps p.tables e below (B.U.setTop { g with pc := g.pc + 3, stack := v.toList ++ rest }) target → Steps p.tables e below (T.setTop g) target) ∨
    (∃ (q : Addr) (vm₁ : Vm) (B : Pt), s.WarmedH vm₁ ∧ Stand p l e R s m args below meth c B.U B.locs B.cells B.slots ∧ PostX ⟨T.setVm vm₁, locs, cells, slots⟩ argsL.toArray q B ∧
      Steps p.tables e below (T.setTop g) ((B.U.setTop { g with stack := rest }).pushFrame (.throwing q))) := by
  obtain ⟨mk, methM, cM, hnamed, hmethM, -, -, -, -, -, -, hsigM⟩ := Cond.codeWith_spec hcode
  have hstatic : methM.isStatic = true := Cond.static_spec hnamed hmethM hstat
  obtain ⟨kP, hkP, -⟩ := className_of_methodNamed hnamed
  have hinitP : kP.init = .initialized := Cond.initialized_spec (findClass_of_methodNamed hnamed) hkP hinit
  obtain ⟨vm₁, X₁, hstep₁⟩ := X.invokestatic hexec hown hlink hnamed hmethM hstatic hkP hinitP hy (g := g) hg (argsL := argsL) (rest := rest) (hlen _ hsigM) hstack hdg
  rcases hK m meth c ⟨T.setVm vm₁, locs, cells, slots⟩ { g with stack := rest } (.invokestatic index) mk argsL.toArray X₁ hg hsize hdg hW (X₁.named hnamed) (hpre vm₁ X₁.warmed) with ⟨v, B, X', hpost, hsteps⟩ | ⟨q, B, X', hpost, hsteps⟩
  · exact Or.inl ⟨v, vm₁, B, X₁.warmed, X', hpost, fun target h => hstep₁ _ fun acts => by rw [doInvoke_state]; exact hsteps.trans h⟩
  · exact Or.inr ⟨q, vm₁, B, X₁.warmed, X', hpost, hstep₁ _ fun acts => by rw [doInvoke_state]; exact hsteps⟩
theorem vx_callVW (X : Stand p l e R s m args below meth c T locs cells slots) (hexec : p.tables.exec = Jvm.exec) {own C : String} {index : Nat} {y : MethodName} {bytes : ByteArray} {maxL : Nat} {ret : Option FieldType} {hh : List (Nat × Nat × Nat × Nat)}
    (hown : s.vm.findClass own = some m.cls) (hlink : (Cond.methodLink own index y).before args s = true) (hinst : (Cond.instanceMethod y).before args s = true) (hsel : (Cond.selects C y y).before args s = true)
    (hcode : (Cond.codeWith y bytes maxL ret hh).before args s = true) (hy : y.cls ≠ "java/lang/invoke/MethodHandle" ∧ y.cls ≠ "java/lang/invoke/VarHandle")
    {W9 : Nat} {Pre : Pt → Array Value → Prop} {Post : Pt → Array Value → Option Value → Pt → Prop} (hK : Back l R p e below s args y 3 W9 Pre Post)
    {b : Addr} {cellB : Cell} (hcell : T.heap[b]? = some cellB) (hobj : cellB.vm.isStatics = false) (hcls : s.vm.findClass C = some cellB.cls)
    {g : JFrame} (hg : g.method = m) (hsize : g.locals.size = c.maxLocals) {argsL rest : List Value} (hlen : ∀ sig, parseMethodDescriptor y.desc = some sig → argsL.length = sig.parameters.length)
    (hstack : g.stack = argsL.reverse ++ .ref b :: rest) (hW : 2 * g.monitorRoom + (rest.map fun v => v.category).sum ≤ W9) (hdg : decode c.code g.pc = .ok (.invokevirtual index, 3))
    (hpre : ∀ vm₁, s.WarmedH vm₁ → Pre ⟨T.setVm vm₁, locs, cells, slots⟩ (Value.ref b :: argsL).toArray) :
    ∃ (v : Option Value) (vm₁ : Vm) (B : Pt), s.WarmedH vm₁ ∧ Stand p l e R s m args below meth c B.U B.locs B.cells B.slots ∧ Post ⟨T.setVm vm₁, locs, cells, slots⟩ (Value.ref b :: argsL).toArray v B ∧
      ∀ target, Steps p.tables e below (B.U.setTop { g with pc := g.pc + 3, stack := v.toList ++ rest }) target → Steps p.tables e below (T.setTop g) target := by
  obtain ⟨mk, methM, hnamed, hmethM, hstM, habM⟩ := Cond.instanceMethod_spec hinst
  obtain ⟨m8, methM', cM, hn8, hmethM', -, -, -, -, -, -, hsigM⟩ := Cond.codeWith_spec hcode
  cases Option.some.inj (hn8.symm.trans hnamed)
  cases hmethM.symm.trans hmethM'
  obtain ⟨c2, r2, m2, q1, q2, q3, q4, kP, hkP, hkPi⟩ := Cond.selects_spec hsel
  cases hcls.symm.trans q1
  cases (State.methodFound?_of_named hnamed hy).symm.trans q2
  cases hnamed.symm.trans q3
  have hselP : selectMethod e.platform s.vm cellB.cls mk = .method mk := by rw [Launch.admits_selectMethod X.admits]; exact q4
  obtain ⟨vm₁, X₁, hstep₁⟩ := X.invokevirtual hexec hown hlink hnamed hmethM hstM hkP hkPi hy (a := b) (cell := cellB) hcell
    (fun z h => by rw [h] at hobj; cases hobj) hselP hmethM habM hkP hkPi (g := g) hg (argsL := argsL) (rest := rest) (hlen _ hsigM) hstack hdg
  obtain ⟨v, B, X', hpost, hsteps⟩ := hK m meth c ⟨T.setVm vm₁, locs, cells, slots⟩ { g with stack := rest } (.invokevirtual index) mk (Value.ref b :: argsL).toArray X₁ hg hsize hdg hW (X₁.named hnamed) (hpre vm₁ X₁.warmed)
  exact ⟨v, vm₁, B, X₁.warmed, X', hpost, fun target h => hstep₁ _ fun acts => by rw [doInvoke_state]; exact hsteps.trans h⟩
abbrev vx_CVW (R : Room) (s : State) (args : Array Value) (own C : String) (index : Nat) (y : MethodName) (bytes : ByteArray) (maxL : Nat) (ret : Option FieldType) (hh : List (Nat × Nat × Nat × Nat)) (ws : List Cond) (rm : Room) (mc ms n : Nat) : Prop :=
  (rm.cells = mc ∧ rm.slots = ms ∧ rm.frames + 1 ≤ R.frames ∧ 8 + (maxL + 11) + rm.locals ≤ R.locals ∧ (∀ w ∈ ws, ∀ (a' : Array Value) (U : State), s.WarmedH U.vm → w.before a' U = true) ∧ Cond.codeWith y bytes maxL ret hh ∈ ws) ∧
  (Cond.codeWith y bytes maxL ret hh).before args s = true ∧ (Cond.initialized y.cls).before args s = true ∧ (y.cls ≠ "java/lang/invoke/MethodHandle" ∧ y.cls ≠ "java/lang/invoke/VarHandle") ∧
  (∀ sig, parseMethodDescriptor y.desc = some sig → n = sig.parameters.length) ∧ (Cond.methodLink own index y).before args s = true ∧ (Cond.instanceMethod y).before args s = true ∧ (Cond.selects C y y).before args s = true
theorem vx_cwVW {own C : String} {index maxL mc ms : Nat} {y : MethodName} {bytes : ByteArray} {ret : Option FieldType} {hh : List (Nat × Nat × Nat × Nat)} {Ts ws ws' : List Cond} {rm : Room} (n : Nat) (ht : ∀ w ∈ Ts, w.before args s = true) (hT : GoodIn Ts (wsV own index C y ws)) (hw : ws = Cond.codeWith y bytes maxL ret hh :: ws') (hrc : rm.cells = mc) (hrs : rm.slots = ms)
    (hd : y.cls = C ∧ y.cls ≠ "java/lang/invoke/MethodHandle" ∧ y.cls ≠ "java/lang/invoke/VarHandle" ∧ (parseMethodDescriptor y.desc).map (fun d => d.parameters.length) = some n) (hR : rm.frames + 1 ≤ R.frames ∧ 8 + (maxL + 11) + rm.locals ≤ R.locals) :
    vx_CVW R s args own C index y bytes maxL ret hh ws rm mc ms n := by
  obtain ⟨hC, hd⟩ := hd
  subst hC
  have ok : ∀ w ∈ wsV own index y.cls y ws, w.before args s = true := fun w h => ht w (hT w h).1
  have hG : GoodIn Ts ws := fun w h => hT w (by unfold wsV; exact List.mem_append_right _ h)
  have hc : Cond.codeWith y bytes maxL ret hh ∈ ws := by rw [hw]; exact List.mem_cons_self
  refine ⟨⟨hrc, hrs, hR.1, hR.2, pay_in ht hG, hc⟩, ht _ (hG _ hc).1, ok _ (by simp [wsV]), ⟨hd.1, hd.2.1⟩, fun sig h => ?_, ok _ (by simp [wsV]), ok _ (by simp [wsV]), ok _ (by simp [wsV])⟩
  have h2 := hd.2.2
  rw [h] at h2
  exact (Option.some.inj h2).symm
theorem vx_runVW {y : MethodName} {bytes cc : ByteArray} {maxL nL mc ms n index : Nat} {ret : Option FieldType} {hh : List (Nat × Nat × Nat × Nat)} {ws : List Cond} {rm : Room} {Pc : Array Value → State → Prop} {Qc : Array Value → State → Outcome → State → Prop} {free : Addr → Prop} {Ts : List Cond} {own C : String} {b : Addr} {As rest : List Value} {g : JFrame}
    (S : CallFix p m c cc nL s args Ts own) (hM : Met l y ws rm Pc Qc mc ms free) (cw : vx_CVW R s args own C index y bytes maxL ret hh ws rm mc ms n) (hp : PreV s H C b Pc As)
    (hg : g.method = m) (hn : As.length = n) (hsize : g.locals.size = nL) (hstack : g.stack = As.reverse ++ .ref b :: rest) (hW : 2 * g.monitorRoom + (rest.map fun v => v.category).sum ≤ 8) (hdg : decode cc g.pc = .ok (.invokevirtual index, 3)) (hf : cells + mc ≤ R.cells ∧ slots + ms ≤ R.slots) :
    va_Run p l e R s m args below meth c H locs cells slots mc ms g rest (Qc (Value.ref b :: As).toArray) free := by
  obtain ⟨⟨hrc, hrs, hfr, hlo, hws, hcw⟩, hcode, hini, hy, hlen, hl, hin, hse⟩ := cw
  have hK : Back l R p e below s args y 3 8 (PreOf R mc ms Pc) (PostOf Qc mc ms free) := va_backW (hh := hh) (bytes := bytes) (maxL := maxL) (ret := ret) hM hp.1 hrc hrs hfr hlo hws hcw (fun a' U hW => word_at hW (Or.inl (by first | rfl | simp [Cond.onTables, Cond.keeps, Cond.steady])) hini)
  obtain ⟨hx, hb, hml, ho, -⟩ := S
  obtain ⟨-, ⟨cellB, hcB, hoB, hclB⟩, hPc⟩ := hp
  intro T hT X
  obtain ⟨v, vm₁, ⟨U', l2, c2, s2⟩, hW₁, X', ⟨g', mk, t, L, e1, e2, hq, h1, hL, h2, h3⟩, st⟩ := vx_callVW X hx (C := C) (hh := hh) (bytes := bytes) (maxL := maxL) (ret := ret) ho hl hin hse hcode hy hK (by rw [hT]; exact hcB) hoB hclB hg (hsize.trans hml.symm) (argsL := As) (rest := rest) (fun sig h => hn.trans (hlen sig h)) hstack hW (by rw [hb]; exact hdg)
    (fun vm₁ hW₁ => ⟨hf.1, hf.2, hPc (T.setVm vm₁) hT hW₁⟩)
  dsimp only [Pt.U, Pt.locs, Pt.cells, Pt.slots] at X' e1 e2 h1 h2 h3 st
  subst h1; subst h2; subst h3
  exact ⟨v, (T.setVm vm₁).calling g' mk (Value.ref b :: As).toArray, t, U', L, hT, X', hL, e1, e2, hq, st⟩
section
variable {y : MethodName} {bytes cc : ByteArray} {maxL nL mc ms n index : Nat} {ret : Option FieldType} {ws : List Cond} {rm : Room} {Pc : Array Value → State → Prop} {Qc : Array Value → State → Outcome → State → Prop} {XC : String → State → State → Prop} {free : Addr → Prop} {Ts : List Cond} {own C : String} {b : Addr} {As rest : List Value} {g : JFrame}
theorem vx_runVX {hh : List (Nat × Nat × Nat × Nat)} (S : CallFix p m c cc nL s args Ts own) (hM : vx_Met l y ws rm Pc Qc XC mc ms free) (cw : vx_CVW R s args own C index y bytes maxL ret hh ws rm mc ms n) (hp : PreV s H C b Pc As)
    (hg : g.method = m) (hn : As.length = n) (hsize : g.locals.size = nL) (hstack : g.stack = As.reverse ++ .ref b :: rest) (hW : 2 * g.monitorRoom + (rest.map fun v => v.category).sum ≤ 8) (hdg : decode cc g.pc = .ok (.invokevirtual index, 3)) (hf : cells + mc ≤ R.cells ∧ slots + ms ≤ R.slots) :
    vx_Run p l e R s m args below meth c H locs cells slots mc ms g rest (Qc (Value.ref b :: As).toArray) XC free := by
  obtain ⟨⟨hrc, hrs, hfr, hlo, hws, hcw⟩, hcode, hini, hy, hlen, hl, hin, hse⟩ := cw
  have hK : vx_Back l R p e below s args y 3 8 (PreOf R mc ms Pc) (PostOf Qc mc ms free) (vx_Post XC mc ms free) := vx_backW (hh := hh) (bytes := bytes) (maxL := maxL) (ret := ret) hM hp.1 hrc hrs hfr hlo hws hcw (fun a' U hW => word_at hW (Or.inl (by first | rfl | simp [Cond.onTables, Cond.keeps, Cond.steady])) hini)
  obtain ⟨hx, hb, hml, ho, -⟩ := S
  obtain ⟨-, ⟨cellB, hcB, hoB, hclB⟩, hPc⟩ := hp
  intro T hT X
  rcases vx_callVX X hx (C := C) (hh := hh) (bytes := bytes) (maxL := maxL) (ret := ret) ho hl hin hse hcode hy hK (by rw [hT]; exact hcB) hoB hclB hg (hsize.trans hml.symm) (argsL := As) (rest := rest) (fun sig h => hn.trans (hlen sig h)) hstack hW (by rw [hb]; exact hdg)
    (fun vm₁ hW₁ => ⟨hf.1, hf.2, hPc (T.setVm vm₁) hT hW₁⟩) with ⟨v, vm₁, ⟨U', l2, c2, s2⟩, hW₁, X', ⟨g', mk, t, L, e1, e2, hq, h1, hL, h2, h3⟩, st⟩ | ⟨q, vm₁, ⟨U', l2, c2, s2⟩, hW₁, X', ⟨g', mk, t, L, E, ce, e1, e2, hq, hce, hcv, hcl, h1, hL, h2, h3⟩, st⟩
  · dsimp only [Pt.U, Pt.locs, Pt.cells, Pt.slots] at X' e1 e2 h1 h2 h3 st
    subst h1; subst h2; subst h3
    exact Or.inl ⟨v, (T.setVm vm₁).calling g' mk (Value.ref b :: As).toArray, t, U', L, hT, X', hL, e1, e2, hq, st⟩
  · dsimp only [Pt.U, Pt.locs, Pt.cells, Pt.slots] at X' e1 e2 h1 h2 h3 st hcl
    subst h1; subst h2; subst h3
    exact Or.inr ⟨q, (T.setVm vm₁).calling g' mk (Value.ref b :: As).toArray, t, U', L, E, ce, hT, X', hL, e1, e2, hq, hce, hcv, vx_cls hW₁ hcl, st⟩
theorem vx_runSX {hh : List (Nat × Nat × Nat × Nat)} (S : CallFix p m c cc nL s args Ts own) (hM : vx_Met l y ws rm Pc Qc XC mc ms free) (cw : vx_CSW R s args own index y bytes maxL ret hh ws rm mc ms n) (hp : PreS s H Pc As)
    (hg : g.method = m) (hn : As.length = n) (hsize : g.locals.size = nL) (hstack : g.stack = As.reverse ++ rest) (hW : 2 * g.monitorRoom + (rest.map fun v => v.category).sum ≤ 8) (hdg : decode cc g.pc = .ok (.invokestatic index, 3)) (hf : cells + mc ≤ R.cells ∧ slots + ms ≤ R.slots) :
    vx_Run p l e R s m args below meth c H locs cells slots mc ms g rest (Qc As.toArray) XC free := by
  obtain ⟨⟨hrc, hrs, hfr, hlo, hws, hcw⟩, hcode, hini, hy, hlen, hl, hstt⟩ := cw
  have hK : vx_Back l R p e below s args y 3 8 (PreOf R mc ms Pc) (PostOf Qc mc ms free) (vx_Post XC mc ms free) := vx_backW (hh := hh) (bytes := bytes) (maxL := maxL) (ret := ret) hM hp.1 hrc hrs hfr hlo hws hcw (fun a' U hW => word_at hW (Or.inl (by first | rfl | simp [Cond.onTables, Cond.keeps, Cond.steady])) hini)
  obtain ⟨hx, hb, hml, ho, -⟩ := S
  intro T hT X
  rcases vx_callSX X hx (hh := hh) (bytes := bytes) (maxL := maxL) (ret := ret) ho hl hstt hini hcode hy hK hg (hsize.trans hml.symm) (argsL := As) (rest := rest) (fun sig h => hn.trans (hlen sig h)) hstack hW (by rw [hb]; exact hdg)
    (fun vm₁ hW₁ => ⟨hf.1, hf.2, hp.2 (T.setVm vm₁) hT hW₁⟩) with ⟨v, vm₁, ⟨U', l2, c2, s2⟩, hW₁, X', ⟨g', mk, t, L, e1, e2, hq, h1, hL, h2, h3⟩, st⟩ | ⟨q, vm₁, ⟨U', l2, c2, s2⟩, hW₁, X', ⟨g', mk, t, L, E, ce, e1, e2, hq, hce, hcv, hcl, h1, hL, h2, h3⟩, st⟩
  · dsimp only [Pt.U, Pt.locs, Pt.cells, Pt.slots] at X' e1 e2 h1 h2 h3 st
    subst h1; subst h2; subst h3
    exact Or.inl ⟨v, (T.setVm vm₁).calling g' mk As.toArray, t, U', L, hT, X', hL, e1, e2, hq, st⟩
  · dsimp only [Pt.U, Pt.locs, Pt.cells, Pt.slots] at X' e1 e2 h1 h2 h3 st hcl
    subst h1; subst h2; subst h3
    exact Or.inr ⟨q, (T.setVm vm₁).calling g' mk As.toArray, t, U', L, E, ce, hT, X', hL, e1, e2, hq, hce, hcv, vx_cls hW₁ hcl, st⟩
end
end VXH
theorem vx_ofWH {l : Launch} {y : MethodName} {ws ws' : List Cond} {rm : Room} {Pc : Array Value → State → Prop} {Qc : Array Value → State → Outcome → State → Prop} {XC : String → State → State → Prop} {mc ms : Nat} {free : Addr → Prop} {cc : ByteArray} {maxL : Nat} {ret : Option FieldType} {hh : List (Nat × Nat × Nat × Nat)}
    (hy : plainName y.cls = true) (hw : ws = Cond.codeWith y cc maxL ret hh :: ws')
    (body : ∀ p e s m args below meth c s₁, BodyLoose p l y (headSpec ws rm) cc maxL ret e s m args below meth c s₁ → c.maxLocals = maxL → Pc args s →
      W p l e (headSpec ws rm).room s m args below meth c s.heap [] 0 0 (vx_MQ below Qc XC args s mc ms free) (entryFrame m args maxL)) : vx_Met l y ws rm Pc Qc XC mc ms free := by
  refine MetFree.of_bodyS (code := cc) (maxLocals := maxL) (ret := ret) hy ?_ ?_
  · intro args s m h hn
    obtain ⟨m9, meth, c, hn9, h1, h2, h3, h4, -, h5, h6, -⟩ := Cond.codeWith_spec (atoms_spec (ws := ws) h _ (by rw [hw]; exact List.mem_cons_self))
    cases hn.symm.trans hn9
    exact ⟨meth, c, h1, h2, h3, h4, h5, h6⟩
  · intro p e s m args below meth c s₁ B hml hP _
    have hh0 : s₁.heap = s.heap := by rw [B.state]; rfl
    obtain ⟨t, a1, o, b1, b2, b3⟩ := body p e s m args below meth c s₁ B hml hP s₁ hh0 (Stand.of_body B)
    exact ⟨t, o, a1, b1, b2, b3⟩
/-! ===== END ===== -/

/-! ===== BEGIN what the machine throws by itself, no traces kept ===== -/
section VXM
set_option maxHeartbeats 1000000 in
/-- the machine throws cls with the message text, no traces kept: from its note over the frame g to 'throwing' over the same frame (follows the proofs of Stand.vmThrowsMessage, Shelf/KitTracedVmS.lean, and Stand.throwsMessageColdBareV, StandMessageColdV.lean, without the step out of the frame) -/
theorem vx_vmAt {p : Program} {l : Launch} {e : Env} {R : Room} {s : State} {m₀ : MethodId} {args : Array Value} {below : List Frame} {meth : Method} {c : Code} {W : State} {locs : List Loc} {cells slots : Nat}
    (X : Stand p l e R s m₀ args below meth c W locs cells slots) (hexec : p.tables.exec = Jvm.exec) (htr : e.platform.stackTraces = false) {cls : String} {names : List String} {text : String}
    (hcls : Bundle.fit cls = true) (hnames : ∀ n ∈ names, Bundle.fit n = true) (hsoe : (cls == "java/lang/StackOverflowError") = false) (hoom : (cls == "java/lang/OutOfMemoryError") = false)
    (h : ∀ a ∈ Bundle.messageArmAtoms cls names, a.before args s = true)
    (hlocs : ∀ x ∈ locs, ∀ cell, s.heap[x.base]? = some cell → cell.vm.isStatics = false)
    (htext : (text == notModelled) = false) (hlimit : ¬ (stringBytes (stringToUtf16 text)).size > e.platform.arrayLengthLimit) (hheap : ¬ (stringBytes (stringToUtf16 text)).size * componentBytes .byte > e.platform.maxHeapBytes)
    {g : JFrame} (hg : g.method = m₀) (hsize : g.locals.size = c.maxLocals)
    (hRframes : names.length + 4 < R.frames) (hRlocals : 2 * g.monitorRoom + (g.stack.map fun v => v.category).sum + 10240 ≤ R.locals) (hshort : 13 * names.length + 55 ≤ 10240)
    (hRcells : cells + 3 ≤ R.cells) (hRslots : slots + ((stringBytes (stringToUtf16 text)).size + 4 + 6) ≤ R.slots) (hlocks : meth.locks = false) :
    ∃ (S : State) (q : Addr) (ce : Cell), (∀ target, Steps p.tables e below ((S.setTop g).pushFrame (.throwing q)) target → Steps p.tables e below ((W.setTop g).pushFrame (.throwNew cls (some text) none)) target) ∧
      Stand p l e R s m₀ args below meth c S locs (cells + 3) (slots + ((stringBytes (stringToUtf16 text)).size + 4 + 6)) ∧ S.heap[q]? = some ce ∧ s.vm.findClass cls = some ce.cls ∧ ce.vm = .none := by
  have howns : e.platform.frameOwnsMonitors = true := by rw [X.admits.platform]
  have hfin : e.platform.finalization = false := by rw [X.admits.platform]
  have hpl : e.platform.magicAccessors = ({} : Platform).magicAccessors := by rw [X.admits.platform]
  have a : ∀ x, x ∈ Bundle.messageArmAtoms cls names → x.holds args s none s [] = true := fun x hx => h x hx
  obtain ⟨T, Z0, L, -, Y⟩ := ThrowableC.of_atoms (args := args) howns hfin hpl (fun x hx => h x (by simp [Bundle.messageArmAtoms, hx]))
  obtain ⟨Z, M, LZ, LM, hnZ⟩ := Init0T.ofS_atoms (args := args) hpl L Y (fun x hx => h x (by simp [Bundle.messageArmAtoms, hx]))
  obtain ⟨P1, Ps, hlen, L1, hL, hP1m, hlink1, hlink⟩ := Bundle.chainS (args := args) hpl hnZ names cls hcls hnames (fun x hx => h x (by simp [Bundle.messageArmAtoms, hx]))
  obtain ⟨Zs, LZs, hn4, hfitv, hfitc⟩ := StringT.of_atoms (args := args) (fun x hx => h x (by simp [Bundle.messageArmAtoms, hx]))
  have hfound : s.vm.findClass cls = some P1.m.cls := findClass_of_methodNamed hP1m
  obtain ⟨c1, kX, hc1, hk, hord, -, -, hn6⟩ := Cond.instantiable_spec (a (.instantiable cls 6) (by simp [Bundle.messageArmAtoms]))
  cases Option.some.inj (hc1.symm.trans hfound)
  have hinit := Cond.initialized_spec hfound hk (a (.initialized cls) (by simp [Bundle.messageArmAtoms]))
  have hctor : kX.findMethod "<init>" "(Ljava/lang/String;)V" = some P1.m.idx := findMethod_of_methodNamed hP1m hk
  have hsel0 : selectMethod e.platform s.vm P1.m.cls T.fill0 = .method T.fill0 := by
    obtain ⟨c2, r2, m2, q1, q2, q3, q4, -⟩ := Cond.selects_spec (a (.selects cls Bundle.tFill0 Bundle.tFill0) (by simp [Bundle.messageArmAtoms]))
    cases Option.some.inj (q1.symm.trans hfound)
    cases Option.some.inj (q2.symm.trans (State.methodFound?_of_named Y.fill0 (by decide)))
    cases Option.some.inj (q3.symm.trans Y.fill0)
    rw [Launch.admits_selectMethod X.admits]; exact q4
  have hselF : selectMethod e.platform s.vm P1.m.cls T.fill = .method T.fill := by
    obtain ⟨c2, r2, m2, q1, q2, q3, q4, -⟩ := Cond.selects_spec (a (.selects cls Bundle.tFill Bundle.tFill) (by simp [Bundle.messageArmAtoms]))
    cases Option.some.inj (q1.symm.trans hfound)
    cases Option.some.inj (q2.symm.trans (State.methodFound?_of_named Y.fill (by decide)))
    cases Option.some.inj (q3.symm.trans Y.fill)
    rw [Launch.admits_selectMethod X.admits]; exact q4
  obtain ⟨cellS0, hcS0, hiss⟩ := Y.statics
  obtain ⟨u0, hu0⟩ := Cond.staticRefV Y.unassigned L.unassignedStatic L.statics hcS0 hiss (a (.isRef (.static Bundle.tN "UNASSIGNED_STACK" Bundle.steD)) (by simp [Bundle.messageArmAtoms]))
  obtain ⟨sen, hsen⟩ := Cond.staticRefV Y.sentinel L.sentinelStatic L.statics hcS0 hiss (a (.isRef (.static Bundle.tN "SUPPRESSED_SENTINEL" Bundle.listD)) (by simp [Bundle.messageArmAtoms]))
  obtain ⟨ci198, i198, fB, hk198, hg198, ha198, hsB, -, hnB, htB, hffB⟩ := Cond.ownField (t := .object "java/lang/Object") Y.found L.cls (by decide +kernel) (a (.fieldLink Bundle.tN 198 Bundle.tN "backtrace" "Ljava/lang/Object;") (by simp [Bundle.messageArmAtoms])) (a (.lays Bundle.tN Bundle.tN "backtrace" "Ljava/lang/Object;") (by simp [Bundle.messageArmAtoms])) e.platform hpl
  obtain ⟨cellS, hcS', heS, -, hkeep⟩ := X.same.2.2.2.2.2 T.aS cellS0 hcS0
  have hcellS : W.heap[T.aS]? = some cellS := hcS'
  have hout' : ∀ i, (⟨T.aS, i⟩ : Loc) ∉ locs := fun i hmem => by
    have := hlocs _ hmem cellS0 hcS0
    rw [hiss] at this; cases this
  have hknownS : cellS.vm ≠ .unknown := by
    rw [heS]; intro hu
    rw [show cellS0.vm = .unknown from hu] at hiss
    cases hiss
  have hvU : cellS.slots[T.fUnassigned.slot]? = some u0.v := by rw [hkeep _ (hout' _)]; exact hu0
  have hvSen : cellS.slots[T.fSentinel.slot]? = some sen.v := by rw [hkeep _ (hout' _)]; exact hsen
  obtain ⟨iM, hffM⟩ := Y.msg
  obtain ⟨tyC, dC, hdC, hdnC⟩ := Cond.laysAt hfound hk Y.cause (a (.lays cls Bundle.tN "cause" "Ljava/lang/Throwable;") (by simp [Bundle.messageArmAtoms]))
  obtain ⟨tyS, dS, hdS, hdnS⟩ := Cond.laysAt hfound hk Y.stack (a (.lays cls Bundle.tN "stackTrace" Bundle.steD) (by simp [Bundle.messageArmAtoms]))
  obtain ⟨tyP, dP, hdP, hdnP⟩ := Cond.laysAt hfound hk Y.supp (a (.lays cls Bundle.tN "suppressedExceptions" Bundle.listD) (by simp [Bundle.messageArmAtoms]))
  obtain ⟨tyM, dM, hdM, hdnM⟩ := Cond.laysAt hfound hk hffM (a (.lays cls Bundle.tN "detailMessage" "Ljava/lang/String;") (by simp [Bundle.messageArmAtoms]))
  obtain ⟨tyB, dB, hdB, hdnB⟩ := Cond.laysAt hfound hk hffB (a (.lays cls Bundle.tN "backtrace" "Ljava/lang/Object;") (by simp [Bundle.messageArmAtoms]))
  have bC := Cond.laysApart hdB hdC hdnB hdnC (by rw [hnB, Y.causeName]; decide)
  have bS := Cond.laysApart hdB hdS hdnB hdnS (by rw [hnB, Y.stackName]; decide)
  have bP := Cond.laysApart hdB hdP hdnB hdnP (by rw [hnB, Y.suppName]; decide)
  have hbk : ((preparedCellV T.toThrowableT (freshCell P1.m.cls kX) (W.heap.size + 2) u0 sen).withEntry W.cur).slots[fB.slot]? = some .null := by
    have := fresh_default (c := P1.m.cls) tyB
    rw [htB] at this
    simpa [preparedCellV, Cell.setSlot, Cell.withEntry, Array.getElem?_setIfInBounds, bC, bS, bP, bC.symm, bS.symm, bP.symm, defaultValue] using this
  have tkC := Takes.of_laid (v := .ref (W.heap.size + 2)) hk hord tyC (by rw [Y.causeType]; rfl)
  have tkS := Takes.of_laid (v := u0.v) hk hord tyS (by rw [Y.stackType]; exact fits_refV_array _ u0)
  have tkP := Takes.of_laid (v := sen.v) hk hord tyP (by rw [Y.suppType]; exact fits_refV_object _ sen)
  have tkM := Takes.of_laid (v := .ref (W.heap.size + 1)) hk hord tyM (by rw [Y.msgType]; rfl)
  have hskip : SkipFacts T e.platform s (fun u => u) u0 ((preparedCellV T.toThrowableT (freshCell P1.m.cls kX) (W.heap.size + 2) u0 sen).withEntry W.cur) := ⟨{ ci198 := ci198, i198 := i198, fBack := fB }, ⟨hk198, hg198, ha198, hsB⟩, hbk, fun _ _ => rfl⟩
  have h0 : At W g.method c below := by rw [hg]; exact X.here
  obtain ⟨hbeyond, hfreeW⟩ := X.vmMayThrow hsize (.throwNew cls (some text) none) (fun f hf => by cases hf) rfl hRlocals
  have hfr' : W.frames.length + Ps.length + 4 < (e.platform.stackLimits W.me).1 := by have := X.framesAbove hRframes; omega
  have hwd' : (stackUse (.java g :: W.frames.tail)).2 + 13 * Ps.length + 55 ≤ (e.platform.stackLimits W.me).2 := by have := X.stackAbove hsize (K := 13 * Ps.length + 55) (by omega); omega
  have hslots : W.slotsUsed + (stringBytes (stringToUtf16 text)).size + Zs.kS.instanceTypes.size + kX.instanceTypes.size ≤ e.platform.maxSlots := by
    have := X.slotsAbove hRslots
    rw [hn4, hn6]
    omega
  obtain ⟨vm', hW', st⟩ := Steps.vmThrowsMessageColdByV p (s₀ := s) (S := W) (g := g) h0 hexec T L Z LZ M LM X.warmed (t := W.cur) rfl Zs LZs P1 L1 Ps hL hlink1 hlink hsoe hoom hfound hk hinit hord hctor
    (Launch.admits_hotImplicitExceptions X.admits) hbeyond hfreeW htext hlimit hheap (X.cellsAbove hRcells) hslots (hfitv _) (hfitc _)
    (Nn := fun u => u) heapOnly_id (fun _ _ => rfl) (fun _ => rfl) (fun u x y => setCell_twice _ _ _ _) (fun _ => Nat.le_refl _) (cN := ((preparedCellV T.toThrowableT (freshCell P1.m.cls kX) (W.heap.size + 2) u0 sen).withEntry W.cur))
    hsel0 hcellS hknownS hvU tkS (fun _ hu => hu) (fun _ hu => hu) rfl rfl rfl (by simp [preparedCellV, Cell.setSlot, Cell.withEntry]) hskip (fun _ _ hA hW _ hroom _ hrest => L.nativeOff p htr hA hW hroom hrest) hselF hvSen tkC tkP tkM Y.objLocals rfl hfr' hwd'
  rw [plainBareV_eq T.toThrowableT (W.heap.size + 2) u0 sen (.ref (W.heap.size + 1)) W.cur rfl rfl] at st
  obtain ⟨-, -, w3, w4, -, -, -⟩ := withThrown_facts e.platform W Zs text P1.m.cls kX
  have X3 := ((X.pushed (bytesOf Zs.cB (stringToUtf16 text))).pushed (stringAt Zs.cS Zs.kS Zs.fv Zs.fc (stringToUtf16 text) W.heap.size)).pushed (freshCell P1.m.cls kX)
  rw [← withString_eq] at X3
  have X4 := X3.noted hW'
  have ha : (W.heap.size + 2) < ((withThrown W Zs text P1.m.cls kX).setVm vm').heap.size := by show _ < (withThrown W Zs text P1.m.cls kX).heap.size; rw [w3]; omega
  have hcell : ((withThrown W Zs text P1.m.cls kX).setVm vm').heap[(W.heap.size + 2)]? = some (freshCell P1.m.cls kX) := w4
  have X5 := ((((X4.stored hcell T.fCause.slot (.ref (W.heap.size + 2))).storedAgain ha T.fStack.slot u0.v).storedAgain ha T.fSupp.slot sen.v).storedAgain ha T.fStack.slot u0.v).storedAgain ha T.fMsg.slot (.ref (W.heap.size + 1))
  obtain ⟨g₁, hfrM⟩ := X5.frames_eq
  have hU : ((((withThrown W Zs text P1.m.cls kX).setVm vm').setCell (W.heap.size + 2) (plainBareV T.toThrowableT (freshCell P1.m.cls kX) (W.heap.size + 2) u0 sen (.ref (W.heap.size + 1)))).setTop g).pushFrame (.throwing (W.heap.size + 2)) = (((withThrown W Zs text P1.m.cls kX).setVm vm').setCell (W.heap.size + 2) (plainBareV T.toThrowableT (freshCell P1.m.cls kX) (W.heap.size + 2) u0 sen (.ref (W.heap.size + 1)))).setFrames (.throwing (W.heap.size + 2) :: .java g :: below) := by
    rw [State.pushFrame, State.frames_setTop _ hfrM, State.setTop_of_frames _ hfrM, State.setFrames_setFrames]
  have b1 : (bytesOf Zs.cB (stringToUtf16 text)).slots.size = (stringBytes (stringToUtf16 text)).size := by
    rw [(Cell.writeAll_facts _ _).2.2]; simp [bytes0]
  have b2 : (stringAt Zs.cS Zs.kS Zs.fv Zs.fc (stringToUtf16 text) W.heap.size).slots.size = 4 := by simp [string0, Cell.setSlot, hn4]
  have b3 : (freshCell P1.m.cls kX).slots.size = 6 := by simp [hn6]
  rw [b1, b2, b3] at X5
  have e9 : slots + (stringBytes (stringToUtf16 text)).size + 4 + 6 = slots + ((stringBytes (stringToUtf16 text)).size + 4 + 6) := by omega
  rw [e9] at X5
  simp only [List.append_assoc, List.cons_append, List.nil_append] at X5
  refine ⟨((withThrown W Zs text P1.m.cls kX).setVm vm').setCell (W.heap.size + 2) (plainBareV T.toThrowableT (freshCell P1.m.cls kX) (W.heap.size + 2) u0 sen (.ref (W.heap.size + 1))), W.heap.size + 2, _, fun target ht => st _ (by rw [X.tail, ← hU]; exact ht),
    X5.forget (fun y hy => ?_), heapAt_setCell_self _ ha, hfound, rfl⟩
  simp only [List.mem_cons, List.not_mem_nil, or_false] at hy
  have hge : s.heap.size ≤ W.heap.size := X.same.2.1
  rcases hy with rfl | rfl | rfl | rfl | rfl <;> exact Nat.le_trans hge (Nat.le_add_right _ 2)
set_option maxHeartbeats 1000000 in
/-- the machine throws NullPointerException, no traces kept: from its note over the frame g to 'throwing' over the same frame (follows the proof of Stand.vmThrowsNpe, Shelf42/KT2.lean; throwsNpeColdBareVAt, Shelf42/NT91.lean, called) -/
theorem vx_npeAt {p : Program} {l : Launch} {e : Env} {R : Room} {s : State} {m₀ : MethodId} {args : Array Value} {below : List Frame} {meth : Method} {c : Code} {W : State} {locs : List Loc} {cells slots : Nat}
    (X : Stand p l e R s m₀ args below meth c W locs cells slots) (hexec : p.tables.exec = Jvm.exec) (htr : e.platform.stackTraces = false) {n : Nat}
    (h : ∀ a ∈ Bundle.npeArmAtoms n, a.before args s = true)
    (hlocs : ∀ x ∈ locs, ∀ cell, s.heap[x.base]? = some cell → cell.vm.isStatics = false)
    {g : JFrame} (hg : g.method = m₀) (hsize : g.locals.size = c.maxLocals)
    (hRframes : 7 < R.frames) (hRlocals : 2 * g.monitorRoom + (g.stack.map fun v => v.category).sum + 10240 ≤ R.locals)
    (hRcells : cells + 1 ≤ R.cells) (hRslots : slots + n ≤ R.slots) (hlocks : meth.locks = false) :
    ∃ (S : State) (q : Addr) (ce : Cell), (∀ target, Steps p.tables e below ((S.setTop g).pushFrame (.throwing q)) target → Steps p.tables e below ((W.setTop g).pushFrame (.throwNew "java/lang/NullPointerException" none none)) target) ∧
      Stand p l e R s m₀ args below meth c S locs (cells + 1) (slots + n) ∧ S.heap[q]? = some ce ∧ s.vm.findClass "java/lang/NullPointerException" = some ce.cls ∧ ce.vm = .none := by
  have howns : e.platform.frameOwnsMonitors = true := by rw [X.admits.platform]
  have hfin : e.platform.finalization = false := by rw [X.admits.platform]
  have hpl : e.platform.magicAccessors = ({} : Platform).magicAccessors := by rw [X.admits.platform]
  have hpl2 : e.platform.arrayCloneIsPublic = true := by rw [X.admits.platform]
  have a' : ∀ x, x ∈ Bundle.npeArmAtoms n → x.holds args s none s [] = true := fun x hx => h x hx
  obtain ⟨T, Z, L, LZ, Y⟩ := ThrowableC.of_atoms (args := args) howns hfin hpl (fun x hx => h x (by simp [Bundle.npeArmAtoms, hx]))
  obtain ⟨N, LN, hcN, hnNF, hordN, hffS⟩ := NpeC.of_atoms (args := args) hpl hpl2 L Y (fun x hx => h x (by simp [Bundle.npeArmAtoms, hx]))
  obtain ⟨P1, L1, hP1m, hP1s⟩ := PassC.of_atoms (args := args) (s := s) hpl (X := Bundle.nN) (Y := Bundle.rN) (by decide) (by decide) LibCode.NullPointerException.Init0.at_0 LibCode.NullPointerException.Init0.at_1 LibCode.NullPointerException.Init0.at_4 (fun x hx => h x (by simp [Bundle.npeArmAtoms, hx]))
  obtain ⟨PR, LR, hPRm, hPRs⟩ := PassC.of_atoms (args := args) (s := s) hpl (X := Bundle.rN) (Y := Bundle.eN) (by decide) (by decide) LibCode.RuntimeException.Init0.at_0 LibCode.RuntimeException.Init0.at_1 LibCode.RuntimeException.Init0.at_4 (fun x hx => h x (by simp [Bundle.npeArmAtoms, hx]))
  obtain ⟨PE, LEx, hPEm, hPEs⟩ := PassC.of_atoms (args := args) (s := s) hpl (X := Bundle.eN) (Y := Bundle.tN) (by decide) (by decide) LibCode.Exception.Init0.at_0 LibCode.Exception.Init0.at_1 LibCode.Exception.Init0.at_4 (fun x hx => h x (by simp [Bundle.npeArmAtoms, hx]))
  have hfound : s.vm.findClass Bundle.nN = some P1.m.cls := findClass_of_methodNamed hP1m
  have ecls : N.cN = P1.m.cls := Option.some.inj (hcN.symm.trans hfound)
  have hk : s.vm.classes[P1.m.cls]? = some N.kN := by rw [← ecls]; exact LN.cls
  have hinit := Cond.initialized_spec hfound hk (a' (.initialized Bundle.nN) (by simp [Bundle.npeArmAtoms]))
  have hctor : N.kN.findMethod "<init>" "()V" = some P1.m.idx := findMethod_of_methodNamed hP1m hk
  obtain ⟨c1, k1, hc1, hk1, -, -, -, hn⟩ := Cond.instantiable_spec (a' (.instantiable Bundle.nN n) (by simp [Bundle.npeArmAtoms]))
  cases Option.some.inj (hc1.symm.trans hfound)
  cases Option.some.inj (hk1.symm.trans hk)
  have hfsz : (freshCell P1.m.cls N.kN).slots.size = n := by simp [hn]
  have hlink1 : P1.sup = PR.m := Option.some.inj (hP1s.symm.trans hPRm)
  have hlinkR : PR.sup = PE.m := Option.some.inj (hPRs.symm.trans hPEm)
  have hlinkE : PE.sup = Z.m T.toThrowableT := Option.some.inj (hPEs.symm.trans Y.init0)
  have hLs : ∀ P, P ∈ [PR, PE] → P.Links0 e.platform s := fun P hP => by
    simp only [List.mem_cons, List.not_mem_nil, or_false] at hP
    rcases hP with rfl | rfl
    · exact LR
    · exact LEx
  have hsel0 : selectMethod e.platform s.vm P1.m.cls T.fill0 = .method T.fill0 := by
    obtain ⟨c2, r2, m2, q1, q2, q3, q4, -⟩ := Cond.selects_spec (a' (.selects Bundle.nN Bundle.tFill0 Bundle.tFill0) (by simp [Bundle.npeArmAtoms]))
    cases Option.some.inj (q1.symm.trans hfound)
    cases Option.some.inj (q2.symm.trans (State.methodFound?_of_named Y.fill0 (by decide)))
    cases Option.some.inj (q3.symm.trans Y.fill0)
    rw [Launch.admits_selectMethod X.admits]; exact q4
  have hselF : selectMethod e.platform s.vm P1.m.cls T.fill = .method N.fill := by
    obtain ⟨c2, r2, m2, q1, q2, q3, q4, -⟩ := Cond.selects_spec (a' (.selects Bundle.nN Bundle.tFill Bundle.nFill) (by simp [Bundle.npeArmAtoms]))
    cases Option.some.inj (q1.symm.trans hfound)
    cases Option.some.inj (q2.symm.trans (State.methodFound?_of_named Y.fill (by decide)))
    cases Option.some.inj (q3.symm.trans hnNF)
    rw [Launch.admits_selectMethod X.admits]; exact q4
  obtain ⟨cellS0, hcS0, hiss⟩ := Y.statics
  obtain ⟨u0, hu0⟩ := Cond.staticRefV Y.unassigned L.unassignedStatic L.statics hcS0 hiss (a' (.isRef (.static Bundle.tN "UNASSIGNED_STACK" Bundle.steD)) (by simp [Bundle.npeArmAtoms]))
  obtain ⟨sen, hsen⟩ := Cond.staticRefV Y.sentinel L.sentinelStatic L.statics hcS0 hiss (a' (.isRef (.static Bundle.tN "SUPPRESSED_SENTINEL" Bundle.listD)) (by simp [Bundle.npeArmAtoms]))
  obtain ⟨ci198, i198, fB, hk198, hg198, ha198, hsB, -, hnB, htB, hffB⟩ := Cond.ownField (t := .object "java/lang/Object") Y.found L.cls (by decide +kernel) (a' (.fieldLink Bundle.tN 198 Bundle.tN "backtrace" Bundle.objD) (by simp [Bundle.npeArmAtoms])) (a' (.lays Bundle.tN Bundle.tN "backtrace" Bundle.objD) (by simp [Bundle.npeArmAtoms])) e.platform hpl
  obtain ⟨cellS, hcS', heS, -, hkeep⟩ := X.same.2.2.2.2.2 T.aS cellS0 hcS0
  have hcellS : W.heap[T.aS]? = some cellS := hcS'
  have hout' : ∀ i, (⟨T.aS, i⟩ : Loc) ∉ locs := fun i hmem => by
    have := hlocs _ hmem cellS0 hcS0
    rw [hiss] at this; cases this
  have hknownS : cellS.vm ≠ .unknown := by
    rw [heS]; intro hu
    rw [show cellS0.vm = .unknown from hu] at hiss
    cases hiss
  have hvU : cellS.slots[T.fUnassigned.slot]? = some u0.v := by rw [hkeep _ (hout' _)]; exact hu0
  have hvSen : cellS.slots[T.fSentinel.slot]? = some sen.v := by rw [hkeep _ (hout' _)]; exact hsen
  obtain ⟨tyC, dC, hdC, hdnC⟩ := Cond.laysAt hfound hk Y.cause (a' (.lays Bundle.nN Bundle.tN "cause" "Ljava/lang/Throwable;") (by simp [Bundle.npeArmAtoms]))
  obtain ⟨tyS, dS, hdS, hdnS⟩ := Cond.laysAt hfound hk Y.stack (a' (.lays Bundle.nN Bundle.tN "stackTrace" Bundle.steD) (by simp [Bundle.npeArmAtoms]))
  obtain ⟨tyP, dP, hdP, hdnP⟩ := Cond.laysAt hfound hk Y.supp (a' (.lays Bundle.nN Bundle.tN "suppressedExceptions" Bundle.listD) (by simp [Bundle.npeArmAtoms]))
  obtain ⟨tyX, dX, hdX, hdnX⟩ := Cond.laysAt hfound hk hffS (a' (.lays Bundle.nN Bundle.nN "extendedMessageState" "I") (by simp [Bundle.npeArmAtoms, Bundle.npeAtoms]))
  obtain ⟨hnX, htX⟩ := State.fieldFound?_type hffS (t := .int) (by decide +kernel)
  have xC := Cond.laysApart hdC hdX hdnC hdnX (by rw [hnX, Y.causeName]; decide)
  have xS := Cond.laysApart hdS hdX hdnS hdnX (by rw [hnX, Y.stackName]; decide)
  have xP := Cond.laysApart hdP hdX hdnP hdnX (by rw [hnX, Y.suppName]; decide)
  have hv0 : (freshCell P1.m.cls N.kN).slots[N.fState.slot]? = some (.int 0) := by
    have := fresh_default (c := P1.m.cls) tyX
    rw [htX] at this; exact this
  obtain ⟨tyB, dB, hdB, hdnB⟩ := Cond.laysAt hfound hk hffB (a' (.lays Bundle.nN Bundle.tN "backtrace" Bundle.objD) (by simp [Bundle.npeArmAtoms]))
  have bC := Cond.laysApart hdB hdC hdnB hdnC (by rw [hnB, Y.causeName]; decide)
  have bS := Cond.laysApart hdB hdS hdnB hdnS (by rw [hnB, Y.stackName]; decide)
  have bP := Cond.laysApart hdB hdP hdnB hdnP (by rw [hnB, Y.suppName]; decide)
  have bX := Cond.laysApart hdB hdX hdnB hdnX (by rw [hnB, hnX]; decide)
  have hbk : ((npeCell N.toNpeT (preparedCellV T.toThrowableT (freshCell P1.m.cls N.kN) W.heap.size u0 sen) W.cur).withEntry W.cur).slots[fB.slot]? = some .null := by
    have := fresh_default (c := P1.m.cls) tyB
    rw [htB] at this
    simpa [npeCell, preparedCellV, Cell.setSlot, Cell.withEntry, Array.getElem?_setIfInBounds, bC, bS, bP, bX, bC.symm, bS.symm, bP.symm, bX.symm, defaultValue] using this
  have tkC := Takes.of_laid (v := .ref W.heap.size) hk hordN tyC (by rw [Y.causeType]; rfl)
  have tkS := Takes.of_laid (v := u0.v) hk hordN tyS (by rw [Y.stackType]; exact fits_refV_array _ u0)
  have tkP := Takes.of_laid (v := sen.v) hk hordN tyP (by rw [Y.suppType]; exact fits_refV_object _ sen)
  have tkX := Takes.of_laid (v := .int 1) hk hordN tyX (by rw [htX]; rfl)
  have hskip : SkipFacts T e.platform s (fun u => u) u0 ((npeCell N.toNpeT (preparedCellV T.toThrowableT (freshCell P1.m.cls N.kN) W.heap.size u0 sen) W.cur).withEntry W.cur) := ⟨{ ci198 := ci198, i198 := i198, fBack := fB }, ⟨hk198, hg198, ha198, hsB⟩, hbk, fun _ _ => rfl⟩
  obtain ⟨vm', X3, st, -⟩ := X.throwsNpeColdBareVAt hexec hg hsize T L Z LZ N LN P1 L1 [PR, PE] hLs hlink1 ⟨hlinkR, hlinkE, trivial⟩ hfound hk hinit hordN hctor hsel0 hselF hcellS hknownS hvU hvSen
    hv0 xC xS xP tkC tkS tkP tkX Y.objLocals hskip (fun _ _ hA hW _ hroom _ hrest => L.nativeOff p htr hA hW hroom hrest) (by simpa using hRframes) hRlocals (by simp) hRcells (by rw [hn]; exact hRslots)
  have hlt : W.heap.size < ((W.pushCell (freshCell P1.m.cls N.kN)).setVm vm').heap.size := by
    show W.heap.size < (W.pushCell (freshCell P1.m.cls N.kN)).heap.size
    rw [State.heap_size_pushCell]; omega
  rw [hfsz] at X3
  obtain ⟨g₁, hfrM⟩ := X3.frames_eq
  have hU : ((((W.pushCell (freshCell P1.m.cls N.kN)).setVm vm').setCell W.heap.size (npeBareV T.toThrowableT N.toNpeT (freshCell P1.m.cls N.kN) W.heap.size u0 sen)).setTop g).pushFrame (.throwing W.heap.size) = (((W.pushCell (freshCell P1.m.cls N.kN)).setVm vm').setCell W.heap.size (npeBareV T.toThrowableT N.toNpeT (freshCell P1.m.cls N.kN) W.heap.size u0 sen)).setFrames (.throwing W.heap.size :: .java g :: below) := by
    rw [State.pushFrame, State.frames_setTop _ hfrM, State.setTop_of_frames _ hfrM, State.setFrames_setFrames]
  refine ⟨_, W.heap.size, _, fun target ht => st.trans (by rw [← hU]; exact ht), X3.forget (fun y hy => ?_), heapAt_setCell_self _ hlt, hfound, rfl⟩
  simp only [List.mem_cons, List.not_mem_nil, or_false] at hy
  have hge : s.heap.size ≤ W.heap.size := X.same.2.1
  rcases hy with rfl | rfl | rfl | rfl | rfl <;> exact hge
/-- the words of a machine's NullPointerException, but the four that speak of the heap -/
def vx_atN (n : Nat) : List Cond := (Bundle.npeArmAtoms n).filter vx_no
/-- the words of a machine's throw with a message, but the four that speak of the heap -/
def vx_atM (X : String) (names : List String) : List Cond := (Bundle.messageArmAtoms X names).filter vx_no
section
variable {p : Program} {l : Launch} {e : Env} {R : Room} {s : State} {m : MethodId} {args : Array Value} {below : List Frame} {meth : Method} {c : Code} {H : Heap} {locs : List Loc} {cells slots : Nat}
/-- a frame seen from a rebased start, seen from the first start again -/
theorem vx_back9 {T S : State} {R' : Room} {k n : Nat} (X : Stand p l e R s m args below meth c T locs cells slots) (Y : Stand p l e R' ((T.setVm s.vm).setFrames (.invoking m args :: below)) m args below meth c T [] 0 0) (Z : Stand p l e R' ((T.setVm s.vm).setFrames (.invoking m args :: below)) m args below meth c S [] k n) :
    Stand p l e R s m args below meth c S locs (cells + k) (slots + n) := by
  have hW0 : s.WarmedH ((T.setVm s.vm).setFrames (.invoking m args :: below)).vm := State.WarmedH.refl s
  refine { admits := X.admits, cas := X.cas, clock := X.clock, frames := X.frames, room := X.room, hears := X.hears, method := X.method, code := X.code, here := Z.here, tail := Z.tail, warmed := State.WarmedH.trans hW0 Z.warmed, limits := Z.limits.trans (Y.limits.symm.trans X.limits), bytes := Z.bytes.trans (Y.bytes.symm.trans X.bytes), same := ?_ }
  obtain ⟨e1, e2⟩ := Z.same
  rw [State.setFrames_setFrames] at e1
  have h2 : (T.setVm s.vm).sameButNew (S.setVm s.vm) [] k n := ⟨e1, e2⟩
  have h3 := X.same.trans h2
  rw [List.append_nil] at h3
  exact h3
/-- from the machine's note that E is thrown here with this text -/
def vx_Note (p : Program) (l : Launch) (e : Env) (R : Room) (s : State) (m : MethodId) (args : Array Value) (below : List Frame) (meth : Method) (c : Code) (H : Heap) (locs : List Loc) (cells slots : Nat) (Q : State → Prop) (g : JFrame) (E text : String) : Prop :=
  ∀ T : State, T.heap = H → Stand p l e R s m args below meth c T locs cells slots → ∃ t, Steps p.tables e below ((T.setTop g).pushFrame (.throwNew E (some text) none)) t ∧ Q t
theorem vx_vm {pc : Nat} {ls : Array Slot} {rest : List Value} {Q : State → Prop} (hexec : p.tables.exec = Jvm.exec) (hl : l.stackTraces = false) {cls text : String} {names : List String} {nb : Nat} {A : Nat → Prop}
    (hcls : Bundle.fit cls = true) (hnames : ∀ n ∈ names, Bundle.fit n = true) (hsoe : (cls == "java/lang/StackOverflowError") = false) (hoom : (cls == "java/lang/OutOfMemoryError") = false)
    (hat : ∀ w ∈ vx_atM cls names, w.before args s = true) (hgood : ∀ w ∈ vx_atM cls names, vx_ot w = true)
    (hU : vx_Zq Bundle.tN "UNASSIGNED_STACK" Bundle.steD A s s.heap) (hN : vx_Zq Bundle.tN "SUPPRESSED_SENTINEL" Bundle.listD A s s.heap) (hS : va_S A s.heap H locs) (hsize : ls.size = c.maxLocals)
    (htext : (text == notModelled) = false) (hnb : (stringBytes (stringToUtf16 text)).size ≤ nb) (hnb1 : nb ≤ 1000)
    (hRframes : names.length + 4 < R.frames) (hRlocals : (rest.map fun v => v.category).sum + 10240 ≤ R.locals) (hshort : 13 * names.length + 55 ≤ 10240) (hRcells : cells + 3 ≤ R.cells) (hRslots : slots + (nb + 10) ≤ R.slots) (hlocks : meth.locks = false)
    (k : ∀ (H1 : Heap) (q9 : Addr) (ce : Cell), H.size ≤ H1.size → (∀ q : Nat, q < H.size → H1[q]? = H[q]?) → va_S A s.heap H1 locs → H1[q9]? = some ce → ce.vm = .none → s.vm.findClass cls = some ce.cls → vx_W p l e R s m args below meth c H1 locs (cells + 3) (slots + (nb + 10)) Q (F0 m pc ls rest) q9) :
    vx_Note p l e R s m args below meth c H locs cells slots Q (F0 m pc ls rest) cls text := by
  intro T hT X
  have htr : e.platform.stackTraces = false := (show e.platform.stackTraces = l.stackTraces by rw [X.admits.platform]).trans hl
  have Y := vx_rebase X (R' := { frames := R.frames, locals := R.locals, cells := 3, slots := nb + 10 }) (Nat.le_refl _) (Nat.le_refl _) hRcells hRslots
  have hhp : ((T.setVm s.vm).setFrames (.invoking m args :: below)).heap = H := hT
  have hW0 : s.WarmedH ((T.setVm s.vm).setFrames (.invoking m args :: below)).vm := State.WarmedH.refl s
  have hat' : ∀ w ∈ vx_atM cls names, w.before args ((T.setVm s.vm).setFrames (.invoking m args :: below)) = true := fun w hw => vx_ot_at hW0 rfl (hgood w hw) (hat w hw)
  have hU' : vx_Zq Bundle.tN "UNASSIGNED_STACK" Bundle.steD A ((T.setVm s.vm).setFrames (.invoking m args :: below)) ((T.setVm s.vm).setFrames (.invoking m args :: below)).heap := by rw [hhp]; exact vx_Zq.moved hW0.alike (hU.kept hS.2.1)
  have hN' : vx_Zq Bundle.tN "SUPPRESSED_SENTINEL" Bundle.listD A ((T.setVm s.vm).setFrames (.invoking m args :: below)) ((T.setVm s.vm).setFrames (.invoking m args :: below)).heap := by rw [hhp]; exact vx_Zq.moved hW0.alike (hN.kept hS.2.1)
  obtain ⟨S, q, ce, st, Z, hce, hcl', hv⟩ := vx_vmAt Y hexec htr (cls := cls) (names := names) (text := text) hcls hnames hsoe hoom (vx_own hat' (vx_isRefq hU'.1) (vx_isRefq hN'.1) hU'.2.word hN'.2.word) (fun x hx => nomatch hx) htext
    (by rw [Launch.admits_arrayLengthLimit X.admits]; omega) (by rw [Launch.admits_maxHeapBytes X.admits]; simp only [componentBytes]; omega)
    (g := F0 m pc ls rest) rfl hsize hRframes (by show 2 * 0 + (rest.map fun v => v.category).sum + 10240 ≤ R.locals; omega) hshort (by show 0 + 3 ≤ 3; omega) (by show 0 + (_ + 4 + 6) ≤ nb + 10; omega) hlocks
  obtain ⟨f1, f2⟩ := vx_frame Z.same
  have f1' : H.size ≤ S.heap.size := by rw [← hT]; exact f1
  have f2' : ∀ q : Nat, q < H.size → S.heap[q]? = H[q]? := fun q hq => by
    rw [← hT]
    exact f2 q (by rw [← hT] at hq; exact hq) (fun z hz => nomatch hz)
  have X5 := vx_back9 X Y Z
  have X6 : Stand p l e R s m args below meth c S locs (cells + 3) (slots + (nb + 10)) := { X5 with same := X5.same.mono (by omega) (by omega) }
  obtain ⟨t, a1, b1⟩ := k S.heap q ce f1' f2' ⟨Nat.le_trans hS.1 f1', fun q h1 h2 => (f2' q (Nat.lt_of_lt_of_le h1 hS.1)).trans (hS.2.1 q h1 h2), hS.2.2⟩ hce hv hcl' S rfl X6
  exact ⟨t, st t a1, b1⟩
/-- from the machine's note that NullPointerException is thrown here -/
def vx_NoteN (p : Program) (l : Launch) (e : Env) (R : Room) (s : State) (m : MethodId) (args : Array Value) (below : List Frame) (meth : Method) (c : Code) (H : Heap) (locs : List Loc) (cells slots : Nat) (Q : State → Prop) (g : JFrame) : Prop :=
  ∀ T : State, T.heap = H → Stand p l e R s m args below meth c T locs cells slots → ∃ t, Steps p.tables e below ((T.setTop g).pushFrame (.throwNew "java/lang/NullPointerException" none none)) t ∧ Q t
theorem vx_npe {pc : Nat} {ls : Array Slot} {rest : List Value} {Q : State → Prop} (hexec : p.tables.exec = Jvm.exec) (hl : l.stackTraces = false) {nb : Nat} {A : Nat → Prop}
    (hat : ∀ w ∈ vx_atN nb, w.before args s = true) (hgood : ∀ w ∈ vx_atN nb, vx_ot w = true)
    (hU : vx_Zq Bundle.tN "UNASSIGNED_STACK" Bundle.steD A s s.heap) (hN : vx_Zq Bundle.tN "SUPPRESSED_SENTINEL" Bundle.listD A s s.heap) (hS : va_S A s.heap H locs) (hsize : ls.size = c.maxLocals)
    (hRframes : 7 < R.frames) (hRlocals : (rest.map fun v => v.category).sum + 10240 ≤ R.locals) (hRcells : cells + 1 ≤ R.cells) (hRslots : slots + nb ≤ R.slots) (hlocks : meth.locks = false)
    (k : ∀ (H1 : Heap) (q9 : Addr) (ce : Cell), H.size ≤ H1.size → (∀ q : Nat, q < H.size → H1[q]? = H[q]?) → va_S A s.heap H1 locs → H1[q9]? = some ce → ce.vm = .none → s.vm.findClass "java/lang/NullPointerException" = some ce.cls → vx_W p l e R s m args below meth c H1 locs (cells + 1) (slots + nb) Q (F0 m pc ls rest) q9) :
    vx_NoteN p l e R s m args below meth c H locs cells slots Q (F0 m pc ls rest) := by
  intro T hT X
  have htr : e.platform.stackTraces = false := (show e.platform.stackTraces = l.stackTraces by rw [X.admits.platform]).trans hl
  have Y := vx_rebase X (R' := { frames := R.frames, locals := R.locals, cells := 1, slots := nb }) (Nat.le_refl _) (Nat.le_refl _) hRcells hRslots
  have hhp : ((T.setVm s.vm).setFrames (.invoking m args :: below)).heap = H := hT
  have hW0 : s.WarmedH ((T.setVm s.vm).setFrames (.invoking m args :: below)).vm := State.WarmedH.refl s
  have hat' : ∀ w ∈ vx_atN nb, w.before args ((T.setVm s.vm).setFrames (.invoking m args :: below)) = true := fun w hw => vx_ot_at hW0 rfl (hgood w hw) (hat w hw)
  have hU' : vx_Zq Bundle.tN "UNASSIGNED_STACK" Bundle.steD A ((T.setVm s.vm).setFrames (.invoking m args :: below)) ((T.setVm s.vm).setFrames (.invoking m args :: below)).heap := by rw [hhp]; exact vx_Zq.moved hW0.alike (hU.kept hS.2.1)
  have hN' : vx_Zq Bundle.tN "SUPPRESSED_SENTINEL" Bundle.listD A ((T.setVm s.vm).setFrames (.invoking m args :: below)) ((T.setVm s.vm).setFrames (.invoking m args :: below)).heap := by rw [hhp]; exact vx_Zq.moved hW0.alike (hN.kept hS.2.1)
  obtain ⟨S, q, ce, st, Z, hce, hcl', hv⟩ := vx_npeAt Y hexec htr (n := nb) (vx_own hat' (vx_isRefq hU'.1) (vx_isRefq hN'.1) hU'.2.word hN'.2.word) (fun x hx => nomatch hx)
    (g := F0 m pc ls rest) rfl hsize hRframes (by show 2 * 0 + (rest.map fun v => v.category).sum + 10240 ≤ R.locals; omega) (by show 0 + 1 ≤ 1; omega) (by show 0 + nb ≤ nb; omega) hlocks
  obtain ⟨f1, f2⟩ := vx_frame Z.same
  have f1' : H.size ≤ S.heap.size := by rw [← hT]; exact f1
  have f2' : ∀ q : Nat, q < H.size → S.heap[q]? = H[q]? := fun q hq => by
    rw [← hT]
    exact f2 q (by rw [← hT] at hq; exact hq) (fun z hz => nomatch hz)
  have X5 := vx_back9 X Y Z
  have X6 : Stand p l e R s m args below meth c S locs (cells + 1) (slots + nb) := { X5 with same := X5.same.mono (by omega) (by omega) }
  obtain ⟨t, a1, b1⟩ := k S.heap q ce f1' f2' ⟨Nat.le_trans hS.1 f1', fun q h1 h2 => (f2' q (Nat.lt_of_lt_of_le h1 hS.1)).trans (hS.2.1 q h1 h2), hS.2.2⟩ hce hv hcl' S rfl X6
  exact ⟨t, st t a1, b1⟩
variable {Q : State → Prop} {cc : ByteArray} {pc : Nat} {ls : Array Slot} {rest : List Value}
theorem vx_idivZ (hexec : p.tables.exec = Jvm.exec) (hb : c.code = cc) {a b : Int32} (h0 : b = 0) (d : decode cc pc = .ok (.idiv, 1)) (k : vx_Note p l e R s m args below meth c H locs cells slots Q (F0 m pc ls rest) "java/lang/ArithmeticException" "/ by zero") :
    W p l e R s m args below meth c H locs cells slots Q (F0 m pc ls (.int b :: .int a :: rest)) := by
  intro T hT X
  obtain ⟨t, st, q⟩ := k T hT X
  exact ⟨t, X.idivZero hexec (g := F0 m pc ls (.int b :: .int a :: rest)) rfl (a := a) (rest := rest) (by rw [h0]) (by rw [hb]; exact d) t st, q⟩
theorem vx_iremZ (hexec : p.tables.exec = Jvm.exec) (hb : c.code = cc) {a b : Int32} (h0 : b = 0) (d : decode cc pc = .ok (.irem, 1)) (k : vx_Note p l e R s m args below meth c H locs cells slots Q (F0 m pc ls rest) "java/lang/ArithmeticException" "/ by zero") :
    W p l e R s m args below meth c H locs cells slots Q (F0 m pc ls (.int b :: .int a :: rest)) := by
  intro T hT X
  obtain ⟨t, st, q⟩ := k T hT X
  exact ⟨t, X.iremZero hexec (g := F0 m pc ls (.int b :: .int a :: rest)) rfl (a := a) (rest := rest) (by rw [h0]) (by rw [hb]; exact d) t st, q⟩
theorem vx_ldivZ (hexec : p.tables.exec = Jvm.exec) (hb : c.code = cc) {a b : Int64} (h0 : b = 0) (d : decode cc pc = .ok (.ldiv, 1)) (k : vx_Note p l e R s m args below meth c H locs cells slots Q (F0 m pc ls rest) "java/lang/ArithmeticException" "/ by zero") :
    W p l e R s m args below meth c H locs cells slots Q (F0 m pc ls (.long b :: .long a :: rest)) := by
  intro T hT X
  obtain ⟨t, st, q⟩ := k T hT X
  exact ⟨t, X.ldivZero hexec (g := F0 m pc ls (.long b :: .long a :: rest)) rfl (a := a) (rest := rest) (by rw [h0]) (by rw [hb]; exact d) t st, q⟩
theorem vx_lremZ (hexec : p.tables.exec = Jvm.exec) (hb : c.code = cc) {a b : Int64} (h0 : b = 0) (d : decode cc pc = .ok (.lrem, 1)) (k : vx_Note p l e R s m args below meth c H locs cells slots Q (F0 m pc ls rest) "java/lang/ArithmeticException" "/ by zero") :
    W p l e R s m args below meth c H locs cells slots Q (F0 m pc ls (.long b :: .long a :: rest)) := by
  intro T hT X
  obtain ⟨t, st, q⟩ := k T hT X
  exact ⟨t, X.lremZero hexec (g := F0 m pc ls (.long b :: .long a :: rest)) rfl (a := a) (rest := rest) (by rw [h0]) (by rw [hb]; exact d) t st, q⟩
theorem vx_ialdZ {D : va_G} {cl : List vw_C} {ws : va_W} {tys : List (ClassId × FieldType)} {a : Nat} (hexec : p.tables.exec = Jvm.exec) (hb : c.code = cc) (hK : va_K D cl tys s) (hP : va_P D cl ws H) (q0 t0 : Nat) {cA : ClassId} {n : Nat} {f : Nat → Int32} (ha : ws[q0]? = some (a, .inl (cA, n, .inl f))) (ht : tys[t0]? = some (cA, .int)) {i : Int32} (hout : ¬ vp_in i n) (hdg : decode cc pc = .ok (.iaload, 1))
    (k : ∀ tx : String, tx = (toString "Index " ++ toString i ++ toString " out of bounds for length " ++ toString n : String) → vx_Note p l e R s m args below meth c H locs cells slots Q (F0 m pc ls rest) "java/lang/ArrayIndexOutOfBoundsException" tx) : W p l e R s m args below meth c H locs cells slots Q (F0 m pc ls (.int i :: .ref a :: rest)) := by
  intro T hT X
  obtain ⟨t, st, q⟩ := k _ rfl T hT X
  refine ⟨t, ?_, q⟩
  have h1 := X.ialoadOut hexec (by rw [hT]; exact hP q0 _ ha) ((hK.2 t0 _ ht).1 n (fun j => .int (f j))) (j := i) (by show (i < 0 ∨ (arrV _ _ _).slots.size ≤ _); rw [arrV_size]; exact Classical.byContradiction hout) (g := F0 m pc ls (.int i :: .ref a :: rest)) rfl (rest := rest) rfl (by rw [hb]; exact hdg) t
  simp only [arrV_size] at h1
  exact h1 st
theorem vx_iastZ {D : va_G} {cl : List vw_C} {ws : va_W} {tys : List (ClassId × FieldType)} {a : Nat} (hexec : p.tables.exec = Jvm.exec) (hb : c.code = cc) (hK : va_K D cl tys s) (hP : va_P D cl ws H) (q0 t0 : Nat) {cA : ClassId} {n : Nat} {f : Nat → Int32} (ha : ws[q0]? = some (a, .inl (cA, n, .inl f))) (ht : tys[t0]? = some (cA, .int)) {i : Int32} {x : Int32} (hout : ¬ vp_in i n) (hdg : decode cc pc = .ok (.iastore, 1))
    (k : ∀ tx : String, tx = (toString "Index " ++ toString i ++ toString " out of bounds for length " ++ toString n : String) → vx_Note p l e R s m args below meth c H locs cells slots Q (F0 m pc ls rest) "java/lang/ArrayIndexOutOfBoundsException" tx) : W p l e R s m args below meth c H locs cells slots Q (F0 m pc ls (.int x :: .int i :: .ref a :: rest)) := by
  intro T hT X
  obtain ⟨t, st, q⟩ := k _ rfl T hT X
  refine ⟨t, ?_, q⟩
  have h1 := X.iastoreOut hexec (by rw [hT]; exact hP q0 _ ha) ((hK.2 t0 _ ht).1 n (fun j => .int (f j))) (j := i) (by show (i < 0 ∨ (arrV _ _ _).slots.size ≤ _); rw [arrV_size]; exact Classical.byContradiction hout) (g := F0 m pc ls (.int x :: .int i :: .ref a :: rest)) rfl (rest := rest) rfl (by rw [hb]; exact hdg) t
  simp only [arrV_size] at h1
  exact h1 st
theorem vx_baldZ {D : va_G} {cl : List vw_C} {ws : va_W} {tys : List (ClassId × FieldType)} {a : Nat} (hexec : p.tables.exec = Jvm.exec) (hb : c.code = cc) (hK : va_K D cl tys s) (hP : va_P D cl ws H) (q0 t0 : Nat) {cA : ClassId} {n : Nat} {f : Nat → Int32} (ha : ws[q0]? = some (a, .inl (cA, n, .inl f))) (ht : tys[t0]? = some (cA, .byte)) {i : Int32} (hout : ¬ vp_in i n) (hdg : decode cc pc = .ok (.baload, 1))
    (k : ∀ tx : String, tx = (toString "Index " ++ toString i ++ toString " out of bounds for length " ++ toString n : String) → vx_Note p l e R s m args below meth c H locs cells slots Q (F0 m pc ls rest) "java/lang/ArrayIndexOutOfBoundsException" tx) : W p l e R s m args below meth c H locs cells slots Q (F0 m pc ls (.int i :: .ref a :: rest)) := by
  intro T hT X
  obtain ⟨t, st, q⟩ := k _ rfl T hT X
  refine ⟨t, ?_, q⟩
  have h1 := X.baloadOut hexec (by rw [hT]; exact hP q0 _ ha) ((hK.2 t0 _ ht).1 n (fun j => .int (f j))) (j := i) (by show (i < 0 ∨ (arrV _ _ _).slots.size ≤ _); rw [arrV_size]; exact Classical.byContradiction hout) (g := F0 m pc ls (.int i :: .ref a :: rest)) rfl (rest := rest) rfl (by rw [hb]; exact hdg) t
  simp only [arrV_size] at h1
  exact h1 st
theorem vx_bastZ {D : va_G} {cl : List vw_C} {ws : va_W} {tys : List (ClassId × FieldType)} {a : Nat} (hexec : p.tables.exec = Jvm.exec) (hb : c.code = cc) (hK : va_K D cl tys s) (hP : va_P D cl ws H) (q0 t0 : Nat) {cA : ClassId} {n : Nat} {f : Nat → Int32} (ha : ws[q0]? = some (a, .inl (cA, n, .inl f))) (ht : tys[t0]? = some (cA, .byte)) {i : Int32} {x : Int32} (hout : ¬ vp_in i n) (hdg : decode cc pc = .ok (.bastore, 1))
    (k : ∀ tx : String, tx = (toString "Index " ++ toString i ++ toString " out of bounds for length " ++ toString n : String) → vx_Note p l e R s m args below meth c H locs cells slots Q (F0 m pc ls rest) "java/lang/ArrayIndexOutOfBoundsException" tx) : W p l e R s m args below meth c H locs cells slots Q (F0 m pc ls (.int x :: .int i :: .ref a :: rest)) := by
  intro T hT X
  obtain ⟨t, st, q⟩ := k _ rfl T hT X
  refine ⟨t, ?_, q⟩
  have h1 := X.bastoreOut hexec (by rw [hT]; exact hP q0 _ ha) ((hK.2 t0 _ ht).1 n (fun j => .int (f j))) (j := i) (by show (i < 0 ∨ (arrV _ _ _).slots.size ≤ _); rw [arrV_size]; exact Classical.byContradiction hout) (g := F0 m pc ls (.int x :: .int i :: .ref a :: rest)) rfl (rest := rest) rfl (by rw [hb]; exact hdg) t
  simp only [arrV_size] at h1
  exact h1 st
theorem vx_zaldZ {D : va_G} {cl : List vw_C} {ws : va_W} {tys : List (ClassId × FieldType)} {a : Nat} (hexec : p.tables.exec = Jvm.exec) (hb : c.code = cc) (hK : va_K D cl tys s) (hP : va_P D cl ws H) (q0 t0 : Nat) {cA : ClassId} {n : Nat} {f : Nat → Int32} (ha : ws[q0]? = some (a, .inl (cA, n, .inl f))) (ht : tys[t0]? = some (cA, .boolean)) {i : Int32} (hout : ¬ vp_in i n) (hdg : decode cc pc = .ok (.baload, 1))
    (k : ∀ tx : String, tx = (toString "Index " ++ toString i ++ toString " out of bounds for length " ++ toString n : String) → vx_Note p l e R s m args below meth c H locs cells slots Q (F0 m pc ls rest) "java/lang/ArrayIndexOutOfBoundsException" tx) : W p l e R s m args below meth c H locs cells slots Q (F0 m pc ls (.int i :: .ref a :: rest)) := by
  intro T hT X
  obtain ⟨t, st, q⟩ := k _ rfl T hT X
  refine ⟨t, ?_, q⟩
  have h1 := X.baloadOut hexec (by rw [hT]; exact hP q0 _ ha) ((hK.2 t0 _ ht).1 n (fun j => .int (f j))) (j := i) (by show (i < 0 ∨ (arrV _ _ _).slots.size ≤ _); rw [arrV_size]; exact Classical.byContradiction hout) (g := F0 m pc ls (.int i :: .ref a :: rest)) rfl (rest := rest) rfl (by rw [hb]; exact hdg) t
  simp only [arrV_size] at h1
  exact h1 st
theorem vx_zastZ {D : va_G} {cl : List vw_C} {ws : va_W} {tys : List (ClassId × FieldType)} {a : Nat} (hexec : p.tables.exec = Jvm.exec) (hb : c.code = cc) (hK : va_K D cl tys s) (hP : va_P D cl ws H) (q0 t0 : Nat) {cA : ClassId} {n : Nat} {f : Nat → Int32} (ha : ws[q0]? = some (a, .inl (cA, n, .inl f))) (ht : tys[t0]? = some (cA, .boolean)) {i : Int32} {x : Int32} (hout : ¬ vp_in i n) (hdg : decode cc pc = .ok (.bastore, 1))
    (k : ∀ tx : String, tx = (toString "Index " ++ toString i ++ toString " out of bounds for length " ++ toString n : String) → vx_Note p l e R s m args below meth c H locs cells slots Q (F0 m pc ls rest) "java/lang/ArrayIndexOutOfBoundsException" tx) : W p l e R s m args below meth c H locs cells slots Q (F0 m pc ls (.int x :: .int i :: .ref a :: rest)) := by
  intro T hT X
  obtain ⟨t, st, q⟩ := k _ rfl T hT X
  refine ⟨t, ?_, q⟩
  have h1 := X.bastoreOut hexec (by rw [hT]; exact hP q0 _ ha) ((hK.2 t0 _ ht).1 n (fun j => .int (f j))) (j := i) (by show (i < 0 ∨ (arrV _ _ _).slots.size ≤ _); rw [arrV_size]; exact Classical.byContradiction hout) (g := F0 m pc ls (.int x :: .int i :: .ref a :: rest)) rfl (rest := rest) rfl (by rw [hb]; exact hdg) t
  simp only [arrV_size] at h1
  exact h1 st
theorem vx_caldZ {D : va_G} {cl : List vw_C} {ws : va_W} {tys : List (ClassId × FieldType)} {a : Nat} (hexec : p.tables.exec = Jvm.exec) (hb : c.code = cc) (hK : va_K D cl tys s) (hP : va_P D cl ws H) (q0 t0 : Nat) {cA : ClassId} {n : Nat} {f : Nat → Int32} (ha : ws[q0]? = some (a, .inl (cA, n, .inl f))) (ht : tys[t0]? = some (cA, .char)) {i : Int32} (hout : ¬ vp_in i n) (hdg : decode cc pc = .ok (.caload, 1))
    (k : ∀ tx : String, tx = (toString "Index " ++ toString i ++ toString " out of bounds for length " ++ toString n : String) → vx_Note p l e R s m args below meth c H locs cells slots Q (F0 m pc ls rest) "java/lang/ArrayIndexOutOfBoundsException" tx) : W p l e R s m args below meth c H locs cells slots Q (F0 m pc ls (.int i :: .ref a :: rest)) := by
  intro T hT X
  obtain ⟨t, st, q⟩ := k _ rfl T hT X
  refine ⟨t, ?_, q⟩
  have h1 := X.caloadOut hexec (by rw [hT]; exact hP q0 _ ha) ((hK.2 t0 _ ht).1 n (fun j => .int (f j))) (j := i) (by show (i < 0 ∨ (arrV _ _ _).slots.size ≤ _); rw [arrV_size]; exact Classical.byContradiction hout) (g := F0 m pc ls (.int i :: .ref a :: rest)) rfl (rest := rest) rfl (by rw [hb]; exact hdg) t
  simp only [arrV_size] at h1
  exact h1 st
theorem vx_castZ {D : va_G} {cl : List vw_C} {ws : va_W} {tys : List (ClassId × FieldType)} {a : Nat} (hexec : p.tables.exec = Jvm.exec) (hb : c.code = cc) (hK : va_K D cl tys s) (hP : va_P D cl ws H) (q0 t0 : Nat) {cA : ClassId} {n : Nat} {f : Nat → Int32} (ha : ws[q0]? = some (a, .inl (cA, n, .inl f))) (ht : tys[t0]? = some (cA, .char)) {i : Int32} {x : Int32} (hout : ¬ vp_in i n) (hdg : decode cc pc = .ok (.castore, 1))
    (k : ∀ tx : String, tx = (toString "Index " ++ toString i ++ toString " out of bounds for length " ++ toString n : String) → vx_Note p l e R s m args below meth c H locs cells slots Q (F0 m pc ls rest) "java/lang/ArrayIndexOutOfBoundsException" tx) : W p l e R s m args below meth c H locs cells slots Q (F0 m pc ls (.int x :: .int i :: .ref a :: rest)) := by
  intro T hT X
  obtain ⟨t, st, q⟩ := k _ rfl T hT X
  refine ⟨t, ?_, q⟩
  have h1 := X.castoreOut hexec (by rw [hT]; exact hP q0 _ ha) ((hK.2 t0 _ ht).1 n (fun j => .int (f j))) (j := i) (by show (i < 0 ∨ (arrV _ _ _).slots.size ≤ _); rw [arrV_size]; exact Classical.byContradiction hout) (g := F0 m pc ls (.int x :: .int i :: .ref a :: rest)) rfl (rest := rest) rfl (by rw [hb]; exact hdg) t
  simp only [arrV_size] at h1
  exact h1 st
theorem vx_saldZ {D : va_G} {cl : List vw_C} {ws : va_W} {tys : List (ClassId × FieldType)} {a : Nat} (hexec : p.tables.exec = Jvm.exec) (hb : c.code = cc) (hK : va_K D cl tys s) (hP : va_P D cl ws H) (q0 t0 : Nat) {cA : ClassId} {n : Nat} {f : Nat → Int32} (ha : ws[q0]? = some (a, .inl (cA, n, .inl f))) (ht : tys[t0]? = some (cA, .short)) {i : Int32} (hout : ¬ vp_in i n) (hdg : decode cc pc = .ok (.saload, 1))
    (k : ∀ tx : String, tx = (toString "Index " ++ toString i ++ toString " out of bounds for length " ++ toString n : String) → vx_Note p l e R s m args below meth c H locs cells slots Q (F0 m pc ls rest) "java/lang/ArrayIndexOutOfBoundsException" tx) : W p l e R s m args below meth c H locs cells slots Q (F0 m pc ls (.int i :: .ref a :: rest)) := by
  intro T hT X
  obtain ⟨t, st, q⟩ := k _ rfl T hT X
  refine ⟨t, ?_, q⟩
  have h1 := X.saloadOut hexec (by rw [hT]; exact hP q0 _ ha) ((hK.2 t0 _ ht).1 n (fun j => .int (f j))) (j := i) (by show (i < 0 ∨ (arrV _ _ _).slots.size ≤ _); rw [arrV_size]; exact Classical.byContradiction hout) (g := F0 m pc ls (.int i :: .ref a :: rest)) rfl (rest := rest) rfl (by rw [hb]; exact hdg) t
  simp only [arrV_size] at h1
  exact h1 st
theorem vx_sastZ {D : va_G} {cl : List vw_C} {ws : va_W} {tys : List (ClassId × FieldType)} {a : Nat} (hexec : p.tables.exec = Jvm.exec) (hb : c.code = cc) (hK : va_K D cl tys s) (hP : va_P D cl ws H) (q0 t0 : Nat) {cA : ClassId} {n : Nat} {f : Nat → Int32} (ha : ws[q0]? = some (a, .inl (cA, n, .inl f))) (ht : tys[t0]? = some (cA, .short)) {i : Int32} {x : Int32} (hout : ¬ vp_in i n) (hdg : decode cc pc = .ok (.sastore, 1))
    (k : ∀ tx : String, tx = (toString "Index " ++ toString i ++ toString " out of bounds for length " ++ toString n : String) → vx_Note p l e R s m args below meth c H locs cells slots Q (F0 m pc ls rest) "java/lang/ArrayIndexOutOfBoundsException" tx) : W p l e R s m args below meth c H locs cells slots Q (F0 m pc ls (.int x :: .int i :: .ref a :: rest)) := by
  intro T hT X
  obtain ⟨t, st, q⟩ := k _ rfl T hT X
  refine ⟨t, ?_, q⟩
  have h1 := X.sastoreOut hexec (by rw [hT]; exact hP q0 _ ha) ((hK.2 t0 _ ht).1 n (fun j => .int (f j))) (j := i) (by show (i < 0 ∨ (arrV _ _ _).slots.size ≤ _); rw [arrV_size]; exact Classical.byContradiction hout) (g := F0 m pc ls (.int x :: .int i :: .ref a :: rest)) rfl (rest := rest) rfl (by rw [hb]; exact hdg) t
  simp only [arrV_size] at h1
  exact h1 st
theorem vx_laldZ {D : va_G} {cl : List vw_C} {ws : va_W} {tys : List (ClassId × FieldType)} {a : Nat} (hexec : p.tables.exec = Jvm.exec) (hb : c.code = cc) (hK : va_K D cl tys s) (hP : va_P D cl ws H) (q0 t0 : Nat) {cA : ClassId} {n : Nat} {f : Nat → Int64} (ha : ws[q0]? = some (a, .inl (cA, n, .inr (.inl f)))) (ht : tys[t0]? = some (cA, .long)) {i : Int32} (hout : ¬ vp_in i n) (hdg : decode cc pc = .ok (.laload, 1))
    (k : ∀ tx : String, tx = (toString "Index " ++ toString i ++ toString " out of bounds for length " ++ toString n : String) → vx_Note p l e R s m args below meth c H locs cells slots Q (F0 m pc ls rest) "java/lang/ArrayIndexOutOfBoundsException" tx) : W p l e R s m args below meth c H locs cells slots Q (F0 m pc ls (.int i :: .ref a :: rest)) := by
  intro T hT X
  obtain ⟨t, st, q⟩ := k _ rfl T hT X
  refine ⟨t, ?_, q⟩
  have h1 := X.laloadOut hexec (by rw [hT]; exact hP q0 _ ha) ((hK.2 t0 _ ht).1 n (fun j => .long (f j))) (j := i) (by show (i < 0 ∨ (arrV _ _ _).slots.size ≤ _); rw [arrV_size]; exact Classical.byContradiction hout) (g := F0 m pc ls (.int i :: .ref a :: rest)) rfl (rest := rest) rfl (by rw [hb]; exact hdg) t
  simp only [arrV_size] at h1
  exact h1 st
theorem vx_lastZ {D : va_G} {cl : List vw_C} {ws : va_W} {tys : List (ClassId × FieldType)} {a : Nat} (hexec : p.tables.exec = Jvm.exec) (hb : c.code = cc) (hK : va_K D cl tys s) (hP : va_P D cl ws H) (q0 t0 : Nat) {cA : ClassId} {n : Nat} {f : Nat → Int64} (ha : ws[q0]? = some (a, .inl (cA, n, .inr (.inl f)))) (ht : tys[t0]? = some (cA, .long)) {i : Int32} {x : Int64} (hout : ¬ vp_in i n) (hdg : decode cc pc = .ok (.lastore, 1))
    (k : ∀ tx : String, tx = (toString "Index " ++ toString i ++ toString " out of bounds for length " ++ toString n : String) → vx_Note p l e R s m args below meth c H locs cells slots Q (F0 m pc ls rest) "java/lang/ArrayIndexOutOfBoundsException" tx) : W p l e R s m args below meth c H locs cells slots Q (F0 m pc ls (.long x :: .int i :: .ref a :: rest)) := by
  intro T hT X
  obtain ⟨t, st, q⟩ := k _ rfl T hT X
  refine ⟨t, ?_, q⟩
  have h1 := X.lastoreOut hexec (by rw [hT]; exact hP q0 _ ha) ((hK.2 t0 _ ht).1 n (fun j => .long (f j))) (j := i) (by show (i < 0 ∨ (arrV _ _ _).slots.size ≤ _); rw [arrV_size]; exact Classical.byContradiction hout) (g := F0 m pc ls (.long x :: .int i :: .ref a :: rest)) rfl (rest := rest) rfl (by rw [hb]; exact hdg) t
  simp only [arrV_size] at h1
  exact h1 st
theorem vx_faldZ {D : va_G} {cl : List vw_C} {ws : va_W} {tys : List (ClassId × FieldType)} {a : Nat} (hexec : p.tables.exec = Jvm.exec) (hb : c.code = cc) (hK : va_K D cl tys s) (hP : va_P D cl ws H) (q0 t0 : Nat) {cA : ClassId} {n : Nat} {f : Nat → UInt32} (ha : ws[q0]? = some (a, .inl (cA, n, .inr (.inr (.inl f))))) (ht : tys[t0]? = some (cA, .float)) {i : Int32} (hout : ¬ vp_in i n) (hdg : decode cc pc = .ok (.faload, 1))
    (k : ∀ tx : String, tx = (toString "Index " ++ toString i ++ toString " out of bounds for length " ++ toString n : String) → vx_Note p l e R s m args below meth c H locs cells slots Q (F0 m pc ls rest) "java/lang/ArrayIndexOutOfBoundsException" tx) : W p l e R s m args below meth c H locs cells slots Q (F0 m pc ls (.int i :: .ref a :: rest)) := by
  intro T hT X
  obtain ⟨t, st, q⟩ := k _ rfl T hT X
  refine ⟨t, ?_, q⟩
  have h1 := X.faloadOut hexec (by rw [hT]; exact hP q0 _ ha) ((hK.2 t0 _ ht).1 n (fun j => .float (f j))) (j := i) (by show (i < 0 ∨ (arrV _ _ _).slots.size ≤ _); rw [arrV_size]; exact Classical.byContradiction hout) (g := F0 m pc ls (.int i :: .ref a :: rest)) rfl (rest := rest) rfl (by rw [hb]; exact hdg) t
  simp only [arrV_size] at h1
  exact h1 st
theorem vx_fastZ {D : va_G} {cl : List vw_C} {ws : va_W} {tys : List (ClassId × FieldType)} {a : Nat} (hexec : p.tables.exec = Jvm.exec) (hb : c.code = cc) (hK : va_K D cl tys s) (hP : va_P D cl ws H) (q0 t0 : Nat) {cA : ClassId} {n : Nat} {f : Nat → UInt32} (ha : ws[q0]? = some (a, .inl (cA, n, .inr (.inr (.inl f))))) (ht : tys[t0]? = some (cA, .float)) {i : Int32} {x : UInt32} (hout : ¬ vp_in i n) (hdg : decode cc pc = .ok (.fastore, 1))
    (k : ∀ tx : String, tx = (toString "Index " ++ toString i ++ toString " out of bounds for length " ++ toString n : String) → vx_Note p l e R s m args below meth c H locs cells slots Q (F0 m pc ls rest) "java/lang/ArrayIndexOutOfBoundsException" tx) : W p l e R s m args below meth c H locs cells slots Q (F0 m pc ls (.float x :: .int i :: .ref a :: rest)) := by
  intro T hT X
  obtain ⟨t, st, q⟩ := k _ rfl T hT X
  refine ⟨t, ?_, q⟩
  have h1 := X.fastoreOut hexec (by rw [hT]; exact hP q0 _ ha) ((hK.2 t0 _ ht).1 n (fun j => .float (f j))) (j := i) (by show (i < 0 ∨ (arrV _ _ _).slots.size ≤ _); rw [arrV_size]; exact Classical.byContradiction hout) (g := F0 m pc ls (.float x :: .int i :: .ref a :: rest)) rfl (rest := rest) rfl (by rw [hb]; exact hdg) t
  simp only [arrV_size] at h1
  exact h1 st
theorem vx_daldZ {D : va_G} {cl : List vw_C} {ws : va_W} {tys : List (ClassId × FieldType)} {a : Nat} (hexec : p.tables.exec = Jvm.exec) (hb : c.code = cc) (hK : va_K D cl tys s) (hP : va_P D cl ws H) (q0 t0 : Nat) {cA : ClassId} {n : Nat} {f : Nat → UInt64} (ha : ws[q0]? = some (a, .inl (cA, n, .inr (.inr (.inr (.inl f)))))) (ht : tys[t0]? = some (cA, .double)) {i : Int32} (hout : ¬ vp_in i n) (hdg : decode cc pc = .ok (.daload, 1))
    (k : ∀ tx : String, tx = (toString "Index " ++ toString i ++ toString " out of bounds for length " ++ toString n : String) → vx_Note p l e R s m args below meth c H locs cells slots Q (F0 m pc ls rest) "java/lang/ArrayIndexOutOfBoundsException" tx) : W p l e R s m args below meth c H locs cells slots Q (F0 m pc ls (.int i :: .ref a :: rest)) := by
  intro T hT X
  obtain ⟨t, st, q⟩ := k _ rfl T hT X
  refine ⟨t, ?_, q⟩
  have h1 := X.daloadOut hexec (by rw [hT]; exact hP q0 _ ha) ((hK.2 t0 _ ht).1 n (fun j => .double (f j))) (j := i) (by show (i < 0 ∨ (arrV _ _ _).slots.size ≤ _); rw [arrV_size]; exact Classical.byContradiction hout) (g := F0 m pc ls (.int i :: .ref a :: rest)) rfl (rest := rest) rfl (by rw [hb]; exact hdg) t
  simp only [arrV_size] at h1
  exact h1 st
theorem vx_dastZ {D : va_G} {cl : List vw_C} {ws : va_W} {tys : List (ClassId × FieldType)} {a : Nat} (hexec : p.tables.exec = Jvm.exec) (hb : c.code = cc) (hK : va_K D cl tys s) (hP : va_P D cl ws H) (q0 t0 : Nat) {cA : ClassId} {n : Nat} {f : Nat → UInt64} (ha : ws[q0]? = some (a, .inl (cA, n, .inr (.inr (.inr (.inl f)))))) (ht : tys[t0]? = some (cA, .double)) {i : Int32} {x : UInt64} (hout : ¬ vp_in i n) (hdg : decode cc pc = .ok (.dastore, 1))
    (k : ∀ tx : String, tx = (toString "Index " ++ toString i ++ toString " out of bounds for length " ++ toString n : String) → vx_Note p l e R s m args below meth c H locs cells slots Q (F0 m pc ls rest) "java/lang/ArrayIndexOutOfBoundsException" tx) : W p l e R s m args below meth c H locs cells slots Q (F0 m pc ls (.double x :: .int i :: .ref a :: rest)) := by
  intro T hT X
  obtain ⟨t, st, q⟩ := k _ rfl T hT X
  refine ⟨t, ?_, q⟩
  have h1 := X.dastoreOut hexec (by rw [hT]; exact hP q0 _ ha) ((hK.2 t0 _ ht).1 n (fun j => .double (f j))) (j := i) (by show (i < 0 ∨ (arrV _ _ _).slots.size ≤ _); rw [arrV_size]; exact Classical.byContradiction hout) (g := F0 m pc ls (.double x :: .int i :: .ref a :: rest)) rfl (rest := rest) rfl (by rw [hb]; exact hdg) t
  simp only [arrV_size] at h1
  exact h1 st
theorem vx_arraylengthN (hexec : p.tables.exec = Jvm.exec) (hb : c.code = cc) (hdg : decode cc pc = .ok (.arraylength, 1)) (k : vx_NoteN p l e R s m args below meth c H locs cells slots Q (F0 m pc ls rest)) : W p l e R s m args below meth c H locs cells slots Q (F0 m pc ls (.null :: rest)) := by
  intro T hT X
  obtain ⟨t, st, q⟩ := k T hT X
  exact ⟨t, X.arraylengthNull hexec (g := F0 m pc ls (.null :: rest)) rfl (rest := rest) rfl (by rw [hb]; exact hdg) t st, q⟩
theorem vx_ialoadN (hexec : p.tables.exec = Jvm.exec) (hb : c.code = cc) {i : Int32} (hdg : decode cc pc = .ok (.iaload, 1)) (k : vx_NoteN p l e R s m args below meth c H locs cells slots Q (F0 m pc ls rest)) : W p l e R s m args below meth c H locs cells slots Q (F0 m pc ls (.int i :: .null :: rest)) := by
  intro T hT X
  obtain ⟨t, st, q⟩ := k T hT X
  exact ⟨t, X.ialoadNull hexec (g := F0 m pc ls (.int i :: .null :: rest)) rfl (rest := rest) rfl (by rw [hb]; exact hdg) t st, q⟩
theorem vx_laloadN (hexec : p.tables.exec = Jvm.exec) (hb : c.code = cc) {i : Int32} (hdg : decode cc pc = .ok (.laload, 1)) (k : vx_NoteN p l e R s m args below meth c H locs cells slots Q (F0 m pc ls rest)) : W p l e R s m args below meth c H locs cells slots Q (F0 m pc ls (.int i :: .null :: rest)) := by
  intro T hT X
  obtain ⟨t, st, q⟩ := k T hT X
  exact ⟨t, X.laloadNull hexec (g := F0 m pc ls (.int i :: .null :: rest)) rfl (rest := rest) rfl (by rw [hb]; exact hdg) t st, q⟩
theorem vx_faloadN (hexec : p.tables.exec = Jvm.exec) (hb : c.code = cc) {i : Int32} (hdg : decode cc pc = .ok (.faload, 1)) (k : vx_NoteN p l e R s m args below meth c H locs cells slots Q (F0 m pc ls rest)) : W p l e R s m args below meth c H locs cells slots Q (F0 m pc ls (.int i :: .null :: rest)) := by
  intro T hT X
  obtain ⟨t, st, q⟩ := k T hT X
  exact ⟨t, X.faloadNull hexec (g := F0 m pc ls (.int i :: .null :: rest)) rfl (rest := rest) rfl (by rw [hb]; exact hdg) t st, q⟩
theorem vx_daloadN (hexec : p.tables.exec = Jvm.exec) (hb : c.code = cc) {i : Int32} (hdg : decode cc pc = .ok (.daload, 1)) (k : vx_NoteN p l e R s m args below meth c H locs cells slots Q (F0 m pc ls rest)) : W p l e R s m args below meth c H locs cells slots Q (F0 m pc ls (.int i :: .null :: rest)) := by
  intro T hT X
  obtain ⟨t, st, q⟩ := k T hT X
  exact ⟨t, X.daloadNull hexec (g := F0 m pc ls (.int i :: .null :: rest)) rfl (rest := rest) rfl (by rw [hb]; exact hdg) t st, q⟩
theorem vx_aaloadN (hexec : p.tables.exec = Jvm.exec) (hb : c.code = cc) {i : Int32} (hdg : decode cc pc = .ok (.aaload, 1)) (k : vx_NoteN p l e R s m args below meth c H locs cells slots Q (F0 m pc ls rest)) : W p l e R s m args below meth c H locs cells slots Q (F0 m pc ls (.int i :: .null :: rest)) := by
  intro T hT X
  obtain ⟨t, st, q⟩ := k T hT X
  exact ⟨t, X.aaloadNull hexec (g := F0 m pc ls (.int i :: .null :: rest)) rfl (rest := rest) rfl (by rw [hb]; exact hdg) t st, q⟩
theorem vx_baloadN (hexec : p.tables.exec = Jvm.exec) (hb : c.code = cc) {i : Int32} (hdg : decode cc pc = .ok (.baload, 1)) (k : vx_NoteN p l e R s m args below meth c H locs cells slots Q (F0 m pc ls rest)) : W p l e R s m args below meth c H locs cells slots Q (F0 m pc ls (.int i :: .null :: rest)) := by
  intro T hT X
  obtain ⟨t, st, q⟩ := k T hT X
  exact ⟨t, X.baloadNull hexec (g := F0 m pc ls (.int i :: .null :: rest)) rfl (rest := rest) rfl (by rw [hb]; exact hdg) t st, q⟩
theorem vx_caloadN (hexec : p.tables.exec = Jvm.exec) (hb : c.code = cc) {i : Int32} (hdg : decode cc pc = .ok (.caload, 1)) (k : vx_NoteN p l e R s m args below meth c H locs cells slots Q (F0 m pc ls rest)) : W p l e R s m args below meth c H locs cells slots Q (F0 m pc ls (.int i :: .null :: rest)) := by
  intro T hT X
  obtain ⟨t, st, q⟩ := k T hT X
  exact ⟨t, X.caloadNull hexec (g := F0 m pc ls (.int i :: .null :: rest)) rfl (rest := rest) rfl (by rw [hb]; exact hdg) t st, q⟩
theorem vx_saloadN (hexec : p.tables.exec = Jvm.exec) (hb : c.code = cc) {i : Int32} (hdg : decode cc pc = .ok (.saload, 1)) (k : vx_NoteN p l e R s m args below meth c H locs cells slots Q (F0 m pc ls rest)) : W p l e R s m args below meth c H locs cells slots Q (F0 m pc ls (.int i :: .null :: rest)) := by
  intro T hT X
  obtain ⟨t, st, q⟩ := k T hT X
  exact ⟨t, X.saloadNull hexec (g := F0 m pc ls (.int i :: .null :: rest)) rfl (rest := rest) rfl (by rw [hb]; exact hdg) t st, q⟩
theorem vx_iastoreN (hexec : p.tables.exec = Jvm.exec) (hb : c.code = cc) {x : Int32} {i : Int32} (hdg : decode cc pc = .ok (.iastore, 1)) (k : vx_NoteN p l e R s m args below meth c H locs cells slots Q (F0 m pc ls rest)) : W p l e R s m args below meth c H locs cells slots Q (F0 m pc ls (.int x :: .int i :: .null :: rest)) := by
  intro T hT X
  obtain ⟨t, st, q⟩ := k T hT X
  exact ⟨t, X.iastoreNull hexec (g := F0 m pc ls (.int x :: .int i :: .null :: rest)) rfl (rest := rest) rfl (by rw [hb]; exact hdg) t st, q⟩
theorem vx_lastoreN (hexec : p.tables.exec = Jvm.exec) (hb : c.code = cc) {x : Int64} {i : Int32} (hdg : decode cc pc = .ok (.lastore, 1)) (k : vx_NoteN p l e R s m args below meth c H locs cells slots Q (F0 m pc ls rest)) : W p l e R s m args below meth c H locs cells slots Q (F0 m pc ls (.long x :: .int i :: .null :: rest)) := by
  intro T hT X
  obtain ⟨t, st, q⟩ := k T hT X
  exact ⟨t, X.lastoreNull hexec (g := F0 m pc ls (.long x :: .int i :: .null :: rest)) rfl (rest := rest) rfl (by rw [hb]; exact hdg) t st, q⟩
theorem vx_fastoreN (hexec : p.tables.exec = Jvm.exec) (hb : c.code = cc) {x : UInt32} {i : Int32} (hdg : decode cc pc = .ok (.fastore, 1)) (k : vx_NoteN p l e R s m args below meth c H locs cells slots Q (F0 m pc ls rest)) : W p l e R s m args below meth c H locs cells slots Q (F0 m pc ls (.float x :: .int i :: .null :: rest)) := by
  intro T hT X
  obtain ⟨t, st, q⟩ := k T hT X
  exact ⟨t, X.fastoreNull hexec (g := F0 m pc ls (.float x :: .int i :: .null :: rest)) rfl (rest := rest) rfl (by rw [hb]; exact hdg) t st, q⟩
theorem vx_dastoreN (hexec : p.tables.exec = Jvm.exec) (hb : c.code = cc) {x : UInt64} {i : Int32} (hdg : decode cc pc = .ok (.dastore, 1)) (k : vx_NoteN p l e R s m args below meth c H locs cells slots Q (F0 m pc ls rest)) : W p l e R s m args below meth c H locs cells slots Q (F0 m pc ls (.double x :: .int i :: .null :: rest)) := by
  intro T hT X
  obtain ⟨t, st, q⟩ := k T hT X
  exact ⟨t, X.dastoreNull hexec (g := F0 m pc ls (.double x :: .int i :: .null :: rest)) rfl (rest := rest) rfl (by rw [hb]; exact hdg) t st, q⟩
theorem vx_bastoreN (hexec : p.tables.exec = Jvm.exec) (hb : c.code = cc) {x : Int32} {i : Int32} (hdg : decode cc pc = .ok (.bastore, 1)) (k : vx_NoteN p l e R s m args below meth c H locs cells slots Q (F0 m pc ls rest)) : W p l e R s m args below meth c H locs cells slots Q (F0 m pc ls (.int x :: .int i :: .null :: rest)) := by
  intro T hT X
  obtain ⟨t, st, q⟩ := k T hT X
  exact ⟨t, X.bastoreNull hexec (g := F0 m pc ls (.int x :: .int i :: .null :: rest)) rfl (rest := rest) rfl (by rw [hb]; exact hdg) t st, q⟩
theorem vx_castoreN (hexec : p.tables.exec = Jvm.exec) (hb : c.code = cc) {x : Int32} {i : Int32} (hdg : decode cc pc = .ok (.castore, 1)) (k : vx_NoteN p l e R s m args below meth c H locs cells slots Q (F0 m pc ls rest)) : W p l e R s m args below meth c H locs cells slots Q (F0 m pc ls (.int x :: .int i :: .null :: rest)) := by
  intro T hT X
  obtain ⟨t, st, q⟩ := k T hT X
  exact ⟨t, X.castoreNull hexec (g := F0 m pc ls (.int x :: .int i :: .null :: rest)) rfl (rest := rest) rfl (by rw [hb]; exact hdg) t st, q⟩
theorem vx_sastoreN (hexec : p.tables.exec = Jvm.exec) (hb : c.code = cc) {x : Int32} {i : Int32} (hdg : decode cc pc = .ok (.sastore, 1)) (k : vx_NoteN p l e R s m args below meth c H locs cells slots Q (F0 m pc ls rest)) : W p l e R s m args below meth c H locs cells slots Q (F0 m pc ls (.int x :: .int i :: .null :: rest)) := by
  intro T hT X
  obtain ⟨t, st, q⟩ := k T hT X
  exact ⟨t, X.sastoreNull hexec (g := F0 m pc ls (.int x :: .int i :: .null :: rest)) rfl (rest := rest) rfl (by rw [hb]; exact hdg) t st, q⟩
theorem vx_invokeN {own C : String} {index maxL : Nat} {y : MethodName} {bytes : ByteArray} {ret : Option FieldType} (hexec : p.tables.exec = Jvm.exec) (hb : c.code = cc) (hown : s.vm.findClass own = some m.cls) (hlink : (Cond.methodLink own index y).before args s = true) (hinst : (Cond.instanceMethod y).before args s = true) (hcode : (Cond.code y bytes maxL ret).before args s = true) (hsel : (Cond.selects C y y).before args s = true)
    (hx : y.cls ≠ "java/lang/invoke/MethodHandle" ∧ y.cls ≠ "java/lang/invoke/VarHandle") {As : List Value} (hlen : (parseMethodDescriptor y.desc).map (fun d => d.parameters.length) = some As.length) (hdg : decode cc pc = .ok (.invokevirtual index, 3))
    (k : vx_NoteN p l e R s m args below meth c H locs cells slots Q (F0 m pc ls rest)) {st0 : List Value} (hst : st0 = As.reverse ++ .null :: rest) : W p l e R s m args below meth c H locs cells slots Q (F0 m pc ls st0) := by
  intro T hT X
  obtain ⟨r0, r, hn, hrm, hstR, hsigR⟩ := va_Decl.of hinst hcode
  obtain ⟨c2, r2, m2, q1, q2, q3, q4, kP, hkP, hkPi⟩ := Cond.selects_spec hsel
  cases hn.symm.trans q3
  have hl9 : As.length = r.sig.parameters.length := by
    rw [hsigR] at hlen
    exact (Option.some.inj hlen).symm
  obtain ⟨vm', X1, st1⟩ := X.invokevirtualNull hexec hown hlink hn hrm hstR hkP hkPi hx (g := F0 m pc ls st0) rfl (argsL := As) (rest := rest) hl9 hst (by rw [hb]; exact hdg)
  obtain ⟨t, st, q⟩ := k (T.setVm vm') hT X1
  exact ⟨t, st1 t st, q⟩
theorem vx_newarrayZ {atype : ArrayType} (hexec : p.tables.exec = Jvm.exec) (hb : c.code = cc) {n : Int32} (h0 : n < 0) (hdg : decode cc pc = .ok (.newarray atype, 2)) (k : ∀ tx : String, tx = toString n → vx_Note p l e R s m args below meth c H locs cells slots Q (F0 m pc ls rest) "java/lang/NegativeArraySizeException" tx) : W p l e R s m args below meth c H locs cells slots Q (F0 m pc ls (.int n :: rest)) := by
  intro T hT X
  obtain ⟨t, st, q⟩ := k _ rfl T hT X
  exact ⟨t, X.newarrayNegative hexec (g := F0 m pc ls (.int n :: rest)) rfl h0 (rest := rest) rfl (by rw [hb]; exact hdg) t st, q⟩
end
end VXM
/-! ===== END ===== -/
end
section
/-- the JDK 17's NoSuchElementException(String) calls its super's by the entry 13, not 7: the two words of it that differ -/
def yN_fix (w : Cond) : Cond := if w = .code (Bundle.initS "java/util/NoSuchElementException") Bundle.six 2 none then .code (Bundle.initS "java/util/NoSuchElementException") prog_17_method_4_code 2 none else if w = .methodLink "java/util/NoSuchElementException" 7 (Bundle.initS "java/lang/RuntimeException") then .methodLink "java/util/NoSuchElementException" 13 (Bundle.initS "java/lang/RuntimeException") else w
def yN_atS (own : String) (ic : Nat) : List Cond := (vx_atS own ic "java/util/NoSuchElementException" ["java/lang/RuntimeException", "java/lang/Exception"]).map yN_fix

/-! ===== BEGIN printed: names, fields, word lists, decode rows ===== -/
def RX0 : String := "DunningDesk$CaseBook"
def TX0 : u_T := fun k => match k with
  | 0 => ("DunningDesk$CaseBook", "firstAmounts", "[I", true)
  | 1 => ("DunningDesk$CaseBook", "amounts", "[I", true)
  | 2 => ("DunningDesk$CaseBook", "dueDays", "[I", true)
  | 3 => ("DunningDesk$CaseBook", "lettersSent", "[I", true)
  | 4 => ("DunningDesk$CaseBook", "pauseEnds", "[I", true)
  | 5 => ("DunningDesk$CaseBook", "awaitsNote", "[Z", true)
  | _ => ("DunningDesk$CaseBook", "size", "I", false)
def tyX0 : Nat → FieldType := fun k => match k with
  | 0 => .array .int
  | 1 => .array .int
  | 2 => .array .int
  | 3 => .array .int
  | 4 => .array .int
  | 5 => .array .boolean
  | _ => .int
abbrev wsX00 : List Cond := u_ws RX0 TX0 7
theorem nmX0 : ∀ a, a < 7 → ∀ b, b < 7 → a ≠ b → (TX0 a).2.1 ≠ (TX0 b).2.1 := by decide +kernel
theorem tyX0_ok : ∀ k, k < 7 → parseFieldDescriptor (TX0 k).2.2.1 = some (tyX0 k) := by decide +kernel
abbrev cX0_init : ByteArray := prog_2_method_1_code
def yX0_init : MethodName := ⟨RX0, "<init>", "()V"⟩
abbrev cX0_contains : ByteArray := prog_2_method_2_code
def yX0_contains : MethodName := ⟨RX0, "contains", "(I)Z"⟩
abbrev cX0_isFull : ByteArray := prog_2_method_3_code
def yX0_isFull : MethodName := ⟨RX0, "isFull", "()Z"⟩
abbrev cX0_add : ByteArray := prog_2_method_4_code
def yX0_add : MethodName := ⟨RX0, "add", "(II)I"⟩
abbrev cX0_isOpen : ByteArray := prog_2_method_5_code
def yX0_isOpen : MethodName := ⟨RX0, "isOpen", "(I)Z"⟩
abbrev cX0_pauseUntil : ByteArray := prog_2_method_6_code
def yX0_pauseUntil : MethodName := ⟨RX0, "pauseUntil", "(II)I"⟩
abbrev cX0_reminderDay : ByteArray := prog_2_method_7_code
def yX0_reminderDay : MethodName := ⟨RX0, "reminderDay", "(I)I"⟩
abbrev cX0_pay : ByteArray := prog_2_method_8_code
def yX0_pay : MethodName := ⟨RX0, "pay", "(II)Z"⟩
abbrev cX0_endWait : ByteArray := prog_2_method_9_code
def yX0_endWait : MethodName := ⟨RX0, "endWait", "(I)Z"⟩
abbrev cX0_sendLetter : ByteArray := prog_2_method_10_code
def yX0_sendLetter : MethodName := ⟨RX0, "sendLetter", "(II)Z"⟩
abbrev cX0_countOpen : ByteArray := prog_2_method_11_code
def yX0_countOpen : MethodName := ⟨RX0, "countOpen", "()I"⟩
abbrev cX0_sumOfAmounts : ByteArray := prog_2_method_12_code
def yX0_sumOfAmounts : MethodName := ⟨RX0, "sumOfAmounts", "()I"⟩
def RX1 : String := "DunningDesk$MessageBook"
def TX1 : u_T := fun k => match k with
  | 0 => ("DunningDesk$MessageBook", "queues", "[I", true)
  | 1 => ("DunningDesk$MessageBook", "keys", "[I", true)
  | 2 => ("DunningDesk$MessageBook", "kinds", "[C", true)
  | 3 => ("DunningDesk$MessageBook", "caseNumbers", "[I", true)
  | 4 => ("DunningDesk$MessageBook", "contents", "[I", true)
  | 5 => ("DunningDesk$MessageBook", "states", "[C", true)
  | 6 => ("DunningDesk$MessageBook", "readyDays", "[I", true)
  | 7 => ("DunningDesk$MessageBook", "triesMade", "[I", true)
  | 8 => ("DunningDesk$MessageBook", "takers", "[I", true)
  | 9 => ("DunningDesk$MessageBook", "takenDays", "[I", true)
  | 10 => ("DunningDesk$MessageBook", "doneOrder", "[I", true)
  | 11 => ("DunningDesk$MessageBook", "doneSize", "I", false)
  | _ => ("DunningDesk$MessageBook", "size", "I", false)
def tyX1 : Nat → FieldType := fun k => match k with
  | 0 => .array .int
  | 1 => .array .int
  | 2 => .array .char
  | 3 => .array .int
  | 4 => .array .int
  | 5 => .array .char
  | 6 => .array .int
  | 7 => .array .int
  | 8 => .array .int
  | 9 => .array .int
  | 10 => .array .int
  | 11 => .int
  | _ => .int
abbrev wsX10 : List Cond := u_ws RX1 TX1 13
theorem nmX1 : ∀ a, a < 13 → ∀ b, b < 13 → a ≠ b → (TX1 a).2.1 ≠ (TX1 b).2.1 := by decide +kernel
theorem tyX1_ok : ∀ k, k < 13 → parseFieldDescriptor (TX1 k).2.2.1 = some (tyX1 k) := by decide +kernel
abbrev cX1_init : ByteArray := prog_3_method_1_code
def yX1_init : MethodName := ⟨RX1, "<init>", "()V"⟩
abbrev cX1_contains : ByteArray := prog_3_method_2_code
def yX1_contains : MethodName := ⟨RX1, "contains", "(I)Z"⟩
abbrev cX1_isFull : ByteArray := prog_3_method_3_code
def yX1_isFull : MethodName := ⟨RX1, "isFull", "()Z"⟩
abbrev cX1_find : ByteArray := prog_3_method_4_code
def yX1_find : MethodName := ⟨RX1, "find", "(I)I"⟩
abbrev cX1_add : ByteArray := prog_3_method_5_code
def yX1_add : MethodName := ⟨RX1, "add", "(IICIII)I"⟩
abbrev cX1_release : ByteArray := prog_3_method_6_code
def yX1_release : MethodName := ⟨RX1, "release", "(II)V"⟩
abbrev cX1_isReady : ByteArray := prog_3_method_7_code
def yX1_isReady : MethodName := ⟨RX1, "isReady", "(III)Z"⟩
abbrev cX1_countReady : ByteArray := prog_3_method_8_code
def yX1_countReady : MethodName := ⟨RX1, "countReady", "(II)I"⟩
abbrev cX1_goesBefore : ByteArray := prog_3_method_9_code
def yX1_goesBefore : MethodName := ⟨RX1, "goesBefore", "(II)Z"⟩
abbrev cX1_nextReady : ByteArray := prog_3_method_10_code
def yX1_nextReady : MethodName := ⟨RX1, "nextReady", "(III)I"⟩
abbrev cX1_giveTo : ByteArray := prog_3_method_11_code
def yX1_giveTo : MethodName := ⟨RX1, "giveTo", "(III)V"⟩
abbrev cX1_countTakenBy : ByteArray := prog_3_method_12_code
def yX1_countTakenBy : MethodName := ⟨RX1, "countTakenBy", "(I)I"⟩
abbrev cX1_countIn : ByteArray := prog_3_method_13_code
def yX1_countIn : MethodName := ⟨RX1, "countIn", "(C)I"⟩
abbrev cX1_close : ByteArray := prog_3_method_14_code
def yX1_close : MethodName := ⟨RX1, "close", "(I)V"⟩
abbrev cX1_putBack : ByteArray := prog_3_method_15_code
def yX1_putBack : MethodName := ⟨RX1, "putBack", "(II)V"⟩
abbrev cX1_putBackTakenUntil : ByteArray := prog_3_method_16_code
def yX1_putBackTakenUntil : MethodName := ⟨RX1, "putBackTakenUntil", "(II)V"⟩
abbrev cX1_wake : ByteArray := prog_3_method_17_code
def yX1_wake : MethodName := ⟨RX1, "wake", "(II)V"⟩
abbrev cX1_lettersFrom : ByteArray := prog_3_method_18_code
def yX1_lettersFrom : MethodName := ⟨RX1, "lettersFrom", "(II)I"⟩
def RX2 : String := "DunningDesk"
def TX2 : u_T := fun k => match k with
  | 0 => ("DunningDesk", "cases", "LDunningDesk$CaseBook;", true)
  | 1 => ("DunningDesk", "messages", "LDunningDesk$MessageBook;", true)
  | _ => ("DunningDesk", "today", "I", false)
def tyX2 : Nat → FieldType := fun k => match k with
  | 0 => .object "DunningDesk$CaseBook"
  | 1 => .object "DunningDesk$MessageBook"
  | _ => .int
abbrev wsX20 : List Cond := u_ws RX2 TX2 3
theorem nmX2 : ∀ a, a < 3 → ∀ b, b < 3 → a ≠ b → (TX2 a).2.1 ≠ (TX2 b).2.1 := by decide +kernel
theorem tyX2_ok : ∀ k, k < 3 → parseFieldDescriptor (TX2 k).2.2.1 = some (tyX2 k) := by decide +kernel
abbrev cX2_init : ByteArray := prog_1_method_1_code
def yX2_init : MethodName := ⟨RX2, "<init>", "()V"⟩
abbrev cX2_open : ByteArray := prog_1_method_2_code
def yX2_open : MethodName := ⟨RX2, "open", "(II)I"⟩
abbrev cX2_amount : ByteArray := prog_1_method_3_code
def yX2_amount : MethodName := ⟨RX2, "amount", "(I)I"⟩
abbrev cX2_pause : ByteArray := prog_1_method_4_code
def yX2_pause : MethodName := ⟨RX2, "pause", "(II)I"⟩
abbrev cX2_awaitNote : ByteArray := prog_1_method_5_code
def yX2_awaitNote : MethodName := ⟨RX2, "awaitNote", "(I)Z"⟩
abbrev cX2_letters : ByteArray := prog_1_method_6_code
def yX2_letters : MethodName := ⟨RX2, "letters", "(I)I"⟩
abbrev cX2_lettersByMessages : ByteArray := prog_1_method_7_code
def yX2_lettersByMessages : MethodName := ⟨RX2, "lettersByMessages", "(I)I"⟩
abbrev cX2_nextReminder : ByteArray := prog_1_method_8_code
def yX2_nextReminder : MethodName := ⟨RX2, "nextReminder", "(I)I"⟩
abbrev cX2_post : ByteArray := prog_1_method_9_code
def yX2_post : MethodName := ⟨RX2, "post", "(IICIII)I"⟩
abbrev cX2_withKey : ByteArray := prog_1_method_10_code
def yX2_withKey : MethodName := ⟨RX2, "withKey", "(I)I"⟩
abbrev cX2_state : ByteArray := prog_1_method_11_code
def yX2_state : MethodName := ⟨RX2, "state", "(I)C"⟩
abbrev cX2_kind : ByteArray := prog_1_method_12_code
def yX2_kind : MethodName := ⟨RX2, "kind", "(I)C"⟩
abbrev cX2_tries : ByteArray := prog_1_method_13_code
def yX2_tries : MethodName := ⟨RX2, "tries", "(I)I"⟩
abbrev cX2_readyAt : ByteArray := prog_1_method_14_code
def yX2_readyAt : MethodName := ⟨RX2, "readyAt", "(I)I"⟩
abbrev cX2_ready : ByteArray := prog_1_method_15_code
def yX2_ready : MethodName := ⟨RX2, "ready", "(I)I"⟩
abbrev cX2_readyAtPlace : ByteArray := prog_1_method_16_code
def yX2_readyAtPlace : MethodName := ⟨RX2, "readyAtPlace", "(II)I"⟩
abbrev cX2_take : ByteArray := prog_1_method_17_code
def yX2_take : MethodName := ⟨RX2, "take", "(II)I"⟩
abbrev cX2_finish : ByteArray := prog_1_method_18_code
def yX2_finish : MethodName := ⟨RX2, "finish", "(I)Z"⟩
abbrev cX2_handBack : ByteArray := prog_1_method_19_code
def yX2_handBack : MethodName := ⟨RX2, "handBack", "(I)I"⟩
abbrev cX2_revive : ByteArray := prog_1_method_20_code
def yX2_revive : MethodName := ⟨RX2, "revive", "(I)I"⟩
abbrev cX2_clerk : ByteArray := prog_1_method_21_code
def yX2_clerk : MethodName := ⟨RX2, "clerk", "(I)I"⟩
abbrev cX2_has : ByteArray := prog_1_method_22_code
def yX2_has : MethodName := ⟨RX2, "has", "(I)I"⟩
abbrev cX2_pass : ByteArray := prog_1_method_23_code
def yX2_pass : MethodName := ⟨RX2, "pass", "(I)I"⟩
abbrev cX2_day : ByteArray := prog_1_method_24_code
def yX2_day : MethodName := ⟨RX2, "day", "()I"⟩
abbrev cX2_count : ByteArray := prog_1_method_25_code
def yX2_count : MethodName := ⟨RX2, "count", "(C)I"⟩
abbrev cX2_doneShare : ByteArray := prog_1_method_26_code
def yX2_doneShare : MethodName := ⟨RX2, "doneShare", "()F"⟩
abbrev cX2_meanAmount : ByteArray := prog_1_method_27_code
def yX2_meanAmount : MethodName := ⟨RX2, "meanAmount", "()D"⟩
abbrev cX2_isWithin : ByteArray := prog_1_method_28_code
def yX2_isWithin : MethodName := ⟨RX2, "isWithin", "(III)Z"⟩
abbrev cX2_requireCase : ByteArray := prog_1_method_29_code
def yX2_requireCase : MethodName := ⟨RX2, "requireCase", "(I)V"⟩
abbrev cX2_requireOpen : ByteArray := prog_1_method_30_code
def yX2_requireOpen : MethodName := ⟨RX2, "requireOpen", "(I)V"⟩
abbrev cX2_requireMessage : ByteArray := prog_1_method_31_code
def yX2_requireMessage : MethodName := ⟨RX2, "requireMessage", "(I)V"⟩
abbrev cX2_requireState : ByteArray := prog_1_method_32_code
def yX2_requireState : MethodName := ⟨RX2, "requireState", "(IC)V"⟩
abbrev cX2_requireQueue : ByteArray := prog_1_method_33_code
def yX2_requireQueue : MethodName := ⟨RX2, "requireQueue", "(I)V"⟩
abbrev cX2_requireClerk : ByteArray := prog_1_method_34_code
def yX2_requireClerk : MethodName := ⟨RX2, "requireClerk", "(I)V"⟩
abbrev cX2_settle : ByteArray := prog_1_method_35_code
def yX2_settle : MethodName := ⟨RX2, "settle", "(I)Z"⟩
abbrev cX2_reminderKey : ByteArray := prog_1_method_36_code
def yX2_reminderKey : MethodName := ⟨RX2, "reminderKey", "(II)I"⟩
abbrev cX2_isAnyReminderLeft : ByteArray := prog_1_method_37_code
def yX2_isAnyReminderLeft : MethodName := ⟨RX2, "isAnyReminderLeft", "(I)Z"⟩
abbrev cX2_isReminderDue : ByteArray := prog_1_method_38_code
def yX2_isReminderDue : MethodName := ⟨RX2, "isReminderDue", "(I)Z"⟩
abbrev cX2_postReminders : ByteArray := prog_1_method_39_code
def yX2_postReminders : MethodName := ⟨RX2, "postReminders", "()I"⟩
def RX3 : String := "DunningDeskModel"
def TX3 : u_T := fun k => match k with
  | 0 => ("DunningDeskModel", "amounts", "[I", true)
  | 1 => ("DunningDeskModel", "dues", "[I", true)
  | 2 => ("DunningDeskModel", "letters", "[I", true)
  | 3 => ("DunningDeskModel", "pausedTo", "[I", true)
  | 4 => ("DunningDeskModel", "waits", "[Z", true)
  | 5 => ("DunningDeskModel", "cases", "I", false)
  | 6 => ("DunningDeskModel", "queues", "[I", true)
  | 7 => ("DunningDeskModel", "keys", "[I", true)
  | 8 => ("DunningDeskModel", "kinds", "[C", true)
  | 9 => ("DunningDeskModel", "caseOf", "[I", true)
  | 10 => ("DunningDeskModel", "values", "[I", true)
  | 11 => ("DunningDeskModel", "readyOn", "[I", true)
  | 12 => ("DunningDeskModel", "tries", "[I", true)
  | 13 => ("DunningDeskModel", "states", "[C", true)
  | 14 => ("DunningDeskModel", "clerks", "[I", true)
  | 15 => ("DunningDeskModel", "takenOn", "[I", true)
  | 16 => ("DunningDeskModel", "messages", "I", false)
  | 17 => ("DunningDeskModel", "day", "I", false)
  | _ => ("DunningDeskModel", "thrown", "I", false)
def tyX3 : Nat → FieldType := fun k => match k with
  | 0 => .array .int
  | 1 => .array .int
  | 2 => .array .int
  | 3 => .array .int
  | 4 => .array .boolean
  | 5 => .int
  | 6 => .array .int
  | 7 => .array .int
  | 8 => .array .char
  | 9 => .array .int
  | 10 => .array .int
  | 11 => .array .int
  | 12 => .array .int
  | 13 => .array .char
  | 14 => .array .int
  | 15 => .array .int
  | 16 => .int
  | 17 => .int
  | _ => .int
abbrev wsX30 : List Cond := u_ws RX3 TX3 19
theorem nmX3 : ∀ a, a < 19 → ∀ b, b < 19 → a ≠ b → (TX3 a).2.1 ≠ (TX3 b).2.1 := by decide +kernel
theorem tyX3_ok : ∀ k, k < 19 → parseFieldDescriptor (TX3 k).2.2.1 = some (tyX3 k) := by decide +kernel
abbrev cX3_init : ByteArray := prog_5_method_1_code
def yX3_init : MethodName := ⟨RX3, "<init>", "()V"⟩
abbrev cX3_thrown : ByteArray := prog_5_method_2_code
def yX3_thrown : MethodName := ⟨RX3, "thrown", "()I"⟩
abbrev cX3_raises : ByteArray := prog_5_method_3_code
def yX3_raises : MethodName := ⟨RX3, "raises", "(I)I"⟩
abbrev cX3_in : ByteArray := prog_5_method_4_code
def yX3_in : MethodName := ⟨RX3, "in", "(III)Z"⟩
abbrev cX3_noCase : ByteArray := prog_5_method_5_code
def yX3_noCase : MethodName := ⟨RX3, "noCase", "(I)Z"⟩
abbrev cX3_noMessage : ByteArray := prog_5_method_6_code
def yX3_noMessage : MethodName := ⟨RX3, "noMessage", "(I)Z"⟩
abbrev cX3_open : ByteArray := prog_5_method_7_code
def yX3_open : MethodName := ⟨RX3, "open", "(II)I"⟩
abbrev cX3_amount : ByteArray := prog_5_method_8_code
def yX3_amount : MethodName := ⟨RX3, "amount", "(I)I"⟩
abbrev cX3_pause : ByteArray := prog_5_method_9_code
def yX3_pause : MethodName := ⟨RX3, "pause", "(II)I"⟩
abbrev cX3_awaitNote : ByteArray := prog_5_method_10_code
def yX3_awaitNote : MethodName := ⟨RX3, "awaitNote", "(I)Z"⟩
abbrev cX3_letters : ByteArray := prog_5_method_11_code
def yX3_letters : MethodName := ⟨RX3, "letters", "(I)I"⟩
abbrev cX3_lettersByMessages : ByteArray := prog_5_method_12_code
def yX3_lettersByMessages : MethodName := ⟨RX3, "lettersByMessages", "(I)I"⟩
abbrev cX3_find : ByteArray := prog_5_method_13_code
def yX3_find : MethodName := ⟨RX3, "find", "(I)I"⟩
abbrev cX3_mayRemind : ByteArray := prog_5_method_14_code
def yX3_mayRemind : MethodName := ⟨RX3, "mayRemind", "(I)Z"⟩
abbrev cX3_remindsFrom : ByteArray := prog_5_method_15_code
def yX3_remindsFrom : MethodName := ⟨RX3, "remindsFrom", "(I)I"⟩
abbrev cX3_nextReminder : ByteArray := prog_5_method_16_code
def yX3_nextReminder : MethodName := ⟨RX3, "nextReminder", "(I)I"⟩
abbrev cX3_adds : ByteArray := prog_5_method_17_code
def yX3_adds : MethodName := ⟨RX3, "adds", "(IICIII)I"⟩
abbrev cX3_post : ByteArray := prog_5_method_18_code
def yX3_post : MethodName := ⟨RX3, "post", "(IICIII)I"⟩
abbrev cX3_withKey : ByteArray := prog_5_method_19_code
def yX3_withKey : MethodName := ⟨RX3, "withKey", "(I)I"⟩
abbrev cX3_state : ByteArray := prog_5_method_20_code
def yX3_state : MethodName := ⟨RX3, "state", "(I)C"⟩
abbrev cX3_kind : ByteArray := prog_5_method_21_code
def yX3_kind : MethodName := ⟨RX3, "kind", "(I)C"⟩
abbrev cX3_tries : ByteArray := prog_5_method_22_code
def yX3_tries : MethodName := ⟨RX3, "tries", "(I)I"⟩
abbrev cX3_readyAt : ByteArray := prog_5_method_23_code
def yX3_readyAt : MethodName := ⟨RX3, "readyAt", "(I)I"⟩
abbrev cX3_isReady : ByteArray := prog_5_method_24_code
def yX3_isReady : MethodName := ⟨RX3, "isReady", "(II)Z"⟩
abbrev cX3_readyIn : ByteArray := prog_5_method_25_code
def yX3_readyIn : MethodName := ⟨RX3, "readyIn", "(I)I"⟩
abbrev cX3_ready : ByteArray := prog_5_method_26_code
def yX3_ready : MethodName := ⟨RX3, "ready", "(I)I"⟩
abbrev cX3_place : ByteArray := prog_5_method_27_code
def yX3_place : MethodName := ⟨RX3, "place", "(II)I"⟩
abbrev cX3_readyAtPlace : ByteArray := prog_5_method_28_code
def yX3_readyAtPlace : MethodName := ⟨RX3, "readyAtPlace", "(II)I"⟩
abbrev cX3_taken : ByteArray := prog_5_method_29_code
def yX3_taken : MethodName := ⟨RX3, "taken", "(I)I"⟩
abbrev cX3_take : ByteArray := prog_5_method_30_code
def yX3_take : MethodName := ⟨RX3, "take", "(II)I"⟩
abbrev cX3_finish : ByteArray := prog_5_method_31_code
def yX3_finish : MethodName := ⟨RX3, "finish", "(I)Z"⟩
abbrev cX3_back : ByteArray := prog_5_method_32_code
def yX3_back : MethodName := ⟨RX3, "back", "(I)I"⟩
abbrev cX3_handBack : ByteArray := prog_5_method_33_code
def yX3_handBack : MethodName := ⟨RX3, "handBack", "(I)I"⟩
abbrev cX3_in_ : ByteArray := prog_5_method_34_code
def yX3_in_ : MethodName := ⟨RX3, "in", "(C)I"⟩
abbrev cX3_revive : ByteArray := prog_5_method_35_code
def yX3_revive : MethodName := ⟨RX3, "revive", "(I)I"⟩
abbrev cX3_clerk : ByteArray := prog_5_method_36_code
def yX3_clerk : MethodName := ⟨RX3, "clerk", "(I)I"⟩
abbrev cX3_has : ByteArray := prog_5_method_37_code
def yX3_has : MethodName := ⟨RX3, "has", "(I)I"⟩
abbrev cX3_passes : ByteArray := prog_5_method_38_code
def yX3_passes : MethodName := ⟨RX3, "passes", "()I"⟩
abbrev cX3_pass : ByteArray := prog_5_method_39_code
def yX3_pass : MethodName := ⟨RX3, "pass", "(I)I"⟩
abbrev cX3_day : ByteArray := prog_5_method_40_code
def yX3_day : MethodName := ⟨RX3, "day", "()I"⟩
abbrev cX3_count : ByteArray := prog_5_method_41_code
def yX3_count : MethodName := ⟨RX3, "count", "(C)I"⟩
abbrev cX3_doneShare : ByteArray := prog_5_method_42_code
def yX3_doneShare : MethodName := ⟨RX3, "doneShare", "()F"⟩
abbrev cX3_meanAmount : ByteArray := prog_5_method_43_code
def yX3_meanAmount : MethodName := ⟨RX3, "meanAmount", "()D"⟩
def RJx145de : String := "java/io/Serializable"
def TJx145de : u_T := fun k => match k with
  | _ => ("", "", "", false)
def tyJx145de : Nat → FieldType := fun k => match k with
  | _ => .int
abbrev wsJx145de0 : List Cond := u_ws RJx145de TJx145de 0
theorem nmJx145de : ∀ a, a < 0 → ∀ b, b < 0 → a ≠ b → (TJx145de a).2.1 ≠ (TJx145de b).2.1 := by decide +kernel
theorem tyJx145de_ok : ∀ k, k < 0 → parseFieldDescriptor (TJx145de k).2.2.1 = some (tyJx145de k) := by decide +kernel
def RJx00060 : String := "java/lang/ArrayIndexOutOfBoundsException"
def TJx00060 : u_T := fun k => match k with
  | 0 => ("java/lang/Throwable", "backtrace", "Ljava/lang/Object;", false)
  | 1 => ("java/lang/Throwable", "detailMessage", "Ljava/lang/String;", false)
  | 2 => ("java/lang/Throwable", "cause", "Ljava/lang/Throwable;", false)
  | 3 => ("java/lang/Throwable", "stackTrace", "[Ljava/lang/StackTraceElement;", false)
  | 4 => ("java/lang/Throwable", "depth", "I", false)
  | _ => ("java/lang/Throwable", "suppressedExceptions", "Ljava/util/List;", false)
def tyJx00060 : Nat → FieldType := fun k => match k with
  | 0 => .object "java/lang/Object"
  | 1 => .object "java/lang/String"
  | 2 => .object "java/lang/Throwable"
  | 3 => .array (.object "java/lang/StackTraceElement")
  | 4 => .int
  | _ => .object "java/util/List"
abbrev wsJx000600 : List Cond := u_ws RJx00060 TJx00060 6
theorem nmJx00060 : ∀ a, a < 6 → ∀ b, b < 6 → a ≠ b → (TJx00060 a).2.1 ≠ (TJx00060 b).2.1 := by decide +kernel
theorem tyJx00060_ok : ∀ k, k < 6 → parseFieldDescriptor (TJx00060 k).2.2.1 = some (tyJx00060 k) := by decide +kernel
abbrev cJx00060_init_a7421 : ByteArray := prog_8_method_2_code
def yJx00060_init_a7421 : MethodName := ⟨RJx00060, "<init>", "(Ljava/lang/String;)V"⟩
def RJ9 : String := "java/lang/Math"
def TJ9 : u_T := fun k => match k with
  | _ => ("", "", "", false)
def tyJ9 : Nat → FieldType := fun k => match k with
  | _ => .int
abbrev wsJ90 : List Cond := u_ws RJ9 TJ9 0
theorem nmJ9 : ∀ a, a < 0 → ∀ b, b < 0 → a ≠ b → (TJ9 a).2.1 ≠ (TJ9 b).2.1 := by decide +kernel
theorem tyJ9_ok : ∀ k, k < 0 → parseFieldDescriptor (TJ9 k).2.2.1 = some (tyJ9 k) := by decide +kernel
abbrev cJ9_max_7cf53 : ByteArray := prog_13_method_65_code
def yJ9_max_7cf53 : MethodName := ⟨RJ9, "max", "(II)I"⟩
def RJ0 : String := "java/lang/String"
def TJ0 : u_T := fun k => match k with
  | 0 => ("java/lang/String", "value", "[B", true)
  | _ => ("java/lang/String", "coder", "B", true)
def tyJ0 : Nat → FieldType := fun k => match k with
  | 0 => .array .byte
  | _ => .byte
abbrev wsJ00 : List Cond := u_ws RJ0 TJ0 2
theorem nmJ0 : ∀ a, a < 2 → ∀ b, b < 2 → a ≠ b → (TJ0 a).2.1 ≠ (TJ0 b).2.1 := by decide +kernel
theorem tyJ0_ok : ∀ k, k < 2 → parseFieldDescriptor (TJ0 k).2.2.1 = some (tyJ0 k) := by decide +kernel
def RL : String := "DunningDeskLaw"
abbrev cL_open : ByteArray := method_3_code
def yL_open : MethodName := ⟨RL, "open", "(LDunningDesk;II[J)I"⟩
abbrev cL_amount : ByteArray := method_4_code
def yL_amount : MethodName := ⟨RL, "amount", "(LDunningDesk;I[J)I"⟩
abbrev cL_pause : ByteArray := method_5_code
def yL_pause : MethodName := ⟨RL, "pause", "(LDunningDesk;II[J)I"⟩
abbrev cL_awaitNote : ByteArray := method_6_code
def yL_awaitNote : MethodName := ⟨RL, "awaitNote", "(LDunningDesk;I[J)I"⟩
abbrev cL_letters : ByteArray := method_7_code
def yL_letters : MethodName := ⟨RL, "letters", "(LDunningDesk;I[J)I"⟩
abbrev cL_lettersByMessages : ByteArray := method_8_code
def yL_lettersByMessages : MethodName := ⟨RL, "lettersByMessages", "(LDunningDesk;I[J)I"⟩
abbrev cL_nextReminder : ByteArray := method_9_code
def yL_nextReminder : MethodName := ⟨RL, "nextReminder", "(LDunningDesk;I[J)I"⟩
abbrev cL_post : ByteArray := method_10_code
def yL_post : MethodName := ⟨RL, "post", "(LDunningDesk;IICIII[J)I"⟩
abbrev cL_withKey : ByteArray := method_11_code
def yL_withKey : MethodName := ⟨RL, "withKey", "(LDunningDesk;I[J)I"⟩
abbrev cL_state : ByteArray := method_12_code
def yL_state : MethodName := ⟨RL, "state", "(LDunningDesk;I[J)I"⟩
abbrev cL_kind : ByteArray := method_13_code
def yL_kind : MethodName := ⟨RL, "kind", "(LDunningDesk;I[J)I"⟩
abbrev cL_tries : ByteArray := method_14_code
def yL_tries : MethodName := ⟨RL, "tries", "(LDunningDesk;I[J)I"⟩
abbrev cL_readyAt : ByteArray := method_15_code
def yL_readyAt : MethodName := ⟨RL, "readyAt", "(LDunningDesk;I[J)I"⟩
abbrev cL_ready : ByteArray := method_16_code
def yL_ready : MethodName := ⟨RL, "ready", "(LDunningDesk;I[J)I"⟩
abbrev cL_readyAtPlace : ByteArray := method_17_code
def yL_readyAtPlace : MethodName := ⟨RL, "readyAtPlace", "(LDunningDesk;II[J)I"⟩
abbrev cL_take : ByteArray := method_18_code
def yL_take : MethodName := ⟨RL, "take", "(LDunningDesk;II[J)I"⟩
abbrev cL_finish : ByteArray := method_19_code
def yL_finish : MethodName := ⟨RL, "finish", "(LDunningDesk;I[J)I"⟩
abbrev cL_handBack : ByteArray := method_20_code
def yL_handBack : MethodName := ⟨RL, "handBack", "(LDunningDesk;I[J)I"⟩
abbrev cL_revive : ByteArray := method_21_code
def yL_revive : MethodName := ⟨RL, "revive", "(LDunningDesk;I[J)I"⟩
abbrev cL_clerk : ByteArray := method_22_code
def yL_clerk : MethodName := ⟨RL, "clerk", "(LDunningDesk;I[J)I"⟩
abbrev cL_has : ByteArray := method_23_code
def yL_has : MethodName := ⟨RL, "has", "(LDunningDesk;I[J)I"⟩
abbrev cL_pass : ByteArray := method_24_code
def yL_pass : MethodName := ⟨RL, "pass", "(LDunningDesk;I[J)I"⟩
abbrev cL_count : ByteArray := method_25_code
def yL_count : MethodName := ⟨RL, "count", "(LDunningDesk;C[J)I"⟩
abbrev cL_doneShare : ByteArray := method_26_code
def yL_doneShare : MethodName := ⟨RL, "doneShare", "(LDunningDesk;[D)I"⟩
abbrev cL_meanAmount : ByteArray := method_27_code
def yL_meanAmount : MethodName := ⟨RL, "meanAmount", "(LDunningDesk;[D)I"⟩
abbrev cL_law : ByteArray := code
def yL_law : MethodName := ⟨RL, "law", "([I)Z"⟩
def wsX0_init : List Cond := .code yX0_init cX0_init 1 none :: ([.methodLink RX0 3 objectInit, .instanceMethod objectInit, .code objectInit ⟨#[0xb1]⟩ 1 none, .arrayClass .int, .fieldLink RX0 9 "DunningDesk$CaseBook" "firstAmounts" "[I", .fieldLink RX0 15 "DunningDesk$CaseBook" "amounts" "[I", .fieldLink RX0 18 "DunningDesk$CaseBook" "dueDays" "[I", .fieldLink RX0 21 "DunningDesk$CaseBook" "lettersSent" "[I", .fieldLink RX0 24 "DunningDesk$CaseBook" "pauseEnds" "[I", .arrayClass .boolean, .fieldLink RX0 27 "DunningDesk$CaseBook" "awaitsNote" "[Z"] ++ wsX00)
def wsX0_contains : List Cond := .code yX0_contains cX0_contains 2 (some .boolean) :: ([.fieldLink RX0 31 "DunningDesk$CaseBook" "size" "I"] ++ wsX00)
def wsX0_isFull : List Cond := .code yX0_isFull cX0_isFull 1 (some .boolean) :: ([.fieldLink RX0 31 "DunningDesk$CaseBook" "size" "I"] ++ wsX00)
def wsX0_add : List Cond := .code yX0_add cX0_add 4 (some .int) :: ([.fieldLink RX0 31 "DunningDesk$CaseBook" "size" "I", .fieldLink RX0 9 "DunningDesk$CaseBook" "firstAmounts" "[I", .fieldLink RX0 15 "DunningDesk$CaseBook" "amounts" "[I", .fieldLink RX0 18 "DunningDesk$CaseBook" "dueDays" "[I"] ++ wsX00 ++ (vx_atM "java/lang/ArrayIndexOutOfBoundsException" ["java/lang/IndexOutOfBoundsException", "java/lang/RuntimeException", "java/lang/Exception"]).filter goodWord)
def wsX0_isOpen : List Cond := .code yX0_isOpen cX0_isOpen 2 (some .boolean) :: ([.fieldLink RX0 15 "DunningDesk$CaseBook" "amounts" "[I"] ++ wsX00 ++ (vx_atM "java/lang/ArrayIndexOutOfBoundsException" ["java/lang/IndexOutOfBoundsException", "java/lang/RuntimeException", "java/lang/Exception"]).filter goodWord)
def wsX0_pauseUntil : List Cond := .code yX0_pauseUntil cX0_pauseUntil 3 (some .int) :: ([.fieldLink RX0 24 "DunningDesk$CaseBook" "pauseEnds" "[I", .methodLink RX0 35 Lib.Math.max.name, .static Lib.Math.max.name, .initialized "java/lang/Math", .code Lib.Math.max.name Lib.Math.max.code 2 (some .int)] ++ wsX00 ++ (vx_atM "java/lang/ArrayIndexOutOfBoundsException" ["java/lang/IndexOutOfBoundsException", "java/lang/RuntimeException", "java/lang/Exception"]).filter goodWord)
def wsX0_reminderDay : List Cond := .code yX0_reminderDay cX0_reminderDay 2 (some .int) :: ([.fieldLink RX0 18 "DunningDesk$CaseBook" "dueDays" "[I", .fieldLink RX0 21 "DunningDesk$CaseBook" "lettersSent" "[I"] ++ wsX00 ++ (vx_atM "java/lang/ArrayIndexOutOfBoundsException" ["java/lang/IndexOutOfBoundsException", "java/lang/RuntimeException", "java/lang/Exception"]).filter goodWord)
def wsX0_pay : List Cond := .code yX0_pay cX0_pay 4 (some .boolean) :: ([.fieldLink RX0 15 "DunningDesk$CaseBook" "amounts" "[I", .methodLink RX0 35 Lib.Math.max.name, .static Lib.Math.max.name, .initialized "java/lang/Math", .code Lib.Math.max.name Lib.Math.max.code 2 (some .int)] ++ wsX00 ++ (vx_atM "java/lang/ArrayIndexOutOfBoundsException" ["java/lang/IndexOutOfBoundsException", "java/lang/RuntimeException", "java/lang/Exception"]).filter goodWord)
def wsX0_endWait : List Cond := .code yX0_endWait cX0_endWait 3 (some .boolean) :: ([.fieldLink RX0 27 "DunningDesk$CaseBook" "awaitsNote" "[Z"] ++ wsX00 ++ (vx_atM "java/lang/ArrayIndexOutOfBoundsException" ["java/lang/IndexOutOfBoundsException", "java/lang/RuntimeException", "java/lang/Exception"]).filter goodWord)
def wsX0_sendLetter : List Cond := .code yX0_sendLetter cX0_sendLetter 3 (some .boolean) :: ([.fieldLink RX0 21 "DunningDesk$CaseBook" "lettersSent" "[I", .methodLink RX0 41 yX0_isOpen, .instanceMethod yX0_isOpen, .selects RX0 yX0_isOpen yX0_isOpen, .initialized RX0, .code yX0_isOpen cX0_isOpen 2 (some .boolean), .fieldLink RX0 15 "DunningDesk$CaseBook" "amounts" "[I"] ++ wsX00 ++ (vx_atM "java/lang/ArrayIndexOutOfBoundsException" ["java/lang/IndexOutOfBoundsException", "java/lang/RuntimeException", "java/lang/Exception"]).filter goodWord)
def wsX0_countOpen : List Cond := .code yX0_countOpen cX0_countOpen 3 (some .int) :: ([.fieldLink RX0 31 "DunningDesk$CaseBook" "size" "I", .methodLink RX0 41 yX0_isOpen, .instanceMethod yX0_isOpen, .selects RX0 yX0_isOpen yX0_isOpen, .initialized RX0, .code yX0_isOpen cX0_isOpen 2 (some .boolean), .fieldLink RX0 15 "DunningDesk$CaseBook" "amounts" "[I"] ++ wsX00 ++ (vx_atM "java/lang/ArrayIndexOutOfBoundsException" ["java/lang/IndexOutOfBoundsException", "java/lang/RuntimeException", "java/lang/Exception"]).filter goodWord)
def wsX0_sumOfAmounts : List Cond := .code yX0_sumOfAmounts cX0_sumOfAmounts 3 (some .int) :: ([.fieldLink RX0 31 "DunningDesk$CaseBook" "size" "I", .fieldLink RX0 15 "DunningDesk$CaseBook" "amounts" "[I"] ++ wsX00 ++ (vx_atM "java/lang/ArrayIndexOutOfBoundsException" ["java/lang/IndexOutOfBoundsException", "java/lang/RuntimeException", "java/lang/Exception"]).filter goodWord)
def wsX1_init : List Cond := .code yX1_init cX1_init 1 none :: ([.methodLink RX1 3 objectInit, .instanceMethod objectInit, .code objectInit ⟨#[0xb1]⟩ 1 none, .arrayClass .int, .fieldLink RX1 9 "DunningDesk$MessageBook" "queues" "[I", .fieldLink RX1 15 "DunningDesk$MessageBook" "keys" "[I", .arrayClass .char, .fieldLink RX1 18 "DunningDesk$MessageBook" "kinds" "[C", .fieldLink RX1 22 "DunningDesk$MessageBook" "caseNumbers" "[I", .fieldLink RX1 25 "DunningDesk$MessageBook" "contents" "[I", .fieldLink RX1 28 "DunningDesk$MessageBook" "states" "[C", .fieldLink RX1 31 "DunningDesk$MessageBook" "readyDays" "[I", .fieldLink RX1 34 "DunningDesk$MessageBook" "triesMade" "[I", .fieldLink RX1 37 "DunningDesk$MessageBook" "takers" "[I", .fieldLink RX1 40 "DunningDesk$MessageBook" "takenDays" "[I", .fieldLink RX1 43 "DunningDesk$MessageBook" "doneOrder" "[I"] ++ wsX10)
def wsX1_contains : List Cond := .code yX1_contains cX1_contains 2 (some .boolean) :: ([.fieldLink RX1 46 "DunningDesk$MessageBook" "size" "I"] ++ wsX10)
def wsX1_isFull : List Cond := .code yX1_isFull cX1_isFull 1 (some .boolean) :: ([.fieldLink RX1 46 "DunningDesk$MessageBook" "size" "I"] ++ wsX10)
def wsX1_find : List Cond := .code yX1_find cX1_find 3 (some .int) :: ([.fieldLink RX1 46 "DunningDesk$MessageBook" "size" "I", .fieldLink RX1 15 "DunningDesk$MessageBook" "keys" "[I"] ++ wsX10 ++ (vx_atM "java/lang/ArrayIndexOutOfBoundsException" ["java/lang/IndexOutOfBoundsException", "java/lang/RuntimeException", "java/lang/Exception"]).filter goodWord)
def wsX1_add : List Cond := .code yX1_add cX1_add 8 (some .int) :: ([.fieldLink RX1 46 "DunningDesk$MessageBook" "size" "I", .fieldLink RX1 9 "DunningDesk$MessageBook" "queues" "[I", .fieldLink RX1 15 "DunningDesk$MessageBook" "keys" "[I", .fieldLink RX1 18 "DunningDesk$MessageBook" "kinds" "[C", .fieldLink RX1 22 "DunningDesk$MessageBook" "caseNumbers" "[I", .fieldLink RX1 25 "DunningDesk$MessageBook" "contents" "[I", .fieldLink RX1 31 "DunningDesk$MessageBook" "readyDays" "[I", .fieldLink RX1 28 "DunningDesk$MessageBook" "states" "[C"] ++ wsX10 ++ (vx_atM "java/lang/ArrayIndexOutOfBoundsException" ["java/lang/IndexOutOfBoundsException", "java/lang/RuntimeException", "java/lang/Exception"]).filter goodWord)
def wsX1_release : List Cond := .code yX1_release cX1_release 4 none :: ([.fieldLink RX1 46 "DunningDesk$MessageBook" "size" "I", .fieldLink RX1 28 "DunningDesk$MessageBook" "states" "[C", .fieldLink RX1 22 "DunningDesk$MessageBook" "caseNumbers" "[I", .fieldLink RX1 31 "DunningDesk$MessageBook" "readyDays" "[I", .methodLink RX1 50 Lib.Math.max.name, .static Lib.Math.max.name, .initialized "java/lang/Math", .code Lib.Math.max.name Lib.Math.max.code 2 (some .int)] ++ wsX10 ++ (vx_atM "java/lang/ArrayIndexOutOfBoundsException" ["java/lang/IndexOutOfBoundsException", "java/lang/RuntimeException", "java/lang/Exception"]).filter goodWord)
def wsX1_isReady : List Cond := .code yX1_isReady cX1_isReady 4 (some .boolean) :: ([.fieldLink RX1 9 "DunningDesk$MessageBook" "queues" "[I", .fieldLink RX1 28 "DunningDesk$MessageBook" "states" "[C", .fieldLink RX1 31 "DunningDesk$MessageBook" "readyDays" "[I"] ++ wsX10 ++ (vx_atM "java/lang/ArrayIndexOutOfBoundsException" ["java/lang/IndexOutOfBoundsException", "java/lang/RuntimeException", "java/lang/Exception"]).filter goodWord)
def wsX1_countReady : List Cond := .code yX1_countReady cX1_countReady 5 (some .int) :: ([.fieldLink RX1 46 "DunningDesk$MessageBook" "size" "I", .methodLink RX1 56 yX1_isReady, .instanceMethod yX1_isReady, .selects RX1 yX1_isReady yX1_isReady, .initialized RX1, .code yX1_isReady cX1_isReady 4 (some .boolean), .fieldLink RX1 9 "DunningDesk$MessageBook" "queues" "[I", .fieldLink RX1 28 "DunningDesk$MessageBook" "states" "[C", .fieldLink RX1 31 "DunningDesk$MessageBook" "readyDays" "[I"] ++ wsX10 ++ (vx_atM "java/lang/ArrayIndexOutOfBoundsException" ["java/lang/IndexOutOfBoundsException", "java/lang/RuntimeException", "java/lang/Exception"]).filter goodWord)
def wsX1_goesBefore : List Cond := .code yX1_goesBefore cX1_goesBefore 3 (some .boolean) :: ([.fieldLink RX1 31 "DunningDesk$MessageBook" "readyDays" "[I"] ++ wsX10 ++ (vx_atM "java/lang/ArrayIndexOutOfBoundsException" ["java/lang/IndexOutOfBoundsException", "java/lang/RuntimeException", "java/lang/Exception"]).filter goodWord)
def wsX1_nextReady : List Cond := .code yX1_nextReady cX1_nextReady 6 (some .int) :: ([.fieldLink RX1 46 "DunningDesk$MessageBook" "size" "I", .methodLink RX1 56 yX1_isReady, .instanceMethod yX1_isReady, .selects RX1 yX1_isReady yX1_isReady, .initialized RX1, .code yX1_isReady cX1_isReady 4 (some .boolean), .fieldLink RX1 9 "DunningDesk$MessageBook" "queues" "[I", .fieldLink RX1 28 "DunningDesk$MessageBook" "states" "[C", .fieldLink RX1 31 "DunningDesk$MessageBook" "readyDays" "[I", .methodLink RX1 60 yX1_goesBefore, .instanceMethod yX1_goesBefore, .selects RX1 yX1_goesBefore yX1_goesBefore, .code yX1_goesBefore cX1_goesBefore 3 (some .boolean)] ++ wsX10 ++ (vx_atM "java/lang/ArrayIndexOutOfBoundsException" ["java/lang/IndexOutOfBoundsException", "java/lang/RuntimeException", "java/lang/Exception"]).filter goodWord)
def wsX1_giveTo : List Cond := .code yX1_giveTo cX1_giveTo 4 none :: ([.fieldLink RX1 28 "DunningDesk$MessageBook" "states" "[C", .fieldLink RX1 37 "DunningDesk$MessageBook" "takers" "[I", .fieldLink RX1 40 "DunningDesk$MessageBook" "takenDays" "[I"] ++ wsX10 ++ (vx_atM "java/lang/ArrayIndexOutOfBoundsException" ["java/lang/IndexOutOfBoundsException", "java/lang/RuntimeException", "java/lang/Exception"]).filter goodWord)
def wsX1_countTakenBy : List Cond := .code yX1_countTakenBy cX1_countTakenBy 4 (some .int) :: ([.fieldLink RX1 46 "DunningDesk$MessageBook" "size" "I", .fieldLink RX1 28 "DunningDesk$MessageBook" "states" "[C", .fieldLink RX1 37 "DunningDesk$MessageBook" "takers" "[I"] ++ wsX10 ++ (vx_atM "java/lang/ArrayIndexOutOfBoundsException" ["java/lang/IndexOutOfBoundsException", "java/lang/RuntimeException", "java/lang/Exception"]).filter goodWord)
def wsX1_countIn : List Cond := .code yX1_countIn cX1_countIn 4 (some .int) :: ([.fieldLink RX1 46 "DunningDesk$MessageBook" "size" "I", .fieldLink RX1 28 "DunningDesk$MessageBook" "states" "[C"] ++ wsX10 ++ (vx_atM "java/lang/ArrayIndexOutOfBoundsException" ["java/lang/IndexOutOfBoundsException", "java/lang/RuntimeException", "java/lang/Exception"]).filter goodWord)
def wsX1_close : List Cond := .code yX1_close cX1_close 2 none :: ([.fieldLink RX1 28 "DunningDesk$MessageBook" "states" "[C", .fieldLink RX1 64 "DunningDesk$MessageBook" "doneSize" "I", .fieldLink RX1 43 "DunningDesk$MessageBook" "doneOrder" "[I"] ++ wsX10 ++ (vx_atM "java/lang/ArrayIndexOutOfBoundsException" ["java/lang/IndexOutOfBoundsException", "java/lang/RuntimeException", "java/lang/Exception"]).filter goodWord)
def wsX1_putBack : List Cond := .code yX1_putBack cX1_putBack 3 none :: ([.fieldLink RX1 34 "DunningDesk$MessageBook" "triesMade" "[I", .fieldLink RX1 28 "DunningDesk$MessageBook" "states" "[C", .fieldLink RX1 31 "DunningDesk$MessageBook" "readyDays" "[I"] ++ wsX10 ++ (vx_atM "java/lang/ArrayIndexOutOfBoundsException" ["java/lang/IndexOutOfBoundsException", "java/lang/RuntimeException", "java/lang/Exception"]).filter goodWord)
def wsX1_putBackTakenUntil : List Cond := .code yX1_putBackTakenUntil cX1_putBackTakenUntil 4 none :: ([.fieldLink RX1 46 "DunningDesk$MessageBook" "size" "I", .fieldLink RX1 28 "DunningDesk$MessageBook" "states" "[C", .fieldLink RX1 40 "DunningDesk$MessageBook" "takenDays" "[I", .methodLink RX1 67 yX1_putBack, .instanceMethod yX1_putBack, .selects RX1 yX1_putBack yX1_putBack, .initialized RX1, .code yX1_putBack cX1_putBack 3 none, .fieldLink RX1 34 "DunningDesk$MessageBook" "triesMade" "[I", .fieldLink RX1 31 "DunningDesk$MessageBook" "readyDays" "[I"] ++ wsX10 ++ (vx_atM "java/lang/ArrayIndexOutOfBoundsException" ["java/lang/IndexOutOfBoundsException", "java/lang/RuntimeException", "java/lang/Exception"]).filter goodWord)
def wsX1_wake : List Cond := .code yX1_wake cX1_wake 3 none :: ([.fieldLink RX1 28 "DunningDesk$MessageBook" "states" "[C", .fieldLink RX1 31 "DunningDesk$MessageBook" "readyDays" "[I", .fieldLink RX1 34 "DunningDesk$MessageBook" "triesMade" "[I"] ++ wsX10 ++ (vx_atM "java/lang/ArrayIndexOutOfBoundsException" ["java/lang/IndexOutOfBoundsException", "java/lang/RuntimeException", "java/lang/Exception"]).filter goodWord)
def wsX1_lettersFrom : List Cond := .code yX1_lettersFrom cX1_lettersFrom 7 (some .int) :: ([.fieldLink RX1 64 "DunningDesk$MessageBook" "doneSize" "I", .fieldLink RX1 43 "DunningDesk$MessageBook" "doneOrder" "[I", .fieldLink RX1 22 "DunningDesk$MessageBook" "caseNumbers" "[I", .fieldLink RX1 18 "DunningDesk$MessageBook" "kinds" "[C", .fieldLink RX1 25 "DunningDesk$MessageBook" "contents" "[I", .methodLink RX1 50 Lib.Math.max.name, .static Lib.Math.max.name, .initialized "java/lang/Math", .code Lib.Math.max.name Lib.Math.max.code 2 (some .int), .methodLink RX1 71 yX1_contains, .instanceMethod yX1_contains, .selects RX1 yX1_contains yX1_contains, .initialized RX1, .code yX1_contains cX1_contains 2 (some .boolean), .fieldLink RX1 46 "DunningDesk$MessageBook" "size" "I"] ++ wsX10 ++ (vx_atM "java/lang/ArrayIndexOutOfBoundsException" ["java/lang/IndexOutOfBoundsException", "java/lang/RuntimeException", "java/lang/Exception"]).filter goodWord)
def wsX2_init_r1 : List Cond := [Cond.methodLink RX2 1 objectInit, Cond.instanceMethod objectInit, Cond.code objectInit ⟨#[0xb1]⟩ 1 none, Cond.classLink RX2 7 RX0, Cond.instantiable RX0 7, Cond.initialized RX0, Cond.fieldLink RX2 10 "DunningDesk" "cases" "LDunningDesk$CaseBook;", Cond.classLink RX2 16 RX1, Cond.instantiable RX1 13, Cond.initialized RX1, Cond.fieldLink RX2 19 "DunningDesk" "messages" "LDunningDesk$MessageBook;", Cond.fieldLink RX2 23 "DunningDesk" "today" "I", Cond.instanceMethod yX0_init, Cond.code yX0_init cX0_init 1 none, Cond.methodLink RX0 3 objectInit, Cond.arrayClass .int, Cond.fieldLink RX0 9 "DunningDesk$CaseBook" "firstAmounts" "[I", Cond.fieldLink RX0 15 "DunningDesk$CaseBook" "amounts" "[I", Cond.fieldLink RX0 18 "DunningDesk$CaseBook" "dueDays" "[I", Cond.fieldLink RX0 21 "DunningDesk$CaseBook" "lettersSent" "[I", Cond.fieldLink RX0 24 "DunningDesk$CaseBook" "pauseEnds" "[I", Cond.arrayClass .boolean, Cond.fieldLink RX0 27 "DunningDesk$CaseBook" "awaitsNote" "[Z", Cond.instanceMethod yX1_init]
def wsX2_init_r2 : List Cond := [Cond.code yX1_init cX1_init 1 none, Cond.methodLink RX1 3 objectInit, Cond.fieldLink RX1 9 "DunningDesk$MessageBook" "queues" "[I", Cond.fieldLink RX1 15 "DunningDesk$MessageBook" "keys" "[I", Cond.arrayClass .char, Cond.fieldLink RX1 18 "DunningDesk$MessageBook" "kinds" "[C", Cond.fieldLink RX1 22 "DunningDesk$MessageBook" "caseNumbers" "[I", Cond.fieldLink RX1 25 "DunningDesk$MessageBook" "contents" "[I", Cond.fieldLink RX1 28 "DunningDesk$MessageBook" "states" "[C", Cond.fieldLink RX1 31 "DunningDesk$MessageBook" "readyDays" "[I", Cond.fieldLink RX1 34 "DunningDesk$MessageBook" "triesMade" "[I", Cond.fieldLink RX1 37 "DunningDesk$MessageBook" "takers" "[I", Cond.fieldLink RX1 40 "DunningDesk$MessageBook" "takenDays" "[I", Cond.fieldLink RX1 43 "DunningDesk$MessageBook" "doneOrder" "[I"]
def wsX2_init : List Cond := .code yX2_init cX2_init 1 none :: ((wsX2_init_r1 ++ wsX2_init_r2) ++ wsX00 ++ wsX20 ++ wsX10)
def wsX2_isWithin : List Cond := .code yX2_isWithin cX2_isWithin 3 (some .boolean) :: ([])
def wsX2_open_r1 : List Cond := [Cond.classLink RX2 31 "java/lang/IllegalArgumentException", Cond.initialized "java/lang/IllegalArgumentException", Cond.classLink RX2 42 "java/lang/IllegalStateException", Cond.initialized "java/lang/IllegalStateException", Cond.fieldLink RX2 10 "DunningDesk" "cases" "LDunningDesk$CaseBook;", Cond.fieldLink RX2 19 "DunningDesk" "messages" "LDunningDesk$MessageBook;", Cond.fieldLink RX2 23 "DunningDesk" "today" "I", Cond.methodLink RX2 27 yX2_isWithin, Cond.static yX2_isWithin, Cond.initialized RX2, Cond.code yX2_isWithin cX2_isWithin 3 (some .boolean), Cond.instanceMethod yX0_isFull, Cond.initialized RX0, Cond.selects RX0 yX0_isFull yX0_isFull, Cond.code yX0_isFull cX0_isFull 1 (some .boolean), Cond.fieldLink RX0 31 "DunningDesk$CaseBook" "size" "I", Cond.instanceMethod yX0_add, Cond.selects RX0 yX0_add yX0_add, Cond.code yX0_add cX0_add 4 (some .int), Cond.fieldLink RX0 9 "DunningDesk$CaseBook" "firstAmounts" "[I", Cond.fieldLink RX0 15 "DunningDesk$CaseBook" "amounts" "[I", Cond.fieldLink RX0 18 "DunningDesk$CaseBook" "dueDays" "[I", Cond.instanceMethod yX1_release, Cond.initialized RX1]
def wsX2_open_r2 : List Cond := [Cond.selects RX1 yX1_release yX1_release, Cond.code yX1_release cX1_release 4 none, Cond.fieldLink RX1 46 "DunningDesk$MessageBook" "size" "I", Cond.fieldLink RX1 28 "DunningDesk$MessageBook" "states" "[C", Cond.fieldLink RX1 22 "DunningDesk$MessageBook" "caseNumbers" "[I", Cond.fieldLink RX1 31 "DunningDesk$MessageBook" "readyDays" "[I", Cond.methodLink RX1 50 Lib.Math.max.name, Cond.static Lib.Math.max.name, Cond.initialized "java/lang/Math", Cond.code Lib.Math.max.name Lib.Math.max.code 2 (some .int)]
def wsX2_open : List Cond := .code yX2_open cX2_open 4 (some .int) :: ((wsX2_open_r1 ++ wsX2_open_r2) ++ wsX20 ++ wsX00 ++ wsX10 ++ (vx_atS RX2 35 "java/lang/IllegalArgumentException" ["java/lang/RuntimeException", "java/lang/Exception"]).filter goodWord ++ (vx_atS RX2 46 "java/lang/IllegalStateException" ["java/lang/RuntimeException", "java/lang/Exception"]).filter goodWord ++ (vx_atM "java/lang/ArrayIndexOutOfBoundsException" ["java/lang/IndexOutOfBoundsException", "java/lang/RuntimeException", "java/lang/Exception"]).filter goodWord)
def wsX2_requireCase : List Cond := .code yX2_requireCase cX2_requireCase 2 none :: ([.classLink RX2 215 "java/lang/IndexOutOfBoundsException", .initialized "java/lang/IndexOutOfBoundsException", .fieldLink RX2 10 "DunningDesk" "cases" "LDunningDesk$CaseBook;", .instanceMethod yX0_contains, .initialized RX0, .selects RX0 yX0_contains yX0_contains, .code yX0_contains cX0_contains 2 (some .boolean), .fieldLink RX0 31 "DunningDesk$CaseBook" "size" "I"] ++ wsX20 ++ wsX00 ++ (vx_atS RX2 219 "java/lang/IndexOutOfBoundsException" ["java/lang/RuntimeException", "java/lang/Exception"]).filter goodWord)
def wsX2_amount : List Cond := .code yX2_amount cX2_amount 2 (some .int) :: ([.fieldLink RX2 10 "DunningDesk" "cases" "LDunningDesk$CaseBook;", .methodLink RX2 55 yX2_requireCase, .instanceMethod yX2_requireCase, .selects RX2 yX2_requireCase yX2_requireCase, .initialized RX2, .code yX2_requireCase cX2_requireCase 2 none, .classLink RX2 215 "java/lang/IndexOutOfBoundsException", .initialized "java/lang/IndexOutOfBoundsException", .instanceMethod yX0_contains, .initialized RX0, .selects RX0 yX0_contains yX0_contains, .code yX0_contains cX0_contains 2 (some .boolean), .fieldLink RX0 31 "DunningDesk$CaseBook" "size" "I"] ++ wsX20 ++ wsX00 ++ (vx_atM "java/lang/ArrayIndexOutOfBoundsException" ["java/lang/IndexOutOfBoundsException", "java/lang/RuntimeException", "java/lang/Exception"]).filter goodWord ++ (vx_atS RX2 219 "java/lang/IndexOutOfBoundsException" ["java/lang/RuntimeException", "java/lang/Exception"]).filter goodWord)
def wsX2_requireOpen : List Cond := .code yX2_requireOpen cX2_requireOpen 2 none :: ([.classLink RX2 42 "java/lang/IllegalStateException", .initialized "java/lang/IllegalStateException", .fieldLink RX2 10 "DunningDesk" "cases" "LDunningDesk$CaseBook;", .instanceMethod yX0_isOpen, .initialized RX0, .selects RX0 yX0_isOpen yX0_isOpen, .code yX0_isOpen cX0_isOpen 2 (some .boolean), .fieldLink RX0 15 "DunningDesk$CaseBook" "amounts" "[I"] ++ wsX20 ++ wsX00 ++ (vx_atS RX2 46 "java/lang/IllegalStateException" ["java/lang/RuntimeException", "java/lang/Exception"]).filter goodWord ++ (vx_atM "java/lang/ArrayIndexOutOfBoundsException" ["java/lang/IndexOutOfBoundsException", "java/lang/RuntimeException", "java/lang/Exception"]).filter goodWord)
def wsX2_pause_r1 : List Cond := [Cond.classLink RX2 31 "java/lang/IllegalArgumentException", Cond.initialized "java/lang/IllegalArgumentException", Cond.fieldLink RX2 10 "DunningDesk" "cases" "LDunningDesk$CaseBook;", Cond.fieldLink RX2 23 "DunningDesk" "today" "I", Cond.methodLink RX2 55 yX2_requireCase, Cond.instanceMethod yX2_requireCase, Cond.selects RX2 yX2_requireCase yX2_requireCase, Cond.initialized RX2, Cond.code yX2_requireCase cX2_requireCase 2 none, Cond.classLink RX2 215 "java/lang/IndexOutOfBoundsException", Cond.initialized "java/lang/IndexOutOfBoundsException", Cond.instanceMethod yX0_contains, Cond.initialized RX0, Cond.selects RX0 yX0_contains yX0_contains, Cond.code yX0_contains cX0_contains 2 (some .boolean), Cond.fieldLink RX0 31 "DunningDesk$CaseBook" "size" "I", Cond.methodLink RX2 27 yX2_isWithin, Cond.static yX2_isWithin, Cond.code yX2_isWithin cX2_isWithin 3 (some .boolean), Cond.methodLink RX2 65 yX2_requireOpen, Cond.instanceMethod yX2_requireOpen, Cond.selects RX2 yX2_requireOpen yX2_requireOpen, Cond.code yX2_requireOpen cX2_requireOpen 2 none, Cond.classLink RX2 42 "java/lang/IllegalStateException"]
def wsX2_pause_r2 : List Cond := [Cond.initialized "java/lang/IllegalStateException", Cond.instanceMethod yX0_isOpen, Cond.selects RX0 yX0_isOpen yX0_isOpen, Cond.code yX0_isOpen cX0_isOpen 2 (some .boolean), Cond.fieldLink RX0 15 "DunningDesk$CaseBook" "amounts" "[I", Cond.instanceMethod yX0_pauseUntil, Cond.selects RX0 yX0_pauseUntil yX0_pauseUntil, Cond.code yX0_pauseUntil cX0_pauseUntil 3 (some .int), Cond.fieldLink RX0 24 "DunningDesk$CaseBook" "pauseEnds" "[I", Cond.methodLink RX0 35 Lib.Math.max.name, Cond.static Lib.Math.max.name, Cond.initialized "java/lang/Math", Cond.code Lib.Math.max.name Lib.Math.max.code 2 (some .int)]
def wsX2_pause : List Cond := .code yX2_pause cX2_pause 3 (some .int) :: ((wsX2_pause_r1 ++ wsX2_pause_r2) ++ wsX20 ++ wsX00 ++ (vx_atS RX2 35 "java/lang/IllegalArgumentException" ["java/lang/RuntimeException", "java/lang/Exception"]).filter goodWord ++ (vx_atS RX2 219 "java/lang/IndexOutOfBoundsException" ["java/lang/RuntimeException", "java/lang/Exception"]).filter goodWord ++ (vx_atS RX2 46 "java/lang/IllegalStateException" ["java/lang/RuntimeException", "java/lang/Exception"]).filter goodWord ++ (vx_atM "java/lang/ArrayIndexOutOfBoundsException" ["java/lang/IndexOutOfBoundsException", "java/lang/RuntimeException", "java/lang/Exception"]).filter goodWord)
def wsX2_awaitNote : List Cond := .code yX2_awaitNote cX2_awaitNote 3 (some .boolean) :: ([.fieldLink RX2 10 "DunningDesk" "cases" "LDunningDesk$CaseBook;", .methodLink RX2 55 yX2_requireCase, .instanceMethod yX2_requireCase, .selects RX2 yX2_requireCase yX2_requireCase, .initialized RX2, .code yX2_requireCase cX2_requireCase 2 none, .classLink RX2 215 "java/lang/IndexOutOfBoundsException", .initialized "java/lang/IndexOutOfBoundsException", .instanceMethod yX0_contains, .initialized RX0, .selects RX0 yX0_contains yX0_contains, .code yX0_contains cX0_contains 2 (some .boolean), .fieldLink RX0 31 "DunningDesk$CaseBook" "size" "I", .methodLink RX2 65 yX2_requireOpen, .instanceMethod yX2_requireOpen, .selects RX2 yX2_requireOpen yX2_requireOpen, .code yX2_requireOpen cX2_requireOpen 2 none, .classLink RX2 42 "java/lang/IllegalStateException", .initialized "java/lang/IllegalStateException", .instanceMethod yX0_isOpen, .selects RX0 yX0_isOpen yX0_isOpen, .code yX0_isOpen cX0_isOpen 2 (some .boolean), .fieldLink RX0 15 "DunningDesk$CaseBook" "amounts" "[I"] ++ wsX20 ++ wsX00 ++ (vx_atM "java/lang/ArrayIndexOutOfBoundsException" ["java/lang/IndexOutOfBoundsException", "java/lang/RuntimeException", "java/lang/Exception"]).filter goodWord ++ (vx_atS RX2 219 "java/lang/IndexOutOfBoundsException" ["java/lang/RuntimeException", "java/lang/Exception"]).filter goodWord ++ (vx_atS RX2 46 "java/lang/IllegalStateException" ["java/lang/RuntimeException", "java/lang/Exception"]).filter goodWord)
def wsX2_letters : List Cond := .code yX2_letters cX2_letters 2 (some .int) :: ([.fieldLink RX2 10 "DunningDesk" "cases" "LDunningDesk$CaseBook;", .methodLink RX2 55 yX2_requireCase, .instanceMethod yX2_requireCase, .selects RX2 yX2_requireCase yX2_requireCase, .initialized RX2, .code yX2_requireCase cX2_requireCase 2 none, .classLink RX2 215 "java/lang/IndexOutOfBoundsException", .initialized "java/lang/IndexOutOfBoundsException", .instanceMethod yX0_contains, .initialized RX0, .selects RX0 yX0_contains yX0_contains, .code yX0_contains cX0_contains 2 (some .boolean), .fieldLink RX0 31 "DunningDesk$CaseBook" "size" "I"] ++ wsX20 ++ wsX00 ++ (vx_atM "java/lang/ArrayIndexOutOfBoundsException" ["java/lang/IndexOutOfBoundsException", "java/lang/RuntimeException", "java/lang/Exception"]).filter goodWord ++ (vx_atS RX2 219 "java/lang/IndexOutOfBoundsException" ["java/lang/RuntimeException", "java/lang/Exception"]).filter goodWord)
def wsX2_lettersByMessages_r1 : List Cond := [Cond.fieldLink RX2 19 "DunningDesk" "messages" "LDunningDesk$MessageBook;", Cond.fieldLink RX2 10 "DunningDesk" "cases" "LDunningDesk$CaseBook;", Cond.methodLink RX2 55 yX2_requireCase, Cond.instanceMethod yX2_requireCase, Cond.selects RX2 yX2_requireCase yX2_requireCase, Cond.initialized RX2, Cond.code yX2_requireCase cX2_requireCase 2 none, Cond.classLink RX2 215 "java/lang/IndexOutOfBoundsException", Cond.initialized "java/lang/IndexOutOfBoundsException", Cond.instanceMethod yX0_contains, Cond.initialized RX0, Cond.selects RX0 yX0_contains yX0_contains, Cond.code yX0_contains cX0_contains 2 (some .boolean), Cond.fieldLink RX0 31 "DunningDesk$CaseBook" "size" "I", Cond.instanceMethod yX1_lettersFrom, Cond.initialized RX1, Cond.selects RX1 yX1_lettersFrom yX1_lettersFrom, Cond.code yX1_lettersFrom cX1_lettersFrom 7 (some .int), Cond.fieldLink RX1 64 "DunningDesk$MessageBook" "doneSize" "I", Cond.fieldLink RX1 43 "DunningDesk$MessageBook" "doneOrder" "[I", Cond.fieldLink RX1 22 "DunningDesk$MessageBook" "caseNumbers" "[I", Cond.fieldLink RX1 18 "DunningDesk$MessageBook" "kinds" "[C", Cond.fieldLink RX1 25 "DunningDesk$MessageBook" "contents" "[I", Cond.methodLink RX1 50 Lib.Math.max.name]
def wsX2_lettersByMessages_r2 : List Cond := [Cond.static Lib.Math.max.name, Cond.initialized "java/lang/Math", Cond.code Lib.Math.max.name Lib.Math.max.code 2 (some .int), Cond.methodLink RX1 71 yX1_contains, Cond.instanceMethod yX1_contains, Cond.selects RX1 yX1_contains yX1_contains, Cond.code yX1_contains cX1_contains 2 (some .boolean), Cond.fieldLink RX1 46 "DunningDesk$MessageBook" "size" "I"]
def wsX2_lettersByMessages : List Cond := .code yX2_lettersByMessages cX2_lettersByMessages 2 (some .int) :: ((wsX2_lettersByMessages_r1 ++ wsX2_lettersByMessages_r2) ++ wsX20 ++ wsX00 ++ wsX10 ++ (vx_atM "java/lang/ArrayIndexOutOfBoundsException" ["java/lang/IndexOutOfBoundsException", "java/lang/RuntimeException", "java/lang/Exception"]).filter goodWord ++ (vx_atS RX2 219 "java/lang/IndexOutOfBoundsException" ["java/lang/RuntimeException", "java/lang/Exception"]).filter goodWord)
def wsX2_reminderKey : List Cond := .code yX2_reminderKey cX2_reminderKey 2 (some .int) :: ([])
def wsX2_isAnyReminderLeft : List Cond := .code yX2_isAnyReminderLeft cX2_isAnyReminderLeft 3 (some .boolean) :: ([.fieldLink RX2 10 "DunningDesk" "cases" "LDunningDesk$CaseBook;", .fieldLink RX2 19 "DunningDesk" "messages" "LDunningDesk$MessageBook;", .instanceMethod yX0_isOpen, .initialized RX0, .selects RX0 yX0_isOpen yX0_isOpen, .code yX0_isOpen cX0_isOpen 2 (some .boolean), .fieldLink RX0 15 "DunningDesk$CaseBook" "amounts" "[I", .methodLink RX2 250 yX2_reminderKey, .static yX2_reminderKey, .initialized RX2, .code yX2_reminderKey cX2_reminderKey 2 (some .int), .instanceMethod yX1_find, .initialized RX1, .selects RX1 yX1_find yX1_find, .code yX1_find cX1_find 3 (some .int), .fieldLink RX1 46 "DunningDesk$MessageBook" "size" "I", .fieldLink RX1 15 "DunningDesk$MessageBook" "keys" "[I"] ++ wsX20 ++ wsX00 ++ wsX10 ++ (vx_atM "java/lang/ArrayIndexOutOfBoundsException" ["java/lang/IndexOutOfBoundsException", "java/lang/RuntimeException", "java/lang/Exception"]).filter goodWord)
def wsX2_nextReminder_r1 : List Cond := [Cond.classLink RX2 88 "java/util/NoSuchElementException", Cond.initialized "java/util/NoSuchElementException", Cond.fieldLink RX2 23 "DunningDesk" "today" "I", Cond.fieldLink RX2 10 "DunningDesk" "cases" "LDunningDesk$CaseBook;", Cond.methodLink RX2 97 Lib.Math.max.name, Cond.static Lib.Math.max.name, Cond.initialized "java/lang/Math", Cond.code Lib.Math.max.name Lib.Math.max.code 2 (some .int), Cond.methodLink RX2 55 yX2_requireCase, Cond.instanceMethod yX2_requireCase, Cond.selects RX2 yX2_requireCase yX2_requireCase, Cond.initialized RX2, Cond.code yX2_requireCase cX2_requireCase 2 none, Cond.classLink RX2 215 "java/lang/IndexOutOfBoundsException", Cond.initialized "java/lang/IndexOutOfBoundsException", Cond.instanceMethod yX0_contains, Cond.initialized RX0, Cond.selects RX0 yX0_contains yX0_contains, Cond.code yX0_contains cX0_contains 2 (some .boolean), Cond.fieldLink RX0 31 "DunningDesk$CaseBook" "size" "I", Cond.methodLink RX2 84 yX2_isAnyReminderLeft, Cond.instanceMethod yX2_isAnyReminderLeft, Cond.selects RX2 yX2_isAnyReminderLeft yX2_isAnyReminderLeft, Cond.code yX2_isAnyReminderLeft cX2_isAnyReminderLeft 3 (some .boolean)]
def wsX2_nextReminder_r2 : List Cond := [Cond.fieldLink RX2 19 "DunningDesk" "messages" "LDunningDesk$MessageBook;", Cond.instanceMethod yX0_isOpen, Cond.selects RX0 yX0_isOpen yX0_isOpen, Cond.code yX0_isOpen cX0_isOpen 2 (some .boolean), Cond.fieldLink RX0 15 "DunningDesk$CaseBook" "amounts" "[I", Cond.methodLink RX2 250 yX2_reminderKey, Cond.static yX2_reminderKey, Cond.code yX2_reminderKey cX2_reminderKey 2 (some .int), Cond.instanceMethod yX1_find, Cond.initialized RX1, Cond.selects RX1 yX1_find yX1_find, Cond.code yX1_find cX1_find 3 (some .int), Cond.fieldLink RX1 46 "DunningDesk$MessageBook" "size" "I", Cond.fieldLink RX1 15 "DunningDesk$MessageBook" "keys" "[I", Cond.instanceMethod yX0_reminderDay, Cond.selects RX0 yX0_reminderDay yX0_reminderDay, Cond.code yX0_reminderDay cX0_reminderDay 2 (some .int), Cond.fieldLink RX0 18 "DunningDesk$CaseBook" "dueDays" "[I", Cond.fieldLink RX0 21 "DunningDesk$CaseBook" "lettersSent" "[I"]
def wsX2_nextReminder : List Cond := .code yX2_nextReminder cX2_nextReminder 3 (some .int) :: ((wsX2_nextReminder_r1 ++ wsX2_nextReminder_r2) ++ wsX20 ++ wsX00 ++ wsX10 ++ (yN_atS RX2 92).filter goodWord ++ (vx_atM "java/lang/ArrayIndexOutOfBoundsException" ["java/lang/IndexOutOfBoundsException", "java/lang/RuntimeException", "java/lang/Exception"]).filter goodWord ++ (vx_atS RX2 219 "java/lang/IndexOutOfBoundsException" ["java/lang/RuntimeException", "java/lang/Exception"]).filter goodWord)
def wsX2_requireQueue : List Cond := .code yX2_requireQueue cX2_requireQueue 1 none :: ([.classLink RX2 31 "java/lang/IllegalArgumentException", .initialized "java/lang/IllegalArgumentException", .methodLink RX2 27 yX2_isWithin, .static yX2_isWithin, .initialized RX2, .code yX2_isWithin cX2_isWithin 3 (some .boolean)] ++ (vx_atS RX2 35 "java/lang/IllegalArgumentException" ["java/lang/RuntimeException", "java/lang/Exception"]).filter goodWord)
def wsX2_post_r1 : List Cond := [Cond.classLink RX2 31 "java/lang/IllegalArgumentException", Cond.initialized "java/lang/IllegalArgumentException", Cond.classLink RX2 42 "java/lang/IllegalStateException", Cond.initialized "java/lang/IllegalStateException", Cond.fieldLink RX2 19 "DunningDesk" "messages" "LDunningDesk$MessageBook;", Cond.fieldLink RX2 23 "DunningDesk" "today" "I", Cond.fieldLink RX2 10 "DunningDesk" "cases" "LDunningDesk$CaseBook;", Cond.methodLink RX2 105 yX2_requireQueue, Cond.static yX2_requireQueue, Cond.initialized RX2, Cond.code yX2_requireQueue cX2_requireQueue 1 none, Cond.methodLink RX2 27 yX2_isWithin, Cond.static yX2_isWithin, Cond.code yX2_isWithin cX2_isWithin 3 (some .boolean), Cond.instanceMethod yX1_find, Cond.initialized RX1, Cond.selects RX1 yX1_find yX1_find, Cond.code yX1_find cX1_find 3 (some .int), Cond.fieldLink RX1 46 "DunningDesk$MessageBook" "size" "I", Cond.fieldLink RX1 15 "DunningDesk$MessageBook" "keys" "[I", Cond.instanceMethod yX1_isFull, Cond.selects RX1 yX1_isFull yX1_isFull, Cond.code yX1_isFull cX1_isFull 1 (some .boolean), Cond.instanceMethod yX1_add]
def wsX2_post_r2 : List Cond := [Cond.selects RX1 yX1_add yX1_add, Cond.code yX1_add cX1_add 8 (some .int), Cond.fieldLink RX1 9 "DunningDesk$MessageBook" "queues" "[I", Cond.fieldLink RX1 18 "DunningDesk$MessageBook" "kinds" "[C", Cond.fieldLink RX1 22 "DunningDesk$MessageBook" "caseNumbers" "[I", Cond.fieldLink RX1 25 "DunningDesk$MessageBook" "contents" "[I", Cond.fieldLink RX1 31 "DunningDesk$MessageBook" "readyDays" "[I", Cond.fieldLink RX1 28 "DunningDesk$MessageBook" "states" "[C", Cond.instanceMethod yX0_contains, Cond.initialized RX0, Cond.selects RX0 yX0_contains yX0_contains, Cond.code yX0_contains cX0_contains 2 (some .boolean), Cond.fieldLink RX0 31 "DunningDesk$CaseBook" "size" "I"]
def wsX2_post : List Cond := .code yX2_post cX2_post 9 (some .int) :: ((wsX2_post_r1 ++ wsX2_post_r2) ++ wsX20 ++ wsX10 ++ wsX00 ++ (vx_atS RX2 35 "java/lang/IllegalArgumentException" ["java/lang/RuntimeException", "java/lang/Exception"]).filter goodWord ++ (vx_atS RX2 46 "java/lang/IllegalStateException" ["java/lang/RuntimeException", "java/lang/Exception"]).filter goodWord ++ (vx_atM "java/lang/ArrayIndexOutOfBoundsException" ["java/lang/IndexOutOfBoundsException", "java/lang/RuntimeException", "java/lang/Exception"]).filter goodWord)
def wsX2_withKey : List Cond := .code yX2_withKey cX2_withKey 3 (some .int) :: ([.classLink RX2 88 "java/util/NoSuchElementException", .initialized "java/util/NoSuchElementException", .fieldLink RX2 19 "DunningDesk" "messages" "LDunningDesk$MessageBook;", .instanceMethod yX1_find, .initialized RX1, .selects RX1 yX1_find yX1_find, .code yX1_find cX1_find 3 (some .int), .fieldLink RX1 46 "DunningDesk$MessageBook" "size" "I", .fieldLink RX1 15 "DunningDesk$MessageBook" "keys" "[I"] ++ wsX20 ++ wsX10 ++ (yN_atS RX2 92).filter goodWord ++ (vx_atM "java/lang/ArrayIndexOutOfBoundsException" ["java/lang/IndexOutOfBoundsException", "java/lang/RuntimeException", "java/lang/Exception"]).filter goodWord)
def wsX2_requireMessage : List Cond := .code yX2_requireMessage cX2_requireMessage 2 none :: ([.classLink RX2 215 "java/lang/IndexOutOfBoundsException", .initialized "java/lang/IndexOutOfBoundsException", .fieldLink RX2 19 "DunningDesk" "messages" "LDunningDesk$MessageBook;", .instanceMethod yX1_contains, .initialized RX1, .selects RX1 yX1_contains yX1_contains, .code yX1_contains cX1_contains 2 (some .boolean), .fieldLink RX1 46 "DunningDesk$MessageBook" "size" "I"] ++ wsX20 ++ wsX10 ++ (vx_atS RX2 219 "java/lang/IndexOutOfBoundsException" ["java/lang/RuntimeException", "java/lang/Exception"]).filter goodWord)
def wsX2_state : List Cond := .code yX2_state cX2_state 2 (some .char) :: ([.fieldLink RX2 19 "DunningDesk" "messages" "LDunningDesk$MessageBook;", .methodLink RX2 130 yX2_requireMessage, .instanceMethod yX2_requireMessage, .selects RX2 yX2_requireMessage yX2_requireMessage, .initialized RX2, .code yX2_requireMessage cX2_requireMessage 2 none, .classLink RX2 215 "java/lang/IndexOutOfBoundsException", .initialized "java/lang/IndexOutOfBoundsException", .instanceMethod yX1_contains, .initialized RX1, .selects RX1 yX1_contains yX1_contains, .code yX1_contains cX1_contains 2 (some .boolean), .fieldLink RX1 46 "DunningDesk$MessageBook" "size" "I"] ++ wsX20 ++ wsX10 ++ (vx_atM "java/lang/ArrayIndexOutOfBoundsException" ["java/lang/IndexOutOfBoundsException", "java/lang/RuntimeException", "java/lang/Exception"]).filter goodWord ++ (vx_atS RX2 219 "java/lang/IndexOutOfBoundsException" ["java/lang/RuntimeException", "java/lang/Exception"]).filter goodWord)
def wsX2_kind : List Cond := .code yX2_kind cX2_kind 2 (some .char) :: ([.fieldLink RX2 19 "DunningDesk" "messages" "LDunningDesk$MessageBook;", .methodLink RX2 130 yX2_requireMessage, .instanceMethod yX2_requireMessage, .selects RX2 yX2_requireMessage yX2_requireMessage, .initialized RX2, .code yX2_requireMessage cX2_requireMessage 2 none, .classLink RX2 215 "java/lang/IndexOutOfBoundsException", .initialized "java/lang/IndexOutOfBoundsException", .instanceMethod yX1_contains, .initialized RX1, .selects RX1 yX1_contains yX1_contains, .code yX1_contains cX1_contains 2 (some .boolean), .fieldLink RX1 46 "DunningDesk$MessageBook" "size" "I"] ++ wsX20 ++ wsX10 ++ (vx_atM "java/lang/ArrayIndexOutOfBoundsException" ["java/lang/IndexOutOfBoundsException", "java/lang/RuntimeException", "java/lang/Exception"]).filter goodWord ++ (vx_atS RX2 219 "java/lang/IndexOutOfBoundsException" ["java/lang/RuntimeException", "java/lang/Exception"]).filter goodWord)
def wsX2_tries : List Cond := .code yX2_tries cX2_tries 2 (some .int) :: ([.fieldLink RX2 19 "DunningDesk" "messages" "LDunningDesk$MessageBook;", .methodLink RX2 130 yX2_requireMessage, .instanceMethod yX2_requireMessage, .selects RX2 yX2_requireMessage yX2_requireMessage, .initialized RX2, .code yX2_requireMessage cX2_requireMessage 2 none, .classLink RX2 215 "java/lang/IndexOutOfBoundsException", .initialized "java/lang/IndexOutOfBoundsException", .instanceMethod yX1_contains, .initialized RX1, .selects RX1 yX1_contains yX1_contains, .code yX1_contains cX1_contains 2 (some .boolean), .fieldLink RX1 46 "DunningDesk$MessageBook" "size" "I"] ++ wsX20 ++ wsX10 ++ (vx_atM "java/lang/ArrayIndexOutOfBoundsException" ["java/lang/IndexOutOfBoundsException", "java/lang/RuntimeException", "java/lang/Exception"]).filter goodWord ++ (vx_atS RX2 219 "java/lang/IndexOutOfBoundsException" ["java/lang/RuntimeException", "java/lang/Exception"]).filter goodWord)
def wsX2_requireState : List Cond := .code yX2_requireState cX2_requireState 3 none :: ([.classLink RX2 42 "java/lang/IllegalStateException", .initialized "java/lang/IllegalStateException", .fieldLink RX2 19 "DunningDesk" "messages" "LDunningDesk$MessageBook;"] ++ wsX20 ++ wsX10 ++ (vx_atM "java/lang/ArrayIndexOutOfBoundsException" ["java/lang/IndexOutOfBoundsException", "java/lang/RuntimeException", "java/lang/Exception"]).filter goodWord ++ (vx_atS RX2 46 "java/lang/IllegalStateException" ["java/lang/RuntimeException", "java/lang/Exception"]).filter goodWord)
def wsX2_readyAt : List Cond := .code yX2_readyAt cX2_readyAt 2 (some .int) :: ([.fieldLink RX2 19 "DunningDesk" "messages" "LDunningDesk$MessageBook;", .methodLink RX2 130 yX2_requireMessage, .instanceMethod yX2_requireMessage, .selects RX2 yX2_requireMessage yX2_requireMessage, .initialized RX2, .code yX2_requireMessage cX2_requireMessage 2 none, .classLink RX2 215 "java/lang/IndexOutOfBoundsException", .initialized "java/lang/IndexOutOfBoundsException", .instanceMethod yX1_contains, .initialized RX1, .selects RX1 yX1_contains yX1_contains, .code yX1_contains cX1_contains 2 (some .boolean), .fieldLink RX1 46 "DunningDesk$MessageBook" "size" "I", .methodLink RX2 139 yX2_requireState, .instanceMethod yX2_requireState, .selects RX2 yX2_requireState yX2_requireState, .code yX2_requireState cX2_requireState 3 none, .classLink RX2 42 "java/lang/IllegalStateException", .initialized "java/lang/IllegalStateException"] ++ wsX20 ++ wsX10 ++ (vx_atM "java/lang/ArrayIndexOutOfBoundsException" ["java/lang/IndexOutOfBoundsException", "java/lang/RuntimeException", "java/lang/Exception"]).filter goodWord ++ (vx_atS RX2 219 "java/lang/IndexOutOfBoundsException" ["java/lang/RuntimeException", "java/lang/Exception"]).filter goodWord ++ (vx_atS RX2 46 "java/lang/IllegalStateException" ["java/lang/RuntimeException", "java/lang/Exception"]).filter goodWord)
def wsX2_ready : List Cond := .code yX2_ready cX2_ready 2 (some .int) :: ([.fieldLink RX2 19 "DunningDesk" "messages" "LDunningDesk$MessageBook;", .fieldLink RX2 23 "DunningDesk" "today" "I", .methodLink RX2 105 yX2_requireQueue, .static yX2_requireQueue, .initialized RX2, .code yX2_requireQueue cX2_requireQueue 1 none, .classLink RX2 31 "java/lang/IllegalArgumentException", .initialized "java/lang/IllegalArgumentException", .methodLink RX2 27 yX2_isWithin, .static yX2_isWithin, .code yX2_isWithin cX2_isWithin 3 (some .boolean), .instanceMethod yX1_countReady, .initialized RX1, .selects RX1 yX1_countReady yX1_countReady, .code yX1_countReady cX1_countReady 5 (some .int), .fieldLink RX1 46 "DunningDesk$MessageBook" "size" "I", .methodLink RX1 56 yX1_isReady, .instanceMethod yX1_isReady, .selects RX1 yX1_isReady yX1_isReady, .code yX1_isReady cX1_isReady 4 (some .boolean), .fieldLink RX1 9 "DunningDesk$MessageBook" "queues" "[I", .fieldLink RX1 28 "DunningDesk$MessageBook" "states" "[C", .fieldLink RX1 31 "DunningDesk$MessageBook" "readyDays" "[I"] ++ wsX20 ++ wsX10 ++ (vx_atS RX2 35 "java/lang/IllegalArgumentException" ["java/lang/RuntimeException", "java/lang/Exception"]).filter goodWord ++ (vx_atM "java/lang/ArrayIndexOutOfBoundsException" ["java/lang/IndexOutOfBoundsException", "java/lang/RuntimeException", "java/lang/Exception"]).filter goodWord)
def wsX2_readyAtPlace_r1 : List Cond := [Cond.classLink RX2 88 "java/util/NoSuchElementException", Cond.initialized "java/util/NoSuchElementException", Cond.fieldLink RX2 19 "DunningDesk" "messages" "LDunningDesk$MessageBook;", Cond.fieldLink RX2 23 "DunningDesk" "today" "I", Cond.methodLink RX2 105 yX2_requireQueue, Cond.static yX2_requireQueue, Cond.initialized RX2, Cond.code yX2_requireQueue cX2_requireQueue 1 none, Cond.classLink RX2 31 "java/lang/IllegalArgumentException", Cond.initialized "java/lang/IllegalArgumentException", Cond.methodLink RX2 27 yX2_isWithin, Cond.static yX2_isWithin, Cond.code yX2_isWithin cX2_isWithin 3 (some .boolean), Cond.instanceMethod yX1_countReady, Cond.initialized RX1, Cond.selects RX1 yX1_countReady yX1_countReady, Cond.code yX1_countReady cX1_countReady 5 (some .int), Cond.fieldLink RX1 46 "DunningDesk$MessageBook" "size" "I", Cond.methodLink RX1 56 yX1_isReady, Cond.instanceMethod yX1_isReady, Cond.selects RX1 yX1_isReady yX1_isReady, Cond.code yX1_isReady cX1_isReady 4 (some .boolean), Cond.fieldLink RX1 9 "DunningDesk$MessageBook" "queues" "[I", Cond.fieldLink RX1 28 "DunningDesk$MessageBook" "states" "[C"]
def wsX2_readyAtPlace_r2 : List Cond := [Cond.fieldLink RX1 31 "DunningDesk$MessageBook" "readyDays" "[I", Cond.instanceMethod yX1_nextReady, Cond.selects RX1 yX1_nextReady yX1_nextReady, Cond.code yX1_nextReady cX1_nextReady 6 (some .int), Cond.methodLink RX1 60 yX1_goesBefore, Cond.instanceMethod yX1_goesBefore, Cond.selects RX1 yX1_goesBefore yX1_goesBefore, Cond.code yX1_goesBefore cX1_goesBefore 3 (some .boolean)]
def wsX2_readyAtPlace : List Cond := .code yX2_readyAtPlace cX2_readyAtPlace 5 (some .int) :: ((wsX2_readyAtPlace_r1 ++ wsX2_readyAtPlace_r2) ++ wsX20 ++ wsX10 ++ (yN_atS RX2 92).filter goodWord ++ (vx_atS RX2 35 "java/lang/IllegalArgumentException" ["java/lang/RuntimeException", "java/lang/Exception"]).filter goodWord ++ (vx_atM "java/lang/ArrayIndexOutOfBoundsException" ["java/lang/IndexOutOfBoundsException", "java/lang/RuntimeException", "java/lang/Exception"]).filter goodWord)
def wsX2_requireClerk : List Cond := .code yX2_requireClerk cX2_requireClerk 1 none :: ([.classLink RX2 31 "java/lang/IllegalArgumentException", .initialized "java/lang/IllegalArgumentException", .methodLink RX2 27 yX2_isWithin, .static yX2_isWithin, .initialized RX2, .code yX2_isWithin cX2_isWithin 3 (some .boolean)] ++ (vx_atS RX2 35 "java/lang/IllegalArgumentException" ["java/lang/RuntimeException", "java/lang/Exception"]).filter goodWord)
def wsX2_take_r1 : List Cond := [Cond.classLink RX2 42 "java/lang/IllegalStateException", Cond.initialized "java/lang/IllegalStateException", Cond.classLink RX2 88 "java/util/NoSuchElementException", Cond.initialized "java/util/NoSuchElementException", Cond.fieldLink RX2 19 "DunningDesk" "messages" "LDunningDesk$MessageBook;", Cond.fieldLink RX2 23 "DunningDesk" "today" "I", Cond.methodLink RX2 155 yX2_requireClerk, Cond.static yX2_requireClerk, Cond.initialized RX2, Cond.code yX2_requireClerk cX2_requireClerk 1 none, Cond.classLink RX2 31 "java/lang/IllegalArgumentException", Cond.initialized "java/lang/IllegalArgumentException", Cond.methodLink RX2 27 yX2_isWithin, Cond.static yX2_isWithin, Cond.code yX2_isWithin cX2_isWithin 3 (some .boolean), Cond.methodLink RX2 105 yX2_requireQueue, Cond.static yX2_requireQueue, Cond.code yX2_requireQueue cX2_requireQueue 1 none, Cond.instanceMethod yX1_countTakenBy, Cond.initialized RX1, Cond.selects RX1 yX1_countTakenBy yX1_countTakenBy, Cond.code yX1_countTakenBy cX1_countTakenBy 4 (some .int), Cond.fieldLink RX1 46 "DunningDesk$MessageBook" "size" "I", Cond.fieldLink RX1 28 "DunningDesk$MessageBook" "states" "[C"]
def wsX2_take_r2 : List Cond := [Cond.fieldLink RX1 37 "DunningDesk$MessageBook" "takers" "[I", Cond.instanceMethod yX1_nextReady, Cond.selects RX1 yX1_nextReady yX1_nextReady, Cond.code yX1_nextReady cX1_nextReady 6 (some .int), Cond.methodLink RX1 56 yX1_isReady, Cond.instanceMethod yX1_isReady, Cond.selects RX1 yX1_isReady yX1_isReady, Cond.code yX1_isReady cX1_isReady 4 (some .boolean), Cond.fieldLink RX1 9 "DunningDesk$MessageBook" "queues" "[I", Cond.fieldLink RX1 31 "DunningDesk$MessageBook" "readyDays" "[I", Cond.methodLink RX1 60 yX1_goesBefore, Cond.instanceMethod yX1_goesBefore, Cond.selects RX1 yX1_goesBefore yX1_goesBefore, Cond.code yX1_goesBefore cX1_goesBefore 3 (some .boolean), Cond.instanceMethod yX1_giveTo, Cond.selects RX1 yX1_giveTo yX1_giveTo, Cond.code yX1_giveTo cX1_giveTo 4 none, Cond.fieldLink RX1 40 "DunningDesk$MessageBook" "takenDays" "[I"]
def wsX2_take : List Cond := .code yX2_take cX2_take 4 (some .int) :: ((wsX2_take_r1 ++ wsX2_take_r2) ++ wsX20 ++ wsX10 ++ (vx_atS RX2 46 "java/lang/IllegalStateException" ["java/lang/RuntimeException", "java/lang/Exception"]).filter goodWord ++ (yN_atS RX2 92).filter goodWord ++ (vx_atS RX2 35 "java/lang/IllegalArgumentException" ["java/lang/RuntimeException", "java/lang/Exception"]).filter goodWord ++ (vx_atM "java/lang/ArrayIndexOutOfBoundsException" ["java/lang/IndexOutOfBoundsException", "java/lang/RuntimeException", "java/lang/Exception"]).filter goodWord)
def wsX2_settle_r1 : List Cond := [Cond.fieldLink RX2 19 "DunningDesk" "messages" "LDunningDesk$MessageBook;", Cond.fieldLink RX2 10 "DunningDesk" "cases" "LDunningDesk$CaseBook;", Cond.instanceMethod yX0_contains, Cond.initialized RX0, Cond.selects RX0 yX0_contains yX0_contains, Cond.code yX0_contains cX0_contains 2 (some .boolean), Cond.fieldLink RX0 31 "DunningDesk$CaseBook" "size" "I", Cond.instanceMethod yX0_pay, Cond.selects RX0 yX0_pay yX0_pay, Cond.code yX0_pay cX0_pay 4 (some .boolean), Cond.fieldLink RX0 15 "DunningDesk$CaseBook" "amounts" "[I", Cond.methodLink RX0 35 Lib.Math.max.name, Cond.static Lib.Math.max.name, Cond.initialized "java/lang/Math", Cond.code Lib.Math.max.name Lib.Math.max.code 2 (some .int), Cond.instanceMethod yX0_endWait, Cond.selects RX0 yX0_endWait yX0_endWait, Cond.code yX0_endWait cX0_endWait 3 (some .boolean), Cond.fieldLink RX0 27 "DunningDesk$CaseBook" "awaitsNote" "[Z", Cond.instanceMethod yX0_sendLetter, Cond.selects RX0 yX0_sendLetter yX0_sendLetter, Cond.code yX0_sendLetter cX0_sendLetter 3 (some .boolean), Cond.fieldLink RX0 21 "DunningDesk$CaseBook" "lettersSent" "[I", Cond.methodLink RX0 41 yX0_isOpen]
def wsX2_settle_r2 : List Cond := [Cond.instanceMethod yX0_isOpen, Cond.selects RX0 yX0_isOpen yX0_isOpen, Cond.code yX0_isOpen cX0_isOpen 2 (some .boolean)]
def wsX2_settle : List Cond := .code yX2_settle cX2_settle 5 (some .boolean) :: ((wsX2_settle_r1 ++ wsX2_settle_r2) ++ wsX20 ++ wsX10 ++ wsX00 ++ (vx_atM "java/lang/ArrayIndexOutOfBoundsException" ["java/lang/IndexOutOfBoundsException", "java/lang/RuntimeException", "java/lang/Exception"]).filter goodWord)
def wsX2_finish_r1 : List Cond := [Cond.fieldLink RX2 19 "DunningDesk" "messages" "LDunningDesk$MessageBook;", Cond.methodLink RX2 130 yX2_requireMessage, Cond.instanceMethod yX2_requireMessage, Cond.selects RX2 yX2_requireMessage yX2_requireMessage, Cond.initialized RX2, Cond.code yX2_requireMessage cX2_requireMessage 2 none, Cond.classLink RX2 215 "java/lang/IndexOutOfBoundsException", Cond.initialized "java/lang/IndexOutOfBoundsException", Cond.instanceMethod yX1_contains, Cond.initialized RX1, Cond.selects RX1 yX1_contains yX1_contains, Cond.code yX1_contains cX1_contains 2 (some .boolean), Cond.fieldLink RX1 46 "DunningDesk$MessageBook" "size" "I", Cond.methodLink RX2 139 yX2_requireState, Cond.instanceMethod yX2_requireState, Cond.selects RX2 yX2_requireState yX2_requireState, Cond.code yX2_requireState cX2_requireState 3 none, Cond.classLink RX2 42 "java/lang/IllegalStateException", Cond.initialized "java/lang/IllegalStateException", Cond.instanceMethod yX1_close, Cond.selects RX1 yX1_close yX1_close, Cond.code yX1_close cX1_close 2 none, Cond.fieldLink RX1 28 "DunningDesk$MessageBook" "states" "[C", Cond.fieldLink RX1 64 "DunningDesk$MessageBook" "doneSize" "I"]
def wsX2_finish_r2 : List Cond := [Cond.fieldLink RX1 43 "DunningDesk$MessageBook" "doneOrder" "[I", Cond.methodLink RX2 172 yX2_settle, Cond.instanceMethod yX2_settle, Cond.selects RX2 yX2_settle yX2_settle, Cond.code yX2_settle cX2_settle 5 (some .boolean), Cond.fieldLink RX2 10 "DunningDesk" "cases" "LDunningDesk$CaseBook;", Cond.instanceMethod yX0_contains, Cond.initialized RX0, Cond.selects RX0 yX0_contains yX0_contains, Cond.code yX0_contains cX0_contains 2 (some .boolean), Cond.fieldLink RX0 31 "DunningDesk$CaseBook" "size" "I", Cond.instanceMethod yX0_pay, Cond.selects RX0 yX0_pay yX0_pay, Cond.code yX0_pay cX0_pay 4 (some .boolean), Cond.fieldLink RX0 15 "DunningDesk$CaseBook" "amounts" "[I", Cond.methodLink RX0 35 Lib.Math.max.name, Cond.static Lib.Math.max.name, Cond.initialized "java/lang/Math", Cond.code Lib.Math.max.name Lib.Math.max.code 2 (some .int), Cond.instanceMethod yX0_endWait, Cond.selects RX0 yX0_endWait yX0_endWait, Cond.code yX0_endWait cX0_endWait 3 (some .boolean), Cond.fieldLink RX0 27 "DunningDesk$CaseBook" "awaitsNote" "[Z", Cond.instanceMethod yX0_sendLetter]
def wsX2_finish_r3 : List Cond := [Cond.selects RX0 yX0_sendLetter yX0_sendLetter, Cond.code yX0_sendLetter cX0_sendLetter 3 (some .boolean), Cond.fieldLink RX0 21 "DunningDesk$CaseBook" "lettersSent" "[I", Cond.methodLink RX0 41 yX0_isOpen, Cond.instanceMethod yX0_isOpen, Cond.selects RX0 yX0_isOpen yX0_isOpen, Cond.code yX0_isOpen cX0_isOpen 2 (some .boolean)]
def wsX2_finish : List Cond := .code yX2_finish cX2_finish 2 (some .boolean) :: ((wsX2_finish_r1 ++ (wsX2_finish_r2 ++ wsX2_finish_r3)) ++ wsX20 ++ wsX10 ++ wsX00 ++ (vx_atS RX2 219 "java/lang/IndexOutOfBoundsException" ["java/lang/RuntimeException", "java/lang/Exception"]).filter goodWord ++ (vx_atM "java/lang/ArrayIndexOutOfBoundsException" ["java/lang/IndexOutOfBoundsException", "java/lang/RuntimeException", "java/lang/Exception"]).filter goodWord ++ (vx_atS RX2 46 "java/lang/IllegalStateException" ["java/lang/RuntimeException", "java/lang/Exception"]).filter goodWord)
def wsX2_handBack_r1 : List Cond := [Cond.fieldLink RX2 19 "DunningDesk" "messages" "LDunningDesk$MessageBook;", Cond.fieldLink RX2 23 "DunningDesk" "today" "I", Cond.methodLink RX2 130 yX2_requireMessage, Cond.instanceMethod yX2_requireMessage, Cond.selects RX2 yX2_requireMessage yX2_requireMessage, Cond.initialized RX2, Cond.code yX2_requireMessage cX2_requireMessage 2 none, Cond.classLink RX2 215 "java/lang/IndexOutOfBoundsException", Cond.initialized "java/lang/IndexOutOfBoundsException", Cond.instanceMethod yX1_contains, Cond.initialized RX1, Cond.selects RX1 yX1_contains yX1_contains, Cond.code yX1_contains cX1_contains 2 (some .boolean), Cond.fieldLink RX1 46 "DunningDesk$MessageBook" "size" "I", Cond.methodLink RX2 139 yX2_requireState, Cond.instanceMethod yX2_requireState, Cond.selects RX2 yX2_requireState yX2_requireState, Cond.code yX2_requireState cX2_requireState 3 none, Cond.classLink RX2 42 "java/lang/IllegalStateException", Cond.initialized "java/lang/IllegalStateException", Cond.instanceMethod yX1_putBack, Cond.selects RX1 yX1_putBack yX1_putBack, Cond.code yX1_putBack cX1_putBack 3 none, Cond.fieldLink RX1 34 "DunningDesk$MessageBook" "triesMade" "[I"]
def wsX2_handBack_r2 : List Cond := [Cond.fieldLink RX1 28 "DunningDesk$MessageBook" "states" "[C", Cond.fieldLink RX1 31 "DunningDesk$MessageBook" "readyDays" "[I"]
def wsX2_handBack : List Cond := .code yX2_handBack cX2_handBack 2 (some .int) :: ((wsX2_handBack_r1 ++ wsX2_handBack_r2) ++ wsX20 ++ wsX10 ++ (vx_atM "java/lang/ArrayIndexOutOfBoundsException" ["java/lang/IndexOutOfBoundsException", "java/lang/RuntimeException", "java/lang/Exception"]).filter goodWord ++ (vx_atS RX2 219 "java/lang/IndexOutOfBoundsException" ["java/lang/RuntimeException", "java/lang/Exception"]).filter goodWord ++ (vx_atS RX2 46 "java/lang/IllegalStateException" ["java/lang/RuntimeException", "java/lang/Exception"]).filter goodWord)
def wsX2_revive_r1 : List Cond := [Cond.fieldLink RX2 19 "DunningDesk" "messages" "LDunningDesk$MessageBook;", Cond.fieldLink RX2 23 "DunningDesk" "today" "I", Cond.methodLink RX2 130 yX2_requireMessage, Cond.instanceMethod yX2_requireMessage, Cond.selects RX2 yX2_requireMessage yX2_requireMessage, Cond.initialized RX2, Cond.code yX2_requireMessage cX2_requireMessage 2 none, Cond.classLink RX2 215 "java/lang/IndexOutOfBoundsException", Cond.initialized "java/lang/IndexOutOfBoundsException", Cond.instanceMethod yX1_contains, Cond.initialized RX1, Cond.selects RX1 yX1_contains yX1_contains, Cond.code yX1_contains cX1_contains 2 (some .boolean), Cond.fieldLink RX1 46 "DunningDesk$MessageBook" "size" "I", Cond.methodLink RX2 139 yX2_requireState, Cond.instanceMethod yX2_requireState, Cond.selects RX2 yX2_requireState yX2_requireState, Cond.code yX2_requireState cX2_requireState 3 none, Cond.classLink RX2 42 "java/lang/IllegalStateException", Cond.initialized "java/lang/IllegalStateException", Cond.instanceMethod yX1_wake, Cond.selects RX1 yX1_wake yX1_wake, Cond.code yX1_wake cX1_wake 3 none, Cond.fieldLink RX1 28 "DunningDesk$MessageBook" "states" "[C"]
def wsX2_revive_r2 : List Cond := [Cond.fieldLink RX1 31 "DunningDesk$MessageBook" "readyDays" "[I", Cond.fieldLink RX1 34 "DunningDesk$MessageBook" "triesMade" "[I", Cond.instanceMethod yX1_countIn, Cond.selects RX1 yX1_countIn yX1_countIn, Cond.code yX1_countIn cX1_countIn 4 (some .int)]
def wsX2_revive : List Cond := .code yX2_revive cX2_revive 2 (some .int) :: ((wsX2_revive_r1 ++ wsX2_revive_r2) ++ wsX20 ++ wsX10 ++ (vx_atS RX2 219 "java/lang/IndexOutOfBoundsException" ["java/lang/RuntimeException", "java/lang/Exception"]).filter goodWord ++ (vx_atM "java/lang/ArrayIndexOutOfBoundsException" ["java/lang/IndexOutOfBoundsException", "java/lang/RuntimeException", "java/lang/Exception"]).filter goodWord ++ (vx_atS RX2 46 "java/lang/IllegalStateException" ["java/lang/RuntimeException", "java/lang/Exception"]).filter goodWord)
def wsX2_clerk : List Cond := .code yX2_clerk cX2_clerk 2 (some .int) :: ([.classLink RX2 88 "java/util/NoSuchElementException", .initialized "java/util/NoSuchElementException", .fieldLink RX2 19 "DunningDesk" "messages" "LDunningDesk$MessageBook;", .methodLink RX2 130 yX2_requireMessage, .instanceMethod yX2_requireMessage, .selects RX2 yX2_requireMessage yX2_requireMessage, .initialized RX2, .code yX2_requireMessage cX2_requireMessage 2 none, .classLink RX2 215 "java/lang/IndexOutOfBoundsException", .initialized "java/lang/IndexOutOfBoundsException", .instanceMethod yX1_contains, .initialized RX1, .selects RX1 yX1_contains yX1_contains, .code yX1_contains cX1_contains 2 (some .boolean), .fieldLink RX1 46 "DunningDesk$MessageBook" "size" "I"] ++ wsX20 ++ wsX10 ++ (vx_atM "java/lang/ArrayIndexOutOfBoundsException" ["java/lang/IndexOutOfBoundsException", "java/lang/RuntimeException", "java/lang/Exception"]).filter goodWord ++ (yN_atS RX2 92).filter goodWord ++ (vx_atS RX2 219 "java/lang/IndexOutOfBoundsException" ["java/lang/RuntimeException", "java/lang/Exception"]).filter goodWord)
def wsX2_has : List Cond := .code yX2_has cX2_has 2 (some .int) :: ([.fieldLink RX2 19 "DunningDesk" "messages" "LDunningDesk$MessageBook;", .methodLink RX2 155 yX2_requireClerk, .static yX2_requireClerk, .initialized RX2, .code yX2_requireClerk cX2_requireClerk 1 none, .classLink RX2 31 "java/lang/IllegalArgumentException", .initialized "java/lang/IllegalArgumentException", .methodLink RX2 27 yX2_isWithin, .static yX2_isWithin, .code yX2_isWithin cX2_isWithin 3 (some .boolean), .instanceMethod yX1_countTakenBy, .initialized RX1, .selects RX1 yX1_countTakenBy yX1_countTakenBy, .code yX1_countTakenBy cX1_countTakenBy 4 (some .int), .fieldLink RX1 46 "DunningDesk$MessageBook" "size" "I", .fieldLink RX1 28 "DunningDesk$MessageBook" "states" "[C", .fieldLink RX1 37 "DunningDesk$MessageBook" "takers" "[I"] ++ wsX20 ++ wsX10 ++ (vx_atS RX2 35 "java/lang/IllegalArgumentException" ["java/lang/RuntimeException", "java/lang/Exception"]).filter goodWord ++ (vx_atM "java/lang/ArrayIndexOutOfBoundsException" ["java/lang/IndexOutOfBoundsException", "java/lang/RuntimeException", "java/lang/Exception"]).filter goodWord)
def wsX2_isReminderDue_r1 : List Cond := [Cond.fieldLink RX2 23 "DunningDesk" "today" "I", Cond.fieldLink RX2 10 "DunningDesk" "cases" "LDunningDesk$CaseBook;", Cond.methodLink RX2 84 yX2_isAnyReminderLeft, Cond.instanceMethod yX2_isAnyReminderLeft, Cond.selects RX2 yX2_isAnyReminderLeft yX2_isAnyReminderLeft, Cond.initialized RX2, Cond.code yX2_isAnyReminderLeft cX2_isAnyReminderLeft 3 (some .boolean), Cond.fieldLink RX2 19 "DunningDesk" "messages" "LDunningDesk$MessageBook;", Cond.instanceMethod yX0_isOpen, Cond.initialized RX0, Cond.selects RX0 yX0_isOpen yX0_isOpen, Cond.code yX0_isOpen cX0_isOpen 2 (some .boolean), Cond.fieldLink RX0 15 "DunningDesk$CaseBook" "amounts" "[I", Cond.methodLink RX2 250 yX2_reminderKey, Cond.static yX2_reminderKey, Cond.code yX2_reminderKey cX2_reminderKey 2 (some .int), Cond.instanceMethod yX1_find, Cond.initialized RX1, Cond.selects RX1 yX1_find yX1_find, Cond.code yX1_find cX1_find 3 (some .int), Cond.fieldLink RX1 46 "DunningDesk$MessageBook" "size" "I", Cond.fieldLink RX1 15 "DunningDesk$MessageBook" "keys" "[I", Cond.instanceMethod yX0_reminderDay, Cond.selects RX0 yX0_reminderDay yX0_reminderDay]
def wsX2_isReminderDue_r2 : List Cond := [Cond.code yX0_reminderDay cX0_reminderDay 2 (some .int), Cond.fieldLink RX0 18 "DunningDesk$CaseBook" "dueDays" "[I", Cond.fieldLink RX0 21 "DunningDesk$CaseBook" "lettersSent" "[I"]
def wsX2_isReminderDue : List Cond := .code yX2_isReminderDue cX2_isReminderDue 2 (some .boolean) :: ((wsX2_isReminderDue_r1 ++ wsX2_isReminderDue_r2) ++ wsX20 ++ wsX00 ++ wsX10 ++ (vx_atM "java/lang/ArrayIndexOutOfBoundsException" ["java/lang/IndexOutOfBoundsException", "java/lang/RuntimeException", "java/lang/Exception"]).filter goodWord)
def wsX2_postReminders_r1 : List Cond := [Cond.fieldLink RX2 10 "DunningDesk" "cases" "LDunningDesk$CaseBook;", Cond.fieldLink RX2 19 "DunningDesk" "messages" "LDunningDesk$MessageBook;", Cond.fieldLink RX2 23 "DunningDesk" "today" "I", Cond.instanceMethod yX1_isFull, Cond.initialized RX1, Cond.selects RX1 yX1_isFull yX1_isFull, Cond.code yX1_isFull cX1_isFull 1 (some .boolean), Cond.fieldLink RX1 46 "DunningDesk$MessageBook" "size" "I", Cond.methodLink RX2 254 yX2_isReminderDue, Cond.instanceMethod yX2_isReminderDue, Cond.selects RX2 yX2_isReminderDue yX2_isReminderDue, Cond.initialized RX2, Cond.code yX2_isReminderDue cX2_isReminderDue 2 (some .boolean), Cond.methodLink RX2 84 yX2_isAnyReminderLeft, Cond.instanceMethod yX2_isAnyReminderLeft, Cond.selects RX2 yX2_isAnyReminderLeft yX2_isAnyReminderLeft, Cond.code yX2_isAnyReminderLeft cX2_isAnyReminderLeft 3 (some .boolean), Cond.instanceMethod yX0_isOpen, Cond.initialized RX0, Cond.selects RX0 yX0_isOpen yX0_isOpen, Cond.code yX0_isOpen cX0_isOpen 2 (some .boolean), Cond.fieldLink RX0 15 "DunningDesk$CaseBook" "amounts" "[I", Cond.methodLink RX2 250 yX2_reminderKey, Cond.static yX2_reminderKey]
def wsX2_postReminders_r2 : List Cond := [Cond.code yX2_reminderKey cX2_reminderKey 2 (some .int), Cond.instanceMethod yX1_find, Cond.selects RX1 yX1_find yX1_find, Cond.code yX1_find cX1_find 3 (some .int), Cond.fieldLink RX1 15 "DunningDesk$MessageBook" "keys" "[I", Cond.instanceMethod yX0_reminderDay, Cond.selects RX0 yX0_reminderDay yX0_reminderDay, Cond.code yX0_reminderDay cX0_reminderDay 2 (some .int), Cond.fieldLink RX0 18 "DunningDesk$CaseBook" "dueDays" "[I", Cond.fieldLink RX0 21 "DunningDesk$CaseBook" "lettersSent" "[I", Cond.instanceMethod yX1_add, Cond.selects RX1 yX1_add yX1_add, Cond.code yX1_add cX1_add 8 (some .int), Cond.fieldLink RX1 9 "DunningDesk$MessageBook" "queues" "[I", Cond.fieldLink RX1 18 "DunningDesk$MessageBook" "kinds" "[C", Cond.fieldLink RX1 22 "DunningDesk$MessageBook" "caseNumbers" "[I", Cond.fieldLink RX1 25 "DunningDesk$MessageBook" "contents" "[I", Cond.fieldLink RX1 31 "DunningDesk$MessageBook" "readyDays" "[I", Cond.fieldLink RX1 28 "DunningDesk$MessageBook" "states" "[C"]
def wsX2_postReminders : List Cond := .code yX2_postReminders cX2_postReminders 4 (some .int) :: ((wsX2_postReminders_r1 ++ wsX2_postReminders_r2) ++ wsX20 ++ wsX00 ++ wsX10 ++ (vx_atM "java/lang/ArrayIndexOutOfBoundsException" ["java/lang/IndexOutOfBoundsException", "java/lang/RuntimeException", "java/lang/Exception"]).filter goodWord)
def wsX2_pass_r1 : List Cond := [Cond.classLink RX2 31 "java/lang/IllegalArgumentException", Cond.initialized "java/lang/IllegalArgumentException", Cond.fieldLink RX2 23 "DunningDesk" "today" "I", Cond.fieldLink RX2 19 "DunningDesk" "messages" "LDunningDesk$MessageBook;", Cond.methodLink RX2 27 yX2_isWithin, Cond.static yX2_isWithin, Cond.initialized RX2, Cond.code yX2_isWithin cX2_isWithin 3 (some .boolean), Cond.instanceMethod yX1_putBackTakenUntil, Cond.initialized RX1, Cond.selects RX1 yX1_putBackTakenUntil yX1_putBackTakenUntil, Cond.code yX1_putBackTakenUntil cX1_putBackTakenUntil 4 none, Cond.fieldLink RX1 46 "DunningDesk$MessageBook" "size" "I", Cond.fieldLink RX1 28 "DunningDesk$MessageBook" "states" "[C", Cond.fieldLink RX1 40 "DunningDesk$MessageBook" "takenDays" "[I", Cond.methodLink RX1 67 yX1_putBack, Cond.instanceMethod yX1_putBack, Cond.selects RX1 yX1_putBack yX1_putBack, Cond.code yX1_putBack cX1_putBack 3 none, Cond.fieldLink RX1 34 "DunningDesk$MessageBook" "triesMade" "[I", Cond.fieldLink RX1 31 "DunningDesk$MessageBook" "readyDays" "[I", Cond.methodLink RX2 193 yX2_postReminders, Cond.instanceMethod yX2_postReminders, Cond.selects RX2 yX2_postReminders yX2_postReminders]
def wsX2_pass_r2 : List Cond := [Cond.code yX2_postReminders cX2_postReminders 4 (some .int), Cond.fieldLink RX2 10 "DunningDesk" "cases" "LDunningDesk$CaseBook;", Cond.instanceMethod yX1_isFull, Cond.selects RX1 yX1_isFull yX1_isFull, Cond.code yX1_isFull cX1_isFull 1 (some .boolean), Cond.methodLink RX2 254 yX2_isReminderDue, Cond.instanceMethod yX2_isReminderDue, Cond.selects RX2 yX2_isReminderDue yX2_isReminderDue, Cond.code yX2_isReminderDue cX2_isReminderDue 2 (some .boolean), Cond.methodLink RX2 84 yX2_isAnyReminderLeft, Cond.instanceMethod yX2_isAnyReminderLeft, Cond.selects RX2 yX2_isAnyReminderLeft yX2_isAnyReminderLeft, Cond.code yX2_isAnyReminderLeft cX2_isAnyReminderLeft 3 (some .boolean), Cond.instanceMethod yX0_isOpen, Cond.initialized RX0, Cond.selects RX0 yX0_isOpen yX0_isOpen, Cond.code yX0_isOpen cX0_isOpen 2 (some .boolean), Cond.fieldLink RX0 15 "DunningDesk$CaseBook" "amounts" "[I", Cond.methodLink RX2 250 yX2_reminderKey, Cond.static yX2_reminderKey, Cond.code yX2_reminderKey cX2_reminderKey 2 (some .int), Cond.instanceMethod yX1_find, Cond.selects RX1 yX1_find yX1_find, Cond.code yX1_find cX1_find 3 (some .int)]
def wsX2_pass_r3 : List Cond := [Cond.fieldLink RX1 15 "DunningDesk$MessageBook" "keys" "[I", Cond.instanceMethod yX0_reminderDay, Cond.selects RX0 yX0_reminderDay yX0_reminderDay, Cond.code yX0_reminderDay cX0_reminderDay 2 (some .int), Cond.fieldLink RX0 18 "DunningDesk$CaseBook" "dueDays" "[I", Cond.fieldLink RX0 21 "DunningDesk$CaseBook" "lettersSent" "[I", Cond.instanceMethod yX1_add, Cond.selects RX1 yX1_add yX1_add, Cond.code yX1_add cX1_add 8 (some .int), Cond.fieldLink RX1 9 "DunningDesk$MessageBook" "queues" "[I", Cond.fieldLink RX1 18 "DunningDesk$MessageBook" "kinds" "[C", Cond.fieldLink RX1 22 "DunningDesk$MessageBook" "caseNumbers" "[I", Cond.fieldLink RX1 25 "DunningDesk$MessageBook" "contents" "[I"]
def wsX2_pass : List Cond := .code yX2_pass cX2_pass 4 (some .int) :: ((wsX2_pass_r1 ++ (wsX2_pass_r2 ++ wsX2_pass_r3)) ++ wsX20 ++ wsX10 ++ wsX00 ++ (vx_atS RX2 35 "java/lang/IllegalArgumentException" ["java/lang/RuntimeException", "java/lang/Exception"]).filter goodWord ++ (vx_atM "java/lang/ArrayIndexOutOfBoundsException" ["java/lang/IndexOutOfBoundsException", "java/lang/RuntimeException", "java/lang/Exception"]).filter goodWord)
def wsX2_day : List Cond := .code yX2_day cX2_day 1 (some .int) :: ([.fieldLink RX2 23 "DunningDesk" "today" "I"] ++ wsX20)
def wsX2_count : List Cond := .code yX2_count cX2_count 2 (some .int) :: ([.classLink RX2 31 "java/lang/IllegalArgumentException", .initialized "java/lang/IllegalArgumentException", .fieldLink RX2 19 "DunningDesk" "messages" "LDunningDesk$MessageBook;", .instanceMethod yX1_countIn, .initialized RX1, .selects RX1 yX1_countIn yX1_countIn, .code yX1_countIn cX1_countIn 4 (some .int), .fieldLink RX1 46 "DunningDesk$MessageBook" "size" "I", .fieldLink RX1 28 "DunningDesk$MessageBook" "states" "[C"] ++ wsX20 ++ wsX10 ++ (vx_atS RX2 35 "java/lang/IllegalArgumentException" ["java/lang/RuntimeException", "java/lang/Exception"]).filter goodWord ++ (vx_atM "java/lang/ArrayIndexOutOfBoundsException" ["java/lang/IndexOutOfBoundsException", "java/lang/RuntimeException", "java/lang/Exception"]).filter goodWord)
def wsX2_doneShare : List Cond := .code yX2_doneShare cX2_doneShare 1 (some .float) :: ([.classLink RX2 202 "java/lang/ArithmeticException", .initialized "java/lang/ArithmeticException", .fieldLink RX2 19 "DunningDesk" "messages" "LDunningDesk$MessageBook;", .instanceMethod yX1_countIn, .initialized RX1, .selects RX1 yX1_countIn yX1_countIn, .code yX1_countIn cX1_countIn 4 (some .int), .fieldLink RX1 46 "DunningDesk$MessageBook" "size" "I", .fieldLink RX1 28 "DunningDesk$MessageBook" "states" "[C"] ++ wsX20 ++ wsX10 ++ (vx_atS RX2 206 "java/lang/ArithmeticException" ["java/lang/RuntimeException", "java/lang/Exception"]).filter goodWord ++ (vx_atM "java/lang/ArrayIndexOutOfBoundsException" ["java/lang/IndexOutOfBoundsException", "java/lang/RuntimeException", "java/lang/Exception"]).filter goodWord)
def wsX2_meanAmount : List Cond := .code yX2_meanAmount cX2_meanAmount 2 (some .double) :: ([.classLink RX2 202 "java/lang/ArithmeticException", .initialized "java/lang/ArithmeticException", .fieldLink RX2 10 "DunningDesk" "cases" "LDunningDesk$CaseBook;", .instanceMethod yX0_countOpen, .initialized RX0, .selects RX0 yX0_countOpen yX0_countOpen, .code yX0_countOpen cX0_countOpen 3 (some .int), .fieldLink RX0 31 "DunningDesk$CaseBook" "size" "I", .methodLink RX0 41 yX0_isOpen, .instanceMethod yX0_isOpen, .selects RX0 yX0_isOpen yX0_isOpen, .code yX0_isOpen cX0_isOpen 2 (some .boolean), .fieldLink RX0 15 "DunningDesk$CaseBook" "amounts" "[I", .instanceMethod yX0_sumOfAmounts, .selects RX0 yX0_sumOfAmounts yX0_sumOfAmounts, .code yX0_sumOfAmounts cX0_sumOfAmounts 3 (some .int)] ++ wsX20 ++ wsX00 ++ (vx_atS RX2 206 "java/lang/ArithmeticException" ["java/lang/RuntimeException", "java/lang/Exception"]).filter goodWord ++ (vx_atM "java/lang/ArrayIndexOutOfBoundsException" ["java/lang/IndexOutOfBoundsException", "java/lang/RuntimeException", "java/lang/Exception"]).filter goodWord)
def wsX3_init : List Cond := .code yX3_init cX3_init 1 none :: ([.methodLink RX3 1 objectInit, .instanceMethod objectInit, .code objectInit ⟨#[0xb1]⟩ 1 none, .arrayClass .int, .fieldLink RX3 9 "DunningDeskModel" "amounts" "[I", .fieldLink RX3 13 "DunningDeskModel" "dues" "[I", .fieldLink RX3 16 "DunningDeskModel" "letters" "[I", .fieldLink RX3 19 "DunningDeskModel" "pausedTo" "[I", .arrayClass .boolean, .fieldLink RX3 22 "DunningDeskModel" "waits" "[Z", .fieldLink RX3 26 "DunningDeskModel" "queues" "[I", .fieldLink RX3 29 "DunningDeskModel" "keys" "[I", .arrayClass .char, .fieldLink RX3 32 "DunningDeskModel" "kinds" "[C", .fieldLink RX3 36 "DunningDeskModel" "caseOf" "[I", .fieldLink RX3 39 "DunningDeskModel" "values" "[I", .fieldLink RX3 42 "DunningDeskModel" "readyOn" "[I", .fieldLink RX3 45 "DunningDeskModel" "tries" "[I", .fieldLink RX3 48 "DunningDeskModel" "states" "[C", .fieldLink RX3 51 "DunningDeskModel" "clerks" "[I", .fieldLink RX3 54 "DunningDeskModel" "takenOn" "[I"] ++ wsX30)
def wsX3_thrown : List Cond := .code yX3_thrown cX3_thrown 1 (some .int) :: ([.fieldLink RX3 57 "DunningDeskModel" "thrown" "I"] ++ wsX30)
def wsX3_raises : List Cond := .code yX3_raises cX3_raises 2 (some .int) :: ([.fieldLink RX3 57 "DunningDeskModel" "thrown" "I"] ++ wsX30)
def wsX3_in : List Cond := .code yX3_in cX3_in 3 (some .boolean) :: ([])
def wsX3_noCase : List Cond := .code yX3_noCase cX3_noCase 2 (some .boolean) :: ([.fieldLink RX3 61 "DunningDeskModel" "cases" "I", .fieldLink RX3 57 "DunningDeskModel" "thrown" "I", .methodLink RX3 64 yX3_in, .static yX3_in, .initialized RX3, .code yX3_in cX3_in 3 (some .boolean)] ++ wsX30)
def wsX3_noMessage : List Cond := .code yX3_noMessage cX3_noMessage 2 (some .boolean) :: ([.fieldLink RX3 68 "DunningDeskModel" "messages" "I", .fieldLink RX3 57 "DunningDeskModel" "thrown" "I", .methodLink RX3 64 yX3_in, .static yX3_in, .initialized RX3, .code yX3_in cX3_in 3 (some .boolean)] ++ wsX30)
def wsX3_open : List Cond := .code yX3_open cX3_open 4 (some .int) :: ([.fieldLink RX3 61 "DunningDeskModel" "cases" "I", .fieldLink RX3 57 "DunningDeskModel" "thrown" "I", .fieldLink RX3 9 "DunningDeskModel" "amounts" "[I", .fieldLink RX3 13 "DunningDeskModel" "dues" "[I", .fieldLink RX3 68 "DunningDeskModel" "messages" "I", .fieldLink RX3 48 "DunningDeskModel" "states" "[C", .fieldLink RX3 36 "DunningDeskModel" "caseOf" "[I", .fieldLink RX3 42 "DunningDeskModel" "readyOn" "[I", .fieldLink RX3 71 "DunningDeskModel" "day" "I", .methodLink RX3 74 Lib.Math.max.name, .static Lib.Math.max.name, .initialized "java/lang/Math", .code Lib.Math.max.name Lib.Math.max.code 2 (some .int), .methodLink RX3 64 yX3_in, .static yX3_in, .initialized RX3, .code yX3_in cX3_in 3 (some .boolean)] ++ wsX30 ++ (vx_atM "java/lang/ArrayIndexOutOfBoundsException" ["java/lang/IndexOutOfBoundsException", "java/lang/RuntimeException", "java/lang/Exception"]).filter goodWord)
def wsX3_amount : List Cond := .code yX3_amount cX3_amount 2 (some .int) :: ([.fieldLink RX3 9 "DunningDeskModel" "amounts" "[I", .methodLink RX3 80 yX3_noCase, .instanceMethod yX3_noCase, .selects RX3 yX3_noCase yX3_noCase, .initialized RX3, .code yX3_noCase cX3_noCase 2 (some .boolean), .fieldLink RX3 61 "DunningDeskModel" "cases" "I", .fieldLink RX3 57 "DunningDeskModel" "thrown" "I", .methodLink RX3 64 yX3_in, .static yX3_in, .code yX3_in cX3_in 3 (some .boolean)] ++ wsX30 ++ (vx_atM "java/lang/ArrayIndexOutOfBoundsException" ["java/lang/IndexOutOfBoundsException", "java/lang/RuntimeException", "java/lang/Exception"]).filter goodWord)
def wsX3_pause : List Cond := .code yX3_pause cX3_pause 3 (some .int) :: ([.fieldLink RX3 9 "DunningDeskModel" "amounts" "[I", .fieldLink RX3 57 "DunningDeskModel" "thrown" "I", .fieldLink RX3 19 "DunningDeskModel" "pausedTo" "[I", .fieldLink RX3 71 "DunningDeskModel" "day" "I", .methodLink RX3 74 Lib.Math.max.name, .static Lib.Math.max.name, .initialized "java/lang/Math", .code Lib.Math.max.name Lib.Math.max.code 2 (some .int), .methodLink RX3 80 yX3_noCase, .instanceMethod yX3_noCase, .selects RX3 yX3_noCase yX3_noCase, .initialized RX3, .code yX3_noCase cX3_noCase 2 (some .boolean), .fieldLink RX3 61 "DunningDeskModel" "cases" "I", .methodLink RX3 64 yX3_in, .static yX3_in, .code yX3_in cX3_in 3 (some .boolean)] ++ wsX30 ++ (vx_atM "java/lang/ArrayIndexOutOfBoundsException" ["java/lang/IndexOutOfBoundsException", "java/lang/RuntimeException", "java/lang/Exception"]).filter goodWord)
def wsX3_awaitNote : List Cond := .code yX3_awaitNote cX3_awaitNote 3 (some .boolean) :: ([.fieldLink RX3 9 "DunningDeskModel" "amounts" "[I", .fieldLink RX3 57 "DunningDeskModel" "thrown" "I", .fieldLink RX3 22 "DunningDeskModel" "waits" "[Z", .methodLink RX3 80 yX3_noCase, .instanceMethod yX3_noCase, .selects RX3 yX3_noCase yX3_noCase, .initialized RX3, .code yX3_noCase cX3_noCase 2 (some .boolean), .fieldLink RX3 61 "DunningDeskModel" "cases" "I", .methodLink RX3 64 yX3_in, .static yX3_in, .code yX3_in cX3_in 3 (some .boolean)] ++ wsX30 ++ (vx_atM "java/lang/ArrayIndexOutOfBoundsException" ["java/lang/IndexOutOfBoundsException", "java/lang/RuntimeException", "java/lang/Exception"]).filter goodWord)
def wsX3_letters : List Cond := .code yX3_letters cX3_letters 2 (some .int) :: ([.fieldLink RX3 16 "DunningDeskModel" "letters" "[I", .methodLink RX3 80 yX3_noCase, .instanceMethod yX3_noCase, .selects RX3 yX3_noCase yX3_noCase, .initialized RX3, .code yX3_noCase cX3_noCase 2 (some .boolean), .fieldLink RX3 61 "DunningDeskModel" "cases" "I", .fieldLink RX3 57 "DunningDeskModel" "thrown" "I", .methodLink RX3 64 yX3_in, .static yX3_in, .code yX3_in cX3_in 3 (some .boolean)] ++ wsX30 ++ (vx_atM "java/lang/ArrayIndexOutOfBoundsException" ["java/lang/IndexOutOfBoundsException", "java/lang/RuntimeException", "java/lang/Exception"]).filter goodWord)
def wsX3_lettersByMessages : List Cond := .code yX3_lettersByMessages cX3_lettersByMessages 2 (some .int) :: ([.methodLink RX3 84 yX3_letters, .instanceMethod yX3_letters, .selects RX3 yX3_letters yX3_letters, .initialized RX3, .code yX3_letters cX3_letters 2 (some .int), .fieldLink RX3 16 "DunningDeskModel" "letters" "[I", .methodLink RX3 80 yX3_noCase, .instanceMethod yX3_noCase, .selects RX3 yX3_noCase yX3_noCase, .code yX3_noCase cX3_noCase 2 (some .boolean), .fieldLink RX3 61 "DunningDeskModel" "cases" "I", .fieldLink RX3 57 "DunningDeskModel" "thrown" "I", .methodLink RX3 64 yX3_in, .static yX3_in, .code yX3_in cX3_in 3 (some .boolean)] ++ wsX30 ++ (vx_atM "java/lang/ArrayIndexOutOfBoundsException" ["java/lang/IndexOutOfBoundsException", "java/lang/RuntimeException", "java/lang/Exception"]).filter goodWord)
def wsX3_find : List Cond := .code yX3_find cX3_find 3 (some .int) :: ([.fieldLink RX3 68 "DunningDeskModel" "messages" "I", .fieldLink RX3 29 "DunningDeskModel" "keys" "[I"] ++ wsX30 ++ (vx_atM "java/lang/ArrayIndexOutOfBoundsException" ["java/lang/IndexOutOfBoundsException", "java/lang/RuntimeException", "java/lang/Exception"]).filter goodWord)
def wsX3_mayRemind : List Cond := .code yX3_mayRemind cX3_mayRemind 3 (some .boolean) :: ([.fieldLink RX3 9 "DunningDeskModel" "amounts" "[I", .fieldLink RX3 22 "DunningDeskModel" "waits" "[Z", .fieldLink RX3 16 "DunningDeskModel" "letters" "[I", .methodLink RX3 87 yX3_find, .instanceMethod yX3_find, .selects RX3 yX3_find yX3_find, .initialized RX3, .code yX3_find cX3_find 3 (some .int), .fieldLink RX3 68 "DunningDeskModel" "messages" "I", .fieldLink RX3 29 "DunningDeskModel" "keys" "[I"] ++ wsX30 ++ (vx_atM "java/lang/ArrayIndexOutOfBoundsException" ["java/lang/IndexOutOfBoundsException", "java/lang/RuntimeException", "java/lang/Exception"]).filter goodWord)
def wsX3_remindsFrom : List Cond := .code yX3_remindsFrom cX3_remindsFrom 2 (some .int) :: ([.fieldLink RX3 19 "DunningDeskModel" "pausedTo" "[I", .fieldLink RX3 13 "DunningDeskModel" "dues" "[I", .fieldLink RX3 16 "DunningDeskModel" "letters" "[I", .methodLink RX3 74 Lib.Math.max.name, .static Lib.Math.max.name, .initialized "java/lang/Math", .code Lib.Math.max.name Lib.Math.max.code 2 (some .int)] ++ wsX30 ++ (vx_atM "java/lang/ArrayIndexOutOfBoundsException" ["java/lang/IndexOutOfBoundsException", "java/lang/RuntimeException", "java/lang/Exception"]).filter goodWord)
def wsX3_nextReminder_r1 : List Cond := [Cond.fieldLink RX3 57 "DunningDeskModel" "thrown" "I", Cond.fieldLink RX3 71 "DunningDeskModel" "day" "I", Cond.methodLink RX3 74 Lib.Math.max.name, Cond.static Lib.Math.max.name, Cond.initialized "java/lang/Math", Cond.code Lib.Math.max.name Lib.Math.max.code 2 (some .int), Cond.methodLink RX3 80 yX3_noCase, Cond.instanceMethod yX3_noCase, Cond.selects RX3 yX3_noCase yX3_noCase, Cond.initialized RX3, Cond.code yX3_noCase cX3_noCase 2 (some .boolean), Cond.fieldLink RX3 61 "DunningDeskModel" "cases" "I", Cond.methodLink RX3 64 yX3_in, Cond.static yX3_in, Cond.code yX3_in cX3_in 3 (some .boolean), Cond.methodLink RX3 90 yX3_mayRemind, Cond.instanceMethod yX3_mayRemind, Cond.selects RX3 yX3_mayRemind yX3_mayRemind, Cond.code yX3_mayRemind cX3_mayRemind 3 (some .boolean), Cond.fieldLink RX3 9 "DunningDeskModel" "amounts" "[I", Cond.fieldLink RX3 22 "DunningDeskModel" "waits" "[Z", Cond.fieldLink RX3 16 "DunningDeskModel" "letters" "[I", Cond.methodLink RX3 87 yX3_find, Cond.instanceMethod yX3_find]
def wsX3_nextReminder_r2 : List Cond := [Cond.selects RX3 yX3_find yX3_find, Cond.code yX3_find cX3_find 3 (some .int), Cond.fieldLink RX3 68 "DunningDeskModel" "messages" "I", Cond.fieldLink RX3 29 "DunningDeskModel" "keys" "[I", Cond.methodLink RX3 93 yX3_remindsFrom, Cond.instanceMethod yX3_remindsFrom, Cond.selects RX3 yX3_remindsFrom yX3_remindsFrom, Cond.code yX3_remindsFrom cX3_remindsFrom 2 (some .int), Cond.fieldLink RX3 19 "DunningDeskModel" "pausedTo" "[I", Cond.fieldLink RX3 13 "DunningDeskModel" "dues" "[I"]
def wsX3_nextReminder : List Cond := .code yX3_nextReminder cX3_nextReminder 2 (some .int) :: ((wsX3_nextReminder_r1 ++ wsX3_nextReminder_r2) ++ wsX30 ++ (vx_atM "java/lang/ArrayIndexOutOfBoundsException" ["java/lang/IndexOutOfBoundsException", "java/lang/RuntimeException", "java/lang/Exception"]).filter goodWord)
def wsX3_adds : List Cond := .code yX3_adds cX3_adds 7 (some .int) :: ([.fieldLink RX3 26 "DunningDeskModel" "queues" "[I", .fieldLink RX3 68 "DunningDeskModel" "messages" "I", .fieldLink RX3 29 "DunningDeskModel" "keys" "[I", .fieldLink RX3 32 "DunningDeskModel" "kinds" "[C", .fieldLink RX3 36 "DunningDeskModel" "caseOf" "[I", .fieldLink RX3 39 "DunningDeskModel" "values" "[I", .fieldLink RX3 42 "DunningDeskModel" "readyOn" "[I", .fieldLink RX3 48 "DunningDeskModel" "states" "[C", .fieldLink RX3 61 "DunningDeskModel" "cases" "I"] ++ wsX30 ++ (vx_atM "java/lang/ArrayIndexOutOfBoundsException" ["java/lang/IndexOutOfBoundsException", "java/lang/RuntimeException", "java/lang/Exception"]).filter goodWord)
def wsX3_post_r1 : List Cond := [Cond.fieldLink RX3 68 "DunningDeskModel" "messages" "I", Cond.fieldLink RX3 57 "DunningDeskModel" "thrown" "I", Cond.fieldLink RX3 71 "DunningDeskModel" "day" "I", Cond.methodLink RX3 64 yX3_in, Cond.static yX3_in, Cond.initialized RX3, Cond.code yX3_in cX3_in 3 (some .boolean), Cond.methodLink RX3 96 yX3_raises, Cond.instanceMethod yX3_raises, Cond.selects RX3 yX3_raises yX3_raises, Cond.code yX3_raises cX3_raises 2 (some .int), Cond.methodLink RX3 87 yX3_find, Cond.instanceMethod yX3_find, Cond.selects RX3 yX3_find yX3_find, Cond.code yX3_find cX3_find 3 (some .int), Cond.fieldLink RX3 29 "DunningDeskModel" "keys" "[I", Cond.methodLink RX3 99 yX3_adds, Cond.instanceMethod yX3_adds, Cond.selects RX3 yX3_adds yX3_adds, Cond.code yX3_adds cX3_adds 7 (some .int), Cond.fieldLink RX3 26 "DunningDeskModel" "queues" "[I", Cond.fieldLink RX3 32 "DunningDeskModel" "kinds" "[C", Cond.fieldLink RX3 36 "DunningDeskModel" "caseOf" "[I", Cond.fieldLink RX3 39 "DunningDeskModel" "values" "[I"]
def wsX3_post_r2 : List Cond := [Cond.fieldLink RX3 42 "DunningDeskModel" "readyOn" "[I", Cond.fieldLink RX3 48 "DunningDeskModel" "states" "[C", Cond.fieldLink RX3 61 "DunningDeskModel" "cases" "I"]
def wsX3_post : List Cond := .code yX3_post cX3_post 9 (some .int) :: ((wsX3_post_r1 ++ wsX3_post_r2) ++ wsX30 ++ (vx_atM "java/lang/ArrayIndexOutOfBoundsException" ["java/lang/IndexOutOfBoundsException", "java/lang/RuntimeException", "java/lang/Exception"]).filter goodWord)
def wsX3_withKey : List Cond := .code yX3_withKey cX3_withKey 3 (some .int) :: ([.fieldLink RX3 57 "DunningDeskModel" "thrown" "I", .methodLink RX3 87 yX3_find, .instanceMethod yX3_find, .selects RX3 yX3_find yX3_find, .initialized RX3, .code yX3_find cX3_find 3 (some .int), .fieldLink RX3 68 "DunningDeskModel" "messages" "I", .fieldLink RX3 29 "DunningDeskModel" "keys" "[I"] ++ wsX30 ++ (vx_atM "java/lang/ArrayIndexOutOfBoundsException" ["java/lang/IndexOutOfBoundsException", "java/lang/RuntimeException", "java/lang/Exception"]).filter goodWord)
def wsX3_state : List Cond := .code yX3_state cX3_state 2 (some .char) :: ([.fieldLink RX3 48 "DunningDeskModel" "states" "[C", .methodLink RX3 103 yX3_noMessage, .instanceMethod yX3_noMessage, .selects RX3 yX3_noMessage yX3_noMessage, .initialized RX3, .code yX3_noMessage cX3_noMessage 2 (some .boolean), .fieldLink RX3 68 "DunningDeskModel" "messages" "I", .fieldLink RX3 57 "DunningDeskModel" "thrown" "I", .methodLink RX3 64 yX3_in, .static yX3_in, .code yX3_in cX3_in 3 (some .boolean)] ++ wsX30 ++ (vx_atM "java/lang/ArrayIndexOutOfBoundsException" ["java/lang/IndexOutOfBoundsException", "java/lang/RuntimeException", "java/lang/Exception"]).filter goodWord)
def wsX3_kind : List Cond := .code yX3_kind cX3_kind 2 (some .char) :: ([.fieldLink RX3 32 "DunningDeskModel" "kinds" "[C", .methodLink RX3 103 yX3_noMessage, .instanceMethod yX3_noMessage, .selects RX3 yX3_noMessage yX3_noMessage, .initialized RX3, .code yX3_noMessage cX3_noMessage 2 (some .boolean), .fieldLink RX3 68 "DunningDeskModel" "messages" "I", .fieldLink RX3 57 "DunningDeskModel" "thrown" "I", .methodLink RX3 64 yX3_in, .static yX3_in, .code yX3_in cX3_in 3 (some .boolean)] ++ wsX30 ++ (vx_atM "java/lang/ArrayIndexOutOfBoundsException" ["java/lang/IndexOutOfBoundsException", "java/lang/RuntimeException", "java/lang/Exception"]).filter goodWord)
def wsX3_tries : List Cond := .code yX3_tries cX3_tries 2 (some .int) :: ([.fieldLink RX3 45 "DunningDeskModel" "tries" "[I", .methodLink RX3 103 yX3_noMessage, .instanceMethod yX3_noMessage, .selects RX3 yX3_noMessage yX3_noMessage, .initialized RX3, .code yX3_noMessage cX3_noMessage 2 (some .boolean), .fieldLink RX3 68 "DunningDeskModel" "messages" "I", .fieldLink RX3 57 "DunningDeskModel" "thrown" "I", .methodLink RX3 64 yX3_in, .static yX3_in, .code yX3_in cX3_in 3 (some .boolean)] ++ wsX30 ++ (vx_atM "java/lang/ArrayIndexOutOfBoundsException" ["java/lang/IndexOutOfBoundsException", "java/lang/RuntimeException", "java/lang/Exception"]).filter goodWord)
def wsX3_readyAt : List Cond := .code yX3_readyAt cX3_readyAt 2 (some .int) :: ([.fieldLink RX3 48 "DunningDeskModel" "states" "[C", .fieldLink RX3 57 "DunningDeskModel" "thrown" "I", .fieldLink RX3 42 "DunningDeskModel" "readyOn" "[I", .methodLink RX3 103 yX3_noMessage, .instanceMethod yX3_noMessage, .selects RX3 yX3_noMessage yX3_noMessage, .initialized RX3, .code yX3_noMessage cX3_noMessage 2 (some .boolean), .fieldLink RX3 68 "DunningDeskModel" "messages" "I", .methodLink RX3 64 yX3_in, .static yX3_in, .code yX3_in cX3_in 3 (some .boolean)] ++ wsX30 ++ (vx_atM "java/lang/ArrayIndexOutOfBoundsException" ["java/lang/IndexOutOfBoundsException", "java/lang/RuntimeException", "java/lang/Exception"]).filter goodWord)
def wsX3_isReady : List Cond := .code yX3_isReady cX3_isReady 3 (some .boolean) :: ([.fieldLink RX3 26 "DunningDeskModel" "queues" "[I", .fieldLink RX3 48 "DunningDeskModel" "states" "[C", .fieldLink RX3 42 "DunningDeskModel" "readyOn" "[I", .fieldLink RX3 71 "DunningDeskModel" "day" "I"] ++ wsX30 ++ (vx_atM "java/lang/ArrayIndexOutOfBoundsException" ["java/lang/IndexOutOfBoundsException", "java/lang/RuntimeException", "java/lang/Exception"]).filter goodWord)
def wsX3_readyIn : List Cond := .code yX3_readyIn cX3_readyIn 4 (some .int) :: ([.fieldLink RX3 68 "DunningDeskModel" "messages" "I", .methodLink RX3 106 yX3_isReady, .instanceMethod yX3_isReady, .selects RX3 yX3_isReady yX3_isReady, .initialized RX3, .code yX3_isReady cX3_isReady 3 (some .boolean), .fieldLink RX3 26 "DunningDeskModel" "queues" "[I", .fieldLink RX3 48 "DunningDeskModel" "states" "[C", .fieldLink RX3 42 "DunningDeskModel" "readyOn" "[I", .fieldLink RX3 71 "DunningDeskModel" "day" "I"] ++ wsX30 ++ (vx_atM "java/lang/ArrayIndexOutOfBoundsException" ["java/lang/IndexOutOfBoundsException", "java/lang/RuntimeException", "java/lang/Exception"]).filter goodWord)
def wsX3_ready : List Cond := .code yX3_ready cX3_ready 2 (some .int) :: ([.fieldLink RX3 57 "DunningDeskModel" "thrown" "I", .methodLink RX3 64 yX3_in, .static yX3_in, .initialized RX3, .code yX3_in cX3_in 3 (some .boolean), .methodLink RX3 110 yX3_readyIn, .instanceMethod yX3_readyIn, .selects RX3 yX3_readyIn yX3_readyIn, .code yX3_readyIn cX3_readyIn 4 (some .int), .fieldLink RX3 68 "DunningDeskModel" "messages" "I", .methodLink RX3 106 yX3_isReady, .instanceMethod yX3_isReady, .selects RX3 yX3_isReady yX3_isReady, .code yX3_isReady cX3_isReady 3 (some .boolean), .fieldLink RX3 26 "DunningDeskModel" "queues" "[I", .fieldLink RX3 48 "DunningDeskModel" "states" "[C", .fieldLink RX3 42 "DunningDeskModel" "readyOn" "[I", .fieldLink RX3 71 "DunningDeskModel" "day" "I"] ++ wsX30 ++ (vx_atM "java/lang/ArrayIndexOutOfBoundsException" ["java/lang/IndexOutOfBoundsException", "java/lang/RuntimeException", "java/lang/Exception"]).filter goodWord)
def wsX3_place : List Cond := .code yX3_place cX3_place 6 (some .int) :: ([.fieldLink RX3 68 "DunningDeskModel" "messages" "I", .fieldLink RX3 42 "DunningDeskModel" "readyOn" "[I", .methodLink RX3 106 yX3_isReady, .instanceMethod yX3_isReady, .selects RX3 yX3_isReady yX3_isReady, .initialized RX3, .code yX3_isReady cX3_isReady 3 (some .boolean), .fieldLink RX3 26 "DunningDeskModel" "queues" "[I", .fieldLink RX3 48 "DunningDeskModel" "states" "[C", .fieldLink RX3 71 "DunningDeskModel" "day" "I"] ++ wsX30 ++ (vx_atM "java/lang/ArrayIndexOutOfBoundsException" ["java/lang/IndexOutOfBoundsException", "java/lang/RuntimeException", "java/lang/Exception"]).filter goodWord)
def wsX3_readyAtPlace : List Cond := .code yX3_readyAtPlace cX3_readyAtPlace 4 (some .int) :: ([.fieldLink RX3 57 "DunningDeskModel" "thrown" "I", .methodLink RX3 64 yX3_in, .static yX3_in, .initialized RX3, .code yX3_in cX3_in 3 (some .boolean), .methodLink RX3 96 yX3_raises, .instanceMethod yX3_raises, .selects RX3 yX3_raises yX3_raises, .code yX3_raises cX3_raises 2 (some .int), .methodLink RX3 113 yX3_place, .instanceMethod yX3_place, .selects RX3 yX3_place yX3_place, .code yX3_place cX3_place 6 (some .int), .fieldLink RX3 68 "DunningDeskModel" "messages" "I", .fieldLink RX3 42 "DunningDeskModel" "readyOn" "[I", .methodLink RX3 106 yX3_isReady, .instanceMethod yX3_isReady, .selects RX3 yX3_isReady yX3_isReady, .code yX3_isReady cX3_isReady 3 (some .boolean), .fieldLink RX3 26 "DunningDeskModel" "queues" "[I", .fieldLink RX3 48 "DunningDeskModel" "states" "[C", .fieldLink RX3 71 "DunningDeskModel" "day" "I"] ++ wsX30 ++ (vx_atM "java/lang/ArrayIndexOutOfBoundsException" ["java/lang/IndexOutOfBoundsException", "java/lang/RuntimeException", "java/lang/Exception"]).filter goodWord)
def wsX3_taken : List Cond := .code yX3_taken cX3_taken 4 (some .int) :: ([.fieldLink RX3 68 "DunningDeskModel" "messages" "I", .fieldLink RX3 48 "DunningDeskModel" "states" "[C", .fieldLink RX3 51 "DunningDeskModel" "clerks" "[I"] ++ wsX30 ++ (vx_atM "java/lang/ArrayIndexOutOfBoundsException" ["java/lang/IndexOutOfBoundsException", "java/lang/RuntimeException", "java/lang/Exception"]).filter goodWord)
def wsX3_take_r1 : List Cond := [Cond.fieldLink RX3 57 "DunningDeskModel" "thrown" "I", Cond.fieldLink RX3 48 "DunningDeskModel" "states" "[C", Cond.fieldLink RX3 51 "DunningDeskModel" "clerks" "[I", Cond.fieldLink RX3 54 "DunningDeskModel" "takenOn" "[I", Cond.fieldLink RX3 71 "DunningDeskModel" "day" "I", Cond.methodLink RX3 64 yX3_in, Cond.static yX3_in, Cond.initialized RX3, Cond.code yX3_in cX3_in 3 (some .boolean), Cond.methodLink RX3 96 yX3_raises, Cond.instanceMethod yX3_raises, Cond.selects RX3 yX3_raises yX3_raises, Cond.code yX3_raises cX3_raises 2 (some .int), Cond.methodLink RX3 113 yX3_place, Cond.instanceMethod yX3_place, Cond.selects RX3 yX3_place yX3_place, Cond.code yX3_place cX3_place 6 (some .int), Cond.fieldLink RX3 68 "DunningDeskModel" "messages" "I", Cond.fieldLink RX3 42 "DunningDeskModel" "readyOn" "[I", Cond.methodLink RX3 106 yX3_isReady, Cond.instanceMethod yX3_isReady, Cond.selects RX3 yX3_isReady yX3_isReady, Cond.code yX3_isReady cX3_isReady 3 (some .boolean), Cond.fieldLink RX3 26 "DunningDeskModel" "queues" "[I"]
def wsX3_take_r2 : List Cond := [Cond.methodLink RX3 116 yX3_taken, Cond.instanceMethod yX3_taken, Cond.selects RX3 yX3_taken yX3_taken, Cond.code yX3_taken cX3_taken 4 (some .int)]
def wsX3_take : List Cond := .code yX3_take cX3_take 4 (some .int) :: ((wsX3_take_r1 ++ wsX3_take_r2) ++ wsX30 ++ (vx_atM "java/lang/ArrayIndexOutOfBoundsException" ["java/lang/IndexOutOfBoundsException", "java/lang/RuntimeException", "java/lang/Exception"]).filter goodWord)
def wsX3_finish : List Cond := .code yX3_finish cX3_finish 4 (some .boolean) :: ([.fieldLink RX3 48 "DunningDeskModel" "states" "[C", .fieldLink RX3 57 "DunningDeskModel" "thrown" "I", .fieldLink RX3 36 "DunningDeskModel" "caseOf" "[I", .fieldLink RX3 32 "DunningDeskModel" "kinds" "[C", .fieldLink RX3 9 "DunningDeskModel" "amounts" "[I", .fieldLink RX3 39 "DunningDeskModel" "values" "[I", .methodLink RX3 74 Lib.Math.max.name, .static Lib.Math.max.name, .initialized "java/lang/Math", .code Lib.Math.max.name Lib.Math.max.code 2 (some .int), .fieldLink RX3 22 "DunningDeskModel" "waits" "[Z", .fieldLink RX3 16 "DunningDeskModel" "letters" "[I", .methodLink RX3 103 yX3_noMessage, .instanceMethod yX3_noMessage, .selects RX3 yX3_noMessage yX3_noMessage, .initialized RX3, .code yX3_noMessage cX3_noMessage 2 (some .boolean), .fieldLink RX3 68 "DunningDeskModel" "messages" "I", .methodLink RX3 64 yX3_in, .static yX3_in, .code yX3_in cX3_in 3 (some .boolean)] ++ wsX30 ++ (vx_atM "java/lang/ArrayIndexOutOfBoundsException" ["java/lang/IndexOutOfBoundsException", "java/lang/RuntimeException", "java/lang/Exception"]).filter goodWord)
def wsX3_back : List Cond := .code yX3_back cX3_back 2 (some .int) :: ([.fieldLink RX3 45 "DunningDeskModel" "tries" "[I", .fieldLink RX3 48 "DunningDeskModel" "states" "[C", .fieldLink RX3 42 "DunningDeskModel" "readyOn" "[I", .fieldLink RX3 71 "DunningDeskModel" "day" "I"] ++ wsX30 ++ (vx_atM "java/lang/ArrayIndexOutOfBoundsException" ["java/lang/IndexOutOfBoundsException", "java/lang/RuntimeException", "java/lang/Exception"]).filter goodWord)
def wsX3_handBack : List Cond := .code yX3_handBack cX3_handBack 2 (some .int) :: ([.fieldLink RX3 48 "DunningDeskModel" "states" "[C", .fieldLink RX3 57 "DunningDeskModel" "thrown" "I", .methodLink RX3 103 yX3_noMessage, .instanceMethod yX3_noMessage, .selects RX3 yX3_noMessage yX3_noMessage, .initialized RX3, .code yX3_noMessage cX3_noMessage 2 (some .boolean), .fieldLink RX3 68 "DunningDeskModel" "messages" "I", .methodLink RX3 64 yX3_in, .static yX3_in, .code yX3_in cX3_in 3 (some .boolean), .methodLink RX3 119 yX3_back, .instanceMethod yX3_back, .selects RX3 yX3_back yX3_back, .code yX3_back cX3_back 2 (some .int), .fieldLink RX3 45 "DunningDeskModel" "tries" "[I", .fieldLink RX3 42 "DunningDeskModel" "readyOn" "[I", .fieldLink RX3 71 "DunningDeskModel" "day" "I"] ++ wsX30 ++ (vx_atM "java/lang/ArrayIndexOutOfBoundsException" ["java/lang/IndexOutOfBoundsException", "java/lang/RuntimeException", "java/lang/Exception"]).filter goodWord)
def wsX3_in_ : List Cond := .code yX3_in_ cX3_in_ 4 (some .int) :: ([.fieldLink RX3 68 "DunningDeskModel" "messages" "I", .fieldLink RX3 48 "DunningDeskModel" "states" "[C"] ++ wsX30 ++ (vx_atM "java/lang/ArrayIndexOutOfBoundsException" ["java/lang/IndexOutOfBoundsException", "java/lang/RuntimeException", "java/lang/Exception"]).filter goodWord)
def wsX3_revive : List Cond := .code yX3_revive cX3_revive 2 (some .int) :: ([.fieldLink RX3 48 "DunningDeskModel" "states" "[C", .fieldLink RX3 57 "DunningDeskModel" "thrown" "I", .fieldLink RX3 42 "DunningDeskModel" "readyOn" "[I", .fieldLink RX3 71 "DunningDeskModel" "day" "I", .fieldLink RX3 45 "DunningDeskModel" "tries" "[I", .methodLink RX3 103 yX3_noMessage, .instanceMethod yX3_noMessage, .selects RX3 yX3_noMessage yX3_noMessage, .initialized RX3, .code yX3_noMessage cX3_noMessage 2 (some .boolean), .fieldLink RX3 68 "DunningDeskModel" "messages" "I", .methodLink RX3 64 yX3_in, .static yX3_in, .code yX3_in cX3_in 3 (some .boolean), .methodLink RX3 122 yX3_in_, .instanceMethod yX3_in_, .selects RX3 yX3_in_ yX3_in_, .code yX3_in_ cX3_in_ 4 (some .int)] ++ wsX30 ++ (vx_atM "java/lang/ArrayIndexOutOfBoundsException" ["java/lang/IndexOutOfBoundsException", "java/lang/RuntimeException", "java/lang/Exception"]).filter goodWord)
def wsX3_clerk : List Cond := .code yX3_clerk cX3_clerk 2 (some .int) :: ([.fieldLink RX3 48 "DunningDeskModel" "states" "[C", .fieldLink RX3 57 "DunningDeskModel" "thrown" "I", .fieldLink RX3 51 "DunningDeskModel" "clerks" "[I", .methodLink RX3 103 yX3_noMessage, .instanceMethod yX3_noMessage, .selects RX3 yX3_noMessage yX3_noMessage, .initialized RX3, .code yX3_noMessage cX3_noMessage 2 (some .boolean), .fieldLink RX3 68 "DunningDeskModel" "messages" "I", .methodLink RX3 64 yX3_in, .static yX3_in, .code yX3_in cX3_in 3 (some .boolean)] ++ wsX30 ++ (vx_atM "java/lang/ArrayIndexOutOfBoundsException" ["java/lang/IndexOutOfBoundsException", "java/lang/RuntimeException", "java/lang/Exception"]).filter goodWord)
def wsX3_has : List Cond := .code yX3_has cX3_has 2 (some .int) :: ([.fieldLink RX3 57 "DunningDeskModel" "thrown" "I", .methodLink RX3 64 yX3_in, .static yX3_in, .initialized RX3, .code yX3_in cX3_in 3 (some .boolean), .methodLink RX3 116 yX3_taken, .instanceMethod yX3_taken, .selects RX3 yX3_taken yX3_taken, .code yX3_taken cX3_taken 4 (some .int), .fieldLink RX3 68 "DunningDeskModel" "messages" "I", .fieldLink RX3 48 "DunningDeskModel" "states" "[C", .fieldLink RX3 51 "DunningDeskModel" "clerks" "[I"] ++ wsX30 ++ (vx_atM "java/lang/ArrayIndexOutOfBoundsException" ["java/lang/IndexOutOfBoundsException", "java/lang/RuntimeException", "java/lang/Exception"]).filter goodWord)
def wsX3_passes_r1 : List Cond := [Cond.fieldLink RX3 71 "DunningDeskModel" "day" "I", Cond.fieldLink RX3 68 "DunningDeskModel" "messages" "I", Cond.fieldLink RX3 48 "DunningDeskModel" "states" "[C", Cond.fieldLink RX3 54 "DunningDeskModel" "takenOn" "[I", Cond.fieldLink RX3 61 "DunningDeskModel" "cases" "I", Cond.fieldLink RX3 16 "DunningDeskModel" "letters" "[I", Cond.methodLink RX3 119 yX3_back, Cond.instanceMethod yX3_back, Cond.selects RX3 yX3_back yX3_back, Cond.initialized RX3, Cond.code yX3_back cX3_back 2 (some .int), Cond.fieldLink RX3 45 "DunningDeskModel" "tries" "[I", Cond.fieldLink RX3 42 "DunningDeskModel" "readyOn" "[I", Cond.methodLink RX3 90 yX3_mayRemind, Cond.instanceMethod yX3_mayRemind, Cond.selects RX3 yX3_mayRemind yX3_mayRemind, Cond.code yX3_mayRemind cX3_mayRemind 3 (some .boolean), Cond.fieldLink RX3 9 "DunningDeskModel" "amounts" "[I", Cond.fieldLink RX3 22 "DunningDeskModel" "waits" "[Z", Cond.methodLink RX3 87 yX3_find, Cond.instanceMethod yX3_find, Cond.selects RX3 yX3_find yX3_find, Cond.code yX3_find cX3_find 3 (some .int), Cond.fieldLink RX3 29 "DunningDeskModel" "keys" "[I"]
def wsX3_passes_r2 : List Cond := [Cond.methodLink RX3 93 yX3_remindsFrom, Cond.instanceMethod yX3_remindsFrom, Cond.selects RX3 yX3_remindsFrom yX3_remindsFrom, Cond.code yX3_remindsFrom cX3_remindsFrom 2 (some .int), Cond.fieldLink RX3 19 "DunningDeskModel" "pausedTo" "[I", Cond.fieldLink RX3 13 "DunningDeskModel" "dues" "[I", Cond.methodLink RX3 74 Lib.Math.max.name, Cond.static Lib.Math.max.name, Cond.initialized "java/lang/Math", Cond.code Lib.Math.max.name Lib.Math.max.code 2 (some .int), Cond.methodLink RX3 99 yX3_adds, Cond.instanceMethod yX3_adds, Cond.selects RX3 yX3_adds yX3_adds, Cond.code yX3_adds cX3_adds 7 (some .int), Cond.fieldLink RX3 26 "DunningDeskModel" "queues" "[I", Cond.fieldLink RX3 32 "DunningDeskModel" "kinds" "[C", Cond.fieldLink RX3 36 "DunningDeskModel" "caseOf" "[I", Cond.fieldLink RX3 39 "DunningDeskModel" "values" "[I"]
def wsX3_passes : List Cond := .code yX3_passes cX3_passes 4 (some .int) :: ((wsX3_passes_r1 ++ wsX3_passes_r2) ++ wsX30 ++ (vx_atM "java/lang/ArrayIndexOutOfBoundsException" ["java/lang/IndexOutOfBoundsException", "java/lang/RuntimeException", "java/lang/Exception"]).filter goodWord)
def wsX3_pass_r1 : List Cond := [Cond.fieldLink RX3 71 "DunningDeskModel" "day" "I", Cond.fieldLink RX3 57 "DunningDeskModel" "thrown" "I", Cond.methodLink RX3 64 yX3_in, Cond.static yX3_in, Cond.initialized RX3, Cond.code yX3_in cX3_in 3 (some .boolean), Cond.methodLink RX3 125 yX3_passes, Cond.instanceMethod yX3_passes, Cond.selects RX3 yX3_passes yX3_passes, Cond.code yX3_passes cX3_passes 4 (some .int), Cond.fieldLink RX3 68 "DunningDeskModel" "messages" "I", Cond.fieldLink RX3 48 "DunningDeskModel" "states" "[C", Cond.fieldLink RX3 54 "DunningDeskModel" "takenOn" "[I", Cond.fieldLink RX3 61 "DunningDeskModel" "cases" "I", Cond.fieldLink RX3 16 "DunningDeskModel" "letters" "[I", Cond.methodLink RX3 119 yX3_back, Cond.instanceMethod yX3_back, Cond.selects RX3 yX3_back yX3_back, Cond.code yX3_back cX3_back 2 (some .int), Cond.fieldLink RX3 45 "DunningDeskModel" "tries" "[I", Cond.fieldLink RX3 42 "DunningDeskModel" "readyOn" "[I", Cond.methodLink RX3 90 yX3_mayRemind, Cond.instanceMethod yX3_mayRemind, Cond.selects RX3 yX3_mayRemind yX3_mayRemind]
def wsX3_pass_r2 : List Cond := [Cond.code yX3_mayRemind cX3_mayRemind 3 (some .boolean), Cond.fieldLink RX3 9 "DunningDeskModel" "amounts" "[I", Cond.fieldLink RX3 22 "DunningDeskModel" "waits" "[Z", Cond.methodLink RX3 87 yX3_find, Cond.instanceMethod yX3_find, Cond.selects RX3 yX3_find yX3_find, Cond.code yX3_find cX3_find 3 (some .int), Cond.fieldLink RX3 29 "DunningDeskModel" "keys" "[I", Cond.methodLink RX3 93 yX3_remindsFrom, Cond.instanceMethod yX3_remindsFrom, Cond.selects RX3 yX3_remindsFrom yX3_remindsFrom, Cond.code yX3_remindsFrom cX3_remindsFrom 2 (some .int), Cond.fieldLink RX3 19 "DunningDeskModel" "pausedTo" "[I", Cond.fieldLink RX3 13 "DunningDeskModel" "dues" "[I", Cond.methodLink RX3 74 Lib.Math.max.name, Cond.static Lib.Math.max.name, Cond.initialized "java/lang/Math", Cond.code Lib.Math.max.name Lib.Math.max.code 2 (some .int), Cond.methodLink RX3 99 yX3_adds, Cond.instanceMethod yX3_adds, Cond.selects RX3 yX3_adds yX3_adds, Cond.code yX3_adds cX3_adds 7 (some .int), Cond.fieldLink RX3 26 "DunningDeskModel" "queues" "[I", Cond.fieldLink RX3 32 "DunningDeskModel" "kinds" "[C"]
def wsX3_pass_r3 : List Cond := [Cond.fieldLink RX3 36 "DunningDeskModel" "caseOf" "[I", Cond.fieldLink RX3 39 "DunningDeskModel" "values" "[I"]
def wsX3_pass : List Cond := .code yX3_pass cX3_pass 4 (some .int) :: ((wsX3_pass_r1 ++ (wsX3_pass_r2 ++ wsX3_pass_r3)) ++ wsX30 ++ (vx_atM "java/lang/ArrayIndexOutOfBoundsException" ["java/lang/IndexOutOfBoundsException", "java/lang/RuntimeException", "java/lang/Exception"]).filter goodWord)
def wsX3_day : List Cond := .code yX3_day cX3_day 1 (some .int) :: ([.fieldLink RX3 57 "DunningDeskModel" "thrown" "I", .fieldLink RX3 71 "DunningDeskModel" "day" "I"] ++ wsX30)
def wsX3_count : List Cond := .code yX3_count cX3_count 2 (some .int) :: ([.fieldLink RX3 57 "DunningDeskModel" "thrown" "I", .methodLink RX3 122 yX3_in_, .instanceMethod yX3_in_, .selects RX3 yX3_in_ yX3_in_, .initialized RX3, .code yX3_in_ cX3_in_ 4 (some .int), .fieldLink RX3 68 "DunningDeskModel" "messages" "I", .fieldLink RX3 48 "DunningDeskModel" "states" "[C"] ++ wsX30 ++ (vx_atM "java/lang/ArrayIndexOutOfBoundsException" ["java/lang/IndexOutOfBoundsException", "java/lang/RuntimeException", "java/lang/Exception"]).filter goodWord)
def wsX3_doneShare : List Cond := .code yX3_doneShare cX3_doneShare 1 (some .float) :: ([.fieldLink RX3 68 "DunningDeskModel" "messages" "I", .fieldLink RX3 57 "DunningDeskModel" "thrown" "I", .methodLink RX3 122 yX3_in_, .instanceMethod yX3_in_, .selects RX3 yX3_in_ yX3_in_, .initialized RX3, .code yX3_in_ cX3_in_ 4 (some .int), .fieldLink RX3 48 "DunningDeskModel" "states" "[C"] ++ wsX30 ++ (vx_atM "java/lang/ArrayIndexOutOfBoundsException" ["java/lang/IndexOutOfBoundsException", "java/lang/RuntimeException", "java/lang/Exception"]).filter goodWord)
def wsX3_meanAmount : List Cond := .code yX3_meanAmount cX3_meanAmount 4 (some .double) :: ([.fieldLink RX3 61 "DunningDeskModel" "cases" "I", .fieldLink RX3 9 "DunningDeskModel" "amounts" "[I", .fieldLink RX3 57 "DunningDeskModel" "thrown" "I"] ++ wsX30 ++ (vx_atM "java/lang/ArrayIndexOutOfBoundsException" ["java/lang/IndexOutOfBoundsException", "java/lang/RuntimeException", "java/lang/Exception"]).filter goodWord)
def wsJx00060_init_a7421 : List Cond := .code yJx00060_init_a7421 cJx00060_init_a7421 2 none :: ([])
def wsJ9_max_7cf53 : List Cond := .code yJ9_max_7cf53 cJ9_max_7cf53 2 (some .int) :: ([])
def wsL_open_r1 : List Cond := [Cond.classLink RL 13 "java/lang/IllegalArgumentException", Cond.classLink RL 15 "java/lang/IllegalStateException", Cond.methodLink RL 7 yX2_open, Cond.instanceMethod yX2_open, Cond.selects RX2 yX2_open yX2_open, Cond.initialized RX2, Cond.code yX2_open cX2_open 4 (some .int), Cond.classLink RX2 31 "java/lang/IllegalArgumentException", Cond.initialized "java/lang/IllegalArgumentException", Cond.classLink RX2 42 "java/lang/IllegalStateException", Cond.initialized "java/lang/IllegalStateException", Cond.fieldLink RX2 10 "DunningDesk" "cases" "LDunningDesk$CaseBook;", Cond.fieldLink RX2 19 "DunningDesk" "messages" "LDunningDesk$MessageBook;", Cond.fieldLink RX2 23 "DunningDesk" "today" "I", Cond.methodLink RX2 27 yX2_isWithin, Cond.static yX2_isWithin, Cond.code yX2_isWithin cX2_isWithin 3 (some .boolean), Cond.instanceMethod yX0_isFull, Cond.initialized RX0, Cond.selects RX0 yX0_isFull yX0_isFull, Cond.code yX0_isFull cX0_isFull 1 (some .boolean), Cond.fieldLink RX0 31 "DunningDesk$CaseBook" "size" "I", Cond.instanceMethod yX0_add, Cond.selects RX0 yX0_add yX0_add]
def wsL_open_r2 : List Cond := [Cond.code yX0_add cX0_add 4 (some .int), Cond.fieldLink RX0 9 "DunningDesk$CaseBook" "firstAmounts" "[I", Cond.fieldLink RX0 15 "DunningDesk$CaseBook" "amounts" "[I", Cond.fieldLink RX0 18 "DunningDesk$CaseBook" "dueDays" "[I", Cond.instanceMethod yX1_release, Cond.initialized RX1, Cond.selects RX1 yX1_release yX1_release, Cond.code yX1_release cX1_release 4 none, Cond.fieldLink RX1 46 "DunningDesk$MessageBook" "size" "I", Cond.fieldLink RX1 28 "DunningDesk$MessageBook" "states" "[C", Cond.fieldLink RX1 22 "DunningDesk$MessageBook" "caseNumbers" "[I", Cond.fieldLink RX1 31 "DunningDesk$MessageBook" "readyDays" "[I", Cond.methodLink RX1 50 Lib.Math.max.name, Cond.static Lib.Math.max.name, Cond.initialized "java/lang/Math", Cond.code Lib.Math.max.name Lib.Math.max.code 2 (some .int)]
def wsL_open : List Cond := .codeWith yL_open cL_open 5 (some .int) [(0, 10, 13, 13), (0, 10, 17, 15)] :: ((wsL_open_r1 ++ wsL_open_r2) ++ wsX20 ++ wsX00 ++ wsX10 ++ (vx_atM "java/lang/ArrayIndexOutOfBoundsException" ["java/lang/IndexOutOfBoundsException", "java/lang/RuntimeException", "java/lang/Exception"]).filter goodWord ++ (vx_atS RX2 35 "java/lang/IllegalArgumentException" ["java/lang/RuntimeException", "java/lang/Exception"]).filter goodWord ++ (vx_atS RX2 46 "java/lang/IllegalStateException" ["java/lang/RuntimeException", "java/lang/Exception"]).filter goodWord)
def wsL_amount : List Cond := .codeWith yL_amount cL_amount 4 (some .int) [(0, 9, 12, 21)] :: ([.classLink RL 21 "java/lang/IndexOutOfBoundsException", .methodLink RL 17 yX2_amount, .instanceMethod yX2_amount, .selects RX2 yX2_amount yX2_amount, .initialized RX2, .code yX2_amount cX2_amount 2 (some .int), .fieldLink RX2 10 "DunningDesk" "cases" "LDunningDesk$CaseBook;", .methodLink RX2 55 yX2_requireCase, .instanceMethod yX2_requireCase, .selects RX2 yX2_requireCase yX2_requireCase, .code yX2_requireCase cX2_requireCase 2 none, .classLink RX2 215 "java/lang/IndexOutOfBoundsException", .initialized "java/lang/IndexOutOfBoundsException", .instanceMethod yX0_contains, .initialized RX0, .selects RX0 yX0_contains yX0_contains, .code yX0_contains cX0_contains 2 (some .boolean), .fieldLink RX0 31 "DunningDesk$CaseBook" "size" "I"] ++ wsX20 ++ wsX00 ++ (vx_atM "java/lang/ArrayIndexOutOfBoundsException" ["java/lang/IndexOutOfBoundsException", "java/lang/RuntimeException", "java/lang/Exception"]).filter goodWord ++ (vx_atS RX2 219 "java/lang/IndexOutOfBoundsException" ["java/lang/RuntimeException", "java/lang/Exception"]).filter goodWord)
def wsL_pause_r1 : List Cond := [Cond.classLink RL 21 "java/lang/IndexOutOfBoundsException", Cond.classLink RL 13 "java/lang/IllegalArgumentException", Cond.classLink RL 15 "java/lang/IllegalStateException", Cond.methodLink RL 23 yX2_pause, Cond.instanceMethod yX2_pause, Cond.selects RX2 yX2_pause yX2_pause, Cond.initialized RX2, Cond.code yX2_pause cX2_pause 3 (some .int), Cond.classLink RX2 31 "java/lang/IllegalArgumentException", Cond.initialized "java/lang/IllegalArgumentException", Cond.fieldLink RX2 10 "DunningDesk" "cases" "LDunningDesk$CaseBook;", Cond.fieldLink RX2 23 "DunningDesk" "today" "I", Cond.methodLink RX2 55 yX2_requireCase, Cond.instanceMethod yX2_requireCase, Cond.selects RX2 yX2_requireCase yX2_requireCase, Cond.code yX2_requireCase cX2_requireCase 2 none, Cond.classLink RX2 215 "java/lang/IndexOutOfBoundsException", Cond.initialized "java/lang/IndexOutOfBoundsException", Cond.instanceMethod yX0_contains, Cond.initialized RX0, Cond.selects RX0 yX0_contains yX0_contains, Cond.code yX0_contains cX0_contains 2 (some .boolean), Cond.fieldLink RX0 31 "DunningDesk$CaseBook" "size" "I", Cond.methodLink RX2 27 yX2_isWithin]
def wsL_pause_r2 : List Cond := [Cond.static yX2_isWithin, Cond.code yX2_isWithin cX2_isWithin 3 (some .boolean), Cond.methodLink RX2 65 yX2_requireOpen, Cond.instanceMethod yX2_requireOpen, Cond.selects RX2 yX2_requireOpen yX2_requireOpen, Cond.code yX2_requireOpen cX2_requireOpen 2 none, Cond.classLink RX2 42 "java/lang/IllegalStateException", Cond.initialized "java/lang/IllegalStateException", Cond.instanceMethod yX0_isOpen, Cond.selects RX0 yX0_isOpen yX0_isOpen, Cond.code yX0_isOpen cX0_isOpen 2 (some .boolean), Cond.fieldLink RX0 15 "DunningDesk$CaseBook" "amounts" "[I", Cond.instanceMethod yX0_pauseUntil, Cond.selects RX0 yX0_pauseUntil yX0_pauseUntil, Cond.code yX0_pauseUntil cX0_pauseUntil 3 (some .int), Cond.fieldLink RX0 24 "DunningDesk$CaseBook" "pauseEnds" "[I", Cond.methodLink RX0 35 Lib.Math.max.name, Cond.static Lib.Math.max.name, Cond.initialized "java/lang/Math", Cond.code Lib.Math.max.name Lib.Math.max.code 2 (some .int)]
def wsL_pause : List Cond := .codeWith yL_pause cL_pause 5 (some .int) [(0, 10, 13, 21), (0, 10, 17, 13), (0, 10, 21, 15)] :: ((wsL_pause_r1 ++ wsL_pause_r2) ++ wsX20 ++ wsX00 ++ (vx_atM "java/lang/ArrayIndexOutOfBoundsException" ["java/lang/IndexOutOfBoundsException", "java/lang/RuntimeException", "java/lang/Exception"]).filter goodWord ++ (vx_atS RX2 35 "java/lang/IllegalArgumentException" ["java/lang/RuntimeException", "java/lang/Exception"]).filter goodWord ++ (vx_atS RX2 219 "java/lang/IndexOutOfBoundsException" ["java/lang/RuntimeException", "java/lang/Exception"]).filter goodWord ++ (vx_atS RX2 46 "java/lang/IllegalStateException" ["java/lang/RuntimeException", "java/lang/Exception"]).filter goodWord)
def wsL_awaitNote_r1 : List Cond := [Cond.classLink RL 21 "java/lang/IndexOutOfBoundsException", Cond.classLink RL 15 "java/lang/IllegalStateException", Cond.methodLink RL 26 yX2_awaitNote, Cond.instanceMethod yX2_awaitNote, Cond.selects RX2 yX2_awaitNote yX2_awaitNote, Cond.initialized RX2, Cond.code yX2_awaitNote cX2_awaitNote 3 (some .boolean), Cond.fieldLink RX2 10 "DunningDesk" "cases" "LDunningDesk$CaseBook;", Cond.methodLink RX2 55 yX2_requireCase, Cond.instanceMethod yX2_requireCase, Cond.selects RX2 yX2_requireCase yX2_requireCase, Cond.code yX2_requireCase cX2_requireCase 2 none, Cond.classLink RX2 215 "java/lang/IndexOutOfBoundsException", Cond.initialized "java/lang/IndexOutOfBoundsException", Cond.instanceMethod yX0_contains, Cond.initialized RX0, Cond.selects RX0 yX0_contains yX0_contains, Cond.code yX0_contains cX0_contains 2 (some .boolean), Cond.fieldLink RX0 31 "DunningDesk$CaseBook" "size" "I", Cond.methodLink RX2 65 yX2_requireOpen, Cond.instanceMethod yX2_requireOpen, Cond.selects RX2 yX2_requireOpen yX2_requireOpen, Cond.code yX2_requireOpen cX2_requireOpen 2 none, Cond.classLink RX2 42 "java/lang/IllegalStateException"]
def wsL_awaitNote_r2 : List Cond := [Cond.initialized "java/lang/IllegalStateException", Cond.instanceMethod yX0_isOpen, Cond.selects RX0 yX0_isOpen yX0_isOpen, Cond.code yX0_isOpen cX0_isOpen 2 (some .boolean), Cond.fieldLink RX0 15 "DunningDesk$CaseBook" "amounts" "[I"]
def wsL_awaitNote : List Cond := .codeWith yL_awaitNote cL_awaitNote 4 (some .int) [(0, 16, 19, 21), (0, 16, 22, 15)] :: ((wsL_awaitNote_r1 ++ wsL_awaitNote_r2) ++ wsX20 ++ wsX00 ++ (vx_atM "java/lang/ArrayIndexOutOfBoundsException" ["java/lang/IndexOutOfBoundsException", "java/lang/RuntimeException", "java/lang/Exception"]).filter goodWord ++ (vx_atS RX2 219 "java/lang/IndexOutOfBoundsException" ["java/lang/RuntimeException", "java/lang/Exception"]).filter goodWord ++ (vx_atS RX2 46 "java/lang/IllegalStateException" ["java/lang/RuntimeException", "java/lang/Exception"]).filter goodWord)
def wsL_letters : List Cond := .codeWith yL_letters cL_letters 4 (some .int) [(0, 9, 12, 21)] :: ([.classLink RL 21 "java/lang/IndexOutOfBoundsException", .methodLink RL 30 yX2_letters, .instanceMethod yX2_letters, .selects RX2 yX2_letters yX2_letters, .initialized RX2, .code yX2_letters cX2_letters 2 (some .int), .fieldLink RX2 10 "DunningDesk" "cases" "LDunningDesk$CaseBook;", .methodLink RX2 55 yX2_requireCase, .instanceMethod yX2_requireCase, .selects RX2 yX2_requireCase yX2_requireCase, .code yX2_requireCase cX2_requireCase 2 none, .classLink RX2 215 "java/lang/IndexOutOfBoundsException", .initialized "java/lang/IndexOutOfBoundsException", .instanceMethod yX0_contains, .initialized RX0, .selects RX0 yX0_contains yX0_contains, .code yX0_contains cX0_contains 2 (some .boolean), .fieldLink RX0 31 "DunningDesk$CaseBook" "size" "I"] ++ wsX20 ++ wsX00 ++ (vx_atM "java/lang/ArrayIndexOutOfBoundsException" ["java/lang/IndexOutOfBoundsException", "java/lang/RuntimeException", "java/lang/Exception"]).filter goodWord ++ (vx_atS RX2 219 "java/lang/IndexOutOfBoundsException" ["java/lang/RuntimeException", "java/lang/Exception"]).filter goodWord)
def wsL_lettersByMessages_r1 : List Cond := [Cond.classLink RL 21 "java/lang/IndexOutOfBoundsException", Cond.methodLink RL 33 yX2_lettersByMessages, Cond.instanceMethod yX2_lettersByMessages, Cond.selects RX2 yX2_lettersByMessages yX2_lettersByMessages, Cond.initialized RX2, Cond.code yX2_lettersByMessages cX2_lettersByMessages 2 (some .int), Cond.fieldLink RX2 19 "DunningDesk" "messages" "LDunningDesk$MessageBook;", Cond.fieldLink RX2 10 "DunningDesk" "cases" "LDunningDesk$CaseBook;", Cond.methodLink RX2 55 yX2_requireCase, Cond.instanceMethod yX2_requireCase, Cond.selects RX2 yX2_requireCase yX2_requireCase, Cond.code yX2_requireCase cX2_requireCase 2 none, Cond.classLink RX2 215 "java/lang/IndexOutOfBoundsException", Cond.initialized "java/lang/IndexOutOfBoundsException", Cond.instanceMethod yX0_contains, Cond.initialized RX0, Cond.selects RX0 yX0_contains yX0_contains, Cond.code yX0_contains cX0_contains 2 (some .boolean), Cond.fieldLink RX0 31 "DunningDesk$CaseBook" "size" "I", Cond.instanceMethod yX1_lettersFrom, Cond.initialized RX1, Cond.selects RX1 yX1_lettersFrom yX1_lettersFrom, Cond.code yX1_lettersFrom cX1_lettersFrom 7 (some .int), Cond.fieldLink RX1 64 "DunningDesk$MessageBook" "doneSize" "I"]
def wsL_lettersByMessages_r2 : List Cond := [Cond.fieldLink RX1 43 "DunningDesk$MessageBook" "doneOrder" "[I", Cond.fieldLink RX1 22 "DunningDesk$MessageBook" "caseNumbers" "[I", Cond.fieldLink RX1 18 "DunningDesk$MessageBook" "kinds" "[C", Cond.fieldLink RX1 25 "DunningDesk$MessageBook" "contents" "[I", Cond.methodLink RX1 50 Lib.Math.max.name, Cond.static Lib.Math.max.name, Cond.initialized "java/lang/Math", Cond.code Lib.Math.max.name Lib.Math.max.code 2 (some .int), Cond.methodLink RX1 71 yX1_contains, Cond.instanceMethod yX1_contains, Cond.selects RX1 yX1_contains yX1_contains, Cond.code yX1_contains cX1_contains 2 (some .boolean), Cond.fieldLink RX1 46 "DunningDesk$MessageBook" "size" "I"]
def wsL_lettersByMessages : List Cond := .codeWith yL_lettersByMessages cL_lettersByMessages 4 (some .int) [(0, 9, 12, 21)] :: ((wsL_lettersByMessages_r1 ++ wsL_lettersByMessages_r2) ++ wsX20 ++ wsX00 ++ wsX10 ++ (vx_atM "java/lang/ArrayIndexOutOfBoundsException" ["java/lang/IndexOutOfBoundsException", "java/lang/RuntimeException", "java/lang/Exception"]).filter goodWord ++ (vx_atS RX2 219 "java/lang/IndexOutOfBoundsException" ["java/lang/RuntimeException", "java/lang/Exception"]).filter goodWord)
def wsL_nextReminder_r1 : List Cond := [Cond.classLink RL 21 "java/lang/IndexOutOfBoundsException", Cond.classLink RL 39 "java/util/NoSuchElementException", Cond.methodLink RL 36 yX2_nextReminder, Cond.instanceMethod yX2_nextReminder, Cond.selects RX2 yX2_nextReminder yX2_nextReminder, Cond.initialized RX2, Cond.code yX2_nextReminder cX2_nextReminder 3 (some .int), Cond.classLink RX2 88 "java/util/NoSuchElementException", Cond.initialized "java/util/NoSuchElementException", Cond.fieldLink RX2 23 "DunningDesk" "today" "I", Cond.fieldLink RX2 10 "DunningDesk" "cases" "LDunningDesk$CaseBook;", Cond.methodLink RX2 97 Lib.Math.max.name, Cond.static Lib.Math.max.name, Cond.initialized "java/lang/Math", Cond.code Lib.Math.max.name Lib.Math.max.code 2 (some .int), Cond.methodLink RX2 55 yX2_requireCase, Cond.instanceMethod yX2_requireCase, Cond.selects RX2 yX2_requireCase yX2_requireCase, Cond.code yX2_requireCase cX2_requireCase 2 none, Cond.classLink RX2 215 "java/lang/IndexOutOfBoundsException", Cond.initialized "java/lang/IndexOutOfBoundsException", Cond.instanceMethod yX0_contains, Cond.initialized RX0, Cond.selects RX0 yX0_contains yX0_contains]
def wsL_nextReminder_r2 : List Cond := [Cond.code yX0_contains cX0_contains 2 (some .boolean), Cond.fieldLink RX0 31 "DunningDesk$CaseBook" "size" "I", Cond.methodLink RX2 84 yX2_isAnyReminderLeft, Cond.instanceMethod yX2_isAnyReminderLeft, Cond.selects RX2 yX2_isAnyReminderLeft yX2_isAnyReminderLeft, Cond.code yX2_isAnyReminderLeft cX2_isAnyReminderLeft 3 (some .boolean), Cond.fieldLink RX2 19 "DunningDesk" "messages" "LDunningDesk$MessageBook;", Cond.instanceMethod yX0_isOpen, Cond.selects RX0 yX0_isOpen yX0_isOpen, Cond.code yX0_isOpen cX0_isOpen 2 (some .boolean), Cond.fieldLink RX0 15 "DunningDesk$CaseBook" "amounts" "[I", Cond.methodLink RX2 250 yX2_reminderKey, Cond.static yX2_reminderKey, Cond.code yX2_reminderKey cX2_reminderKey 2 (some .int), Cond.instanceMethod yX1_find, Cond.initialized RX1, Cond.selects RX1 yX1_find yX1_find, Cond.code yX1_find cX1_find 3 (some .int), Cond.fieldLink RX1 46 "DunningDesk$MessageBook" "size" "I", Cond.fieldLink RX1 15 "DunningDesk$MessageBook" "keys" "[I", Cond.instanceMethod yX0_reminderDay, Cond.selects RX0 yX0_reminderDay yX0_reminderDay, Cond.code yX0_reminderDay cX0_reminderDay 2 (some .int), Cond.fieldLink RX0 18 "DunningDesk$CaseBook" "dueDays" "[I"]
def wsL_nextReminder_r3 : List Cond := [Cond.fieldLink RX0 21 "DunningDesk$CaseBook" "lettersSent" "[I"]
def wsL_nextReminder : List Cond := .codeWith yL_nextReminder cL_nextReminder 4 (some .int) [(0, 9, 12, 21), (0, 9, 15, 39)] :: ((wsL_nextReminder_r1 ++ (wsL_nextReminder_r2 ++ wsL_nextReminder_r3)) ++ wsX20 ++ wsX00 ++ wsX10 ++ (vx_atM "java/lang/ArrayIndexOutOfBoundsException" ["java/lang/IndexOutOfBoundsException", "java/lang/RuntimeException", "java/lang/Exception"]).filter goodWord ++ (yN_atS RX2 92).filter goodWord ++ (vx_atS RX2 219 "java/lang/IndexOutOfBoundsException" ["java/lang/RuntimeException", "java/lang/Exception"]).filter goodWord)
def wsL_post_r1 : List Cond := [Cond.classLink RL 13 "java/lang/IllegalArgumentException", Cond.classLink RL 15 "java/lang/IllegalStateException", Cond.methodLink RL 41 yX2_post, Cond.instanceMethod yX2_post, Cond.selects RX2 yX2_post yX2_post, Cond.initialized RX2, Cond.code yX2_post cX2_post 9 (some .int), Cond.classLink RX2 31 "java/lang/IllegalArgumentException", Cond.initialized "java/lang/IllegalArgumentException", Cond.classLink RX2 42 "java/lang/IllegalStateException", Cond.initialized "java/lang/IllegalStateException", Cond.fieldLink RX2 19 "DunningDesk" "messages" "LDunningDesk$MessageBook;", Cond.fieldLink RX2 23 "DunningDesk" "today" "I", Cond.fieldLink RX2 10 "DunningDesk" "cases" "LDunningDesk$CaseBook;", Cond.methodLink RX2 105 yX2_requireQueue, Cond.static yX2_requireQueue, Cond.code yX2_requireQueue cX2_requireQueue 1 none, Cond.methodLink RX2 27 yX2_isWithin, Cond.static yX2_isWithin, Cond.code yX2_isWithin cX2_isWithin 3 (some .boolean), Cond.instanceMethod yX1_find, Cond.initialized RX1, Cond.selects RX1 yX1_find yX1_find, Cond.code yX1_find cX1_find 3 (some .int)]
def wsL_post_r2 : List Cond := [Cond.fieldLink RX1 46 "DunningDesk$MessageBook" "size" "I", Cond.fieldLink RX1 15 "DunningDesk$MessageBook" "keys" "[I", Cond.instanceMethod yX1_isFull, Cond.selects RX1 yX1_isFull yX1_isFull, Cond.code yX1_isFull cX1_isFull 1 (some .boolean), Cond.instanceMethod yX1_add, Cond.selects RX1 yX1_add yX1_add, Cond.code yX1_add cX1_add 8 (some .int), Cond.fieldLink RX1 9 "DunningDesk$MessageBook" "queues" "[I", Cond.fieldLink RX1 18 "DunningDesk$MessageBook" "kinds" "[C", Cond.fieldLink RX1 22 "DunningDesk$MessageBook" "caseNumbers" "[I", Cond.fieldLink RX1 25 "DunningDesk$MessageBook" "contents" "[I", Cond.fieldLink RX1 31 "DunningDesk$MessageBook" "readyDays" "[I", Cond.fieldLink RX1 28 "DunningDesk$MessageBook" "states" "[C", Cond.instanceMethod yX0_contains, Cond.initialized RX0, Cond.selects RX0 yX0_contains yX0_contains, Cond.code yX0_contains cX0_contains 2 (some .boolean), Cond.fieldLink RX0 31 "DunningDesk$CaseBook" "size" "I"]
def wsL_post : List Cond := .codeWith yL_post cL_post 9 (some .int) [(0, 18, 21, 13), (0, 18, 25, 15)] :: ((wsL_post_r1 ++ wsL_post_r2) ++ wsX20 ++ wsX10 ++ wsX00 ++ (vx_atM "java/lang/ArrayIndexOutOfBoundsException" ["java/lang/IndexOutOfBoundsException", "java/lang/RuntimeException", "java/lang/Exception"]).filter goodWord ++ (vx_atS RX2 35 "java/lang/IllegalArgumentException" ["java/lang/RuntimeException", "java/lang/Exception"]).filter goodWord ++ (vx_atS RX2 46 "java/lang/IllegalStateException" ["java/lang/RuntimeException", "java/lang/Exception"]).filter goodWord)
def wsL_withKey : List Cond := .codeWith yL_withKey cL_withKey 4 (some .int) [(0, 9, 12, 39)] :: ([.classLink RL 39 "java/util/NoSuchElementException", .methodLink RL 45 yX2_withKey, .instanceMethod yX2_withKey, .selects RX2 yX2_withKey yX2_withKey, .initialized RX2, .code yX2_withKey cX2_withKey 3 (some .int), .classLink RX2 88 "java/util/NoSuchElementException", .initialized "java/util/NoSuchElementException", .fieldLink RX2 19 "DunningDesk" "messages" "LDunningDesk$MessageBook;", .instanceMethod yX1_find, .initialized RX1, .selects RX1 yX1_find yX1_find, .code yX1_find cX1_find 3 (some .int), .fieldLink RX1 46 "DunningDesk$MessageBook" "size" "I", .fieldLink RX1 15 "DunningDesk$MessageBook" "keys" "[I"] ++ wsX20 ++ wsX10 ++ (vx_atM "java/lang/ArrayIndexOutOfBoundsException" ["java/lang/IndexOutOfBoundsException", "java/lang/RuntimeException", "java/lang/Exception"]).filter goodWord ++ (yN_atS RX2 92).filter goodWord)
def wsL_state : List Cond := .codeWith yL_state cL_state 4 (some .int) [(0, 9, 12, 21)] :: ([.classLink RL 21 "java/lang/IndexOutOfBoundsException", .methodLink RL 48 yX2_state, .instanceMethod yX2_state, .selects RX2 yX2_state yX2_state, .initialized RX2, .code yX2_state cX2_state 2 (some .char), .fieldLink RX2 19 "DunningDesk" "messages" "LDunningDesk$MessageBook;", .methodLink RX2 130 yX2_requireMessage, .instanceMethod yX2_requireMessage, .selects RX2 yX2_requireMessage yX2_requireMessage, .code yX2_requireMessage cX2_requireMessage 2 none, .classLink RX2 215 "java/lang/IndexOutOfBoundsException", .initialized "java/lang/IndexOutOfBoundsException", .instanceMethod yX1_contains, .initialized RX1, .selects RX1 yX1_contains yX1_contains, .code yX1_contains cX1_contains 2 (some .boolean), .fieldLink RX1 46 "DunningDesk$MessageBook" "size" "I"] ++ wsX20 ++ wsX10 ++ (vx_atM "java/lang/ArrayIndexOutOfBoundsException" ["java/lang/IndexOutOfBoundsException", "java/lang/RuntimeException", "java/lang/Exception"]).filter goodWord ++ (vx_atS RX2 219 "java/lang/IndexOutOfBoundsException" ["java/lang/RuntimeException", "java/lang/Exception"]).filter goodWord)
def wsL_kind : List Cond := .codeWith yL_kind cL_kind 4 (some .int) [(0, 9, 12, 21)] :: ([.classLink RL 21 "java/lang/IndexOutOfBoundsException", .methodLink RL 52 yX2_kind, .instanceMethod yX2_kind, .selects RX2 yX2_kind yX2_kind, .initialized RX2, .code yX2_kind cX2_kind 2 (some .char), .fieldLink RX2 19 "DunningDesk" "messages" "LDunningDesk$MessageBook;", .methodLink RX2 130 yX2_requireMessage, .instanceMethod yX2_requireMessage, .selects RX2 yX2_requireMessage yX2_requireMessage, .code yX2_requireMessage cX2_requireMessage 2 none, .classLink RX2 215 "java/lang/IndexOutOfBoundsException", .initialized "java/lang/IndexOutOfBoundsException", .instanceMethod yX1_contains, .initialized RX1, .selects RX1 yX1_contains yX1_contains, .code yX1_contains cX1_contains 2 (some .boolean), .fieldLink RX1 46 "DunningDesk$MessageBook" "size" "I"] ++ wsX20 ++ wsX10 ++ (vx_atM "java/lang/ArrayIndexOutOfBoundsException" ["java/lang/IndexOutOfBoundsException", "java/lang/RuntimeException", "java/lang/Exception"]).filter goodWord ++ (vx_atS RX2 219 "java/lang/IndexOutOfBoundsException" ["java/lang/RuntimeException", "java/lang/Exception"]).filter goodWord)
def wsL_tries : List Cond := .codeWith yL_tries cL_tries 4 (some .int) [(0, 9, 12, 21)] :: ([.classLink RL 21 "java/lang/IndexOutOfBoundsException", .methodLink RL 55 yX2_tries, .instanceMethod yX2_tries, .selects RX2 yX2_tries yX2_tries, .initialized RX2, .code yX2_tries cX2_tries 2 (some .int), .fieldLink RX2 19 "DunningDesk" "messages" "LDunningDesk$MessageBook;", .methodLink RX2 130 yX2_requireMessage, .instanceMethod yX2_requireMessage, .selects RX2 yX2_requireMessage yX2_requireMessage, .code yX2_requireMessage cX2_requireMessage 2 none, .classLink RX2 215 "java/lang/IndexOutOfBoundsException", .initialized "java/lang/IndexOutOfBoundsException", .instanceMethod yX1_contains, .initialized RX1, .selects RX1 yX1_contains yX1_contains, .code yX1_contains cX1_contains 2 (some .boolean), .fieldLink RX1 46 "DunningDesk$MessageBook" "size" "I"] ++ wsX20 ++ wsX10 ++ (vx_atM "java/lang/ArrayIndexOutOfBoundsException" ["java/lang/IndexOutOfBoundsException", "java/lang/RuntimeException", "java/lang/Exception"]).filter goodWord ++ (vx_atS RX2 219 "java/lang/IndexOutOfBoundsException" ["java/lang/RuntimeException", "java/lang/Exception"]).filter goodWord)
def wsL_readyAt_r1 : List Cond := [Cond.classLink RL 21 "java/lang/IndexOutOfBoundsException", Cond.classLink RL 15 "java/lang/IllegalStateException", Cond.methodLink RL 58 yX2_readyAt, Cond.instanceMethod yX2_readyAt, Cond.selects RX2 yX2_readyAt yX2_readyAt, Cond.initialized RX2, Cond.code yX2_readyAt cX2_readyAt 2 (some .int), Cond.fieldLink RX2 19 "DunningDesk" "messages" "LDunningDesk$MessageBook;", Cond.methodLink RX2 130 yX2_requireMessage, Cond.instanceMethod yX2_requireMessage, Cond.selects RX2 yX2_requireMessage yX2_requireMessage, Cond.code yX2_requireMessage cX2_requireMessage 2 none, Cond.classLink RX2 215 "java/lang/IndexOutOfBoundsException", Cond.initialized "java/lang/IndexOutOfBoundsException", Cond.instanceMethod yX1_contains, Cond.initialized RX1, Cond.selects RX1 yX1_contains yX1_contains, Cond.code yX1_contains cX1_contains 2 (some .boolean), Cond.fieldLink RX1 46 "DunningDesk$MessageBook" "size" "I", Cond.methodLink RX2 139 yX2_requireState, Cond.instanceMethod yX2_requireState, Cond.selects RX2 yX2_requireState yX2_requireState, Cond.code yX2_requireState cX2_requireState 3 none, Cond.classLink RX2 42 "java/lang/IllegalStateException"]
def wsL_readyAt_r2 : List Cond := [Cond.initialized "java/lang/IllegalStateException"]
def wsL_readyAt : List Cond := .codeWith yL_readyAt cL_readyAt 4 (some .int) [(0, 9, 12, 21), (0, 9, 15, 15)] :: ((wsL_readyAt_r1 ++ wsL_readyAt_r2) ++ wsX20 ++ wsX10 ++ (vx_atM "java/lang/ArrayIndexOutOfBoundsException" ["java/lang/IndexOutOfBoundsException", "java/lang/RuntimeException", "java/lang/Exception"]).filter goodWord ++ (vx_atS RX2 219 "java/lang/IndexOutOfBoundsException" ["java/lang/RuntimeException", "java/lang/Exception"]).filter goodWord ++ (vx_atS RX2 46 "java/lang/IllegalStateException" ["java/lang/RuntimeException", "java/lang/Exception"]).filter goodWord)
def wsL_ready_r1 : List Cond := [Cond.classLink RL 13 "java/lang/IllegalArgumentException", Cond.methodLink RL 61 yX2_ready, Cond.instanceMethod yX2_ready, Cond.selects RX2 yX2_ready yX2_ready, Cond.initialized RX2, Cond.code yX2_ready cX2_ready 2 (some .int), Cond.fieldLink RX2 19 "DunningDesk" "messages" "LDunningDesk$MessageBook;", Cond.fieldLink RX2 23 "DunningDesk" "today" "I", Cond.methodLink RX2 105 yX2_requireQueue, Cond.static yX2_requireQueue, Cond.code yX2_requireQueue cX2_requireQueue 1 none, Cond.classLink RX2 31 "java/lang/IllegalArgumentException", Cond.initialized "java/lang/IllegalArgumentException", Cond.methodLink RX2 27 yX2_isWithin, Cond.static yX2_isWithin, Cond.code yX2_isWithin cX2_isWithin 3 (some .boolean), Cond.instanceMethod yX1_countReady, Cond.initialized RX1, Cond.selects RX1 yX1_countReady yX1_countReady, Cond.code yX1_countReady cX1_countReady 5 (some .int), Cond.fieldLink RX1 46 "DunningDesk$MessageBook" "size" "I", Cond.methodLink RX1 56 yX1_isReady, Cond.instanceMethod yX1_isReady, Cond.selects RX1 yX1_isReady yX1_isReady]
def wsL_ready_r2 : List Cond := [Cond.code yX1_isReady cX1_isReady 4 (some .boolean), Cond.fieldLink RX1 9 "DunningDesk$MessageBook" "queues" "[I", Cond.fieldLink RX1 28 "DunningDesk$MessageBook" "states" "[C", Cond.fieldLink RX1 31 "DunningDesk$MessageBook" "readyDays" "[I"]
def wsL_ready : List Cond := .codeWith yL_ready cL_ready 4 (some .int) [(0, 9, 12, 13)] :: ((wsL_ready_r1 ++ wsL_ready_r2) ++ wsX20 ++ wsX10 ++ (vx_atM "java/lang/ArrayIndexOutOfBoundsException" ["java/lang/IndexOutOfBoundsException", "java/lang/RuntimeException", "java/lang/Exception"]).filter goodWord ++ (vx_atS RX2 35 "java/lang/IllegalArgumentException" ["java/lang/RuntimeException", "java/lang/Exception"]).filter goodWord)
def wsL_readyAtPlace_r1 : List Cond := [Cond.classLink RL 13 "java/lang/IllegalArgumentException", Cond.classLink RL 39 "java/util/NoSuchElementException", Cond.methodLink RL 64 yX2_readyAtPlace, Cond.instanceMethod yX2_readyAtPlace, Cond.selects RX2 yX2_readyAtPlace yX2_readyAtPlace, Cond.initialized RX2, Cond.code yX2_readyAtPlace cX2_readyAtPlace 5 (some .int), Cond.classLink RX2 88 "java/util/NoSuchElementException", Cond.initialized "java/util/NoSuchElementException", Cond.fieldLink RX2 19 "DunningDesk" "messages" "LDunningDesk$MessageBook;", Cond.fieldLink RX2 23 "DunningDesk" "today" "I", Cond.methodLink RX2 105 yX2_requireQueue, Cond.static yX2_requireQueue, Cond.code yX2_requireQueue cX2_requireQueue 1 none, Cond.classLink RX2 31 "java/lang/IllegalArgumentException", Cond.initialized "java/lang/IllegalArgumentException", Cond.methodLink RX2 27 yX2_isWithin, Cond.static yX2_isWithin, Cond.code yX2_isWithin cX2_isWithin 3 (some .boolean), Cond.instanceMethod yX1_countReady, Cond.initialized RX1, Cond.selects RX1 yX1_countReady yX1_countReady, Cond.code yX1_countReady cX1_countReady 5 (some .int), Cond.fieldLink RX1 46 "DunningDesk$MessageBook" "size" "I"]
def wsL_readyAtPlace_r2 : List Cond := [Cond.methodLink RX1 56 yX1_isReady, Cond.instanceMethod yX1_isReady, Cond.selects RX1 yX1_isReady yX1_isReady, Cond.code yX1_isReady cX1_isReady 4 (some .boolean), Cond.fieldLink RX1 9 "DunningDesk$MessageBook" "queues" "[I", Cond.fieldLink RX1 28 "DunningDesk$MessageBook" "states" "[C", Cond.fieldLink RX1 31 "DunningDesk$MessageBook" "readyDays" "[I", Cond.instanceMethod yX1_nextReady, Cond.selects RX1 yX1_nextReady yX1_nextReady, Cond.code yX1_nextReady cX1_nextReady 6 (some .int), Cond.methodLink RX1 60 yX1_goesBefore, Cond.instanceMethod yX1_goesBefore, Cond.selects RX1 yX1_goesBefore yX1_goesBefore, Cond.code yX1_goesBefore cX1_goesBefore 3 (some .boolean)]
def wsL_readyAtPlace : List Cond := .codeWith yL_readyAtPlace cL_readyAtPlace 5 (some .int) [(0, 10, 13, 13), (0, 10, 17, 39)] :: ((wsL_readyAtPlace_r1 ++ wsL_readyAtPlace_r2) ++ wsX20 ++ wsX10 ++ (vx_atM "java/lang/ArrayIndexOutOfBoundsException" ["java/lang/IndexOutOfBoundsException", "java/lang/RuntimeException", "java/lang/Exception"]).filter goodWord ++ (yN_atS RX2 92).filter goodWord ++ (vx_atS RX2 35 "java/lang/IllegalArgumentException" ["java/lang/RuntimeException", "java/lang/Exception"]).filter goodWord)
def wsL_take_r1 : List Cond := [Cond.classLink RL 13 "java/lang/IllegalArgumentException", Cond.classLink RL 15 "java/lang/IllegalStateException", Cond.classLink RL 39 "java/util/NoSuchElementException", Cond.methodLink RL 67 yX2_take, Cond.instanceMethod yX2_take, Cond.selects RX2 yX2_take yX2_take, Cond.initialized RX2, Cond.code yX2_take cX2_take 4 (some .int), Cond.classLink RX2 42 "java/lang/IllegalStateException", Cond.initialized "java/lang/IllegalStateException", Cond.classLink RX2 88 "java/util/NoSuchElementException", Cond.initialized "java/util/NoSuchElementException", Cond.fieldLink RX2 19 "DunningDesk" "messages" "LDunningDesk$MessageBook;", Cond.fieldLink RX2 23 "DunningDesk" "today" "I", Cond.methodLink RX2 155 yX2_requireClerk, Cond.static yX2_requireClerk, Cond.code yX2_requireClerk cX2_requireClerk 1 none, Cond.classLink RX2 31 "java/lang/IllegalArgumentException", Cond.initialized "java/lang/IllegalArgumentException", Cond.methodLink RX2 27 yX2_isWithin, Cond.static yX2_isWithin, Cond.code yX2_isWithin cX2_isWithin 3 (some .boolean), Cond.methodLink RX2 105 yX2_requireQueue, Cond.static yX2_requireQueue]
def wsL_take_r2 : List Cond := [Cond.code yX2_requireQueue cX2_requireQueue 1 none, Cond.instanceMethod yX1_countTakenBy, Cond.initialized RX1, Cond.selects RX1 yX1_countTakenBy yX1_countTakenBy, Cond.code yX1_countTakenBy cX1_countTakenBy 4 (some .int), Cond.fieldLink RX1 46 "DunningDesk$MessageBook" "size" "I", Cond.fieldLink RX1 28 "DunningDesk$MessageBook" "states" "[C", Cond.fieldLink RX1 37 "DunningDesk$MessageBook" "takers" "[I", Cond.instanceMethod yX1_nextReady, Cond.selects RX1 yX1_nextReady yX1_nextReady, Cond.code yX1_nextReady cX1_nextReady 6 (some .int), Cond.methodLink RX1 56 yX1_isReady, Cond.instanceMethod yX1_isReady, Cond.selects RX1 yX1_isReady yX1_isReady, Cond.code yX1_isReady cX1_isReady 4 (some .boolean), Cond.fieldLink RX1 9 "DunningDesk$MessageBook" "queues" "[I", Cond.fieldLink RX1 31 "DunningDesk$MessageBook" "readyDays" "[I", Cond.methodLink RX1 60 yX1_goesBefore, Cond.instanceMethod yX1_goesBefore, Cond.selects RX1 yX1_goesBefore yX1_goesBefore, Cond.code yX1_goesBefore cX1_goesBefore 3 (some .boolean), Cond.instanceMethod yX1_giveTo, Cond.selects RX1 yX1_giveTo yX1_giveTo, Cond.code yX1_giveTo cX1_giveTo 4 none]
def wsL_take_r3 : List Cond := [Cond.fieldLink RX1 40 "DunningDesk$MessageBook" "takenDays" "[I"]
def wsL_take : List Cond := .codeWith yL_take cL_take 5 (some .int) [(0, 10, 13, 13), (0, 10, 17, 15), (0, 10, 21, 39)] :: ((wsL_take_r1 ++ (wsL_take_r2 ++ wsL_take_r3)) ++ wsX20 ++ wsX10 ++ (vx_atM "java/lang/ArrayIndexOutOfBoundsException" ["java/lang/IndexOutOfBoundsException", "java/lang/RuntimeException", "java/lang/Exception"]).filter goodWord ++ (vx_atS RX2 46 "java/lang/IllegalStateException" ["java/lang/RuntimeException", "java/lang/Exception"]).filter goodWord ++ (yN_atS RX2 92).filter goodWord ++ (vx_atS RX2 35 "java/lang/IllegalArgumentException" ["java/lang/RuntimeException", "java/lang/Exception"]).filter goodWord)
def wsL_finish_r1 : List Cond := [Cond.classLink RL 21 "java/lang/IndexOutOfBoundsException", Cond.classLink RL 15 "java/lang/IllegalStateException", Cond.methodLink RL 70 yX2_finish, Cond.instanceMethod yX2_finish, Cond.selects RX2 yX2_finish yX2_finish, Cond.initialized RX2, Cond.code yX2_finish cX2_finish 2 (some .boolean), Cond.fieldLink RX2 19 "DunningDesk" "messages" "LDunningDesk$MessageBook;", Cond.methodLink RX2 130 yX2_requireMessage, Cond.instanceMethod yX2_requireMessage, Cond.selects RX2 yX2_requireMessage yX2_requireMessage, Cond.code yX2_requireMessage cX2_requireMessage 2 none, Cond.classLink RX2 215 "java/lang/IndexOutOfBoundsException", Cond.initialized "java/lang/IndexOutOfBoundsException", Cond.instanceMethod yX1_contains, Cond.initialized RX1, Cond.selects RX1 yX1_contains yX1_contains, Cond.code yX1_contains cX1_contains 2 (some .boolean), Cond.fieldLink RX1 46 "DunningDesk$MessageBook" "size" "I", Cond.methodLink RX2 139 yX2_requireState, Cond.instanceMethod yX2_requireState, Cond.selects RX2 yX2_requireState yX2_requireState, Cond.code yX2_requireState cX2_requireState 3 none, Cond.classLink RX2 42 "java/lang/IllegalStateException"]
def wsL_finish_r2 : List Cond := [Cond.initialized "java/lang/IllegalStateException", Cond.instanceMethod yX1_close, Cond.selects RX1 yX1_close yX1_close, Cond.code yX1_close cX1_close 2 none, Cond.fieldLink RX1 28 "DunningDesk$MessageBook" "states" "[C", Cond.fieldLink RX1 64 "DunningDesk$MessageBook" "doneSize" "I", Cond.fieldLink RX1 43 "DunningDesk$MessageBook" "doneOrder" "[I", Cond.methodLink RX2 172 yX2_settle, Cond.instanceMethod yX2_settle, Cond.selects RX2 yX2_settle yX2_settle, Cond.code yX2_settle cX2_settle 5 (some .boolean), Cond.fieldLink RX2 10 "DunningDesk" "cases" "LDunningDesk$CaseBook;", Cond.instanceMethod yX0_contains, Cond.initialized RX0, Cond.selects RX0 yX0_contains yX0_contains, Cond.code yX0_contains cX0_contains 2 (some .boolean), Cond.fieldLink RX0 31 "DunningDesk$CaseBook" "size" "I", Cond.instanceMethod yX0_pay, Cond.selects RX0 yX0_pay yX0_pay, Cond.code yX0_pay cX0_pay 4 (some .boolean), Cond.fieldLink RX0 15 "DunningDesk$CaseBook" "amounts" "[I", Cond.methodLink RX0 35 Lib.Math.max.name, Cond.static Lib.Math.max.name, Cond.initialized "java/lang/Math"]
def wsL_finish_r3 : List Cond := [Cond.code Lib.Math.max.name Lib.Math.max.code 2 (some .int), Cond.instanceMethod yX0_endWait, Cond.selects RX0 yX0_endWait yX0_endWait, Cond.code yX0_endWait cX0_endWait 3 (some .boolean), Cond.fieldLink RX0 27 "DunningDesk$CaseBook" "awaitsNote" "[Z", Cond.instanceMethod yX0_sendLetter, Cond.selects RX0 yX0_sendLetter yX0_sendLetter, Cond.code yX0_sendLetter cX0_sendLetter 3 (some .boolean), Cond.fieldLink RX0 21 "DunningDesk$CaseBook" "lettersSent" "[I", Cond.methodLink RX0 41 yX0_isOpen, Cond.instanceMethod yX0_isOpen, Cond.selects RX0 yX0_isOpen yX0_isOpen, Cond.code yX0_isOpen cX0_isOpen 2 (some .boolean)]
def wsL_finish : List Cond := .codeWith yL_finish cL_finish 4 (some .int) [(0, 16, 19, 21), (0, 16, 22, 15)] :: ((wsL_finish_r1 ++ (wsL_finish_r2 ++ wsL_finish_r3)) ++ wsX20 ++ wsX10 ++ wsX00 ++ (vx_atM "java/lang/ArrayIndexOutOfBoundsException" ["java/lang/IndexOutOfBoundsException", "java/lang/RuntimeException", "java/lang/Exception"]).filter goodWord ++ (vx_atS RX2 219 "java/lang/IndexOutOfBoundsException" ["java/lang/RuntimeException", "java/lang/Exception"]).filter goodWord ++ (vx_atS RX2 46 "java/lang/IllegalStateException" ["java/lang/RuntimeException", "java/lang/Exception"]).filter goodWord)
def wsL_handBack_r1 : List Cond := [Cond.classLink RL 21 "java/lang/IndexOutOfBoundsException", Cond.classLink RL 15 "java/lang/IllegalStateException", Cond.methodLink RL 73 yX2_handBack, Cond.instanceMethod yX2_handBack, Cond.selects RX2 yX2_handBack yX2_handBack, Cond.initialized RX2, Cond.code yX2_handBack cX2_handBack 2 (some .int), Cond.fieldLink RX2 19 "DunningDesk" "messages" "LDunningDesk$MessageBook;", Cond.fieldLink RX2 23 "DunningDesk" "today" "I", Cond.methodLink RX2 130 yX2_requireMessage, Cond.instanceMethod yX2_requireMessage, Cond.selects RX2 yX2_requireMessage yX2_requireMessage, Cond.code yX2_requireMessage cX2_requireMessage 2 none, Cond.classLink RX2 215 "java/lang/IndexOutOfBoundsException", Cond.initialized "java/lang/IndexOutOfBoundsException", Cond.instanceMethod yX1_contains, Cond.initialized RX1, Cond.selects RX1 yX1_contains yX1_contains, Cond.code yX1_contains cX1_contains 2 (some .boolean), Cond.fieldLink RX1 46 "DunningDesk$MessageBook" "size" "I", Cond.methodLink RX2 139 yX2_requireState, Cond.instanceMethod yX2_requireState, Cond.selects RX2 yX2_requireState yX2_requireState, Cond.code yX2_requireState cX2_requireState 3 none]
def wsL_handBack_r2 : List Cond := [Cond.classLink RX2 42 "java/lang/IllegalStateException", Cond.initialized "java/lang/IllegalStateException", Cond.instanceMethod yX1_putBack, Cond.selects RX1 yX1_putBack yX1_putBack, Cond.code yX1_putBack cX1_putBack 3 none, Cond.fieldLink RX1 34 "DunningDesk$MessageBook" "triesMade" "[I", Cond.fieldLink RX1 28 "DunningDesk$MessageBook" "states" "[C", Cond.fieldLink RX1 31 "DunningDesk$MessageBook" "readyDays" "[I"]
def wsL_handBack : List Cond := .codeWith yL_handBack cL_handBack 4 (some .int) [(0, 9, 12, 21), (0, 9, 15, 15)] :: ((wsL_handBack_r1 ++ wsL_handBack_r2) ++ wsX20 ++ wsX10 ++ (vx_atM "java/lang/ArrayIndexOutOfBoundsException" ["java/lang/IndexOutOfBoundsException", "java/lang/RuntimeException", "java/lang/Exception"]).filter goodWord ++ (vx_atS RX2 219 "java/lang/IndexOutOfBoundsException" ["java/lang/RuntimeException", "java/lang/Exception"]).filter goodWord ++ (vx_atS RX2 46 "java/lang/IllegalStateException" ["java/lang/RuntimeException", "java/lang/Exception"]).filter goodWord)
def wsL_revive_r1 : List Cond := [Cond.classLink RL 21 "java/lang/IndexOutOfBoundsException", Cond.classLink RL 15 "java/lang/IllegalStateException", Cond.methodLink RL 76 yX2_revive, Cond.instanceMethod yX2_revive, Cond.selects RX2 yX2_revive yX2_revive, Cond.initialized RX2, Cond.code yX2_revive cX2_revive 2 (some .int), Cond.fieldLink RX2 19 "DunningDesk" "messages" "LDunningDesk$MessageBook;", Cond.fieldLink RX2 23 "DunningDesk" "today" "I", Cond.methodLink RX2 130 yX2_requireMessage, Cond.instanceMethod yX2_requireMessage, Cond.selects RX2 yX2_requireMessage yX2_requireMessage, Cond.code yX2_requireMessage cX2_requireMessage 2 none, Cond.classLink RX2 215 "java/lang/IndexOutOfBoundsException", Cond.initialized "java/lang/IndexOutOfBoundsException", Cond.instanceMethod yX1_contains, Cond.initialized RX1, Cond.selects RX1 yX1_contains yX1_contains, Cond.code yX1_contains cX1_contains 2 (some .boolean), Cond.fieldLink RX1 46 "DunningDesk$MessageBook" "size" "I", Cond.methodLink RX2 139 yX2_requireState, Cond.instanceMethod yX2_requireState, Cond.selects RX2 yX2_requireState yX2_requireState, Cond.code yX2_requireState cX2_requireState 3 none]
def wsL_revive_r2 : List Cond := [Cond.classLink RX2 42 "java/lang/IllegalStateException", Cond.initialized "java/lang/IllegalStateException", Cond.instanceMethod yX1_wake, Cond.selects RX1 yX1_wake yX1_wake, Cond.code yX1_wake cX1_wake 3 none, Cond.fieldLink RX1 28 "DunningDesk$MessageBook" "states" "[C", Cond.fieldLink RX1 31 "DunningDesk$MessageBook" "readyDays" "[I", Cond.fieldLink RX1 34 "DunningDesk$MessageBook" "triesMade" "[I", Cond.instanceMethod yX1_countIn, Cond.selects RX1 yX1_countIn yX1_countIn, Cond.code yX1_countIn cX1_countIn 4 (some .int)]
def wsL_revive : List Cond := .codeWith yL_revive cL_revive 4 (some .int) [(0, 9, 12, 21), (0, 9, 15, 15)] :: ((wsL_revive_r1 ++ wsL_revive_r2) ++ wsX20 ++ wsX10 ++ (vx_atM "java/lang/ArrayIndexOutOfBoundsException" ["java/lang/IndexOutOfBoundsException", "java/lang/RuntimeException", "java/lang/Exception"]).filter goodWord ++ (vx_atS RX2 219 "java/lang/IndexOutOfBoundsException" ["java/lang/RuntimeException", "java/lang/Exception"]).filter goodWord ++ (vx_atS RX2 46 "java/lang/IllegalStateException" ["java/lang/RuntimeException", "java/lang/Exception"]).filter goodWord)
def wsL_clerk : List Cond := .codeWith yL_clerk cL_clerk 4 (some .int) [(0, 9, 12, 21), (0, 9, 15, 39)] :: ([.classLink RL 21 "java/lang/IndexOutOfBoundsException", .classLink RL 39 "java/util/NoSuchElementException", .methodLink RL 79 yX2_clerk, .instanceMethod yX2_clerk, .selects RX2 yX2_clerk yX2_clerk, .initialized RX2, .code yX2_clerk cX2_clerk 2 (some .int), .classLink RX2 88 "java/util/NoSuchElementException", .initialized "java/util/NoSuchElementException", .fieldLink RX2 19 "DunningDesk" "messages" "LDunningDesk$MessageBook;", .methodLink RX2 130 yX2_requireMessage, .instanceMethod yX2_requireMessage, .selects RX2 yX2_requireMessage yX2_requireMessage, .code yX2_requireMessage cX2_requireMessage 2 none, .classLink RX2 215 "java/lang/IndexOutOfBoundsException", .initialized "java/lang/IndexOutOfBoundsException", .instanceMethod yX1_contains, .initialized RX1, .selects RX1 yX1_contains yX1_contains, .code yX1_contains cX1_contains 2 (some .boolean), .fieldLink RX1 46 "DunningDesk$MessageBook" "size" "I"] ++ wsX20 ++ wsX10 ++ (vx_atM "java/lang/ArrayIndexOutOfBoundsException" ["java/lang/IndexOutOfBoundsException", "java/lang/RuntimeException", "java/lang/Exception"]).filter goodWord ++ (yN_atS RX2 92).filter goodWord ++ (vx_atS RX2 219 "java/lang/IndexOutOfBoundsException" ["java/lang/RuntimeException", "java/lang/Exception"]).filter goodWord)
def wsL_has : List Cond := .codeWith yL_has cL_has 4 (some .int) [(0, 9, 12, 13)] :: ([.classLink RL 13 "java/lang/IllegalArgumentException", .methodLink RL 82 yX2_has, .instanceMethod yX2_has, .selects RX2 yX2_has yX2_has, .initialized RX2, .code yX2_has cX2_has 2 (some .int), .fieldLink RX2 19 "DunningDesk" "messages" "LDunningDesk$MessageBook;", .methodLink RX2 155 yX2_requireClerk, .static yX2_requireClerk, .code yX2_requireClerk cX2_requireClerk 1 none, .classLink RX2 31 "java/lang/IllegalArgumentException", .initialized "java/lang/IllegalArgumentException", .methodLink RX2 27 yX2_isWithin, .static yX2_isWithin, .code yX2_isWithin cX2_isWithin 3 (some .boolean), .instanceMethod yX1_countTakenBy, .initialized RX1, .selects RX1 yX1_countTakenBy yX1_countTakenBy, .code yX1_countTakenBy cX1_countTakenBy 4 (some .int), .fieldLink RX1 46 "DunningDesk$MessageBook" "size" "I", .fieldLink RX1 28 "DunningDesk$MessageBook" "states" "[C", .fieldLink RX1 37 "DunningDesk$MessageBook" "takers" "[I"] ++ wsX20 ++ wsX10 ++ (vx_atM "java/lang/ArrayIndexOutOfBoundsException" ["java/lang/IndexOutOfBoundsException", "java/lang/RuntimeException", "java/lang/Exception"]).filter goodWord ++ (vx_atS RX2 35 "java/lang/IllegalArgumentException" ["java/lang/RuntimeException", "java/lang/Exception"]).filter goodWord)
def wsL_pass_r1 : List Cond := [Cond.classLink RL 13 "java/lang/IllegalArgumentException", Cond.methodLink RL 85 yX2_pass, Cond.instanceMethod yX2_pass, Cond.selects RX2 yX2_pass yX2_pass, Cond.initialized RX2, Cond.code yX2_pass cX2_pass 4 (some .int), Cond.classLink RX2 31 "java/lang/IllegalArgumentException", Cond.initialized "java/lang/IllegalArgumentException", Cond.fieldLink RX2 23 "DunningDesk" "today" "I", Cond.fieldLink RX2 19 "DunningDesk" "messages" "LDunningDesk$MessageBook;", Cond.methodLink RX2 27 yX2_isWithin, Cond.static yX2_isWithin, Cond.code yX2_isWithin cX2_isWithin 3 (some .boolean), Cond.instanceMethod yX1_putBackTakenUntil, Cond.initialized RX1, Cond.selects RX1 yX1_putBackTakenUntil yX1_putBackTakenUntil, Cond.code yX1_putBackTakenUntil cX1_putBackTakenUntil 4 none, Cond.fieldLink RX1 46 "DunningDesk$MessageBook" "size" "I", Cond.fieldLink RX1 28 "DunningDesk$MessageBook" "states" "[C", Cond.fieldLink RX1 40 "DunningDesk$MessageBook" "takenDays" "[I", Cond.methodLink RX1 67 yX1_putBack, Cond.instanceMethod yX1_putBack, Cond.selects RX1 yX1_putBack yX1_putBack, Cond.code yX1_putBack cX1_putBack 3 none]
def wsL_pass_r2 : List Cond := [Cond.fieldLink RX1 34 "DunningDesk$MessageBook" "triesMade" "[I", Cond.fieldLink RX1 31 "DunningDesk$MessageBook" "readyDays" "[I", Cond.methodLink RX2 193 yX2_postReminders, Cond.instanceMethod yX2_postReminders, Cond.selects RX2 yX2_postReminders yX2_postReminders, Cond.code yX2_postReminders cX2_postReminders 4 (some .int), Cond.fieldLink RX2 10 "DunningDesk" "cases" "LDunningDesk$CaseBook;", Cond.instanceMethod yX1_isFull, Cond.selects RX1 yX1_isFull yX1_isFull, Cond.code yX1_isFull cX1_isFull 1 (some .boolean), Cond.methodLink RX2 254 yX2_isReminderDue, Cond.instanceMethod yX2_isReminderDue, Cond.selects RX2 yX2_isReminderDue yX2_isReminderDue, Cond.code yX2_isReminderDue cX2_isReminderDue 2 (some .boolean), Cond.methodLink RX2 84 yX2_isAnyReminderLeft, Cond.instanceMethod yX2_isAnyReminderLeft, Cond.selects RX2 yX2_isAnyReminderLeft yX2_isAnyReminderLeft, Cond.code yX2_isAnyReminderLeft cX2_isAnyReminderLeft 3 (some .boolean), Cond.instanceMethod yX0_isOpen, Cond.initialized RX0, Cond.selects RX0 yX0_isOpen yX0_isOpen, Cond.code yX0_isOpen cX0_isOpen 2 (some .boolean), Cond.fieldLink RX0 15 "DunningDesk$CaseBook" "amounts" "[I", Cond.methodLink RX2 250 yX2_reminderKey]
def wsL_pass_r3 : List Cond := [Cond.static yX2_reminderKey, Cond.code yX2_reminderKey cX2_reminderKey 2 (some .int), Cond.instanceMethod yX1_find, Cond.selects RX1 yX1_find yX1_find, Cond.code yX1_find cX1_find 3 (some .int), Cond.fieldLink RX1 15 "DunningDesk$MessageBook" "keys" "[I", Cond.instanceMethod yX0_reminderDay, Cond.selects RX0 yX0_reminderDay yX0_reminderDay, Cond.code yX0_reminderDay cX0_reminderDay 2 (some .int), Cond.fieldLink RX0 18 "DunningDesk$CaseBook" "dueDays" "[I", Cond.fieldLink RX0 21 "DunningDesk$CaseBook" "lettersSent" "[I", Cond.instanceMethod yX1_add, Cond.selects RX1 yX1_add yX1_add, Cond.code yX1_add cX1_add 8 (some .int), Cond.fieldLink RX1 9 "DunningDesk$MessageBook" "queues" "[I", Cond.fieldLink RX1 18 "DunningDesk$MessageBook" "kinds" "[C", Cond.fieldLink RX1 22 "DunningDesk$MessageBook" "caseNumbers" "[I", Cond.fieldLink RX1 25 "DunningDesk$MessageBook" "contents" "[I"]
def wsL_pass : List Cond := .codeWith yL_pass cL_pass 4 (some .int) [(0, 9, 12, 13)] :: ((wsL_pass_r1 ++ (wsL_pass_r2 ++ wsL_pass_r3)) ++ wsX20 ++ wsX10 ++ wsX00 ++ (vx_atM "java/lang/ArrayIndexOutOfBoundsException" ["java/lang/IndexOutOfBoundsException", "java/lang/RuntimeException", "java/lang/Exception"]).filter goodWord ++ (vx_atS RX2 35 "java/lang/IllegalArgumentException" ["java/lang/RuntimeException", "java/lang/Exception"]).filter goodWord)
def wsL_count : List Cond := .codeWith yL_count cL_count 4 (some .int) [(0, 9, 12, 13)] :: ([.classLink RL 13 "java/lang/IllegalArgumentException", .methodLink RL 88 yX2_count, .instanceMethod yX2_count, .selects RX2 yX2_count yX2_count, .initialized RX2, .code yX2_count cX2_count 2 (some .int), .classLink RX2 31 "java/lang/IllegalArgumentException", .initialized "java/lang/IllegalArgumentException", .fieldLink RX2 19 "DunningDesk" "messages" "LDunningDesk$MessageBook;", .instanceMethod yX1_countIn, .initialized RX1, .selects RX1 yX1_countIn yX1_countIn, .code yX1_countIn cX1_countIn 4 (some .int), .fieldLink RX1 46 "DunningDesk$MessageBook" "size" "I", .fieldLink RX1 28 "DunningDesk$MessageBook" "states" "[C"] ++ wsX20 ++ wsX10 ++ (vx_atM "java/lang/ArrayIndexOutOfBoundsException" ["java/lang/IndexOutOfBoundsException", "java/lang/RuntimeException", "java/lang/Exception"]).filter goodWord ++ (vx_atS RX2 35 "java/lang/IllegalArgumentException" ["java/lang/RuntimeException", "java/lang/Exception"]).filter goodWord)
def wsL_doneShare : List Cond := .codeWith yL_doneShare cL_doneShare 3 (some .int) [(0, 8, 11, 96)] :: ([.classLink RL 96 "java/lang/ArithmeticException", .methodLink RL 92 yX2_doneShare, .instanceMethod yX2_doneShare, .selects RX2 yX2_doneShare yX2_doneShare, .initialized RX2, .code yX2_doneShare cX2_doneShare 1 (some .float), .classLink RX2 202 "java/lang/ArithmeticException", .initialized "java/lang/ArithmeticException", .fieldLink RX2 19 "DunningDesk" "messages" "LDunningDesk$MessageBook;", .instanceMethod yX1_countIn, .initialized RX1, .selects RX1 yX1_countIn yX1_countIn, .code yX1_countIn cX1_countIn 4 (some .int), .fieldLink RX1 46 "DunningDesk$MessageBook" "size" "I", .fieldLink RX1 28 "DunningDesk$MessageBook" "states" "[C"] ++ wsX20 ++ wsX10 ++ (vx_atM "java/lang/ArrayIndexOutOfBoundsException" ["java/lang/IndexOutOfBoundsException", "java/lang/RuntimeException", "java/lang/Exception"]).filter goodWord ++ (vx_atS RX2 206 "java/lang/ArithmeticException" ["java/lang/RuntimeException", "java/lang/Exception"]).filter goodWord)
def wsL_meanAmount : List Cond := .codeWith yL_meanAmount cL_meanAmount 3 (some .int) [(0, 7, 10, 96)] :: ([.classLink RL 96 "java/lang/ArithmeticException", .methodLink RL 98 yX2_meanAmount, .instanceMethod yX2_meanAmount, .selects RX2 yX2_meanAmount yX2_meanAmount, .initialized RX2, .code yX2_meanAmount cX2_meanAmount 2 (some .double), .classLink RX2 202 "java/lang/ArithmeticException", .initialized "java/lang/ArithmeticException", .fieldLink RX2 10 "DunningDesk" "cases" "LDunningDesk$CaseBook;", .instanceMethod yX0_countOpen, .initialized RX0, .selects RX0 yX0_countOpen yX0_countOpen, .code yX0_countOpen cX0_countOpen 3 (some .int), .fieldLink RX0 31 "DunningDesk$CaseBook" "size" "I", .methodLink RX0 41 yX0_isOpen, .instanceMethod yX0_isOpen, .selects RX0 yX0_isOpen yX0_isOpen, .code yX0_isOpen cX0_isOpen 2 (some .boolean), .fieldLink RX0 15 "DunningDesk$CaseBook" "amounts" "[I", .instanceMethod yX0_sumOfAmounts, .selects RX0 yX0_sumOfAmounts yX0_sumOfAmounts, .code yX0_sumOfAmounts cX0_sumOfAmounts 3 (some .int)] ++ wsX20 ++ wsX00 ++ (vx_atM "java/lang/ArrayIndexOutOfBoundsException" ["java/lang/IndexOutOfBoundsException", "java/lang/RuntimeException", "java/lang/Exception"]).filter goodWord ++ (vx_atS RX2 206 "java/lang/ArithmeticException" ["java/lang/RuntimeException", "java/lang/Exception"]).filter goodWord)
def wsL_law0_r1 : List Cond := [Cond.classLink RL 8 RX2, Cond.instantiable RX2 3, Cond.initialized RX2, Cond.classLink RL 103 RX3, Cond.instantiable RX3 19, Cond.initialized RX3, Cond.arrayClass .long, Cond.arrayClass .double, Cond.methodLink RL 102 yX2_init, Cond.instanceMethod yX2_init, Cond.code yX2_init cX2_init 1 none, Cond.methodLink RX2 1 objectInit, Cond.instanceMethod objectInit, Cond.code objectInit ⟨#[0xb1]⟩ 1 none, Cond.classLink RX2 7 RX0, Cond.instantiable RX0 7, Cond.initialized RX0, Cond.fieldLink RX2 10 "DunningDesk" "cases" "LDunningDesk$CaseBook;", Cond.classLink RX2 16 RX1, Cond.instantiable RX1 13, Cond.initialized RX1, Cond.fieldLink RX2 19 "DunningDesk" "messages" "LDunningDesk$MessageBook;", Cond.fieldLink RX2 23 "DunningDesk" "today" "I", Cond.instanceMethod yX0_init]
def wsL_law0_r2 : List Cond := [Cond.code yX0_init cX0_init 1 none, Cond.methodLink RX0 3 objectInit, Cond.arrayClass .int, Cond.fieldLink RX0 9 "DunningDesk$CaseBook" "firstAmounts" "[I", Cond.fieldLink RX0 15 "DunningDesk$CaseBook" "amounts" "[I", Cond.fieldLink RX0 18 "DunningDesk$CaseBook" "dueDays" "[I", Cond.fieldLink RX0 21 "DunningDesk$CaseBook" "lettersSent" "[I", Cond.fieldLink RX0 24 "DunningDesk$CaseBook" "pauseEnds" "[I", Cond.arrayClass .boolean, Cond.fieldLink RX0 27 "DunningDesk$CaseBook" "awaitsNote" "[Z", Cond.instanceMethod yX1_init, Cond.code yX1_init cX1_init 1 none, Cond.methodLink RX1 3 objectInit, Cond.fieldLink RX1 9 "DunningDesk$MessageBook" "queues" "[I", Cond.fieldLink RX1 15 "DunningDesk$MessageBook" "keys" "[I", Cond.arrayClass .char, Cond.fieldLink RX1 18 "DunningDesk$MessageBook" "kinds" "[C", Cond.fieldLink RX1 22 "DunningDesk$MessageBook" "caseNumbers" "[I", Cond.fieldLink RX1 25 "DunningDesk$MessageBook" "contents" "[I", Cond.fieldLink RX1 28 "DunningDesk$MessageBook" "states" "[C", Cond.fieldLink RX1 31 "DunningDesk$MessageBook" "readyDays" "[I", Cond.fieldLink RX1 34 "DunningDesk$MessageBook" "triesMade" "[I", Cond.fieldLink RX1 37 "DunningDesk$MessageBook" "takers" "[I", Cond.fieldLink RX1 40 "DunningDesk$MessageBook" "takenDays" "[I"]
def wsL_law0_r3 : List Cond := [Cond.fieldLink RX1 43 "DunningDesk$MessageBook" "doneOrder" "[I", Cond.methodLink RL 105 yX3_init, Cond.instanceMethod yX3_init, Cond.code yX3_init cX3_init 1 none, Cond.methodLink RX3 1 objectInit, Cond.fieldLink RX3 9 "DunningDeskModel" "amounts" "[I", Cond.fieldLink RX3 13 "DunningDeskModel" "dues" "[I", Cond.fieldLink RX3 16 "DunningDeskModel" "letters" "[I", Cond.fieldLink RX3 19 "DunningDeskModel" "pausedTo" "[I", Cond.fieldLink RX3 22 "DunningDeskModel" "waits" "[Z", Cond.fieldLink RX3 26 "DunningDeskModel" "queues" "[I", Cond.fieldLink RX3 29 "DunningDeskModel" "keys" "[I", Cond.fieldLink RX3 32 "DunningDeskModel" "kinds" "[C", Cond.fieldLink RX3 36 "DunningDeskModel" "caseOf" "[I", Cond.fieldLink RX3 39 "DunningDeskModel" "values" "[I", Cond.fieldLink RX3 42 "DunningDeskModel" "readyOn" "[I", Cond.fieldLink RX3 45 "DunningDeskModel" "tries" "[I", Cond.fieldLink RX3 48 "DunningDeskModel" "states" "[C", Cond.fieldLink RX3 51 "DunningDeskModel" "clerks" "[I", Cond.fieldLink RX3 54 "DunningDeskModel" "takenOn" "[I", Cond.methodLink RL 106 yL_open, Cond.static yL_open, Cond.initialized RL, Cond.codeWith yL_open cL_open 5 (some .int) [(0, 10, 13, 13), (0, 10, 17, 15)]]
def wsL_law0_r4 : List Cond := [Cond.classLink RL 13 "java/lang/IllegalArgumentException", Cond.classLink RL 15 "java/lang/IllegalStateException", Cond.methodLink RL 7 yX2_open, Cond.instanceMethod yX2_open, Cond.selects RX2 yX2_open yX2_open, Cond.code yX2_open cX2_open 4 (some .int), Cond.classLink RX2 31 "java/lang/IllegalArgumentException", Cond.initialized "java/lang/IllegalArgumentException", Cond.classLink RX2 42 "java/lang/IllegalStateException", Cond.initialized "java/lang/IllegalStateException", Cond.methodLink RX2 27 yX2_isWithin, Cond.static yX2_isWithin, Cond.code yX2_isWithin cX2_isWithin 3 (some .boolean), Cond.instanceMethod yX0_isFull, Cond.selects RX0 yX0_isFull yX0_isFull, Cond.code yX0_isFull cX0_isFull 1 (some .boolean), Cond.fieldLink RX0 31 "DunningDesk$CaseBook" "size" "I", Cond.instanceMethod yX0_add, Cond.selects RX0 yX0_add yX0_add, Cond.code yX0_add cX0_add 4 (some .int), Cond.instanceMethod yX1_release, Cond.selects RX1 yX1_release yX1_release, Cond.code yX1_release cX1_release 4 none, Cond.fieldLink RX1 46 "DunningDesk$MessageBook" "size" "I"]
def wsL_law0_r5 : List Cond := [Cond.methodLink RX1 50 Lib.Math.max.name, Cond.static Lib.Math.max.name, Cond.initialized "java/lang/Math", Cond.code Lib.Math.max.name Lib.Math.max.code 2 (some .int), Cond.methodLink RL 111 yX3_open, Cond.instanceMethod yX3_open, Cond.selects RX3 yX3_open yX3_open, Cond.code yX3_open cX3_open 4 (some .int), Cond.fieldLink RX3 61 "DunningDeskModel" "cases" "I", Cond.fieldLink RX3 57 "DunningDeskModel" "thrown" "I", Cond.fieldLink RX3 68 "DunningDeskModel" "messages" "I", Cond.fieldLink RX3 71 "DunningDeskModel" "day" "I", Cond.methodLink RX3 74 Lib.Math.max.name, Cond.methodLink RX3 64 yX3_in, Cond.static yX3_in, Cond.code yX3_in cX3_in 3 (some .boolean), Cond.methodLink RL 112 yX3_thrown, Cond.instanceMethod yX3_thrown, Cond.selects RX3 yX3_thrown yX3_thrown, Cond.code yX3_thrown cX3_thrown 1 (some .int), Cond.methodLink RL 116 yL_amount, Cond.static yL_amount, Cond.codeWith yL_amount cL_amount 4 (some .int) [(0, 9, 12, 21)], Cond.classLink RL 21 "java/lang/IndexOutOfBoundsException"]
def wsL_law0_r6 : List Cond := [Cond.methodLink RL 17 yX2_amount, Cond.instanceMethod yX2_amount, Cond.selects RX2 yX2_amount yX2_amount, Cond.code yX2_amount cX2_amount 2 (some .int), Cond.methodLink RX2 55 yX2_requireCase, Cond.instanceMethod yX2_requireCase, Cond.selects RX2 yX2_requireCase yX2_requireCase, Cond.code yX2_requireCase cX2_requireCase 2 none, Cond.classLink RX2 215 "java/lang/IndexOutOfBoundsException", Cond.initialized "java/lang/IndexOutOfBoundsException", Cond.instanceMethod yX0_contains, Cond.selects RX0 yX0_contains yX0_contains, Cond.code yX0_contains cX0_contains 2 (some .boolean), Cond.methodLink RL 119 yX3_amount, Cond.instanceMethod yX3_amount, Cond.selects RX3 yX3_amount yX3_amount, Cond.code yX3_amount cX3_amount 2 (some .int), Cond.methodLink RX3 80 yX3_noCase, Cond.instanceMethod yX3_noCase, Cond.selects RX3 yX3_noCase yX3_noCase, Cond.code yX3_noCase cX3_noCase 2 (some .boolean), Cond.methodLink RL 120 yL_pause, Cond.static yL_pause, Cond.codeWith yL_pause cL_pause 5 (some .int) [(0, 10, 13, 21), (0, 10, 17, 13), (0, 10, 21, 15)]]
def wsL_law0_r7 : List Cond := [Cond.methodLink RL 23 yX2_pause, Cond.instanceMethod yX2_pause, Cond.selects RX2 yX2_pause yX2_pause, Cond.code yX2_pause cX2_pause 3 (some .int), Cond.methodLink RX2 65 yX2_requireOpen, Cond.instanceMethod yX2_requireOpen, Cond.selects RX2 yX2_requireOpen yX2_requireOpen, Cond.code yX2_requireOpen cX2_requireOpen 2 none, Cond.instanceMethod yX0_isOpen, Cond.selects RX0 yX0_isOpen yX0_isOpen, Cond.code yX0_isOpen cX0_isOpen 2 (some .boolean), Cond.instanceMethod yX0_pauseUntil, Cond.selects RX0 yX0_pauseUntil yX0_pauseUntil, Cond.code yX0_pauseUntil cX0_pauseUntil 3 (some .int), Cond.methodLink RX0 35 Lib.Math.max.name, Cond.methodLink RL 122 yX3_pause, Cond.instanceMethod yX3_pause, Cond.selects RX3 yX3_pause yX3_pause, Cond.code yX3_pause cX3_pause 3 (some .int), Cond.methodLink RL 123 yL_awaitNote, Cond.static yL_awaitNote, Cond.codeWith yL_awaitNote cL_awaitNote 4 (some .int) [(0, 16, 19, 21), (0, 16, 22, 15)], Cond.methodLink RL 26 yX2_awaitNote, Cond.instanceMethod yX2_awaitNote]
def wsL_law0_r8 : List Cond := [Cond.selects RX2 yX2_awaitNote yX2_awaitNote, Cond.code yX2_awaitNote cX2_awaitNote 3 (some .boolean), Cond.methodLink RL 125 yX3_awaitNote, Cond.instanceMethod yX3_awaitNote, Cond.selects RX3 yX3_awaitNote yX3_awaitNote, Cond.code yX3_awaitNote cX3_awaitNote 3 (some .boolean), Cond.methodLink RL 126 yL_letters, Cond.static yL_letters, Cond.codeWith yL_letters cL_letters 4 (some .int) [(0, 9, 12, 21)], Cond.methodLink RL 30 yX2_letters, Cond.instanceMethod yX2_letters, Cond.selects RX2 yX2_letters yX2_letters, Cond.code yX2_letters cX2_letters 2 (some .int), Cond.methodLink RL 128 yX3_letters, Cond.instanceMethod yX3_letters, Cond.selects RX3 yX3_letters yX3_letters, Cond.code yX3_letters cX3_letters 2 (some .int), Cond.methodLink RL 129 yL_lettersByMessages, Cond.static yL_lettersByMessages, Cond.codeWith yL_lettersByMessages cL_lettersByMessages 4 (some .int) [(0, 9, 12, 21)], Cond.methodLink RL 33 yX2_lettersByMessages, Cond.instanceMethod yX2_lettersByMessages, Cond.selects RX2 yX2_lettersByMessages yX2_lettersByMessages, Cond.code yX2_lettersByMessages cX2_lettersByMessages 2 (some .int)]
def wsL_law0_r9 : List Cond := [Cond.instanceMethod yX1_lettersFrom, Cond.selects RX1 yX1_lettersFrom yX1_lettersFrom, Cond.code yX1_lettersFrom cX1_lettersFrom 7 (some .int), Cond.fieldLink RX1 64 "DunningDesk$MessageBook" "doneSize" "I", Cond.methodLink RX1 71 yX1_contains, Cond.instanceMethod yX1_contains, Cond.selects RX1 yX1_contains yX1_contains, Cond.code yX1_contains cX1_contains 2 (some .boolean), Cond.methodLink RL 131 yX3_lettersByMessages, Cond.instanceMethod yX3_lettersByMessages, Cond.selects RX3 yX3_lettersByMessages yX3_lettersByMessages, Cond.code yX3_lettersByMessages cX3_lettersByMessages 2 (some .int), Cond.methodLink RX3 84 yX3_letters, Cond.methodLink RL 132 yL_nextReminder, Cond.static yL_nextReminder, Cond.codeWith yL_nextReminder cL_nextReminder 4 (some .int) [(0, 9, 12, 21), (0, 9, 15, 39)], Cond.classLink RL 39 "java/util/NoSuchElementException", Cond.methodLink RL 36 yX2_nextReminder, Cond.instanceMethod yX2_nextReminder, Cond.selects RX2 yX2_nextReminder yX2_nextReminder, Cond.code yX2_nextReminder cX2_nextReminder 3 (some .int), Cond.classLink RX2 88 "java/util/NoSuchElementException", Cond.initialized "java/util/NoSuchElementException", Cond.methodLink RX2 97 Lib.Math.max.name]
def wsL_law0_r10 : List Cond := [Cond.methodLink RX2 84 yX2_isAnyReminderLeft, Cond.instanceMethod yX2_isAnyReminderLeft, Cond.selects RX2 yX2_isAnyReminderLeft yX2_isAnyReminderLeft, Cond.code yX2_isAnyReminderLeft cX2_isAnyReminderLeft 3 (some .boolean), Cond.methodLink RX2 250 yX2_reminderKey, Cond.static yX2_reminderKey, Cond.code yX2_reminderKey cX2_reminderKey 2 (some .int), Cond.instanceMethod yX1_find, Cond.selects RX1 yX1_find yX1_find, Cond.code yX1_find cX1_find 3 (some .int), Cond.instanceMethod yX0_reminderDay, Cond.selects RX0 yX0_reminderDay yX0_reminderDay, Cond.code yX0_reminderDay cX0_reminderDay 2 (some .int), Cond.methodLink RL 134 yX3_nextReminder, Cond.instanceMethod yX3_nextReminder, Cond.selects RX3 yX3_nextReminder yX3_nextReminder, Cond.code yX3_nextReminder cX3_nextReminder 2 (some .int), Cond.methodLink RX3 90 yX3_mayRemind, Cond.instanceMethod yX3_mayRemind, Cond.selects RX3 yX3_mayRemind yX3_mayRemind, Cond.code yX3_mayRemind cX3_mayRemind 3 (some .boolean), Cond.methodLink RX3 87 yX3_find, Cond.instanceMethod yX3_find, Cond.selects RX3 yX3_find yX3_find]
def wsL_law0_r11 : List Cond := [Cond.code yX3_find cX3_find 3 (some .int), Cond.methodLink RX3 93 yX3_remindsFrom, Cond.instanceMethod yX3_remindsFrom, Cond.selects RX3 yX3_remindsFrom yX3_remindsFrom, Cond.code yX3_remindsFrom cX3_remindsFrom 2 (some .int), Cond.methodLink RL 135 yL_post, Cond.static yL_post, Cond.codeWith yL_post cL_post 9 (some .int) [(0, 18, 21, 13), (0, 18, 25, 15)], Cond.methodLink RL 41 yX2_post, Cond.instanceMethod yX2_post, Cond.selects RX2 yX2_post yX2_post, Cond.code yX2_post cX2_post 9 (some .int), Cond.methodLink RX2 105 yX2_requireQueue, Cond.static yX2_requireQueue, Cond.code yX2_requireQueue cX2_requireQueue 1 none, Cond.instanceMethod yX1_isFull, Cond.selects RX1 yX1_isFull yX1_isFull, Cond.code yX1_isFull cX1_isFull 1 (some .boolean), Cond.instanceMethod yX1_add, Cond.selects RX1 yX1_add yX1_add, Cond.code yX1_add cX1_add 8 (some .int), Cond.methodLink RL 138 yX3_post, Cond.instanceMethod yX3_post, Cond.selects RX3 yX3_post yX3_post]
def wsL_law0_r12 : List Cond := [Cond.code yX3_post cX3_post 9 (some .int), Cond.methodLink RX3 96 yX3_raises, Cond.instanceMethod yX3_raises, Cond.selects RX3 yX3_raises yX3_raises, Cond.code yX3_raises cX3_raises 2 (some .int), Cond.methodLink RX3 99 yX3_adds, Cond.instanceMethod yX3_adds, Cond.selects RX3 yX3_adds yX3_adds, Cond.code yX3_adds cX3_adds 7 (some .int), Cond.methodLink RL 139 yL_withKey, Cond.static yL_withKey, Cond.codeWith yL_withKey cL_withKey 4 (some .int) [(0, 9, 12, 39)], Cond.methodLink RL 45 yX2_withKey, Cond.instanceMethod yX2_withKey, Cond.selects RX2 yX2_withKey yX2_withKey, Cond.code yX2_withKey cX2_withKey 3 (some .int), Cond.methodLink RL 141 yX3_withKey, Cond.instanceMethod yX3_withKey, Cond.selects RX3 yX3_withKey yX3_withKey, Cond.code yX3_withKey cX3_withKey 3 (some .int), Cond.methodLink RL 142 yL_state, Cond.static yL_state, Cond.codeWith yL_state cL_state 4 (some .int) [(0, 9, 12, 21)], Cond.methodLink RL 48 yX2_state]
def wsL_law0_r13 : List Cond := [Cond.instanceMethod yX2_state, Cond.selects RX2 yX2_state yX2_state, Cond.code yX2_state cX2_state 2 (some .char), Cond.methodLink RX2 130 yX2_requireMessage, Cond.instanceMethod yX2_requireMessage, Cond.selects RX2 yX2_requireMessage yX2_requireMessage, Cond.code yX2_requireMessage cX2_requireMessage 2 none, Cond.methodLink RL 144 yX3_state, Cond.instanceMethod yX3_state, Cond.selects RX3 yX3_state yX3_state, Cond.code yX3_state cX3_state 2 (some .char), Cond.methodLink RX3 103 yX3_noMessage, Cond.instanceMethod yX3_noMessage, Cond.selects RX3 yX3_noMessage yX3_noMessage, Cond.code yX3_noMessage cX3_noMessage 2 (some .boolean), Cond.methodLink RL 145 yL_kind, Cond.static yL_kind, Cond.codeWith yL_kind cL_kind 4 (some .int) [(0, 9, 12, 21)], Cond.methodLink RL 52 yX2_kind, Cond.instanceMethod yX2_kind, Cond.selects RX2 yX2_kind yX2_kind, Cond.code yX2_kind cX2_kind 2 (some .char), Cond.methodLink RL 147 yX3_kind, Cond.instanceMethod yX3_kind]
def wsL_law0_r14 : List Cond := [Cond.selects RX3 yX3_kind yX3_kind, Cond.code yX3_kind cX3_kind 2 (some .char), Cond.methodLink RL 148 yL_tries, Cond.static yL_tries, Cond.codeWith yL_tries cL_tries 4 (some .int) [(0, 9, 12, 21)], Cond.methodLink RL 55 yX2_tries, Cond.instanceMethod yX2_tries, Cond.selects RX2 yX2_tries yX2_tries, Cond.code yX2_tries cX2_tries 2 (some .int), Cond.methodLink RL 150 yX3_tries, Cond.instanceMethod yX3_tries, Cond.selects RX3 yX3_tries yX3_tries, Cond.code yX3_tries cX3_tries 2 (some .int), Cond.methodLink RL 151 yL_readyAt, Cond.static yL_readyAt, Cond.codeWith yL_readyAt cL_readyAt 4 (some .int) [(0, 9, 12, 21), (0, 9, 15, 15)], Cond.methodLink RL 58 yX2_readyAt, Cond.instanceMethod yX2_readyAt, Cond.selects RX2 yX2_readyAt yX2_readyAt, Cond.code yX2_readyAt cX2_readyAt 2 (some .int), Cond.methodLink RX2 139 yX2_requireState, Cond.instanceMethod yX2_requireState, Cond.selects RX2 yX2_requireState yX2_requireState, Cond.code yX2_requireState cX2_requireState 3 none]
def wsL_law0_r15 : List Cond := [Cond.methodLink RL 153 yX3_readyAt, Cond.instanceMethod yX3_readyAt, Cond.selects RX3 yX3_readyAt yX3_readyAt, Cond.code yX3_readyAt cX3_readyAt 2 (some .int), Cond.methodLink RL 154 yL_ready, Cond.static yL_ready, Cond.codeWith yL_ready cL_ready 4 (some .int) [(0, 9, 12, 13)], Cond.methodLink RL 61 yX2_ready, Cond.instanceMethod yX2_ready, Cond.selects RX2 yX2_ready yX2_ready, Cond.code yX2_ready cX2_ready 2 (some .int), Cond.instanceMethod yX1_countReady, Cond.selects RX1 yX1_countReady yX1_countReady, Cond.code yX1_countReady cX1_countReady 5 (some .int), Cond.methodLink RX1 56 yX1_isReady, Cond.instanceMethod yX1_isReady, Cond.selects RX1 yX1_isReady yX1_isReady, Cond.code yX1_isReady cX1_isReady 4 (some .boolean), Cond.methodLink RL 156 yX3_ready, Cond.instanceMethod yX3_ready, Cond.selects RX3 yX3_ready yX3_ready, Cond.code yX3_ready cX3_ready 2 (some .int), Cond.methodLink RX3 110 yX3_readyIn, Cond.instanceMethod yX3_readyIn]
def wsL_law0_r16 : List Cond := [Cond.selects RX3 yX3_readyIn yX3_readyIn, Cond.code yX3_readyIn cX3_readyIn 4 (some .int), Cond.methodLink RX3 106 yX3_isReady, Cond.instanceMethod yX3_isReady, Cond.selects RX3 yX3_isReady yX3_isReady, Cond.code yX3_isReady cX3_isReady 3 (some .boolean), Cond.methodLink RL 157 yL_readyAtPlace, Cond.static yL_readyAtPlace, Cond.codeWith yL_readyAtPlace cL_readyAtPlace 5 (some .int) [(0, 10, 13, 13), (0, 10, 17, 39)], Cond.methodLink RL 64 yX2_readyAtPlace, Cond.instanceMethod yX2_readyAtPlace, Cond.selects RX2 yX2_readyAtPlace yX2_readyAtPlace, Cond.code yX2_readyAtPlace cX2_readyAtPlace 5 (some .int), Cond.instanceMethod yX1_nextReady, Cond.selects RX1 yX1_nextReady yX1_nextReady, Cond.code yX1_nextReady cX1_nextReady 6 (some .int), Cond.methodLink RX1 60 yX1_goesBefore, Cond.instanceMethod yX1_goesBefore, Cond.selects RX1 yX1_goesBefore yX1_goesBefore, Cond.code yX1_goesBefore cX1_goesBefore 3 (some .boolean), Cond.methodLink RL 159 yX3_readyAtPlace, Cond.instanceMethod yX3_readyAtPlace, Cond.selects RX3 yX3_readyAtPlace yX3_readyAtPlace, Cond.code yX3_readyAtPlace cX3_readyAtPlace 4 (some .int)]
def wsL_law0_r17 : List Cond := [Cond.methodLink RX3 113 yX3_place, Cond.instanceMethod yX3_place, Cond.selects RX3 yX3_place yX3_place, Cond.code yX3_place cX3_place 6 (some .int), Cond.methodLink RL 160 yL_take, Cond.static yL_take, Cond.codeWith yL_take cL_take 5 (some .int) [(0, 10, 13, 13), (0, 10, 17, 15), (0, 10, 21, 39)], Cond.methodLink RL 67 yX2_take, Cond.instanceMethod yX2_take, Cond.selects RX2 yX2_take yX2_take, Cond.code yX2_take cX2_take 4 (some .int), Cond.methodLink RX2 155 yX2_requireClerk, Cond.static yX2_requireClerk, Cond.code yX2_requireClerk cX2_requireClerk 1 none, Cond.instanceMethod yX1_countTakenBy, Cond.selects RX1 yX1_countTakenBy yX1_countTakenBy, Cond.code yX1_countTakenBy cX1_countTakenBy 4 (some .int), Cond.instanceMethod yX1_giveTo, Cond.selects RX1 yX1_giveTo yX1_giveTo, Cond.code yX1_giveTo cX1_giveTo 4 none, Cond.methodLink RL 162 yX3_take, Cond.instanceMethod yX3_take, Cond.selects RX3 yX3_take yX3_take, Cond.code yX3_take cX3_take 4 (some .int)]
def wsL_law0_r18 : List Cond := [Cond.methodLink RX3 116 yX3_taken, Cond.instanceMethod yX3_taken, Cond.selects RX3 yX3_taken yX3_taken, Cond.code yX3_taken cX3_taken 4 (some .int), Cond.methodLink RL 163 yL_finish, Cond.static yL_finish, Cond.codeWith yL_finish cL_finish 4 (some .int) [(0, 16, 19, 21), (0, 16, 22, 15)], Cond.methodLink RL 70 yX2_finish, Cond.instanceMethod yX2_finish, Cond.selects RX2 yX2_finish yX2_finish, Cond.code yX2_finish cX2_finish 2 (some .boolean), Cond.instanceMethod yX1_close, Cond.selects RX1 yX1_close yX1_close, Cond.code yX1_close cX1_close 2 none, Cond.methodLink RX2 172 yX2_settle, Cond.instanceMethod yX2_settle, Cond.selects RX2 yX2_settle yX2_settle, Cond.code yX2_settle cX2_settle 5 (some .boolean), Cond.instanceMethod yX0_pay, Cond.selects RX0 yX0_pay yX0_pay, Cond.code yX0_pay cX0_pay 4 (some .boolean), Cond.instanceMethod yX0_endWait, Cond.selects RX0 yX0_endWait yX0_endWait, Cond.code yX0_endWait cX0_endWait 3 (some .boolean)]
def wsL_law0_r19 : List Cond := [Cond.instanceMethod yX0_sendLetter, Cond.selects RX0 yX0_sendLetter yX0_sendLetter, Cond.code yX0_sendLetter cX0_sendLetter 3 (some .boolean), Cond.methodLink RX0 41 yX0_isOpen, Cond.methodLink RL 165 yX3_finish, Cond.instanceMethod yX3_finish, Cond.selects RX3 yX3_finish yX3_finish, Cond.code yX3_finish cX3_finish 4 (some .boolean), Cond.methodLink RL 166 yL_handBack, Cond.static yL_handBack, Cond.codeWith yL_handBack cL_handBack 4 (some .int) [(0, 9, 12, 21), (0, 9, 15, 15)], Cond.methodLink RL 73 yX2_handBack, Cond.instanceMethod yX2_handBack, Cond.selects RX2 yX2_handBack yX2_handBack, Cond.code yX2_handBack cX2_handBack 2 (some .int), Cond.instanceMethod yX1_putBack, Cond.selects RX1 yX1_putBack yX1_putBack, Cond.code yX1_putBack cX1_putBack 3 none, Cond.methodLink RL 168 yX3_handBack, Cond.instanceMethod yX3_handBack, Cond.selects RX3 yX3_handBack yX3_handBack, Cond.code yX3_handBack cX3_handBack 2 (some .int), Cond.methodLink RX3 119 yX3_back, Cond.instanceMethod yX3_back]
def wsL_law0_r20 : List Cond := [Cond.selects RX3 yX3_back yX3_back, Cond.code yX3_back cX3_back 2 (some .int), Cond.methodLink RL 169 yL_revive, Cond.static yL_revive, Cond.codeWith yL_revive cL_revive 4 (some .int) [(0, 9, 12, 21), (0, 9, 15, 15)], Cond.methodLink RL 76 yX2_revive, Cond.instanceMethod yX2_revive, Cond.selects RX2 yX2_revive yX2_revive, Cond.code yX2_revive cX2_revive 2 (some .int), Cond.instanceMethod yX1_wake, Cond.selects RX1 yX1_wake yX1_wake, Cond.code yX1_wake cX1_wake 3 none, Cond.instanceMethod yX1_countIn, Cond.selects RX1 yX1_countIn yX1_countIn, Cond.code yX1_countIn cX1_countIn 4 (some .int), Cond.methodLink RL 171 yX3_revive, Cond.instanceMethod yX3_revive, Cond.selects RX3 yX3_revive yX3_revive, Cond.code yX3_revive cX3_revive 2 (some .int), Cond.methodLink RX3 122 yX3_in_, Cond.instanceMethod yX3_in_, Cond.selects RX3 yX3_in_ yX3_in_, Cond.code yX3_in_ cX3_in_ 4 (some .int), Cond.methodLink RL 172 yL_clerk]
def wsL_law0_r21 : List Cond := [Cond.static yL_clerk, Cond.codeWith yL_clerk cL_clerk 4 (some .int) [(0, 9, 12, 21), (0, 9, 15, 39)], Cond.methodLink RL 79 yX2_clerk, Cond.instanceMethod yX2_clerk, Cond.selects RX2 yX2_clerk yX2_clerk, Cond.code yX2_clerk cX2_clerk 2 (some .int), Cond.methodLink RL 174 yX3_clerk, Cond.instanceMethod yX3_clerk, Cond.selects RX3 yX3_clerk yX3_clerk, Cond.code yX3_clerk cX3_clerk 2 (some .int), Cond.methodLink RL 175 yL_has, Cond.static yL_has, Cond.codeWith yL_has cL_has 4 (some .int) [(0, 9, 12, 13)], Cond.methodLink RL 82 yX2_has, Cond.instanceMethod yX2_has, Cond.selects RX2 yX2_has yX2_has, Cond.code yX2_has cX2_has 2 (some .int), Cond.methodLink RL 177 yX3_has, Cond.instanceMethod yX3_has, Cond.selects RX3 yX3_has yX3_has, Cond.code yX3_has cX3_has 2 (some .int), Cond.methodLink RL 178 yL_pass, Cond.static yL_pass, Cond.codeWith yL_pass cL_pass 4 (some .int) [(0, 9, 12, 13)]]
def wsL_law0_r22 : List Cond := [Cond.methodLink RL 85 yX2_pass, Cond.instanceMethod yX2_pass, Cond.selects RX2 yX2_pass yX2_pass, Cond.code yX2_pass cX2_pass 4 (some .int), Cond.instanceMethod yX1_putBackTakenUntil, Cond.selects RX1 yX1_putBackTakenUntil yX1_putBackTakenUntil, Cond.code yX1_putBackTakenUntil cX1_putBackTakenUntil 4 none, Cond.methodLink RX1 67 yX1_putBack, Cond.methodLink RX2 193 yX2_postReminders, Cond.instanceMethod yX2_postReminders, Cond.selects RX2 yX2_postReminders yX2_postReminders, Cond.code yX2_postReminders cX2_postReminders 4 (some .int), Cond.methodLink RX2 254 yX2_isReminderDue, Cond.instanceMethod yX2_isReminderDue, Cond.selects RX2 yX2_isReminderDue yX2_isReminderDue, Cond.code yX2_isReminderDue cX2_isReminderDue 2 (some .boolean), Cond.methodLink RL 180 yX3_pass, Cond.instanceMethod yX3_pass, Cond.selects RX3 yX3_pass yX3_pass, Cond.code yX3_pass cX3_pass 4 (some .int), Cond.methodLink RX3 125 yX3_passes, Cond.instanceMethod yX3_passes, Cond.selects RX3 yX3_passes yX3_passes, Cond.code yX3_passes cX3_passes 4 (some .int)]
def wsL_law0_r23 : List Cond := [Cond.methodLink RL 181 yX2_day, Cond.instanceMethod yX2_day, Cond.selects RX2 yX2_day yX2_day, Cond.code yX2_day cX2_day 1 (some .int), Cond.methodLink RL 184 yX3_day, Cond.instanceMethod yX3_day, Cond.selects RX3 yX3_day yX3_day, Cond.code yX3_day cX3_day 1 (some .int), Cond.methodLink RL 185 yL_count, Cond.static yL_count, Cond.codeWith yL_count cL_count 4 (some .int) [(0, 9, 12, 13)], Cond.methodLink RL 88 yX2_count, Cond.instanceMethod yX2_count, Cond.selects RX2 yX2_count yX2_count, Cond.code yX2_count cX2_count 2 (some .int), Cond.methodLink RL 188 yX3_count, Cond.instanceMethod yX3_count, Cond.selects RX3 yX3_count yX3_count, Cond.code yX3_count cX3_count 2 (some .int), Cond.methodLink RL 189 yL_doneShare, Cond.static yL_doneShare, Cond.codeWith yL_doneShare cL_doneShare 3 (some .int) [(0, 8, 11, 96)], Cond.classLink RL 96 "java/lang/ArithmeticException", Cond.methodLink RL 92 yX2_doneShare]
def wsL_law0_r24 : List Cond := [Cond.instanceMethod yX2_doneShare, Cond.selects RX2 yX2_doneShare yX2_doneShare, Cond.code yX2_doneShare cX2_doneShare 1 (some .float), Cond.classLink RX2 202 "java/lang/ArithmeticException", Cond.initialized "java/lang/ArithmeticException", Cond.methodLink RL 192 yX3_doneShare, Cond.instanceMethod yX3_doneShare, Cond.selects RX3 yX3_doneShare yX3_doneShare, Cond.code yX3_doneShare cX3_doneShare 1 (some .float), Cond.methodLink RL 193 yL_meanAmount, Cond.static yL_meanAmount, Cond.codeWith yL_meanAmount cL_meanAmount 3 (some .int) [(0, 7, 10, 96)], Cond.methodLink RL 98 yX2_meanAmount, Cond.instanceMethod yX2_meanAmount, Cond.selects RX2 yX2_meanAmount yX2_meanAmount, Cond.code yX2_meanAmount cX2_meanAmount 2 (some .double), Cond.instanceMethod yX0_countOpen, Cond.selects RX0 yX0_countOpen yX0_countOpen, Cond.code yX0_countOpen cX0_countOpen 3 (some .int), Cond.instanceMethod yX0_sumOfAmounts, Cond.selects RX0 yX0_sumOfAmounts yX0_sumOfAmounts, Cond.code yX0_sumOfAmounts cX0_sumOfAmounts 3 (some .int), Cond.methodLink RL 195 yX3_meanAmount, Cond.instanceMethod yX3_meanAmount]
def wsL_law0_r25 : List Cond := [Cond.selects RX3 yX3_meanAmount yX3_meanAmount, Cond.code yX3_meanAmount cX3_meanAmount 4 (some .double)]
def wsL_law0 : List Cond := (wsL_law0_r1 ++ (wsL_law0_r2 ++ (wsL_law0_r3 ++ (wsL_law0_r4 ++ (wsL_law0_r5 ++ (wsL_law0_r6 ++ (wsL_law0_r7 ++ (wsL_law0_r8 ++ (wsL_law0_r9 ++ (wsL_law0_r10 ++ (wsL_law0_r11 ++ (wsL_law0_r12 ++ (wsL_law0_r13 ++ (wsL_law0_r14 ++ (wsL_law0_r15 ++ (wsL_law0_r16 ++ (wsL_law0_r17 ++ (wsL_law0_r18 ++ (wsL_law0_r19 ++ (wsL_law0_r20 ++ (wsL_law0_r21 ++ (wsL_law0_r22 ++ (wsL_law0_r23 ++ (wsL_law0_r24 ++ wsL_law0_r25)))))))))))))))))))))))) ++ wsX20 ++ wsX30 ++ wsX00 ++ wsX10 ++ ([] : List Cond)
def wsL_law : List Cond := wsL_law0 ++ (vx_atM "java/lang/ArrayIndexOutOfBoundsException" ["java/lang/IndexOutOfBoundsException", "java/lang/RuntimeException", "java/lang/Exception"]).filter goodWord ++ (vx_atS RX2 35 "java/lang/IllegalArgumentException" ["java/lang/RuntimeException", "java/lang/Exception"]).filter goodWord ++ (vx_atS RX2 46 "java/lang/IllegalStateException" ["java/lang/RuntimeException", "java/lang/Exception"]).filter goodWord ++ (vx_atS RX2 219 "java/lang/IndexOutOfBoundsException" ["java/lang/RuntimeException", "java/lang/Exception"]).filter goodWord ++ (yN_atS RX2 92).filter goodWord ++ (vx_atS RX2 206 "java/lang/ArithmeticException" ["java/lang/RuntimeException", "java/lang/Exception"]).filter goodWord
abbrev vwCl : List vw_C := [(RJ0, TJ0, 2), (RJx00060, TJx00060, 6), (RX0, TX0, 7), (RX1, TX1, 13), (RX2, TX2, 3), (RX3, TX3, 19)]
end
section
set_option maxRecDepth 20000 in
theorem wsL_law0_r1_in : ∀ w ∈ wsL_law0_r1, w ∈ lw_tbl := fun w h => (goodIn_r (big := lw_tbl) wsL_law0_r1 [67, 68, 52, 695, 696, 55, 928, 929, 69, 70, 71, 72, 73, 74, 75, 76, 53, 166, 111, 112, 54, 167, 168, 78] (by decide +kernel) (by decide +kernel) w h).1
set_option maxRecDepth 20000 in
theorem wsL_law0_r2_in : ∀ w ∈ wsL_law0_r2, w ∈ lw_tbl := fun w h => (goodIn_r (big := lw_tbl) wsL_law0_r2 [79, 80, 109, 81, 83, 85, 86, 88, 110, 90, 114, 115, 116, 117, 118, 165, 119, 121, 123, 125, 127, 129, 131, 133] (by decide +kernel) (by decide +kernel) w h).1
set_option maxRecDepth 20000 in
theorem wsL_law0_r3_in : ∀ w ∈ wsL_law0_r3, w ∈ lw_tbl := fun w h => (goodIn_r (big := lw_tbl) wsL_law0_r3 [134, 697, 698, 699, 700, 701, 702, 703, 704, 705, 707, 708, 709, 710, 711, 712, 713, 714, 715, 716, 180, 181, 51, 182] (by decide +kernel) (by decide +kernel) w h).1
set_option maxRecDepth 20000 in
theorem wsL_law0_r4_in : ∀ w ∈ wsL_law0_r4, w ∈ lw_tbl := fun w h => (goodIn_r (big := lw_tbl) wsL_law0_r4 [183, 184, 185, 186, 187, 188, 192, 59, 267, 60, 189, 190, 191, 265, 1, 266, 92, 285, 2, 286, 289, 3, 290, 136] (by decide +kernel) (by decide +kernel) w h).1
set_option maxRecDepth 20000 in
theorem wsL_law0_r5_in : ∀ w ∈ wsL_law0_r5, w ∈ lw_tbl := fun w h => (goodIn_r (big := lw_tbl) wsL_law0_r5 [291, 292, 61, 293, 763, 764, 765, 766, 706, 719, 717, 718, 770, 767, 768, 769, 759, 760, 761, 762, 294, 295, 296, 297] (by decide +kernel) (by decide +kernel) w h).1
set_option maxRecDepth 20000 in
theorem wsL_law0_r6_in : ∀ w ∈ wsL_law0_r6, w ∈ lw_tbl := fun w h => (goodIn_r (big := lw_tbl) wsL_law0_r6 [321, 322, 323, 324, 325, 327, 4, 328, 333, 62, 331, 5, 332, 771, 772, 773, 774, 775, 777, 37, 778, 346, 347, 348] (by decide +kernel) (by decide +kernel) w h).1
set_option maxRecDepth 20000 in
theorem wsL_law0_r7_in : ∀ w ∈ wsL_law0_r7, w ∈ lw_tbl := fun w h => (goodIn_r (big := lw_tbl) wsL_law0_r7 [349, 350, 351, 352, 354, 356, 6, 357, 360, 7, 361, 365, 8, 366, 367, 779, 780, 781, 782, 368, 369, 370, 371, 372] (by decide +kernel) (by decide +kernel) w h).1
set_option maxRecDepth 20000 in
theorem wsL_law0_r8_in : ∀ w ∈ wsL_law0_r8, w ∈ lw_tbl := fun w h => (goodIn_r (big := lw_tbl) wsL_law0_r8 [373, 374, 783, 784, 785, 786, 375, 376, 377, 378, 379, 380, 381, 787, 788, 789, 790, 382, 383, 384, 385, 386, 387, 388] (by decide +kernel) (by decide +kernel) w h).1
set_option maxRecDepth 20000 in
theorem wsL_law0_r9_in : ∀ w ∈ wsL_law0_r9, w ∈ lw_tbl := fun w h => (goodIn_r (big := lw_tbl) wsL_law0_r9 [391, 9, 392, 135, 393, 395, 10, 396, 791, 792, 793, 794, 795, 397, 398, 399, 400, 401, 402, 403, 404, 416, 65, 436] (by decide +kernel) (by decide +kernel) w h).1
set_option maxRecDepth 20000 in
theorem wsL_law0_r10_in : ∀ w ∈ wsL_law0_r10, w ∈ lw_tbl := fun w h => (goodIn_r (big := lw_tbl) wsL_law0_r10 [405, 407, 11, 408, 409, 410, 411, 414, 12, 415, 434, 13, 435, 796, 797, 798, 799, 800, 802, 38, 803, 804, 806, 39] (by decide +kernel) (by decide +kernel) w h).1
set_option maxRecDepth 20000 in
theorem wsL_law0_r11_in : ∀ w ∈ wsL_law0_r11, w ∈ lw_tbl := fun w h => (goodIn_r (big := lw_tbl) wsL_law0_r11 [807, 808, 810, 40, 811, 437, 438, 439, 440, 441, 442, 443, 444, 445, 446, 452, 14, 453, 457, 15, 458, 812, 813, 814] (by decide +kernel) (by decide +kernel) w h).1
set_option maxRecDepth 20000 in
theorem wsL_law0_r12_in : ∀ w ∈ wsL_law0_r12, w ∈ lw_tbl := fun w h => (goodIn_r (big := lw_tbl) wsL_law0_r12 [815, 816, 818, 41, 819, 820, 822, 42, 823, 459, 460, 461, 462, 463, 464, 465, 824, 825, 826, 827, 467, 468, 469, 470] (by decide +kernel) (by decide +kernel) w h).1
end
section
set_option maxRecDepth 20000 in
theorem wsL_law0_r13_in : ∀ w ∈ wsL_law0_r13, w ∈ lw_tbl := fun w h => (goodIn_r (big := lw_tbl) wsL_law0_r13 [471, 472, 473, 474, 476, 16, 477, 828, 829, 830, 831, 832, 834, 43, 835, 480, 481, 482, 483, 484, 485, 486, 836, 837] (by decide +kernel) (by decide +kernel) w h).1
set_option maxRecDepth 20000 in
theorem wsL_law0_r14_in : ∀ w ∈ wsL_law0_r14, w ∈ lw_tbl := fun w h => (goodIn_r (big := lw_tbl) wsL_law0_r14 [838, 839, 487, 488, 489, 490, 491, 492, 493, 840, 841, 842, 843, 494, 495, 496, 497, 498, 499, 500, 501, 503, 17, 504] (by decide +kernel) (by decide +kernel) w h).1
set_option maxRecDepth 20000 in
theorem wsL_law0_r15_in : ∀ w ∈ wsL_law0_r15, w ∈ lw_tbl := fun w h => (goodIn_r (big := lw_tbl) wsL_law0_r15 [844, 845, 846, 847, 506, 507, 508, 509, 510, 511, 512, 515, 18, 516, 517, 519, 19, 520, 848, 849, 850, 851, 852, 854] (by decide +kernel) (by decide +kernel) w h).1
set_option maxRecDepth 20000 in
theorem wsL_law0_r16_in : ∀ w ∈ wsL_law0_r16, w ∈ lw_tbl := fun w h => (goodIn_r (big := lw_tbl) wsL_law0_r16 [44, 855, 856, 858, 45, 859, 521, 522, 523, 524, 525, 526, 527, 531, 20, 532, 533, 535, 21, 536, 860, 861, 862, 863] (by decide +kernel) (by decide +kernel) w h).1
set_option maxRecDepth 20000 in
theorem wsL_law0_r17_in : ∀ w ∈ wsL_law0_r17, w ∈ lw_tbl := fun w h => (goodIn_r (big := lw_tbl) wsL_law0_r17 [864, 866, 46, 867, 537, 538, 539, 540, 541, 542, 543, 544, 545, 546, 550, 22, 551, 556, 23, 557, 868, 869, 870, 871] (by decide +kernel) (by decide +kernel) w h).1
set_option maxRecDepth 20000 in
theorem wsL_law0_r18_in : ∀ w ∈ wsL_law0_r18, w ∈ lw_tbl := fun w h => (goodIn_r (big := lw_tbl) wsL_law0_r18 [872, 874, 47, 875, 558, 559, 560, 561, 562, 563, 564, 567, 24, 568, 569, 571, 25, 572, 575, 26, 576, 579, 27, 580] (by decide +kernel) (by decide +kernel) w h).1
set_option maxRecDepth 20000 in
theorem wsL_law0_r19_in : ∀ w ∈ wsL_law0_r19, w ∈ lw_tbl := fun w h => (goodIn_r (big := lw_tbl) wsL_law0_r19 [583, 28, 584, 585, 876, 877, 878, 879, 586, 587, 588, 589, 590, 591, 592, 595, 29, 596, 880, 881, 882, 883, 884, 886] (by decide +kernel) (by decide +kernel) w h).1
set_option maxRecDepth 20000 in
theorem wsL_law0_r20_in : ∀ w ∈ wsL_law0_r20, w ∈ lw_tbl := fun w h => (goodIn_r (big := lw_tbl) wsL_law0_r20 [48, 887, 597, 598, 599, 600, 601, 602, 603, 606, 30, 607, 610, 31, 611, 888, 889, 890, 891, 892, 894, 49, 895, 612] (by decide +kernel) (by decide +kernel) w h).1
set_option maxRecDepth 20000 in
theorem wsL_law0_r21_in : ∀ w ∈ wsL_law0_r21, w ∈ lw_tbl := fun w h => (goodIn_r (big := lw_tbl) wsL_law0_r21 [613, 614, 615, 616, 617, 618, 896, 897, 898, 899, 620, 621, 622, 623, 624, 625, 626, 900, 901, 902, 903, 627, 628, 629] (by decide +kernel) (by decide +kernel) w h).1
set_option maxRecDepth 20000 in
theorem wsL_law0_r22_in : ∀ w ∈ wsL_law0_r22, w ∈ lw_tbl := fun w h => (goodIn_r (big := lw_tbl) wsL_law0_r22 [630, 631, 632, 633, 636, 32, 637, 638, 639, 641, 33, 642, 643, 645, 34, 646, 904, 905, 906, 907, 908, 910, 50, 911] (by decide +kernel) (by decide +kernel) w h).1
set_option maxRecDepth 20000 in
theorem wsL_law0_r23_in : ∀ w ∈ wsL_law0_r23, w ∈ lw_tbl := fun w h => (goodIn_r (big := lw_tbl) wsL_law0_r23 [176, 177, 178, 179, 912, 913, 914, 915, 647, 648, 649, 650, 651, 652, 653, 916, 917, 918, 919, 655, 656, 657, 658, 672] (by decide +kernel) (by decide +kernel) w h).1
set_option maxRecDepth 20000 in
theorem wsL_law0_r24_in : ∀ w ∈ wsL_law0_r24, w ∈ lw_tbl := fun w h => (goodIn_r (big := lw_tbl) wsL_law0_r24 [673, 674, 675, 676, 66, 920, 921, 922, 923, 679, 680, 681, 682, 683, 684, 685, 688, 35, 689, 693, 36, 694, 924, 925] (by decide +kernel) (by decide +kernel) w h).1
set_option maxRecDepth 20000 in
theorem wsL_law0_r25_in : ∀ w ∈ wsL_law0_r25, w ∈ lw_tbl := fun w h => (goodIn_r (big := lw_tbl) wsL_law0_r25 [926, 927] (by decide +kernel) (by decide +kernel) w h).1
set_option maxRecDepth 20000 in
theorem wsX20_tbl : ∀ w ∈ wsX20, w ∈ lw_tbl := by decide +kernel
set_option maxRecDepth 20000 in
theorem wsX30_tbl : ∀ w ∈ wsX30, w ∈ lw_tbl := by decide +kernel
set_option maxRecDepth 20000 in
theorem wsX00_tbl : ∀ w ∈ wsX00, w ∈ lw_tbl := by decide +kernel
set_option maxRecDepth 20000 in
theorem wsX10_tbl : ∀ w ∈ wsX10, w ∈ lw_tbl := by decide +kernel
theorem wsL_law_in0 : ∀ w ∈ wsL_law0, w ∈ lw_tbl := fun w => fun h => (List.mem_append.mp h).elim (fun h => (List.mem_append.mp h).elim (fun h => (List.mem_append.mp h).elim (fun h => (List.mem_append.mp h).elim (fun h => (List.mem_append.mp h).elim (fun h => (List.mem_append.mp h).elim (fun h => wsL_law0_r1_in w h) (fun h => (List.mem_append.mp h).elim (fun h => wsL_law0_r2_in w h) (fun h => (List.mem_append.mp h).elim (fun h => wsL_law0_r3_in w h) (fun h => (List.mem_append.mp h).elim (fun h => wsL_law0_r4_in w h) (fun h => (List.mem_append.mp h).elim (fun h => wsL_law0_r5_in w h) (fun h => (List.mem_append.mp h).elim (fun h => wsL_law0_r6_in w h) (fun h => (List.mem_append.mp h).elim (fun h => wsL_law0_r7_in w h) (fun h => (List.mem_append.mp h).elim (fun h => wsL_law0_r8_in w h) (fun h => (List.mem_append.mp h).elim (fun h => wsL_law0_r9_in w h) (fun h => (List.mem_append.mp h).elim (fun h => wsL_law0_r10_in w h) (fun h => (List.mem_append.mp h).elim (fun h => wsL_law0_r11_in w h) (fun h => (List.mem_append.mp h).elim (fun h => wsL_law0_r12_in w h) (fun h => (List.mem_append.mp h).elim (fun h => wsL_law0_r13_in w h) (fun h => (List.mem_append.mp h).elim (fun h => wsL_law0_r14_in w h) (fun h => (List.mem_append.mp h).elim (fun h => wsL_law0_r15_in w h) (fun h => (List.mem_append.mp h).elim (fun h => wsL_law0_r16_in w h) (fun h => (List.mem_append.mp h).elim (fun h => wsL_law0_r17_in w h) (fun h => (List.mem_append.mp h).elim (fun h => wsL_law0_r18_in w h) (fun h => (List.mem_append.mp h).elim (fun h => wsL_law0_r19_in w h) (fun h => (List.mem_append.mp h).elim (fun h => wsL_law0_r20_in w h) (fun h => (List.mem_append.mp h).elim (fun h => wsL_law0_r21_in w h) (fun h => (List.mem_append.mp h).elim (fun h => wsL_law0_r22_in w h) (fun h => (List.mem_append.mp h).elim (fun h => wsL_law0_r23_in w h) (fun h => (List.mem_append.mp h).elim (fun h => wsL_law0_r24_in w h) (fun h => wsL_law0_r25_in w h))))))))))))))))))))))))) (fun h => wsX20_tbl w h)) (fun h => wsX30_tbl w h)) (fun h => wsX00_tbl w h)) (fun h => wsX10_tbl w h)) (fun h => nomatch h)
end
section
theorem wsL_law_x0 : ∀ w ∈ (vx_atM "java/lang/ArrayIndexOutOfBoundsException" ["java/lang/IndexOutOfBoundsException", "java/lang/RuntimeException", "java/lang/Exception"]).filter goodWord, w ∈ lw_tbl := by decide +kernel
theorem wsL_law_x1 : ∀ w ∈ (vx_atS RX2 35 "java/lang/IllegalArgumentException" ["java/lang/RuntimeException", "java/lang/Exception"]).filter goodWord, w ∈ lw_tbl := by decide +kernel
theorem wsL_law_x2 : ∀ w ∈ (vx_atS RX2 46 "java/lang/IllegalStateException" ["java/lang/RuntimeException", "java/lang/Exception"]).filter goodWord, w ∈ lw_tbl := by decide +kernel
theorem wsL_law_x3 : ∀ w ∈ (vx_atS RX2 219 "java/lang/IndexOutOfBoundsException" ["java/lang/RuntimeException", "java/lang/Exception"]).filter goodWord, w ∈ lw_tbl := by decide +kernel
theorem wsL_law_x4 : ∀ w ∈ (yN_atS RX2 92).filter goodWord, w ∈ lw_tbl := by decide +kernel
theorem wsL_law_x5 : ∀ w ∈ (vx_atS RX2 206 "java/lang/ArithmeticException" ["java/lang/RuntimeException", "java/lang/Exception"]).filter goodWord, w ∈ lw_tbl := by decide +kernel
theorem wsL_law_in : ∀ w ∈ wsL_law, w ∈ lw_tbl := fun w h => (List.mem_append.mp h).elim (fun h => (List.mem_append.mp h).elim (fun h => (List.mem_append.mp h).elim (fun h => (List.mem_append.mp h).elim (fun h => (List.mem_append.mp h).elim (fun h => (List.mem_append.mp h).elim (fun h => wsL_law_in0 w h) (fun h => wsL_law_x0 w h)) (fun h => wsL_law_x1 w h)) (fun h => wsL_law_x2 w h)) (fun h => wsL_law_x3 w h)) (fun h => wsL_law_x4 w h)) (fun h => wsL_law_x5 w h)
theorem inlX0 : ∀ w ∈ wsX00, w ∈ wsL_law := fun _ h => List.mem_append_left _ (List.mem_append_left _ (List.mem_append_left _ (List.mem_append_left _ (List.mem_append_left _ (List.mem_append_left _ (List.mem_append_left _ (List.mem_append_left _ (List.mem_append_right _ h))))))))
theorem inX0 : ∀ w ∈ wsX00, w ∈ lw_tbl := fun w h => wsL_law_in w (inlX0 w h)
theorem inlX1 : ∀ w ∈ wsX10, w ∈ wsL_law := fun _ h => List.mem_append_left _ (List.mem_append_left _ (List.mem_append_left _ (List.mem_append_left _ (List.mem_append_left _ (List.mem_append_left _ (List.mem_append_left _ (List.mem_append_right _ h)))))))
theorem inX1 : ∀ w ∈ wsX10, w ∈ lw_tbl := fun w h => wsL_law_in w (inlX1 w h)
theorem inlX2 : ∀ w ∈ wsX20, w ∈ wsL_law := fun _ h => List.mem_append_left _ (List.mem_append_left _ (List.mem_append_left _ (List.mem_append_left _ (List.mem_append_left _ (List.mem_append_left _ (List.mem_append_left _ (List.mem_append_left _ (List.mem_append_left _ (List.mem_append_left _ (List.mem_append_right _ h))))))))))
theorem inX2 : ∀ w ∈ wsX20, w ∈ lw_tbl := fun w h => wsL_law_in w (inlX2 w h)
theorem inlX3 : ∀ w ∈ wsX30, w ∈ wsL_law := fun _ h => List.mem_append_left _ (List.mem_append_left _ (List.mem_append_left _ (List.mem_append_left _ (List.mem_append_left _ (List.mem_append_left _ (List.mem_append_left _ (List.mem_append_left _ (List.mem_append_left _ (List.mem_append_right _ h)))))))))
theorem inX3 : ∀ w ∈ wsX30, w ∈ lw_tbl := fun w h => wsL_law_in w (inlX3 w h)
theorem inJx145de : ∀ w ∈ wsJx145de0, w ∈ lw_tbl := by decide +kernel
theorem inJx00060 : ∀ w ∈ wsJx000600, w ∈ lw_tbl := by decide +kernel
theorem inJ9 : ∀ w ∈ wsJ90, w ∈ lw_tbl := by decide +kernel
theorem inJ0 : ∀ w ∈ wsJ00, w ∈ lw_tbl := by decide +kernel
end
section
theorem dX0_init_0 : decode cX0_init 0 = .ok (.aload_n 0, 1) := by decide +kernel
theorem dX0_init_1 : decode cX0_init 1 = .ok (.invokespecial 3, 3) := by decide +kernel
theorem dX0_init_4 : decode cX0_init 4 = .ok (.aload_n 0, 1) := by decide +kernel
theorem dX0_init_5 : decode cX0_init 5 = .ok (.bipush 8, 2) := by decide +kernel
theorem dX0_init_7 : decode cX0_init 7 = .ok (.newarray .int, 2) := by decide +kernel
theorem dX0_init_9 : decode cX0_init 9 = .ok (.putfield 9, 3) := by decide +kernel
theorem dX0_init_12 : decode cX0_init 12 = .ok (.aload_n 0, 1) := by decide +kernel
theorem dX0_init_13 : decode cX0_init 13 = .ok (.bipush 8, 2) := by decide +kernel
theorem dX0_init_15 : decode cX0_init 15 = .ok (.newarray .int, 2) := by decide +kernel
theorem dX0_init_17 : decode cX0_init 17 = .ok (.putfield 15, 3) := by decide +kernel
theorem dX0_init_20 : decode cX0_init 20 = .ok (.aload_n 0, 1) := by decide +kernel
theorem dX0_init_21 : decode cX0_init 21 = .ok (.bipush 8, 2) := by decide +kernel
theorem dX0_init_23 : decode cX0_init 23 = .ok (.newarray .int, 2) := by decide +kernel
theorem dX0_init_25 : decode cX0_init 25 = .ok (.putfield 18, 3) := by decide +kernel
theorem dX0_init_28 : decode cX0_init 28 = .ok (.aload_n 0, 1) := by decide +kernel
theorem dX0_init_29 : decode cX0_init 29 = .ok (.bipush 8, 2) := by decide +kernel
theorem dX0_init_31 : decode cX0_init 31 = .ok (.newarray .int, 2) := by decide +kernel
theorem dX0_init_33 : decode cX0_init 33 = .ok (.putfield 21, 3) := by decide +kernel
theorem dX0_init_36 : decode cX0_init 36 = .ok (.aload_n 0, 1) := by decide +kernel
theorem dX0_init_37 : decode cX0_init 37 = .ok (.bipush 8, 2) := by decide +kernel
theorem dX0_init_39 : decode cX0_init 39 = .ok (.newarray .int, 2) := by decide +kernel
theorem dX0_init_41 : decode cX0_init 41 = .ok (.putfield 24, 3) := by decide +kernel
theorem dX0_init_44 : decode cX0_init 44 = .ok (.aload_n 0, 1) := by decide +kernel
theorem dX0_init_45 : decode cX0_init 45 = .ok (.bipush 8, 2) := by decide +kernel
theorem dX0_init_47 : decode cX0_init 47 = .ok (.newarray .boolean, 2) := by decide +kernel
theorem dX0_init_49 : decode cX0_init 49 = .ok (.putfield 27, 3) := by decide +kernel
theorem dX0_init_52 : decode cX0_init 52 = .ok (.return_, 1) := by decide +kernel
theorem dX0_contains_0 : decode cX0_contains 0 = .ok (.iload_n 1, 1) := by decide +kernel
theorem dX0_contains_1 : decode cX0_contains 1 = .ok (.ifCond .lt 15, 3) := by decide +kernel
theorem dX0_contains_4 : decode cX0_contains 4 = .ok (.iload_n 1, 1) := by decide +kernel
theorem dX0_contains_5 : decode cX0_contains 5 = .ok (.aload_n 0, 1) := by decide +kernel
theorem dX0_contains_6 : decode cX0_contains 6 = .ok (.getfield 31, 3) := by decide +kernel
theorem dX0_contains_9 : decode cX0_contains 9 = .ok (.if_icmp .ge 7, 3) := by decide +kernel
theorem dX0_contains_12 : decode cX0_contains 12 = .ok (.iconst 1, 1) := by decide +kernel
theorem dX0_contains_13 : decode cX0_contains 13 = .ok (.goto 4, 3) := by decide +kernel
theorem dX0_contains_16 : decode cX0_contains 16 = .ok (.iconst 0, 1) := by decide +kernel
theorem dX0_contains_17 : decode cX0_contains 17 = .ok (.ireturn, 1) := by decide +kernel
theorem dX0_isFull_0 : decode cX0_isFull 0 = .ok (.aload_n 0, 1) := by decide +kernel
theorem dX0_isFull_1 : decode cX0_isFull 1 = .ok (.getfield 31, 3) := by decide +kernel
theorem dX0_isFull_4 : decode cX0_isFull 4 = .ok (.bipush 8, 2) := by decide +kernel
theorem dX0_isFull_6 : decode cX0_isFull 6 = .ok (.if_icmp .lt 7, 3) := by decide +kernel
theorem dX0_isFull_9 : decode cX0_isFull 9 = .ok (.iconst 1, 1) := by decide +kernel
theorem dX0_isFull_10 : decode cX0_isFull 10 = .ok (.goto 4, 3) := by decide +kernel
theorem dX0_isFull_13 : decode cX0_isFull 13 = .ok (.iconst 0, 1) := by decide +kernel
theorem dX0_isFull_14 : decode cX0_isFull 14 = .ok (.ireturn, 1) := by decide +kernel
theorem dX0_add_0 : decode cX0_add 0 = .ok (.aload_n 0, 1) := by decide +kernel
theorem dX0_add_1 : decode cX0_add 1 = .ok (.getfield 31, 3) := by decide +kernel
theorem dX0_add_4 : decode cX0_add 4 = .ok (.istore_n 3, 1) := by decide +kernel
theorem dX0_add_5 : decode cX0_add 5 = .ok (.aload_n 0, 1) := by decide +kernel
theorem dX0_add_6 : decode cX0_add 6 = .ok (.getfield 9, 3) := by decide +kernel
theorem dX0_add_9 : decode cX0_add 9 = .ok (.iload_n 3, 1) := by decide +kernel
theorem dX0_add_10 : decode cX0_add 10 = .ok (.iload_n 1, 1) := by decide +kernel
theorem dX0_add_11 : decode cX0_add 11 = .ok (.iastore, 1) := by decide +kernel
theorem dX0_add_12 : decode cX0_add 12 = .ok (.aload_n 0, 1) := by decide +kernel
theorem dX0_add_13 : decode cX0_add 13 = .ok (.getfield 15, 3) := by decide +kernel
theorem dX0_add_16 : decode cX0_add 16 = .ok (.iload_n 3, 1) := by decide +kernel
theorem dX0_add_17 : decode cX0_add 17 = .ok (.iload_n 1, 1) := by decide +kernel
theorem dX0_add_18 : decode cX0_add 18 = .ok (.iastore, 1) := by decide +kernel
theorem dX0_add_19 : decode cX0_add 19 = .ok (.aload_n 0, 1) := by decide +kernel
theorem dX0_add_20 : decode cX0_add 20 = .ok (.getfield 18, 3) := by decide +kernel
theorem dX0_add_23 : decode cX0_add 23 = .ok (.iload_n 3, 1) := by decide +kernel
theorem dX0_add_24 : decode cX0_add 24 = .ok (.iload_n 2, 1) := by decide +kernel
theorem dX0_add_25 : decode cX0_add 25 = .ok (.iastore, 1) := by decide +kernel
theorem dX0_add_26 : decode cX0_add 26 = .ok (.aload_n 0, 1) := by decide +kernel
theorem dX0_add_27 : decode cX0_add 27 = .ok (.dup, 1) := by decide +kernel
theorem dX0_add_28 : decode cX0_add 28 = .ok (.getfield 31, 3) := by decide +kernel
theorem dX0_add_31 : decode cX0_add 31 = .ok (.iconst 1, 1) := by decide +kernel
theorem dX0_add_32 : decode cX0_add 32 = .ok (.iadd, 1) := by decide +kernel
theorem dX0_add_33 : decode cX0_add 33 = .ok (.putfield 31, 3) := by decide +kernel
theorem dX0_add_36 : decode cX0_add 36 = .ok (.iload_n 3, 1) := by decide +kernel
theorem dX0_add_37 : decode cX0_add 37 = .ok (.ireturn, 1) := by decide +kernel
theorem dX0_isOpen_0 : decode cX0_isOpen 0 = .ok (.aload_n 0, 1) := by decide +kernel
theorem dX0_isOpen_1 : decode cX0_isOpen 1 = .ok (.getfield 15, 3) := by decide +kernel
theorem dX0_isOpen_4 : decode cX0_isOpen 4 = .ok (.iload_n 1, 1) := by decide +kernel
theorem dX0_isOpen_5 : decode cX0_isOpen 5 = .ok (.iaload, 1) := by decide +kernel
theorem dX0_isOpen_6 : decode cX0_isOpen 6 = .ok (.ifCond .le 7, 3) := by decide +kernel
theorem dX0_isOpen_9 : decode cX0_isOpen 9 = .ok (.iconst 1, 1) := by decide +kernel
theorem dX0_isOpen_10 : decode cX0_isOpen 10 = .ok (.goto 4, 3) := by decide +kernel
theorem dX0_isOpen_13 : decode cX0_isOpen 13 = .ok (.iconst 0, 1) := by decide +kernel
theorem dX0_isOpen_14 : decode cX0_isOpen 14 = .ok (.ireturn, 1) := by decide +kernel
theorem dX0_pauseUntil_0 : decode cX0_pauseUntil 0 = .ok (.aload_n 0, 1) := by decide +kernel
theorem dX0_pauseUntil_1 : decode cX0_pauseUntil 1 = .ok (.getfield 24, 3) := by decide +kernel
theorem dX0_pauseUntil_4 : decode cX0_pauseUntil 4 = .ok (.iload_n 1, 1) := by decide +kernel
theorem dX0_pauseUntil_5 : decode cX0_pauseUntil 5 = .ok (.aload_n 0, 1) := by decide +kernel
theorem dX0_pauseUntil_6 : decode cX0_pauseUntil 6 = .ok (.getfield 24, 3) := by decide +kernel
theorem dX0_pauseUntil_9 : decode cX0_pauseUntil 9 = .ok (.iload_n 1, 1) := by decide +kernel
theorem dX0_pauseUntil_10 : decode cX0_pauseUntil 10 = .ok (.iaload, 1) := by decide +kernel
theorem dX0_pauseUntil_11 : decode cX0_pauseUntil 11 = .ok (.iload_n 2, 1) := by decide +kernel
theorem dX0_pauseUntil_12 : decode cX0_pauseUntil 12 = .ok (.invokestatic 35, 3) := by decide +kernel
theorem dX0_pauseUntil_15 : decode cX0_pauseUntil 15 = .ok (.iastore, 1) := by decide +kernel
theorem dX0_pauseUntil_16 : decode cX0_pauseUntil 16 = .ok (.aload_n 0, 1) := by decide +kernel
theorem dX0_pauseUntil_17 : decode cX0_pauseUntil 17 = .ok (.getfield 24, 3) := by decide +kernel
theorem dX0_pauseUntil_20 : decode cX0_pauseUntil 20 = .ok (.iload_n 1, 1) := by decide +kernel
theorem dX0_pauseUntil_21 : decode cX0_pauseUntil 21 = .ok (.iaload, 1) := by decide +kernel
theorem dX0_pauseUntil_22 : decode cX0_pauseUntil 22 = .ok (.ireturn, 1) := by decide +kernel
theorem dX0_reminderDay_0 : decode cX0_reminderDay 0 = .ok (.aload_n 0, 1) := by decide +kernel
theorem dX0_reminderDay_1 : decode cX0_reminderDay 1 = .ok (.getfield 18, 3) := by decide +kernel
theorem dX0_reminderDay_4 : decode cX0_reminderDay 4 = .ok (.iload_n 1, 1) := by decide +kernel
theorem dX0_reminderDay_5 : decode cX0_reminderDay 5 = .ok (.iaload, 1) := by decide +kernel
theorem dX0_reminderDay_6 : decode cX0_reminderDay 6 = .ok (.bipush 7, 2) := by decide +kernel
theorem dX0_reminderDay_8 : decode cX0_reminderDay 8 = .ok (.aload_n 0, 1) := by decide +kernel
theorem dX0_reminderDay_9 : decode cX0_reminderDay 9 = .ok (.getfield 21, 3) := by decide +kernel
theorem dX0_reminderDay_12 : decode cX0_reminderDay 12 = .ok (.iload_n 1, 1) := by decide +kernel
theorem dX0_reminderDay_13 : decode cX0_reminderDay 13 = .ok (.iaload, 1) := by decide +kernel
theorem dX0_reminderDay_14 : decode cX0_reminderDay 14 = .ok (.imul, 1) := by decide +kernel
theorem dX0_reminderDay_15 : decode cX0_reminderDay 15 = .ok (.iadd, 1) := by decide +kernel
theorem dX0_reminderDay_16 : decode cX0_reminderDay 16 = .ok (.iconst 1, 1) := by decide +kernel
theorem dX0_reminderDay_17 : decode cX0_reminderDay 17 = .ok (.iadd, 1) := by decide +kernel
theorem dX0_reminderDay_18 : decode cX0_reminderDay 18 = .ok (.ireturn, 1) := by decide +kernel
theorem dX0_pay_0 : decode cX0_pay 0 = .ok (.aload_n 0, 1) := by decide +kernel
theorem dX0_pay_1 : decode cX0_pay 1 = .ok (.getfield 15, 3) := by decide +kernel
theorem dX0_pay_4 : decode cX0_pay 4 = .ok (.iload_n 1, 1) := by decide +kernel
theorem dX0_pay_5 : decode cX0_pay 5 = .ok (.iaload, 1) := by decide +kernel
theorem dX0_pay_6 : decode cX0_pay 6 = .ok (.istore_n 3, 1) := by decide +kernel
theorem dX0_pay_7 : decode cX0_pay 7 = .ok (.aload_n 0, 1) := by decide +kernel
theorem dX0_pay_8 : decode cX0_pay 8 = .ok (.getfield 15, 3) := by decide +kernel
theorem dX0_pay_11 : decode cX0_pay 11 = .ok (.iload_n 1, 1) := by decide +kernel
theorem dX0_pay_12 : decode cX0_pay 12 = .ok (.iconst 0, 1) := by decide +kernel
theorem dX0_pay_13 : decode cX0_pay 13 = .ok (.iload_n 3, 1) := by decide +kernel
theorem dX0_pay_14 : decode cX0_pay 14 = .ok (.iload_n 2, 1) := by decide +kernel
theorem dX0_pay_15 : decode cX0_pay 15 = .ok (.isub, 1) := by decide +kernel
theorem dX0_pay_16 : decode cX0_pay 16 = .ok (.invokestatic 35, 3) := by decide +kernel
theorem dX0_pay_19 : decode cX0_pay 19 = .ok (.iastore, 1) := by decide +kernel
theorem dX0_pay_20 : decode cX0_pay 20 = .ok (.aload_n 0, 1) := by decide +kernel
theorem dX0_pay_21 : decode cX0_pay 21 = .ok (.getfield 15, 3) := by decide +kernel
theorem dX0_pay_24 : decode cX0_pay 24 = .ok (.iload_n 1, 1) := by decide +kernel
theorem dX0_pay_25 : decode cX0_pay 25 = .ok (.iaload, 1) := by decide +kernel
theorem dX0_pay_26 : decode cX0_pay 26 = .ok (.iload_n 3, 1) := by decide +kernel
theorem dX0_pay_27 : decode cX0_pay 27 = .ok (.if_icmp .eq 7, 3) := by decide +kernel
theorem dX0_pay_30 : decode cX0_pay 30 = .ok (.iconst 1, 1) := by decide +kernel
theorem dX0_pay_31 : decode cX0_pay 31 = .ok (.goto 4, 3) := by decide +kernel
theorem dX0_pay_34 : decode cX0_pay 34 = .ok (.iconst 0, 1) := by decide +kernel
theorem dX0_pay_35 : decode cX0_pay 35 = .ok (.ireturn, 1) := by decide +kernel
theorem dX0_endWait_0 : decode cX0_endWait 0 = .ok (.aload_n 0, 1) := by decide +kernel
theorem dX0_endWait_1 : decode cX0_endWait 1 = .ok (.getfield 27, 3) := by decide +kernel
theorem dX0_endWait_4 : decode cX0_endWait 4 = .ok (.iload_n 1, 1) := by decide +kernel
theorem dX0_endWait_5 : decode cX0_endWait 5 = .ok (.baload, 1) := by decide +kernel
theorem dX0_endWait_6 : decode cX0_endWait 6 = .ok (.istore_n 2, 1) := by decide +kernel
theorem dX0_endWait_7 : decode cX0_endWait 7 = .ok (.aload_n 0, 1) := by decide +kernel
theorem dX0_endWait_8 : decode cX0_endWait 8 = .ok (.getfield 27, 3) := by decide +kernel
theorem dX0_endWait_11 : decode cX0_endWait 11 = .ok (.iload_n 1, 1) := by decide +kernel
theorem dX0_endWait_12 : decode cX0_endWait 12 = .ok (.iconst 0, 1) := by decide +kernel
theorem dX0_endWait_13 : decode cX0_endWait 13 = .ok (.bastore, 1) := by decide +kernel
theorem dX0_endWait_14 : decode cX0_endWait 14 = .ok (.iload_n 2, 1) := by decide +kernel
theorem dX0_endWait_15 : decode cX0_endWait 15 = .ok (.ireturn, 1) := by decide +kernel
set_option maxRecDepth 20000 in
theorem ggX0_sendLetter_X0_isOpen : GoodIn wsX0_sendLetter wsX0_isOpen := goodIn_ca (goodIn_r _ [6, 7, 8, 9, 10, 11, 12, 13, 14] (by decide +kernel) (by decide +kernel)) (goodIn_sub (fun _ h => List.mem_cons_of_mem _ (List.mem_append_right _ h)) (by decide +kernel))
set_option maxRecDepth 20000 in
theorem gX0_sendLetter_X0_isOpen : GoodIn wsX0_sendLetter (wsV RX0 41 RX0 yX0_isOpen wsX0_isOpen) := goodIn_app (goodIn_of _ (by decide +kernel)) ggX0_sendLetter_X0_isOpen
theorem dX0_sendLetter_0 : decode cX0_sendLetter 0 = .ok (.aload_n 0, 1) := by decide +kernel
theorem dX0_sendLetter_1 : decode cX0_sendLetter 1 = .ok (.iload_n 1, 1) := by decide +kernel
theorem dX0_sendLetter_2 : decode cX0_sendLetter 2 = .ok (.invokevirtual 41, 3) := by decide +kernel
theorem dX0_sendLetter_5 : decode cX0_sendLetter 5 = .ok (.ifCond .eq 13, 3) := by decide +kernel
theorem dX0_sendLetter_8 : decode cX0_sendLetter 8 = .ok (.aload_n 0, 1) := by decide +kernel
theorem dX0_sendLetter_9 : decode cX0_sendLetter 9 = .ok (.getfield 21, 3) := by decide +kernel
theorem dX0_sendLetter_12 : decode cX0_sendLetter 12 = .ok (.iload_n 1, 1) := by decide +kernel
theorem dX0_sendLetter_13 : decode cX0_sendLetter 13 = .ok (.iaload, 1) := by decide +kernel
theorem dX0_sendLetter_14 : decode cX0_sendLetter 14 = .ok (.iload_n 2, 1) := by decide +kernel
theorem dX0_sendLetter_15 : decode cX0_sendLetter 15 = .ok (.if_icmp .eq 5, 3) := by decide +kernel
theorem dX0_sendLetter_18 : decode cX0_sendLetter 18 = .ok (.iconst 0, 1) := by decide +kernel
theorem dX0_sendLetter_19 : decode cX0_sendLetter 19 = .ok (.ireturn, 1) := by decide +kernel
theorem dX0_sendLetter_20 : decode cX0_sendLetter 20 = .ok (.aload_n 0, 1) := by decide +kernel
theorem dX0_sendLetter_21 : decode cX0_sendLetter 21 = .ok (.getfield 21, 3) := by decide +kernel
theorem dX0_sendLetter_24 : decode cX0_sendLetter 24 = .ok (.iload_n 1, 1) := by decide +kernel
theorem dX0_sendLetter_25 : decode cX0_sendLetter 25 = .ok (.dup2, 1) := by decide +kernel
theorem dX0_sendLetter_26 : decode cX0_sendLetter 26 = .ok (.iaload, 1) := by decide +kernel
theorem dX0_sendLetter_27 : decode cX0_sendLetter 27 = .ok (.iconst 1, 1) := by decide +kernel
theorem dX0_sendLetter_28 : decode cX0_sendLetter 28 = .ok (.iadd, 1) := by decide +kernel
theorem dX0_sendLetter_29 : decode cX0_sendLetter 29 = .ok (.iastore, 1) := by decide +kernel
theorem dX0_sendLetter_30 : decode cX0_sendLetter 30 = .ok (.iconst 1, 1) := by decide +kernel
theorem dX0_sendLetter_31 : decode cX0_sendLetter 31 = .ok (.ireturn, 1) := by decide +kernel
set_option maxRecDepth 20000 in
theorem ggX0_countOpen_X0_isOpen : GoodIn wsX0_countOpen wsX0_isOpen := goodIn_ca (goodIn_r _ [6, 7, 8, 9, 10, 11, 12, 13, 14] (by decide +kernel) (by decide +kernel)) (goodIn_sub (fun _ h => List.mem_cons_of_mem _ (List.mem_append_right _ h)) (by decide +kernel))
set_option maxRecDepth 20000 in
theorem gX0_countOpen_X0_isOpen : GoodIn wsX0_countOpen (wsV RX0 41 RX0 yX0_isOpen wsX0_isOpen) := goodIn_app (goodIn_of _ (by decide +kernel)) ggX0_countOpen_X0_isOpen
theorem dX0_countOpen_0 : decode cX0_countOpen 0 = .ok (.iconst 0, 1) := by decide +kernel
theorem dX0_countOpen_1 : decode cX0_countOpen 1 = .ok (.istore_n 1, 1) := by decide +kernel
theorem dX0_countOpen_2 : decode cX0_countOpen 2 = .ok (.iconst 0, 1) := by decide +kernel
theorem dX0_countOpen_3 : decode cX0_countOpen 3 = .ok (.istore_n 2, 1) := by decide +kernel
theorem dX0_countOpen_4 : decode cX0_countOpen 4 = .ok (.iload_n 2, 1) := by decide +kernel
theorem dX0_countOpen_5 : decode cX0_countOpen 5 = .ok (.aload_n 0, 1) := by decide +kernel
theorem dX0_countOpen_6 : decode cX0_countOpen 6 = .ok (.getfield 31, 3) := by decide +kernel
theorem dX0_countOpen_9 : decode cX0_countOpen 9 = .ok (.if_icmp .ge 20, 3) := by decide +kernel
theorem dX0_countOpen_12 : decode cX0_countOpen 12 = .ok (.aload_n 0, 1) := by decide +kernel
theorem dX0_countOpen_13 : decode cX0_countOpen 13 = .ok (.iload_n 2, 1) := by decide +kernel
theorem dX0_countOpen_14 : decode cX0_countOpen 14 = .ok (.invokevirtual 41, 3) := by decide +kernel
theorem dX0_countOpen_17 : decode cX0_countOpen 17 = .ok (.ifCond .eq 6, 3) := by decide +kernel
theorem dX0_countOpen_20 : decode cX0_countOpen 20 = .ok (.iinc 1 1, 3) := by decide +kernel
theorem dX0_countOpen_23 : decode cX0_countOpen 23 = .ok (.iinc 2 1, 3) := by decide +kernel
theorem dX0_countOpen_26 : decode cX0_countOpen 26 = .ok (.goto (-22), 3) := by decide +kernel
theorem dX0_countOpen_29 : decode cX0_countOpen 29 = .ok (.iload_n 1, 1) := by decide +kernel
theorem dX0_countOpen_30 : decode cX0_countOpen 30 = .ok (.ireturn, 1) := by decide +kernel
theorem dX0_sumOfAmounts_0 : decode cX0_sumOfAmounts 0 = .ok (.iconst 0, 1) := by decide +kernel
theorem dX0_sumOfAmounts_1 : decode cX0_sumOfAmounts 1 = .ok (.istore_n 1, 1) := by decide +kernel
theorem dX0_sumOfAmounts_2 : decode cX0_sumOfAmounts 2 = .ok (.iconst 0, 1) := by decide +kernel
theorem dX0_sumOfAmounts_3 : decode cX0_sumOfAmounts 3 = .ok (.istore_n 2, 1) := by decide +kernel
theorem dX0_sumOfAmounts_4 : decode cX0_sumOfAmounts 4 = .ok (.iload_n 2, 1) := by decide +kernel
theorem dX0_sumOfAmounts_5 : decode cX0_sumOfAmounts 5 = .ok (.aload_n 0, 1) := by decide +kernel
theorem dX0_sumOfAmounts_6 : decode cX0_sumOfAmounts 6 = .ok (.getfield 31, 3) := by decide +kernel
theorem dX0_sumOfAmounts_9 : decode cX0_sumOfAmounts 9 = .ok (.if_icmp .ge 18, 3) := by decide +kernel
theorem dX0_sumOfAmounts_12 : decode cX0_sumOfAmounts 12 = .ok (.iload_n 1, 1) := by decide +kernel
theorem dX0_sumOfAmounts_13 : decode cX0_sumOfAmounts 13 = .ok (.aload_n 0, 1) := by decide +kernel
theorem dX0_sumOfAmounts_14 : decode cX0_sumOfAmounts 14 = .ok (.getfield 15, 3) := by decide +kernel
theorem dX0_sumOfAmounts_17 : decode cX0_sumOfAmounts 17 = .ok (.iload_n 2, 1) := by decide +kernel
theorem dX0_sumOfAmounts_18 : decode cX0_sumOfAmounts 18 = .ok (.iaload, 1) := by decide +kernel
theorem dX0_sumOfAmounts_19 : decode cX0_sumOfAmounts 19 = .ok (.iadd, 1) := by decide +kernel
theorem dX0_sumOfAmounts_20 : decode cX0_sumOfAmounts 20 = .ok (.istore_n 1, 1) := by decide +kernel
theorem dX0_sumOfAmounts_21 : decode cX0_sumOfAmounts 21 = .ok (.iinc 2 1, 3) := by decide +kernel
theorem dX0_sumOfAmounts_24 : decode cX0_sumOfAmounts 24 = .ok (.goto (-20), 3) := by decide +kernel
theorem dX0_sumOfAmounts_27 : decode cX0_sumOfAmounts 27 = .ok (.iload_n 1, 1) := by decide +kernel
theorem dX0_sumOfAmounts_28 : decode cX0_sumOfAmounts 28 = .ok (.ireturn, 1) := by decide +kernel
theorem dX1_init_0 : decode cX1_init 0 = .ok (.aload_n 0, 1) := by decide +kernel
theorem dX1_init_1 : decode cX1_init 1 = .ok (.invokespecial 3, 3) := by decide +kernel
theorem dX1_init_4 : decode cX1_init 4 = .ok (.aload_n 0, 1) := by decide +kernel
theorem dX1_init_5 : decode cX1_init 5 = .ok (.bipush 80, 2) := by decide +kernel
theorem dX1_init_7 : decode cX1_init 7 = .ok (.newarray .int, 2) := by decide +kernel
theorem dX1_init_9 : decode cX1_init 9 = .ok (.putfield 9, 3) := by decide +kernel
theorem dX1_init_12 : decode cX1_init 12 = .ok (.aload_n 0, 1) := by decide +kernel
theorem dX1_init_13 : decode cX1_init 13 = .ok (.bipush 80, 2) := by decide +kernel
theorem dX1_init_15 : decode cX1_init 15 = .ok (.newarray .int, 2) := by decide +kernel
theorem dX1_init_17 : decode cX1_init 17 = .ok (.putfield 15, 3) := by decide +kernel
theorem dX1_init_20 : decode cX1_init 20 = .ok (.aload_n 0, 1) := by decide +kernel
theorem dX1_init_21 : decode cX1_init 21 = .ok (.bipush 80, 2) := by decide +kernel
theorem dX1_init_23 : decode cX1_init 23 = .ok (.newarray .char, 2) := by decide +kernel
theorem dX1_init_25 : decode cX1_init 25 = .ok (.putfield 18, 3) := by decide +kernel
theorem dX1_init_28 : decode cX1_init 28 = .ok (.aload_n 0, 1) := by decide +kernel
theorem dX1_init_29 : decode cX1_init 29 = .ok (.bipush 80, 2) := by decide +kernel
theorem dX1_init_31 : decode cX1_init 31 = .ok (.newarray .int, 2) := by decide +kernel
theorem dX1_init_33 : decode cX1_init 33 = .ok (.putfield 22, 3) := by decide +kernel
theorem dX1_init_36 : decode cX1_init 36 = .ok (.aload_n 0, 1) := by decide +kernel
theorem dX1_init_37 : decode cX1_init 37 = .ok (.bipush 80, 2) := by decide +kernel
theorem dX1_init_39 : decode cX1_init 39 = .ok (.newarray .int, 2) := by decide +kernel
theorem dX1_init_41 : decode cX1_init 41 = .ok (.putfield 25, 3) := by decide +kernel
theorem dX1_init_44 : decode cX1_init 44 = .ok (.aload_n 0, 1) := by decide +kernel
theorem dX1_init_45 : decode cX1_init 45 = .ok (.bipush 80, 2) := by decide +kernel
theorem dX1_init_47 : decode cX1_init 47 = .ok (.newarray .char, 2) := by decide +kernel
theorem dX1_init_49 : decode cX1_init 49 = .ok (.putfield 28, 3) := by decide +kernel
theorem dX1_init_52 : decode cX1_init 52 = .ok (.aload_n 0, 1) := by decide +kernel
theorem dX1_init_53 : decode cX1_init 53 = .ok (.bipush 80, 2) := by decide +kernel
theorem dX1_init_55 : decode cX1_init 55 = .ok (.newarray .int, 2) := by decide +kernel
theorem dX1_init_57 : decode cX1_init 57 = .ok (.putfield 31, 3) := by decide +kernel
theorem dX1_init_60 : decode cX1_init 60 = .ok (.aload_n 0, 1) := by decide +kernel
theorem dX1_init_61 : decode cX1_init 61 = .ok (.bipush 80, 2) := by decide +kernel
theorem dX1_init_63 : decode cX1_init 63 = .ok (.newarray .int, 2) := by decide +kernel
theorem dX1_init_65 : decode cX1_init 65 = .ok (.putfield 34, 3) := by decide +kernel
theorem dX1_init_68 : decode cX1_init 68 = .ok (.aload_n 0, 1) := by decide +kernel
theorem dX1_init_69 : decode cX1_init 69 = .ok (.bipush 80, 2) := by decide +kernel
theorem dX1_init_71 : decode cX1_init 71 = .ok (.newarray .int, 2) := by decide +kernel
theorem dX1_init_73 : decode cX1_init 73 = .ok (.putfield 37, 3) := by decide +kernel
theorem dX1_init_76 : decode cX1_init 76 = .ok (.aload_n 0, 1) := by decide +kernel
theorem dX1_init_77 : decode cX1_init 77 = .ok (.bipush 80, 2) := by decide +kernel
theorem dX1_init_79 : decode cX1_init 79 = .ok (.newarray .int, 2) := by decide +kernel
theorem dX1_init_81 : decode cX1_init 81 = .ok (.putfield 40, 3) := by decide +kernel
theorem dX1_init_84 : decode cX1_init 84 = .ok (.aload_n 0, 1) := by decide +kernel
theorem dX1_init_85 : decode cX1_init 85 = .ok (.bipush 80, 2) := by decide +kernel
theorem dX1_init_87 : decode cX1_init 87 = .ok (.newarray .int, 2) := by decide +kernel
theorem dX1_init_89 : decode cX1_init 89 = .ok (.putfield 43, 3) := by decide +kernel
theorem dX1_init_92 : decode cX1_init 92 = .ok (.return_, 1) := by decide +kernel
theorem dX1_contains_0 : decode cX1_contains 0 = .ok (.iload_n 1, 1) := by decide +kernel
theorem dX1_contains_1 : decode cX1_contains 1 = .ok (.ifCond .lt 15, 3) := by decide +kernel
theorem dX1_contains_4 : decode cX1_contains 4 = .ok (.iload_n 1, 1) := by decide +kernel
theorem dX1_contains_5 : decode cX1_contains 5 = .ok (.aload_n 0, 1) := by decide +kernel
theorem dX1_contains_6 : decode cX1_contains 6 = .ok (.getfield 46, 3) := by decide +kernel
theorem dX1_contains_9 : decode cX1_contains 9 = .ok (.if_icmp .ge 7, 3) := by decide +kernel
theorem dX1_contains_12 : decode cX1_contains 12 = .ok (.iconst 1, 1) := by decide +kernel
theorem dX1_contains_13 : decode cX1_contains 13 = .ok (.goto 4, 3) := by decide +kernel
theorem dX1_contains_16 : decode cX1_contains 16 = .ok (.iconst 0, 1) := by decide +kernel
theorem dX1_contains_17 : decode cX1_contains 17 = .ok (.ireturn, 1) := by decide +kernel
theorem dX1_isFull_0 : decode cX1_isFull 0 = .ok (.aload_n 0, 1) := by decide +kernel
theorem dX1_isFull_1 : decode cX1_isFull 1 = .ok (.getfield 46, 3) := by decide +kernel
theorem dX1_isFull_4 : decode cX1_isFull 4 = .ok (.bipush 80, 2) := by decide +kernel
theorem dX1_isFull_6 : decode cX1_isFull 6 = .ok (.if_icmp .lt 7, 3) := by decide +kernel
theorem dX1_isFull_9 : decode cX1_isFull 9 = .ok (.iconst 1, 1) := by decide +kernel
theorem dX1_isFull_10 : decode cX1_isFull 10 = .ok (.goto 4, 3) := by decide +kernel
theorem dX1_isFull_13 : decode cX1_isFull 13 = .ok (.iconst 0, 1) := by decide +kernel
theorem dX1_isFull_14 : decode cX1_isFull 14 = .ok (.ireturn, 1) := by decide +kernel
theorem dX1_find_0 : decode cX1_find 0 = .ok (.iconst 0, 1) := by decide +kernel
theorem dX1_find_1 : decode cX1_find 1 = .ok (.istore_n 2, 1) := by decide +kernel
theorem dX1_find_2 : decode cX1_find 2 = .ok (.iload_n 2, 1) := by decide +kernel
theorem dX1_find_3 : decode cX1_find 3 = .ok (.aload_n 0, 1) := by decide +kernel
theorem dX1_find_4 : decode cX1_find 4 = .ok (.getfield 46, 3) := by decide +kernel
theorem dX1_find_7 : decode cX1_find 7 = .ok (.if_icmp .ge 21, 3) := by decide +kernel
theorem dX1_find_10 : decode cX1_find 10 = .ok (.aload_n 0, 1) := by decide +kernel
theorem dX1_find_11 : decode cX1_find 11 = .ok (.getfield 15, 3) := by decide +kernel
theorem dX1_find_14 : decode cX1_find 14 = .ok (.iload_n 2, 1) := by decide +kernel
theorem dX1_find_15 : decode cX1_find 15 = .ok (.iaload, 1) := by decide +kernel
theorem dX1_find_16 : decode cX1_find 16 = .ok (.iload_n 1, 1) := by decide +kernel
theorem dX1_find_17 : decode cX1_find 17 = .ok (.if_icmp .ne 5, 3) := by decide +kernel
theorem dX1_find_20 : decode cX1_find 20 = .ok (.iload_n 2, 1) := by decide +kernel
theorem dX1_find_21 : decode cX1_find 21 = .ok (.ireturn, 1) := by decide +kernel
theorem dX1_find_22 : decode cX1_find 22 = .ok (.iinc 2 1, 3) := by decide +kernel
theorem dX1_find_25 : decode cX1_find 25 = .ok (.goto (-23), 3) := by decide +kernel
theorem dX1_find_28 : decode cX1_find 28 = .ok (.iconst (-1), 1) := by decide +kernel
theorem dX1_find_29 : decode cX1_find 29 = .ok (.ireturn, 1) := by decide +kernel
theorem dX1_add_0 : decode cX1_add 0 = .ok (.aload_n 0, 1) := by decide +kernel
theorem dX1_add_1 : decode cX1_add 1 = .ok (.getfield 46, 3) := by decide +kernel
theorem dX1_add_4 : decode cX1_add 4 = .ok (.istore 7, 2) := by decide +kernel
theorem dX1_add_6 : decode cX1_add 6 = .ok (.aload_n 0, 1) := by decide +kernel
theorem dX1_add_7 : decode cX1_add 7 = .ok (.getfield 9, 3) := by decide +kernel
theorem dX1_add_10 : decode cX1_add 10 = .ok (.iload 7, 2) := by decide +kernel
theorem dX1_add_12 : decode cX1_add 12 = .ok (.iload_n 1, 1) := by decide +kernel
theorem dX1_add_13 : decode cX1_add 13 = .ok (.iastore, 1) := by decide +kernel
theorem dX1_add_14 : decode cX1_add 14 = .ok (.aload_n 0, 1) := by decide +kernel
theorem dX1_add_15 : decode cX1_add 15 = .ok (.getfield 15, 3) := by decide +kernel
theorem dX1_add_18 : decode cX1_add 18 = .ok (.iload 7, 2) := by decide +kernel
theorem dX1_add_20 : decode cX1_add 20 = .ok (.iload_n 2, 1) := by decide +kernel
theorem dX1_add_21 : decode cX1_add 21 = .ok (.iastore, 1) := by decide +kernel
theorem dX1_add_22 : decode cX1_add 22 = .ok (.aload_n 0, 1) := by decide +kernel
theorem dX1_add_23 : decode cX1_add 23 = .ok (.getfield 18, 3) := by decide +kernel
theorem dX1_add_26 : decode cX1_add 26 = .ok (.iload 7, 2) := by decide +kernel
theorem dX1_add_28 : decode cX1_add 28 = .ok (.iload_n 3, 1) := by decide +kernel
theorem dX1_add_29 : decode cX1_add 29 = .ok (.castore, 1) := by decide +kernel
theorem dX1_add_30 : decode cX1_add 30 = .ok (.aload_n 0, 1) := by decide +kernel
theorem dX1_add_31 : decode cX1_add 31 = .ok (.getfield 22, 3) := by decide +kernel
theorem dX1_add_34 : decode cX1_add 34 = .ok (.iload 7, 2) := by decide +kernel
theorem dX1_add_36 : decode cX1_add 36 = .ok (.iload 4, 2) := by decide +kernel
theorem dX1_add_38 : decode cX1_add 38 = .ok (.iastore, 1) := by decide +kernel
theorem dX1_add_39 : decode cX1_add 39 = .ok (.aload_n 0, 1) := by decide +kernel
theorem dX1_add_40 : decode cX1_add 40 = .ok (.getfield 25, 3) := by decide +kernel
theorem dX1_add_43 : decode cX1_add 43 = .ok (.iload 7, 2) := by decide +kernel
theorem dX1_add_45 : decode cX1_add 45 = .ok (.iload 5, 2) := by decide +kernel
theorem dX1_add_47 : decode cX1_add 47 = .ok (.iastore, 1) := by decide +kernel
theorem dX1_add_48 : decode cX1_add 48 = .ok (.aload_n 0, 1) := by decide +kernel
theorem dX1_add_49 : decode cX1_add 49 = .ok (.getfield 31, 3) := by decide +kernel
theorem dX1_add_52 : decode cX1_add 52 = .ok (.iload 7, 2) := by decide +kernel
theorem dX1_add_54 : decode cX1_add 54 = .ok (.iload 6, 2) := by decide +kernel
theorem dX1_add_56 : decode cX1_add 56 = .ok (.iastore, 1) := by decide +kernel
theorem dX1_add_57 : decode cX1_add 57 = .ok (.aload_n 0, 1) := by decide +kernel
theorem dX1_add_58 : decode cX1_add 58 = .ok (.getfield 28, 3) := by decide +kernel
theorem dX1_add_61 : decode cX1_add 61 = .ok (.iload 7, 2) := by decide +kernel
theorem dX1_add_63 : decode cX1_add 63 = .ok (.bipush 119, 2) := by decide +kernel
theorem dX1_add_65 : decode cX1_add 65 = .ok (.castore, 1) := by decide +kernel
theorem dX1_add_66 : decode cX1_add 66 = .ok (.aload_n 0, 1) := by decide +kernel
theorem dX1_add_67 : decode cX1_add 67 = .ok (.dup, 1) := by decide +kernel
theorem dX1_add_68 : decode cX1_add 68 = .ok (.getfield 46, 3) := by decide +kernel
theorem dX1_add_71 : decode cX1_add 71 = .ok (.iconst 1, 1) := by decide +kernel
theorem dX1_add_72 : decode cX1_add 72 = .ok (.iadd, 1) := by decide +kernel
theorem dX1_add_73 : decode cX1_add 73 = .ok (.putfield 46, 3) := by decide +kernel
theorem dX1_add_76 : decode cX1_add 76 = .ok (.iload 7, 2) := by decide +kernel
theorem dX1_add_78 : decode cX1_add 78 = .ok (.ireturn, 1) := by decide +kernel
theorem dX1_release_0 : decode cX1_release 0 = .ok (.iconst 0, 1) := by decide +kernel
theorem dX1_release_1 : decode cX1_release 1 = .ok (.istore_n 3, 1) := by decide +kernel
theorem dX1_release_2 : decode cX1_release 2 = .ok (.iload_n 3, 1) := by decide +kernel
theorem dX1_release_3 : decode cX1_release 3 = .ok (.aload_n 0, 1) := by decide +kernel
theorem dX1_release_4 : decode cX1_release 4 = .ok (.getfield 46, 3) := by decide +kernel
theorem dX1_release_7 : decode cX1_release 7 = .ok (.if_icmp .ge 54, 3) := by decide +kernel
theorem dX1_release_10 : decode cX1_release 10 = .ok (.aload_n 0, 1) := by decide +kernel
theorem dX1_release_11 : decode cX1_release 11 = .ok (.getfield 28, 3) := by decide +kernel
theorem dX1_release_14 : decode cX1_release 14 = .ok (.iload_n 3, 1) := by decide +kernel
theorem dX1_release_15 : decode cX1_release 15 = .ok (.caload, 1) := by decide +kernel
theorem dX1_release_16 : decode cX1_release 16 = .ok (.bipush 104, 2) := by decide +kernel
theorem dX1_release_18 : decode cX1_release 18 = .ok (.if_icmp .ne 37, 3) := by decide +kernel
theorem dX1_release_21 : decode cX1_release 21 = .ok (.aload_n 0, 1) := by decide +kernel
theorem dX1_release_22 : decode cX1_release 22 = .ok (.getfield 22, 3) := by decide +kernel
theorem dX1_release_25 : decode cX1_release 25 = .ok (.iload_n 3, 1) := by decide +kernel
theorem dX1_release_26 : decode cX1_release 26 = .ok (.iaload, 1) := by decide +kernel
theorem dX1_release_27 : decode cX1_release 27 = .ok (.iload_n 1, 1) := by decide +kernel
theorem dX1_release_28 : decode cX1_release 28 = .ok (.if_icmp .ne 27, 3) := by decide +kernel
theorem dX1_release_31 : decode cX1_release 31 = .ok (.aload_n 0, 1) := by decide +kernel
theorem dX1_release_32 : decode cX1_release 32 = .ok (.getfield 28, 3) := by decide +kernel
theorem dX1_release_35 : decode cX1_release 35 = .ok (.iload_n 3, 1) := by decide +kernel
theorem dX1_release_36 : decode cX1_release 36 = .ok (.bipush 119, 2) := by decide +kernel
theorem dX1_release_38 : decode cX1_release 38 = .ok (.castore, 1) := by decide +kernel
theorem dX1_release_39 : decode cX1_release 39 = .ok (.aload_n 0, 1) := by decide +kernel
theorem dX1_release_40 : decode cX1_release 40 = .ok (.getfield 31, 3) := by decide +kernel
theorem dX1_release_43 : decode cX1_release 43 = .ok (.iload_n 3, 1) := by decide +kernel
theorem dX1_release_44 : decode cX1_release 44 = .ok (.aload_n 0, 1) := by decide +kernel
theorem dX1_release_45 : decode cX1_release 45 = .ok (.getfield 31, 3) := by decide +kernel
theorem dX1_release_48 : decode cX1_release 48 = .ok (.iload_n 3, 1) := by decide +kernel
theorem dX1_release_49 : decode cX1_release 49 = .ok (.iaload, 1) := by decide +kernel
theorem dX1_release_50 : decode cX1_release 50 = .ok (.iload_n 2, 1) := by decide +kernel
theorem dX1_release_51 : decode cX1_release 51 = .ok (.invokestatic 50, 3) := by decide +kernel
theorem dX1_release_54 : decode cX1_release 54 = .ok (.iastore, 1) := by decide +kernel
theorem dX1_release_55 : decode cX1_release 55 = .ok (.iinc 3 1, 3) := by decide +kernel
theorem dX1_release_58 : decode cX1_release 58 = .ok (.goto (-56), 3) := by decide +kernel
theorem dX1_release_61 : decode cX1_release 61 = .ok (.return_, 1) := by decide +kernel
theorem dX1_isReady_0 : decode cX1_isReady 0 = .ok (.aload_n 0, 1) := by decide +kernel
theorem dX1_isReady_1 : decode cX1_isReady 1 = .ok (.getfield 9, 3) := by decide +kernel
theorem dX1_isReady_4 : decode cX1_isReady 4 = .ok (.iload_n 1, 1) := by decide +kernel
theorem dX1_isReady_5 : decode cX1_isReady 5 = .ok (.iaload, 1) := by decide +kernel
theorem dX1_isReady_6 : decode cX1_isReady 6 = .ok (.iload_n 2, 1) := by decide +kernel
theorem dX1_isReady_7 : decode cX1_isReady 7 = .ok (.if_icmp .ne 28, 3) := by decide +kernel
theorem dX1_isReady_10 : decode cX1_isReady 10 = .ok (.aload_n 0, 1) := by decide +kernel
theorem dX1_isReady_11 : decode cX1_isReady 11 = .ok (.getfield 28, 3) := by decide +kernel
theorem dX1_isReady_14 : decode cX1_isReady 14 = .ok (.iload_n 1, 1) := by decide +kernel
theorem dX1_isReady_15 : decode cX1_isReady 15 = .ok (.caload, 1) := by decide +kernel
theorem dX1_isReady_16 : decode cX1_isReady 16 = .ok (.bipush 119, 2) := by decide +kernel
theorem dX1_isReady_18 : decode cX1_isReady 18 = .ok (.if_icmp .ne 17, 3) := by decide +kernel
theorem dX1_isReady_21 : decode cX1_isReady 21 = .ok (.aload_n 0, 1) := by decide +kernel
theorem dX1_isReady_22 : decode cX1_isReady 22 = .ok (.getfield 31, 3) := by decide +kernel
theorem dX1_isReady_25 : decode cX1_isReady 25 = .ok (.iload_n 1, 1) := by decide +kernel
theorem dX1_isReady_26 : decode cX1_isReady 26 = .ok (.iaload, 1) := by decide +kernel
theorem dX1_isReady_27 : decode cX1_isReady 27 = .ok (.iload_n 3, 1) := by decide +kernel
theorem dX1_isReady_28 : decode cX1_isReady 28 = .ok (.if_icmp .gt 7, 3) := by decide +kernel
theorem dX1_isReady_31 : decode cX1_isReady 31 = .ok (.iconst 1, 1) := by decide +kernel
theorem dX1_isReady_32 : decode cX1_isReady 32 = .ok (.goto 4, 3) := by decide +kernel
theorem dX1_isReady_35 : decode cX1_isReady 35 = .ok (.iconst 0, 1) := by decide +kernel
theorem dX1_isReady_36 : decode cX1_isReady 36 = .ok (.ireturn, 1) := by decide +kernel
set_option maxRecDepth 20000 in
theorem ggX1_countReady_X1_isReady : GoodIn wsX1_countReady wsX1_isReady := goodIn_ca (goodIn_r _ [6, 7, 8, 9, 10, 11, 12, 13, 14, 15, 16, 17, 18, 19, 20, 21, 22] (by decide +kernel) (by decide +kernel)) (goodIn_sub (fun _ h => List.mem_cons_of_mem _ (List.mem_append_right _ h)) (by decide +kernel))
set_option maxRecDepth 20000 in
theorem gX1_countReady_X1_isReady : GoodIn wsX1_countReady (wsV RX1 56 RX1 yX1_isReady wsX1_isReady) := goodIn_app (goodIn_of _ (by decide +kernel)) ggX1_countReady_X1_isReady
theorem dX1_countReady_0 : decode cX1_countReady 0 = .ok (.iconst 0, 1) := by decide +kernel
theorem dX1_countReady_1 : decode cX1_countReady 1 = .ok (.istore_n 3, 1) := by decide +kernel
theorem dX1_countReady_2 : decode cX1_countReady 2 = .ok (.iconst 0, 1) := by decide +kernel
theorem dX1_countReady_3 : decode cX1_countReady 3 = .ok (.istore 4, 2) := by decide +kernel
theorem dX1_countReady_5 : decode cX1_countReady 5 = .ok (.iload 4, 2) := by decide +kernel
theorem dX1_countReady_7 : decode cX1_countReady 7 = .ok (.aload_n 0, 1) := by decide +kernel
theorem dX1_countReady_8 : decode cX1_countReady 8 = .ok (.getfield 46, 3) := by decide +kernel
theorem dX1_countReady_11 : decode cX1_countReady 11 = .ok (.if_icmp .ge 23, 3) := by decide +kernel
theorem dX1_countReady_14 : decode cX1_countReady 14 = .ok (.aload_n 0, 1) := by decide +kernel
theorem dX1_countReady_15 : decode cX1_countReady 15 = .ok (.iload 4, 2) := by decide +kernel
theorem dX1_countReady_17 : decode cX1_countReady 17 = .ok (.iload_n 1, 1) := by decide +kernel
theorem dX1_countReady_18 : decode cX1_countReady 18 = .ok (.iload_n 2, 1) := by decide +kernel
theorem dX1_countReady_19 : decode cX1_countReady 19 = .ok (.invokevirtual 56, 3) := by decide +kernel
theorem dX1_countReady_22 : decode cX1_countReady 22 = .ok (.ifCond .eq 6, 3) := by decide +kernel
theorem dX1_countReady_25 : decode cX1_countReady 25 = .ok (.iinc 3 1, 3) := by decide +kernel
theorem dX1_countReady_28 : decode cX1_countReady 28 = .ok (.iinc 4 1, 3) := by decide +kernel
theorem dX1_countReady_31 : decode cX1_countReady 31 = .ok (.goto (-26), 3) := by decide +kernel
theorem dX1_countReady_34 : decode cX1_countReady 34 = .ok (.iload_n 3, 1) := by decide +kernel
theorem dX1_countReady_35 : decode cX1_countReady 35 = .ok (.ireturn, 1) := by decide +kernel
theorem dX1_goesBefore_0 : decode cX1_goesBefore 0 = .ok (.aload_n 0, 1) := by decide +kernel
theorem dX1_goesBefore_1 : decode cX1_goesBefore 1 = .ok (.getfield 31, 3) := by decide +kernel
theorem dX1_goesBefore_4 : decode cX1_goesBefore 4 = .ok (.iload_n 1, 1) := by decide +kernel
theorem dX1_goesBefore_5 : decode cX1_goesBefore 5 = .ok (.iaload, 1) := by decide +kernel
theorem dX1_goesBefore_6 : decode cX1_goesBefore 6 = .ok (.aload_n 0, 1) := by decide +kernel
theorem dX1_goesBefore_7 : decode cX1_goesBefore 7 = .ok (.getfield 31, 3) := by decide +kernel
theorem dX1_goesBefore_10 : decode cX1_goesBefore 10 = .ok (.iload_n 2, 1) := by decide +kernel
theorem dX1_goesBefore_11 : decode cX1_goesBefore 11 = .ok (.iaload, 1) := by decide +kernel
theorem dX1_goesBefore_12 : decode cX1_goesBefore 12 = .ok (.if_icmp .eq 24, 3) := by decide +kernel
theorem dX1_goesBefore_15 : decode cX1_goesBefore 15 = .ok (.aload_n 0, 1) := by decide +kernel
theorem dX1_goesBefore_16 : decode cX1_goesBefore 16 = .ok (.getfield 31, 3) := by decide +kernel
theorem dX1_goesBefore_19 : decode cX1_goesBefore 19 = .ok (.iload_n 1, 1) := by decide +kernel
theorem dX1_goesBefore_20 : decode cX1_goesBefore 20 = .ok (.iaload, 1) := by decide +kernel
theorem dX1_goesBefore_21 : decode cX1_goesBefore 21 = .ok (.aload_n 0, 1) := by decide +kernel
theorem dX1_goesBefore_22 : decode cX1_goesBefore 22 = .ok (.getfield 31, 3) := by decide +kernel
theorem dX1_goesBefore_25 : decode cX1_goesBefore 25 = .ok (.iload_n 2, 1) := by decide +kernel
theorem dX1_goesBefore_26 : decode cX1_goesBefore 26 = .ok (.iaload, 1) := by decide +kernel
theorem dX1_goesBefore_27 : decode cX1_goesBefore 27 = .ok (.if_icmp .ge 7, 3) := by decide +kernel
theorem dX1_goesBefore_30 : decode cX1_goesBefore 30 = .ok (.iconst 1, 1) := by decide +kernel
theorem dX1_goesBefore_31 : decode cX1_goesBefore 31 = .ok (.goto 4, 3) := by decide +kernel
theorem dX1_goesBefore_34 : decode cX1_goesBefore 34 = .ok (.iconst 0, 1) := by decide +kernel
theorem dX1_goesBefore_35 : decode cX1_goesBefore 35 = .ok (.ireturn, 1) := by decide +kernel
theorem dX1_goesBefore_36 : decode cX1_goesBefore 36 = .ok (.iload_n 1, 1) := by decide +kernel
theorem dX1_goesBefore_37 : decode cX1_goesBefore 37 = .ok (.iload_n 2, 1) := by decide +kernel
theorem dX1_goesBefore_38 : decode cX1_goesBefore 38 = .ok (.if_icmp .ge 7, 3) := by decide +kernel
theorem dX1_goesBefore_41 : decode cX1_goesBefore 41 = .ok (.iconst 1, 1) := by decide +kernel
theorem dX1_goesBefore_42 : decode cX1_goesBefore 42 = .ok (.goto 4, 3) := by decide +kernel
theorem dX1_goesBefore_45 : decode cX1_goesBefore 45 = .ok (.iconst 0, 1) := by decide +kernel
theorem dX1_goesBefore_46 : decode cX1_goesBefore 46 = .ok (.ireturn, 1) := by decide +kernel
set_option maxRecDepth 20000 in
theorem ggX1_nextReady_X1_isReady : GoodIn wsX1_nextReady wsX1_isReady := goodIn_ca (goodIn_r _ [6, 7, 8, 9, 14, 15, 16, 17, 18, 19, 20, 21, 22, 23, 24, 25, 26] (by decide +kernel) (by decide +kernel)) (goodIn_sub (fun _ h => List.mem_cons_of_mem _ (List.mem_append_right _ h)) (by decide +kernel))
set_option maxRecDepth 20000 in
theorem gX1_nextReady_X1_isReady : GoodIn wsX1_nextReady (wsV RX1 56 RX1 yX1_isReady wsX1_isReady) := goodIn_app (goodIn_of _ (by decide +kernel)) ggX1_nextReady_X1_isReady
set_option maxRecDepth 20000 in
theorem ggX1_nextReady_X1_goesBefore : GoodIn wsX1_nextReady wsX1_goesBefore := goodIn_ca (goodIn_r _ [13, 9, 14, 15, 16, 17, 18, 19, 20, 21, 22, 23, 24, 25, 26] (by decide +kernel) (by decide +kernel)) (goodIn_sub (fun _ h => List.mem_cons_of_mem _ (List.mem_append_right _ h)) (by decide +kernel))
set_option maxRecDepth 20000 in
theorem gX1_nextReady_X1_goesBefore : GoodIn wsX1_nextReady (wsV RX1 60 RX1 yX1_goesBefore wsX1_goesBefore) := goodIn_app (goodIn_of _ (by decide +kernel)) ggX1_nextReady_X1_goesBefore
theorem dX1_nextReady_0 : decode cX1_nextReady 0 = .ok (.iconst (-1), 1) := by decide +kernel
theorem dX1_nextReady_1 : decode cX1_nextReady 1 = .ok (.istore 4, 2) := by decide +kernel
theorem dX1_nextReady_3 : decode cX1_nextReady 3 = .ok (.iconst 0, 1) := by decide +kernel
theorem dX1_nextReady_4 : decode cX1_nextReady 4 = .ok (.istore 5, 2) := by decide +kernel
theorem dX1_nextReady_6 : decode cX1_nextReady 6 = .ok (.iload 5, 2) := by decide +kernel
theorem dX1_nextReady_8 : decode cX1_nextReady 8 = .ok (.aload_n 0, 1) := by decide +kernel
theorem dX1_nextReady_9 : decode cX1_nextReady 9 = .ok (.getfield 46, 3) := by decide +kernel
theorem dX1_nextReady_12 : decode cX1_nextReady 12 = .ok (.if_icmp .ge 56, 3) := by decide +kernel
theorem dX1_nextReady_15 : decode cX1_nextReady 15 = .ok (.aload_n 0, 1) := by decide +kernel
theorem dX1_nextReady_16 : decode cX1_nextReady 16 = .ok (.iload 5, 2) := by decide +kernel
theorem dX1_nextReady_18 : decode cX1_nextReady 18 = .ok (.iload_n 1, 1) := by decide +kernel
theorem dX1_nextReady_19 : decode cX1_nextReady 19 = .ok (.iload_n 2, 1) := by decide +kernel
theorem dX1_nextReady_20 : decode cX1_nextReady 20 = .ok (.invokevirtual 56, 3) := by decide +kernel
theorem dX1_nextReady_23 : decode cX1_nextReady 23 = .ok (.ifCond .eq 39, 3) := by decide +kernel
theorem dX1_nextReady_26 : decode cX1_nextReady 26 = .ok (.iload_n 3, 1) := by decide +kernel
theorem dX1_nextReady_27 : decode cX1_nextReady 27 = .ok (.iconst (-1), 1) := by decide +kernel
theorem dX1_nextReady_28 : decode cX1_nextReady 28 = .ok (.if_icmp .eq 13, 3) := by decide +kernel
theorem dX1_nextReady_31 : decode cX1_nextReady 31 = .ok (.aload_n 0, 1) := by decide +kernel
theorem dX1_nextReady_32 : decode cX1_nextReady 32 = .ok (.iload_n 3, 1) := by decide +kernel
theorem dX1_nextReady_33 : decode cX1_nextReady 33 = .ok (.iload 5, 2) := by decide +kernel
theorem dX1_nextReady_35 : decode cX1_nextReady 35 = .ok (.invokevirtual 60, 3) := by decide +kernel
theorem dX1_nextReady_38 : decode cX1_nextReady 38 = .ok (.ifCond .eq 24, 3) := by decide +kernel
theorem dX1_nextReady_41 : decode cX1_nextReady 41 = .ok (.iload 4, 2) := by decide +kernel
theorem dX1_nextReady_43 : decode cX1_nextReady 43 = .ok (.iconst (-1), 1) := by decide +kernel
theorem dX1_nextReady_44 : decode cX1_nextReady 44 = .ok (.if_icmp .eq 14, 3) := by decide +kernel
theorem dX1_nextReady_47 : decode cX1_nextReady 47 = .ok (.aload_n 0, 1) := by decide +kernel
theorem dX1_nextReady_48 : decode cX1_nextReady 48 = .ok (.iload 5, 2) := by decide +kernel
theorem dX1_nextReady_50 : decode cX1_nextReady 50 = .ok (.iload 4, 2) := by decide +kernel
theorem dX1_nextReady_52 : decode cX1_nextReady 52 = .ok (.invokevirtual 60, 3) := by decide +kernel
theorem dX1_nextReady_55 : decode cX1_nextReady 55 = .ok (.ifCond .eq 7, 3) := by decide +kernel
theorem dX1_nextReady_58 : decode cX1_nextReady 58 = .ok (.iload 5, 2) := by decide +kernel
theorem dX1_nextReady_60 : decode cX1_nextReady 60 = .ok (.istore 4, 2) := by decide +kernel
theorem dX1_nextReady_62 : decode cX1_nextReady 62 = .ok (.iinc 5 1, 3) := by decide +kernel
theorem dX1_nextReady_65 : decode cX1_nextReady 65 = .ok (.goto (-59), 3) := by decide +kernel
theorem dX1_nextReady_68 : decode cX1_nextReady 68 = .ok (.iload 4, 2) := by decide +kernel
theorem dX1_nextReady_70 : decode cX1_nextReady 70 = .ok (.ireturn, 1) := by decide +kernel
theorem dX1_giveTo_0 : decode cX1_giveTo 0 = .ok (.aload_n 0, 1) := by decide +kernel
theorem dX1_giveTo_1 : decode cX1_giveTo 1 = .ok (.getfield 28, 3) := by decide +kernel
theorem dX1_giveTo_4 : decode cX1_giveTo 4 = .ok (.iload_n 2, 1) := by decide +kernel
theorem dX1_giveTo_5 : decode cX1_giveTo 5 = .ok (.bipush 116, 2) := by decide +kernel
theorem dX1_giveTo_7 : decode cX1_giveTo 7 = .ok (.castore, 1) := by decide +kernel
theorem dX1_giveTo_8 : decode cX1_giveTo 8 = .ok (.aload_n 0, 1) := by decide +kernel
theorem dX1_giveTo_9 : decode cX1_giveTo 9 = .ok (.getfield 37, 3) := by decide +kernel
theorem dX1_giveTo_12 : decode cX1_giveTo 12 = .ok (.iload_n 2, 1) := by decide +kernel
theorem dX1_giveTo_13 : decode cX1_giveTo 13 = .ok (.iload_n 1, 1) := by decide +kernel
theorem dX1_giveTo_14 : decode cX1_giveTo 14 = .ok (.iastore, 1) := by decide +kernel
theorem dX1_giveTo_15 : decode cX1_giveTo 15 = .ok (.aload_n 0, 1) := by decide +kernel
theorem dX1_giveTo_16 : decode cX1_giveTo 16 = .ok (.getfield 40, 3) := by decide +kernel
theorem dX1_giveTo_19 : decode cX1_giveTo 19 = .ok (.iload_n 2, 1) := by decide +kernel
theorem dX1_giveTo_20 : decode cX1_giveTo 20 = .ok (.iload_n 3, 1) := by decide +kernel
theorem dX1_giveTo_21 : decode cX1_giveTo 21 = .ok (.iastore, 1) := by decide +kernel
theorem dX1_giveTo_22 : decode cX1_giveTo 22 = .ok (.return_, 1) := by decide +kernel
theorem dX1_countTakenBy_0 : decode cX1_countTakenBy 0 = .ok (.iconst 0, 1) := by decide +kernel
theorem dX1_countTakenBy_1 : decode cX1_countTakenBy 1 = .ok (.istore_n 2, 1) := by decide +kernel
theorem dX1_countTakenBy_2 : decode cX1_countTakenBy 2 = .ok (.iconst 0, 1) := by decide +kernel
theorem dX1_countTakenBy_3 : decode cX1_countTakenBy 3 = .ok (.istore_n 3, 1) := by decide +kernel
theorem dX1_countTakenBy_4 : decode cX1_countTakenBy 4 = .ok (.iload_n 3, 1) := by decide +kernel
theorem dX1_countTakenBy_5 : decode cX1_countTakenBy 5 = .ok (.aload_n 0, 1) := by decide +kernel
theorem dX1_countTakenBy_6 : decode cX1_countTakenBy 6 = .ok (.getfield 46, 3) := by decide +kernel
theorem dX1_countTakenBy_9 : decode cX1_countTakenBy 9 = .ok (.if_icmp .ge 33, 3) := by decide +kernel
theorem dX1_countTakenBy_12 : decode cX1_countTakenBy 12 = .ok (.aload_n 0, 1) := by decide +kernel
theorem dX1_countTakenBy_13 : decode cX1_countTakenBy 13 = .ok (.getfield 28, 3) := by decide +kernel
theorem dX1_countTakenBy_16 : decode cX1_countTakenBy 16 = .ok (.iload_n 3, 1) := by decide +kernel
theorem dX1_countTakenBy_17 : decode cX1_countTakenBy 17 = .ok (.caload, 1) := by decide +kernel
theorem dX1_countTakenBy_18 : decode cX1_countTakenBy 18 = .ok (.bipush 116, 2) := by decide +kernel
theorem dX1_countTakenBy_20 : decode cX1_countTakenBy 20 = .ok (.if_icmp .ne 16, 3) := by decide +kernel
theorem dX1_countTakenBy_23 : decode cX1_countTakenBy 23 = .ok (.aload_n 0, 1) := by decide +kernel
theorem dX1_countTakenBy_24 : decode cX1_countTakenBy 24 = .ok (.getfield 37, 3) := by decide +kernel
theorem dX1_countTakenBy_27 : decode cX1_countTakenBy 27 = .ok (.iload_n 3, 1) := by decide +kernel
theorem dX1_countTakenBy_28 : decode cX1_countTakenBy 28 = .ok (.iaload, 1) := by decide +kernel
theorem dX1_countTakenBy_29 : decode cX1_countTakenBy 29 = .ok (.iload_n 1, 1) := by decide +kernel
theorem dX1_countTakenBy_30 : decode cX1_countTakenBy 30 = .ok (.if_icmp .ne 6, 3) := by decide +kernel
theorem dX1_countTakenBy_33 : decode cX1_countTakenBy 33 = .ok (.iinc 2 1, 3) := by decide +kernel
theorem dX1_countTakenBy_36 : decode cX1_countTakenBy 36 = .ok (.iinc 3 1, 3) := by decide +kernel
theorem dX1_countTakenBy_39 : decode cX1_countTakenBy 39 = .ok (.goto (-35), 3) := by decide +kernel
theorem dX1_countTakenBy_42 : decode cX1_countTakenBy 42 = .ok (.iload_n 2, 1) := by decide +kernel
theorem dX1_countTakenBy_43 : decode cX1_countTakenBy 43 = .ok (.ireturn, 1) := by decide +kernel
theorem dX1_countIn_0 : decode cX1_countIn 0 = .ok (.iconst 0, 1) := by decide +kernel
theorem dX1_countIn_1 : decode cX1_countIn 1 = .ok (.istore_n 2, 1) := by decide +kernel
theorem dX1_countIn_2 : decode cX1_countIn 2 = .ok (.iconst 0, 1) := by decide +kernel
theorem dX1_countIn_3 : decode cX1_countIn 3 = .ok (.istore_n 3, 1) := by decide +kernel
theorem dX1_countIn_4 : decode cX1_countIn 4 = .ok (.iload_n 3, 1) := by decide +kernel
theorem dX1_countIn_5 : decode cX1_countIn 5 = .ok (.aload_n 0, 1) := by decide +kernel
theorem dX1_countIn_6 : decode cX1_countIn 6 = .ok (.getfield 46, 3) := by decide +kernel
theorem dX1_countIn_9 : decode cX1_countIn 9 = .ok (.if_icmp .ge 22, 3) := by decide +kernel
theorem dX1_countIn_12 : decode cX1_countIn 12 = .ok (.aload_n 0, 1) := by decide +kernel
theorem dX1_countIn_13 : decode cX1_countIn 13 = .ok (.getfield 28, 3) := by decide +kernel
theorem dX1_countIn_16 : decode cX1_countIn 16 = .ok (.iload_n 3, 1) := by decide +kernel
theorem dX1_countIn_17 : decode cX1_countIn 17 = .ok (.caload, 1) := by decide +kernel
theorem dX1_countIn_18 : decode cX1_countIn 18 = .ok (.iload_n 1, 1) := by decide +kernel
theorem dX1_countIn_19 : decode cX1_countIn 19 = .ok (.if_icmp .ne 6, 3) := by decide +kernel
theorem dX1_countIn_22 : decode cX1_countIn 22 = .ok (.iinc 2 1, 3) := by decide +kernel
theorem dX1_countIn_25 : decode cX1_countIn 25 = .ok (.iinc 3 1, 3) := by decide +kernel
theorem dX1_countIn_28 : decode cX1_countIn 28 = .ok (.goto (-24), 3) := by decide +kernel
theorem dX1_countIn_31 : decode cX1_countIn 31 = .ok (.iload_n 2, 1) := by decide +kernel
theorem dX1_countIn_32 : decode cX1_countIn 32 = .ok (.ireturn, 1) := by decide +kernel
theorem dX1_close_0 : decode cX1_close 0 = .ok (.aload_n 0, 1) := by decide +kernel
theorem dX1_close_1 : decode cX1_close 1 = .ok (.getfield 28, 3) := by decide +kernel
theorem dX1_close_4 : decode cX1_close 4 = .ok (.iload_n 1, 1) := by decide +kernel
theorem dX1_close_5 : decode cX1_close 5 = .ok (.bipush 100, 2) := by decide +kernel
theorem dX1_close_7 : decode cX1_close 7 = .ok (.castore, 1) := by decide +kernel
theorem dX1_close_8 : decode cX1_close 8 = .ok (.aload_n 0, 1) := by decide +kernel
theorem dX1_close_9 : decode cX1_close 9 = .ok (.getfield 64, 3) := by decide +kernel
theorem dX1_close_12 : decode cX1_close 12 = .ok (.bipush 80, 2) := by decide +kernel
theorem dX1_close_14 : decode cX1_close 14 = .ok (.if_icmp .ge 23, 3) := by decide +kernel
theorem dX1_close_17 : decode cX1_close 17 = .ok (.aload_n 0, 1) := by decide +kernel
theorem dX1_close_18 : decode cX1_close 18 = .ok (.getfield 43, 3) := by decide +kernel
theorem dX1_close_21 : decode cX1_close 21 = .ok (.aload_n 0, 1) := by decide +kernel
theorem dX1_close_22 : decode cX1_close 22 = .ok (.getfield 64, 3) := by decide +kernel
theorem dX1_close_25 : decode cX1_close 25 = .ok (.iload_n 1, 1) := by decide +kernel
theorem dX1_close_26 : decode cX1_close 26 = .ok (.iastore, 1) := by decide +kernel
theorem dX1_close_27 : decode cX1_close 27 = .ok (.aload_n 0, 1) := by decide +kernel
theorem dX1_close_28 : decode cX1_close 28 = .ok (.dup, 1) := by decide +kernel
theorem dX1_close_29 : decode cX1_close 29 = .ok (.getfield 64, 3) := by decide +kernel
theorem dX1_close_32 : decode cX1_close 32 = .ok (.iconst 1, 1) := by decide +kernel
theorem dX1_close_33 : decode cX1_close 33 = .ok (.iadd, 1) := by decide +kernel
theorem dX1_close_34 : decode cX1_close 34 = .ok (.putfield 64, 3) := by decide +kernel
theorem dX1_close_37 : decode cX1_close 37 = .ok (.return_, 1) := by decide +kernel
theorem dX1_putBack_0 : decode cX1_putBack 0 = .ok (.aload_n 0, 1) := by decide +kernel
theorem dX1_putBack_1 : decode cX1_putBack 1 = .ok (.getfield 34, 3) := by decide +kernel
theorem dX1_putBack_4 : decode cX1_putBack 4 = .ok (.iload_n 1, 1) := by decide +kernel
theorem dX1_putBack_5 : decode cX1_putBack 5 = .ok (.dup2, 1) := by decide +kernel
theorem dX1_putBack_6 : decode cX1_putBack 6 = .ok (.iaload, 1) := by decide +kernel
theorem dX1_putBack_7 : decode cX1_putBack 7 = .ok (.iconst 1, 1) := by decide +kernel
theorem dX1_putBack_8 : decode cX1_putBack 8 = .ok (.iadd, 1) := by decide +kernel
theorem dX1_putBack_9 : decode cX1_putBack 9 = .ok (.iastore, 1) := by decide +kernel
theorem dX1_putBack_10 : decode cX1_putBack 10 = .ok (.aload_n 0, 1) := by decide +kernel
theorem dX1_putBack_11 : decode cX1_putBack 11 = .ok (.getfield 34, 3) := by decide +kernel
theorem dX1_putBack_14 : decode cX1_putBack 14 = .ok (.iload_n 1, 1) := by decide +kernel
theorem dX1_putBack_15 : decode cX1_putBack 15 = .ok (.iaload, 1) := by decide +kernel
theorem dX1_putBack_16 : decode cX1_putBack 16 = .ok (.iconst 3, 1) := by decide +kernel
theorem dX1_putBack_17 : decode cX1_putBack 17 = .ok (.if_icmp .lt 14, 3) := by decide +kernel
theorem dX1_putBack_20 : decode cX1_putBack 20 = .ok (.aload_n 0, 1) := by decide +kernel
theorem dX1_putBack_21 : decode cX1_putBack 21 = .ok (.getfield 28, 3) := by decide +kernel
theorem dX1_putBack_24 : decode cX1_putBack 24 = .ok (.iload_n 1, 1) := by decide +kernel
theorem dX1_putBack_25 : decode cX1_putBack 25 = .ok (.bipush 120, 2) := by decide +kernel
theorem dX1_putBack_27 : decode cX1_putBack 27 = .ok (.castore, 1) := by decide +kernel
theorem dX1_putBack_28 : decode cX1_putBack 28 = .ok (.goto 27, 3) := by decide +kernel
theorem dX1_putBack_31 : decode cX1_putBack 31 = .ok (.aload_n 0, 1) := by decide +kernel
theorem dX1_putBack_32 : decode cX1_putBack 32 = .ok (.getfield 28, 3) := by decide +kernel
theorem dX1_putBack_35 : decode cX1_putBack 35 = .ok (.iload_n 1, 1) := by decide +kernel
theorem dX1_putBack_36 : decode cX1_putBack 36 = .ok (.bipush 119, 2) := by decide +kernel
theorem dX1_putBack_38 : decode cX1_putBack 38 = .ok (.castore, 1) := by decide +kernel
theorem dX1_putBack_39 : decode cX1_putBack 39 = .ok (.aload_n 0, 1) := by decide +kernel
theorem dX1_putBack_40 : decode cX1_putBack 40 = .ok (.getfield 31, 3) := by decide +kernel
theorem dX1_putBack_43 : decode cX1_putBack 43 = .ok (.iload_n 1, 1) := by decide +kernel
theorem dX1_putBack_44 : decode cX1_putBack 44 = .ok (.iload_n 2, 1) := by decide +kernel
theorem dX1_putBack_45 : decode cX1_putBack 45 = .ok (.iconst 2, 1) := by decide +kernel
theorem dX1_putBack_46 : decode cX1_putBack 46 = .ok (.aload_n 0, 1) := by decide +kernel
theorem dX1_putBack_47 : decode cX1_putBack 47 = .ok (.getfield 34, 3) := by decide +kernel
theorem dX1_putBack_50 : decode cX1_putBack 50 = .ok (.iload_n 1, 1) := by decide +kernel
theorem dX1_putBack_51 : decode cX1_putBack 51 = .ok (.iaload, 1) := by decide +kernel
theorem dX1_putBack_52 : decode cX1_putBack 52 = .ok (.imul, 1) := by decide +kernel
theorem dX1_putBack_53 : decode cX1_putBack 53 = .ok (.iadd, 1) := by decide +kernel
theorem dX1_putBack_54 : decode cX1_putBack 54 = .ok (.iastore, 1) := by decide +kernel
theorem dX1_putBack_55 : decode cX1_putBack 55 = .ok (.return_, 1) := by decide +kernel
set_option maxRecDepth 20000 in
theorem ggX1_putBackTakenUntil_X1_putBack : GoodIn wsX1_putBackTakenUntil wsX1_putBack := goodIn_ca (goodIn_r _ [8, 9, 2, 10, 11, 12, 13, 14, 15, 16, 17, 18, 19, 20, 21, 22, 23] (by decide +kernel) (by decide +kernel)) (goodIn_sub (fun _ h => List.mem_cons_of_mem _ (List.mem_append_right _ h)) (by decide +kernel))
set_option maxRecDepth 20000 in
theorem gX1_putBackTakenUntil_X1_putBack : GoodIn wsX1_putBackTakenUntil (wsV RX1 67 RX1 yX1_putBack wsX1_putBack) := goodIn_app (goodIn_of _ (by decide +kernel)) ggX1_putBackTakenUntil_X1_putBack
theorem dX1_putBackTakenUntil_0 : decode cX1_putBackTakenUntil 0 = .ok (.iconst 0, 1) := by decide +kernel
theorem dX1_putBackTakenUntil_1 : decode cX1_putBackTakenUntil 1 = .ok (.istore_n 3, 1) := by decide +kernel
theorem dX1_putBackTakenUntil_2 : decode cX1_putBackTakenUntil 2 = .ok (.iload_n 3, 1) := by decide +kernel
theorem dX1_putBackTakenUntil_3 : decode cX1_putBackTakenUntil 3 = .ok (.aload_n 0, 1) := by decide +kernel
theorem dX1_putBackTakenUntil_4 : decode cX1_putBackTakenUntil 4 = .ok (.getfield 46, 3) := by decide +kernel
theorem dX1_putBackTakenUntil_7 : decode cX1_putBackTakenUntil 7 = .ok (.if_icmp .ge 36, 3) := by decide +kernel
theorem dX1_putBackTakenUntil_10 : decode cX1_putBackTakenUntil 10 = .ok (.aload_n 0, 1) := by decide +kernel
theorem dX1_putBackTakenUntil_11 : decode cX1_putBackTakenUntil 11 = .ok (.getfield 28, 3) := by decide +kernel
theorem dX1_putBackTakenUntil_14 : decode cX1_putBackTakenUntil 14 = .ok (.iload_n 3, 1) := by decide +kernel
theorem dX1_putBackTakenUntil_15 : decode cX1_putBackTakenUntil 15 = .ok (.caload, 1) := by decide +kernel
theorem dX1_putBackTakenUntil_16 : decode cX1_putBackTakenUntil 16 = .ok (.bipush 116, 2) := by decide +kernel
theorem dX1_putBackTakenUntil_18 : decode cX1_putBackTakenUntil 18 = .ok (.if_icmp .ne 19, 3) := by decide +kernel
theorem dX1_putBackTakenUntil_21 : decode cX1_putBackTakenUntil 21 = .ok (.aload_n 0, 1) := by decide +kernel
theorem dX1_putBackTakenUntil_22 : decode cX1_putBackTakenUntil 22 = .ok (.getfield 40, 3) := by decide +kernel
theorem dX1_putBackTakenUntil_25 : decode cX1_putBackTakenUntil 25 = .ok (.iload_n 3, 1) := by decide +kernel
theorem dX1_putBackTakenUntil_26 : decode cX1_putBackTakenUntil 26 = .ok (.iaload, 1) := by decide +kernel
theorem dX1_putBackTakenUntil_27 : decode cX1_putBackTakenUntil 27 = .ok (.iload_n 1, 1) := by decide +kernel
theorem dX1_putBackTakenUntil_28 : decode cX1_putBackTakenUntil 28 = .ok (.if_icmp .gt 9, 3) := by decide +kernel
theorem dX1_putBackTakenUntil_31 : decode cX1_putBackTakenUntil 31 = .ok (.aload_n 0, 1) := by decide +kernel
theorem dX1_putBackTakenUntil_32 : decode cX1_putBackTakenUntil 32 = .ok (.iload_n 3, 1) := by decide +kernel
theorem dX1_putBackTakenUntil_33 : decode cX1_putBackTakenUntil 33 = .ok (.iload_n 2, 1) := by decide +kernel
theorem dX1_putBackTakenUntil_34 : decode cX1_putBackTakenUntil 34 = .ok (.invokevirtual 67, 3) := by decide +kernel
theorem dX1_putBackTakenUntil_37 : decode cX1_putBackTakenUntil 37 = .ok (.iinc 3 1, 3) := by decide +kernel
theorem dX1_putBackTakenUntil_40 : decode cX1_putBackTakenUntil 40 = .ok (.goto (-38), 3) := by decide +kernel
theorem dX1_putBackTakenUntil_43 : decode cX1_putBackTakenUntil 43 = .ok (.return_, 1) := by decide +kernel
theorem dX1_wake_0 : decode cX1_wake 0 = .ok (.aload_n 0, 1) := by decide +kernel
theorem dX1_wake_1 : decode cX1_wake 1 = .ok (.getfield 28, 3) := by decide +kernel
theorem dX1_wake_4 : decode cX1_wake 4 = .ok (.iload_n 1, 1) := by decide +kernel
theorem dX1_wake_5 : decode cX1_wake 5 = .ok (.bipush 119, 2) := by decide +kernel
theorem dX1_wake_7 : decode cX1_wake 7 = .ok (.castore, 1) := by decide +kernel
theorem dX1_wake_8 : decode cX1_wake 8 = .ok (.aload_n 0, 1) := by decide +kernel
theorem dX1_wake_9 : decode cX1_wake 9 = .ok (.getfield 31, 3) := by decide +kernel
theorem dX1_wake_12 : decode cX1_wake 12 = .ok (.iload_n 1, 1) := by decide +kernel
theorem dX1_wake_13 : decode cX1_wake 13 = .ok (.iload_n 2, 1) := by decide +kernel
theorem dX1_wake_14 : decode cX1_wake 14 = .ok (.iastore, 1) := by decide +kernel
theorem dX1_wake_15 : decode cX1_wake 15 = .ok (.aload_n 0, 1) := by decide +kernel
theorem dX1_wake_16 : decode cX1_wake 16 = .ok (.getfield 34, 3) := by decide +kernel
theorem dX1_wake_19 : decode cX1_wake 19 = .ok (.iload_n 1, 1) := by decide +kernel
theorem dX1_wake_20 : decode cX1_wake 20 = .ok (.iconst 0, 1) := by decide +kernel
theorem dX1_wake_21 : decode cX1_wake 21 = .ok (.iastore, 1) := by decide +kernel
theorem dX1_wake_22 : decode cX1_wake 22 = .ok (.return_, 1) := by decide +kernel
set_option maxRecDepth 20000 in
theorem ggX1_lettersFrom_X1_contains : GoodIn wsX1_lettersFrom wsX1_contains := goodIn_r _ [14, 15, 16, 17, 18, 19, 20, 21, 22, 23, 24, 25, 26, 27, 28] (by decide +kernel) (by decide +kernel)
set_option maxRecDepth 20000 in
theorem gX1_lettersFrom_X1_contains : GoodIn wsX1_lettersFrom (wsV RX1 71 RX1 yX1_contains wsX1_contains) := goodIn_app (goodIn_of _ (by decide +kernel)) ggX1_lettersFrom_X1_contains
theorem dX1_lettersFrom_0 : decode cX1_lettersFrom 0 = .ok (.iload_n 2, 1) := by decide +kernel
theorem dX1_lettersFrom_1 : decode cX1_lettersFrom 1 = .ok (.istore_n 3, 1) := by decide +kernel
theorem dX1_lettersFrom_2 : decode cX1_lettersFrom 2 = .ok (.iconst 0, 1) := by decide +kernel
theorem dX1_lettersFrom_3 : decode cX1_lettersFrom 3 = .ok (.istore 4, 2) := by decide +kernel
theorem dX1_lettersFrom_5 : decode cX1_lettersFrom 5 = .ok (.iconst 0, 1) := by decide +kernel
theorem dX1_lettersFrom_6 : decode cX1_lettersFrom 6 = .ok (.istore 5, 2) := by decide +kernel
theorem dX1_lettersFrom_8 : decode cX1_lettersFrom 8 = .ok (.iload 5, 2) := by decide +kernel
theorem dX1_lettersFrom_10 : decode cX1_lettersFrom 10 = .ok (.aload_n 0, 1) := by decide +kernel
theorem dX1_lettersFrom_11 : decode cX1_lettersFrom 11 = .ok (.getfield 64, 3) := by decide +kernel
theorem dX1_lettersFrom_14 : decode cX1_lettersFrom 14 = .ok (.if_icmp .ge 98, 3) := by decide +kernel
theorem dX1_lettersFrom_17 : decode cX1_lettersFrom 17 = .ok (.aload_n 0, 1) := by decide +kernel
theorem dX1_lettersFrom_18 : decode cX1_lettersFrom 18 = .ok (.getfield 43, 3) := by decide +kernel
theorem dX1_lettersFrom_21 : decode cX1_lettersFrom 21 = .ok (.iload 5, 2) := by decide +kernel
theorem dX1_lettersFrom_23 : decode cX1_lettersFrom 23 = .ok (.iaload, 1) := by decide +kernel
theorem dX1_lettersFrom_24 : decode cX1_lettersFrom 24 = .ok (.istore 6, 2) := by decide +kernel
theorem dX1_lettersFrom_26 : decode cX1_lettersFrom 26 = .ok (.aload_n 0, 1) := by decide +kernel
theorem dX1_lettersFrom_27 : decode cX1_lettersFrom 27 = .ok (.iload 6, 2) := by decide +kernel
theorem dX1_lettersFrom_29 : decode cX1_lettersFrom 29 = .ok (.invokevirtual 71, 3) := by decide +kernel
theorem dX1_lettersFrom_32 : decode cX1_lettersFrom 32 = .ok (.ifCond .eq 74, 3) := by decide +kernel
theorem dX1_lettersFrom_35 : decode cX1_lettersFrom 35 = .ok (.aload_n 0, 1) := by decide +kernel
theorem dX1_lettersFrom_36 : decode cX1_lettersFrom 36 = .ok (.getfield 22, 3) := by decide +kernel
theorem dX1_lettersFrom_39 : decode cX1_lettersFrom 39 = .ok (.iload 6, 2) := by decide +kernel
theorem dX1_lettersFrom_41 : decode cX1_lettersFrom 41 = .ok (.iaload, 1) := by decide +kernel
theorem dX1_lettersFrom_42 : decode cX1_lettersFrom 42 = .ok (.iload_n 1, 1) := by decide +kernel
theorem dX1_lettersFrom_43 : decode cX1_lettersFrom 43 = .ok (.if_icmp .ne 63, 3) := by decide +kernel
theorem dX1_lettersFrom_46 : decode cX1_lettersFrom 46 = .ok (.aload_n 0, 1) := by decide +kernel
theorem dX1_lettersFrom_47 : decode cX1_lettersFrom 47 = .ok (.getfield 18, 3) := by decide +kernel
theorem dX1_lettersFrom_50 : decode cX1_lettersFrom 50 = .ok (.iload 6, 2) := by decide +kernel
theorem dX1_lettersFrom_52 : decode cX1_lettersFrom 52 = .ok (.caload, 1) := by decide +kernel
theorem dX1_lettersFrom_53 : decode cX1_lettersFrom 53 = .ok (.bipush 112, 2) := by decide +kernel
theorem dX1_lettersFrom_55 : decode cX1_lettersFrom 55 = .ok (.if_icmp .ne 20, 3) := by decide +kernel
theorem dX1_lettersFrom_58 : decode cX1_lettersFrom 58 = .ok (.iconst 0, 1) := by decide +kernel
theorem dX1_lettersFrom_59 : decode cX1_lettersFrom 59 = .ok (.iload_n 3, 1) := by decide +kernel
theorem dX1_lettersFrom_60 : decode cX1_lettersFrom 60 = .ok (.aload_n 0, 1) := by decide +kernel
theorem dX1_lettersFrom_61 : decode cX1_lettersFrom 61 = .ok (.getfield 25, 3) := by decide +kernel
theorem dX1_lettersFrom_64 : decode cX1_lettersFrom 64 = .ok (.iload 6, 2) := by decide +kernel
theorem dX1_lettersFrom_66 : decode cX1_lettersFrom 66 = .ok (.iaload, 1) := by decide +kernel
theorem dX1_lettersFrom_67 : decode cX1_lettersFrom 67 = .ok (.isub, 1) := by decide +kernel
theorem dX1_lettersFrom_68 : decode cX1_lettersFrom 68 = .ok (.invokestatic 50, 3) := by decide +kernel
theorem dX1_lettersFrom_71 : decode cX1_lettersFrom 71 = .ok (.istore_n 3, 1) := by decide +kernel
theorem dX1_lettersFrom_72 : decode cX1_lettersFrom 72 = .ok (.goto 34, 3) := by decide +kernel
theorem dX1_lettersFrom_75 : decode cX1_lettersFrom 75 = .ok (.aload_n 0, 1) := by decide +kernel
theorem dX1_lettersFrom_76 : decode cX1_lettersFrom 76 = .ok (.getfield 18, 3) := by decide +kernel
theorem dX1_lettersFrom_79 : decode cX1_lettersFrom 79 = .ok (.iload 6, 2) := by decide +kernel
theorem dX1_lettersFrom_81 : decode cX1_lettersFrom 81 = .ok (.caload, 1) := by decide +kernel
theorem dX1_lettersFrom_82 : decode cX1_lettersFrom 82 = .ok (.bipush 114, 2) := by decide +kernel
theorem dX1_lettersFrom_84 : decode cX1_lettersFrom 84 = .ok (.if_icmp .ne 22, 3) := by decide +kernel
theorem dX1_lettersFrom_87 : decode cX1_lettersFrom 87 = .ok (.iload_n 3, 1) := by decide +kernel
theorem dX1_lettersFrom_88 : decode cX1_lettersFrom 88 = .ok (.ifCond .le 18, 3) := by decide +kernel
theorem dX1_lettersFrom_91 : decode cX1_lettersFrom 91 = .ok (.aload_n 0, 1) := by decide +kernel
theorem dX1_lettersFrom_92 : decode cX1_lettersFrom 92 = .ok (.getfield 25, 3) := by decide +kernel
theorem dX1_lettersFrom_95 : decode cX1_lettersFrom 95 = .ok (.iload 6, 2) := by decide +kernel
theorem dX1_lettersFrom_97 : decode cX1_lettersFrom 97 = .ok (.iaload, 1) := by decide +kernel
theorem dX1_lettersFrom_98 : decode cX1_lettersFrom 98 = .ok (.iload 4, 2) := by decide +kernel
theorem dX1_lettersFrom_100 : decode cX1_lettersFrom 100 = .ok (.if_icmp .ne 6, 3) := by decide +kernel
theorem dX1_lettersFrom_103 : decode cX1_lettersFrom 103 = .ok (.iinc 4 1, 3) := by decide +kernel
theorem dX1_lettersFrom_106 : decode cX1_lettersFrom 106 = .ok (.iinc 5 1, 3) := by decide +kernel
theorem dX1_lettersFrom_109 : decode cX1_lettersFrom 109 = .ok (.goto (-101), 3) := by decide +kernel
theorem dX1_lettersFrom_112 : decode cX1_lettersFrom 112 = .ok (.iload 4, 2) := by decide +kernel
theorem dX1_lettersFrom_114 : decode cX1_lettersFrom 114 = .ok (.ireturn, 1) := by decide +kernel
set_option maxRecDepth 20000 in
theorem ggX2_init_X0_init : GoodIn wsX2_init wsX0_init := goodIn_r _ [14, 15, 2, 3, 16, 17, 18, 19, 20, 21, 22, 23, 39, 40, 41, 42, 43, 44, 45] (by decide +kernel) (by decide +kernel)
set_option maxRecDepth 20000 in
theorem gX2_init_X0_init_n9 : GoodIn wsX2_init (wsX0_init) := ggX2_init_X0_init
set_option maxRecDepth 20000 in
theorem ggX2_init_X1_init : GoodIn wsX2_init wsX1_init := goodIn_r _ [25, 26, 2, 3, 16, 27, 28, 29, 30, 31, 32, 33, 34, 35, 36, 37, 38, 49, 50, 51, 52, 53, 54, 55, 56, 57, 58, 59, 60, 61] (by decide +kernel) (by decide +kernel)
set_option maxRecDepth 20000 in
theorem gX2_init_X1_init_n18 : GoodIn wsX2_init (wsX1_init) := ggX2_init_X1_init
end
section
theorem dX2_init_0 : decode cX2_init 0 = .ok (.aload_n 0, 1) := by decide +kernel
theorem dX2_init_1 : decode cX2_init 1 = .ok (.invokespecial 1, 3) := by decide +kernel
theorem dX2_init_4 : decode cX2_init 4 = .ok (.aload_n 0, 1) := by decide +kernel
theorem dX2_init_5 : decode cX2_init 5 = .ok (.new 7, 3) := by decide +kernel
theorem dX2_init_8 : decode cX2_init 8 = .ok (.dup, 1) := by decide +kernel
theorem dX2_init_9 : decode cX2_init 9 = .ok (.invokespecial 9, 3) := by decide +kernel
theorem dX2_init_12 : decode cX2_init 12 = .ok (.putfield 10, 3) := by decide +kernel
theorem dX2_init_15 : decode cX2_init 15 = .ok (.aload_n 0, 1) := by decide +kernel
theorem dX2_init_16 : decode cX2_init 16 = .ok (.new 16, 3) := by decide +kernel
theorem dX2_init_19 : decode cX2_init 19 = .ok (.dup, 1) := by decide +kernel
theorem dX2_init_20 : decode cX2_init 20 = .ok (.invokespecial 18, 3) := by decide +kernel
theorem dX2_init_23 : decode cX2_init 23 = .ok (.putfield 19, 3) := by decide +kernel
theorem dX2_init_26 : decode cX2_init 26 = .ok (.aload_n 0, 1) := by decide +kernel
theorem dX2_init_27 : decode cX2_init 27 = .ok (.iconst 0, 1) := by decide +kernel
theorem dX2_init_28 : decode cX2_init 28 = .ok (.putfield 23, 3) := by decide +kernel
theorem dX2_init_31 : decode cX2_init 31 = .ok (.return_, 1) := by decide +kernel
set_option maxRecDepth 20000 in
theorem ggX2_open_X2_isWithin : GoodIn wsX2_open wsX2_isWithin := goodIn_r _ [11] (by decide +kernel) (by decide +kernel)
set_option maxRecDepth 20000 in
theorem gX2_open_X2_isWithin : GoodIn wsX2_open (va_wsS RX2 27 yX2_isWithin wsX2_isWithin) := goodIn_app (goodIn_of _ (by decide +kernel)) ggX2_open_X2_isWithin
set_option maxRecDepth 20000 in
theorem ggX2_open_X0_isFull : GoodIn wsX2_open wsX0_isFull := goodIn_r _ [15, 16, 38, 39, 40, 41, 42, 43, 44] (by decide +kernel) (by decide +kernel)
set_option maxRecDepth 20000 in
theorem gX2_open_X0_isFull_n38 : GoodIn wsX2_open (wsX0_isFull) := ggX2_open_X0_isFull
set_option maxRecDepth 20000 in
theorem ggX2_open_X0_add : GoodIn wsX2_open wsX0_add := goodIn_ca (goodIn_r _ [19, 16, 20, 21, 22, 38, 39, 40, 41, 42, 43, 44] (by decide +kernel) (by decide +kernel)) (goodIn_sub (fun _ h => List.mem_cons_of_mem _ (List.mem_append_right _ h)) (by decide +kernel))
set_option maxRecDepth 20000 in
theorem gX2_open_X0_add_n47 : GoodIn wsX2_open (wsX0_add) := ggX2_open_X0_add
set_option maxRecDepth 20000 in
theorem ggX2_open_X1_release : GoodIn wsX2_open wsX1_release := goodIn_ca (goodIn_r _ [26, 27, 28, 29, 30, 31, 32, 33, 34, 45, 46, 47, 48, 49, 50, 51, 52, 53, 54, 55, 56, 57] (by decide +kernel) (by decide +kernel)) (goodIn_sub (fun _ h => List.mem_cons_of_mem _ (List.mem_append_right _ h)) (by decide +kernel))
set_option maxRecDepth 20000 in
theorem gX2_open_X1_release_n51 : GoodIn wsX2_open (wsX1_release) := ggX2_open_X1_release
theorem dX2_open_0 : decode cX2_open 0 = .ok (.iload_n 1, 1) := by decide +kernel
theorem dX2_open_1 : decode cX2_open 1 = .ok (.iconst 1, 1) := by decide +kernel
theorem dX2_open_2 : decode cX2_open 2 = .ok (.sipush 9999, 3) := by decide +kernel
theorem dX2_open_5 : decode cX2_open 5 = .ok (.invokestatic 27, 3) := by decide +kernel
theorem dX2_open_8 : decode cX2_open 8 = .ok (.ifCond .eq 14, 3) := by decide +kernel
theorem dX2_open_11 : decode cX2_open 11 = .ok (.iload_n 2, 1) := by decide +kernel
theorem dX2_open_12 : decode cX2_open 12 = .ok (.iconst 0, 1) := by decide +kernel
theorem dX2_open_13 : decode cX2_open 13 = .ok (.sipush 999, 3) := by decide +kernel
theorem dX2_open_16 : decode cX2_open 16 = .ok (.invokestatic 27, 3) := by decide +kernel
theorem dX2_open_19 : decode cX2_open 19 = .ok (.ifCond .ne 13, 3) := by decide +kernel
theorem dX2_open_22 : decode cX2_open 22 = .ok (.new 31, 3) := by decide +kernel
theorem dX2_open_25 : decode cX2_open 25 = .ok (.dup, 1) := by decide +kernel
theorem dX2_open_26 : decode cX2_open 26 = .ok (.ldc 33, 2) := by decide +kernel
theorem dX2_open_28 : decode cX2_open 28 = .ok (.invokespecial 35, 3) := by decide +kernel
theorem dX2_open_31 : decode cX2_open 31 = .ok (.athrow, 1) := by decide +kernel
theorem dX2_open_32 : decode cX2_open 32 = .ok (.aload_n 0, 1) := by decide +kernel
theorem dX2_open_33 : decode cX2_open 33 = .ok (.getfield 10, 3) := by decide +kernel
theorem dX2_open_36 : decode cX2_open 36 = .ok (.invokevirtual 38, 3) := by decide +kernel
theorem dX2_open_39 : decode cX2_open 39 = .ok (.ifCond .eq 13, 3) := by decide +kernel
theorem dX2_open_42 : decode cX2_open 42 = .ok (.new 42, 3) := by decide +kernel
theorem dX2_open_45 : decode cX2_open 45 = .ok (.dup, 1) := by decide +kernel
theorem dX2_open_46 : decode cX2_open 46 = .ok (.ldc 44, 2) := by decide +kernel
theorem dX2_open_48 : decode cX2_open 48 = .ok (.invokespecial 46, 3) := by decide +kernel
theorem dX2_open_51 : decode cX2_open 51 = .ok (.athrow, 1) := by decide +kernel
theorem dX2_open_52 : decode cX2_open 52 = .ok (.aload_n 0, 1) := by decide +kernel
theorem dX2_open_53 : decode cX2_open 53 = .ok (.getfield 10, 3) := by decide +kernel
theorem dX2_open_56 : decode cX2_open 56 = .ok (.iload_n 1, 1) := by decide +kernel
theorem dX2_open_57 : decode cX2_open 57 = .ok (.iload_n 2, 1) := by decide +kernel
theorem dX2_open_58 : decode cX2_open 58 = .ok (.invokevirtual 47, 3) := by decide +kernel
theorem dX2_open_61 : decode cX2_open 61 = .ok (.istore_n 3, 1) := by decide +kernel
theorem dX2_open_62 : decode cX2_open 62 = .ok (.aload_n 0, 1) := by decide +kernel
theorem dX2_open_63 : decode cX2_open 63 = .ok (.getfield 19, 3) := by decide +kernel
theorem dX2_open_66 : decode cX2_open 66 = .ok (.iload_n 3, 1) := by decide +kernel
theorem dX2_open_67 : decode cX2_open 67 = .ok (.aload_n 0, 1) := by decide +kernel
theorem dX2_open_68 : decode cX2_open 68 = .ok (.getfield 23, 3) := by decide +kernel
theorem dX2_open_71 : decode cX2_open 71 = .ok (.invokevirtual 51, 3) := by decide +kernel
theorem dX2_open_74 : decode cX2_open 74 = .ok (.iload_n 3, 1) := by decide +kernel
theorem dX2_open_75 : decode cX2_open 75 = .ok (.ireturn, 1) := by decide +kernel
set_option maxRecDepth 20000 in
theorem ggX2_amount_X2_requireCase : GoodIn wsX2_amount wsX2_requireCase := goodIn_ca (goodIn_r _ [6, 7, 8, 1, 9, 10, 11, 12, 13, 14, 15, 16, 17, 18, 19, 20, 21, 22, 23] (by decide +kernel) (by decide +kernel)) (goodIn_sub (fun _ h => List.mem_cons_of_mem _ (List.mem_append_right _ h)) (by decide +kernel))
set_option maxRecDepth 20000 in
theorem gX2_amount_X2_requireCase : GoodIn wsX2_amount (wsV RX2 55 RX2 yX2_requireCase wsX2_requireCase) := goodIn_app (goodIn_of _ (by decide +kernel)) ggX2_amount_X2_requireCase
theorem dX2_amount_0 : decode cX2_amount 0 = .ok (.aload_n 0, 1) := by decide +kernel
theorem dX2_amount_1 : decode cX2_amount 1 = .ok (.iload_n 1, 1) := by decide +kernel
theorem dX2_amount_2 : decode cX2_amount 2 = .ok (.invokevirtual 55, 3) := by decide +kernel
theorem dX2_amount_5 : decode cX2_amount 5 = .ok (.aload_n 0, 1) := by decide +kernel
theorem dX2_amount_6 : decode cX2_amount 6 = .ok (.getfield 10, 3) := by decide +kernel
theorem dX2_amount_9 : decode cX2_amount 9 = .ok (.getfield 59, 3) := by decide +kernel
theorem dX2_amount_12 : decode cX2_amount 12 = .ok (.iload_n 1, 1) := by decide +kernel
theorem dX2_amount_13 : decode cX2_amount 13 = .ok (.iaload, 1) := by decide +kernel
theorem dX2_amount_14 : decode cX2_amount 14 = .ok (.ireturn, 1) := by decide +kernel
set_option maxRecDepth 20000 in
theorem ggX2_pause_X2_requireCase : GoodIn wsX2_pause wsX2_requireCase := goodIn_ca (goodIn_r _ [9, 10, 11, 3, 12, 13, 14, 15, 16, 38, 39, 40, 41, 42, 43, 44, 45, 46, 47] (by decide +kernel) (by decide +kernel)) (goodIn_sub (fun _ h => List.mem_cons_of_mem _ (List.mem_append_left _ (List.mem_append_left _ (List.mem_append_right _ h)))) (by decide +kernel))
set_option maxRecDepth 20000 in
theorem gX2_pause_X2_requireCase : GoodIn wsX2_pause (wsV RX2 55 RX2 yX2_requireCase wsX2_requireCase) := goodIn_app (goodIn_of _ (by decide +kernel)) ggX2_pause_X2_requireCase
set_option maxRecDepth 20000 in
theorem ggX2_pause_X2_isWithin : GoodIn wsX2_pause wsX2_isWithin := goodIn_r _ [19] (by decide +kernel) (by decide +kernel)
set_option maxRecDepth 20000 in
theorem gX2_pause_X2_isWithin : GoodIn wsX2_pause (va_wsS RX2 27 yX2_isWithin wsX2_isWithin) := goodIn_app (goodIn_of _ (by decide +kernel)) ggX2_pause_X2_isWithin
set_option maxRecDepth 20000 in
theorem ggX2_pause_X2_requireOpen : GoodIn wsX2_pause wsX2_requireOpen := goodIn_ca (goodIn_ca (goodIn_r _ [23, 24, 25, 3, 26, 13, 27, 28, 29, 38, 39, 40, 41, 42, 43, 44, 45, 46, 47] (by decide +kernel) (by decide +kernel)) (goodIn_sub (fun _ h => List.mem_cons_of_mem _ (List.mem_append_left _ (List.mem_append_right _ h))) (by decide +kernel))) (goodIn_sub (fun _ h => List.mem_cons_of_mem _ (List.mem_append_right _ h)) (by decide +kernel))
set_option maxRecDepth 20000 in
theorem gX2_pause_X2_requireOpen : GoodIn wsX2_pause (wsV RX2 65 RX2 yX2_requireOpen wsX2_requireOpen) := goodIn_app (goodIn_of _ (by decide +kernel)) ggX2_pause_X2_requireOpen
set_option maxRecDepth 20000 in
theorem ggX2_pause_X0_pauseUntil : GoodIn wsX2_pause wsX0_pauseUntil := goodIn_ca (goodIn_r _ [32, 33, 34, 35, 36, 37, 41, 42, 43, 44, 45, 46, 47] (by decide +kernel) (by decide +kernel)) (goodIn_sub (fun _ h => List.mem_cons_of_mem _ (List.mem_append_right _ h)) (by decide +kernel))
set_option maxRecDepth 20000 in
theorem gX2_pause_X0_pauseUntil_n68 : GoodIn wsX2_pause (wsX0_pauseUntil) := ggX2_pause_X0_pauseUntil
theorem dX2_pause_0 : decode cX2_pause 0 = .ok (.aload_n 0, 1) := by decide +kernel
theorem dX2_pause_1 : decode cX2_pause 1 = .ok (.iload_n 1, 1) := by decide +kernel
theorem dX2_pause_2 : decode cX2_pause 2 = .ok (.invokevirtual 55, 3) := by decide +kernel
theorem dX2_pause_5 : decode cX2_pause 5 = .ok (.iload_n 2, 1) := by decide +kernel
theorem dX2_pause_6 : decode cX2_pause 6 = .ok (.iconst 1, 1) := by decide +kernel
theorem dX2_pause_7 : decode cX2_pause 7 = .ok (.bipush 60, 2) := by decide +kernel
theorem dX2_pause_9 : decode cX2_pause 9 = .ok (.invokestatic 27, 3) := by decide +kernel
theorem dX2_pause_12 : decode cX2_pause 12 = .ok (.ifCond .ne 13, 3) := by decide +kernel
theorem dX2_pause_15 : decode cX2_pause 15 = .ok (.new 31, 3) := by decide +kernel
theorem dX2_pause_18 : decode cX2_pause 18 = .ok (.dup, 1) := by decide +kernel
theorem dX2_pause_19 : decode cX2_pause 19 = .ok (.ldc 63, 2) := by decide +kernel
theorem dX2_pause_21 : decode cX2_pause 21 = .ok (.invokespecial 35, 3) := by decide +kernel
theorem dX2_pause_24 : decode cX2_pause 24 = .ok (.athrow, 1) := by decide +kernel
theorem dX2_pause_25 : decode cX2_pause 25 = .ok (.aload_n 0, 1) := by decide +kernel
theorem dX2_pause_26 : decode cX2_pause 26 = .ok (.iload_n 1, 1) := by decide +kernel
theorem dX2_pause_27 : decode cX2_pause 27 = .ok (.invokevirtual 65, 3) := by decide +kernel
theorem dX2_pause_30 : decode cX2_pause 30 = .ok (.aload_n 0, 1) := by decide +kernel
theorem dX2_pause_31 : decode cX2_pause 31 = .ok (.getfield 10, 3) := by decide +kernel
theorem dX2_pause_34 : decode cX2_pause 34 = .ok (.iload_n 1, 1) := by decide +kernel
theorem dX2_pause_35 : decode cX2_pause 35 = .ok (.aload_n 0, 1) := by decide +kernel
theorem dX2_pause_36 : decode cX2_pause 36 = .ok (.getfield 23, 3) := by decide +kernel
theorem dX2_pause_39 : decode cX2_pause 39 = .ok (.iload_n 2, 1) := by decide +kernel
theorem dX2_pause_40 : decode cX2_pause 40 = .ok (.iadd, 1) := by decide +kernel
theorem dX2_pause_41 : decode cX2_pause 41 = .ok (.invokevirtual 68, 3) := by decide +kernel
theorem dX2_pause_44 : decode cX2_pause 44 = .ok (.ireturn, 1) := by decide +kernel
set_option maxRecDepth 20000 in
theorem ggX2_awaitNote_X2_requireCase : GoodIn wsX2_awaitNote wsX2_requireCase := goodIn_ca (goodIn_r _ [6, 7, 8, 1, 9, 10, 11, 12, 13, 24, 25, 26, 27, 28, 29, 30, 31, 32, 33] (by decide +kernel) (by decide +kernel)) (goodIn_sub (fun _ h => List.mem_cons_of_mem _ (List.mem_append_left _ (List.mem_append_right _ h))) (by decide +kernel))
set_option maxRecDepth 20000 in
theorem gX2_awaitNote_X2_requireCase : GoodIn wsX2_awaitNote (wsV RX2 55 RX2 yX2_requireCase wsX2_requireCase) := goodIn_app (goodIn_of _ (by decide +kernel)) ggX2_awaitNote_X2_requireCase
set_option maxRecDepth 20000 in
theorem ggX2_awaitNote_X2_requireOpen : GoodIn wsX2_awaitNote wsX2_requireOpen := goodIn_ca (goodIn_ca (goodIn_r _ [17, 18, 19, 1, 20, 10, 21, 22, 23, 24, 25, 26, 27, 28, 29, 30, 31, 32, 33] (by decide +kernel) (by decide +kernel)) (goodIn_sub (fun _ h => List.mem_cons_of_mem _ (List.mem_append_right _ h)) (by decide +kernel))) (goodIn_sub (fun _ h => List.mem_cons_of_mem _ (List.mem_append_left _ (List.mem_append_left _ (List.mem_append_right _ h)))) (by decide +kernel))
set_option maxRecDepth 20000 in
theorem gX2_awaitNote_X2_requireOpen : GoodIn wsX2_awaitNote (wsV RX2 65 RX2 yX2_requireOpen wsX2_requireOpen) := goodIn_app (goodIn_of _ (by decide +kernel)) ggX2_awaitNote_X2_requireOpen
theorem dX2_awaitNote_0 : decode cX2_awaitNote 0 = .ok (.aload_n 0, 1) := by decide +kernel
theorem dX2_awaitNote_1 : decode cX2_awaitNote 1 = .ok (.iload_n 1, 1) := by decide +kernel
theorem dX2_awaitNote_2 : decode cX2_awaitNote 2 = .ok (.invokevirtual 55, 3) := by decide +kernel
theorem dX2_awaitNote_5 : decode cX2_awaitNote 5 = .ok (.aload_n 0, 1) := by decide +kernel
theorem dX2_awaitNote_6 : decode cX2_awaitNote 6 = .ok (.iload_n 1, 1) := by decide +kernel
theorem dX2_awaitNote_7 : decode cX2_awaitNote 7 = .ok (.invokevirtual 65, 3) := by decide +kernel
theorem dX2_awaitNote_10 : decode cX2_awaitNote 10 = .ok (.aload_n 0, 1) := by decide +kernel
theorem dX2_awaitNote_11 : decode cX2_awaitNote 11 = .ok (.getfield 10, 3) := by decide +kernel
theorem dX2_awaitNote_14 : decode cX2_awaitNote 14 = .ok (.getfield 71, 3) := by decide +kernel
theorem dX2_awaitNote_17 : decode cX2_awaitNote 17 = .ok (.iload_n 1, 1) := by decide +kernel
theorem dX2_awaitNote_18 : decode cX2_awaitNote 18 = .ok (.baload, 1) := by decide +kernel
theorem dX2_awaitNote_19 : decode cX2_awaitNote 19 = .ok (.istore_n 2, 1) := by decide +kernel
theorem dX2_awaitNote_20 : decode cX2_awaitNote 20 = .ok (.aload_n 0, 1) := by decide +kernel
theorem dX2_awaitNote_21 : decode cX2_awaitNote 21 = .ok (.getfield 10, 3) := by decide +kernel
theorem dX2_awaitNote_24 : decode cX2_awaitNote 24 = .ok (.getfield 71, 3) := by decide +kernel
theorem dX2_awaitNote_27 : decode cX2_awaitNote 27 = .ok (.iload_n 1, 1) := by decide +kernel
theorem dX2_awaitNote_28 : decode cX2_awaitNote 28 = .ok (.iconst 1, 1) := by decide +kernel
theorem dX2_awaitNote_29 : decode cX2_awaitNote 29 = .ok (.bastore, 1) := by decide +kernel
theorem dX2_awaitNote_30 : decode cX2_awaitNote 30 = .ok (.iload_n 2, 1) := by decide +kernel
theorem dX2_awaitNote_31 : decode cX2_awaitNote 31 = .ok (.ireturn, 1) := by decide +kernel
set_option maxRecDepth 20000 in
theorem ggX2_letters_X2_requireCase : GoodIn wsX2_letters wsX2_requireCase := goodIn_ca (goodIn_r _ [6, 7, 8, 1, 9, 10, 11, 12, 13, 14, 15, 16, 17, 18, 19, 20, 21, 22, 23] (by decide +kernel) (by decide +kernel)) (goodIn_sub (fun _ h => List.mem_cons_of_mem _ (List.mem_append_right _ h)) (by decide +kernel))
set_option maxRecDepth 20000 in
theorem gX2_letters_X2_requireCase : GoodIn wsX2_letters (wsV RX2 55 RX2 yX2_requireCase wsX2_requireCase) := goodIn_app (goodIn_of _ (by decide +kernel)) ggX2_letters_X2_requireCase
theorem dX2_letters_0 : decode cX2_letters 0 = .ok (.aload_n 0, 1) := by decide +kernel
theorem dX2_letters_1 : decode cX2_letters 1 = .ok (.iload_n 1, 1) := by decide +kernel
theorem dX2_letters_2 : decode cX2_letters 2 = .ok (.invokevirtual 55, 3) := by decide +kernel
theorem dX2_letters_5 : decode cX2_letters 5 = .ok (.aload_n 0, 1) := by decide +kernel
theorem dX2_letters_6 : decode cX2_letters 6 = .ok (.getfield 10, 3) := by decide +kernel
theorem dX2_letters_9 : decode cX2_letters 9 = .ok (.getfield 75, 3) := by decide +kernel
theorem dX2_letters_12 : decode cX2_letters 12 = .ok (.iload_n 1, 1) := by decide +kernel
theorem dX2_letters_13 : decode cX2_letters 13 = .ok (.iaload, 1) := by decide +kernel
theorem dX2_letters_14 : decode cX2_letters 14 = .ok (.ireturn, 1) := by decide +kernel
set_option maxRecDepth 20000 in
theorem ggX2_lettersByMessages_X2_requireCase : GoodIn wsX2_lettersByMessages wsX2_requireCase := goodIn_ca (goodIn_r _ [7, 8, 9, 2, 10, 11, 12, 13, 14, 33, 34, 35, 36, 37, 38, 39, 40, 41, 42] (by decide +kernel) (by decide +kernel)) (goodIn_sub (fun _ h => List.mem_cons_of_mem _ (List.mem_append_right _ h)) (by decide +kernel))
set_option maxRecDepth 20000 in
theorem gX2_lettersByMessages_X2_requireCase : GoodIn wsX2_lettersByMessages (wsV RX2 55 RX2 yX2_requireCase wsX2_requireCase) := goodIn_app (goodIn_of _ (by decide +kernel)) ggX2_lettersByMessages_X2_requireCase
set_option maxRecDepth 20000 in
theorem ggX2_lettersByMessages_X1_lettersFrom : GoodIn wsX2_lettersByMessages wsX1_lettersFrom := goodIn_ca (goodIn_r _ [18, 19, 20, 21, 22, 23, 24, 25, 26, 27, 28, 29, 30, 16, 31, 32, 43, 44, 45, 46, 47, 48, 49, 50, 51, 52, 53, 54, 55] (by decide +kernel) (by decide +kernel)) (goodIn_sub (fun _ h => List.mem_cons_of_mem _ (List.mem_append_left _ (List.mem_append_right _ h))) (by decide +kernel))
set_option maxRecDepth 20000 in
theorem gX2_lettersByMessages_X1_lettersFrom_n81 : GoodIn wsX2_lettersByMessages (wsX1_lettersFrom) := ggX2_lettersByMessages_X1_lettersFrom
theorem dX2_lettersByMessages_0 : decode cX2_lettersByMessages 0 = .ok (.aload_n 0, 1) := by decide +kernel
theorem dX2_lettersByMessages_1 : decode cX2_lettersByMessages 1 = .ok (.iload_n 1, 1) := by decide +kernel
theorem dX2_lettersByMessages_2 : decode cX2_lettersByMessages 2 = .ok (.invokevirtual 55, 3) := by decide +kernel
theorem dX2_lettersByMessages_5 : decode cX2_lettersByMessages 5 = .ok (.aload_n 0, 1) := by decide +kernel
theorem dX2_lettersByMessages_6 : decode cX2_lettersByMessages 6 = .ok (.getfield 19, 3) := by decide +kernel
theorem dX2_lettersByMessages_9 : decode cX2_lettersByMessages 9 = .ok (.iload_n 1, 1) := by decide +kernel
theorem dX2_lettersByMessages_10 : decode cX2_lettersByMessages 10 = .ok (.aload_n 0, 1) := by decide +kernel
theorem dX2_lettersByMessages_11 : decode cX2_lettersByMessages 11 = .ok (.getfield 10, 3) := by decide +kernel
theorem dX2_lettersByMessages_14 : decode cX2_lettersByMessages 14 = .ok (.getfield 78, 3) := by decide +kernel
theorem dX2_lettersByMessages_17 : decode cX2_lettersByMessages 17 = .ok (.iload_n 1, 1) := by decide +kernel
theorem dX2_lettersByMessages_18 : decode cX2_lettersByMessages 18 = .ok (.iaload, 1) := by decide +kernel
theorem dX2_lettersByMessages_19 : decode cX2_lettersByMessages 19 = .ok (.invokevirtual 81, 3) := by decide +kernel
theorem dX2_lettersByMessages_22 : decode cX2_lettersByMessages 22 = .ok (.ireturn, 1) := by decide +kernel
set_option maxRecDepth 20000 in
theorem ggX2_nextReminder_X2_requireCase : GoodIn wsX2_nextReminder wsX2_requireCase := goodIn_ca (goodIn_r _ [13, 14, 15, 4, 16, 17, 18, 19, 20, 44, 45, 46, 47, 48, 49, 50, 51, 52, 53] (by decide +kernel) (by decide +kernel)) (goodIn_sub (fun _ h => List.mem_cons_of_mem _ (List.mem_append_right _ h)) (by decide +kernel))
set_option maxRecDepth 20000 in
theorem gX2_nextReminder_X2_requireCase : GoodIn wsX2_nextReminder (wsV RX2 55 RX2 yX2_requireCase wsX2_requireCase) := goodIn_app (goodIn_of _ (by decide +kernel)) ggX2_nextReminder_X2_requireCase
set_option maxRecDepth 20000 in
theorem ggX2_nextReminder_X2_isAnyReminderLeft : GoodIn wsX2_nextReminder wsX2_isAnyReminderLeft := goodIn_ca (goodIn_r _ [24, 4, 25, 26, 17, 27, 28, 29, 30, 31, 12, 32, 33, 34, 35, 36, 37, 38, 44, 45, 46, 47, 48, 49, 50, 51, 52, 53, 54, 55, 56, 57, 58, 59, 60, 61, 62, 63, 64, 65, 66] (by decide +kernel) (by decide +kernel)) (goodIn_sub (fun _ h => List.mem_cons_of_mem _ (List.mem_append_left _ (List.mem_append_right _ h))) (by decide +kernel))
set_option maxRecDepth 20000 in
theorem gX2_nextReminder_X2_isAnyReminderLeft : GoodIn wsX2_nextReminder (wsV RX2 84 RX2 yX2_isAnyReminderLeft wsX2_isAnyReminderLeft) := goodIn_app (goodIn_of _ (by decide +kernel)) ggX2_nextReminder_X2_isAnyReminderLeft
set_option maxRecDepth 20000 in
theorem ggX2_nextReminder_X0_reminderDay : GoodIn wsX2_nextReminder wsX0_reminderDay := goodIn_ca (goodIn_r _ [41, 42, 43, 47, 48, 49, 50, 51, 52, 53] (by decide +kernel) (by decide +kernel)) (goodIn_sub (fun _ h => List.mem_cons_of_mem _ (List.mem_append_left _ (List.mem_append_right _ h))) (by decide +kernel))
set_option maxRecDepth 20000 in
theorem gX2_nextReminder_X0_reminderDay_n93 : GoodIn wsX2_nextReminder (wsX0_reminderDay) := ggX2_nextReminder_X0_reminderDay
theorem dX2_nextReminder_0 : decode cX2_nextReminder 0 = .ok (.aload_n 0, 1) := by decide +kernel
theorem dX2_nextReminder_1 : decode cX2_nextReminder 1 = .ok (.iload_n 1, 1) := by decide +kernel
theorem dX2_nextReminder_2 : decode cX2_nextReminder 2 = .ok (.invokevirtual 55, 3) := by decide +kernel
theorem dX2_nextReminder_5 : decode cX2_nextReminder 5 = .ok (.aload_n 0, 1) := by decide +kernel
theorem dX2_nextReminder_6 : decode cX2_nextReminder 6 = .ok (.iload_n 1, 1) := by decide +kernel
theorem dX2_nextReminder_7 : decode cX2_nextReminder 7 = .ok (.invokevirtual 84, 3) := by decide +kernel
theorem dX2_nextReminder_10 : decode cX2_nextReminder 10 = .ok (.ifCond .ne 13, 3) := by decide +kernel
theorem dX2_nextReminder_13 : decode cX2_nextReminder 13 = .ok (.new 88, 3) := by decide +kernel
theorem dX2_nextReminder_16 : decode cX2_nextReminder 16 = .ok (.dup, 1) := by decide +kernel
theorem dX2_nextReminder_17 : decode cX2_nextReminder 17 = .ok (.ldc 90, 2) := by decide +kernel
theorem dX2_nextReminder_19 : decode cX2_nextReminder 19 = .ok (.invokespecial 92, 3) := by decide +kernel
theorem dX2_nextReminder_22 : decode cX2_nextReminder 22 = .ok (.athrow, 1) := by decide +kernel
theorem dX2_nextReminder_23 : decode cX2_nextReminder 23 = .ok (.aload_n 0, 1) := by decide +kernel
theorem dX2_nextReminder_24 : decode cX2_nextReminder 24 = .ok (.getfield 23, 3) := by decide +kernel
theorem dX2_nextReminder_27 : decode cX2_nextReminder 27 = .ok (.iconst 1, 1) := by decide +kernel
theorem dX2_nextReminder_28 : decode cX2_nextReminder 28 = .ok (.iadd, 1) := by decide +kernel
theorem dX2_nextReminder_29 : decode cX2_nextReminder 29 = .ok (.aload_n 0, 1) := by decide +kernel
theorem dX2_nextReminder_30 : decode cX2_nextReminder 30 = .ok (.getfield 10, 3) := by decide +kernel
theorem dX2_nextReminder_33 : decode cX2_nextReminder 33 = .ok (.iload_n 1, 1) := by decide +kernel
theorem dX2_nextReminder_34 : decode cX2_nextReminder 34 = .ok (.invokevirtual 93, 3) := by decide +kernel
theorem dX2_nextReminder_37 : decode cX2_nextReminder 37 = .ok (.invokestatic 97, 3) := by decide +kernel
theorem dX2_nextReminder_40 : decode cX2_nextReminder 40 = .ok (.istore_n 2, 1) := by decide +kernel
theorem dX2_nextReminder_41 : decode cX2_nextReminder 41 = .ok (.iload_n 2, 1) := by decide +kernel
theorem dX2_nextReminder_42 : decode cX2_nextReminder 42 = .ok (.aload_n 0, 1) := by decide +kernel
theorem dX2_nextReminder_43 : decode cX2_nextReminder 43 = .ok (.getfield 10, 3) := by decide +kernel
theorem dX2_nextReminder_46 : decode cX2_nextReminder 46 = .ok (.getfield 102, 3) := by decide +kernel
theorem dX2_nextReminder_49 : decode cX2_nextReminder 49 = .ok (.iload_n 1, 1) := by decide +kernel
theorem dX2_nextReminder_50 : decode cX2_nextReminder 50 = .ok (.iaload, 1) := by decide +kernel
theorem dX2_nextReminder_51 : decode cX2_nextReminder 51 = .ok (.invokestatic 97, 3) := by decide +kernel
theorem dX2_nextReminder_54 : decode cX2_nextReminder 54 = .ok (.ireturn, 1) := by decide +kernel
set_option maxRecDepth 20000 in
theorem ggX2_post_X2_requireQueue : GoodIn wsX2_post wsX2_requireQueue := goodIn_ca (goodIn_r _ [11, 1, 2, 12, 13, 10, 14] (by decide +kernel) (by decide +kernel)) (goodIn_sub (fun _ h => List.mem_cons_of_mem _ (List.mem_append_left _ (List.mem_append_left _ (List.mem_append_right _ h)))) (by decide +kernel))
set_option maxRecDepth 20000 in
theorem gX2_post_X2_requireQueue : GoodIn wsX2_post (va_wsS RX2 105 yX2_requireQueue wsX2_requireQueue) := goodIn_app (goodIn_of _ (by decide +kernel)) ggX2_post_X2_requireQueue
set_option maxRecDepth 20000 in
theorem ggX2_post_X2_isWithin : GoodIn wsX2_post wsX2_isWithin := goodIn_r _ [14] (by decide +kernel) (by decide +kernel)
set_option maxRecDepth 20000 in
theorem gX2_post_X2_isWithin : GoodIn wsX2_post (va_wsS RX2 27 yX2_isWithin wsX2_isWithin) := goodIn_app (goodIn_of _ (by decide +kernel)) ggX2_post_X2_isWithin
set_option maxRecDepth 20000 in
theorem ggX2_post_X1_find : GoodIn wsX2_post wsX1_find := goodIn_ca (goodIn_r _ [18, 19, 20, 41, 42, 43, 44, 45, 46, 47, 48, 49, 50, 51, 52, 53] (by decide +kernel) (by decide +kernel)) (goodIn_sub (fun _ h => List.mem_cons_of_mem _ (List.mem_append_right _ h)) (by decide +kernel))
set_option maxRecDepth 20000 in
theorem gX2_post_X1_find_n112 : GoodIn wsX2_post (wsX1_find) := ggX2_post_X1_find
set_option maxRecDepth 20000 in
theorem ggX2_post_X1_isFull : GoodIn wsX2_post wsX1_isFull := goodIn_r _ [23, 19, 41, 42, 43, 44, 45, 46, 47, 48, 49, 50, 51, 52, 53] (by decide +kernel) (by decide +kernel)
set_option maxRecDepth 20000 in
theorem gX2_post_X1_isFull_n115 : GoodIn wsX2_post (wsX1_isFull) := ggX2_post_X1_isFull
set_option maxRecDepth 20000 in
theorem ggX2_post_X1_add : GoodIn wsX2_post wsX1_add := goodIn_ca (goodIn_r _ [26, 19, 27, 20, 28, 29, 30, 31, 32, 41, 42, 43, 44, 45, 46, 47, 48, 49, 50, 51, 52, 53] (by decide +kernel) (by decide +kernel)) (goodIn_sub (fun _ h => List.mem_cons_of_mem _ (List.mem_append_right _ h)) (by decide +kernel))
set_option maxRecDepth 20000 in
theorem gX2_post_X1_add_n118 : GoodIn wsX2_post (wsX1_add) := ggX2_post_X1_add
set_option maxRecDepth 20000 in
theorem ggX2_post_X0_contains : GoodIn wsX2_post wsX0_contains := goodIn_r _ [36, 37, 54, 55, 56, 57, 58, 59, 60] (by decide +kernel) (by decide +kernel)
set_option maxRecDepth 20000 in
theorem gX2_post_X0_contains_n121 : GoodIn wsX2_post (wsX0_contains) := ggX2_post_X0_contains
theorem dX2_post_0 : decode cX2_post 0 = .ok (.iload_n 1, 1) := by decide +kernel
theorem dX2_post_1 : decode cX2_post 1 = .ok (.invokestatic 105, 3) := by decide +kernel
theorem dX2_post_4 : decode cX2_post 4 = .ok (.iload_n 3, 1) := by decide +kernel
theorem dX2_post_5 : decode cX2_post 5 = .ok (.bipush 112, 2) := by decide +kernel
theorem dX2_post_7 : decode cX2_post 7 = .ok (.if_icmp .eq 19, 3) := by decide +kernel
theorem dX2_post_10 : decode cX2_post 10 = .ok (.iload_n 3, 1) := by decide +kernel
theorem dX2_post_11 : decode cX2_post 11 = .ok (.bipush 110, 2) := by decide +kernel
theorem dX2_post_13 : decode cX2_post 13 = .ok (.if_icmp .eq 13, 3) := by decide +kernel
theorem dX2_post_16 : decode cX2_post 16 = .ok (.new 31, 3) := by decide +kernel
theorem dX2_post_19 : decode cX2_post 19 = .ok (.dup, 1) := by decide +kernel
theorem dX2_post_20 : decode cX2_post 20 = .ok (.ldc 108, 2) := by decide +kernel
theorem dX2_post_22 : decode cX2_post 22 = .ok (.invokespecial 35, 3) := by decide +kernel
theorem dX2_post_25 : decode cX2_post 25 = .ok (.athrow, 1) := by decide +kernel
theorem dX2_post_26 : decode cX2_post 26 = .ok (.iload_n 2, 1) := by decide +kernel
theorem dX2_post_27 : decode cX2_post 27 = .ok (.iconst 0, 1) := by decide +kernel
theorem dX2_post_28 : decode cX2_post 28 = .ok (.sipush 999, 3) := by decide +kernel
theorem dX2_post_31 : decode cX2_post 31 = .ok (.invokestatic 27, 3) := by decide +kernel
theorem dX2_post_34 : decode cX2_post 34 = .ok (.ifCond .eq 37, 3) := by decide +kernel
theorem dX2_post_37 : decode cX2_post 37 = .ok (.iload 4, 2) := by decide +kernel
theorem dX2_post_39 : decode cX2_post 39 = .ok (.iconst 0, 1) := by decide +kernel
theorem dX2_post_40 : decode cX2_post 40 = .ok (.bipush 7, 2) := by decide +kernel
theorem dX2_post_42 : decode cX2_post 42 = .ok (.invokestatic 27, 3) := by decide +kernel
theorem dX2_post_45 : decode cX2_post 45 = .ok (.ifCond .eq 26, 3) := by decide +kernel
theorem dX2_post_48 : decode cX2_post 48 = .ok (.iload 5, 2) := by decide +kernel
theorem dX2_post_50 : decode cX2_post 50 = .ok (.iconst 0, 1) := by decide +kernel
theorem dX2_post_51 : decode cX2_post 51 = .ok (.sipush 9999, 3) := by decide +kernel
theorem dX2_post_54 : decode cX2_post 54 = .ok (.invokestatic 27, 3) := by decide +kernel
theorem dX2_post_57 : decode cX2_post 57 = .ok (.ifCond .eq 14, 3) := by decide +kernel
theorem dX2_post_60 : decode cX2_post 60 = .ok (.iload 6, 2) := by decide +kernel
theorem dX2_post_62 : decode cX2_post 62 = .ok (.iconst 0, 1) := by decide +kernel
theorem dX2_post_63 : decode cX2_post 63 = .ok (.bipush 30, 2) := by decide +kernel
theorem dX2_post_65 : decode cX2_post 65 = .ok (.invokestatic 27, 3) := by decide +kernel
theorem dX2_post_68 : decode cX2_post 68 = .ok (.ifCond .ne 13, 3) := by decide +kernel
theorem dX2_post_71 : decode cX2_post 71 = .ok (.new 31, 3) := by decide +kernel
theorem dX2_post_74 : decode cX2_post 74 = .ok (.dup, 1) := by decide +kernel
theorem dX2_post_75 : decode cX2_post 75 = .ok (.ldc 110, 2) := by decide +kernel
theorem dX2_post_77 : decode cX2_post 77 = .ok (.invokespecial 35, 3) := by decide +kernel
theorem dX2_post_80 : decode cX2_post 80 = .ok (.athrow, 1) := by decide +kernel
theorem dX2_post_81 : decode cX2_post 81 = .ok (.aload_n 0, 1) := by decide +kernel
theorem dX2_post_82 : decode cX2_post 82 = .ok (.getfield 19, 3) := by decide +kernel
theorem dX2_post_85 : decode cX2_post 85 = .ok (.iload_n 2, 1) := by decide +kernel
theorem dX2_post_86 : decode cX2_post 86 = .ok (.invokevirtual 112, 3) := by decide +kernel
theorem dX2_post_89 : decode cX2_post 89 = .ok (.istore 7, 2) := by decide +kernel
theorem dX2_post_91 : decode cX2_post 91 = .ok (.iload 7, 2) := by decide +kernel
theorem dX2_post_93 : decode cX2_post 93 = .ok (.iconst (-1), 1) := by decide +kernel
theorem dX2_post_94 : decode cX2_post 94 = .ok (.if_icmp .eq 6, 3) := by decide +kernel
theorem dX2_post_97 : decode cX2_post 97 = .ok (.iload 7, 2) := by decide +kernel
theorem dX2_post_99 : decode cX2_post 99 = .ok (.ireturn, 1) := by decide +kernel
theorem dX2_post_100 : decode cX2_post 100 = .ok (.aload_n 0, 1) := by decide +kernel
theorem dX2_post_101 : decode cX2_post 101 = .ok (.getfield 19, 3) := by decide +kernel
theorem dX2_post_104 : decode cX2_post 104 = .ok (.invokevirtual 115, 3) := by decide +kernel
theorem dX2_post_107 : decode cX2_post 107 = .ok (.ifCond .eq 13, 3) := by decide +kernel
theorem dX2_post_110 : decode cX2_post 110 = .ok (.new 42, 3) := by decide +kernel
theorem dX2_post_113 : decode cX2_post 113 = .ok (.dup, 1) := by decide +kernel
theorem dX2_post_114 : decode cX2_post 114 = .ok (.ldc 116, 2) := by decide +kernel
theorem dX2_post_116 : decode cX2_post 116 = .ok (.invokespecial 46, 3) := by decide +kernel
theorem dX2_post_119 : decode cX2_post 119 = .ok (.athrow, 1) := by decide +kernel
theorem dX2_post_120 : decode cX2_post 120 = .ok (.aload_n 0, 1) := by decide +kernel
theorem dX2_post_121 : decode cX2_post 121 = .ok (.getfield 19, 3) := by decide +kernel
theorem dX2_post_124 : decode cX2_post 124 = .ok (.iload_n 1, 1) := by decide +kernel
theorem dX2_post_125 : decode cX2_post 125 = .ok (.iload_n 2, 1) := by decide +kernel
theorem dX2_post_126 : decode cX2_post 126 = .ok (.iload_n 3, 1) := by decide +kernel
theorem dX2_post_127 : decode cX2_post 127 = .ok (.iload 4, 2) := by decide +kernel
theorem dX2_post_129 : decode cX2_post 129 = .ok (.iload 5, 2) := by decide +kernel
theorem dX2_post_131 : decode cX2_post 131 = .ok (.aload_n 0, 1) := by decide +kernel
theorem dX2_post_132 : decode cX2_post 132 = .ok (.getfield 23, 3) := by decide +kernel
theorem dX2_post_135 : decode cX2_post 135 = .ok (.iload 6, 2) := by decide +kernel
theorem dX2_post_137 : decode cX2_post 137 = .ok (.iadd, 1) := by decide +kernel
theorem dX2_post_138 : decode cX2_post 138 = .ok (.invokevirtual 118, 3) := by decide +kernel
theorem dX2_post_141 : decode cX2_post 141 = .ok (.istore 8, 2) := by decide +kernel
theorem dX2_post_143 : decode cX2_post 143 = .ok (.aload_n 0, 1) := by decide +kernel
theorem dX2_post_144 : decode cX2_post 144 = .ok (.getfield 10, 3) := by decide +kernel
theorem dX2_post_147 : decode cX2_post 147 = .ok (.iload 4, 2) := by decide +kernel
theorem dX2_post_149 : decode cX2_post 149 = .ok (.invokevirtual 121, 3) := by decide +kernel
theorem dX2_post_152 : decode cX2_post 152 = .ok (.ifCond .ne 15, 3) := by decide +kernel
theorem dX2_post_155 : decode cX2_post 155 = .ok (.aload_n 0, 1) := by decide +kernel
theorem dX2_post_156 : decode cX2_post 156 = .ok (.getfield 19, 3) := by decide +kernel
theorem dX2_post_159 : decode cX2_post 159 = .ok (.getfield 124, 3) := by decide +kernel
theorem dX2_post_162 : decode cX2_post 162 = .ok (.iload 8, 2) := by decide +kernel
theorem dX2_post_164 : decode cX2_post 164 = .ok (.bipush 104, 2) := by decide +kernel
theorem dX2_post_166 : decode cX2_post 166 = .ok (.castore, 1) := by decide +kernel
theorem dX2_post_167 : decode cX2_post 167 = .ok (.iload 8, 2) := by decide +kernel
theorem dX2_post_169 : decode cX2_post 169 = .ok (.ireturn, 1) := by decide +kernel
set_option maxRecDepth 20000 in
theorem ggX2_withKey_X1_find : GoodIn wsX2_withKey wsX1_find := goodIn_ca (goodIn_r _ [7, 8, 9, 13, 14, 15, 16, 17, 18, 19, 20, 21, 22, 23, 24, 25] (by decide +kernel) (by decide +kernel)) (goodIn_sub (fun _ h => List.mem_cons_of_mem _ (List.mem_append_right _ h)) (by decide +kernel))
set_option maxRecDepth 20000 in
theorem gX2_withKey_X1_find_n112 : GoodIn wsX2_withKey (wsX1_find) := ggX2_withKey_X1_find
theorem dX2_withKey_0 : decode cX2_withKey 0 = .ok (.aload_n 0, 1) := by decide +kernel
theorem dX2_withKey_1 : decode cX2_withKey 1 = .ok (.getfield 19, 3) := by decide +kernel
theorem dX2_withKey_4 : decode cX2_withKey 4 = .ok (.iload_n 1, 1) := by decide +kernel
theorem dX2_withKey_5 : decode cX2_withKey 5 = .ok (.invokevirtual 112, 3) := by decide +kernel
theorem dX2_withKey_8 : decode cX2_withKey 8 = .ok (.istore_n 2, 1) := by decide +kernel
theorem dX2_withKey_9 : decode cX2_withKey 9 = .ok (.iload_n 2, 1) := by decide +kernel
theorem dX2_withKey_10 : decode cX2_withKey 10 = .ok (.iconst (-1), 1) := by decide +kernel
theorem dX2_withKey_11 : decode cX2_withKey 11 = .ok (.if_icmp .ne 13, 3) := by decide +kernel
theorem dX2_withKey_14 : decode cX2_withKey 14 = .ok (.new 88, 3) := by decide +kernel
theorem dX2_withKey_17 : decode cX2_withKey 17 = .ok (.dup, 1) := by decide +kernel
theorem dX2_withKey_18 : decode cX2_withKey 18 = .ok (.ldc 128, 2) := by decide +kernel
theorem dX2_withKey_20 : decode cX2_withKey 20 = .ok (.invokespecial 92, 3) := by decide +kernel
theorem dX2_withKey_23 : decode cX2_withKey 23 = .ok (.athrow, 1) := by decide +kernel
theorem dX2_withKey_24 : decode cX2_withKey 24 = .ok (.iload_n 2, 1) := by decide +kernel
theorem dX2_withKey_25 : decode cX2_withKey 25 = .ok (.ireturn, 1) := by decide +kernel
set_option maxRecDepth 20000 in
theorem ggX2_state_X2_requireMessage : GoodIn wsX2_state wsX2_requireMessage := goodIn_ca (goodIn_r _ [6, 7, 8, 1, 9, 10, 11, 12, 13, 14, 15, 16, 17, 18, 19, 20, 21, 22, 23, 24, 25, 26, 27, 28, 29] (by decide +kernel) (by decide +kernel)) (goodIn_sub (fun _ h => List.mem_cons_of_mem _ (List.mem_append_right _ h)) (by decide +kernel))
set_option maxRecDepth 20000 in
theorem gX2_state_X2_requireMessage : GoodIn wsX2_state (wsV RX2 130 RX2 yX2_requireMessage wsX2_requireMessage) := goodIn_app (goodIn_of _ (by decide +kernel)) ggX2_state_X2_requireMessage
theorem dX2_state_0 : decode cX2_state 0 = .ok (.aload_n 0, 1) := by decide +kernel
theorem dX2_state_1 : decode cX2_state 1 = .ok (.iload_n 1, 1) := by decide +kernel
theorem dX2_state_2 : decode cX2_state 2 = .ok (.invokevirtual 130, 3) := by decide +kernel
theorem dX2_state_5 : decode cX2_state 5 = .ok (.aload_n 0, 1) := by decide +kernel
theorem dX2_state_6 : decode cX2_state 6 = .ok (.getfield 19, 3) := by decide +kernel
theorem dX2_state_9 : decode cX2_state 9 = .ok (.getfield 124, 3) := by decide +kernel
theorem dX2_state_12 : decode cX2_state 12 = .ok (.iload_n 1, 1) := by decide +kernel
theorem dX2_state_13 : decode cX2_state 13 = .ok (.caload, 1) := by decide +kernel
theorem dX2_state_14 : decode cX2_state 14 = .ok (.ireturn, 1) := by decide +kernel
set_option maxRecDepth 20000 in
theorem ggX2_kind_X2_requireMessage : GoodIn wsX2_kind wsX2_requireMessage := goodIn_ca (goodIn_r _ [6, 7, 8, 1, 9, 10, 11, 12, 13, 14, 15, 16, 17, 18, 19, 20, 21, 22, 23, 24, 25, 26, 27, 28, 29] (by decide +kernel) (by decide +kernel)) (goodIn_sub (fun _ h => List.mem_cons_of_mem _ (List.mem_append_right _ h)) (by decide +kernel))
set_option maxRecDepth 20000 in
theorem gX2_kind_X2_requireMessage : GoodIn wsX2_kind (wsV RX2 130 RX2 yX2_requireMessage wsX2_requireMessage) := goodIn_app (goodIn_of _ (by decide +kernel)) ggX2_kind_X2_requireMessage
theorem dX2_kind_0 : decode cX2_kind 0 = .ok (.aload_n 0, 1) := by decide +kernel
theorem dX2_kind_1 : decode cX2_kind 1 = .ok (.iload_n 1, 1) := by decide +kernel
theorem dX2_kind_2 : decode cX2_kind 2 = .ok (.invokevirtual 130, 3) := by decide +kernel
theorem dX2_kind_5 : decode cX2_kind 5 = .ok (.aload_n 0, 1) := by decide +kernel
theorem dX2_kind_6 : decode cX2_kind 6 = .ok (.getfield 19, 3) := by decide +kernel
theorem dX2_kind_9 : decode cX2_kind 9 = .ok (.getfield 133, 3) := by decide +kernel
theorem dX2_kind_12 : decode cX2_kind 12 = .ok (.iload_n 1, 1) := by decide +kernel
theorem dX2_kind_13 : decode cX2_kind 13 = .ok (.caload, 1) := by decide +kernel
theorem dX2_kind_14 : decode cX2_kind 14 = .ok (.ireturn, 1) := by decide +kernel
set_option maxRecDepth 20000 in
theorem ggX2_tries_X2_requireMessage : GoodIn wsX2_tries wsX2_requireMessage := goodIn_ca (goodIn_r _ [6, 7, 8, 1, 9, 10, 11, 12, 13, 14, 15, 16, 17, 18, 19, 20, 21, 22, 23, 24, 25, 26, 27, 28, 29] (by decide +kernel) (by decide +kernel)) (goodIn_sub (fun _ h => List.mem_cons_of_mem _ (List.mem_append_right _ h)) (by decide +kernel))
set_option maxRecDepth 20000 in
theorem gX2_tries_X2_requireMessage : GoodIn wsX2_tries (wsV RX2 130 RX2 yX2_requireMessage wsX2_requireMessage) := goodIn_app (goodIn_of _ (by decide +kernel)) ggX2_tries_X2_requireMessage
theorem dX2_tries_0 : decode cX2_tries 0 = .ok (.aload_n 0, 1) := by decide +kernel
theorem dX2_tries_1 : decode cX2_tries 1 = .ok (.iload_n 1, 1) := by decide +kernel
theorem dX2_tries_2 : decode cX2_tries 2 = .ok (.invokevirtual 130, 3) := by decide +kernel
theorem dX2_tries_5 : decode cX2_tries 5 = .ok (.aload_n 0, 1) := by decide +kernel
theorem dX2_tries_6 : decode cX2_tries 6 = .ok (.getfield 19, 3) := by decide +kernel
theorem dX2_tries_9 : decode cX2_tries 9 = .ok (.getfield 136, 3) := by decide +kernel
theorem dX2_tries_12 : decode cX2_tries 12 = .ok (.iload_n 1, 1) := by decide +kernel
theorem dX2_tries_13 : decode cX2_tries 13 = .ok (.iaload, 1) := by decide +kernel
theorem dX2_tries_14 : decode cX2_tries 14 = .ok (.ireturn, 1) := by decide +kernel
set_option maxRecDepth 20000 in
theorem ggX2_readyAt_X2_requireMessage : GoodIn wsX2_readyAt wsX2_requireMessage := goodIn_ca (goodIn_r _ [6, 7, 8, 1, 9, 10, 11, 12, 13, 20, 21, 22, 23, 24, 25, 26, 27, 28, 29, 30, 31, 32, 33, 34, 35] (by decide +kernel) (by decide +kernel)) (goodIn_sub (fun _ h => List.mem_cons_of_mem _ (List.mem_append_left _ (List.mem_append_right _ h))) (by decide +kernel))
set_option maxRecDepth 20000 in
theorem gX2_readyAt_X2_requireMessage : GoodIn wsX2_readyAt (wsV RX2 130 RX2 yX2_requireMessage wsX2_requireMessage) := goodIn_app (goodIn_of _ (by decide +kernel)) ggX2_readyAt_X2_requireMessage
set_option maxRecDepth 20000 in
theorem ggX2_readyAt_X2_requireState : GoodIn wsX2_readyAt wsX2_requireState := goodIn_ca (goodIn_ca (goodIn_r _ [17, 18, 19, 1, 20, 21, 22, 23, 24, 25, 26, 27, 28, 29, 30, 31, 32, 33, 34, 35] (by decide +kernel) (by decide +kernel)) (goodIn_sub (fun _ h => List.mem_cons_of_mem _ (List.mem_append_left _ (List.mem_append_left _ (List.mem_append_right _ h)))) (by decide +kernel))) (goodIn_sub (fun _ h => List.mem_cons_of_mem _ (List.mem_append_right _ h)) (by decide +kernel))
set_option maxRecDepth 20000 in
theorem gX2_readyAt_X2_requireState : GoodIn wsX2_readyAt (wsV RX2 139 RX2 yX2_requireState wsX2_requireState) := goodIn_app (goodIn_of _ (by decide +kernel)) ggX2_readyAt_X2_requireState
theorem dX2_readyAt_0 : decode cX2_readyAt 0 = .ok (.aload_n 0, 1) := by decide +kernel
theorem dX2_readyAt_1 : decode cX2_readyAt 1 = .ok (.iload_n 1, 1) := by decide +kernel
theorem dX2_readyAt_2 : decode cX2_readyAt 2 = .ok (.invokevirtual 130, 3) := by decide +kernel
theorem dX2_readyAt_5 : decode cX2_readyAt 5 = .ok (.aload_n 0, 1) := by decide +kernel
theorem dX2_readyAt_6 : decode cX2_readyAt 6 = .ok (.iload_n 1, 1) := by decide +kernel
theorem dX2_readyAt_7 : decode cX2_readyAt 7 = .ok (.bipush 119, 2) := by decide +kernel
theorem dX2_readyAt_9 : decode cX2_readyAt 9 = .ok (.invokevirtual 139, 3) := by decide +kernel
theorem dX2_readyAt_12 : decode cX2_readyAt 12 = .ok (.aload_n 0, 1) := by decide +kernel
theorem dX2_readyAt_13 : decode cX2_readyAt 13 = .ok (.getfield 19, 3) := by decide +kernel
theorem dX2_readyAt_16 : decode cX2_readyAt 16 = .ok (.getfield 143, 3) := by decide +kernel
theorem dX2_readyAt_19 : decode cX2_readyAt 19 = .ok (.iload_n 1, 1) := by decide +kernel
theorem dX2_readyAt_20 : decode cX2_readyAt 20 = .ok (.iaload, 1) := by decide +kernel
theorem dX2_readyAt_21 : decode cX2_readyAt 21 = .ok (.ireturn, 1) := by decide +kernel
set_option maxRecDepth 20000 in
theorem ggX2_ready_X2_requireQueue : GoodIn wsX2_ready wsX2_requireQueue := goodIn_ca (goodIn_r _ [6, 7, 8, 9, 10, 5, 11] (by decide +kernel) (by decide +kernel)) (goodIn_sub (fun _ h => List.mem_cons_of_mem _ (List.mem_append_left _ (List.mem_append_right _ h))) (by decide +kernel))
set_option maxRecDepth 20000 in
theorem gX2_ready_X2_requireQueue : GoodIn wsX2_ready (va_wsS RX2 105 yX2_requireQueue wsX2_requireQueue) := goodIn_app (goodIn_of _ (by decide +kernel)) ggX2_ready_X2_requireQueue
set_option maxRecDepth 20000 in
theorem ggX2_ready_X1_countReady : GoodIn wsX2_ready wsX1_countReady := goodIn_ca (goodIn_r _ [15, 16, 17, 18, 19, 13, 20, 21, 22, 23, 27, 28, 29, 30, 31, 32, 33, 34, 35, 36, 37, 38, 39] (by decide +kernel) (by decide +kernel)) (goodIn_sub (fun _ h => List.mem_cons_of_mem _ (List.mem_append_right _ h)) (by decide +kernel))
set_option maxRecDepth 20000 in
theorem gX2_ready_X1_countReady_n146 : GoodIn wsX2_ready (wsX1_countReady) := ggX2_ready_X1_countReady
theorem dX2_ready_0 : decode cX2_ready 0 = .ok (.iload_n 1, 1) := by decide +kernel
theorem dX2_ready_1 : decode cX2_ready 1 = .ok (.invokestatic 105, 3) := by decide +kernel
theorem dX2_ready_4 : decode cX2_ready 4 = .ok (.aload_n 0, 1) := by decide +kernel
theorem dX2_ready_5 : decode cX2_ready 5 = .ok (.getfield 19, 3) := by decide +kernel
theorem dX2_ready_8 : decode cX2_ready 8 = .ok (.iload_n 1, 1) := by decide +kernel
theorem dX2_ready_9 : decode cX2_ready 9 = .ok (.aload_n 0, 1) := by decide +kernel
theorem dX2_ready_10 : decode cX2_ready 10 = .ok (.getfield 23, 3) := by decide +kernel
theorem dX2_ready_13 : decode cX2_ready 13 = .ok (.invokevirtual 146, 3) := by decide +kernel
theorem dX2_ready_16 : decode cX2_ready 16 = .ok (.ireturn, 1) := by decide +kernel
set_option maxRecDepth 20000 in
theorem ggX2_readyAtPlace_X2_requireQueue : GoodIn wsX2_readyAtPlace wsX2_requireQueue := goodIn_ca (goodIn_r _ [8, 9, 10, 11, 12, 7, 13] (by decide +kernel) (by decide +kernel)) (goodIn_sub (fun _ h => List.mem_cons_of_mem _ (List.mem_append_left _ (List.mem_append_right _ h))) (by decide +kernel))
set_option maxRecDepth 20000 in
theorem gX2_readyAtPlace_X2_requireQueue : GoodIn wsX2_readyAtPlace (va_wsS RX2 105 yX2_requireQueue wsX2_requireQueue) := goodIn_app (goodIn_of _ (by decide +kernel)) ggX2_readyAtPlace_X2_requireQueue
set_option maxRecDepth 20000 in
theorem ggX2_readyAtPlace_X1_countReady : GoodIn wsX2_readyAtPlace wsX1_countReady := goodIn_ca (goodIn_r _ [17, 18, 19, 20, 21, 15, 22, 23, 24, 25, 36, 37, 38, 39, 40, 41, 42, 43, 44, 45, 46, 47, 48] (by decide +kernel) (by decide +kernel)) (goodIn_sub (fun _ h => List.mem_cons_of_mem _ (List.mem_append_right _ h)) (by decide +kernel))
set_option maxRecDepth 20000 in
theorem gX2_readyAtPlace_X1_countReady_n146 : GoodIn wsX2_readyAtPlace (wsX1_countReady) := ggX2_readyAtPlace_X1_countReady
set_option maxRecDepth 20000 in
theorem ggX2_readyAtPlace_X1_nextReady : GoodIn wsX2_readyAtPlace wsX1_nextReady := goodIn_ca (goodIn_r _ [28, 18, 19, 20, 21, 15, 22, 23, 24, 25, 29, 30, 31, 32, 36, 37, 38, 39, 40, 41, 42, 43, 44, 45, 46, 47, 48] (by decide +kernel) (by decide +kernel)) (goodIn_sub (fun _ h => List.mem_cons_of_mem _ (List.mem_append_right _ h)) (by decide +kernel))
set_option maxRecDepth 20000 in
theorem gX2_readyAtPlace_X1_nextReady_n151 : GoodIn wsX2_readyAtPlace (wsX1_nextReady) := ggX2_readyAtPlace_X1_nextReady
theorem dX2_readyAtPlace_0 : decode cX2_readyAtPlace 0 = .ok (.iload_n 1, 1) := by decide +kernel
theorem dX2_readyAtPlace_1 : decode cX2_readyAtPlace 1 = .ok (.invokestatic 105, 3) := by decide +kernel
theorem dX2_readyAtPlace_4 : decode cX2_readyAtPlace 4 = .ok (.iload_n 2, 1) := by decide +kernel
theorem dX2_readyAtPlace_5 : decode cX2_readyAtPlace 5 = .ok (.ifCond .lt 19, 3) := by decide +kernel
theorem dX2_readyAtPlace_8 : decode cX2_readyAtPlace 8 = .ok (.iload_n 2, 1) := by decide +kernel
theorem dX2_readyAtPlace_9 : decode cX2_readyAtPlace 9 = .ok (.aload_n 0, 1) := by decide +kernel
theorem dX2_readyAtPlace_10 : decode cX2_readyAtPlace 10 = .ok (.getfield 19, 3) := by decide +kernel
theorem dX2_readyAtPlace_13 : decode cX2_readyAtPlace 13 = .ok (.iload_n 1, 1) := by decide +kernel
theorem dX2_readyAtPlace_14 : decode cX2_readyAtPlace 14 = .ok (.aload_n 0, 1) := by decide +kernel
theorem dX2_readyAtPlace_15 : decode cX2_readyAtPlace 15 = .ok (.getfield 23, 3) := by decide +kernel
theorem dX2_readyAtPlace_18 : decode cX2_readyAtPlace 18 = .ok (.invokevirtual 146, 3) := by decide +kernel
theorem dX2_readyAtPlace_21 : decode cX2_readyAtPlace 21 = .ok (.if_icmp .lt 13, 3) := by decide +kernel
theorem dX2_readyAtPlace_24 : decode cX2_readyAtPlace 24 = .ok (.new 88, 3) := by decide +kernel
theorem dX2_readyAtPlace_27 : decode cX2_readyAtPlace 27 = .ok (.dup, 1) := by decide +kernel
theorem dX2_readyAtPlace_28 : decode cX2_readyAtPlace 28 = .ok (.ldc 149, 2) := by decide +kernel
theorem dX2_readyAtPlace_30 : decode cX2_readyAtPlace 30 = .ok (.invokespecial 92, 3) := by decide +kernel
theorem dX2_readyAtPlace_33 : decode cX2_readyAtPlace 33 = .ok (.athrow, 1) := by decide +kernel
theorem dX2_readyAtPlace_34 : decode cX2_readyAtPlace 34 = .ok (.aload_n 0, 1) := by decide +kernel
theorem dX2_readyAtPlace_35 : decode cX2_readyAtPlace 35 = .ok (.getfield 19, 3) := by decide +kernel
theorem dX2_readyAtPlace_38 : decode cX2_readyAtPlace 38 = .ok (.iload_n 1, 1) := by decide +kernel
theorem dX2_readyAtPlace_39 : decode cX2_readyAtPlace 39 = .ok (.aload_n 0, 1) := by decide +kernel
theorem dX2_readyAtPlace_40 : decode cX2_readyAtPlace 40 = .ok (.getfield 23, 3) := by decide +kernel
theorem dX2_readyAtPlace_43 : decode cX2_readyAtPlace 43 = .ok (.iconst (-1), 1) := by decide +kernel
theorem dX2_readyAtPlace_44 : decode cX2_readyAtPlace 44 = .ok (.invokevirtual 151, 3) := by decide +kernel
theorem dX2_readyAtPlace_47 : decode cX2_readyAtPlace 47 = .ok (.istore_n 3, 1) := by decide +kernel
theorem dX2_readyAtPlace_48 : decode cX2_readyAtPlace 48 = .ok (.iconst 0, 1) := by decide +kernel
theorem dX2_readyAtPlace_49 : decode cX2_readyAtPlace 49 = .ok (.istore 4, 2) := by decide +kernel
theorem dX2_readyAtPlace_51 : decode cX2_readyAtPlace 51 = .ok (.iload 4, 2) := by decide +kernel
theorem dX2_readyAtPlace_53 : decode cX2_readyAtPlace 53 = .ok (.iload_n 2, 1) := by decide +kernel
theorem dX2_readyAtPlace_54 : decode cX2_readyAtPlace 54 = .ok (.if_icmp .ge 23, 3) := by decide +kernel
theorem dX2_readyAtPlace_57 : decode cX2_readyAtPlace 57 = .ok (.aload_n 0, 1) := by decide +kernel
theorem dX2_readyAtPlace_58 : decode cX2_readyAtPlace 58 = .ok (.getfield 19, 3) := by decide +kernel
theorem dX2_readyAtPlace_61 : decode cX2_readyAtPlace 61 = .ok (.iload_n 1, 1) := by decide +kernel
theorem dX2_readyAtPlace_62 : decode cX2_readyAtPlace 62 = .ok (.aload_n 0, 1) := by decide +kernel
theorem dX2_readyAtPlace_63 : decode cX2_readyAtPlace 63 = .ok (.getfield 23, 3) := by decide +kernel
theorem dX2_readyAtPlace_66 : decode cX2_readyAtPlace 66 = .ok (.iload_n 3, 1) := by decide +kernel
theorem dX2_readyAtPlace_67 : decode cX2_readyAtPlace 67 = .ok (.invokevirtual 151, 3) := by decide +kernel
theorem dX2_readyAtPlace_70 : decode cX2_readyAtPlace 70 = .ok (.istore_n 3, 1) := by decide +kernel
theorem dX2_readyAtPlace_71 : decode cX2_readyAtPlace 71 = .ok (.iinc 4 1, 3) := by decide +kernel
theorem dX2_readyAtPlace_74 : decode cX2_readyAtPlace 74 = .ok (.goto (-23), 3) := by decide +kernel
theorem dX2_readyAtPlace_77 : decode cX2_readyAtPlace 77 = .ok (.iload_n 3, 1) := by decide +kernel
theorem dX2_readyAtPlace_78 : decode cX2_readyAtPlace 78 = .ok (.ireturn, 1) := by decide +kernel
set_option maxRecDepth 20000 in
theorem ggX2_take_X2_requireClerk : GoodIn wsX2_take wsX2_requireClerk := goodIn_ca (goodIn_r _ [10, 11, 12, 13, 14, 9, 15] (by decide +kernel) (by decide +kernel)) (goodIn_sub (fun _ h => List.mem_cons_of_mem _ (List.mem_append_left _ (List.mem_append_right _ h))) (by decide +kernel))
set_option maxRecDepth 20000 in
theorem gX2_take_X2_requireClerk : GoodIn wsX2_take (va_wsS RX2 155 yX2_requireClerk wsX2_requireClerk) := goodIn_app (goodIn_of _ (by decide +kernel)) ggX2_take_X2_requireClerk
set_option maxRecDepth 20000 in
theorem ggX2_take_X2_requireQueue : GoodIn wsX2_take wsX2_requireQueue := goodIn_ca (goodIn_r _ [18, 11, 12, 13, 14, 9, 15] (by decide +kernel) (by decide +kernel)) (goodIn_sub (fun _ h => List.mem_cons_of_mem _ (List.mem_append_left _ (List.mem_append_right _ h))) (by decide +kernel))
set_option maxRecDepth 20000 in
theorem gX2_take_X2_requireQueue : GoodIn wsX2_take (va_wsS RX2 105 yX2_requireQueue wsX2_requireQueue) := goodIn_app (goodIn_of _ (by decide +kernel)) ggX2_take_X2_requireQueue
set_option maxRecDepth 20000 in
theorem ggX2_take_X1_countTakenBy : GoodIn wsX2_take wsX1_countTakenBy := goodIn_ca (goodIn_r _ [22, 23, 24, 25, 46, 47, 48, 49, 50, 51, 52, 53, 54, 55, 56, 57, 58] (by decide +kernel) (by decide +kernel)) (goodIn_sub (fun _ h => List.mem_cons_of_mem _ (List.mem_append_right _ h)) (by decide +kernel))
set_option maxRecDepth 20000 in
theorem gX2_take_X1_countTakenBy_n158 : GoodIn wsX2_take (wsX1_countTakenBy) := ggX2_take_X1_countTakenBy
set_option maxRecDepth 20000 in
theorem ggX2_take_X1_nextReady : GoodIn wsX2_take wsX1_nextReady := goodIn_ca (goodIn_r _ [28, 23, 29, 30, 31, 20, 32, 33, 24, 34, 35, 36, 37, 38, 46, 47, 48, 49, 50, 51, 52, 53, 54, 55, 56, 57, 58] (by decide +kernel) (by decide +kernel)) (goodIn_sub (fun _ h => List.mem_cons_of_mem _ (List.mem_append_right _ h)) (by decide +kernel))
set_option maxRecDepth 20000 in
theorem gX2_take_X1_nextReady_n151 : GoodIn wsX2_take (wsX1_nextReady) := ggX2_take_X1_nextReady
set_option maxRecDepth 20000 in
theorem ggX2_take_X1_giveTo : GoodIn wsX2_take wsX1_giveTo := goodIn_ca (goodIn_r _ [41, 24, 25, 42, 46, 47, 48, 49, 50, 51, 52, 53, 54, 55, 56, 57, 58] (by decide +kernel) (by decide +kernel)) (goodIn_sub (fun _ h => List.mem_cons_of_mem _ (List.mem_append_right _ h)) (by decide +kernel))
set_option maxRecDepth 20000 in
theorem gX2_take_X1_giveTo_n165 : GoodIn wsX2_take (wsX1_giveTo) := ggX2_take_X1_giveTo
theorem dX2_take_0 : decode cX2_take 0 = .ok (.iload_n 1, 1) := by decide +kernel
theorem dX2_take_1 : decode cX2_take 1 = .ok (.invokestatic 155, 3) := by decide +kernel
theorem dX2_take_4 : decode cX2_take 4 = .ok (.iload_n 2, 1) := by decide +kernel
theorem dX2_take_5 : decode cX2_take 5 = .ok (.invokestatic 105, 3) := by decide +kernel
theorem dX2_take_8 : decode cX2_take 8 = .ok (.aload_n 0, 1) := by decide +kernel
theorem dX2_take_9 : decode cX2_take 9 = .ok (.getfield 19, 3) := by decide +kernel
theorem dX2_take_12 : decode cX2_take 12 = .ok (.iload_n 1, 1) := by decide +kernel
theorem dX2_take_13 : decode cX2_take 13 = .ok (.invokevirtual 158, 3) := by decide +kernel
theorem dX2_take_16 : decode cX2_take 16 = .ok (.iconst 2, 1) := by decide +kernel
theorem dX2_take_17 : decode cX2_take 17 = .ok (.if_icmp .lt 13, 3) := by decide +kernel
theorem dX2_take_20 : decode cX2_take 20 = .ok (.new 42, 3) := by decide +kernel
theorem dX2_take_23 : decode cX2_take 23 = .ok (.dup, 1) := by decide +kernel
theorem dX2_take_24 : decode cX2_take 24 = .ok (.ldc 161, 2) := by decide +kernel
theorem dX2_take_26 : decode cX2_take 26 = .ok (.invokespecial 46, 3) := by decide +kernel
theorem dX2_take_29 : decode cX2_take 29 = .ok (.athrow, 1) := by decide +kernel
theorem dX2_take_30 : decode cX2_take 30 = .ok (.aload_n 0, 1) := by decide +kernel
theorem dX2_take_31 : decode cX2_take 31 = .ok (.getfield 19, 3) := by decide +kernel
theorem dX2_take_34 : decode cX2_take 34 = .ok (.iload_n 2, 1) := by decide +kernel
theorem dX2_take_35 : decode cX2_take 35 = .ok (.aload_n 0, 1) := by decide +kernel
theorem dX2_take_36 : decode cX2_take 36 = .ok (.getfield 23, 3) := by decide +kernel
theorem dX2_take_39 : decode cX2_take 39 = .ok (.iconst (-1), 1) := by decide +kernel
theorem dX2_take_40 : decode cX2_take 40 = .ok (.invokevirtual 151, 3) := by decide +kernel
theorem dX2_take_43 : decode cX2_take 43 = .ok (.istore_n 3, 1) := by decide +kernel
theorem dX2_take_44 : decode cX2_take 44 = .ok (.iload_n 3, 1) := by decide +kernel
theorem dX2_take_45 : decode cX2_take 45 = .ok (.iconst (-1), 1) := by decide +kernel
theorem dX2_take_46 : decode cX2_take 46 = .ok (.if_icmp .ne 13, 3) := by decide +kernel
theorem dX2_take_49 : decode cX2_take 49 = .ok (.new 88, 3) := by decide +kernel
theorem dX2_take_52 : decode cX2_take 52 = .ok (.dup, 1) := by decide +kernel
theorem dX2_take_53 : decode cX2_take 53 = .ok (.ldc 163, 2) := by decide +kernel
theorem dX2_take_55 : decode cX2_take 55 = .ok (.invokespecial 92, 3) := by decide +kernel
theorem dX2_take_58 : decode cX2_take 58 = .ok (.athrow, 1) := by decide +kernel
theorem dX2_take_59 : decode cX2_take 59 = .ok (.aload_n 0, 1) := by decide +kernel
theorem dX2_take_60 : decode cX2_take 60 = .ok (.getfield 19, 3) := by decide +kernel
theorem dX2_take_63 : decode cX2_take 63 = .ok (.iload_n 1, 1) := by decide +kernel
theorem dX2_take_64 : decode cX2_take 64 = .ok (.iload_n 3, 1) := by decide +kernel
theorem dX2_take_65 : decode cX2_take 65 = .ok (.aload_n 0, 1) := by decide +kernel
theorem dX2_take_66 : decode cX2_take 66 = .ok (.getfield 23, 3) := by decide +kernel
theorem dX2_take_69 : decode cX2_take 69 = .ok (.invokevirtual 165, 3) := by decide +kernel
theorem dX2_take_72 : decode cX2_take 72 = .ok (.iload_n 3, 1) := by decide +kernel
theorem dX2_take_73 : decode cX2_take 73 = .ok (.ireturn, 1) := by decide +kernel
set_option maxRecDepth 20000 in
theorem ggX2_finish_X2_requireMessage : GoodIn wsX2_finish wsX2_requireMessage := goodIn_ca (goodIn_r _ [6, 7, 8, 1, 9, 10, 11, 12, 13, 56, 57, 58, 59, 60, 61, 62, 63, 64, 65, 66, 67, 68, 69, 70, 71] (by decide +kernel) (by decide +kernel)) (goodIn_sub (fun _ h => List.mem_cons_of_mem _ (List.mem_append_left _ (List.mem_append_left _ (List.mem_append_right _ h)))) (by decide +kernel))
set_option maxRecDepth 20000 in
theorem gX2_finish_X2_requireMessage : GoodIn wsX2_finish (wsV RX2 130 RX2 yX2_requireMessage wsX2_requireMessage) := goodIn_app (goodIn_of _ (by decide +kernel)) ggX2_finish_X2_requireMessage
set_option maxRecDepth 20000 in
theorem ggX2_finish_X2_requireState : GoodIn wsX2_finish wsX2_requireState := goodIn_ca (goodIn_ca (goodIn_r _ [17, 18, 19, 1, 56, 57, 58, 59, 60, 61, 62, 63, 64, 65, 66, 67, 68, 69, 70, 71] (by decide +kernel) (by decide +kernel)) (goodIn_sub (fun _ h => List.mem_cons_of_mem _ (List.mem_append_left _ (List.mem_append_right _ h))) (by decide +kernel))) (goodIn_sub (fun _ h => List.mem_cons_of_mem _ (List.mem_append_right _ h)) (by decide +kernel))
set_option maxRecDepth 20000 in
theorem gX2_finish_X2_requireState : GoodIn wsX2_finish (wsV RX2 139 RX2 yX2_requireState wsX2_requireState) := goodIn_app (goodIn_of _ (by decide +kernel)) ggX2_finish_X2_requireState
set_option maxRecDepth 20000 in
theorem ggX2_finish_X1_close : GoodIn wsX2_finish wsX1_close := goodIn_ca (goodIn_r _ [22, 23, 24, 25, 59, 60, 61, 62, 63, 64, 65, 66, 67, 68, 69, 70, 71] (by decide +kernel) (by decide +kernel)) (goodIn_sub (fun _ h => List.mem_cons_of_mem _ (List.mem_append_left _ (List.mem_append_right _ h))) (by decide +kernel))
set_option maxRecDepth 20000 in
theorem gX2_finish_X1_close_n169 : GoodIn wsX2_finish (wsX1_close) := ggX2_finish_X1_close
set_option maxRecDepth 20000 in
theorem ggX2_finish_X2_settle : GoodIn wsX2_finish wsX2_settle := goodIn_ca (goodIn_r _ [29, 1, 30, 31, 32, 33, 34, 35, 36, 37, 38, 39, 40, 41, 42, 43, 44, 45, 46, 47, 48, 49, 50, 51, 52, 53, 54, 55, 56, 57, 58, 59, 60, 61, 62, 63, 64, 65, 66, 67, 68, 69, 70, 71, 72, 73, 74, 75, 76, 77, 78] (by decide +kernel) (by decide +kernel)) (goodIn_sub (fun _ h => List.mem_cons_of_mem _ (List.mem_append_left _ (List.mem_append_right _ h))) (by decide +kernel))
set_option maxRecDepth 20000 in
theorem gX2_finish_X2_settle : GoodIn wsX2_finish (wsV RX2 172 RX2 yX2_settle wsX2_settle) := goodIn_app (goodIn_of _ (by decide +kernel)) ggX2_finish_X2_settle
theorem dX2_finish_0 : decode cX2_finish 0 = .ok (.aload_n 0, 1) := by decide +kernel
theorem dX2_finish_1 : decode cX2_finish 1 = .ok (.iload_n 1, 1) := by decide +kernel
theorem dX2_finish_2 : decode cX2_finish 2 = .ok (.invokevirtual 130, 3) := by decide +kernel
theorem dX2_finish_5 : decode cX2_finish 5 = .ok (.aload_n 0, 1) := by decide +kernel
theorem dX2_finish_6 : decode cX2_finish 6 = .ok (.iload_n 1, 1) := by decide +kernel
theorem dX2_finish_7 : decode cX2_finish 7 = .ok (.bipush 116, 2) := by decide +kernel
theorem dX2_finish_9 : decode cX2_finish 9 = .ok (.invokevirtual 139, 3) := by decide +kernel
theorem dX2_finish_12 : decode cX2_finish 12 = .ok (.aload_n 0, 1) := by decide +kernel
theorem dX2_finish_13 : decode cX2_finish 13 = .ok (.getfield 19, 3) := by decide +kernel
theorem dX2_finish_16 : decode cX2_finish 16 = .ok (.iload_n 1, 1) := by decide +kernel
theorem dX2_finish_17 : decode cX2_finish 17 = .ok (.invokevirtual 169, 3) := by decide +kernel
theorem dX2_finish_20 : decode cX2_finish 20 = .ok (.aload_n 0, 1) := by decide +kernel
theorem dX2_finish_21 : decode cX2_finish 21 = .ok (.iload_n 1, 1) := by decide +kernel
theorem dX2_finish_22 : decode cX2_finish 22 = .ok (.invokevirtual 172, 3) := by decide +kernel
theorem dX2_finish_25 : decode cX2_finish 25 = .ok (.ireturn, 1) := by decide +kernel
set_option maxRecDepth 20000 in
theorem ggX2_handBack_X2_requireMessage : GoodIn wsX2_handBack wsX2_requireMessage := goodIn_ca (goodIn_r _ [7, 8, 9, 1, 10, 11, 12, 13, 14, 27, 28, 29, 30, 31, 32, 33, 34, 35, 36, 37, 38, 39, 40, 41, 42] (by decide +kernel) (by decide +kernel)) (goodIn_sub (fun _ h => List.mem_cons_of_mem _ (List.mem_append_left _ (List.mem_append_right _ h))) (by decide +kernel))
set_option maxRecDepth 20000 in
theorem gX2_handBack_X2_requireMessage : GoodIn wsX2_handBack (wsV RX2 130 RX2 yX2_requireMessage wsX2_requireMessage) := goodIn_app (goodIn_of _ (by decide +kernel)) ggX2_handBack_X2_requireMessage
set_option maxRecDepth 20000 in
theorem ggX2_handBack_X2_requireState : GoodIn wsX2_handBack wsX2_requireState := goodIn_ca (goodIn_ca (goodIn_r _ [18, 19, 20, 1, 27, 28, 29, 30, 31, 32, 33, 34, 35, 36, 37, 38, 39, 40, 41, 42] (by decide +kernel) (by decide +kernel)) (goodIn_sub (fun _ h => List.mem_cons_of_mem _ (List.mem_append_left _ (List.mem_append_left _ (List.mem_append_right _ h)))) (by decide +kernel))) (goodIn_sub (fun _ h => List.mem_cons_of_mem _ (List.mem_append_right _ h)) (by decide +kernel))
set_option maxRecDepth 20000 in
theorem gX2_handBack_X2_requireState : GoodIn wsX2_handBack (wsV RX2 139 RX2 yX2_requireState wsX2_requireState) := goodIn_app (goodIn_of _ (by decide +kernel)) ggX2_handBack_X2_requireState
set_option maxRecDepth 20000 in
theorem ggX2_handBack_X1_putBack : GoodIn wsX2_handBack wsX1_putBack := goodIn_ca (goodIn_r _ [23, 24, 25, 26, 30, 31, 32, 33, 34, 35, 36, 37, 38, 39, 40, 41, 42] (by decide +kernel) (by decide +kernel)) (goodIn_sub (fun _ h => List.mem_cons_of_mem _ (List.mem_append_left _ (List.mem_append_left _ (List.mem_append_right _ h)))) (by decide +kernel))
set_option maxRecDepth 20000 in
theorem gX2_handBack_X1_putBack_n175 : GoodIn wsX2_handBack (wsX1_putBack) := ggX2_handBack_X1_putBack
theorem dX2_handBack_0 : decode cX2_handBack 0 = .ok (.aload_n 0, 1) := by decide +kernel
theorem dX2_handBack_1 : decode cX2_handBack 1 = .ok (.iload_n 1, 1) := by decide +kernel
theorem dX2_handBack_2 : decode cX2_handBack 2 = .ok (.invokevirtual 130, 3) := by decide +kernel
theorem dX2_handBack_5 : decode cX2_handBack 5 = .ok (.aload_n 0, 1) := by decide +kernel
theorem dX2_handBack_6 : decode cX2_handBack 6 = .ok (.iload_n 1, 1) := by decide +kernel
theorem dX2_handBack_7 : decode cX2_handBack 7 = .ok (.bipush 116, 2) := by decide +kernel
theorem dX2_handBack_9 : decode cX2_handBack 9 = .ok (.invokevirtual 139, 3) := by decide +kernel
theorem dX2_handBack_12 : decode cX2_handBack 12 = .ok (.aload_n 0, 1) := by decide +kernel
theorem dX2_handBack_13 : decode cX2_handBack 13 = .ok (.getfield 19, 3) := by decide +kernel
theorem dX2_handBack_16 : decode cX2_handBack 16 = .ok (.iload_n 1, 1) := by decide +kernel
theorem dX2_handBack_17 : decode cX2_handBack 17 = .ok (.aload_n 0, 1) := by decide +kernel
theorem dX2_handBack_18 : decode cX2_handBack 18 = .ok (.getfield 23, 3) := by decide +kernel
theorem dX2_handBack_21 : decode cX2_handBack 21 = .ok (.invokevirtual 175, 3) := by decide +kernel
theorem dX2_handBack_24 : decode cX2_handBack 24 = .ok (.aload_n 0, 1) := by decide +kernel
theorem dX2_handBack_25 : decode cX2_handBack 25 = .ok (.getfield 19, 3) := by decide +kernel
theorem dX2_handBack_28 : decode cX2_handBack 28 = .ok (.getfield 136, 3) := by decide +kernel
theorem dX2_handBack_31 : decode cX2_handBack 31 = .ok (.iload_n 1, 1) := by decide +kernel
theorem dX2_handBack_32 : decode cX2_handBack 32 = .ok (.iaload, 1) := by decide +kernel
theorem dX2_handBack_33 : decode cX2_handBack 33 = .ok (.ireturn, 1) := by decide +kernel
set_option maxRecDepth 20000 in
theorem ggX2_revive_X2_requireMessage : GoodIn wsX2_revive wsX2_requireMessage := goodIn_ca (goodIn_r _ [7, 8, 9, 1, 10, 11, 12, 13, 14, 30, 31, 32, 33, 34, 35, 36, 37, 38, 39, 40, 41, 42, 43, 44, 45] (by decide +kernel) (by decide +kernel)) (goodIn_sub (fun _ h => List.mem_cons_of_mem _ (List.mem_append_left _ (List.mem_append_left _ (List.mem_append_right _ h)))) (by decide +kernel))
set_option maxRecDepth 20000 in
theorem gX2_revive_X2_requireMessage : GoodIn wsX2_revive (wsV RX2 130 RX2 yX2_requireMessage wsX2_requireMessage) := goodIn_app (goodIn_of _ (by decide +kernel)) ggX2_revive_X2_requireMessage
set_option maxRecDepth 20000 in
theorem ggX2_revive_X2_requireState : GoodIn wsX2_revive wsX2_requireState := goodIn_ca (goodIn_ca (goodIn_r _ [18, 19, 20, 1, 30, 31, 32, 33, 34, 35, 36, 37, 38, 39, 40, 41, 42, 43, 44, 45] (by decide +kernel) (by decide +kernel)) (goodIn_sub (fun _ h => List.mem_cons_of_mem _ (List.mem_append_left _ (List.mem_append_right _ h))) (by decide +kernel))) (goodIn_sub (fun _ h => List.mem_cons_of_mem _ (List.mem_append_right _ h)) (by decide +kernel))
set_option maxRecDepth 20000 in
theorem gX2_revive_X2_requireState : GoodIn wsX2_revive (wsV RX2 139 RX2 yX2_requireState wsX2_requireState) := goodIn_app (goodIn_of _ (by decide +kernel)) ggX2_revive_X2_requireState
set_option maxRecDepth 20000 in
theorem ggX2_revive_X1_wake : GoodIn wsX2_revive wsX1_wake := goodIn_ca (goodIn_r _ [23, 24, 25, 26, 33, 34, 35, 36, 37, 38, 39, 40, 41, 42, 43, 44, 45] (by decide +kernel) (by decide +kernel)) (goodIn_sub (fun _ h => List.mem_cons_of_mem _ (List.mem_append_left _ (List.mem_append_right _ h))) (by decide +kernel))
set_option maxRecDepth 20000 in
theorem gX2_revive_X1_wake_n178 : GoodIn wsX2_revive (wsX1_wake) := ggX2_revive_X1_wake
set_option maxRecDepth 20000 in
theorem ggX2_revive_X1_countIn : GoodIn wsX2_revive wsX1_countIn := goodIn_ca (goodIn_r _ [29, 14, 24, 33, 34, 35, 36, 37, 38, 39, 40, 41, 42, 43, 44, 45] (by decide +kernel) (by decide +kernel)) (goodIn_sub (fun _ h => List.mem_cons_of_mem _ (List.mem_append_left _ (List.mem_append_right _ h))) (by decide +kernel))
set_option maxRecDepth 20000 in
theorem gX2_revive_X1_countIn_n181 : GoodIn wsX2_revive (wsX1_countIn) := ggX2_revive_X1_countIn
theorem dX2_revive_0 : decode cX2_revive 0 = .ok (.aload_n 0, 1) := by decide +kernel
theorem dX2_revive_1 : decode cX2_revive 1 = .ok (.iload_n 1, 1) := by decide +kernel
theorem dX2_revive_2 : decode cX2_revive 2 = .ok (.invokevirtual 130, 3) := by decide +kernel
theorem dX2_revive_5 : decode cX2_revive 5 = .ok (.aload_n 0, 1) := by decide +kernel
theorem dX2_revive_6 : decode cX2_revive 6 = .ok (.iload_n 1, 1) := by decide +kernel
theorem dX2_revive_7 : decode cX2_revive 7 = .ok (.bipush 120, 2) := by decide +kernel
theorem dX2_revive_9 : decode cX2_revive 9 = .ok (.invokevirtual 139, 3) := by decide +kernel
theorem dX2_revive_12 : decode cX2_revive 12 = .ok (.aload_n 0, 1) := by decide +kernel
theorem dX2_revive_13 : decode cX2_revive 13 = .ok (.getfield 19, 3) := by decide +kernel
theorem dX2_revive_16 : decode cX2_revive 16 = .ok (.iload_n 1, 1) := by decide +kernel
theorem dX2_revive_17 : decode cX2_revive 17 = .ok (.aload_n 0, 1) := by decide +kernel
theorem dX2_revive_18 : decode cX2_revive 18 = .ok (.getfield 23, 3) := by decide +kernel
theorem dX2_revive_21 : decode cX2_revive 21 = .ok (.invokevirtual 178, 3) := by decide +kernel
theorem dX2_revive_24 : decode cX2_revive 24 = .ok (.aload_n 0, 1) := by decide +kernel
theorem dX2_revive_25 : decode cX2_revive 25 = .ok (.getfield 19, 3) := by decide +kernel
theorem dX2_revive_28 : decode cX2_revive 28 = .ok (.bipush 120, 2) := by decide +kernel
theorem dX2_revive_30 : decode cX2_revive 30 = .ok (.invokevirtual 181, 3) := by decide +kernel
theorem dX2_revive_33 : decode cX2_revive 33 = .ok (.ireturn, 1) := by decide +kernel
set_option maxRecDepth 20000 in
theorem ggX2_clerk_X2_requireMessage : GoodIn wsX2_clerk wsX2_requireMessage := goodIn_ca (goodIn_r _ [8, 9, 10, 3, 11, 12, 13, 14, 15, 16, 17, 18, 19, 20, 21, 22, 23, 24, 25, 26, 27, 28, 29, 30, 31] (by decide +kernel) (by decide +kernel)) (goodIn_sub (fun _ h => List.mem_cons_of_mem _ (List.mem_append_right _ h)) (by decide +kernel))
set_option maxRecDepth 20000 in
theorem gX2_clerk_X2_requireMessage : GoodIn wsX2_clerk (wsV RX2 130 RX2 yX2_requireMessage wsX2_requireMessage) := goodIn_app (goodIn_of _ (by decide +kernel)) ggX2_clerk_X2_requireMessage
theorem dX2_clerk_0 : decode cX2_clerk 0 = .ok (.aload_n 0, 1) := by decide +kernel
theorem dX2_clerk_1 : decode cX2_clerk 1 = .ok (.iload_n 1, 1) := by decide +kernel
theorem dX2_clerk_2 : decode cX2_clerk 2 = .ok (.invokevirtual 130, 3) := by decide +kernel
theorem dX2_clerk_5 : decode cX2_clerk 5 = .ok (.aload_n 0, 1) := by decide +kernel
theorem dX2_clerk_6 : decode cX2_clerk 6 = .ok (.getfield 19, 3) := by decide +kernel
theorem dX2_clerk_9 : decode cX2_clerk 9 = .ok (.getfield 124, 3) := by decide +kernel
theorem dX2_clerk_12 : decode cX2_clerk 12 = .ok (.iload_n 1, 1) := by decide +kernel
theorem dX2_clerk_13 : decode cX2_clerk 13 = .ok (.caload, 1) := by decide +kernel
theorem dX2_clerk_14 : decode cX2_clerk 14 = .ok (.bipush 116, 2) := by decide +kernel
theorem dX2_clerk_16 : decode cX2_clerk 16 = .ok (.if_icmp .eq 13, 3) := by decide +kernel
theorem dX2_clerk_19 : decode cX2_clerk 19 = .ok (.new 88, 3) := by decide +kernel
theorem dX2_clerk_22 : decode cX2_clerk 22 = .ok (.dup, 1) := by decide +kernel
theorem dX2_clerk_23 : decode cX2_clerk 23 = .ok (.ldc 185, 2) := by decide +kernel
theorem dX2_clerk_25 : decode cX2_clerk 25 = .ok (.invokespecial 92, 3) := by decide +kernel
theorem dX2_clerk_28 : decode cX2_clerk 28 = .ok (.athrow, 1) := by decide +kernel
theorem dX2_clerk_29 : decode cX2_clerk 29 = .ok (.aload_n 0, 1) := by decide +kernel
theorem dX2_clerk_30 : decode cX2_clerk 30 = .ok (.getfield 19, 3) := by decide +kernel
theorem dX2_clerk_33 : decode cX2_clerk 33 = .ok (.getfield 187, 3) := by decide +kernel
theorem dX2_clerk_36 : decode cX2_clerk 36 = .ok (.iload_n 1, 1) := by decide +kernel
theorem dX2_clerk_37 : decode cX2_clerk 37 = .ok (.iaload, 1) := by decide +kernel
theorem dX2_clerk_38 : decode cX2_clerk 38 = .ok (.ireturn, 1) := by decide +kernel
set_option maxRecDepth 20000 in
theorem ggX2_has_X2_requireClerk : GoodIn wsX2_has wsX2_requireClerk := goodIn_ca (goodIn_r _ [5, 6, 7, 8, 9, 4, 10] (by decide +kernel) (by decide +kernel)) (goodIn_sub (fun _ h => List.mem_cons_of_mem _ (List.mem_append_left _ (List.mem_append_right _ h))) (by decide +kernel))
set_option maxRecDepth 20000 in
theorem gX2_has_X2_requireClerk : GoodIn wsX2_has (va_wsS RX2 155 yX2_requireClerk wsX2_requireClerk) := goodIn_app (goodIn_of _ (by decide +kernel)) ggX2_has_X2_requireClerk
set_option maxRecDepth 20000 in
theorem ggX2_has_X1_countTakenBy : GoodIn wsX2_has wsX1_countTakenBy := goodIn_ca (goodIn_r _ [14, 15, 16, 17, 21, 22, 23, 24, 25, 26, 27, 28, 29, 30, 31, 32, 33] (by decide +kernel) (by decide +kernel)) (goodIn_sub (fun _ h => List.mem_cons_of_mem _ (List.mem_append_right _ h)) (by decide +kernel))
set_option maxRecDepth 20000 in
theorem gX2_has_X1_countTakenBy_n158 : GoodIn wsX2_has (wsX1_countTakenBy) := ggX2_has_X1_countTakenBy
theorem dX2_has_0 : decode cX2_has 0 = .ok (.iload_n 1, 1) := by decide +kernel
theorem dX2_has_1 : decode cX2_has 1 = .ok (.invokestatic 155, 3) := by decide +kernel
theorem dX2_has_4 : decode cX2_has 4 = .ok (.aload_n 0, 1) := by decide +kernel
theorem dX2_has_5 : decode cX2_has 5 = .ok (.getfield 19, 3) := by decide +kernel
theorem dX2_has_8 : decode cX2_has 8 = .ok (.iload_n 1, 1) := by decide +kernel
theorem dX2_has_9 : decode cX2_has 9 = .ok (.invokevirtual 158, 3) := by decide +kernel
theorem dX2_has_12 : decode cX2_has 12 = .ok (.ireturn, 1) := by decide +kernel
set_option maxRecDepth 20000 in
theorem ggX2_pass_X2_isWithin : GoodIn wsX2_pass wsX2_isWithin := goodIn_r _ [8] (by decide +kernel) (by decide +kernel)
set_option maxRecDepth 20000 in
theorem gX2_pass_X2_isWithin : GoodIn wsX2_pass (va_wsS RX2 27 yX2_isWithin wsX2_isWithin) := goodIn_app (goodIn_of _ (by decide +kernel)) ggX2_pass_X2_isWithin
set_option maxRecDepth 20000 in
theorem ggX2_pass_X1_putBackTakenUntil : GoodIn wsX2_pass wsX1_putBackTakenUntil := goodIn_ca (goodIn_r _ [12, 13, 14, 15, 16, 17, 18, 10, 19, 20, 21, 65, 66, 67, 68, 69, 70, 71, 72, 73, 74, 75, 76, 77] (by decide +kernel) (by decide +kernel)) (goodIn_sub (fun _ h => List.mem_cons_of_mem _ (List.mem_append_right _ h)) (by decide +kernel))
set_option maxRecDepth 20000 in
theorem gX2_pass_X1_putBackTakenUntil_n190 : GoodIn wsX2_pass (wsX1_putBackTakenUntil) := ggX2_pass_X1_putBackTakenUntil
set_option maxRecDepth 20000 in
theorem ggX2_pass_X2_postReminders : GoodIn wsX2_pass wsX2_postReminders := goodIn_ca (goodIn_r _ [25, 26, 4, 3, 27, 10, 28, 29, 13, 30, 31, 32, 7, 33, 34, 35, 36, 37, 38, 39, 40, 41, 42, 43, 44, 45, 46, 47, 48, 49, 50, 51, 52, 53, 54, 55, 56, 57, 58, 59, 60, 61, 21, 14, 62, 63, 64, 78, 79, 80, 81, 82, 83, 84, 65, 66, 67, 68, 69, 70, 71, 72, 73, 74, 75, 76, 77] (by decide +kernel) (by decide +kernel)) (goodIn_sub (fun _ h => List.mem_cons_of_mem _ (List.mem_append_right _ h)) (by decide +kernel))
set_option maxRecDepth 20000 in
theorem gX2_pass_X2_postReminders : GoodIn wsX2_pass (wsV RX2 193 RX2 yX2_postReminders wsX2_postReminders) := goodIn_app (goodIn_of _ (by decide +kernel)) ggX2_pass_X2_postReminders
theorem dX2_pass_0 : decode cX2_pass 0 = .ok (.iload_n 1, 1) := by decide +kernel
theorem dX2_pass_1 : decode cX2_pass 1 = .ok (.iconst 1, 1) := by decide +kernel
theorem dX2_pass_2 : decode cX2_pass 2 = .ok (.bipush 30, 2) := by decide +kernel
theorem dX2_pass_4 : decode cX2_pass 4 = .ok (.invokestatic 27, 3) := by decide +kernel
theorem dX2_pass_7 : decode cX2_pass 7 = .ok (.ifCond .eq 15, 3) := by decide +kernel
theorem dX2_pass_10 : decode cX2_pass 10 = .ok (.aload_n 0, 1) := by decide +kernel
theorem dX2_pass_11 : decode cX2_pass 11 = .ok (.getfield 23, 3) := by decide +kernel
theorem dX2_pass_14 : decode cX2_pass 14 = .ok (.iload_n 1, 1) := by decide +kernel
theorem dX2_pass_15 : decode cX2_pass 15 = .ok (.iadd, 1) := by decide +kernel
theorem dX2_pass_16 : decode cX2_pass 16 = .ok (.sipush 999, 3) := by decide +kernel
theorem dX2_pass_19 : decode cX2_pass 19 = .ok (.if_icmp .le 13, 3) := by decide +kernel
theorem dX2_pass_22 : decode cX2_pass 22 = .ok (.new 31, 3) := by decide +kernel
theorem dX2_pass_25 : decode cX2_pass 25 = .ok (.dup, 1) := by decide +kernel
theorem dX2_pass_26 : decode cX2_pass 26 = .ok (.ldc 63, 2) := by decide +kernel
theorem dX2_pass_28 : decode cX2_pass 28 = .ok (.invokespecial 35, 3) := by decide +kernel
theorem dX2_pass_31 : decode cX2_pass 31 = .ok (.athrow, 1) := by decide +kernel
theorem dX2_pass_32 : decode cX2_pass 32 = .ok (.iconst 0, 1) := by decide +kernel
theorem dX2_pass_33 : decode cX2_pass 33 = .ok (.istore_n 2, 1) := by decide +kernel
theorem dX2_pass_34 : decode cX2_pass 34 = .ok (.iconst 0, 1) := by decide +kernel
theorem dX2_pass_35 : decode cX2_pass 35 = .ok (.istore_n 3, 1) := by decide +kernel
theorem dX2_pass_36 : decode cX2_pass 36 = .ok (.iload_n 3, 1) := by decide +kernel
theorem dX2_pass_37 : decode cX2_pass 37 = .ok (.iload_n 1, 1) := by decide +kernel
theorem dX2_pass_38 : decode cX2_pass 38 = .ok (.if_icmp .ge 43, 3) := by decide +kernel
theorem dX2_pass_41 : decode cX2_pass 41 = .ok (.aload_n 0, 1) := by decide +kernel
theorem dX2_pass_42 : decode cX2_pass 42 = .ok (.dup, 1) := by decide +kernel
theorem dX2_pass_43 : decode cX2_pass 43 = .ok (.getfield 23, 3) := by decide +kernel
theorem dX2_pass_46 : decode cX2_pass 46 = .ok (.iconst 1, 1) := by decide +kernel
theorem dX2_pass_47 : decode cX2_pass 47 = .ok (.iadd, 1) := by decide +kernel
theorem dX2_pass_48 : decode cX2_pass 48 = .ok (.putfield 23, 3) := by decide +kernel
theorem dX2_pass_51 : decode cX2_pass 51 = .ok (.aload_n 0, 1) := by decide +kernel
theorem dX2_pass_52 : decode cX2_pass 52 = .ok (.getfield 19, 3) := by decide +kernel
theorem dX2_pass_55 : decode cX2_pass 55 = .ok (.aload_n 0, 1) := by decide +kernel
theorem dX2_pass_56 : decode cX2_pass 56 = .ok (.getfield 23, 3) := by decide +kernel
theorem dX2_pass_59 : decode cX2_pass 59 = .ok (.iconst 5, 1) := by decide +kernel
theorem dX2_pass_60 : decode cX2_pass 60 = .ok (.isub, 1) := by decide +kernel
theorem dX2_pass_61 : decode cX2_pass 61 = .ok (.aload_n 0, 1) := by decide +kernel
theorem dX2_pass_62 : decode cX2_pass 62 = .ok (.getfield 23, 3) := by decide +kernel
theorem dX2_pass_65 : decode cX2_pass 65 = .ok (.invokevirtual 190, 3) := by decide +kernel
theorem dX2_pass_68 : decode cX2_pass 68 = .ok (.iload_n 2, 1) := by decide +kernel
theorem dX2_pass_69 : decode cX2_pass 69 = .ok (.aload_n 0, 1) := by decide +kernel
theorem dX2_pass_70 : decode cX2_pass 70 = .ok (.invokevirtual 193, 3) := by decide +kernel
theorem dX2_pass_73 : decode cX2_pass 73 = .ok (.iadd, 1) := by decide +kernel
theorem dX2_pass_74 : decode cX2_pass 74 = .ok (.istore_n 2, 1) := by decide +kernel
theorem dX2_pass_75 : decode cX2_pass 75 = .ok (.iinc 3 1, 3) := by decide +kernel
theorem dX2_pass_78 : decode cX2_pass 78 = .ok (.goto (-42), 3) := by decide +kernel
theorem dX2_pass_81 : decode cX2_pass 81 = .ok (.iload_n 2, 1) := by decide +kernel
theorem dX2_pass_82 : decode cX2_pass 82 = .ok (.ireturn, 1) := by decide +kernel
theorem dX2_day_0 : decode cX2_day 0 = .ok (.aload_n 0, 1) := by decide +kernel
theorem dX2_day_1 : decode cX2_day 1 = .ok (.getfield 23, 3) := by decide +kernel
theorem dX2_day_4 : decode cX2_day 4 = .ok (.ireturn, 1) := by decide +kernel
set_option maxRecDepth 20000 in
theorem ggX2_count_X1_countIn : GoodIn wsX2_count wsX1_countIn := goodIn_ca (goodIn_r _ [7, 8, 9, 13, 14, 15, 16, 17, 18, 19, 20, 21, 22, 23, 24, 25] (by decide +kernel) (by decide +kernel)) (goodIn_sub (fun _ h => List.mem_cons_of_mem _ (List.mem_append_right _ h)) (by decide +kernel))
set_option maxRecDepth 20000 in
theorem gX2_count_X1_countIn_n181 : GoodIn wsX2_count (wsX1_countIn) := ggX2_count_X1_countIn
theorem dX2_count_0 : decode cX2_count 0 = .ok (.iload_n 1, 1) := by decide +kernel
theorem dX2_count_1 : decode cX2_count 1 = .ok (.bipush 104, 2) := by decide +kernel
theorem dX2_count_3 : decode cX2_count 3 = .ok (.if_icmp .eq 37, 3) := by decide +kernel
theorem dX2_count_6 : decode cX2_count 6 = .ok (.iload_n 1, 1) := by decide +kernel
theorem dX2_count_7 : decode cX2_count 7 = .ok (.bipush 119, 2) := by decide +kernel
theorem dX2_count_9 : decode cX2_count 9 = .ok (.if_icmp .eq 31, 3) := by decide +kernel
theorem dX2_count_12 : decode cX2_count 12 = .ok (.iload_n 1, 1) := by decide +kernel
theorem dX2_count_13 : decode cX2_count 13 = .ok (.bipush 116, 2) := by decide +kernel
theorem dX2_count_15 : decode cX2_count 15 = .ok (.if_icmp .eq 25, 3) := by decide +kernel
theorem dX2_count_18 : decode cX2_count 18 = .ok (.iload_n 1, 1) := by decide +kernel
theorem dX2_count_19 : decode cX2_count 19 = .ok (.bipush 100, 2) := by decide +kernel
theorem dX2_count_21 : decode cX2_count 21 = .ok (.if_icmp .eq 19, 3) := by decide +kernel
theorem dX2_count_24 : decode cX2_count 24 = .ok (.iload_n 1, 1) := by decide +kernel
theorem dX2_count_25 : decode cX2_count 25 = .ok (.bipush 120, 2) := by decide +kernel
theorem dX2_count_27 : decode cX2_count 27 = .ok (.if_icmp .eq 13, 3) := by decide +kernel
theorem dX2_count_30 : decode cX2_count 30 = .ok (.new 31, 3) := by decide +kernel
theorem dX2_count_33 : decode cX2_count 33 = .ok (.dup, 1) := by decide +kernel
theorem dX2_count_34 : decode cX2_count 34 = .ok (.ldc 197, 2) := by decide +kernel
theorem dX2_count_36 : decode cX2_count 36 = .ok (.invokespecial 35, 3) := by decide +kernel
theorem dX2_count_39 : decode cX2_count 39 = .ok (.athrow, 1) := by decide +kernel
theorem dX2_count_40 : decode cX2_count 40 = .ok (.aload_n 0, 1) := by decide +kernel
theorem dX2_count_41 : decode cX2_count 41 = .ok (.getfield 19, 3) := by decide +kernel
theorem dX2_count_44 : decode cX2_count 44 = .ok (.iload_n 1, 1) := by decide +kernel
theorem dX2_count_45 : decode cX2_count 45 = .ok (.invokevirtual 181, 3) := by decide +kernel
theorem dX2_count_48 : decode cX2_count 48 = .ok (.ireturn, 1) := by decide +kernel
set_option maxRecDepth 20000 in
theorem ggX2_doneShare_X1_countIn : GoodIn wsX2_doneShare wsX1_countIn := goodIn_ca (goodIn_r _ [7, 8, 9, 13, 14, 15, 16, 17, 18, 19, 20, 21, 22, 23, 24, 25] (by decide +kernel) (by decide +kernel)) (goodIn_sub (fun _ h => List.mem_cons_of_mem _ (List.mem_append_right _ h)) (by decide +kernel))
set_option maxRecDepth 20000 in
theorem gX2_doneShare_X1_countIn_n181 : GoodIn wsX2_doneShare (wsX1_countIn) := ggX2_doneShare_X1_countIn
theorem dX2_doneShare_0 : decode cX2_doneShare 0 = .ok (.aload_n 0, 1) := by decide +kernel
theorem dX2_doneShare_1 : decode cX2_doneShare 1 = .ok (.getfield 19, 3) := by decide +kernel
theorem dX2_doneShare_4 : decode cX2_doneShare 4 = .ok (.getfield 199, 3) := by decide +kernel
theorem dX2_doneShare_7 : decode cX2_doneShare 7 = .ok (.ifCond .ne 13, 3) := by decide +kernel
theorem dX2_doneShare_10 : decode cX2_doneShare 10 = .ok (.new 202, 3) := by decide +kernel
theorem dX2_doneShare_13 : decode cX2_doneShare 13 = .ok (.dup, 1) := by decide +kernel
theorem dX2_doneShare_14 : decode cX2_doneShare 14 = .ok (.ldc 204, 2) := by decide +kernel
theorem dX2_doneShare_16 : decode cX2_doneShare 16 = .ok (.invokespecial 206, 3) := by decide +kernel
theorem dX2_doneShare_19 : decode cX2_doneShare 19 = .ok (.athrow, 1) := by decide +kernel
theorem dX2_doneShare_20 : decode cX2_doneShare 20 = .ok (.aload_n 0, 1) := by decide +kernel
theorem dX2_doneShare_21 : decode cX2_doneShare 21 = .ok (.getfield 19, 3) := by decide +kernel
theorem dX2_doneShare_24 : decode cX2_doneShare 24 = .ok (.bipush 100, 2) := by decide +kernel
theorem dX2_doneShare_26 : decode cX2_doneShare 26 = .ok (.invokevirtual 181, 3) := by decide +kernel
theorem dX2_doneShare_29 : decode cX2_doneShare 29 = .ok (.i2f, 1) := by decide +kernel
theorem dX2_doneShare_30 : decode cX2_doneShare 30 = .ok (.aload_n 0, 1) := by decide +kernel
theorem dX2_doneShare_31 : decode cX2_doneShare 31 = .ok (.getfield 19, 3) := by decide +kernel
theorem dX2_doneShare_34 : decode cX2_doneShare 34 = .ok (.getfield 199, 3) := by decide +kernel
theorem dX2_doneShare_37 : decode cX2_doneShare 37 = .ok (.i2f, 1) := by decide +kernel
theorem dX2_doneShare_38 : decode cX2_doneShare 38 = .ok (.fdiv, 1) := by decide +kernel
theorem dX2_doneShare_39 : decode cX2_doneShare 39 = .ok (.freturn, 1) := by decide +kernel
set_option maxRecDepth 20000 in
theorem ggX2_meanAmount_X0_countOpen : GoodIn wsX2_meanAmount wsX0_countOpen := goodIn_ca (goodIn_r _ [7, 8, 9, 10, 11, 5, 12, 13, 20, 21, 22, 23, 24, 25, 26] (by decide +kernel) (by decide +kernel)) (goodIn_sub (fun _ h => List.mem_cons_of_mem _ (List.mem_append_right _ h)) (by decide +kernel))
set_option maxRecDepth 20000 in
theorem gX2_meanAmount_X0_countOpen_n207 : GoodIn wsX2_meanAmount (wsX0_countOpen) := ggX2_meanAmount_X0_countOpen
set_option maxRecDepth 20000 in
theorem ggX2_meanAmount_X0_sumOfAmounts : GoodIn wsX2_meanAmount wsX0_sumOfAmounts := goodIn_ca (goodIn_r _ [16, 8, 13, 20, 21, 22, 23, 24, 25, 26] (by decide +kernel) (by decide +kernel)) (goodIn_sub (fun _ h => List.mem_cons_of_mem _ (List.mem_append_right _ h)) (by decide +kernel))
set_option maxRecDepth 20000 in
theorem gX2_meanAmount_X0_sumOfAmounts_n212 : GoodIn wsX2_meanAmount (wsX0_sumOfAmounts) := ggX2_meanAmount_X0_sumOfAmounts
theorem dX2_meanAmount_0 : decode cX2_meanAmount 0 = .ok (.aload_n 0, 1) := by decide +kernel
theorem dX2_meanAmount_1 : decode cX2_meanAmount 1 = .ok (.getfield 10, 3) := by decide +kernel
theorem dX2_meanAmount_4 : decode cX2_meanAmount 4 = .ok (.invokevirtual 207, 3) := by decide +kernel
theorem dX2_meanAmount_7 : decode cX2_meanAmount 7 = .ok (.istore_n 1, 1) := by decide +kernel
theorem dX2_meanAmount_8 : decode cX2_meanAmount 8 = .ok (.iload_n 1, 1) := by decide +kernel
theorem dX2_meanAmount_9 : decode cX2_meanAmount 9 = .ok (.ifCond .ne 13, 3) := by decide +kernel
theorem dX2_meanAmount_12 : decode cX2_meanAmount 12 = .ok (.new 202, 3) := by decide +kernel
theorem dX2_meanAmount_15 : decode cX2_meanAmount 15 = .ok (.dup, 1) := by decide +kernel
theorem dX2_meanAmount_16 : decode cX2_meanAmount 16 = .ok (.ldc 210, 2) := by decide +kernel
theorem dX2_meanAmount_18 : decode cX2_meanAmount 18 = .ok (.invokespecial 206, 3) := by decide +kernel
theorem dX2_meanAmount_21 : decode cX2_meanAmount 21 = .ok (.athrow, 1) := by decide +kernel
theorem dX2_meanAmount_22 : decode cX2_meanAmount 22 = .ok (.aload_n 0, 1) := by decide +kernel
theorem dX2_meanAmount_23 : decode cX2_meanAmount 23 = .ok (.getfield 10, 3) := by decide +kernel
theorem dX2_meanAmount_26 : decode cX2_meanAmount 26 = .ok (.invokevirtual 212, 3) := by decide +kernel
theorem dX2_meanAmount_29 : decode cX2_meanAmount 29 = .ok (.i2d, 1) := by decide +kernel
theorem dX2_meanAmount_30 : decode cX2_meanAmount 30 = .ok (.iload_n 1, 1) := by decide +kernel
theorem dX2_meanAmount_31 : decode cX2_meanAmount 31 = .ok (.i2d, 1) := by decide +kernel
theorem dX2_meanAmount_32 : decode cX2_meanAmount 32 = .ok (.ddiv, 1) := by decide +kernel
theorem dX2_meanAmount_33 : decode cX2_meanAmount 33 = .ok (.dreturn, 1) := by decide +kernel
theorem dX2_isWithin_0 : decode cX2_isWithin 0 = .ok (.iload_n 0, 1) := by decide +kernel
theorem dX2_isWithin_1 : decode cX2_isWithin 1 = .ok (.iload_n 1, 1) := by decide +kernel
theorem dX2_isWithin_2 : decode cX2_isWithin 2 = .ok (.if_icmp .lt 12, 3) := by decide +kernel
theorem dX2_isWithin_5 : decode cX2_isWithin 5 = .ok (.iload_n 0, 1) := by decide +kernel
theorem dX2_isWithin_6 : decode cX2_isWithin 6 = .ok (.iload_n 2, 1) := by decide +kernel
theorem dX2_isWithin_7 : decode cX2_isWithin 7 = .ok (.if_icmp .gt 7, 3) := by decide +kernel
theorem dX2_isWithin_10 : decode cX2_isWithin 10 = .ok (.iconst 1, 1) := by decide +kernel
theorem dX2_isWithin_11 : decode cX2_isWithin 11 = .ok (.goto 4, 3) := by decide +kernel
theorem dX2_isWithin_14 : decode cX2_isWithin 14 = .ok (.iconst 0, 1) := by decide +kernel
theorem dX2_isWithin_15 : decode cX2_isWithin 15 = .ok (.ireturn, 1) := by decide +kernel
set_option maxRecDepth 20000 in
theorem ggX2_requireCase_X0_contains : GoodIn wsX2_requireCase wsX0_contains := goodIn_r _ [7, 8, 12, 13, 14, 15, 16, 17, 18] (by decide +kernel) (by decide +kernel)
set_option maxRecDepth 20000 in
theorem gX2_requireCase_X0_contains_n121 : GoodIn wsX2_requireCase (wsX0_contains) := ggX2_requireCase_X0_contains
theorem dX2_requireCase_0 : decode cX2_requireCase 0 = .ok (.aload_n 0, 1) := by decide +kernel
theorem dX2_requireCase_1 : decode cX2_requireCase 1 = .ok (.getfield 10, 3) := by decide +kernel
theorem dX2_requireCase_4 : decode cX2_requireCase 4 = .ok (.iload_n 1, 1) := by decide +kernel
theorem dX2_requireCase_5 : decode cX2_requireCase 5 = .ok (.invokevirtual 121, 3) := by decide +kernel
theorem dX2_requireCase_8 : decode cX2_requireCase 8 = .ok (.ifCond .ne 13, 3) := by decide +kernel
theorem dX2_requireCase_11 : decode cX2_requireCase 11 = .ok (.new 215, 3) := by decide +kernel
theorem dX2_requireCase_14 : decode cX2_requireCase 14 = .ok (.dup, 1) := by decide +kernel
theorem dX2_requireCase_15 : decode cX2_requireCase 15 = .ok (.ldc 217, 2) := by decide +kernel
theorem dX2_requireCase_17 : decode cX2_requireCase 17 = .ok (.invokespecial 219, 3) := by decide +kernel
theorem dX2_requireCase_20 : decode cX2_requireCase 20 = .ok (.athrow, 1) := by decide +kernel
theorem dX2_requireCase_21 : decode cX2_requireCase 21 = .ok (.return_, 1) := by decide +kernel
set_option maxRecDepth 20000 in
theorem ggX2_requireOpen_X0_isOpen : GoodIn wsX2_requireOpen wsX0_isOpen := goodIn_ca (goodIn_r _ [7, 8, 12, 13, 14, 15, 16, 17, 18] (by decide +kernel) (by decide +kernel)) (goodIn_sub (fun _ h => List.mem_cons_of_mem _ (List.mem_append_right _ h)) (by decide +kernel))
set_option maxRecDepth 20000 in
theorem gX2_requireOpen_X0_isOpen_n220 : GoodIn wsX2_requireOpen (wsX0_isOpen) := ggX2_requireOpen_X0_isOpen
theorem dX2_requireOpen_0 : decode cX2_requireOpen 0 = .ok (.aload_n 0, 1) := by decide +kernel
theorem dX2_requireOpen_1 : decode cX2_requireOpen 1 = .ok (.getfield 10, 3) := by decide +kernel
theorem dX2_requireOpen_4 : decode cX2_requireOpen 4 = .ok (.iload_n 1, 1) := by decide +kernel
theorem dX2_requireOpen_5 : decode cX2_requireOpen 5 = .ok (.invokevirtual 220, 3) := by decide +kernel
theorem dX2_requireOpen_8 : decode cX2_requireOpen 8 = .ok (.ifCond .ne 13, 3) := by decide +kernel
theorem dX2_requireOpen_11 : decode cX2_requireOpen 11 = .ok (.new 42, 3) := by decide +kernel
theorem dX2_requireOpen_14 : decode cX2_requireOpen 14 = .ok (.dup, 1) := by decide +kernel
theorem dX2_requireOpen_15 : decode cX2_requireOpen 15 = .ok (.ldc 223, 2) := by decide +kernel
theorem dX2_requireOpen_17 : decode cX2_requireOpen 17 = .ok (.invokespecial 46, 3) := by decide +kernel
theorem dX2_requireOpen_20 : decode cX2_requireOpen 20 = .ok (.athrow, 1) := by decide +kernel
theorem dX2_requireOpen_21 : decode cX2_requireOpen 21 = .ok (.return_, 1) := by decide +kernel
set_option maxRecDepth 20000 in
theorem ggX2_requireMessage_X1_contains : GoodIn wsX2_requireMessage wsX1_contains := goodIn_r _ [7, 8, 12, 13, 14, 15, 16, 17, 18, 19, 20, 21, 22, 23, 24] (by decide +kernel) (by decide +kernel)
set_option maxRecDepth 20000 in
theorem gX2_requireMessage_X1_contains_n225 : GoodIn wsX2_requireMessage (wsX1_contains) := ggX2_requireMessage_X1_contains
theorem dX2_requireMessage_0 : decode cX2_requireMessage 0 = .ok (.aload_n 0, 1) := by decide +kernel
theorem dX2_requireMessage_1 : decode cX2_requireMessage 1 = .ok (.getfield 19, 3) := by decide +kernel
theorem dX2_requireMessage_4 : decode cX2_requireMessage 4 = .ok (.iload_n 1, 1) := by decide +kernel
theorem dX2_requireMessage_5 : decode cX2_requireMessage 5 = .ok (.invokevirtual 225, 3) := by decide +kernel
theorem dX2_requireMessage_8 : decode cX2_requireMessage 8 = .ok (.ifCond .ne 13, 3) := by decide +kernel
theorem dX2_requireMessage_11 : decode cX2_requireMessage 11 = .ok (.new 215, 3) := by decide +kernel
theorem dX2_requireMessage_14 : decode cX2_requireMessage 14 = .ok (.dup, 1) := by decide +kernel
theorem dX2_requireMessage_15 : decode cX2_requireMessage 15 = .ok (.ldc 226, 2) := by decide +kernel
theorem dX2_requireMessage_17 : decode cX2_requireMessage 17 = .ok (.invokespecial 219, 3) := by decide +kernel
theorem dX2_requireMessage_20 : decode cX2_requireMessage 20 = .ok (.athrow, 1) := by decide +kernel
theorem dX2_requireMessage_21 : decode cX2_requireMessage 21 = .ok (.return_, 1) := by decide +kernel
theorem dX2_requireState_0 : decode cX2_requireState 0 = .ok (.aload_n 0, 1) := by decide +kernel
theorem dX2_requireState_1 : decode cX2_requireState 1 = .ok (.getfield 19, 3) := by decide +kernel
theorem dX2_requireState_4 : decode cX2_requireState 4 = .ok (.getfield 124, 3) := by decide +kernel
theorem dX2_requireState_7 : decode cX2_requireState 7 = .ok (.iload_n 1, 1) := by decide +kernel
theorem dX2_requireState_8 : decode cX2_requireState 8 = .ok (.caload, 1) := by decide +kernel
theorem dX2_requireState_9 : decode cX2_requireState 9 = .ok (.iload_n 2, 1) := by decide +kernel
theorem dX2_requireState_10 : decode cX2_requireState 10 = .ok (.if_icmp .eq 13, 3) := by decide +kernel
theorem dX2_requireState_13 : decode cX2_requireState 13 = .ok (.new 42, 3) := by decide +kernel
theorem dX2_requireState_16 : decode cX2_requireState 16 = .ok (.dup, 1) := by decide +kernel
theorem dX2_requireState_17 : decode cX2_requireState 17 = .ok (.ldc 228, 2) := by decide +kernel
theorem dX2_requireState_19 : decode cX2_requireState 19 = .ok (.invokespecial 46, 3) := by decide +kernel
theorem dX2_requireState_22 : decode cX2_requireState 22 = .ok (.athrow, 1) := by decide +kernel
theorem dX2_requireState_23 : decode cX2_requireState 23 = .ok (.return_, 1) := by decide +kernel
set_option maxRecDepth 20000 in
theorem ggX2_requireQueue_X2_isWithin : GoodIn wsX2_requireQueue wsX2_isWithin := goodIn_r _ [6] (by decide +kernel) (by decide +kernel)
set_option maxRecDepth 20000 in
theorem gX2_requireQueue_X2_isWithin : GoodIn wsX2_requireQueue (va_wsS RX2 27 yX2_isWithin wsX2_isWithin) := goodIn_app (goodIn_of _ (by decide +kernel)) ggX2_requireQueue_X2_isWithin
theorem dX2_requireQueue_0 : decode cX2_requireQueue 0 = .ok (.iload_n 0, 1) := by decide +kernel
theorem dX2_requireQueue_1 : decode cX2_requireQueue 1 = .ok (.iconst 0, 1) := by decide +kernel
theorem dX2_requireQueue_2 : decode cX2_requireQueue 2 = .ok (.iconst 2, 1) := by decide +kernel
theorem dX2_requireQueue_3 : decode cX2_requireQueue 3 = .ok (.invokestatic 27, 3) := by decide +kernel
theorem dX2_requireQueue_6 : decode cX2_requireQueue 6 = .ok (.ifCond .ne 13, 3) := by decide +kernel
theorem dX2_requireQueue_9 : decode cX2_requireQueue 9 = .ok (.new 31, 3) := by decide +kernel
theorem dX2_requireQueue_12 : decode cX2_requireQueue 12 = .ok (.dup, 1) := by decide +kernel
theorem dX2_requireQueue_13 : decode cX2_requireQueue 13 = .ok (.ldc 230, 2) := by decide +kernel
theorem dX2_requireQueue_15 : decode cX2_requireQueue 15 = .ok (.invokespecial 35, 3) := by decide +kernel
theorem dX2_requireQueue_18 : decode cX2_requireQueue 18 = .ok (.athrow, 1) := by decide +kernel
theorem dX2_requireQueue_19 : decode cX2_requireQueue 19 = .ok (.return_, 1) := by decide +kernel
set_option maxRecDepth 20000 in
theorem ggX2_requireClerk_X2_isWithin : GoodIn wsX2_requireClerk wsX2_isWithin := goodIn_r _ [6] (by decide +kernel) (by decide +kernel)
set_option maxRecDepth 20000 in
theorem gX2_requireClerk_X2_isWithin : GoodIn wsX2_requireClerk (va_wsS RX2 27 yX2_isWithin wsX2_isWithin) := goodIn_app (goodIn_of _ (by decide +kernel)) ggX2_requireClerk_X2_isWithin
theorem dX2_requireClerk_0 : decode cX2_requireClerk 0 = .ok (.iload_n 0, 1) := by decide +kernel
theorem dX2_requireClerk_1 : decode cX2_requireClerk 1 = .ok (.iconst 0, 1) := by decide +kernel
theorem dX2_requireClerk_2 : decode cX2_requireClerk 2 = .ok (.iconst 3, 1) := by decide +kernel
theorem dX2_requireClerk_3 : decode cX2_requireClerk 3 = .ok (.invokestatic 27, 3) := by decide +kernel
theorem dX2_requireClerk_6 : decode cX2_requireClerk 6 = .ok (.ifCond .ne 13, 3) := by decide +kernel
theorem dX2_requireClerk_9 : decode cX2_requireClerk 9 = .ok (.new 31, 3) := by decide +kernel
theorem dX2_requireClerk_12 : decode cX2_requireClerk 12 = .ok (.dup, 1) := by decide +kernel
theorem dX2_requireClerk_13 : decode cX2_requireClerk 13 = .ok (.ldc 232, 2) := by decide +kernel
theorem dX2_requireClerk_15 : decode cX2_requireClerk 15 = .ok (.invokespecial 35, 3) := by decide +kernel
theorem dX2_requireClerk_18 : decode cX2_requireClerk 18 = .ok (.athrow, 1) := by decide +kernel
theorem dX2_requireClerk_19 : decode cX2_requireClerk 19 = .ok (.return_, 1) := by decide +kernel
set_option maxRecDepth 20000 in
theorem ggX2_settle_X0_contains : GoodIn wsX2_settle wsX0_contains := goodIn_r _ [6, 7, 44, 45, 46, 47, 48, 49, 50] (by decide +kernel) (by decide +kernel)
set_option maxRecDepth 20000 in
theorem gX2_settle_X0_contains_n121 : GoodIn wsX2_settle (wsX0_contains) := ggX2_settle_X0_contains
set_option maxRecDepth 20000 in
theorem ggX2_settle_X0_pay : GoodIn wsX2_settle wsX0_pay := goodIn_ca (goodIn_r _ [10, 11, 12, 13, 14, 15, 44, 45, 46, 47, 48, 49, 50] (by decide +kernel) (by decide +kernel)) (goodIn_sub (fun _ h => List.mem_cons_of_mem _ (List.mem_append_right _ h)) (by decide +kernel))
set_option maxRecDepth 20000 in
theorem gX2_settle_X0_pay_n240 : GoodIn wsX2_settle (wsX0_pay) := ggX2_settle_X0_pay
set_option maxRecDepth 20000 in
theorem ggX2_settle_X0_endWait : GoodIn wsX2_settle wsX0_endWait := goodIn_ca (goodIn_r _ [18, 19, 44, 45, 46, 47, 48, 49, 50] (by decide +kernel) (by decide +kernel)) (goodIn_sub (fun _ h => List.mem_cons_of_mem _ (List.mem_append_right _ h)) (by decide +kernel))
set_option maxRecDepth 20000 in
theorem gX2_settle_X0_endWait_n244 : GoodIn wsX2_settle (wsX0_endWait) := ggX2_settle_X0_endWait
set_option maxRecDepth 20000 in
theorem ggX2_settle_X0_sendLetter : GoodIn wsX2_settle wsX0_sendLetter := goodIn_ca (goodIn_r _ [22, 23, 24, 25, 26, 4, 27, 11, 44, 45, 46, 47, 48, 49, 50] (by decide +kernel) (by decide +kernel)) (goodIn_sub (fun _ h => List.mem_cons_of_mem _ (List.mem_append_right _ h)) (by decide +kernel))
set_option maxRecDepth 20000 in
theorem gX2_settle_X0_sendLetter_n247 : GoodIn wsX2_settle (wsX0_sendLetter) := ggX2_settle_X0_sendLetter
theorem dX2_settle_0 : decode cX2_settle 0 = .ok (.aload_n 0, 1) := by decide +kernel
theorem dX2_settle_1 : decode cX2_settle 1 = .ok (.getfield 19, 3) := by decide +kernel
theorem dX2_settle_4 : decode cX2_settle 4 = .ok (.getfield 234, 3) := by decide +kernel
theorem dX2_settle_7 : decode cX2_settle 7 = .ok (.iload_n 1, 1) := by decide +kernel
theorem dX2_settle_8 : decode cX2_settle 8 = .ok (.iaload, 1) := by decide +kernel
theorem dX2_settle_9 : decode cX2_settle 9 = .ok (.istore_n 2, 1) := by decide +kernel
theorem dX2_settle_10 : decode cX2_settle 10 = .ok (.aload_n 0, 1) := by decide +kernel
theorem dX2_settle_11 : decode cX2_settle 11 = .ok (.getfield 10, 3) := by decide +kernel
theorem dX2_settle_14 : decode cX2_settle 14 = .ok (.iload_n 2, 1) := by decide +kernel
theorem dX2_settle_15 : decode cX2_settle 15 = .ok (.invokevirtual 121, 3) := by decide +kernel
theorem dX2_settle_18 : decode cX2_settle 18 = .ok (.ifCond .ne 5, 3) := by decide +kernel
theorem dX2_settle_21 : decode cX2_settle 21 = .ok (.iconst 0, 1) := by decide +kernel
theorem dX2_settle_22 : decode cX2_settle 22 = .ok (.ireturn, 1) := by decide +kernel
theorem dX2_settle_23 : decode cX2_settle 23 = .ok (.aload_n 0, 1) := by decide +kernel
theorem dX2_settle_24 : decode cX2_settle 24 = .ok (.getfield 19, 3) := by decide +kernel
theorem dX2_settle_27 : decode cX2_settle 27 = .ok (.getfield 237, 3) := by decide +kernel
theorem dX2_settle_30 : decode cX2_settle 30 = .ok (.iload_n 1, 1) := by decide +kernel
theorem dX2_settle_31 : decode cX2_settle 31 = .ok (.iaload, 1) := by decide +kernel
theorem dX2_settle_32 : decode cX2_settle 32 = .ok (.istore_n 3, 1) := by decide +kernel
theorem dX2_settle_33 : decode cX2_settle 33 = .ok (.aload_n 0, 1) := by decide +kernel
theorem dX2_settle_34 : decode cX2_settle 34 = .ok (.getfield 19, 3) := by decide +kernel
theorem dX2_settle_37 : decode cX2_settle 37 = .ok (.getfield 133, 3) := by decide +kernel
theorem dX2_settle_40 : decode cX2_settle 40 = .ok (.iload_n 1, 1) := by decide +kernel
theorem dX2_settle_41 : decode cX2_settle 41 = .ok (.caload, 1) := by decide +kernel
theorem dX2_settle_42 : decode cX2_settle 42 = .ok (.istore 4, 2) := by decide +kernel
theorem dX2_settle_44 : decode cX2_settle 44 = .ok (.iload 4, 2) := by decide +kernel
theorem dX2_settle_46 : decode cX2_settle 46 = .ok (.bipush 112, 2) := by decide +kernel
theorem dX2_settle_48 : decode cX2_settle 48 = .ok (.if_icmp .ne 13, 3) := by decide +kernel
theorem dX2_settle_51 : decode cX2_settle 51 = .ok (.aload_n 0, 1) := by decide +kernel
theorem dX2_settle_52 : decode cX2_settle 52 = .ok (.getfield 10, 3) := by decide +kernel
theorem dX2_settle_55 : decode cX2_settle 55 = .ok (.iload_n 2, 1) := by decide +kernel
theorem dX2_settle_56 : decode cX2_settle 56 = .ok (.iload_n 3, 1) := by decide +kernel
theorem dX2_settle_57 : decode cX2_settle 57 = .ok (.invokevirtual 240, 3) := by decide +kernel
theorem dX2_settle_60 : decode cX2_settle 60 = .ok (.ireturn, 1) := by decide +kernel
theorem dX2_settle_61 : decode cX2_settle 61 = .ok (.iload 4, 2) := by decide +kernel
theorem dX2_settle_63 : decode cX2_settle 63 = .ok (.bipush 110, 2) := by decide +kernel
theorem dX2_settle_65 : decode cX2_settle 65 = .ok (.if_icmp .ne 12, 3) := by decide +kernel
theorem dX2_settle_68 : decode cX2_settle 68 = .ok (.aload_n 0, 1) := by decide +kernel
theorem dX2_settle_69 : decode cX2_settle 69 = .ok (.getfield 10, 3) := by decide +kernel
theorem dX2_settle_72 : decode cX2_settle 72 = .ok (.iload_n 2, 1) := by decide +kernel
theorem dX2_settle_73 : decode cX2_settle 73 = .ok (.invokevirtual 244, 3) := by decide +kernel
theorem dX2_settle_76 : decode cX2_settle 76 = .ok (.ireturn, 1) := by decide +kernel
theorem dX2_settle_77 : decode cX2_settle 77 = .ok (.aload_n 0, 1) := by decide +kernel
theorem dX2_settle_78 : decode cX2_settle 78 = .ok (.getfield 10, 3) := by decide +kernel
theorem dX2_settle_81 : decode cX2_settle 81 = .ok (.iload_n 2, 1) := by decide +kernel
theorem dX2_settle_82 : decode cX2_settle 82 = .ok (.iload_n 3, 1) := by decide +kernel
theorem dX2_settle_83 : decode cX2_settle 83 = .ok (.invokevirtual 247, 3) := by decide +kernel
theorem dX2_settle_86 : decode cX2_settle 86 = .ok (.ireturn, 1) := by decide +kernel
theorem dX2_reminderKey_0 : decode cX2_reminderKey 0 = .ok (.sipush 1000, 3) := by decide +kernel
theorem dX2_reminderKey_3 : decode cX2_reminderKey 3 = .ok (.bipush 10, 2) := by decide +kernel
theorem dX2_reminderKey_5 : decode cX2_reminderKey 5 = .ok (.iload_n 0, 1) := by decide +kernel
theorem dX2_reminderKey_6 : decode cX2_reminderKey 6 = .ok (.imul, 1) := by decide +kernel
theorem dX2_reminderKey_7 : decode cX2_reminderKey 7 = .ok (.iadd, 1) := by decide +kernel
theorem dX2_reminderKey_8 : decode cX2_reminderKey 8 = .ok (.iload_n 1, 1) := by decide +kernel
theorem dX2_reminderKey_9 : decode cX2_reminderKey 9 = .ok (.iadd, 1) := by decide +kernel
theorem dX2_reminderKey_10 : decode cX2_reminderKey 10 = .ok (.ireturn, 1) := by decide +kernel
set_option maxRecDepth 20000 in
theorem ggX2_isAnyReminderLeft_X0_isOpen : GoodIn wsX2_isAnyReminderLeft wsX0_isOpen := goodIn_ca (goodIn_r _ [6, 7, 21, 22, 23, 24, 25, 26, 27] (by decide +kernel) (by decide +kernel)) (goodIn_sub (fun _ h => List.mem_cons_of_mem _ (List.mem_append_right _ h)) (by decide +kernel))
set_option maxRecDepth 20000 in
theorem gX2_isAnyReminderLeft_X0_isOpen_n220 : GoodIn wsX2_isAnyReminderLeft (wsX0_isOpen) := ggX2_isAnyReminderLeft_X0_isOpen
set_option maxRecDepth 20000 in
theorem ggX2_isAnyReminderLeft_X2_reminderKey : GoodIn wsX2_isAnyReminderLeft wsX2_reminderKey := goodIn_r _ [11] (by decide +kernel) (by decide +kernel)
set_option maxRecDepth 20000 in
theorem gX2_isAnyReminderLeft_X2_reminderKey : GoodIn wsX2_isAnyReminderLeft (va_wsS RX2 250 yX2_reminderKey wsX2_reminderKey) := goodIn_app (goodIn_of _ (by decide +kernel)) ggX2_isAnyReminderLeft_X2_reminderKey
set_option maxRecDepth 20000 in
theorem ggX2_isAnyReminderLeft_X1_find : GoodIn wsX2_isAnyReminderLeft wsX1_find := goodIn_ca (goodIn_r _ [15, 16, 17, 28, 29, 30, 31, 32, 33, 34, 35, 36, 37, 38, 39, 40] (by decide +kernel) (by decide +kernel)) (goodIn_sub (fun _ h => List.mem_cons_of_mem _ (List.mem_append_right _ h)) (by decide +kernel))
set_option maxRecDepth 20000 in
theorem gX2_isAnyReminderLeft_X1_find_n112 : GoodIn wsX2_isAnyReminderLeft (wsX1_find) := ggX2_isAnyReminderLeft_X1_find
theorem dX2_isAnyReminderLeft_0 : decode cX2_isAnyReminderLeft 0 = .ok (.aload_n 0, 1) := by decide +kernel
theorem dX2_isAnyReminderLeft_1 : decode cX2_isAnyReminderLeft 1 = .ok (.getfield 10, 3) := by decide +kernel
theorem dX2_isAnyReminderLeft_4 : decode cX2_isAnyReminderLeft 4 = .ok (.getfield 75, 3) := by decide +kernel
theorem dX2_isAnyReminderLeft_7 : decode cX2_isAnyReminderLeft 7 = .ok (.iload_n 1, 1) := by decide +kernel
theorem dX2_isAnyReminderLeft_8 : decode cX2_isAnyReminderLeft 8 = .ok (.iaload, 1) := by decide +kernel
theorem dX2_isAnyReminderLeft_9 : decode cX2_isAnyReminderLeft 9 = .ok (.istore_n 2, 1) := by decide +kernel
theorem dX2_isAnyReminderLeft_10 : decode cX2_isAnyReminderLeft 10 = .ok (.aload_n 0, 1) := by decide +kernel
theorem dX2_isAnyReminderLeft_11 : decode cX2_isAnyReminderLeft 11 = .ok (.getfield 10, 3) := by decide +kernel
theorem dX2_isAnyReminderLeft_14 : decode cX2_isAnyReminderLeft 14 = .ok (.iload_n 1, 1) := by decide +kernel
theorem dX2_isAnyReminderLeft_15 : decode cX2_isAnyReminderLeft 15 = .ok (.invokevirtual 220, 3) := by decide +kernel
theorem dX2_isAnyReminderLeft_18 : decode cX2_isAnyReminderLeft 18 = .ok (.ifCond .eq 40, 3) := by decide +kernel
theorem dX2_isAnyReminderLeft_21 : decode cX2_isAnyReminderLeft 21 = .ok (.aload_n 0, 1) := by decide +kernel
theorem dX2_isAnyReminderLeft_22 : decode cX2_isAnyReminderLeft 22 = .ok (.getfield 10, 3) := by decide +kernel
theorem dX2_isAnyReminderLeft_25 : decode cX2_isAnyReminderLeft 25 = .ok (.getfield 71, 3) := by decide +kernel
theorem dX2_isAnyReminderLeft_28 : decode cX2_isAnyReminderLeft 28 = .ok (.iload_n 1, 1) := by decide +kernel
theorem dX2_isAnyReminderLeft_29 : decode cX2_isAnyReminderLeft 29 = .ok (.baload, 1) := by decide +kernel
theorem dX2_isAnyReminderLeft_30 : decode cX2_isAnyReminderLeft 30 = .ok (.ifCond .ne 28, 3) := by decide +kernel
theorem dX2_isAnyReminderLeft_33 : decode cX2_isAnyReminderLeft 33 = .ok (.iload_n 2, 1) := by decide +kernel
theorem dX2_isAnyReminderLeft_34 : decode cX2_isAnyReminderLeft 34 = .ok (.iconst 3, 1) := by decide +kernel
theorem dX2_isAnyReminderLeft_35 : decode cX2_isAnyReminderLeft 35 = .ok (.if_icmp .ge 23, 3) := by decide +kernel
theorem dX2_isAnyReminderLeft_38 : decode cX2_isAnyReminderLeft 38 = .ok (.aload_n 0, 1) := by decide +kernel
theorem dX2_isAnyReminderLeft_39 : decode cX2_isAnyReminderLeft 39 = .ok (.getfield 19, 3) := by decide +kernel
theorem dX2_isAnyReminderLeft_42 : decode cX2_isAnyReminderLeft 42 = .ok (.iload_n 1, 1) := by decide +kernel
theorem dX2_isAnyReminderLeft_43 : decode cX2_isAnyReminderLeft 43 = .ok (.iload_n 2, 1) := by decide +kernel
theorem dX2_isAnyReminderLeft_44 : decode cX2_isAnyReminderLeft 44 = .ok (.invokestatic 250, 3) := by decide +kernel
theorem dX2_isAnyReminderLeft_47 : decode cX2_isAnyReminderLeft 47 = .ok (.invokevirtual 112, 3) := by decide +kernel
theorem dX2_isAnyReminderLeft_50 : decode cX2_isAnyReminderLeft 50 = .ok (.iconst (-1), 1) := by decide +kernel
theorem dX2_isAnyReminderLeft_51 : decode cX2_isAnyReminderLeft 51 = .ok (.if_icmp .ne 7, 3) := by decide +kernel
theorem dX2_isAnyReminderLeft_54 : decode cX2_isAnyReminderLeft 54 = .ok (.iconst 1, 1) := by decide +kernel
theorem dX2_isAnyReminderLeft_55 : decode cX2_isAnyReminderLeft 55 = .ok (.goto 4, 3) := by decide +kernel
theorem dX2_isAnyReminderLeft_58 : decode cX2_isAnyReminderLeft 58 = .ok (.iconst 0, 1) := by decide +kernel
theorem dX2_isAnyReminderLeft_59 : decode cX2_isAnyReminderLeft 59 = .ok (.ireturn, 1) := by decide +kernel
set_option maxRecDepth 20000 in
theorem ggX2_isReminderDue_X2_isAnyReminderLeft : GoodIn wsX2_isReminderDue wsX2_isAnyReminderLeft := goodIn_ca (goodIn_r _ [7, 2, 8, 9, 10, 11, 12, 13, 14, 15, 6, 16, 17, 18, 19, 20, 21, 22, 28, 29, 30, 31, 32, 33, 34, 35, 36, 37, 38, 39, 40, 41, 42, 43, 44, 45, 46, 47, 48, 49, 50] (by decide +kernel) (by decide +kernel)) (goodIn_sub (fun _ h => List.mem_cons_of_mem _ (List.mem_append_right _ h)) (by decide +kernel))
set_option maxRecDepth 20000 in
theorem gX2_isReminderDue_X2_isAnyReminderLeft : GoodIn wsX2_isReminderDue (wsV RX2 84 RX2 yX2_isAnyReminderLeft wsX2_isAnyReminderLeft) := goodIn_app (goodIn_of _ (by decide +kernel)) ggX2_isReminderDue_X2_isAnyReminderLeft
set_option maxRecDepth 20000 in
theorem ggX2_isReminderDue_X0_reminderDay : GoodIn wsX2_isReminderDue wsX0_reminderDay := goodIn_ca (goodIn_r _ [25, 26, 27, 31, 32, 33, 34, 35, 36, 37] (by decide +kernel) (by decide +kernel)) (goodIn_sub (fun _ h => List.mem_cons_of_mem _ (List.mem_append_right _ h)) (by decide +kernel))
set_option maxRecDepth 20000 in
theorem gX2_isReminderDue_X0_reminderDay_n93 : GoodIn wsX2_isReminderDue (wsX0_reminderDay) := ggX2_isReminderDue_X0_reminderDay
theorem dX2_isReminderDue_0 : decode cX2_isReminderDue 0 = .ok (.aload_n 0, 1) := by decide +kernel
theorem dX2_isReminderDue_1 : decode cX2_isReminderDue 1 = .ok (.iload_n 1, 1) := by decide +kernel
theorem dX2_isReminderDue_2 : decode cX2_isReminderDue 2 = .ok (.invokevirtual 84, 3) := by decide +kernel
theorem dX2_isReminderDue_5 : decode cX2_isReminderDue 5 = .ok (.ifCond .eq 38, 3) := by decide +kernel
theorem dX2_isReminderDue_8 : decode cX2_isReminderDue 8 = .ok (.aload_n 0, 1) := by decide +kernel
theorem dX2_isReminderDue_9 : decode cX2_isReminderDue 9 = .ok (.getfield 23, 3) := by decide +kernel
theorem dX2_isReminderDue_12 : decode cX2_isReminderDue 12 = .ok (.aload_n 0, 1) := by decide +kernel
theorem dX2_isReminderDue_13 : decode cX2_isReminderDue 13 = .ok (.getfield 10, 3) := by decide +kernel
theorem dX2_isReminderDue_16 : decode cX2_isReminderDue 16 = .ok (.getfield 102, 3) := by decide +kernel
theorem dX2_isReminderDue_19 : decode cX2_isReminderDue 19 = .ok (.iload_n 1, 1) := by decide +kernel
theorem dX2_isReminderDue_20 : decode cX2_isReminderDue 20 = .ok (.iaload, 1) := by decide +kernel
theorem dX2_isReminderDue_21 : decode cX2_isReminderDue 21 = .ok (.if_icmp .lt 22, 3) := by decide +kernel
theorem dX2_isReminderDue_24 : decode cX2_isReminderDue 24 = .ok (.aload_n 0, 1) := by decide +kernel
theorem dX2_isReminderDue_25 : decode cX2_isReminderDue 25 = .ok (.getfield 23, 3) := by decide +kernel
theorem dX2_isReminderDue_28 : decode cX2_isReminderDue 28 = .ok (.aload_n 0, 1) := by decide +kernel
theorem dX2_isReminderDue_29 : decode cX2_isReminderDue 29 = .ok (.getfield 10, 3) := by decide +kernel
theorem dX2_isReminderDue_32 : decode cX2_isReminderDue 32 = .ok (.iload_n 1, 1) := by decide +kernel
theorem dX2_isReminderDue_33 : decode cX2_isReminderDue 33 = .ok (.invokevirtual 93, 3) := by decide +kernel
theorem dX2_isReminderDue_36 : decode cX2_isReminderDue 36 = .ok (.if_icmp .lt 7, 3) := by decide +kernel
theorem dX2_isReminderDue_39 : decode cX2_isReminderDue 39 = .ok (.iconst 1, 1) := by decide +kernel
theorem dX2_isReminderDue_40 : decode cX2_isReminderDue 40 = .ok (.goto 4, 3) := by decide +kernel
theorem dX2_isReminderDue_43 : decode cX2_isReminderDue 43 = .ok (.iconst 0, 1) := by decide +kernel
theorem dX2_isReminderDue_44 : decode cX2_isReminderDue 44 = .ok (.ireturn, 1) := by decide +kernel
set_option maxRecDepth 20000 in
theorem ggX2_postReminders_X1_isFull : GoodIn wsX2_postReminders wsX1_isFull := goodIn_r _ [7, 8, 54, 55, 56, 57, 58, 59, 60, 61, 62, 63, 64, 65, 66] (by decide +kernel) (by decide +kernel)
set_option maxRecDepth 20000 in
theorem gX2_postReminders_X1_isFull_n115 : GoodIn wsX2_postReminders (wsX1_isFull) := ggX2_postReminders_X1_isFull
set_option maxRecDepth 20000 in
theorem ggX2_postReminders_X2_isReminderDue : GoodIn wsX2_postReminders wsX2_isReminderDue := goodIn_ca (goodIn_r _ [13, 3, 1, 14, 15, 16, 12, 17, 2, 18, 19, 20, 21, 22, 23, 24, 25, 26, 5, 27, 28, 8, 29, 30, 31, 32, 33, 34, 44, 45, 46, 47, 48, 49, 50, 51, 52, 53, 54, 55, 56, 57, 58, 59, 60, 61, 62, 63, 64, 65, 66] (by decide +kernel) (by decide +kernel)) (goodIn_sub (fun _ h => List.mem_cons_of_mem _ (List.mem_append_right _ h)) (by decide +kernel))
set_option maxRecDepth 20000 in
theorem gX2_postReminders_X2_isReminderDue : GoodIn wsX2_postReminders (wsV RX2 254 RX2 yX2_isReminderDue wsX2_isReminderDue) := goodIn_app (goodIn_of _ (by decide +kernel)) ggX2_postReminders_X2_isReminderDue
set_option maxRecDepth 20000 in
theorem ggX2_postReminders_X2_reminderKey : GoodIn wsX2_postReminders wsX2_reminderKey := goodIn_r _ [25] (by decide +kernel) (by decide +kernel)
set_option maxRecDepth 20000 in
theorem gX2_postReminders_X2_reminderKey : GoodIn wsX2_postReminders (va_wsS RX2 250 yX2_reminderKey wsX2_reminderKey) := goodIn_app (goodIn_of _ (by decide +kernel)) ggX2_postReminders_X2_reminderKey
set_option maxRecDepth 20000 in
theorem ggX2_postReminders_X1_add : GoodIn wsX2_postReminders wsX1_add := goodIn_ca (goodIn_r _ [37, 8, 38, 29, 39, 40, 41, 42, 43, 54, 55, 56, 57, 58, 59, 60, 61, 62, 63, 64, 65, 66] (by decide +kernel) (by decide +kernel)) (goodIn_sub (fun _ h => List.mem_cons_of_mem _ (List.mem_append_right _ h)) (by decide +kernel))
set_option maxRecDepth 20000 in
theorem gX2_postReminders_X1_add_n118 : GoodIn wsX2_postReminders (wsX1_add) := ggX2_postReminders_X1_add
theorem dX2_postReminders_0 : decode cX2_postReminders 0 = .ok (.iconst 0, 1) := by decide +kernel
theorem dX2_postReminders_1 : decode cX2_postReminders 1 = .ok (.istore_n 1, 1) := by decide +kernel
theorem dX2_postReminders_2 : decode cX2_postReminders 2 = .ok (.iconst 0, 1) := by decide +kernel
theorem dX2_postReminders_3 : decode cX2_postReminders 3 = .ok (.istore_n 2, 1) := by decide +kernel
theorem dX2_postReminders_4 : decode cX2_postReminders 4 = .ok (.iload_n 2, 1) := by decide +kernel
theorem dX2_postReminders_5 : decode cX2_postReminders 5 = .ok (.aload_n 0, 1) := by decide +kernel
theorem dX2_postReminders_6 : decode cX2_postReminders 6 = .ok (.getfield 10, 3) := by decide +kernel
theorem dX2_postReminders_9 : decode cX2_postReminders 9 = .ok (.getfield 253, 3) := by decide +kernel
theorem dX2_postReminders_12 : decode cX2_postReminders 12 = .ok (.if_icmp .ge 62, 3) := by decide +kernel
theorem dX2_postReminders_15 : decode cX2_postReminders 15 = .ok (.aload_n 0, 1) := by decide +kernel
theorem dX2_postReminders_16 : decode cX2_postReminders 16 = .ok (.getfield 19, 3) := by decide +kernel
theorem dX2_postReminders_19 : decode cX2_postReminders 19 = .ok (.invokevirtual 115, 3) := by decide +kernel
theorem dX2_postReminders_22 : decode cX2_postReminders 22 = .ok (.ifCond .ne 46, 3) := by decide +kernel
theorem dX2_postReminders_25 : decode cX2_postReminders 25 = .ok (.aload_n 0, 1) := by decide +kernel
theorem dX2_postReminders_26 : decode cX2_postReminders 26 = .ok (.iload_n 2, 1) := by decide +kernel
theorem dX2_postReminders_27 : decode cX2_postReminders 27 = .ok (.invokevirtual 254, 3) := by decide +kernel
theorem dX2_postReminders_30 : decode cX2_postReminders 30 = .ok (.ifCond .eq 38, 3) := by decide +kernel
theorem dX2_postReminders_33 : decode cX2_postReminders 33 = .ok (.aload_n 0, 1) := by decide +kernel
theorem dX2_postReminders_34 : decode cX2_postReminders 34 = .ok (.getfield 10, 3) := by decide +kernel
theorem dX2_postReminders_37 : decode cX2_postReminders 37 = .ok (.getfield 75, 3) := by decide +kernel
theorem dX2_postReminders_40 : decode cX2_postReminders 40 = .ok (.iload_n 2, 1) := by decide +kernel
theorem dX2_postReminders_41 : decode cX2_postReminders 41 = .ok (.iaload, 1) := by decide +kernel
theorem dX2_postReminders_42 : decode cX2_postReminders 42 = .ok (.istore_n 3, 1) := by decide +kernel
theorem dX2_postReminders_43 : decode cX2_postReminders 43 = .ok (.aload_n 0, 1) := by decide +kernel
theorem dX2_postReminders_44 : decode cX2_postReminders 44 = .ok (.getfield 19, 3) := by decide +kernel
theorem dX2_postReminders_47 : decode cX2_postReminders 47 = .ok (.iconst 0, 1) := by decide +kernel
theorem dX2_postReminders_48 : decode cX2_postReminders 48 = .ok (.iload_n 2, 1) := by decide +kernel
theorem dX2_postReminders_49 : decode cX2_postReminders 49 = .ok (.iload_n 3, 1) := by decide +kernel
theorem dX2_postReminders_50 : decode cX2_postReminders 50 = .ok (.invokestatic 250, 3) := by decide +kernel
theorem dX2_postReminders_53 : decode cX2_postReminders 53 = .ok (.bipush 114, 2) := by decide +kernel
theorem dX2_postReminders_55 : decode cX2_postReminders 55 = .ok (.iload_n 2, 1) := by decide +kernel
theorem dX2_postReminders_56 : decode cX2_postReminders 56 = .ok (.iload_n 3, 1) := by decide +kernel
theorem dX2_postReminders_57 : decode cX2_postReminders 57 = .ok (.aload_n 0, 1) := by decide +kernel
theorem dX2_postReminders_58 : decode cX2_postReminders 58 = .ok (.getfield 23, 3) := by decide +kernel
theorem dX2_postReminders_61 : decode cX2_postReminders 61 = .ok (.invokevirtual 118, 3) := by decide +kernel
theorem dX2_postReminders_64 : decode cX2_postReminders 64 = .ok (.pop, 1) := by decide +kernel
theorem dX2_postReminders_65 : decode cX2_postReminders 65 = .ok (.iinc 1 1, 3) := by decide +kernel
theorem dX2_postReminders_68 : decode cX2_postReminders 68 = .ok (.iinc 2 1, 3) := by decide +kernel
theorem dX2_postReminders_71 : decode cX2_postReminders 71 = .ok (.goto (-67), 3) := by decide +kernel
theorem dX2_postReminders_74 : decode cX2_postReminders 74 = .ok (.iload_n 1, 1) := by decide +kernel
theorem dX2_postReminders_75 : decode cX2_postReminders 75 = .ok (.ireturn, 1) := by decide +kernel
end
section
theorem dX3_init_0 : decode cX3_init 0 = .ok (.aload_n 0, 1) := by decide +kernel
theorem dX3_init_1 : decode cX3_init 1 = .ok (.invokespecial 1, 3) := by decide +kernel
theorem dX3_init_4 : decode cX3_init 4 = .ok (.aload_n 0, 1) := by decide +kernel
theorem dX3_init_5 : decode cX3_init 5 = .ok (.bipush 8, 2) := by decide +kernel
theorem dX3_init_7 : decode cX3_init 7 = .ok (.newarray .int, 2) := by decide +kernel
theorem dX3_init_9 : decode cX3_init 9 = .ok (.putfield 9, 3) := by decide +kernel
theorem dX3_init_12 : decode cX3_init 12 = .ok (.aload_n 0, 1) := by decide +kernel
theorem dX3_init_13 : decode cX3_init 13 = .ok (.bipush 8, 2) := by decide +kernel
theorem dX3_init_15 : decode cX3_init 15 = .ok (.newarray .int, 2) := by decide +kernel
theorem dX3_init_17 : decode cX3_init 17 = .ok (.putfield 13, 3) := by decide +kernel
theorem dX3_init_20 : decode cX3_init 20 = .ok (.aload_n 0, 1) := by decide +kernel
theorem dX3_init_21 : decode cX3_init 21 = .ok (.bipush 8, 2) := by decide +kernel
theorem dX3_init_23 : decode cX3_init 23 = .ok (.newarray .int, 2) := by decide +kernel
theorem dX3_init_25 : decode cX3_init 25 = .ok (.putfield 16, 3) := by decide +kernel
theorem dX3_init_28 : decode cX3_init 28 = .ok (.aload_n 0, 1) := by decide +kernel
theorem dX3_init_29 : decode cX3_init 29 = .ok (.bipush 8, 2) := by decide +kernel
theorem dX3_init_31 : decode cX3_init 31 = .ok (.newarray .int, 2) := by decide +kernel
theorem dX3_init_33 : decode cX3_init 33 = .ok (.putfield 19, 3) := by decide +kernel
theorem dX3_init_36 : decode cX3_init 36 = .ok (.aload_n 0, 1) := by decide +kernel
theorem dX3_init_37 : decode cX3_init 37 = .ok (.bipush 8, 2) := by decide +kernel
theorem dX3_init_39 : decode cX3_init 39 = .ok (.newarray .boolean, 2) := by decide +kernel
theorem dX3_init_41 : decode cX3_init 41 = .ok (.putfield 22, 3) := by decide +kernel
theorem dX3_init_44 : decode cX3_init 44 = .ok (.aload_n 0, 1) := by decide +kernel
theorem dX3_init_45 : decode cX3_init 45 = .ok (.bipush 80, 2) := by decide +kernel
theorem dX3_init_47 : decode cX3_init 47 = .ok (.newarray .int, 2) := by decide +kernel
theorem dX3_init_49 : decode cX3_init 49 = .ok (.putfield 26, 3) := by decide +kernel
theorem dX3_init_52 : decode cX3_init 52 = .ok (.aload_n 0, 1) := by decide +kernel
theorem dX3_init_53 : decode cX3_init 53 = .ok (.bipush 80, 2) := by decide +kernel
theorem dX3_init_55 : decode cX3_init 55 = .ok (.newarray .int, 2) := by decide +kernel
theorem dX3_init_57 : decode cX3_init 57 = .ok (.putfield 29, 3) := by decide +kernel
theorem dX3_init_60 : decode cX3_init 60 = .ok (.aload_n 0, 1) := by decide +kernel
theorem dX3_init_61 : decode cX3_init 61 = .ok (.bipush 80, 2) := by decide +kernel
theorem dX3_init_63 : decode cX3_init 63 = .ok (.newarray .char, 2) := by decide +kernel
theorem dX3_init_65 : decode cX3_init 65 = .ok (.putfield 32, 3) := by decide +kernel
theorem dX3_init_68 : decode cX3_init 68 = .ok (.aload_n 0, 1) := by decide +kernel
theorem dX3_init_69 : decode cX3_init 69 = .ok (.bipush 80, 2) := by decide +kernel
theorem dX3_init_71 : decode cX3_init 71 = .ok (.newarray .int, 2) := by decide +kernel
theorem dX3_init_73 : decode cX3_init 73 = .ok (.putfield 36, 3) := by decide +kernel
theorem dX3_init_76 : decode cX3_init 76 = .ok (.aload_n 0, 1) := by decide +kernel
theorem dX3_init_77 : decode cX3_init 77 = .ok (.bipush 80, 2) := by decide +kernel
theorem dX3_init_79 : decode cX3_init 79 = .ok (.newarray .int, 2) := by decide +kernel
theorem dX3_init_81 : decode cX3_init 81 = .ok (.putfield 39, 3) := by decide +kernel
theorem dX3_init_84 : decode cX3_init 84 = .ok (.aload_n 0, 1) := by decide +kernel
theorem dX3_init_85 : decode cX3_init 85 = .ok (.bipush 80, 2) := by decide +kernel
theorem dX3_init_87 : decode cX3_init 87 = .ok (.newarray .int, 2) := by decide +kernel
theorem dX3_init_89 : decode cX3_init 89 = .ok (.putfield 42, 3) := by decide +kernel
theorem dX3_init_92 : decode cX3_init 92 = .ok (.aload_n 0, 1) := by decide +kernel
theorem dX3_init_93 : decode cX3_init 93 = .ok (.bipush 80, 2) := by decide +kernel
theorem dX3_init_95 : decode cX3_init 95 = .ok (.newarray .int, 2) := by decide +kernel
theorem dX3_init_97 : decode cX3_init 97 = .ok (.putfield 45, 3) := by decide +kernel
theorem dX3_init_100 : decode cX3_init 100 = .ok (.aload_n 0, 1) := by decide +kernel
theorem dX3_init_101 : decode cX3_init 101 = .ok (.bipush 80, 2) := by decide +kernel
theorem dX3_init_103 : decode cX3_init 103 = .ok (.newarray .char, 2) := by decide +kernel
theorem dX3_init_105 : decode cX3_init 105 = .ok (.putfield 48, 3) := by decide +kernel
theorem dX3_init_108 : decode cX3_init 108 = .ok (.aload_n 0, 1) := by decide +kernel
theorem dX3_init_109 : decode cX3_init 109 = .ok (.bipush 80, 2) := by decide +kernel
theorem dX3_init_111 : decode cX3_init 111 = .ok (.newarray .int, 2) := by decide +kernel
theorem dX3_init_113 : decode cX3_init 113 = .ok (.putfield 51, 3) := by decide +kernel
theorem dX3_init_116 : decode cX3_init 116 = .ok (.aload_n 0, 1) := by decide +kernel
theorem dX3_init_117 : decode cX3_init 117 = .ok (.bipush 80, 2) := by decide +kernel
theorem dX3_init_119 : decode cX3_init 119 = .ok (.newarray .int, 2) := by decide +kernel
theorem dX3_init_121 : decode cX3_init 121 = .ok (.putfield 54, 3) := by decide +kernel
theorem dX3_init_124 : decode cX3_init 124 = .ok (.return_, 1) := by decide +kernel
theorem dX3_thrown_0 : decode cX3_thrown 0 = .ok (.aload_n 0, 1) := by decide +kernel
theorem dX3_thrown_1 : decode cX3_thrown 1 = .ok (.getfield 57, 3) := by decide +kernel
theorem dX3_thrown_4 : decode cX3_thrown 4 = .ok (.ireturn, 1) := by decide +kernel
theorem dX3_raises_0 : decode cX3_raises 0 = .ok (.aload_n 0, 1) := by decide +kernel
theorem dX3_raises_1 : decode cX3_raises 1 = .ok (.iload_n 1, 1) := by decide +kernel
theorem dX3_raises_2 : decode cX3_raises 2 = .ok (.putfield 57, 3) := by decide +kernel
theorem dX3_raises_5 : decode cX3_raises 5 = .ok (.iconst 0, 1) := by decide +kernel
theorem dX3_raises_6 : decode cX3_raises 6 = .ok (.ireturn, 1) := by decide +kernel
theorem dX3_in_0 : decode cX3_in 0 = .ok (.iload_n 0, 1) := by decide +kernel
theorem dX3_in_1 : decode cX3_in 1 = .ok (.iload_n 1, 1) := by decide +kernel
theorem dX3_in_2 : decode cX3_in 2 = .ok (.if_icmp .lt 12, 3) := by decide +kernel
theorem dX3_in_5 : decode cX3_in 5 = .ok (.iload_n 0, 1) := by decide +kernel
theorem dX3_in_6 : decode cX3_in 6 = .ok (.iload_n 2, 1) := by decide +kernel
theorem dX3_in_7 : decode cX3_in 7 = .ok (.if_icmp .gt 7, 3) := by decide +kernel
theorem dX3_in_10 : decode cX3_in 10 = .ok (.iconst 1, 1) := by decide +kernel
theorem dX3_in_11 : decode cX3_in 11 = .ok (.goto 4, 3) := by decide +kernel
theorem dX3_in_14 : decode cX3_in 14 = .ok (.iconst 0, 1) := by decide +kernel
theorem dX3_in_15 : decode cX3_in 15 = .ok (.ireturn, 1) := by decide +kernel
set_option maxRecDepth 20000 in
theorem ggX3_noCase_X3_in : GoodIn wsX3_noCase wsX3_in := goodIn_r _ [6] (by decide +kernel) (by decide +kernel)
set_option maxRecDepth 20000 in
theorem gX3_noCase_X3_in : GoodIn wsX3_noCase (va_wsS RX3 64 yX3_in wsX3_in) := goodIn_app (goodIn_of _ (by decide +kernel)) ggX3_noCase_X3_in
theorem dX3_noCase_0 : decode cX3_noCase 0 = .ok (.aload_n 0, 1) := by decide +kernel
theorem dX3_noCase_1 : decode cX3_noCase 1 = .ok (.iload_n 1, 1) := by decide +kernel
theorem dX3_noCase_2 : decode cX3_noCase 2 = .ok (.iconst 0, 1) := by decide +kernel
theorem dX3_noCase_3 : decode cX3_noCase 3 = .ok (.aload_n 0, 1) := by decide +kernel
theorem dX3_noCase_4 : decode cX3_noCase 4 = .ok (.getfield 61, 3) := by decide +kernel
theorem dX3_noCase_7 : decode cX3_noCase 7 = .ok (.iconst 1, 1) := by decide +kernel
theorem dX3_noCase_8 : decode cX3_noCase 8 = .ok (.isub, 1) := by decide +kernel
theorem dX3_noCase_9 : decode cX3_noCase 9 = .ok (.invokestatic 64, 3) := by decide +kernel
theorem dX3_noCase_12 : decode cX3_noCase 12 = .ok (.ifCond .eq 7, 3) := by decide +kernel
theorem dX3_noCase_15 : decode cX3_noCase 15 = .ok (.iconst 0, 1) := by decide +kernel
theorem dX3_noCase_16 : decode cX3_noCase 16 = .ok (.goto 4, 3) := by decide +kernel
theorem dX3_noCase_19 : decode cX3_noCase 19 = .ok (.iconst 1, 1) := by decide +kernel
theorem dX3_noCase_20 : decode cX3_noCase 20 = .ok (.putfield 57, 3) := by decide +kernel
theorem dX3_noCase_23 : decode cX3_noCase 23 = .ok (.aload_n 0, 1) := by decide +kernel
theorem dX3_noCase_24 : decode cX3_noCase 24 = .ok (.getfield 57, 3) := by decide +kernel
theorem dX3_noCase_27 : decode cX3_noCase 27 = .ok (.ifCond .le 7, 3) := by decide +kernel
theorem dX3_noCase_30 : decode cX3_noCase 30 = .ok (.iconst 1, 1) := by decide +kernel
theorem dX3_noCase_31 : decode cX3_noCase 31 = .ok (.goto 4, 3) := by decide +kernel
theorem dX3_noCase_34 : decode cX3_noCase 34 = .ok (.iconst 0, 1) := by decide +kernel
theorem dX3_noCase_35 : decode cX3_noCase 35 = .ok (.ireturn, 1) := by decide +kernel
set_option maxRecDepth 20000 in
theorem ggX3_noMessage_X3_in : GoodIn wsX3_noMessage wsX3_in := goodIn_r _ [6] (by decide +kernel) (by decide +kernel)
set_option maxRecDepth 20000 in
theorem gX3_noMessage_X3_in : GoodIn wsX3_noMessage (va_wsS RX3 64 yX3_in wsX3_in) := goodIn_app (goodIn_of _ (by decide +kernel)) ggX3_noMessage_X3_in
theorem dX3_noMessage_0 : decode cX3_noMessage 0 = .ok (.aload_n 0, 1) := by decide +kernel
theorem dX3_noMessage_1 : decode cX3_noMessage 1 = .ok (.iload_n 1, 1) := by decide +kernel
theorem dX3_noMessage_2 : decode cX3_noMessage 2 = .ok (.iconst 0, 1) := by decide +kernel
theorem dX3_noMessage_3 : decode cX3_noMessage 3 = .ok (.aload_n 0, 1) := by decide +kernel
theorem dX3_noMessage_4 : decode cX3_noMessage 4 = .ok (.getfield 68, 3) := by decide +kernel
theorem dX3_noMessage_7 : decode cX3_noMessage 7 = .ok (.iconst 1, 1) := by decide +kernel
theorem dX3_noMessage_8 : decode cX3_noMessage 8 = .ok (.isub, 1) := by decide +kernel
theorem dX3_noMessage_9 : decode cX3_noMessage 9 = .ok (.invokestatic 64, 3) := by decide +kernel
theorem dX3_noMessage_12 : decode cX3_noMessage 12 = .ok (.ifCond .eq 7, 3) := by decide +kernel
theorem dX3_noMessage_15 : decode cX3_noMessage 15 = .ok (.iconst 0, 1) := by decide +kernel
theorem dX3_noMessage_16 : decode cX3_noMessage 16 = .ok (.goto 4, 3) := by decide +kernel
theorem dX3_noMessage_19 : decode cX3_noMessage 19 = .ok (.iconst 1, 1) := by decide +kernel
theorem dX3_noMessage_20 : decode cX3_noMessage 20 = .ok (.putfield 57, 3) := by decide +kernel
theorem dX3_noMessage_23 : decode cX3_noMessage 23 = .ok (.aload_n 0, 1) := by decide +kernel
theorem dX3_noMessage_24 : decode cX3_noMessage 24 = .ok (.getfield 57, 3) := by decide +kernel
theorem dX3_noMessage_27 : decode cX3_noMessage 27 = .ok (.ifCond .le 7, 3) := by decide +kernel
theorem dX3_noMessage_30 : decode cX3_noMessage 30 = .ok (.iconst 1, 1) := by decide +kernel
theorem dX3_noMessage_31 : decode cX3_noMessage 31 = .ok (.goto 4, 3) := by decide +kernel
theorem dX3_noMessage_34 : decode cX3_noMessage 34 = .ok (.iconst 0, 1) := by decide +kernel
theorem dX3_noMessage_35 : decode cX3_noMessage 35 = .ok (.ireturn, 1) := by decide +kernel
set_option maxRecDepth 20000 in
theorem ggX3_open_X3_in : GoodIn wsX3_open wsX3_in := goodIn_r _ [17] (by decide +kernel) (by decide +kernel)
set_option maxRecDepth 20000 in
theorem gX3_open_X3_in : GoodIn wsX3_open (va_wsS RX3 64 yX3_in wsX3_in) := goodIn_app (goodIn_of _ (by decide +kernel)) ggX3_open_X3_in
theorem dX3_open_0 : decode cX3_open 0 = .ok (.aload_n 0, 1) := by decide +kernel
theorem dX3_open_1 : decode cX3_open 1 = .ok (.iload_n 1, 1) := by decide +kernel
theorem dX3_open_2 : decode cX3_open 2 = .ok (.iconst 1, 1) := by decide +kernel
theorem dX3_open_3 : decode cX3_open 3 = .ok (.sipush 9999, 3) := by decide +kernel
theorem dX3_open_6 : decode cX3_open 6 = .ok (.invokestatic 64, 3) := by decide +kernel
theorem dX3_open_9 : decode cX3_open 9 = .ok (.ifCond .eq 14, 3) := by decide +kernel
theorem dX3_open_12 : decode cX3_open 12 = .ok (.iload_n 2, 1) := by decide +kernel
theorem dX3_open_13 : decode cX3_open 13 = .ok (.iconst 0, 1) := by decide +kernel
theorem dX3_open_14 : decode cX3_open 14 = .ok (.sipush 999, 3) := by decide +kernel
theorem dX3_open_17 : decode cX3_open 17 = .ok (.invokestatic 64, 3) := by decide +kernel
theorem dX3_open_20 : decode cX3_open 20 = .ok (.ifCond .ne 7, 3) := by decide +kernel
theorem dX3_open_23 : decode cX3_open 23 = .ok (.iconst 1, 1) := by decide +kernel
theorem dX3_open_24 : decode cX3_open 24 = .ok (.goto 17, 3) := by decide +kernel
theorem dX3_open_27 : decode cX3_open 27 = .ok (.aload_n 0, 1) := by decide +kernel
theorem dX3_open_28 : decode cX3_open 28 = .ok (.getfield 61, 3) := by decide +kernel
theorem dX3_open_31 : decode cX3_open 31 = .ok (.bipush 8, 2) := by decide +kernel
theorem dX3_open_33 : decode cX3_open 33 = .ok (.if_icmp .ne 7, 3) := by decide +kernel
theorem dX3_open_36 : decode cX3_open 36 = .ok (.iconst 2, 1) := by decide +kernel
theorem dX3_open_37 : decode cX3_open 37 = .ok (.goto 4, 3) := by decide +kernel
theorem dX3_open_40 : decode cX3_open 40 = .ok (.iconst 0, 1) := by decide +kernel
theorem dX3_open_41 : decode cX3_open 41 = .ok (.putfield 57, 3) := by decide +kernel
theorem dX3_open_44 : decode cX3_open 44 = .ok (.aload_n 0, 1) := by decide +kernel
theorem dX3_open_45 : decode cX3_open 45 = .ok (.getfield 57, 3) := by decide +kernel
theorem dX3_open_48 : decode cX3_open 48 = .ok (.ifCond .le 5, 3) := by decide +kernel
theorem dX3_open_51 : decode cX3_open 51 = .ok (.iconst 0, 1) := by decide +kernel
theorem dX3_open_52 : decode cX3_open 52 = .ok (.ireturn, 1) := by decide +kernel
theorem dX3_open_53 : decode cX3_open 53 = .ok (.aload_n 0, 1) := by decide +kernel
theorem dX3_open_54 : decode cX3_open 54 = .ok (.getfield 9, 3) := by decide +kernel
theorem dX3_open_57 : decode cX3_open 57 = .ok (.aload_n 0, 1) := by decide +kernel
theorem dX3_open_58 : decode cX3_open 58 = .ok (.getfield 61, 3) := by decide +kernel
theorem dX3_open_61 : decode cX3_open 61 = .ok (.iload_n 1, 1) := by decide +kernel
theorem dX3_open_62 : decode cX3_open 62 = .ok (.iastore, 1) := by decide +kernel
theorem dX3_open_63 : decode cX3_open 63 = .ok (.aload_n 0, 1) := by decide +kernel
theorem dX3_open_64 : decode cX3_open 64 = .ok (.getfield 13, 3) := by decide +kernel
theorem dX3_open_67 : decode cX3_open 67 = .ok (.aload_n 0, 1) := by decide +kernel
theorem dX3_open_68 : decode cX3_open 68 = .ok (.getfield 61, 3) := by decide +kernel
theorem dX3_open_71 : decode cX3_open 71 = .ok (.iload_n 2, 1) := by decide +kernel
theorem dX3_open_72 : decode cX3_open 72 = .ok (.iastore, 1) := by decide +kernel
theorem dX3_open_73 : decode cX3_open 73 = .ok (.iconst 0, 1) := by decide +kernel
theorem dX3_open_74 : decode cX3_open 74 = .ok (.istore_n 3, 1) := by decide +kernel
theorem dX3_open_75 : decode cX3_open 75 = .ok (.iload_n 3, 1) := by decide +kernel
theorem dX3_open_76 : decode cX3_open 76 = .ok (.aload_n 0, 1) := by decide +kernel
theorem dX3_open_77 : decode cX3_open 77 = .ok (.getfield 68, 3) := by decide +kernel
theorem dX3_open_80 : decode cX3_open 80 = .ok (.if_icmp .ge 60, 3) := by decide +kernel
theorem dX3_open_83 : decode cX3_open 83 = .ok (.aload_n 0, 1) := by decide +kernel
theorem dX3_open_84 : decode cX3_open 84 = .ok (.getfield 48, 3) := by decide +kernel
theorem dX3_open_87 : decode cX3_open 87 = .ok (.iload_n 3, 1) := by decide +kernel
theorem dX3_open_88 : decode cX3_open 88 = .ok (.caload, 1) := by decide +kernel
theorem dX3_open_89 : decode cX3_open 89 = .ok (.bipush 104, 2) := by decide +kernel
theorem dX3_open_91 : decode cX3_open 91 = .ok (.if_icmp .ne 43, 3) := by decide +kernel
theorem dX3_open_94 : decode cX3_open 94 = .ok (.aload_n 0, 1) := by decide +kernel
theorem dX3_open_95 : decode cX3_open 95 = .ok (.getfield 36, 3) := by decide +kernel
theorem dX3_open_98 : decode cX3_open 98 = .ok (.iload_n 3, 1) := by decide +kernel
theorem dX3_open_99 : decode cX3_open 99 = .ok (.iaload, 1) := by decide +kernel
theorem dX3_open_100 : decode cX3_open 100 = .ok (.aload_n 0, 1) := by decide +kernel
theorem dX3_open_101 : decode cX3_open 101 = .ok (.getfield 61, 3) := by decide +kernel
theorem dX3_open_104 : decode cX3_open 104 = .ok (.if_icmp .ne 30, 3) := by decide +kernel
theorem dX3_open_107 : decode cX3_open 107 = .ok (.aload_n 0, 1) := by decide +kernel
theorem dX3_open_108 : decode cX3_open 108 = .ok (.getfield 48, 3) := by decide +kernel
theorem dX3_open_111 : decode cX3_open 111 = .ok (.iload_n 3, 1) := by decide +kernel
theorem dX3_open_112 : decode cX3_open 112 = .ok (.bipush 119, 2) := by decide +kernel
theorem dX3_open_114 : decode cX3_open 114 = .ok (.castore, 1) := by decide +kernel
theorem dX3_open_115 : decode cX3_open 115 = .ok (.aload_n 0, 1) := by decide +kernel
theorem dX3_open_116 : decode cX3_open 116 = .ok (.getfield 42, 3) := by decide +kernel
theorem dX3_open_119 : decode cX3_open 119 = .ok (.iload_n 3, 1) := by decide +kernel
theorem dX3_open_120 : decode cX3_open 120 = .ok (.aload_n 0, 1) := by decide +kernel
theorem dX3_open_121 : decode cX3_open 121 = .ok (.getfield 42, 3) := by decide +kernel
theorem dX3_open_124 : decode cX3_open 124 = .ok (.iload_n 3, 1) := by decide +kernel
theorem dX3_open_125 : decode cX3_open 125 = .ok (.iaload, 1) := by decide +kernel
theorem dX3_open_126 : decode cX3_open 126 = .ok (.aload_n 0, 1) := by decide +kernel
theorem dX3_open_127 : decode cX3_open 127 = .ok (.getfield 71, 3) := by decide +kernel
theorem dX3_open_130 : decode cX3_open 130 = .ok (.invokestatic 74, 3) := by decide +kernel
theorem dX3_open_133 : decode cX3_open 133 = .ok (.iastore, 1) := by decide +kernel
theorem dX3_open_134 : decode cX3_open 134 = .ok (.iinc 3 1, 3) := by decide +kernel
theorem dX3_open_137 : decode cX3_open 137 = .ok (.goto (-62), 3) := by decide +kernel
theorem dX3_open_140 : decode cX3_open 140 = .ok (.aload_n 0, 1) := by decide +kernel
theorem dX3_open_141 : decode cX3_open 141 = .ok (.dup, 1) := by decide +kernel
theorem dX3_open_142 : decode cX3_open 142 = .ok (.getfield 61, 3) := by decide +kernel
theorem dX3_open_145 : decode cX3_open 145 = .ok (.iconst 1, 1) := by decide +kernel
theorem dX3_open_146 : decode cX3_open 146 = .ok (.iadd, 1) := by decide +kernel
theorem dX3_open_147 : decode cX3_open 147 = .ok (.putfield 61, 3) := by decide +kernel
theorem dX3_open_150 : decode cX3_open 150 = .ok (.aload_n 0, 1) := by decide +kernel
theorem dX3_open_151 : decode cX3_open 151 = .ok (.getfield 61, 3) := by decide +kernel
theorem dX3_open_154 : decode cX3_open 154 = .ok (.iconst 1, 1) := by decide +kernel
theorem dX3_open_155 : decode cX3_open 155 = .ok (.isub, 1) := by decide +kernel
theorem dX3_open_156 : decode cX3_open 156 = .ok (.ireturn, 1) := by decide +kernel
set_option maxRecDepth 20000 in
theorem ggX3_amount_X3_noCase : GoodIn wsX3_amount wsX3_noCase := goodIn_r _ [6, 7, 8, 9, 10, 5, 11, 12, 13, 14, 15, 16, 17, 18, 19, 20, 21, 22, 23, 24, 25, 26, 27, 28, 29, 30] (by decide +kernel) (by decide +kernel)
set_option maxRecDepth 20000 in
theorem gX3_amount_X3_noCase : GoodIn wsX3_amount (wsV RX3 80 RX3 yX3_noCase wsX3_noCase) := goodIn_app (goodIn_of _ (by decide +kernel)) ggX3_amount_X3_noCase
theorem dX3_amount_0 : decode cX3_amount 0 = .ok (.aload_n 0, 1) := by decide +kernel
theorem dX3_amount_1 : decode cX3_amount 1 = .ok (.iload_n 1, 1) := by decide +kernel
theorem dX3_amount_2 : decode cX3_amount 2 = .ok (.invokevirtual 80, 3) := by decide +kernel
theorem dX3_amount_5 : decode cX3_amount 5 = .ok (.ifCond .eq 7, 3) := by decide +kernel
theorem dX3_amount_8 : decode cX3_amount 8 = .ok (.iconst 0, 1) := by decide +kernel
theorem dX3_amount_9 : decode cX3_amount 9 = .ok (.goto 9, 3) := by decide +kernel
theorem dX3_amount_12 : decode cX3_amount 12 = .ok (.aload_n 0, 1) := by decide +kernel
theorem dX3_amount_13 : decode cX3_amount 13 = .ok (.getfield 9, 3) := by decide +kernel
theorem dX3_amount_16 : decode cX3_amount 16 = .ok (.iload_n 1, 1) := by decide +kernel
theorem dX3_amount_17 : decode cX3_amount 17 = .ok (.iaload, 1) := by decide +kernel
theorem dX3_amount_18 : decode cX3_amount 18 = .ok (.ireturn, 1) := by decide +kernel
set_option maxRecDepth 20000 in
theorem ggX3_pause_X3_noCase : GoodIn wsX3_pause wsX3_noCase := goodIn_r _ [13, 14, 2, 15, 16, 12, 17, 18, 19, 20, 21, 22, 23, 24, 25, 26, 27, 28, 29, 30, 31, 32, 33, 34, 35, 36] (by decide +kernel) (by decide +kernel)
set_option maxRecDepth 20000 in
theorem gX3_pause_X3_noCase : GoodIn wsX3_pause (wsV RX3 80 RX3 yX3_noCase wsX3_noCase) := goodIn_app (goodIn_of _ (by decide +kernel)) ggX3_pause_X3_noCase
set_option maxRecDepth 20000 in
theorem ggX3_pause_X3_in : GoodIn wsX3_pause wsX3_in := goodIn_r _ [17] (by decide +kernel) (by decide +kernel)
set_option maxRecDepth 20000 in
theorem gX3_pause_X3_in : GoodIn wsX3_pause (va_wsS RX3 64 yX3_in wsX3_in) := goodIn_app (goodIn_of _ (by decide +kernel)) ggX3_pause_X3_in
theorem dX3_pause_0 : decode cX3_pause 0 = .ok (.aload_n 0, 1) := by decide +kernel
theorem dX3_pause_1 : decode cX3_pause 1 = .ok (.iload_n 1, 1) := by decide +kernel
theorem dX3_pause_2 : decode cX3_pause 2 = .ok (.invokevirtual 80, 3) := by decide +kernel
theorem dX3_pause_5 : decode cX3_pause 5 = .ok (.ifCond .eq 5, 3) := by decide +kernel
theorem dX3_pause_8 : decode cX3_pause 8 = .ok (.iconst 0, 1) := by decide +kernel
theorem dX3_pause_9 : decode cX3_pause 9 = .ok (.ireturn, 1) := by decide +kernel
theorem dX3_pause_10 : decode cX3_pause 10 = .ok (.aload_n 0, 1) := by decide +kernel
theorem dX3_pause_11 : decode cX3_pause 11 = .ok (.iload_n 2, 1) := by decide +kernel
theorem dX3_pause_12 : decode cX3_pause 12 = .ok (.iconst 1, 1) := by decide +kernel
theorem dX3_pause_13 : decode cX3_pause 13 = .ok (.bipush 60, 2) := by decide +kernel
theorem dX3_pause_15 : decode cX3_pause 15 = .ok (.invokestatic 64, 3) := by decide +kernel
theorem dX3_pause_18 : decode cX3_pause 18 = .ok (.ifCond .ne 7, 3) := by decide +kernel
theorem dX3_pause_21 : decode cX3_pause 21 = .ok (.iconst 2, 1) := by decide +kernel
theorem dX3_pause_22 : decode cX3_pause 22 = .ok (.goto 17, 3) := by decide +kernel
theorem dX3_pause_25 : decode cX3_pause 25 = .ok (.aload_n 0, 1) := by decide +kernel
theorem dX3_pause_26 : decode cX3_pause 26 = .ok (.getfield 9, 3) := by decide +kernel
theorem dX3_pause_29 : decode cX3_pause 29 = .ok (.iload_n 1, 1) := by decide +kernel
theorem dX3_pause_30 : decode cX3_pause 30 = .ok (.iaload, 1) := by decide +kernel
theorem dX3_pause_31 : decode cX3_pause 31 = .ok (.ifCond .ne 7, 3) := by decide +kernel
theorem dX3_pause_34 : decode cX3_pause 34 = .ok (.iconst 3, 1) := by decide +kernel
theorem dX3_pause_35 : decode cX3_pause 35 = .ok (.goto 4, 3) := by decide +kernel
theorem dX3_pause_38 : decode cX3_pause 38 = .ok (.iconst 0, 1) := by decide +kernel
theorem dX3_pause_39 : decode cX3_pause 39 = .ok (.putfield 57, 3) := by decide +kernel
theorem dX3_pause_42 : decode cX3_pause 42 = .ok (.aload_n 0, 1) := by decide +kernel
theorem dX3_pause_43 : decode cX3_pause 43 = .ok (.getfield 57, 3) := by decide +kernel
theorem dX3_pause_46 : decode cX3_pause 46 = .ok (.ifCond .le 5, 3) := by decide +kernel
theorem dX3_pause_49 : decode cX3_pause 49 = .ok (.iconst 0, 1) := by decide +kernel
theorem dX3_pause_50 : decode cX3_pause 50 = .ok (.ireturn, 1) := by decide +kernel
theorem dX3_pause_51 : decode cX3_pause 51 = .ok (.aload_n 0, 1) := by decide +kernel
theorem dX3_pause_52 : decode cX3_pause 52 = .ok (.getfield 19, 3) := by decide +kernel
theorem dX3_pause_55 : decode cX3_pause 55 = .ok (.iload_n 1, 1) := by decide +kernel
theorem dX3_pause_56 : decode cX3_pause 56 = .ok (.aload_n 0, 1) := by decide +kernel
theorem dX3_pause_57 : decode cX3_pause 57 = .ok (.getfield 19, 3) := by decide +kernel
theorem dX3_pause_60 : decode cX3_pause 60 = .ok (.iload_n 1, 1) := by decide +kernel
theorem dX3_pause_61 : decode cX3_pause 61 = .ok (.iaload, 1) := by decide +kernel
theorem dX3_pause_62 : decode cX3_pause 62 = .ok (.aload_n 0, 1) := by decide +kernel
theorem dX3_pause_63 : decode cX3_pause 63 = .ok (.getfield 71, 3) := by decide +kernel
theorem dX3_pause_66 : decode cX3_pause 66 = .ok (.iload_n 2, 1) := by decide +kernel
theorem dX3_pause_67 : decode cX3_pause 67 = .ok (.iadd, 1) := by decide +kernel
theorem dX3_pause_68 : decode cX3_pause 68 = .ok (.invokestatic 74, 3) := by decide +kernel
theorem dX3_pause_71 : decode cX3_pause 71 = .ok (.iastore, 1) := by decide +kernel
theorem dX3_pause_72 : decode cX3_pause 72 = .ok (.aload_n 0, 1) := by decide +kernel
theorem dX3_pause_73 : decode cX3_pause 73 = .ok (.getfield 19, 3) := by decide +kernel
theorem dX3_pause_76 : decode cX3_pause 76 = .ok (.iload_n 1, 1) := by decide +kernel
theorem dX3_pause_77 : decode cX3_pause 77 = .ok (.iaload, 1) := by decide +kernel
theorem dX3_pause_78 : decode cX3_pause 78 = .ok (.ireturn, 1) := by decide +kernel
set_option maxRecDepth 20000 in
theorem ggX3_awaitNote_X3_noCase : GoodIn wsX3_awaitNote wsX3_noCase := goodIn_r _ [8, 9, 2, 10, 11, 7, 12, 13, 14, 15, 16, 17, 18, 19, 20, 21, 22, 23, 24, 25, 26, 27, 28, 29, 30, 31] (by decide +kernel) (by decide +kernel)
set_option maxRecDepth 20000 in
theorem gX3_awaitNote_X3_noCase : GoodIn wsX3_awaitNote (wsV RX3 80 RX3 yX3_noCase wsX3_noCase) := goodIn_app (goodIn_of _ (by decide +kernel)) ggX3_awaitNote_X3_noCase
theorem dX3_awaitNote_0 : decode cX3_awaitNote 0 = .ok (.aload_n 0, 1) := by decide +kernel
theorem dX3_awaitNote_1 : decode cX3_awaitNote 1 = .ok (.iload_n 1, 1) := by decide +kernel
theorem dX3_awaitNote_2 : decode cX3_awaitNote 2 = .ok (.invokevirtual 80, 3) := by decide +kernel
theorem dX3_awaitNote_5 : decode cX3_awaitNote 5 = .ok (.ifCond .eq 5, 3) := by decide +kernel
theorem dX3_awaitNote_8 : decode cX3_awaitNote 8 = .ok (.iconst 0, 1) := by decide +kernel
theorem dX3_awaitNote_9 : decode cX3_awaitNote 9 = .ok (.ireturn, 1) := by decide +kernel
theorem dX3_awaitNote_10 : decode cX3_awaitNote 10 = .ok (.aload_n 0, 1) := by decide +kernel
theorem dX3_awaitNote_11 : decode cX3_awaitNote 11 = .ok (.aload_n 0, 1) := by decide +kernel
theorem dX3_awaitNote_12 : decode cX3_awaitNote 12 = .ok (.getfield 9, 3) := by decide +kernel
theorem dX3_awaitNote_15 : decode cX3_awaitNote 15 = .ok (.iload_n 1, 1) := by decide +kernel
theorem dX3_awaitNote_16 : decode cX3_awaitNote 16 = .ok (.iaload, 1) := by decide +kernel
theorem dX3_awaitNote_17 : decode cX3_awaitNote 17 = .ok (.ifCond .ne 7, 3) := by decide +kernel
theorem dX3_awaitNote_20 : decode cX3_awaitNote 20 = .ok (.iconst 2, 1) := by decide +kernel
theorem dX3_awaitNote_21 : decode cX3_awaitNote 21 = .ok (.goto 4, 3) := by decide +kernel
theorem dX3_awaitNote_24 : decode cX3_awaitNote 24 = .ok (.iconst 0, 1) := by decide +kernel
theorem dX3_awaitNote_25 : decode cX3_awaitNote 25 = .ok (.putfield 57, 3) := by decide +kernel
theorem dX3_awaitNote_28 : decode cX3_awaitNote 28 = .ok (.aload_n 0, 1) := by decide +kernel
theorem dX3_awaitNote_29 : decode cX3_awaitNote 29 = .ok (.getfield 57, 3) := by decide +kernel
theorem dX3_awaitNote_32 : decode cX3_awaitNote 32 = .ok (.ifCond .le 5, 3) := by decide +kernel
theorem dX3_awaitNote_35 : decode cX3_awaitNote 35 = .ok (.iconst 0, 1) := by decide +kernel
theorem dX3_awaitNote_36 : decode cX3_awaitNote 36 = .ok (.ireturn, 1) := by decide +kernel
theorem dX3_awaitNote_37 : decode cX3_awaitNote 37 = .ok (.aload_n 0, 1) := by decide +kernel
theorem dX3_awaitNote_38 : decode cX3_awaitNote 38 = .ok (.getfield 22, 3) := by decide +kernel
theorem dX3_awaitNote_41 : decode cX3_awaitNote 41 = .ok (.iload_n 1, 1) := by decide +kernel
theorem dX3_awaitNote_42 : decode cX3_awaitNote 42 = .ok (.baload, 1) := by decide +kernel
theorem dX3_awaitNote_43 : decode cX3_awaitNote 43 = .ok (.istore_n 2, 1) := by decide +kernel
theorem dX3_awaitNote_44 : decode cX3_awaitNote 44 = .ok (.aload_n 0, 1) := by decide +kernel
theorem dX3_awaitNote_45 : decode cX3_awaitNote 45 = .ok (.getfield 22, 3) := by decide +kernel
theorem dX3_awaitNote_48 : decode cX3_awaitNote 48 = .ok (.iload_n 1, 1) := by decide +kernel
theorem dX3_awaitNote_49 : decode cX3_awaitNote 49 = .ok (.iconst 1, 1) := by decide +kernel
theorem dX3_awaitNote_50 : decode cX3_awaitNote 50 = .ok (.bastore, 1) := by decide +kernel
theorem dX3_awaitNote_51 : decode cX3_awaitNote 51 = .ok (.iload_n 2, 1) := by decide +kernel
theorem dX3_awaitNote_52 : decode cX3_awaitNote 52 = .ok (.ireturn, 1) := by decide +kernel
set_option maxRecDepth 20000 in
theorem ggX3_letters_X3_noCase : GoodIn wsX3_letters wsX3_noCase := goodIn_r _ [6, 7, 8, 9, 10, 5, 11, 12, 13, 14, 15, 16, 17, 18, 19, 20, 21, 22, 23, 24, 25, 26, 27, 28, 29, 30] (by decide +kernel) (by decide +kernel)
set_option maxRecDepth 20000 in
theorem gX3_letters_X3_noCase : GoodIn wsX3_letters (wsV RX3 80 RX3 yX3_noCase wsX3_noCase) := goodIn_app (goodIn_of _ (by decide +kernel)) ggX3_letters_X3_noCase
theorem dX3_letters_0 : decode cX3_letters 0 = .ok (.aload_n 0, 1) := by decide +kernel
theorem dX3_letters_1 : decode cX3_letters 1 = .ok (.iload_n 1, 1) := by decide +kernel
theorem dX3_letters_2 : decode cX3_letters 2 = .ok (.invokevirtual 80, 3) := by decide +kernel
theorem dX3_letters_5 : decode cX3_letters 5 = .ok (.ifCond .eq 7, 3) := by decide +kernel
theorem dX3_letters_8 : decode cX3_letters 8 = .ok (.iconst 0, 1) := by decide +kernel
theorem dX3_letters_9 : decode cX3_letters 9 = .ok (.goto 9, 3) := by decide +kernel
theorem dX3_letters_12 : decode cX3_letters 12 = .ok (.aload_n 0, 1) := by decide +kernel
theorem dX3_letters_13 : decode cX3_letters 13 = .ok (.getfield 16, 3) := by decide +kernel
theorem dX3_letters_16 : decode cX3_letters 16 = .ok (.iload_n 1, 1) := by decide +kernel
theorem dX3_letters_17 : decode cX3_letters 17 = .ok (.iaload, 1) := by decide +kernel
theorem dX3_letters_18 : decode cX3_letters 18 = .ok (.ireturn, 1) := by decide +kernel
set_option maxRecDepth 20000 in
theorem ggX3_lettersByMessages_X3_letters : GoodIn wsX3_lettersByMessages wsX3_letters := goodIn_ca (goodIn_r _ [5, 6, 7, 8, 9, 4, 10, 11, 12, 13, 14, 15, 16, 17, 18, 19, 20, 21, 22, 23, 24, 25, 26, 27, 28, 29, 30, 31, 32, 33, 34] (by decide +kernel) (by decide +kernel)) (goodIn_sub (fun _ h => List.mem_cons_of_mem _ (List.mem_append_right _ h)) (by decide +kernel))
set_option maxRecDepth 20000 in
theorem gX3_lettersByMessages_X3_letters : GoodIn wsX3_lettersByMessages (wsV RX3 84 RX3 yX3_letters wsX3_letters) := goodIn_app (goodIn_of _ (by decide +kernel)) ggX3_lettersByMessages_X3_letters
theorem dX3_lettersByMessages_0 : decode cX3_lettersByMessages 0 = .ok (.aload_n 0, 1) := by decide +kernel
theorem dX3_lettersByMessages_1 : decode cX3_lettersByMessages 1 = .ok (.iload_n 1, 1) := by decide +kernel
theorem dX3_lettersByMessages_2 : decode cX3_lettersByMessages 2 = .ok (.invokevirtual 84, 3) := by decide +kernel
theorem dX3_lettersByMessages_5 : decode cX3_lettersByMessages 5 = .ok (.ireturn, 1) := by decide +kernel
theorem dX3_find_0 : decode cX3_find 0 = .ok (.iconst 0, 1) := by decide +kernel
theorem dX3_find_1 : decode cX3_find 1 = .ok (.istore_n 2, 1) := by decide +kernel
theorem dX3_find_2 : decode cX3_find 2 = .ok (.iload_n 2, 1) := by decide +kernel
theorem dX3_find_3 : decode cX3_find 3 = .ok (.aload_n 0, 1) := by decide +kernel
theorem dX3_find_4 : decode cX3_find 4 = .ok (.getfield 68, 3) := by decide +kernel
theorem dX3_find_7 : decode cX3_find 7 = .ok (.if_icmp .ge 21, 3) := by decide +kernel
theorem dX3_find_10 : decode cX3_find 10 = .ok (.aload_n 0, 1) := by decide +kernel
theorem dX3_find_11 : decode cX3_find 11 = .ok (.getfield 29, 3) := by decide +kernel
theorem dX3_find_14 : decode cX3_find 14 = .ok (.iload_n 2, 1) := by decide +kernel
theorem dX3_find_15 : decode cX3_find 15 = .ok (.iaload, 1) := by decide +kernel
theorem dX3_find_16 : decode cX3_find 16 = .ok (.iload_n 1, 1) := by decide +kernel
theorem dX3_find_17 : decode cX3_find 17 = .ok (.if_icmp .ne 5, 3) := by decide +kernel
theorem dX3_find_20 : decode cX3_find 20 = .ok (.iload_n 2, 1) := by decide +kernel
theorem dX3_find_21 : decode cX3_find 21 = .ok (.ireturn, 1) := by decide +kernel
theorem dX3_find_22 : decode cX3_find 22 = .ok (.iinc 2 1, 3) := by decide +kernel
theorem dX3_find_25 : decode cX3_find 25 = .ok (.goto (-23), 3) := by decide +kernel
theorem dX3_find_28 : decode cX3_find 28 = .ok (.iconst (-1), 1) := by decide +kernel
theorem dX3_find_29 : decode cX3_find 29 = .ok (.ireturn, 1) := by decide +kernel
set_option maxRecDepth 20000 in
theorem ggX3_mayRemind_X3_find : GoodIn wsX3_mayRemind wsX3_find := goodIn_ca (goodIn_r _ [8, 9, 10, 11, 12, 13, 14, 15, 16, 17, 18, 19, 20, 21, 22, 23, 24, 25, 26, 27, 28, 29] (by decide +kernel) (by decide +kernel)) (goodIn_sub (fun _ h => List.mem_cons_of_mem _ (List.mem_append_right _ h)) (by decide +kernel))
set_option maxRecDepth 20000 in
theorem gX3_mayRemind_X3_find : GoodIn wsX3_mayRemind (wsV RX3 87 RX3 yX3_find wsX3_find) := goodIn_app (goodIn_of _ (by decide +kernel)) ggX3_mayRemind_X3_find
theorem dX3_mayRemind_0 : decode cX3_mayRemind 0 = .ok (.aload_n 0, 1) := by decide +kernel
theorem dX3_mayRemind_1 : decode cX3_mayRemind 1 = .ok (.getfield 9, 3) := by decide +kernel
theorem dX3_mayRemind_4 : decode cX3_mayRemind 4 = .ok (.iload_n 1, 1) := by decide +kernel
theorem dX3_mayRemind_5 : decode cX3_mayRemind 5 = .ok (.iaload, 1) := by decide +kernel
theorem dX3_mayRemind_6 : decode cX3_mayRemind 6 = .ok (.ifCond .le 26, 3) := by decide +kernel
theorem dX3_mayRemind_9 : decode cX3_mayRemind 9 = .ok (.aload_n 0, 1) := by decide +kernel
theorem dX3_mayRemind_10 : decode cX3_mayRemind 10 = .ok (.getfield 22, 3) := by decide +kernel
theorem dX3_mayRemind_13 : decode cX3_mayRemind 13 = .ok (.iload_n 1, 1) := by decide +kernel
theorem dX3_mayRemind_14 : decode cX3_mayRemind 14 = .ok (.baload, 1) := by decide +kernel
theorem dX3_mayRemind_15 : decode cX3_mayRemind 15 = .ok (.ifCond .ne 17, 3) := by decide +kernel
theorem dX3_mayRemind_18 : decode cX3_mayRemind 18 = .ok (.aload_n 0, 1) := by decide +kernel
theorem dX3_mayRemind_19 : decode cX3_mayRemind 19 = .ok (.getfield 16, 3) := by decide +kernel
theorem dX3_mayRemind_22 : decode cX3_mayRemind 22 = .ok (.iload_n 1, 1) := by decide +kernel
theorem dX3_mayRemind_23 : decode cX3_mayRemind 23 = .ok (.iaload, 1) := by decide +kernel
theorem dX3_mayRemind_24 : decode cX3_mayRemind 24 = .ok (.iconst 3, 1) := by decide +kernel
theorem dX3_mayRemind_25 : decode cX3_mayRemind 25 = .ok (.if_icmp .ge 7, 3) := by decide +kernel
theorem dX3_mayRemind_28 : decode cX3_mayRemind 28 = .ok (.iconst 1, 1) := by decide +kernel
theorem dX3_mayRemind_29 : decode cX3_mayRemind 29 = .ok (.goto 4, 3) := by decide +kernel
theorem dX3_mayRemind_32 : decode cX3_mayRemind 32 = .ok (.iconst 0, 1) := by decide +kernel
theorem dX3_mayRemind_33 : decode cX3_mayRemind 33 = .ok (.istore_n 2, 1) := by decide +kernel
theorem dX3_mayRemind_34 : decode cX3_mayRemind 34 = .ok (.iload_n 2, 1) := by decide +kernel
theorem dX3_mayRemind_35 : decode cX3_mayRemind 35 = .ok (.ifCond .eq 30, 3) := by decide +kernel
theorem dX3_mayRemind_38 : decode cX3_mayRemind 38 = .ok (.aload_n 0, 1) := by decide +kernel
theorem dX3_mayRemind_39 : decode cX3_mayRemind 39 = .ok (.sipush 1000, 3) := by decide +kernel
theorem dX3_mayRemind_42 : decode cX3_mayRemind 42 = .ok (.bipush 10, 2) := by decide +kernel
theorem dX3_mayRemind_44 : decode cX3_mayRemind 44 = .ok (.iload_n 1, 1) := by decide +kernel
theorem dX3_mayRemind_45 : decode cX3_mayRemind 45 = .ok (.imul, 1) := by decide +kernel
theorem dX3_mayRemind_46 : decode cX3_mayRemind 46 = .ok (.iadd, 1) := by decide +kernel
theorem dX3_mayRemind_47 : decode cX3_mayRemind 47 = .ok (.aload_n 0, 1) := by decide +kernel
theorem dX3_mayRemind_48 : decode cX3_mayRemind 48 = .ok (.getfield 16, 3) := by decide +kernel
theorem dX3_mayRemind_51 : decode cX3_mayRemind 51 = .ok (.iload_n 1, 1) := by decide +kernel
theorem dX3_mayRemind_52 : decode cX3_mayRemind 52 = .ok (.iaload, 1) := by decide +kernel
theorem dX3_mayRemind_53 : decode cX3_mayRemind 53 = .ok (.iadd, 1) := by decide +kernel
theorem dX3_mayRemind_54 : decode cX3_mayRemind 54 = .ok (.invokevirtual 87, 3) := by decide +kernel
theorem dX3_mayRemind_57 : decode cX3_mayRemind 57 = .ok (.iconst (-1), 1) := by decide +kernel
theorem dX3_mayRemind_58 : decode cX3_mayRemind 58 = .ok (.if_icmp .ne 7, 3) := by decide +kernel
theorem dX3_mayRemind_61 : decode cX3_mayRemind 61 = .ok (.iconst 1, 1) := by decide +kernel
theorem dX3_mayRemind_62 : decode cX3_mayRemind 62 = .ok (.goto 4, 3) := by decide +kernel
theorem dX3_mayRemind_65 : decode cX3_mayRemind 65 = .ok (.iconst 0, 1) := by decide +kernel
theorem dX3_mayRemind_66 : decode cX3_mayRemind 66 = .ok (.ireturn, 1) := by decide +kernel
theorem dX3_remindsFrom_0 : decode cX3_remindsFrom 0 = .ok (.aload_n 0, 1) := by decide +kernel
theorem dX3_remindsFrom_1 : decode cX3_remindsFrom 1 = .ok (.getfield 19, 3) := by decide +kernel
theorem dX3_remindsFrom_4 : decode cX3_remindsFrom 4 = .ok (.iload_n 1, 1) := by decide +kernel
theorem dX3_remindsFrom_5 : decode cX3_remindsFrom 5 = .ok (.iaload, 1) := by decide +kernel
theorem dX3_remindsFrom_6 : decode cX3_remindsFrom 6 = .ok (.aload_n 0, 1) := by decide +kernel
theorem dX3_remindsFrom_7 : decode cX3_remindsFrom 7 = .ok (.getfield 13, 3) := by decide +kernel
theorem dX3_remindsFrom_10 : decode cX3_remindsFrom 10 = .ok (.iload_n 1, 1) := by decide +kernel
theorem dX3_remindsFrom_11 : decode cX3_remindsFrom 11 = .ok (.iaload, 1) := by decide +kernel
theorem dX3_remindsFrom_12 : decode cX3_remindsFrom 12 = .ok (.bipush 7, 2) := by decide +kernel
theorem dX3_remindsFrom_14 : decode cX3_remindsFrom 14 = .ok (.aload_n 0, 1) := by decide +kernel
theorem dX3_remindsFrom_15 : decode cX3_remindsFrom 15 = .ok (.getfield 16, 3) := by decide +kernel
theorem dX3_remindsFrom_18 : decode cX3_remindsFrom 18 = .ok (.iload_n 1, 1) := by decide +kernel
theorem dX3_remindsFrom_19 : decode cX3_remindsFrom 19 = .ok (.iaload, 1) := by decide +kernel
theorem dX3_remindsFrom_20 : decode cX3_remindsFrom 20 = .ok (.imul, 1) := by decide +kernel
theorem dX3_remindsFrom_21 : decode cX3_remindsFrom 21 = .ok (.iadd, 1) := by decide +kernel
theorem dX3_remindsFrom_22 : decode cX3_remindsFrom 22 = .ok (.iconst 1, 1) := by decide +kernel
theorem dX3_remindsFrom_23 : decode cX3_remindsFrom 23 = .ok (.iadd, 1) := by decide +kernel
theorem dX3_remindsFrom_24 : decode cX3_remindsFrom 24 = .ok (.invokestatic 74, 3) := by decide +kernel
theorem dX3_remindsFrom_27 : decode cX3_remindsFrom 27 = .ok (.ireturn, 1) := by decide +kernel
set_option maxRecDepth 20000 in
theorem ggX3_nextReminder_X3_noCase : GoodIn wsX3_nextReminder wsX3_noCase := goodIn_r _ [11, 12, 1, 13, 14, 10, 15, 35, 36, 37, 38, 39, 40, 41, 42, 43, 44, 45, 46, 47, 48, 49, 50, 51, 52, 53] (by decide +kernel) (by decide +kernel)
set_option maxRecDepth 20000 in
theorem gX3_nextReminder_X3_noCase : GoodIn wsX3_nextReminder (wsV RX3 80 RX3 yX3_noCase wsX3_noCase) := goodIn_app (goodIn_of _ (by decide +kernel)) ggX3_nextReminder_X3_noCase
set_option maxRecDepth 20000 in
theorem ggX3_nextReminder_X3_mayRemind : GoodIn wsX3_nextReminder wsX3_mayRemind := goodIn_ca (goodIn_r _ [19, 20, 21, 22, 23, 24, 25, 10, 26, 27, 28, 35, 36, 37, 38, 39, 40, 41, 42, 43, 44, 45, 46, 47, 48, 49, 50, 51, 52, 53] (by decide +kernel) (by decide +kernel)) (goodIn_sub (fun _ h => List.mem_cons_of_mem _ (List.mem_append_right _ h)) (by decide +kernel))
set_option maxRecDepth 20000 in
theorem gX3_nextReminder_X3_mayRemind : GoodIn wsX3_nextReminder (wsV RX3 90 RX3 yX3_mayRemind wsX3_mayRemind) := goodIn_app (goodIn_of _ (by decide +kernel)) ggX3_nextReminder_X3_mayRemind
set_option maxRecDepth 20000 in
theorem ggX3_nextReminder_X3_remindsFrom : GoodIn wsX3_nextReminder wsX3_remindsFrom := goodIn_ca (goodIn_r _ [32, 33, 34, 22, 3, 4, 5, 6, 35, 36, 37, 38, 39, 40, 41, 42, 43, 44, 45, 46, 47, 48, 49, 50, 51, 52, 53] (by decide +kernel) (by decide +kernel)) (goodIn_sub (fun _ h => List.mem_cons_of_mem _ (List.mem_append_right _ h)) (by decide +kernel))
set_option maxRecDepth 20000 in
theorem gX3_nextReminder_X3_remindsFrom : GoodIn wsX3_nextReminder (wsV RX3 93 RX3 yX3_remindsFrom wsX3_remindsFrom) := goodIn_app (goodIn_of _ (by decide +kernel)) ggX3_nextReminder_X3_remindsFrom
theorem dX3_nextReminder_0 : decode cX3_nextReminder 0 = .ok (.aload_n 0, 1) := by decide +kernel
theorem dX3_nextReminder_1 : decode cX3_nextReminder 1 = .ok (.iload_n 1, 1) := by decide +kernel
theorem dX3_nextReminder_2 : decode cX3_nextReminder 2 = .ok (.invokevirtual 80, 3) := by decide +kernel
theorem dX3_nextReminder_5 : decode cX3_nextReminder 5 = .ok (.ifCond .eq 5, 3) := by decide +kernel
theorem dX3_nextReminder_8 : decode cX3_nextReminder 8 = .ok (.iconst 0, 1) := by decide +kernel
theorem dX3_nextReminder_9 : decode cX3_nextReminder 9 = .ok (.ireturn, 1) := by decide +kernel
theorem dX3_nextReminder_10 : decode cX3_nextReminder 10 = .ok (.aload_n 0, 1) := by decide +kernel
theorem dX3_nextReminder_11 : decode cX3_nextReminder 11 = .ok (.aload_n 0, 1) := by decide +kernel
theorem dX3_nextReminder_12 : decode cX3_nextReminder 12 = .ok (.iload_n 1, 1) := by decide +kernel
theorem dX3_nextReminder_13 : decode cX3_nextReminder 13 = .ok (.invokevirtual 90, 3) := by decide +kernel
theorem dX3_nextReminder_16 : decode cX3_nextReminder 16 = .ok (.ifCond .eq 7, 3) := by decide +kernel
theorem dX3_nextReminder_19 : decode cX3_nextReminder 19 = .ok (.iconst 0, 1) := by decide +kernel
theorem dX3_nextReminder_20 : decode cX3_nextReminder 20 = .ok (.goto 4, 3) := by decide +kernel
theorem dX3_nextReminder_23 : decode cX3_nextReminder 23 = .ok (.iconst 2, 1) := by decide +kernel
theorem dX3_nextReminder_24 : decode cX3_nextReminder 24 = .ok (.putfield 57, 3) := by decide +kernel
theorem dX3_nextReminder_27 : decode cX3_nextReminder 27 = .ok (.aload_n 0, 1) := by decide +kernel
theorem dX3_nextReminder_28 : decode cX3_nextReminder 28 = .ok (.getfield 57, 3) := by decide +kernel
theorem dX3_nextReminder_31 : decode cX3_nextReminder 31 = .ok (.ifCond .le 7, 3) := by decide +kernel
theorem dX3_nextReminder_34 : decode cX3_nextReminder 34 = .ok (.iconst 0, 1) := by decide +kernel
theorem dX3_nextReminder_35 : decode cX3_nextReminder 35 = .ok (.goto 17, 3) := by decide +kernel
theorem dX3_nextReminder_38 : decode cX3_nextReminder 38 = .ok (.aload_n 0, 1) := by decide +kernel
theorem dX3_nextReminder_39 : decode cX3_nextReminder 39 = .ok (.getfield 71, 3) := by decide +kernel
theorem dX3_nextReminder_42 : decode cX3_nextReminder 42 = .ok (.iconst 1, 1) := by decide +kernel
theorem dX3_nextReminder_43 : decode cX3_nextReminder 43 = .ok (.iadd, 1) := by decide +kernel
theorem dX3_nextReminder_44 : decode cX3_nextReminder 44 = .ok (.aload_n 0, 1) := by decide +kernel
theorem dX3_nextReminder_45 : decode cX3_nextReminder 45 = .ok (.iload_n 1, 1) := by decide +kernel
theorem dX3_nextReminder_46 : decode cX3_nextReminder 46 = .ok (.invokevirtual 93, 3) := by decide +kernel
theorem dX3_nextReminder_49 : decode cX3_nextReminder 49 = .ok (.invokestatic 74, 3) := by decide +kernel
theorem dX3_nextReminder_52 : decode cX3_nextReminder 52 = .ok (.ireturn, 1) := by decide +kernel
theorem dX3_adds_0 : decode cX3_adds 0 = .ok (.aload_n 0, 1) := by decide +kernel
theorem dX3_adds_1 : decode cX3_adds 1 = .ok (.getfield 26, 3) := by decide +kernel
theorem dX3_adds_4 : decode cX3_adds 4 = .ok (.aload_n 0, 1) := by decide +kernel
theorem dX3_adds_5 : decode cX3_adds 5 = .ok (.getfield 68, 3) := by decide +kernel
theorem dX3_adds_8 : decode cX3_adds 8 = .ok (.iload_n 1, 1) := by decide +kernel
theorem dX3_adds_9 : decode cX3_adds 9 = .ok (.iastore, 1) := by decide +kernel
theorem dX3_adds_10 : decode cX3_adds 10 = .ok (.aload_n 0, 1) := by decide +kernel
theorem dX3_adds_11 : decode cX3_adds 11 = .ok (.getfield 29, 3) := by decide +kernel
theorem dX3_adds_14 : decode cX3_adds 14 = .ok (.aload_n 0, 1) := by decide +kernel
theorem dX3_adds_15 : decode cX3_adds 15 = .ok (.getfield 68, 3) := by decide +kernel
theorem dX3_adds_18 : decode cX3_adds 18 = .ok (.iload_n 2, 1) := by decide +kernel
theorem dX3_adds_19 : decode cX3_adds 19 = .ok (.iastore, 1) := by decide +kernel
theorem dX3_adds_20 : decode cX3_adds 20 = .ok (.aload_n 0, 1) := by decide +kernel
theorem dX3_adds_21 : decode cX3_adds 21 = .ok (.getfield 32, 3) := by decide +kernel
theorem dX3_adds_24 : decode cX3_adds 24 = .ok (.aload_n 0, 1) := by decide +kernel
theorem dX3_adds_25 : decode cX3_adds 25 = .ok (.getfield 68, 3) := by decide +kernel
theorem dX3_adds_28 : decode cX3_adds 28 = .ok (.iload_n 3, 1) := by decide +kernel
theorem dX3_adds_29 : decode cX3_adds 29 = .ok (.castore, 1) := by decide +kernel
theorem dX3_adds_30 : decode cX3_adds 30 = .ok (.aload_n 0, 1) := by decide +kernel
theorem dX3_adds_31 : decode cX3_adds 31 = .ok (.getfield 36, 3) := by decide +kernel
theorem dX3_adds_34 : decode cX3_adds 34 = .ok (.aload_n 0, 1) := by decide +kernel
theorem dX3_adds_35 : decode cX3_adds 35 = .ok (.getfield 68, 3) := by decide +kernel
theorem dX3_adds_38 : decode cX3_adds 38 = .ok (.iload 4, 2) := by decide +kernel
theorem dX3_adds_40 : decode cX3_adds 40 = .ok (.iastore, 1) := by decide +kernel
theorem dX3_adds_41 : decode cX3_adds 41 = .ok (.aload_n 0, 1) := by decide +kernel
theorem dX3_adds_42 : decode cX3_adds 42 = .ok (.getfield 39, 3) := by decide +kernel
theorem dX3_adds_45 : decode cX3_adds 45 = .ok (.aload_n 0, 1) := by decide +kernel
theorem dX3_adds_46 : decode cX3_adds 46 = .ok (.getfield 68, 3) := by decide +kernel
theorem dX3_adds_49 : decode cX3_adds 49 = .ok (.iload 5, 2) := by decide +kernel
theorem dX3_adds_51 : decode cX3_adds 51 = .ok (.iastore, 1) := by decide +kernel
theorem dX3_adds_52 : decode cX3_adds 52 = .ok (.aload_n 0, 1) := by decide +kernel
theorem dX3_adds_53 : decode cX3_adds 53 = .ok (.getfield 42, 3) := by decide +kernel
theorem dX3_adds_56 : decode cX3_adds 56 = .ok (.aload_n 0, 1) := by decide +kernel
theorem dX3_adds_57 : decode cX3_adds 57 = .ok (.getfield 68, 3) := by decide +kernel
theorem dX3_adds_60 : decode cX3_adds 60 = .ok (.iload 6, 2) := by decide +kernel
theorem dX3_adds_62 : decode cX3_adds 62 = .ok (.iastore, 1) := by decide +kernel
theorem dX3_adds_63 : decode cX3_adds 63 = .ok (.aload_n 0, 1) := by decide +kernel
theorem dX3_adds_64 : decode cX3_adds 64 = .ok (.getfield 48, 3) := by decide +kernel
theorem dX3_adds_67 : decode cX3_adds 67 = .ok (.aload_n 0, 1) := by decide +kernel
theorem dX3_adds_68 : decode cX3_adds 68 = .ok (.getfield 68, 3) := by decide +kernel
theorem dX3_adds_71 : decode cX3_adds 71 = .ok (.iload 4, 2) := by decide +kernel
theorem dX3_adds_73 : decode cX3_adds 73 = .ok (.aload_n 0, 1) := by decide +kernel
theorem dX3_adds_74 : decode cX3_adds 74 = .ok (.getfield 61, 3) := by decide +kernel
theorem dX3_adds_77 : decode cX3_adds 77 = .ok (.if_icmp .ge 8, 3) := by decide +kernel
theorem dX3_adds_80 : decode cX3_adds 80 = .ok (.bipush 119, 2) := by decide +kernel
theorem dX3_adds_82 : decode cX3_adds 82 = .ok (.goto 5, 3) := by decide +kernel
theorem dX3_adds_85 : decode cX3_adds 85 = .ok (.bipush 104, 2) := by decide +kernel
theorem dX3_adds_87 : decode cX3_adds 87 = .ok (.castore, 1) := by decide +kernel
theorem dX3_adds_88 : decode cX3_adds 88 = .ok (.aload_n 0, 1) := by decide +kernel
theorem dX3_adds_89 : decode cX3_adds 89 = .ok (.dup, 1) := by decide +kernel
theorem dX3_adds_90 : decode cX3_adds 90 = .ok (.getfield 68, 3) := by decide +kernel
theorem dX3_adds_93 : decode cX3_adds 93 = .ok (.iconst 1, 1) := by decide +kernel
theorem dX3_adds_94 : decode cX3_adds 94 = .ok (.iadd, 1) := by decide +kernel
theorem dX3_adds_95 : decode cX3_adds 95 = .ok (.putfield 68, 3) := by decide +kernel
theorem dX3_adds_98 : decode cX3_adds 98 = .ok (.aload_n 0, 1) := by decide +kernel
theorem dX3_adds_99 : decode cX3_adds 99 = .ok (.getfield 68, 3) := by decide +kernel
theorem dX3_adds_102 : decode cX3_adds 102 = .ok (.iconst 1, 1) := by decide +kernel
theorem dX3_adds_103 : decode cX3_adds 103 = .ok (.isub, 1) := by decide +kernel
theorem dX3_adds_104 : decode cX3_adds 104 = .ok (.ireturn, 1) := by decide +kernel
set_option maxRecDepth 20000 in
theorem ggX3_post_X3_in : GoodIn wsX3_post wsX3_in := goodIn_r _ [7] (by decide +kernel) (by decide +kernel)
set_option maxRecDepth 20000 in
theorem gX3_post_X3_in : GoodIn wsX3_post (va_wsS RX3 64 yX3_in wsX3_in) := goodIn_app (goodIn_of _ (by decide +kernel)) ggX3_post_X3_in
set_option maxRecDepth 20000 in
theorem ggX3_post_X3_raises : GoodIn wsX3_post wsX3_raises := goodIn_r _ [11, 2, 28, 29, 30, 31, 32, 33, 34, 35, 36, 37, 38, 39, 40, 41, 42, 43, 44, 45, 46] (by decide +kernel) (by decide +kernel)
set_option maxRecDepth 20000 in
theorem gX3_post_X3_raises : GoodIn wsX3_post (wsV RX3 96 RX3 yX3_raises wsX3_raises) := goodIn_app (goodIn_of _ (by decide +kernel)) ggX3_post_X3_raises
set_option maxRecDepth 20000 in
theorem ggX3_post_X3_find : GoodIn wsX3_post wsX3_find := goodIn_ca (goodIn_r _ [15, 1, 16, 28, 29, 30, 31, 32, 33, 34, 35, 36, 37, 38, 39, 40, 41, 42, 43, 44, 45, 46] (by decide +kernel) (by decide +kernel)) (goodIn_sub (fun _ h => List.mem_cons_of_mem _ (List.mem_append_right _ h)) (by decide +kernel))
set_option maxRecDepth 20000 in
theorem gX3_post_X3_find : GoodIn wsX3_post (wsV RX3 87 RX3 yX3_find wsX3_find) := goodIn_app (goodIn_of _ (by decide +kernel)) ggX3_post_X3_find
set_option maxRecDepth 20000 in
theorem ggX3_post_X3_adds : GoodIn wsX3_post wsX3_adds := goodIn_ca (goodIn_r _ [20, 21, 1, 16, 22, 23, 24, 25, 26, 27, 28, 29, 30, 31, 32, 33, 34, 35, 36, 37, 38, 39, 40, 41, 42, 43, 44, 45, 46] (by decide +kernel) (by decide +kernel)) (goodIn_sub (fun _ h => List.mem_cons_of_mem _ (List.mem_append_right _ h)) (by decide +kernel))
set_option maxRecDepth 20000 in
theorem gX3_post_X3_adds : GoodIn wsX3_post (wsV RX3 99 RX3 yX3_adds wsX3_adds) := goodIn_app (goodIn_of _ (by decide +kernel)) ggX3_post_X3_adds
theorem dX3_post_0 : decode cX3_post 0 = .ok (.iload_n 1, 1) := by decide +kernel
theorem dX3_post_1 : decode cX3_post 1 = .ok (.iconst 0, 1) := by decide +kernel
theorem dX3_post_2 : decode cX3_post 2 = .ok (.iconst 2, 1) := by decide +kernel
theorem dX3_post_3 : decode cX3_post 3 = .ok (.invokestatic 64, 3) := by decide +kernel
theorem dX3_post_6 : decode cX3_post 6 = .ok (.ifCond .eq 64, 3) := by decide +kernel
theorem dX3_post_9 : decode cX3_post 9 = .ok (.iload_n 2, 1) := by decide +kernel
theorem dX3_post_10 : decode cX3_post 10 = .ok (.iconst 0, 1) := by decide +kernel
theorem dX3_post_11 : decode cX3_post 11 = .ok (.sipush 999, 3) := by decide +kernel
theorem dX3_post_14 : decode cX3_post 14 = .ok (.invokestatic 64, 3) := by decide +kernel
theorem dX3_post_17 : decode cX3_post 17 = .ok (.ifCond .eq 53, 3) := by decide +kernel
theorem dX3_post_20 : decode cX3_post 20 = .ok (.iload_n 3, 1) := by decide +kernel
theorem dX3_post_21 : decode cX3_post 21 = .ok (.bipush 112, 2) := by decide +kernel
theorem dX3_post_23 : decode cX3_post 23 = .ok (.if_icmp .eq 9, 3) := by decide +kernel
theorem dX3_post_26 : decode cX3_post 26 = .ok (.iload_n 3, 1) := by decide +kernel
theorem dX3_post_27 : decode cX3_post 27 = .ok (.bipush 110, 2) := by decide +kernel
theorem dX3_post_29 : decode cX3_post 29 = .ok (.if_icmp .ne 41, 3) := by decide +kernel
theorem dX3_post_32 : decode cX3_post 32 = .ok (.iload 4, 2) := by decide +kernel
theorem dX3_post_34 : decode cX3_post 34 = .ok (.iconst 0, 1) := by decide +kernel
theorem dX3_post_35 : decode cX3_post 35 = .ok (.bipush 7, 2) := by decide +kernel
theorem dX3_post_37 : decode cX3_post 37 = .ok (.invokestatic 64, 3) := by decide +kernel
theorem dX3_post_40 : decode cX3_post 40 = .ok (.ifCond .eq 30, 3) := by decide +kernel
theorem dX3_post_43 : decode cX3_post 43 = .ok (.iload 5, 2) := by decide +kernel
theorem dX3_post_45 : decode cX3_post 45 = .ok (.iconst 0, 1) := by decide +kernel
theorem dX3_post_46 : decode cX3_post 46 = .ok (.sipush 9999, 3) := by decide +kernel
theorem dX3_post_49 : decode cX3_post 49 = .ok (.invokestatic 64, 3) := by decide +kernel
theorem dX3_post_52 : decode cX3_post 52 = .ok (.ifCond .eq 18, 3) := by decide +kernel
theorem dX3_post_55 : decode cX3_post 55 = .ok (.iload 6, 2) := by decide +kernel
theorem dX3_post_57 : decode cX3_post 57 = .ok (.iconst 0, 1) := by decide +kernel
theorem dX3_post_58 : decode cX3_post 58 = .ok (.bipush 30, 2) := by decide +kernel
theorem dX3_post_60 : decode cX3_post 60 = .ok (.invokestatic 64, 3) := by decide +kernel
theorem dX3_post_63 : decode cX3_post 63 = .ok (.ifCond .eq 7, 3) := by decide +kernel
theorem dX3_post_66 : decode cX3_post 66 = .ok (.iconst 1, 1) := by decide +kernel
theorem dX3_post_67 : decode cX3_post 67 = .ok (.goto 4, 3) := by decide +kernel
theorem dX3_post_70 : decode cX3_post 70 = .ok (.iconst 0, 1) := by decide +kernel
theorem dX3_post_71 : decode cX3_post 71 = .ok (.istore 7, 2) := by decide +kernel
theorem dX3_post_73 : decode cX3_post 73 = .ok (.iload 7, 2) := by decide +kernel
theorem dX3_post_75 : decode cX3_post 75 = .ok (.ifCond .ne 9, 3) := by decide +kernel
theorem dX3_post_78 : decode cX3_post 78 = .ok (.aload_n 0, 1) := by decide +kernel
theorem dX3_post_79 : decode cX3_post 79 = .ok (.iconst 1, 1) := by decide +kernel
theorem dX3_post_80 : decode cX3_post 80 = .ok (.invokevirtual 96, 3) := by decide +kernel
theorem dX3_post_83 : decode cX3_post 83 = .ok (.ireturn, 1) := by decide +kernel
theorem dX3_post_84 : decode cX3_post 84 = .ok (.aload_n 0, 1) := by decide +kernel
theorem dX3_post_85 : decode cX3_post 85 = .ok (.iload_n 2, 1) := by decide +kernel
theorem dX3_post_86 : decode cX3_post 86 = .ok (.invokevirtual 87, 3) := by decide +kernel
theorem dX3_post_89 : decode cX3_post 89 = .ok (.istore 8, 2) := by decide +kernel
theorem dX3_post_91 : decode cX3_post 91 = .ok (.aload_n 0, 1) := by decide +kernel
theorem dX3_post_92 : decode cX3_post 92 = .ok (.iload 8, 2) := by decide +kernel
theorem dX3_post_94 : decode cX3_post 94 = .ok (.iconst (-1), 1) := by decide +kernel
theorem dX3_post_95 : decode cX3_post 95 = .ok (.if_icmp .ne 16, 3) := by decide +kernel
theorem dX3_post_98 : decode cX3_post 98 = .ok (.aload_n 0, 1) := by decide +kernel
theorem dX3_post_99 : decode cX3_post 99 = .ok (.getfield 68, 3) := by decide +kernel
theorem dX3_post_102 : decode cX3_post 102 = .ok (.bipush 80, 2) := by decide +kernel
theorem dX3_post_104 : decode cX3_post 104 = .ok (.if_icmp .ne 7, 3) := by decide +kernel
theorem dX3_post_107 : decode cX3_post 107 = .ok (.iconst 2, 1) := by decide +kernel
theorem dX3_post_108 : decode cX3_post 108 = .ok (.goto 4, 3) := by decide +kernel
theorem dX3_post_111 : decode cX3_post 111 = .ok (.iconst 0, 1) := by decide +kernel
theorem dX3_post_112 : decode cX3_post 112 = .ok (.putfield 57, 3) := by decide +kernel
theorem dX3_post_115 : decode cX3_post 115 = .ok (.aload_n 0, 1) := by decide +kernel
theorem dX3_post_116 : decode cX3_post 116 = .ok (.getfield 57, 3) := by decide +kernel
theorem dX3_post_119 : decode cX3_post 119 = .ok (.ifCond .le 5, 3) := by decide +kernel
theorem dX3_post_122 : decode cX3_post 122 = .ok (.iconst 0, 1) := by decide +kernel
theorem dX3_post_123 : decode cX3_post 123 = .ok (.ireturn, 1) := by decide +kernel
theorem dX3_post_124 : decode cX3_post 124 = .ok (.iload 8, 2) := by decide +kernel
theorem dX3_post_126 : decode cX3_post 126 = .ok (.iconst (-1), 1) := by decide +kernel
theorem dX3_post_127 : decode cX3_post 127 = .ok (.if_icmp .ne 24, 3) := by decide +kernel
theorem dX3_post_130 : decode cX3_post 130 = .ok (.aload_n 0, 1) := by decide +kernel
theorem dX3_post_131 : decode cX3_post 131 = .ok (.iload_n 1, 1) := by decide +kernel
theorem dX3_post_132 : decode cX3_post 132 = .ok (.iload_n 2, 1) := by decide +kernel
theorem dX3_post_133 : decode cX3_post 133 = .ok (.iload_n 3, 1) := by decide +kernel
theorem dX3_post_134 : decode cX3_post 134 = .ok (.iload 4, 2) := by decide +kernel
theorem dX3_post_136 : decode cX3_post 136 = .ok (.iload 5, 2) := by decide +kernel
theorem dX3_post_138 : decode cX3_post 138 = .ok (.aload_n 0, 1) := by decide +kernel
theorem dX3_post_139 : decode cX3_post 139 = .ok (.getfield 71, 3) := by decide +kernel
theorem dX3_post_142 : decode cX3_post 142 = .ok (.iload 6, 2) := by decide +kernel
theorem dX3_post_144 : decode cX3_post 144 = .ok (.iadd, 1) := by decide +kernel
theorem dX3_post_145 : decode cX3_post 145 = .ok (.invokevirtual 99, 3) := by decide +kernel
theorem dX3_post_148 : decode cX3_post 148 = .ok (.goto 5, 3) := by decide +kernel
theorem dX3_post_151 : decode cX3_post 151 = .ok (.iload 8, 2) := by decide +kernel
theorem dX3_post_153 : decode cX3_post 153 = .ok (.ireturn, 1) := by decide +kernel
set_option maxRecDepth 20000 in
theorem ggX3_withKey_X3_find : GoodIn wsX3_withKey wsX3_find := goodIn_ca (goodIn_r _ [6, 7, 8, 9, 10, 11, 12, 13, 14, 15, 16, 17, 18, 19, 20, 21, 22, 23, 24, 25, 26, 27] (by decide +kernel) (by decide +kernel)) (goodIn_sub (fun _ h => List.mem_cons_of_mem _ (List.mem_append_right _ h)) (by decide +kernel))
set_option maxRecDepth 20000 in
theorem gX3_withKey_X3_find : GoodIn wsX3_withKey (wsV RX3 87 RX3 yX3_find wsX3_find) := goodIn_app (goodIn_of _ (by decide +kernel)) ggX3_withKey_X3_find
theorem dX3_withKey_0 : decode cX3_withKey 0 = .ok (.aload_n 0, 1) := by decide +kernel
theorem dX3_withKey_1 : decode cX3_withKey 1 = .ok (.iload_n 1, 1) := by decide +kernel
theorem dX3_withKey_2 : decode cX3_withKey 2 = .ok (.invokevirtual 87, 3) := by decide +kernel
theorem dX3_withKey_5 : decode cX3_withKey 5 = .ok (.istore_n 2, 1) := by decide +kernel
theorem dX3_withKey_6 : decode cX3_withKey 6 = .ok (.aload_n 0, 1) := by decide +kernel
theorem dX3_withKey_7 : decode cX3_withKey 7 = .ok (.iload_n 2, 1) := by decide +kernel
theorem dX3_withKey_8 : decode cX3_withKey 8 = .ok (.iconst (-1), 1) := by decide +kernel
theorem dX3_withKey_9 : decode cX3_withKey 9 = .ok (.if_icmp .ne 7, 3) := by decide +kernel
theorem dX3_withKey_12 : decode cX3_withKey 12 = .ok (.iconst 1, 1) := by decide +kernel
theorem dX3_withKey_13 : decode cX3_withKey 13 = .ok (.goto 4, 3) := by decide +kernel
theorem dX3_withKey_16 : decode cX3_withKey 16 = .ok (.iconst 0, 1) := by decide +kernel
theorem dX3_withKey_17 : decode cX3_withKey 17 = .ok (.putfield 57, 3) := by decide +kernel
theorem dX3_withKey_20 : decode cX3_withKey 20 = .ok (.aload_n 0, 1) := by decide +kernel
theorem dX3_withKey_21 : decode cX3_withKey 21 = .ok (.getfield 57, 3) := by decide +kernel
theorem dX3_withKey_24 : decode cX3_withKey 24 = .ok (.ifCond .le 7, 3) := by decide +kernel
theorem dX3_withKey_27 : decode cX3_withKey 27 = .ok (.iconst 0, 1) := by decide +kernel
theorem dX3_withKey_28 : decode cX3_withKey 28 = .ok (.goto 4, 3) := by decide +kernel
theorem dX3_withKey_31 : decode cX3_withKey 31 = .ok (.iload_n 2, 1) := by decide +kernel
theorem dX3_withKey_32 : decode cX3_withKey 32 = .ok (.ireturn, 1) := by decide +kernel
set_option maxRecDepth 20000 in
theorem ggX3_state_X3_noMessage : GoodIn wsX3_state wsX3_noMessage := goodIn_r _ [6, 7, 8, 9, 10, 5, 11, 12, 13, 14, 15, 16, 17, 18, 19, 20, 21, 22, 23, 24, 25, 26, 27, 28, 29, 30] (by decide +kernel) (by decide +kernel)
set_option maxRecDepth 20000 in
theorem gX3_state_X3_noMessage : GoodIn wsX3_state (wsV RX3 103 RX3 yX3_noMessage wsX3_noMessage) := goodIn_app (goodIn_of _ (by decide +kernel)) ggX3_state_X3_noMessage
theorem dX3_state_0 : decode cX3_state 0 = .ok (.aload_n 0, 1) := by decide +kernel
theorem dX3_state_1 : decode cX3_state 1 = .ok (.iload_n 1, 1) := by decide +kernel
theorem dX3_state_2 : decode cX3_state 2 = .ok (.invokevirtual 103, 3) := by decide +kernel
theorem dX3_state_5 : decode cX3_state 5 = .ok (.ifCond .eq 8, 3) := by decide +kernel
theorem dX3_state_8 : decode cX3_state 8 = .ok (.bipush 32, 2) := by decide +kernel
theorem dX3_state_10 : decode cX3_state 10 = .ok (.goto 9, 3) := by decide +kernel
theorem dX3_state_13 : decode cX3_state 13 = .ok (.aload_n 0, 1) := by decide +kernel
theorem dX3_state_14 : decode cX3_state 14 = .ok (.getfield 48, 3) := by decide +kernel
theorem dX3_state_17 : decode cX3_state 17 = .ok (.iload_n 1, 1) := by decide +kernel
theorem dX3_state_18 : decode cX3_state 18 = .ok (.caload, 1) := by decide +kernel
theorem dX3_state_19 : decode cX3_state 19 = .ok (.ireturn, 1) := by decide +kernel
set_option maxRecDepth 20000 in
theorem ggX3_kind_X3_noMessage : GoodIn wsX3_kind wsX3_noMessage := goodIn_r _ [6, 7, 8, 9, 10, 5, 11, 12, 13, 14, 15, 16, 17, 18, 19, 20, 21, 22, 23, 24, 25, 26, 27, 28, 29, 30] (by decide +kernel) (by decide +kernel)
set_option maxRecDepth 20000 in
theorem gX3_kind_X3_noMessage : GoodIn wsX3_kind (wsV RX3 103 RX3 yX3_noMessage wsX3_noMessage) := goodIn_app (goodIn_of _ (by decide +kernel)) ggX3_kind_X3_noMessage
theorem dX3_kind_0 : decode cX3_kind 0 = .ok (.aload_n 0, 1) := by decide +kernel
theorem dX3_kind_1 : decode cX3_kind 1 = .ok (.iload_n 1, 1) := by decide +kernel
theorem dX3_kind_2 : decode cX3_kind 2 = .ok (.invokevirtual 103, 3) := by decide +kernel
theorem dX3_kind_5 : decode cX3_kind 5 = .ok (.ifCond .eq 8, 3) := by decide +kernel
theorem dX3_kind_8 : decode cX3_kind 8 = .ok (.bipush 32, 2) := by decide +kernel
theorem dX3_kind_10 : decode cX3_kind 10 = .ok (.goto 9, 3) := by decide +kernel
theorem dX3_kind_13 : decode cX3_kind 13 = .ok (.aload_n 0, 1) := by decide +kernel
theorem dX3_kind_14 : decode cX3_kind 14 = .ok (.getfield 32, 3) := by decide +kernel
theorem dX3_kind_17 : decode cX3_kind 17 = .ok (.iload_n 1, 1) := by decide +kernel
theorem dX3_kind_18 : decode cX3_kind 18 = .ok (.caload, 1) := by decide +kernel
theorem dX3_kind_19 : decode cX3_kind 19 = .ok (.ireturn, 1) := by decide +kernel
set_option maxRecDepth 20000 in
theorem ggX3_tries_X3_noMessage : GoodIn wsX3_tries wsX3_noMessage := goodIn_r _ [6, 7, 8, 9, 10, 5, 11, 12, 13, 14, 15, 16, 17, 18, 19, 20, 21, 22, 23, 24, 25, 26, 27, 28, 29, 30] (by decide +kernel) (by decide +kernel)
set_option maxRecDepth 20000 in
theorem gX3_tries_X3_noMessage : GoodIn wsX3_tries (wsV RX3 103 RX3 yX3_noMessage wsX3_noMessage) := goodIn_app (goodIn_of _ (by decide +kernel)) ggX3_tries_X3_noMessage
theorem dX3_tries_0 : decode cX3_tries 0 = .ok (.aload_n 0, 1) := by decide +kernel
theorem dX3_tries_1 : decode cX3_tries 1 = .ok (.iload_n 1, 1) := by decide +kernel
theorem dX3_tries_2 : decode cX3_tries 2 = .ok (.invokevirtual 103, 3) := by decide +kernel
theorem dX3_tries_5 : decode cX3_tries 5 = .ok (.ifCond .eq 7, 3) := by decide +kernel
theorem dX3_tries_8 : decode cX3_tries 8 = .ok (.iconst 0, 1) := by decide +kernel
theorem dX3_tries_9 : decode cX3_tries 9 = .ok (.goto 9, 3) := by decide +kernel
theorem dX3_tries_12 : decode cX3_tries 12 = .ok (.aload_n 0, 1) := by decide +kernel
theorem dX3_tries_13 : decode cX3_tries 13 = .ok (.getfield 45, 3) := by decide +kernel
theorem dX3_tries_16 : decode cX3_tries 16 = .ok (.iload_n 1, 1) := by decide +kernel
theorem dX3_tries_17 : decode cX3_tries 17 = .ok (.iaload, 1) := by decide +kernel
theorem dX3_tries_18 : decode cX3_tries 18 = .ok (.ireturn, 1) := by decide +kernel
set_option maxRecDepth 20000 in
theorem ggX3_readyAt_X3_noMessage : GoodIn wsX3_readyAt wsX3_noMessage := goodIn_r _ [8, 9, 2, 10, 11, 7, 12, 13, 14, 15, 16, 17, 18, 19, 20, 21, 22, 23, 24, 25, 26, 27, 28, 29, 30, 31] (by decide +kernel) (by decide +kernel)
set_option maxRecDepth 20000 in
theorem gX3_readyAt_X3_noMessage : GoodIn wsX3_readyAt (wsV RX3 103 RX3 yX3_noMessage wsX3_noMessage) := goodIn_app (goodIn_of _ (by decide +kernel)) ggX3_readyAt_X3_noMessage
theorem dX3_readyAt_0 : decode cX3_readyAt 0 = .ok (.aload_n 0, 1) := by decide +kernel
theorem dX3_readyAt_1 : decode cX3_readyAt 1 = .ok (.iload_n 1, 1) := by decide +kernel
theorem dX3_readyAt_2 : decode cX3_readyAt 2 = .ok (.invokevirtual 103, 3) := by decide +kernel
theorem dX3_readyAt_5 : decode cX3_readyAt 5 = .ok (.ifCond .eq 5, 3) := by decide +kernel
theorem dX3_readyAt_8 : decode cX3_readyAt 8 = .ok (.iconst 0, 1) := by decide +kernel
theorem dX3_readyAt_9 : decode cX3_readyAt 9 = .ok (.ireturn, 1) := by decide +kernel
theorem dX3_readyAt_10 : decode cX3_readyAt 10 = .ok (.aload_n 0, 1) := by decide +kernel
theorem dX3_readyAt_11 : decode cX3_readyAt 11 = .ok (.aload_n 0, 1) := by decide +kernel
theorem dX3_readyAt_12 : decode cX3_readyAt 12 = .ok (.getfield 48, 3) := by decide +kernel
theorem dX3_readyAt_15 : decode cX3_readyAt 15 = .ok (.iload_n 1, 1) := by decide +kernel
theorem dX3_readyAt_16 : decode cX3_readyAt 16 = .ok (.caload, 1) := by decide +kernel
theorem dX3_readyAt_17 : decode cX3_readyAt 17 = .ok (.bipush 119, 2) := by decide +kernel
theorem dX3_readyAt_19 : decode cX3_readyAt 19 = .ok (.if_icmp .ne 7, 3) := by decide +kernel
theorem dX3_readyAt_22 : decode cX3_readyAt 22 = .ok (.iconst 0, 1) := by decide +kernel
theorem dX3_readyAt_23 : decode cX3_readyAt 23 = .ok (.goto 4, 3) := by decide +kernel
theorem dX3_readyAt_26 : decode cX3_readyAt 26 = .ok (.iconst 2, 1) := by decide +kernel
theorem dX3_readyAt_27 : decode cX3_readyAt 27 = .ok (.putfield 57, 3) := by decide +kernel
theorem dX3_readyAt_30 : decode cX3_readyAt 30 = .ok (.aload_n 0, 1) := by decide +kernel
theorem dX3_readyAt_31 : decode cX3_readyAt 31 = .ok (.getfield 57, 3) := by decide +kernel
theorem dX3_readyAt_34 : decode cX3_readyAt 34 = .ok (.ifCond .le 7, 3) := by decide +kernel
theorem dX3_readyAt_37 : decode cX3_readyAt 37 = .ok (.iconst 0, 1) := by decide +kernel
theorem dX3_readyAt_38 : decode cX3_readyAt 38 = .ok (.goto 9, 3) := by decide +kernel
theorem dX3_readyAt_41 : decode cX3_readyAt 41 = .ok (.aload_n 0, 1) := by decide +kernel
theorem dX3_readyAt_42 : decode cX3_readyAt 42 = .ok (.getfield 42, 3) := by decide +kernel
theorem dX3_readyAt_45 : decode cX3_readyAt 45 = .ok (.iload_n 1, 1) := by decide +kernel
theorem dX3_readyAt_46 : decode cX3_readyAt 46 = .ok (.iaload, 1) := by decide +kernel
theorem dX3_readyAt_47 : decode cX3_readyAt 47 = .ok (.ireturn, 1) := by decide +kernel
theorem dX3_isReady_0 : decode cX3_isReady 0 = .ok (.aload_n 0, 1) := by decide +kernel
theorem dX3_isReady_1 : decode cX3_isReady 1 = .ok (.getfield 26, 3) := by decide +kernel
theorem dX3_isReady_4 : decode cX3_isReady 4 = .ok (.iload_n 1, 1) := by decide +kernel
theorem dX3_isReady_5 : decode cX3_isReady 5 = .ok (.iaload, 1) := by decide +kernel
theorem dX3_isReady_6 : decode cX3_isReady 6 = .ok (.iload_n 2, 1) := by decide +kernel
theorem dX3_isReady_7 : decode cX3_isReady 7 = .ok (.if_icmp .ne 31, 3) := by decide +kernel
theorem dX3_isReady_10 : decode cX3_isReady 10 = .ok (.aload_n 0, 1) := by decide +kernel
theorem dX3_isReady_11 : decode cX3_isReady 11 = .ok (.getfield 48, 3) := by decide +kernel
theorem dX3_isReady_14 : decode cX3_isReady 14 = .ok (.iload_n 1, 1) := by decide +kernel
theorem dX3_isReady_15 : decode cX3_isReady 15 = .ok (.caload, 1) := by decide +kernel
theorem dX3_isReady_16 : decode cX3_isReady 16 = .ok (.bipush 119, 2) := by decide +kernel
theorem dX3_isReady_18 : decode cX3_isReady 18 = .ok (.if_icmp .ne 20, 3) := by decide +kernel
theorem dX3_isReady_21 : decode cX3_isReady 21 = .ok (.aload_n 0, 1) := by decide +kernel
theorem dX3_isReady_22 : decode cX3_isReady 22 = .ok (.getfield 42, 3) := by decide +kernel
theorem dX3_isReady_25 : decode cX3_isReady 25 = .ok (.iload_n 1, 1) := by decide +kernel
theorem dX3_isReady_26 : decode cX3_isReady 26 = .ok (.iaload, 1) := by decide +kernel
theorem dX3_isReady_27 : decode cX3_isReady 27 = .ok (.aload_n 0, 1) := by decide +kernel
theorem dX3_isReady_28 : decode cX3_isReady 28 = .ok (.getfield 71, 3) := by decide +kernel
theorem dX3_isReady_31 : decode cX3_isReady 31 = .ok (.if_icmp .gt 7, 3) := by decide +kernel
theorem dX3_isReady_34 : decode cX3_isReady 34 = .ok (.iconst 1, 1) := by decide +kernel
theorem dX3_isReady_35 : decode cX3_isReady 35 = .ok (.goto 4, 3) := by decide +kernel
theorem dX3_isReady_38 : decode cX3_isReady 38 = .ok (.iconst 0, 1) := by decide +kernel
theorem dX3_isReady_39 : decode cX3_isReady 39 = .ok (.ireturn, 1) := by decide +kernel
set_option maxRecDepth 20000 in
theorem ggX3_readyIn_X3_isReady : GoodIn wsX3_readyIn wsX3_isReady := goodIn_ca (goodIn_r _ [6, 7, 8, 9, 10, 11, 12, 13, 14, 15, 16, 17, 18, 19, 20, 21, 22, 23, 24, 25, 26, 27, 28, 29] (by decide +kernel) (by decide +kernel)) (goodIn_sub (fun _ h => List.mem_cons_of_mem _ (List.mem_append_right _ h)) (by decide +kernel))
set_option maxRecDepth 20000 in
theorem gX3_readyIn_X3_isReady : GoodIn wsX3_readyIn (wsV RX3 106 RX3 yX3_isReady wsX3_isReady) := goodIn_app (goodIn_of _ (by decide +kernel)) ggX3_readyIn_X3_isReady
theorem dX3_readyIn_0 : decode cX3_readyIn 0 = .ok (.iconst 0, 1) := by decide +kernel
theorem dX3_readyIn_1 : decode cX3_readyIn 1 = .ok (.istore_n 2, 1) := by decide +kernel
theorem dX3_readyIn_2 : decode cX3_readyIn 2 = .ok (.iconst 0, 1) := by decide +kernel
theorem dX3_readyIn_3 : decode cX3_readyIn 3 = .ok (.istore_n 3, 1) := by decide +kernel
theorem dX3_readyIn_4 : decode cX3_readyIn 4 = .ok (.iload_n 3, 1) := by decide +kernel
theorem dX3_readyIn_5 : decode cX3_readyIn 5 = .ok (.aload_n 0, 1) := by decide +kernel
theorem dX3_readyIn_6 : decode cX3_readyIn 6 = .ok (.getfield 68, 3) := by decide +kernel
theorem dX3_readyIn_9 : decode cX3_readyIn 9 = .ok (.if_icmp .ge 26, 3) := by decide +kernel
theorem dX3_readyIn_12 : decode cX3_readyIn 12 = .ok (.iload_n 2, 1) := by decide +kernel
theorem dX3_readyIn_13 : decode cX3_readyIn 13 = .ok (.aload_n 0, 1) := by decide +kernel
theorem dX3_readyIn_14 : decode cX3_readyIn 14 = .ok (.iload_n 3, 1) := by decide +kernel
theorem dX3_readyIn_15 : decode cX3_readyIn 15 = .ok (.iload_n 1, 1) := by decide +kernel
theorem dX3_readyIn_16 : decode cX3_readyIn 16 = .ok (.invokevirtual 106, 3) := by decide +kernel
theorem dX3_readyIn_19 : decode cX3_readyIn 19 = .ok (.ifCond .eq 7, 3) := by decide +kernel
theorem dX3_readyIn_22 : decode cX3_readyIn 22 = .ok (.iconst 1, 1) := by decide +kernel
theorem dX3_readyIn_23 : decode cX3_readyIn 23 = .ok (.goto 4, 3) := by decide +kernel
theorem dX3_readyIn_26 : decode cX3_readyIn 26 = .ok (.iconst 0, 1) := by decide +kernel
theorem dX3_readyIn_27 : decode cX3_readyIn 27 = .ok (.iadd, 1) := by decide +kernel
theorem dX3_readyIn_28 : decode cX3_readyIn 28 = .ok (.istore_n 2, 1) := by decide +kernel
theorem dX3_readyIn_29 : decode cX3_readyIn 29 = .ok (.iinc 3 1, 3) := by decide +kernel
theorem dX3_readyIn_32 : decode cX3_readyIn 32 = .ok (.goto (-28), 3) := by decide +kernel
theorem dX3_readyIn_35 : decode cX3_readyIn 35 = .ok (.iload_n 2, 1) := by decide +kernel
theorem dX3_readyIn_36 : decode cX3_readyIn 36 = .ok (.ireturn, 1) := by decide +kernel
set_option maxRecDepth 20000 in
theorem ggX3_ready_X3_in : GoodIn wsX3_ready wsX3_in := goodIn_r _ [5] (by decide +kernel) (by decide +kernel)
set_option maxRecDepth 20000 in
theorem gX3_ready_X3_in : GoodIn wsX3_ready (va_wsS RX3 64 yX3_in wsX3_in) := goodIn_app (goodIn_of _ (by decide +kernel)) ggX3_ready_X3_in
set_option maxRecDepth 20000 in
theorem ggX3_ready_X3_readyIn : GoodIn wsX3_ready wsX3_readyIn := goodIn_ca (goodIn_r _ [9, 10, 11, 12, 13, 4, 14, 15, 16, 17, 18, 19, 20, 21, 22, 23, 24, 25, 26, 27, 28, 29, 30, 31, 32, 33, 34, 35, 36, 37] (by decide +kernel) (by decide +kernel)) (goodIn_sub (fun _ h => List.mem_cons_of_mem _ (List.mem_append_right _ h)) (by decide +kernel))
set_option maxRecDepth 20000 in
theorem gX3_ready_X3_readyIn : GoodIn wsX3_ready (wsV RX3 110 RX3 yX3_readyIn wsX3_readyIn) := goodIn_app (goodIn_of _ (by decide +kernel)) ggX3_ready_X3_readyIn
theorem dX3_ready_0 : decode cX3_ready 0 = .ok (.aload_n 0, 1) := by decide +kernel
theorem dX3_ready_1 : decode cX3_ready 1 = .ok (.iload_n 1, 1) := by decide +kernel
theorem dX3_ready_2 : decode cX3_ready 2 = .ok (.iconst 0, 1) := by decide +kernel
theorem dX3_ready_3 : decode cX3_ready 3 = .ok (.iconst 2, 1) := by decide +kernel
theorem dX3_ready_4 : decode cX3_ready 4 = .ok (.invokestatic 64, 3) := by decide +kernel
theorem dX3_ready_7 : decode cX3_ready 7 = .ok (.ifCond .eq 7, 3) := by decide +kernel
theorem dX3_ready_10 : decode cX3_ready 10 = .ok (.iconst 0, 1) := by decide +kernel
theorem dX3_ready_11 : decode cX3_ready 11 = .ok (.goto 4, 3) := by decide +kernel
theorem dX3_ready_14 : decode cX3_ready 14 = .ok (.iconst 1, 1) := by decide +kernel
theorem dX3_ready_15 : decode cX3_ready 15 = .ok (.putfield 57, 3) := by decide +kernel
theorem dX3_ready_18 : decode cX3_ready 18 = .ok (.aload_n 0, 1) := by decide +kernel
theorem dX3_ready_19 : decode cX3_ready 19 = .ok (.getfield 57, 3) := by decide +kernel
theorem dX3_ready_22 : decode cX3_ready 22 = .ok (.ifCond .le 7, 3) := by decide +kernel
theorem dX3_ready_25 : decode cX3_ready 25 = .ok (.iconst 0, 1) := by decide +kernel
theorem dX3_ready_26 : decode cX3_ready 26 = .ok (.goto 8, 3) := by decide +kernel
theorem dX3_ready_29 : decode cX3_ready 29 = .ok (.aload_n 0, 1) := by decide +kernel
theorem dX3_ready_30 : decode cX3_ready 30 = .ok (.iload_n 1, 1) := by decide +kernel
theorem dX3_ready_31 : decode cX3_ready 31 = .ok (.invokevirtual 110, 3) := by decide +kernel
theorem dX3_ready_34 : decode cX3_ready 34 = .ok (.ireturn, 1) := by decide +kernel
set_option maxRecDepth 20000 in
theorem ggX3_place_X3_isReady : GoodIn wsX3_place wsX3_isReady := goodIn_ca (goodIn_r _ [7, 8, 9, 2, 10, 11, 12, 13, 14, 15, 16, 17, 18, 19, 20, 21, 22, 23, 24, 25, 26, 27, 28, 29] (by decide +kernel) (by decide +kernel)) (goodIn_sub (fun _ h => List.mem_cons_of_mem _ (List.mem_append_right _ h)) (by decide +kernel))
set_option maxRecDepth 20000 in
theorem gX3_place_X3_isReady : GoodIn wsX3_place (wsV RX3 106 RX3 yX3_isReady wsX3_isReady) := goodIn_app (goodIn_of _ (by decide +kernel)) ggX3_place_X3_isReady
theorem dX3_place_0 : decode cX3_place 0 = .ok (.iconst 0, 1) := by decide +kernel
theorem dX3_place_1 : decode cX3_place 1 = .ok (.istore_n 3, 1) := by decide +kernel
theorem dX3_place_2 : decode cX3_place 2 = .ok (.iload_n 3, 1) := by decide +kernel
theorem dX3_place_3 : decode cX3_place 3 = .ok (.aload_n 0, 1) := by decide +kernel
theorem dX3_place_4 : decode cX3_place 4 = .ok (.getfield 68, 3) := by decide +kernel
theorem dX3_place_7 : decode cX3_place 7 = .ok (.if_icmp .ge 114, 3) := by decide +kernel
theorem dX3_place_10 : decode cX3_place 10 = .ok (.iconst 0, 1) := by decide +kernel
theorem dX3_place_11 : decode cX3_place 11 = .ok (.istore 4, 2) := by decide +kernel
theorem dX3_place_13 : decode cX3_place 13 = .ok (.iconst 0, 1) := by decide +kernel
theorem dX3_place_14 : decode cX3_place 14 = .ok (.istore 5, 2) := by decide +kernel
theorem dX3_place_16 : decode cX3_place 16 = .ok (.iload 5, 2) := by decide +kernel
theorem dX3_place_18 : decode cX3_place 18 = .ok (.aload_n 0, 1) := by decide +kernel
theorem dX3_place_19 : decode cX3_place 19 = .ok (.getfield 68, 3) := by decide +kernel
theorem dX3_place_22 : decode cX3_place 22 = .ok (.if_icmp .ge 76, 3) := by decide +kernel
theorem dX3_place_25 : decode cX3_place 25 = .ok (.aload_n 0, 1) := by decide +kernel
theorem dX3_place_26 : decode cX3_place 26 = .ok (.iload_n 3, 1) := by decide +kernel
theorem dX3_place_27 : decode cX3_place 27 = .ok (.iload_n 1, 1) := by decide +kernel
theorem dX3_place_28 : decode cX3_place 28 = .ok (.invokevirtual 106, 3) := by decide +kernel
theorem dX3_place_31 : decode cX3_place 31 = .ok (.ifCond .eq 67, 3) := by decide +kernel
theorem dX3_place_34 : decode cX3_place 34 = .ok (.iload 4, 2) := by decide +kernel
theorem dX3_place_36 : decode cX3_place 36 = .ok (.aload_n 0, 1) := by decide +kernel
theorem dX3_place_37 : decode cX3_place 37 = .ok (.iload 5, 2) := by decide +kernel
theorem dX3_place_39 : decode cX3_place 39 = .ok (.iload_n 1, 1) := by decide +kernel
theorem dX3_place_40 : decode cX3_place 40 = .ok (.invokevirtual 106, 3) := by decide +kernel
theorem dX3_place_43 : decode cX3_place 43 = .ok (.ifCond .eq 45, 3) := by decide +kernel
theorem dX3_place_46 : decode cX3_place 46 = .ok (.aload_n 0, 1) := by decide +kernel
theorem dX3_place_47 : decode cX3_place 47 = .ok (.getfield 42, 3) := by decide +kernel
theorem dX3_place_50 : decode cX3_place 50 = .ok (.iload 5, 2) := by decide +kernel
theorem dX3_place_52 : decode cX3_place 52 = .ok (.iaload, 1) := by decide +kernel
theorem dX3_place_53 : decode cX3_place 53 = .ok (.aload_n 0, 1) := by decide +kernel
theorem dX3_place_54 : decode cX3_place 54 = .ok (.getfield 42, 3) := by decide +kernel
theorem dX3_place_57 : decode cX3_place 57 = .ok (.iload_n 3, 1) := by decide +kernel
theorem dX3_place_58 : decode cX3_place 58 = .ok (.iaload, 1) := by decide +kernel
theorem dX3_place_59 : decode cX3_place 59 = .ok (.if_icmp .lt 25, 3) := by decide +kernel
theorem dX3_place_62 : decode cX3_place 62 = .ok (.aload_n 0, 1) := by decide +kernel
theorem dX3_place_63 : decode cX3_place 63 = .ok (.getfield 42, 3) := by decide +kernel
theorem dX3_place_66 : decode cX3_place 66 = .ok (.iload 5, 2) := by decide +kernel
theorem dX3_place_68 : decode cX3_place 68 = .ok (.iaload, 1) := by decide +kernel
theorem dX3_place_69 : decode cX3_place 69 = .ok (.aload_n 0, 1) := by decide +kernel
theorem dX3_place_70 : decode cX3_place 70 = .ok (.getfield 42, 3) := by decide +kernel
theorem dX3_place_73 : decode cX3_place 73 = .ok (.iload_n 3, 1) := by decide +kernel
theorem dX3_place_74 : decode cX3_place 74 = .ok (.iaload, 1) := by decide +kernel
theorem dX3_place_75 : decode cX3_place 75 = .ok (.if_icmp .ne 13, 3) := by decide +kernel
theorem dX3_place_78 : decode cX3_place 78 = .ok (.iload 5, 2) := by decide +kernel
theorem dX3_place_80 : decode cX3_place 80 = .ok (.iload_n 3, 1) := by decide +kernel
theorem dX3_place_81 : decode cX3_place 81 = .ok (.if_icmp .ge 7, 3) := by decide +kernel
theorem dX3_place_84 : decode cX3_place 84 = .ok (.iconst 1, 1) := by decide +kernel
theorem dX3_place_85 : decode cX3_place 85 = .ok (.goto 4, 3) := by decide +kernel
theorem dX3_place_88 : decode cX3_place 88 = .ok (.iconst 0, 1) := by decide +kernel
theorem dX3_place_89 : decode cX3_place 89 = .ok (.iadd, 1) := by decide +kernel
theorem dX3_place_90 : decode cX3_place 90 = .ok (.istore 4, 2) := by decide +kernel
theorem dX3_place_92 : decode cX3_place 92 = .ok (.iinc 5 1, 3) := by decide +kernel
theorem dX3_place_95 : decode cX3_place 95 = .ok (.goto (-79), 3) := by decide +kernel
theorem dX3_place_98 : decode cX3_place 98 = .ok (.aload_n 0, 1) := by decide +kernel
theorem dX3_place_99 : decode cX3_place 99 = .ok (.iload_n 3, 1) := by decide +kernel
theorem dX3_place_100 : decode cX3_place 100 = .ok (.iload_n 1, 1) := by decide +kernel
theorem dX3_place_101 : decode cX3_place 101 = .ok (.invokevirtual 106, 3) := by decide +kernel
theorem dX3_place_104 : decode cX3_place 104 = .ok (.ifCond .eq 11, 3) := by decide +kernel
theorem dX3_place_107 : decode cX3_place 107 = .ok (.iload 4, 2) := by decide +kernel
theorem dX3_place_109 : decode cX3_place 109 = .ok (.iload_n 2, 1) := by decide +kernel
theorem dX3_place_110 : decode cX3_place 110 = .ok (.if_icmp .ne 5, 3) := by decide +kernel
theorem dX3_place_113 : decode cX3_place 113 = .ok (.iload_n 3, 1) := by decide +kernel
theorem dX3_place_114 : decode cX3_place 114 = .ok (.ireturn, 1) := by decide +kernel
theorem dX3_place_115 : decode cX3_place 115 = .ok (.iinc 3 1, 3) := by decide +kernel
theorem dX3_place_118 : decode cX3_place 118 = .ok (.goto (-116), 3) := by decide +kernel
theorem dX3_place_121 : decode cX3_place 121 = .ok (.iconst (-1), 1) := by decide +kernel
theorem dX3_place_122 : decode cX3_place 122 = .ok (.ireturn, 1) := by decide +kernel
set_option maxRecDepth 20000 in
theorem ggX3_readyAtPlace_X3_in : GoodIn wsX3_readyAtPlace wsX3_in := goodIn_r _ [5] (by decide +kernel) (by decide +kernel)
set_option maxRecDepth 20000 in
theorem gX3_readyAtPlace_X3_in : GoodIn wsX3_readyAtPlace (va_wsS RX3 64 yX3_in wsX3_in) := goodIn_app (goodIn_of _ (by decide +kernel)) ggX3_readyAtPlace_X3_in
set_option maxRecDepth 20000 in
theorem ggX3_readyAtPlace_X3_raises : GoodIn wsX3_readyAtPlace wsX3_raises := goodIn_r _ [9, 1, 23, 24, 25, 26, 27, 28, 29, 30, 31, 32, 33, 34, 35, 36, 37, 38, 39, 40, 41] (by decide +kernel) (by decide +kernel)
set_option maxRecDepth 20000 in
theorem gX3_readyAtPlace_X3_raises : GoodIn wsX3_readyAtPlace (wsV RX3 96 RX3 yX3_raises wsX3_raises) := goodIn_app (goodIn_of _ (by decide +kernel)) ggX3_readyAtPlace_X3_raises
set_option maxRecDepth 20000 in
theorem ggX3_readyAtPlace_X3_place : GoodIn wsX3_readyAtPlace wsX3_place := goodIn_ca (goodIn_r _ [13, 14, 15, 16, 17, 18, 4, 19, 20, 21, 22, 23, 24, 25, 26, 27, 28, 29, 30, 31, 32, 33, 34, 35, 36, 37, 38, 39, 40, 41] (by decide +kernel) (by decide +kernel)) (goodIn_sub (fun _ h => List.mem_cons_of_mem _ (List.mem_append_right _ h)) (by decide +kernel))
set_option maxRecDepth 20000 in
theorem gX3_readyAtPlace_X3_place : GoodIn wsX3_readyAtPlace (wsV RX3 113 RX3 yX3_place wsX3_place) := goodIn_app (goodIn_of _ (by decide +kernel)) ggX3_readyAtPlace_X3_place
theorem dX3_readyAtPlace_0 : decode cX3_readyAtPlace 0 = .ok (.iload_n 1, 1) := by decide +kernel
theorem dX3_readyAtPlace_1 : decode cX3_readyAtPlace 1 = .ok (.iconst 0, 1) := by decide +kernel
theorem dX3_readyAtPlace_2 : decode cX3_readyAtPlace 2 = .ok (.iconst 2, 1) := by decide +kernel
theorem dX3_readyAtPlace_3 : decode cX3_readyAtPlace 3 = .ok (.invokestatic 64, 3) := by decide +kernel
theorem dX3_readyAtPlace_6 : decode cX3_readyAtPlace 6 = .ok (.ifCond .ne 9, 3) := by decide +kernel
theorem dX3_readyAtPlace_9 : decode cX3_readyAtPlace 9 = .ok (.aload_n 0, 1) := by decide +kernel
theorem dX3_readyAtPlace_10 : decode cX3_readyAtPlace 10 = .ok (.iconst 1, 1) := by decide +kernel
theorem dX3_readyAtPlace_11 : decode cX3_readyAtPlace 11 = .ok (.invokevirtual 96, 3) := by decide +kernel
theorem dX3_readyAtPlace_14 : decode cX3_readyAtPlace 14 = .ok (.ireturn, 1) := by decide +kernel
theorem dX3_readyAtPlace_15 : decode cX3_readyAtPlace 15 = .ok (.aload_n 0, 1) := by decide +kernel
theorem dX3_readyAtPlace_16 : decode cX3_readyAtPlace 16 = .ok (.iload_n 1, 1) := by decide +kernel
theorem dX3_readyAtPlace_17 : decode cX3_readyAtPlace 17 = .ok (.iload_n 2, 1) := by decide +kernel
theorem dX3_readyAtPlace_18 : decode cX3_readyAtPlace 18 = .ok (.invokevirtual 113, 3) := by decide +kernel
theorem dX3_readyAtPlace_21 : decode cX3_readyAtPlace 21 = .ok (.istore_n 3, 1) := by decide +kernel
theorem dX3_readyAtPlace_22 : decode cX3_readyAtPlace 22 = .ok (.aload_n 0, 1) := by decide +kernel
theorem dX3_readyAtPlace_23 : decode cX3_readyAtPlace 23 = .ok (.iload_n 3, 1) := by decide +kernel
theorem dX3_readyAtPlace_24 : decode cX3_readyAtPlace 24 = .ok (.iconst (-1), 1) := by decide +kernel
theorem dX3_readyAtPlace_25 : decode cX3_readyAtPlace 25 = .ok (.if_icmp .ne 7, 3) := by decide +kernel
theorem dX3_readyAtPlace_28 : decode cX3_readyAtPlace 28 = .ok (.iconst 2, 1) := by decide +kernel
theorem dX3_readyAtPlace_29 : decode cX3_readyAtPlace 29 = .ok (.goto 4, 3) := by decide +kernel
theorem dX3_readyAtPlace_32 : decode cX3_readyAtPlace 32 = .ok (.iconst 0, 1) := by decide +kernel
theorem dX3_readyAtPlace_33 : decode cX3_readyAtPlace 33 = .ok (.putfield 57, 3) := by decide +kernel
theorem dX3_readyAtPlace_36 : decode cX3_readyAtPlace 36 = .ok (.aload_n 0, 1) := by decide +kernel
theorem dX3_readyAtPlace_37 : decode cX3_readyAtPlace 37 = .ok (.getfield 57, 3) := by decide +kernel
theorem dX3_readyAtPlace_40 : decode cX3_readyAtPlace 40 = .ok (.ifCond .le 7, 3) := by decide +kernel
theorem dX3_readyAtPlace_43 : decode cX3_readyAtPlace 43 = .ok (.iconst 0, 1) := by decide +kernel
theorem dX3_readyAtPlace_44 : decode cX3_readyAtPlace 44 = .ok (.goto 4, 3) := by decide +kernel
theorem dX3_readyAtPlace_47 : decode cX3_readyAtPlace 47 = .ok (.iload_n 3, 1) := by decide +kernel
theorem dX3_readyAtPlace_48 : decode cX3_readyAtPlace 48 = .ok (.ireturn, 1) := by decide +kernel
theorem dX3_taken_0 : decode cX3_taken 0 = .ok (.iconst 0, 1) := by decide +kernel
theorem dX3_taken_1 : decode cX3_taken 1 = .ok (.istore_n 2, 1) := by decide +kernel
theorem dX3_taken_2 : decode cX3_taken 2 = .ok (.iconst 0, 1) := by decide +kernel
theorem dX3_taken_3 : decode cX3_taken 3 = .ok (.istore_n 3, 1) := by decide +kernel
theorem dX3_taken_4 : decode cX3_taken 4 = .ok (.iload_n 3, 1) := by decide +kernel
theorem dX3_taken_5 : decode cX3_taken 5 = .ok (.aload_n 0, 1) := by decide +kernel
theorem dX3_taken_6 : decode cX3_taken 6 = .ok (.getfield 68, 3) := by decide +kernel
theorem dX3_taken_9 : decode cX3_taken 9 = .ok (.if_icmp .ge 38, 3) := by decide +kernel
theorem dX3_taken_12 : decode cX3_taken 12 = .ok (.iload_n 2, 1) := by decide +kernel
theorem dX3_taken_13 : decode cX3_taken 13 = .ok (.aload_n 0, 1) := by decide +kernel
theorem dX3_taken_14 : decode cX3_taken 14 = .ok (.getfield 48, 3) := by decide +kernel
theorem dX3_taken_17 : decode cX3_taken 17 = .ok (.iload_n 3, 1) := by decide +kernel
theorem dX3_taken_18 : decode cX3_taken 18 = .ok (.caload, 1) := by decide +kernel
theorem dX3_taken_19 : decode cX3_taken 19 = .ok (.bipush 116, 2) := by decide +kernel
theorem dX3_taken_21 : decode cX3_taken 21 = .ok (.if_icmp .ne 17, 3) := by decide +kernel
theorem dX3_taken_24 : decode cX3_taken 24 = .ok (.aload_n 0, 1) := by decide +kernel
theorem dX3_taken_25 : decode cX3_taken 25 = .ok (.getfield 51, 3) := by decide +kernel
theorem dX3_taken_28 : decode cX3_taken 28 = .ok (.iload_n 3, 1) := by decide +kernel
theorem dX3_taken_29 : decode cX3_taken 29 = .ok (.iaload, 1) := by decide +kernel
theorem dX3_taken_30 : decode cX3_taken 30 = .ok (.iload_n 1, 1) := by decide +kernel
theorem dX3_taken_31 : decode cX3_taken 31 = .ok (.if_icmp .ne 7, 3) := by decide +kernel
theorem dX3_taken_34 : decode cX3_taken 34 = .ok (.iconst 1, 1) := by decide +kernel
theorem dX3_taken_35 : decode cX3_taken 35 = .ok (.goto 4, 3) := by decide +kernel
theorem dX3_taken_38 : decode cX3_taken 38 = .ok (.iconst 0, 1) := by decide +kernel
theorem dX3_taken_39 : decode cX3_taken 39 = .ok (.iadd, 1) := by decide +kernel
theorem dX3_taken_40 : decode cX3_taken 40 = .ok (.istore_n 2, 1) := by decide +kernel
theorem dX3_taken_41 : decode cX3_taken 41 = .ok (.iinc 3 1, 3) := by decide +kernel
theorem dX3_taken_44 : decode cX3_taken 44 = .ok (.goto (-40), 3) := by decide +kernel
theorem dX3_taken_47 : decode cX3_taken 47 = .ok (.iload_n 2, 1) := by decide +kernel
theorem dX3_taken_48 : decode cX3_taken 48 = .ok (.ireturn, 1) := by decide +kernel
set_option maxRecDepth 20000 in
theorem ggX3_take_X3_in : GoodIn wsX3_take wsX3_in := goodIn_r _ [9] (by decide +kernel) (by decide +kernel)
set_option maxRecDepth 20000 in
theorem gX3_take_X3_in : GoodIn wsX3_take (va_wsS RX3 64 yX3_in wsX3_in) := goodIn_app (goodIn_of _ (by decide +kernel)) ggX3_take_X3_in
set_option maxRecDepth 20000 in
theorem ggX3_take_X3_raises : GoodIn wsX3_take wsX3_raises := goodIn_r _ [13, 1, 29, 30, 31, 32, 33, 34, 35, 36, 37, 38, 39, 40, 41, 42, 43, 44, 45, 46, 47] (by decide +kernel) (by decide +kernel)
set_option maxRecDepth 20000 in
theorem gX3_take_X3_raises : GoodIn wsX3_take (wsV RX3 96 RX3 yX3_raises wsX3_raises) := goodIn_app (goodIn_of _ (by decide +kernel)) ggX3_take_X3_raises
set_option maxRecDepth 20000 in
theorem ggX3_take_X3_place : GoodIn wsX3_take wsX3_place := goodIn_ca (goodIn_r _ [17, 18, 19, 20, 21, 22, 8, 23, 24, 2, 5, 29, 30, 31, 32, 33, 34, 35, 36, 37, 38, 39, 40, 41, 42, 43, 44, 45, 46, 47] (by decide +kernel) (by decide +kernel)) (goodIn_sub (fun _ h => List.mem_cons_of_mem _ (List.mem_append_right _ h)) (by decide +kernel))
set_option maxRecDepth 20000 in
theorem gX3_take_X3_place : GoodIn wsX3_take (wsV RX3 113 RX3 yX3_place wsX3_place) := goodIn_app (goodIn_of _ (by decide +kernel)) ggX3_take_X3_place
set_option maxRecDepth 20000 in
theorem ggX3_take_X3_taken : GoodIn wsX3_take wsX3_taken := goodIn_ca (goodIn_r _ [28, 18, 2, 3, 29, 30, 31, 32, 33, 34, 35, 36, 37, 38, 39, 40, 41, 42, 43, 44, 45, 46, 47] (by decide +kernel) (by decide +kernel)) (goodIn_sub (fun _ h => List.mem_cons_of_mem _ (List.mem_append_right _ h)) (by decide +kernel))
set_option maxRecDepth 20000 in
theorem gX3_take_X3_taken : GoodIn wsX3_take (wsV RX3 116 RX3 yX3_taken wsX3_taken) := goodIn_app (goodIn_of _ (by decide +kernel)) ggX3_take_X3_taken
theorem dX3_take_0 : decode cX3_take 0 = .ok (.iload_n 1, 1) := by decide +kernel
theorem dX3_take_1 : decode cX3_take 1 = .ok (.iconst 0, 1) := by decide +kernel
theorem dX3_take_2 : decode cX3_take 2 = .ok (.iconst 3, 1) := by decide +kernel
theorem dX3_take_3 : decode cX3_take 3 = .ok (.invokestatic 64, 3) := by decide +kernel
theorem dX3_take_6 : decode cX3_take 6 = .ok (.ifCond .eq 12, 3) := by decide +kernel
theorem dX3_take_9 : decode cX3_take 9 = .ok (.iload_n 2, 1) := by decide +kernel
theorem dX3_take_10 : decode cX3_take 10 = .ok (.iconst 0, 1) := by decide +kernel
theorem dX3_take_11 : decode cX3_take 11 = .ok (.iconst 2, 1) := by decide +kernel
theorem dX3_take_12 : decode cX3_take 12 = .ok (.invokestatic 64, 3) := by decide +kernel
theorem dX3_take_15 : decode cX3_take 15 = .ok (.ifCond .ne 9, 3) := by decide +kernel
theorem dX3_take_18 : decode cX3_take 18 = .ok (.aload_n 0, 1) := by decide +kernel
theorem dX3_take_19 : decode cX3_take 19 = .ok (.iconst 1, 1) := by decide +kernel
theorem dX3_take_20 : decode cX3_take 20 = .ok (.invokevirtual 96, 3) := by decide +kernel
theorem dX3_take_23 : decode cX3_take 23 = .ok (.ireturn, 1) := by decide +kernel
theorem dX3_take_24 : decode cX3_take 24 = .ok (.aload_n 0, 1) := by decide +kernel
theorem dX3_take_25 : decode cX3_take 25 = .ok (.iload_n 2, 1) := by decide +kernel
theorem dX3_take_26 : decode cX3_take 26 = .ok (.iconst 0, 1) := by decide +kernel
theorem dX3_take_27 : decode cX3_take 27 = .ok (.invokevirtual 113, 3) := by decide +kernel
theorem dX3_take_30 : decode cX3_take 30 = .ok (.istore_n 3, 1) := by decide +kernel
theorem dX3_take_31 : decode cX3_take 31 = .ok (.aload_n 0, 1) := by decide +kernel
theorem dX3_take_32 : decode cX3_take 32 = .ok (.aload_n 0, 1) := by decide +kernel
theorem dX3_take_33 : decode cX3_take 33 = .ok (.iload_n 1, 1) := by decide +kernel
theorem dX3_take_34 : decode cX3_take 34 = .ok (.invokevirtual 116, 3) := by decide +kernel
theorem dX3_take_37 : decode cX3_take 37 = .ok (.iconst 2, 1) := by decide +kernel
theorem dX3_take_38 : decode cX3_take 38 = .ok (.if_icmp .ne 7, 3) := by decide +kernel
theorem dX3_take_41 : decode cX3_take 41 = .ok (.iconst 2, 1) := by decide +kernel
theorem dX3_take_42 : decode cX3_take 42 = .ok (.goto 13, 3) := by decide +kernel
theorem dX3_take_45 : decode cX3_take 45 = .ok (.iload_n 3, 1) := by decide +kernel
theorem dX3_take_46 : decode cX3_take 46 = .ok (.iconst (-1), 1) := by decide +kernel
theorem dX3_take_47 : decode cX3_take 47 = .ok (.if_icmp .ne 7, 3) := by decide +kernel
theorem dX3_take_50 : decode cX3_take 50 = .ok (.iconst 3, 1) := by decide +kernel
theorem dX3_take_51 : decode cX3_take 51 = .ok (.goto 4, 3) := by decide +kernel
theorem dX3_take_54 : decode cX3_take 54 = .ok (.iconst 0, 1) := by decide +kernel
theorem dX3_take_55 : decode cX3_take 55 = .ok (.putfield 57, 3) := by decide +kernel
theorem dX3_take_58 : decode cX3_take 58 = .ok (.aload_n 0, 1) := by decide +kernel
theorem dX3_take_59 : decode cX3_take 59 = .ok (.getfield 57, 3) := by decide +kernel
theorem dX3_take_62 : decode cX3_take 62 = .ok (.ifCond .le 5, 3) := by decide +kernel
theorem dX3_take_65 : decode cX3_take 65 = .ok (.iconst 0, 1) := by decide +kernel
theorem dX3_take_66 : decode cX3_take 66 = .ok (.ireturn, 1) := by decide +kernel
theorem dX3_take_67 : decode cX3_take 67 = .ok (.aload_n 0, 1) := by decide +kernel
theorem dX3_take_68 : decode cX3_take 68 = .ok (.getfield 48, 3) := by decide +kernel
theorem dX3_take_71 : decode cX3_take 71 = .ok (.iload_n 3, 1) := by decide +kernel
theorem dX3_take_72 : decode cX3_take 72 = .ok (.bipush 116, 2) := by decide +kernel
theorem dX3_take_74 : decode cX3_take 74 = .ok (.castore, 1) := by decide +kernel
theorem dX3_take_75 : decode cX3_take 75 = .ok (.aload_n 0, 1) := by decide +kernel
theorem dX3_take_76 : decode cX3_take 76 = .ok (.getfield 51, 3) := by decide +kernel
theorem dX3_take_79 : decode cX3_take 79 = .ok (.iload_n 3, 1) := by decide +kernel
theorem dX3_take_80 : decode cX3_take 80 = .ok (.iload_n 1, 1) := by decide +kernel
theorem dX3_take_81 : decode cX3_take 81 = .ok (.iastore, 1) := by decide +kernel
theorem dX3_take_82 : decode cX3_take 82 = .ok (.aload_n 0, 1) := by decide +kernel
theorem dX3_take_83 : decode cX3_take 83 = .ok (.getfield 54, 3) := by decide +kernel
theorem dX3_take_86 : decode cX3_take 86 = .ok (.iload_n 3, 1) := by decide +kernel
theorem dX3_take_87 : decode cX3_take 87 = .ok (.aload_n 0, 1) := by decide +kernel
theorem dX3_take_88 : decode cX3_take 88 = .ok (.getfield 71, 3) := by decide +kernel
theorem dX3_take_91 : decode cX3_take 91 = .ok (.iastore, 1) := by decide +kernel
theorem dX3_take_92 : decode cX3_take 92 = .ok (.iload_n 3, 1) := by decide +kernel
theorem dX3_take_93 : decode cX3_take 93 = .ok (.ireturn, 1) := by decide +kernel
set_option maxRecDepth 20000 in
theorem ggX3_finish_X3_noMessage : GoodIn wsX3_finish wsX3_noMessage := goodIn_r _ [17, 18, 2, 19, 20, 16, 21, 22, 23, 24, 25, 26, 27, 28, 29, 30, 31, 32, 33, 34, 35, 36, 37, 38, 39, 40] (by decide +kernel) (by decide +kernel)
set_option maxRecDepth 20000 in
theorem gX3_finish_X3_noMessage : GoodIn wsX3_finish (wsV RX3 103 RX3 yX3_noMessage wsX3_noMessage) := goodIn_app (goodIn_of _ (by decide +kernel)) ggX3_finish_X3_noMessage
theorem dX3_finish_0 : decode cX3_finish 0 = .ok (.aload_n 0, 1) := by decide +kernel
theorem dX3_finish_1 : decode cX3_finish 1 = .ok (.iload_n 1, 1) := by decide +kernel
theorem dX3_finish_2 : decode cX3_finish 2 = .ok (.invokevirtual 103, 3) := by decide +kernel
theorem dX3_finish_5 : decode cX3_finish 5 = .ok (.ifCond .eq 5, 3) := by decide +kernel
theorem dX3_finish_8 : decode cX3_finish 8 = .ok (.iconst 0, 1) := by decide +kernel
theorem dX3_finish_9 : decode cX3_finish 9 = .ok (.ireturn, 1) := by decide +kernel
theorem dX3_finish_10 : decode cX3_finish 10 = .ok (.aload_n 0, 1) := by decide +kernel
theorem dX3_finish_11 : decode cX3_finish 11 = .ok (.aload_n 0, 1) := by decide +kernel
theorem dX3_finish_12 : decode cX3_finish 12 = .ok (.getfield 48, 3) := by decide +kernel
theorem dX3_finish_15 : decode cX3_finish 15 = .ok (.iload_n 1, 1) := by decide +kernel
theorem dX3_finish_16 : decode cX3_finish 16 = .ok (.caload, 1) := by decide +kernel
theorem dX3_finish_17 : decode cX3_finish 17 = .ok (.bipush 116, 2) := by decide +kernel
theorem dX3_finish_19 : decode cX3_finish 19 = .ok (.if_icmp .ne 7, 3) := by decide +kernel
theorem dX3_finish_22 : decode cX3_finish 22 = .ok (.iconst 0, 1) := by decide +kernel
theorem dX3_finish_23 : decode cX3_finish 23 = .ok (.goto 4, 3) := by decide +kernel
theorem dX3_finish_26 : decode cX3_finish 26 = .ok (.iconst 2, 1) := by decide +kernel
theorem dX3_finish_27 : decode cX3_finish 27 = .ok (.putfield 57, 3) := by decide +kernel
theorem dX3_finish_30 : decode cX3_finish 30 = .ok (.aload_n 0, 1) := by decide +kernel
theorem dX3_finish_31 : decode cX3_finish 31 = .ok (.getfield 57, 3) := by decide +kernel
theorem dX3_finish_34 : decode cX3_finish 34 = .ok (.ifCond .le 5, 3) := by decide +kernel
theorem dX3_finish_37 : decode cX3_finish 37 = .ok (.iconst 0, 1) := by decide +kernel
theorem dX3_finish_38 : decode cX3_finish 38 = .ok (.ireturn, 1) := by decide +kernel
theorem dX3_finish_39 : decode cX3_finish 39 = .ok (.aload_n 0, 1) := by decide +kernel
theorem dX3_finish_40 : decode cX3_finish 40 = .ok (.getfield 48, 3) := by decide +kernel
theorem dX3_finish_43 : decode cX3_finish 43 = .ok (.iload_n 1, 1) := by decide +kernel
theorem dX3_finish_44 : decode cX3_finish 44 = .ok (.bipush 100, 2) := by decide +kernel
theorem dX3_finish_46 : decode cX3_finish 46 = .ok (.castore, 1) := by decide +kernel
theorem dX3_finish_47 : decode cX3_finish 47 = .ok (.aload_n 0, 1) := by decide +kernel
theorem dX3_finish_48 : decode cX3_finish 48 = .ok (.getfield 36, 3) := by decide +kernel
theorem dX3_finish_51 : decode cX3_finish 51 = .ok (.iload_n 1, 1) := by decide +kernel
theorem dX3_finish_52 : decode cX3_finish 52 = .ok (.iaload, 1) := by decide +kernel
theorem dX3_finish_53 : decode cX3_finish 53 = .ok (.istore_n 2, 1) := by decide +kernel
theorem dX3_finish_54 : decode cX3_finish 54 = .ok (.aload_n 0, 1) := by decide +kernel
theorem dX3_finish_55 : decode cX3_finish 55 = .ok (.getfield 32, 3) := by decide +kernel
theorem dX3_finish_58 : decode cX3_finish 58 = .ok (.iload_n 1, 1) := by decide +kernel
theorem dX3_finish_59 : decode cX3_finish 59 = .ok (.caload, 1) := by decide +kernel
theorem dX3_finish_60 : decode cX3_finish 60 = .ok (.bipush 112, 2) := by decide +kernel
theorem dX3_finish_62 : decode cX3_finish 62 = .ok (.if_icmp .ne 53, 3) := by decide +kernel
theorem dX3_finish_65 : decode cX3_finish 65 = .ok (.aload_n 0, 1) := by decide +kernel
theorem dX3_finish_66 : decode cX3_finish 66 = .ok (.getfield 9, 3) := by decide +kernel
theorem dX3_finish_69 : decode cX3_finish 69 = .ok (.iload_n 2, 1) := by decide +kernel
theorem dX3_finish_70 : decode cX3_finish 70 = .ok (.iaload, 1) := by decide +kernel
theorem dX3_finish_71 : decode cX3_finish 71 = .ok (.ifCond .le 16, 3) := by decide +kernel
theorem dX3_finish_74 : decode cX3_finish 74 = .ok (.aload_n 0, 1) := by decide +kernel
theorem dX3_finish_75 : decode cX3_finish 75 = .ok (.getfield 39, 3) := by decide +kernel
theorem dX3_finish_78 : decode cX3_finish 78 = .ok (.iload_n 1, 1) := by decide +kernel
theorem dX3_finish_79 : decode cX3_finish 79 = .ok (.iaload, 1) := by decide +kernel
theorem dX3_finish_80 : decode cX3_finish 80 = .ok (.ifCond .le 7, 3) := by decide +kernel
theorem dX3_finish_83 : decode cX3_finish 83 = .ok (.iconst 1, 1) := by decide +kernel
theorem dX3_finish_84 : decode cX3_finish 84 = .ok (.goto 4, 3) := by decide +kernel
theorem dX3_finish_87 : decode cX3_finish 87 = .ok (.iconst 0, 1) := by decide +kernel
theorem dX3_finish_88 : decode cX3_finish 88 = .ok (.istore_n 3, 1) := by decide +kernel
theorem dX3_finish_89 : decode cX3_finish 89 = .ok (.aload_n 0, 1) := by decide +kernel
theorem dX3_finish_90 : decode cX3_finish 90 = .ok (.getfield 9, 3) := by decide +kernel
theorem dX3_finish_93 : decode cX3_finish 93 = .ok (.iload_n 2, 1) := by decide +kernel
theorem dX3_finish_94 : decode cX3_finish 94 = .ok (.iconst 0, 1) := by decide +kernel
theorem dX3_finish_95 : decode cX3_finish 95 = .ok (.aload_n 0, 1) := by decide +kernel
theorem dX3_finish_96 : decode cX3_finish 96 = .ok (.getfield 9, 3) := by decide +kernel
theorem dX3_finish_99 : decode cX3_finish 99 = .ok (.iload_n 2, 1) := by decide +kernel
theorem dX3_finish_100 : decode cX3_finish 100 = .ok (.iaload, 1) := by decide +kernel
theorem dX3_finish_101 : decode cX3_finish 101 = .ok (.aload_n 0, 1) := by decide +kernel
theorem dX3_finish_102 : decode cX3_finish 102 = .ok (.getfield 39, 3) := by decide +kernel
theorem dX3_finish_105 : decode cX3_finish 105 = .ok (.iload_n 1, 1) := by decide +kernel
theorem dX3_finish_106 : decode cX3_finish 106 = .ok (.iaload, 1) := by decide +kernel
theorem dX3_finish_107 : decode cX3_finish 107 = .ok (.isub, 1) := by decide +kernel
theorem dX3_finish_108 : decode cX3_finish 108 = .ok (.invokestatic 74, 3) := by decide +kernel
theorem dX3_finish_111 : decode cX3_finish 111 = .ok (.iastore, 1) := by decide +kernel
theorem dX3_finish_112 : decode cX3_finish 112 = .ok (.goto 79, 3) := by decide +kernel
theorem dX3_finish_115 : decode cX3_finish 115 = .ok (.aload_n 0, 1) := by decide +kernel
theorem dX3_finish_116 : decode cX3_finish 116 = .ok (.getfield 32, 3) := by decide +kernel
theorem dX3_finish_119 : decode cX3_finish 119 = .ok (.iload_n 1, 1) := by decide +kernel
theorem dX3_finish_120 : decode cX3_finish 120 = .ok (.caload, 1) := by decide +kernel
theorem dX3_finish_121 : decode cX3_finish 121 = .ok (.bipush 110, 2) := by decide +kernel
theorem dX3_finish_123 : decode cX3_finish 123 = .ok (.if_icmp .ne 20, 3) := by decide +kernel
theorem dX3_finish_126 : decode cX3_finish 126 = .ok (.aload_n 0, 1) := by decide +kernel
theorem dX3_finish_127 : decode cX3_finish 127 = .ok (.getfield 22, 3) := by decide +kernel
theorem dX3_finish_130 : decode cX3_finish 130 = .ok (.iload_n 2, 1) := by decide +kernel
theorem dX3_finish_131 : decode cX3_finish 131 = .ok (.baload, 1) := by decide +kernel
theorem dX3_finish_132 : decode cX3_finish 132 = .ok (.istore_n 3, 1) := by decide +kernel
theorem dX3_finish_133 : decode cX3_finish 133 = .ok (.aload_n 0, 1) := by decide +kernel
theorem dX3_finish_134 : decode cX3_finish 134 = .ok (.getfield 22, 3) := by decide +kernel
theorem dX3_finish_137 : decode cX3_finish 137 = .ok (.iload_n 2, 1) := by decide +kernel
theorem dX3_finish_138 : decode cX3_finish 138 = .ok (.iconst 0, 1) := by decide +kernel
theorem dX3_finish_139 : decode cX3_finish 139 = .ok (.bastore, 1) := by decide +kernel
theorem dX3_finish_140 : decode cX3_finish 140 = .ok (.goto 51, 3) := by decide +kernel
theorem dX3_finish_143 : decode cX3_finish 143 = .ok (.aload_n 0, 1) := by decide +kernel
theorem dX3_finish_144 : decode cX3_finish 144 = .ok (.getfield 9, 3) := by decide +kernel
theorem dX3_finish_147 : decode cX3_finish 147 = .ok (.iload_n 2, 1) := by decide +kernel
theorem dX3_finish_148 : decode cX3_finish 148 = .ok (.iaload, 1) := by decide +kernel
theorem dX3_finish_149 : decode cX3_finish 149 = .ok (.ifCond .le 22, 3) := by decide +kernel
theorem dX3_finish_152 : decode cX3_finish 152 = .ok (.aload_n 0, 1) := by decide +kernel
theorem dX3_finish_153 : decode cX3_finish 153 = .ok (.getfield 16, 3) := by decide +kernel
theorem dX3_finish_156 : decode cX3_finish 156 = .ok (.iload_n 2, 1) := by decide +kernel
theorem dX3_finish_157 : decode cX3_finish 157 = .ok (.iaload, 1) := by decide +kernel
theorem dX3_finish_158 : decode cX3_finish 158 = .ok (.aload_n 0, 1) := by decide +kernel
theorem dX3_finish_159 : decode cX3_finish 159 = .ok (.getfield 39, 3) := by decide +kernel
theorem dX3_finish_162 : decode cX3_finish 162 = .ok (.iload_n 1, 1) := by decide +kernel
theorem dX3_finish_163 : decode cX3_finish 163 = .ok (.iaload, 1) := by decide +kernel
theorem dX3_finish_164 : decode cX3_finish 164 = .ok (.if_icmp .ne 7, 3) := by decide +kernel
theorem dX3_finish_167 : decode cX3_finish 167 = .ok (.iconst 1, 1) := by decide +kernel
theorem dX3_finish_168 : decode cX3_finish 168 = .ok (.goto 4, 3) := by decide +kernel
theorem dX3_finish_171 : decode cX3_finish 171 = .ok (.iconst 0, 1) := by decide +kernel
theorem dX3_finish_172 : decode cX3_finish 172 = .ok (.istore_n 3, 1) := by decide +kernel
theorem dX3_finish_173 : decode cX3_finish 173 = .ok (.aload_n 0, 1) := by decide +kernel
theorem dX3_finish_174 : decode cX3_finish 174 = .ok (.getfield 16, 3) := by decide +kernel
theorem dX3_finish_177 : decode cX3_finish 177 = .ok (.iload_n 2, 1) := by decide +kernel
theorem dX3_finish_178 : decode cX3_finish 178 = .ok (.dup2, 1) := by decide +kernel
theorem dX3_finish_179 : decode cX3_finish 179 = .ok (.iaload, 1) := by decide +kernel
theorem dX3_finish_180 : decode cX3_finish 180 = .ok (.iload_n 3, 1) := by decide +kernel
theorem dX3_finish_181 : decode cX3_finish 181 = .ok (.ifCond .eq 7, 3) := by decide +kernel
theorem dX3_finish_184 : decode cX3_finish 184 = .ok (.iconst 1, 1) := by decide +kernel
theorem dX3_finish_185 : decode cX3_finish 185 = .ok (.goto 4, 3) := by decide +kernel
theorem dX3_finish_188 : decode cX3_finish 188 = .ok (.iconst 0, 1) := by decide +kernel
theorem dX3_finish_189 : decode cX3_finish 189 = .ok (.iadd, 1) := by decide +kernel
theorem dX3_finish_190 : decode cX3_finish 190 = .ok (.iastore, 1) := by decide +kernel
theorem dX3_finish_191 : decode cX3_finish 191 = .ok (.iload_n 3, 1) := by decide +kernel
theorem dX3_finish_192 : decode cX3_finish 192 = .ok (.ireturn, 1) := by decide +kernel
theorem dX3_back_0 : decode cX3_back 0 = .ok (.aload_n 0, 1) := by decide +kernel
theorem dX3_back_1 : decode cX3_back 1 = .ok (.getfield 45, 3) := by decide +kernel
theorem dX3_back_4 : decode cX3_back 4 = .ok (.iload_n 1, 1) := by decide +kernel
theorem dX3_back_5 : decode cX3_back 5 = .ok (.dup2, 1) := by decide +kernel
theorem dX3_back_6 : decode cX3_back 6 = .ok (.iaload, 1) := by decide +kernel
theorem dX3_back_7 : decode cX3_back 7 = .ok (.iconst 1, 1) := by decide +kernel
theorem dX3_back_8 : decode cX3_back 8 = .ok (.iadd, 1) := by decide +kernel
theorem dX3_back_9 : decode cX3_back 9 = .ok (.iastore, 1) := by decide +kernel
theorem dX3_back_10 : decode cX3_back 10 = .ok (.aload_n 0, 1) := by decide +kernel
theorem dX3_back_11 : decode cX3_back 11 = .ok (.getfield 48, 3) := by decide +kernel
theorem dX3_back_14 : decode cX3_back 14 = .ok (.iload_n 1, 1) := by decide +kernel
theorem dX3_back_15 : decode cX3_back 15 = .ok (.aload_n 0, 1) := by decide +kernel
theorem dX3_back_16 : decode cX3_back 16 = .ok (.getfield 45, 3) := by decide +kernel
theorem dX3_back_19 : decode cX3_back 19 = .ok (.iload_n 1, 1) := by decide +kernel
theorem dX3_back_20 : decode cX3_back 20 = .ok (.iaload, 1) := by decide +kernel
theorem dX3_back_21 : decode cX3_back 21 = .ok (.iconst 3, 1) := by decide +kernel
theorem dX3_back_22 : decode cX3_back 22 = .ok (.if_icmp .ne 8, 3) := by decide +kernel
theorem dX3_back_25 : decode cX3_back 25 = .ok (.bipush 120, 2) := by decide +kernel
theorem dX3_back_27 : decode cX3_back 27 = .ok (.goto 5, 3) := by decide +kernel
theorem dX3_back_30 : decode cX3_back 30 = .ok (.bipush 119, 2) := by decide +kernel
theorem dX3_back_32 : decode cX3_back 32 = .ok (.castore, 1) := by decide +kernel
theorem dX3_back_33 : decode cX3_back 33 = .ok (.aload_n 0, 1) := by decide +kernel
theorem dX3_back_34 : decode cX3_back 34 = .ok (.getfield 42, 3) := by decide +kernel
theorem dX3_back_37 : decode cX3_back 37 = .ok (.iload_n 1, 1) := by decide +kernel
theorem dX3_back_38 : decode cX3_back 38 = .ok (.aload_n 0, 1) := by decide +kernel
theorem dX3_back_39 : decode cX3_back 39 = .ok (.getfield 71, 3) := by decide +kernel
theorem dX3_back_42 : decode cX3_back 42 = .ok (.iconst 2, 1) := by decide +kernel
theorem dX3_back_43 : decode cX3_back 43 = .ok (.aload_n 0, 1) := by decide +kernel
theorem dX3_back_44 : decode cX3_back 44 = .ok (.getfield 45, 3) := by decide +kernel
theorem dX3_back_47 : decode cX3_back 47 = .ok (.iload_n 1, 1) := by decide +kernel
theorem dX3_back_48 : decode cX3_back 48 = .ok (.iaload, 1) := by decide +kernel
theorem dX3_back_49 : decode cX3_back 49 = .ok (.imul, 1) := by decide +kernel
theorem dX3_back_50 : decode cX3_back 50 = .ok (.iadd, 1) := by decide +kernel
theorem dX3_back_51 : decode cX3_back 51 = .ok (.iastore, 1) := by decide +kernel
theorem dX3_back_52 : decode cX3_back 52 = .ok (.aload_n 0, 1) := by decide +kernel
theorem dX3_back_53 : decode cX3_back 53 = .ok (.getfield 45, 3) := by decide +kernel
theorem dX3_back_56 : decode cX3_back 56 = .ok (.iload_n 1, 1) := by decide +kernel
theorem dX3_back_57 : decode cX3_back 57 = .ok (.iaload, 1) := by decide +kernel
theorem dX3_back_58 : decode cX3_back 58 = .ok (.ireturn, 1) := by decide +kernel
set_option maxRecDepth 20000 in
theorem ggX3_handBack_X3_noMessage : GoodIn wsX3_handBack wsX3_noMessage := goodIn_r _ [7, 8, 2, 9, 10, 6, 11, 19, 20, 21, 22, 23, 24, 25, 26, 27, 28, 29, 30, 31, 32, 33, 34, 35, 36, 37] (by decide +kernel) (by decide +kernel)
set_option maxRecDepth 20000 in
theorem gX3_handBack_X3_noMessage : GoodIn wsX3_handBack (wsV RX3 103 RX3 yX3_noMessage wsX3_noMessage) := goodIn_app (goodIn_of _ (by decide +kernel)) ggX3_handBack_X3_noMessage
set_option maxRecDepth 20000 in
theorem ggX3_handBack_X3_back : GoodIn wsX3_handBack wsX3_back := goodIn_ca (goodIn_r _ [15, 16, 1, 17, 18, 19, 20, 21, 22, 23, 24, 25, 26, 27, 28, 29, 30, 31, 32, 33, 34, 35, 36, 37] (by decide +kernel) (by decide +kernel)) (goodIn_sub (fun _ h => List.mem_cons_of_mem _ (List.mem_append_right _ h)) (by decide +kernel))
set_option maxRecDepth 20000 in
theorem gX3_handBack_X3_back : GoodIn wsX3_handBack (wsV RX3 119 RX3 yX3_back wsX3_back) := goodIn_app (goodIn_of _ (by decide +kernel)) ggX3_handBack_X3_back
theorem dX3_handBack_0 : decode cX3_handBack 0 = .ok (.aload_n 0, 1) := by decide +kernel
theorem dX3_handBack_1 : decode cX3_handBack 1 = .ok (.iload_n 1, 1) := by decide +kernel
theorem dX3_handBack_2 : decode cX3_handBack 2 = .ok (.invokevirtual 103, 3) := by decide +kernel
theorem dX3_handBack_5 : decode cX3_handBack 5 = .ok (.ifCond .eq 5, 3) := by decide +kernel
theorem dX3_handBack_8 : decode cX3_handBack 8 = .ok (.iconst 0, 1) := by decide +kernel
theorem dX3_handBack_9 : decode cX3_handBack 9 = .ok (.ireturn, 1) := by decide +kernel
theorem dX3_handBack_10 : decode cX3_handBack 10 = .ok (.aload_n 0, 1) := by decide +kernel
theorem dX3_handBack_11 : decode cX3_handBack 11 = .ok (.aload_n 0, 1) := by decide +kernel
theorem dX3_handBack_12 : decode cX3_handBack 12 = .ok (.getfield 48, 3) := by decide +kernel
theorem dX3_handBack_15 : decode cX3_handBack 15 = .ok (.iload_n 1, 1) := by decide +kernel
theorem dX3_handBack_16 : decode cX3_handBack 16 = .ok (.caload, 1) := by decide +kernel
theorem dX3_handBack_17 : decode cX3_handBack 17 = .ok (.bipush 116, 2) := by decide +kernel
theorem dX3_handBack_19 : decode cX3_handBack 19 = .ok (.if_icmp .ne 7, 3) := by decide +kernel
theorem dX3_handBack_22 : decode cX3_handBack 22 = .ok (.iconst 0, 1) := by decide +kernel
theorem dX3_handBack_23 : decode cX3_handBack 23 = .ok (.goto 4, 3) := by decide +kernel
theorem dX3_handBack_26 : decode cX3_handBack 26 = .ok (.iconst 2, 1) := by decide +kernel
theorem dX3_handBack_27 : decode cX3_handBack 27 = .ok (.putfield 57, 3) := by decide +kernel
theorem dX3_handBack_30 : decode cX3_handBack 30 = .ok (.aload_n 0, 1) := by decide +kernel
theorem dX3_handBack_31 : decode cX3_handBack 31 = .ok (.getfield 57, 3) := by decide +kernel
theorem dX3_handBack_34 : decode cX3_handBack 34 = .ok (.ifCond .le 7, 3) := by decide +kernel
theorem dX3_handBack_37 : decode cX3_handBack 37 = .ok (.iconst 0, 1) := by decide +kernel
theorem dX3_handBack_38 : decode cX3_handBack 38 = .ok (.goto 8, 3) := by decide +kernel
theorem dX3_handBack_41 : decode cX3_handBack 41 = .ok (.aload_n 0, 1) := by decide +kernel
theorem dX3_handBack_42 : decode cX3_handBack 42 = .ok (.iload_n 1, 1) := by decide +kernel
theorem dX3_handBack_43 : decode cX3_handBack 43 = .ok (.invokevirtual 119, 3) := by decide +kernel
theorem dX3_handBack_46 : decode cX3_handBack 46 = .ok (.ireturn, 1) := by decide +kernel
theorem dX3_in__0 : decode cX3_in_ 0 = .ok (.iconst 0, 1) := by decide +kernel
theorem dX3_in__1 : decode cX3_in_ 1 = .ok (.istore_n 2, 1) := by decide +kernel
theorem dX3_in__2 : decode cX3_in_ 2 = .ok (.iconst 0, 1) := by decide +kernel
theorem dX3_in__3 : decode cX3_in_ 3 = .ok (.istore_n 3, 1) := by decide +kernel
theorem dX3_in__4 : decode cX3_in_ 4 = .ok (.iload_n 3, 1) := by decide +kernel
theorem dX3_in__5 : decode cX3_in_ 5 = .ok (.aload_n 0, 1) := by decide +kernel
theorem dX3_in__6 : decode cX3_in_ 6 = .ok (.getfield 68, 3) := by decide +kernel
theorem dX3_in__9 : decode cX3_in_ 9 = .ok (.if_icmp .ge 27, 3) := by decide +kernel
theorem dX3_in__12 : decode cX3_in_ 12 = .ok (.iload_n 2, 1) := by decide +kernel
theorem dX3_in__13 : decode cX3_in_ 13 = .ok (.aload_n 0, 1) := by decide +kernel
theorem dX3_in__14 : decode cX3_in_ 14 = .ok (.getfield 48, 3) := by decide +kernel
theorem dX3_in__17 : decode cX3_in_ 17 = .ok (.iload_n 3, 1) := by decide +kernel
theorem dX3_in__18 : decode cX3_in_ 18 = .ok (.caload, 1) := by decide +kernel
theorem dX3_in__19 : decode cX3_in_ 19 = .ok (.iload_n 1, 1) := by decide +kernel
theorem dX3_in__20 : decode cX3_in_ 20 = .ok (.if_icmp .ne 7, 3) := by decide +kernel
theorem dX3_in__23 : decode cX3_in_ 23 = .ok (.iconst 1, 1) := by decide +kernel
theorem dX3_in__24 : decode cX3_in_ 24 = .ok (.goto 4, 3) := by decide +kernel
theorem dX3_in__27 : decode cX3_in_ 27 = .ok (.iconst 0, 1) := by decide +kernel
theorem dX3_in__28 : decode cX3_in_ 28 = .ok (.iadd, 1) := by decide +kernel
theorem dX3_in__29 : decode cX3_in_ 29 = .ok (.istore_n 2, 1) := by decide +kernel
theorem dX3_in__30 : decode cX3_in_ 30 = .ok (.iinc 3 1, 3) := by decide +kernel
theorem dX3_in__33 : decode cX3_in_ 33 = .ok (.goto (-29), 3) := by decide +kernel
theorem dX3_in__36 : decode cX3_in_ 36 = .ok (.iload_n 2, 1) := by decide +kernel
theorem dX3_in__37 : decode cX3_in_ 37 = .ok (.ireturn, 1) := by decide +kernel
set_option maxRecDepth 20000 in
theorem ggX3_revive_X3_noMessage : GoodIn wsX3_revive wsX3_noMessage := goodIn_r _ [10, 11, 2, 12, 13, 9, 14, 19, 20, 21, 22, 23, 24, 25, 26, 27, 28, 29, 30, 31, 32, 33, 34, 35, 36, 37] (by decide +kernel) (by decide +kernel)
set_option maxRecDepth 20000 in
theorem gX3_revive_X3_noMessage : GoodIn wsX3_revive (wsV RX3 103 RX3 yX3_noMessage wsX3_noMessage) := goodIn_app (goodIn_of _ (by decide +kernel)) ggX3_revive_X3_noMessage
set_option maxRecDepth 20000 in
theorem ggX3_revive_X3_in_ : GoodIn wsX3_revive wsX3_in_ := goodIn_ca (goodIn_r _ [18, 11, 1, 19, 20, 21, 22, 23, 24, 25, 26, 27, 28, 29, 30, 31, 32, 33, 34, 35, 36, 37] (by decide +kernel) (by decide +kernel)) (goodIn_sub (fun _ h => List.mem_cons_of_mem _ (List.mem_append_right _ h)) (by decide +kernel))
set_option maxRecDepth 20000 in
theorem gX3_revive_X3_in_ : GoodIn wsX3_revive (wsV RX3 122 RX3 yX3_in_ wsX3_in_) := goodIn_app (goodIn_of _ (by decide +kernel)) ggX3_revive_X3_in_
theorem dX3_revive_0 : decode cX3_revive 0 = .ok (.aload_n 0, 1) := by decide +kernel
theorem dX3_revive_1 : decode cX3_revive 1 = .ok (.iload_n 1, 1) := by decide +kernel
theorem dX3_revive_2 : decode cX3_revive 2 = .ok (.invokevirtual 103, 3) := by decide +kernel
theorem dX3_revive_5 : decode cX3_revive 5 = .ok (.ifCond .eq 5, 3) := by decide +kernel
theorem dX3_revive_8 : decode cX3_revive 8 = .ok (.iconst 0, 1) := by decide +kernel
theorem dX3_revive_9 : decode cX3_revive 9 = .ok (.ireturn, 1) := by decide +kernel
theorem dX3_revive_10 : decode cX3_revive 10 = .ok (.aload_n 0, 1) := by decide +kernel
theorem dX3_revive_11 : decode cX3_revive 11 = .ok (.aload_n 0, 1) := by decide +kernel
theorem dX3_revive_12 : decode cX3_revive 12 = .ok (.getfield 48, 3) := by decide +kernel
theorem dX3_revive_15 : decode cX3_revive 15 = .ok (.iload_n 1, 1) := by decide +kernel
theorem dX3_revive_16 : decode cX3_revive 16 = .ok (.caload, 1) := by decide +kernel
theorem dX3_revive_17 : decode cX3_revive 17 = .ok (.bipush 120, 2) := by decide +kernel
theorem dX3_revive_19 : decode cX3_revive 19 = .ok (.if_icmp .ne 7, 3) := by decide +kernel
theorem dX3_revive_22 : decode cX3_revive 22 = .ok (.iconst 0, 1) := by decide +kernel
theorem dX3_revive_23 : decode cX3_revive 23 = .ok (.goto 4, 3) := by decide +kernel
theorem dX3_revive_26 : decode cX3_revive 26 = .ok (.iconst 2, 1) := by decide +kernel
theorem dX3_revive_27 : decode cX3_revive 27 = .ok (.putfield 57, 3) := by decide +kernel
theorem dX3_revive_30 : decode cX3_revive 30 = .ok (.aload_n 0, 1) := by decide +kernel
theorem dX3_revive_31 : decode cX3_revive 31 = .ok (.getfield 57, 3) := by decide +kernel
theorem dX3_revive_34 : decode cX3_revive 34 = .ok (.ifCond .le 5, 3) := by decide +kernel
theorem dX3_revive_37 : decode cX3_revive 37 = .ok (.iconst 0, 1) := by decide +kernel
theorem dX3_revive_38 : decode cX3_revive 38 = .ok (.ireturn, 1) := by decide +kernel
theorem dX3_revive_39 : decode cX3_revive 39 = .ok (.aload_n 0, 1) := by decide +kernel
theorem dX3_revive_40 : decode cX3_revive 40 = .ok (.getfield 48, 3) := by decide +kernel
theorem dX3_revive_43 : decode cX3_revive 43 = .ok (.iload_n 1, 1) := by decide +kernel
theorem dX3_revive_44 : decode cX3_revive 44 = .ok (.bipush 119, 2) := by decide +kernel
theorem dX3_revive_46 : decode cX3_revive 46 = .ok (.castore, 1) := by decide +kernel
theorem dX3_revive_47 : decode cX3_revive 47 = .ok (.aload_n 0, 1) := by decide +kernel
theorem dX3_revive_48 : decode cX3_revive 48 = .ok (.getfield 42, 3) := by decide +kernel
theorem dX3_revive_51 : decode cX3_revive 51 = .ok (.iload_n 1, 1) := by decide +kernel
theorem dX3_revive_52 : decode cX3_revive 52 = .ok (.aload_n 0, 1) := by decide +kernel
theorem dX3_revive_53 : decode cX3_revive 53 = .ok (.getfield 71, 3) := by decide +kernel
theorem dX3_revive_56 : decode cX3_revive 56 = .ok (.iastore, 1) := by decide +kernel
theorem dX3_revive_57 : decode cX3_revive 57 = .ok (.aload_n 0, 1) := by decide +kernel
theorem dX3_revive_58 : decode cX3_revive 58 = .ok (.getfield 45, 3) := by decide +kernel
theorem dX3_revive_61 : decode cX3_revive 61 = .ok (.iload_n 1, 1) := by decide +kernel
theorem dX3_revive_62 : decode cX3_revive 62 = .ok (.iconst 0, 1) := by decide +kernel
theorem dX3_revive_63 : decode cX3_revive 63 = .ok (.iastore, 1) := by decide +kernel
theorem dX3_revive_64 : decode cX3_revive 64 = .ok (.aload_n 0, 1) := by decide +kernel
theorem dX3_revive_65 : decode cX3_revive 65 = .ok (.bipush 120, 2) := by decide +kernel
theorem dX3_revive_67 : decode cX3_revive 67 = .ok (.invokevirtual 122, 3) := by decide +kernel
theorem dX3_revive_70 : decode cX3_revive 70 = .ok (.ireturn, 1) := by decide +kernel
set_option maxRecDepth 20000 in
theorem ggX3_clerk_X3_noMessage : GoodIn wsX3_clerk wsX3_noMessage := goodIn_r _ [8, 9, 2, 10, 11, 7, 12, 13, 14, 15, 16, 17, 18, 19, 20, 21, 22, 23, 24, 25, 26, 27, 28, 29, 30, 31] (by decide +kernel) (by decide +kernel)
set_option maxRecDepth 20000 in
theorem gX3_clerk_X3_noMessage : GoodIn wsX3_clerk (wsV RX3 103 RX3 yX3_noMessage wsX3_noMessage) := goodIn_app (goodIn_of _ (by decide +kernel)) ggX3_clerk_X3_noMessage
theorem dX3_clerk_0 : decode cX3_clerk 0 = .ok (.aload_n 0, 1) := by decide +kernel
theorem dX3_clerk_1 : decode cX3_clerk 1 = .ok (.iload_n 1, 1) := by decide +kernel
theorem dX3_clerk_2 : decode cX3_clerk 2 = .ok (.invokevirtual 103, 3) := by decide +kernel
theorem dX3_clerk_5 : decode cX3_clerk 5 = .ok (.ifCond .eq 5, 3) := by decide +kernel
theorem dX3_clerk_8 : decode cX3_clerk 8 = .ok (.iconst 0, 1) := by decide +kernel
theorem dX3_clerk_9 : decode cX3_clerk 9 = .ok (.ireturn, 1) := by decide +kernel
theorem dX3_clerk_10 : decode cX3_clerk 10 = .ok (.aload_n 0, 1) := by decide +kernel
theorem dX3_clerk_11 : decode cX3_clerk 11 = .ok (.aload_n 0, 1) := by decide +kernel
theorem dX3_clerk_12 : decode cX3_clerk 12 = .ok (.getfield 48, 3) := by decide +kernel
theorem dX3_clerk_15 : decode cX3_clerk 15 = .ok (.iload_n 1, 1) := by decide +kernel
theorem dX3_clerk_16 : decode cX3_clerk 16 = .ok (.caload, 1) := by decide +kernel
theorem dX3_clerk_17 : decode cX3_clerk 17 = .ok (.bipush 116, 2) := by decide +kernel
theorem dX3_clerk_19 : decode cX3_clerk 19 = .ok (.if_icmp .ne 7, 3) := by decide +kernel
theorem dX3_clerk_22 : decode cX3_clerk 22 = .ok (.iconst 0, 1) := by decide +kernel
theorem dX3_clerk_23 : decode cX3_clerk 23 = .ok (.goto 4, 3) := by decide +kernel
theorem dX3_clerk_26 : decode cX3_clerk 26 = .ok (.iconst 2, 1) := by decide +kernel
theorem dX3_clerk_27 : decode cX3_clerk 27 = .ok (.putfield 57, 3) := by decide +kernel
theorem dX3_clerk_30 : decode cX3_clerk 30 = .ok (.aload_n 0, 1) := by decide +kernel
theorem dX3_clerk_31 : decode cX3_clerk 31 = .ok (.getfield 57, 3) := by decide +kernel
theorem dX3_clerk_34 : decode cX3_clerk 34 = .ok (.ifCond .le 7, 3) := by decide +kernel
theorem dX3_clerk_37 : decode cX3_clerk 37 = .ok (.iconst 0, 1) := by decide +kernel
theorem dX3_clerk_38 : decode cX3_clerk 38 = .ok (.goto 9, 3) := by decide +kernel
theorem dX3_clerk_41 : decode cX3_clerk 41 = .ok (.aload_n 0, 1) := by decide +kernel
theorem dX3_clerk_42 : decode cX3_clerk 42 = .ok (.getfield 51, 3) := by decide +kernel
theorem dX3_clerk_45 : decode cX3_clerk 45 = .ok (.iload_n 1, 1) := by decide +kernel
theorem dX3_clerk_46 : decode cX3_clerk 46 = .ok (.iaload, 1) := by decide +kernel
theorem dX3_clerk_47 : decode cX3_clerk 47 = .ok (.ireturn, 1) := by decide +kernel
set_option maxRecDepth 20000 in
theorem ggX3_has_X3_in : GoodIn wsX3_has wsX3_in := goodIn_r _ [5] (by decide +kernel) (by decide +kernel)
set_option maxRecDepth 20000 in
theorem gX3_has_X3_in : GoodIn wsX3_has (va_wsS RX3 64 yX3_in wsX3_in) := goodIn_app (goodIn_of _ (by decide +kernel)) ggX3_has_X3_in
set_option maxRecDepth 20000 in
theorem ggX3_has_X3_taken : GoodIn wsX3_has wsX3_taken := goodIn_ca (goodIn_r _ [9, 10, 11, 12, 13, 14, 15, 16, 17, 18, 19, 20, 21, 22, 23, 24, 25, 26, 27, 28, 29, 30, 31] (by decide +kernel) (by decide +kernel)) (goodIn_sub (fun _ h => List.mem_cons_of_mem _ (List.mem_append_right _ h)) (by decide +kernel))
set_option maxRecDepth 20000 in
theorem gX3_has_X3_taken : GoodIn wsX3_has (wsV RX3 116 RX3 yX3_taken wsX3_taken) := goodIn_app (goodIn_of _ (by decide +kernel)) ggX3_has_X3_taken
theorem dX3_has_0 : decode cX3_has 0 = .ok (.aload_n 0, 1) := by decide +kernel
theorem dX3_has_1 : decode cX3_has 1 = .ok (.iload_n 1, 1) := by decide +kernel
theorem dX3_has_2 : decode cX3_has 2 = .ok (.iconst 0, 1) := by decide +kernel
theorem dX3_has_3 : decode cX3_has 3 = .ok (.iconst 3, 1) := by decide +kernel
theorem dX3_has_4 : decode cX3_has 4 = .ok (.invokestatic 64, 3) := by decide +kernel
theorem dX3_has_7 : decode cX3_has 7 = .ok (.ifCond .eq 7, 3) := by decide +kernel
theorem dX3_has_10 : decode cX3_has 10 = .ok (.iconst 0, 1) := by decide +kernel
theorem dX3_has_11 : decode cX3_has 11 = .ok (.goto 4, 3) := by decide +kernel
theorem dX3_has_14 : decode cX3_has 14 = .ok (.iconst 1, 1) := by decide +kernel
theorem dX3_has_15 : decode cX3_has 15 = .ok (.putfield 57, 3) := by decide +kernel
theorem dX3_has_18 : decode cX3_has 18 = .ok (.aload_n 0, 1) := by decide +kernel
theorem dX3_has_19 : decode cX3_has 19 = .ok (.getfield 57, 3) := by decide +kernel
theorem dX3_has_22 : decode cX3_has 22 = .ok (.ifCond .le 7, 3) := by decide +kernel
theorem dX3_has_25 : decode cX3_has 25 = .ok (.iconst 0, 1) := by decide +kernel
theorem dX3_has_26 : decode cX3_has 26 = .ok (.goto 8, 3) := by decide +kernel
theorem dX3_has_29 : decode cX3_has 29 = .ok (.aload_n 0, 1) := by decide +kernel
theorem dX3_has_30 : decode cX3_has 30 = .ok (.iload_n 1, 1) := by decide +kernel
theorem dX3_has_31 : decode cX3_has 31 = .ok (.invokevirtual 116, 3) := by decide +kernel
theorem dX3_has_34 : decode cX3_has 34 = .ok (.ireturn, 1) := by decide +kernel
set_option maxRecDepth 20000 in
theorem ggX3_passes_X3_back : GoodIn wsX3_passes wsX3_back := goodIn_ca (goodIn_r _ [11, 12, 3, 13, 1, 43, 44, 45, 46, 47, 48, 49, 50, 51, 52, 53, 54, 55, 56, 57, 58, 59, 60, 61] (by decide +kernel) (by decide +kernel)) (goodIn_sub (fun _ h => List.mem_cons_of_mem _ (List.mem_append_right _ h)) (by decide +kernel))
set_option maxRecDepth 20000 in
theorem gX3_passes_X3_back : GoodIn wsX3_passes (wsV RX3 119 RX3 yX3_back wsX3_back) := goodIn_app (goodIn_of _ (by decide +kernel)) ggX3_passes_X3_back
set_option maxRecDepth 20000 in
theorem ggX3_passes_X3_mayRemind : GoodIn wsX3_passes wsX3_mayRemind := goodIn_ca (goodIn_r _ [17, 18, 19, 6, 20, 21, 22, 10, 23, 2, 24, 43, 44, 45, 46, 47, 48, 49, 50, 51, 52, 53, 54, 55, 56, 57, 58, 59, 60, 61] (by decide +kernel) (by decide +kernel)) (goodIn_sub (fun _ h => List.mem_cons_of_mem _ (List.mem_append_right _ h)) (by decide +kernel))
set_option maxRecDepth 20000 in
theorem gX3_passes_X3_mayRemind : GoodIn wsX3_passes (wsV RX3 90 RX3 yX3_mayRemind wsX3_mayRemind) := goodIn_app (goodIn_of _ (by decide +kernel)) ggX3_passes_X3_mayRemind
set_option maxRecDepth 20000 in
theorem ggX3_passes_X3_remindsFrom : GoodIn wsX3_passes wsX3_remindsFrom := goodIn_ca (goodIn_r _ [28, 29, 30, 6, 31, 32, 33, 34, 43, 44, 45, 46, 47, 48, 49, 50, 51, 52, 53, 54, 55, 56, 57, 58, 59, 60, 61] (by decide +kernel) (by decide +kernel)) (goodIn_sub (fun _ h => List.mem_cons_of_mem _ (List.mem_append_right _ h)) (by decide +kernel))
set_option maxRecDepth 20000 in
theorem gX3_passes_X3_remindsFrom : GoodIn wsX3_passes (wsV RX3 93 RX3 yX3_remindsFrom wsX3_remindsFrom) := goodIn_app (goodIn_of _ (by decide +kernel)) ggX3_passes_X3_remindsFrom
set_option maxRecDepth 20000 in
theorem ggX3_passes_X3_adds : GoodIn wsX3_passes wsX3_adds := goodIn_ca (goodIn_r _ [38, 39, 2, 24, 40, 41, 42, 13, 3, 5, 43, 44, 45, 46, 47, 48, 49, 50, 51, 52, 53, 54, 55, 56, 57, 58, 59, 60, 61] (by decide +kernel) (by decide +kernel)) (goodIn_sub (fun _ h => List.mem_cons_of_mem _ (List.mem_append_right _ h)) (by decide +kernel))
set_option maxRecDepth 20000 in
theorem gX3_passes_X3_adds : GoodIn wsX3_passes (wsV RX3 99 RX3 yX3_adds wsX3_adds) := goodIn_app (goodIn_of _ (by decide +kernel)) ggX3_passes_X3_adds
theorem dX3_passes_0 : decode cX3_passes 0 = .ok (.aload_n 0, 1) := by decide +kernel
theorem dX3_passes_1 : decode cX3_passes 1 = .ok (.dup, 1) := by decide +kernel
theorem dX3_passes_2 : decode cX3_passes 2 = .ok (.getfield 71, 3) := by decide +kernel
theorem dX3_passes_5 : decode cX3_passes 5 = .ok (.iconst 1, 1) := by decide +kernel
theorem dX3_passes_6 : decode cX3_passes 6 = .ok (.iadd, 1) := by decide +kernel
theorem dX3_passes_7 : decode cX3_passes 7 = .ok (.putfield 71, 3) := by decide +kernel
theorem dX3_passes_10 : decode cX3_passes 10 = .ok (.iconst 0, 1) := by decide +kernel
theorem dX3_passes_11 : decode cX3_passes 11 = .ok (.istore_n 1, 1) := by decide +kernel
theorem dX3_passes_12 : decode cX3_passes 12 = .ok (.iload_n 1, 1) := by decide +kernel
theorem dX3_passes_13 : decode cX3_passes 13 = .ok (.aload_n 0, 1) := by decide +kernel
theorem dX3_passes_14 : decode cX3_passes 14 = .ok (.getfield 68, 3) := by decide +kernel
theorem dX3_passes_17 : decode cX3_passes 17 = .ok (.if_icmp .ge 41, 3) := by decide +kernel
theorem dX3_passes_20 : decode cX3_passes 20 = .ok (.aload_n 0, 1) := by decide +kernel
theorem dX3_passes_21 : decode cX3_passes 21 = .ok (.getfield 48, 3) := by decide +kernel
theorem dX3_passes_24 : decode cX3_passes 24 = .ok (.iload_n 1, 1) := by decide +kernel
theorem dX3_passes_25 : decode cX3_passes 25 = .ok (.caload, 1) := by decide +kernel
theorem dX3_passes_26 : decode cX3_passes 26 = .ok (.bipush 116, 2) := by decide +kernel
theorem dX3_passes_28 : decode cX3_passes 28 = .ok (.if_icmp .ne 24, 3) := by decide +kernel
theorem dX3_passes_31 : decode cX3_passes 31 = .ok (.aload_n 0, 1) := by decide +kernel
theorem dX3_passes_32 : decode cX3_passes 32 = .ok (.getfield 71, 3) := by decide +kernel
theorem dX3_passes_35 : decode cX3_passes 35 = .ok (.aload_n 0, 1) := by decide +kernel
theorem dX3_passes_36 : decode cX3_passes 36 = .ok (.getfield 54, 3) := by decide +kernel
theorem dX3_passes_39 : decode cX3_passes 39 = .ok (.iload_n 1, 1) := by decide +kernel
theorem dX3_passes_40 : decode cX3_passes 40 = .ok (.iaload, 1) := by decide +kernel
theorem dX3_passes_41 : decode cX3_passes 41 = .ok (.isub, 1) := by decide +kernel
theorem dX3_passes_42 : decode cX3_passes 42 = .ok (.iconst 5, 1) := by decide +kernel
theorem dX3_passes_43 : decode cX3_passes 43 = .ok (.if_icmp .lt 9, 3) := by decide +kernel
theorem dX3_passes_46 : decode cX3_passes 46 = .ok (.aload_n 0, 1) := by decide +kernel
theorem dX3_passes_47 : decode cX3_passes 47 = .ok (.iload_n 1, 1) := by decide +kernel
theorem dX3_passes_48 : decode cX3_passes 48 = .ok (.invokevirtual 119, 3) := by decide +kernel
theorem dX3_passes_51 : decode cX3_passes 51 = .ok (.istore_n 2, 1) := by decide +kernel
theorem dX3_passes_52 : decode cX3_passes 52 = .ok (.iinc 1 1, 3) := by decide +kernel
theorem dX3_passes_55 : decode cX3_passes 55 = .ok (.goto (-43), 3) := by decide +kernel
theorem dX3_passes_58 : decode cX3_passes 58 = .ok (.iconst 0, 1) := by decide +kernel
theorem dX3_passes_59 : decode cX3_passes 59 = .ok (.istore_n 1, 1) := by decide +kernel
theorem dX3_passes_60 : decode cX3_passes 60 = .ok (.iconst 0, 1) := by decide +kernel
theorem dX3_passes_61 : decode cX3_passes 61 = .ok (.istore_n 2, 1) := by decide +kernel
theorem dX3_passes_62 : decode cX3_passes 62 = .ok (.iload_n 2, 1) := by decide +kernel
theorem dX3_passes_63 : decode cX3_passes 63 = .ok (.aload_n 0, 1) := by decide +kernel
theorem dX3_passes_64 : decode cX3_passes 64 = .ok (.getfield 61, 3) := by decide +kernel
theorem dX3_passes_67 : decode cX3_passes 67 = .ok (.if_icmp .ge 75, 3) := by decide +kernel
theorem dX3_passes_70 : decode cX3_passes 70 = .ok (.aload_n 0, 1) := by decide +kernel
theorem dX3_passes_71 : decode cX3_passes 71 = .ok (.getfield 68, 3) := by decide +kernel
theorem dX3_passes_74 : decode cX3_passes 74 = .ok (.bipush 80, 2) := by decide +kernel
theorem dX3_passes_76 : decode cX3_passes 76 = .ok (.if_icmp .ge 60, 3) := by decide +kernel
theorem dX3_passes_79 : decode cX3_passes 79 = .ok (.aload_n 0, 1) := by decide +kernel
theorem dX3_passes_80 : decode cX3_passes 80 = .ok (.iload_n 2, 1) := by decide +kernel
theorem dX3_passes_81 : decode cX3_passes 81 = .ok (.invokevirtual 90, 3) := by decide +kernel
theorem dX3_passes_84 : decode cX3_passes 84 = .ok (.ifCond .eq 52, 3) := by decide +kernel
theorem dX3_passes_87 : decode cX3_passes 87 = .ok (.aload_n 0, 1) := by decide +kernel
theorem dX3_passes_88 : decode cX3_passes 88 = .ok (.getfield 71, 3) := by decide +kernel
theorem dX3_passes_91 : decode cX3_passes 91 = .ok (.aload_n 0, 1) := by decide +kernel
theorem dX3_passes_92 : decode cX3_passes 92 = .ok (.iload_n 2, 1) := by decide +kernel
theorem dX3_passes_93 : decode cX3_passes 93 = .ok (.invokevirtual 93, 3) := by decide +kernel
theorem dX3_passes_96 : decode cX3_passes 96 = .ok (.if_icmp .lt 40, 3) := by decide +kernel
theorem dX3_passes_99 : decode cX3_passes 99 = .ok (.aload_n 0, 1) := by decide +kernel
theorem dX3_passes_100 : decode cX3_passes 100 = .ok (.iconst 0, 1) := by decide +kernel
theorem dX3_passes_101 : decode cX3_passes 101 = .ok (.sipush 1000, 3) := by decide +kernel
theorem dX3_passes_104 : decode cX3_passes 104 = .ok (.bipush 10, 2) := by decide +kernel
theorem dX3_passes_106 : decode cX3_passes 106 = .ok (.iload_n 2, 1) := by decide +kernel
theorem dX3_passes_107 : decode cX3_passes 107 = .ok (.imul, 1) := by decide +kernel
theorem dX3_passes_108 : decode cX3_passes 108 = .ok (.iadd, 1) := by decide +kernel
theorem dX3_passes_109 : decode cX3_passes 109 = .ok (.aload_n 0, 1) := by decide +kernel
theorem dX3_passes_110 : decode cX3_passes 110 = .ok (.getfield 16, 3) := by decide +kernel
theorem dX3_passes_113 : decode cX3_passes 113 = .ok (.iload_n 2, 1) := by decide +kernel
theorem dX3_passes_114 : decode cX3_passes 114 = .ok (.iaload, 1) := by decide +kernel
theorem dX3_passes_115 : decode cX3_passes 115 = .ok (.iadd, 1) := by decide +kernel
theorem dX3_passes_116 : decode cX3_passes 116 = .ok (.bipush 114, 2) := by decide +kernel
theorem dX3_passes_118 : decode cX3_passes 118 = .ok (.iload_n 2, 1) := by decide +kernel
theorem dX3_passes_119 : decode cX3_passes 119 = .ok (.aload_n 0, 1) := by decide +kernel
theorem dX3_passes_120 : decode cX3_passes 120 = .ok (.getfield 16, 3) := by decide +kernel
theorem dX3_passes_123 : decode cX3_passes 123 = .ok (.iload_n 2, 1) := by decide +kernel
theorem dX3_passes_124 : decode cX3_passes 124 = .ok (.iaload, 1) := by decide +kernel
theorem dX3_passes_125 : decode cX3_passes 125 = .ok (.aload_n 0, 1) := by decide +kernel
theorem dX3_passes_126 : decode cX3_passes 126 = .ok (.getfield 71, 3) := by decide +kernel
theorem dX3_passes_129 : decode cX3_passes 129 = .ok (.invokevirtual 99, 3) := by decide +kernel
theorem dX3_passes_132 : decode cX3_passes 132 = .ok (.istore_n 3, 1) := by decide +kernel
theorem dX3_passes_133 : decode cX3_passes 133 = .ok (.iinc 1 1, 3) := by decide +kernel
theorem dX3_passes_136 : decode cX3_passes 136 = .ok (.iinc 2 1, 3) := by decide +kernel
theorem dX3_passes_139 : decode cX3_passes 139 = .ok (.goto (-77), 3) := by decide +kernel
theorem dX3_passes_142 : decode cX3_passes 142 = .ok (.iload_n 1, 1) := by decide +kernel
theorem dX3_passes_143 : decode cX3_passes 143 = .ok (.ireturn, 1) := by decide +kernel
set_option maxRecDepth 20000 in
theorem ggX3_pass_X3_in : GoodIn wsX3_pass wsX3_in := goodIn_r _ [6] (by decide +kernel) (by decide +kernel)
set_option maxRecDepth 20000 in
theorem gX3_pass_X3_in : GoodIn wsX3_pass (va_wsS RX3 64 yX3_in wsX3_in) := goodIn_app (goodIn_of _ (by decide +kernel)) ggX3_pass_X3_in
set_option maxRecDepth 20000 in
theorem ggX3_pass_X3_passes : GoodIn wsX3_pass wsX3_passes := goodIn_ca (goodIn_r _ [10, 1, 11, 12, 13, 14, 15, 16, 17, 18, 5, 19, 20, 21, 22, 23, 24, 25, 26, 27, 28, 29, 30, 31, 32, 33, 34, 35, 36, 37, 38, 39, 40, 41, 42, 43, 44, 45, 46, 47, 48, 49, 50, 51, 52, 53, 54, 55, 56, 57, 58, 59, 60, 61, 62, 63, 64, 65, 66, 67, 68, 69] (by decide +kernel) (by decide +kernel)) (goodIn_sub (fun _ h => List.mem_cons_of_mem _ (List.mem_append_right _ h)) (by decide +kernel))
set_option maxRecDepth 20000 in
theorem gX3_pass_X3_passes : GoodIn wsX3_pass (wsV RX3 125 RX3 yX3_passes wsX3_passes) := goodIn_app (goodIn_of _ (by decide +kernel)) ggX3_pass_X3_passes
theorem dX3_pass_0 : decode cX3_pass 0 = .ok (.aload_n 0, 1) := by decide +kernel
theorem dX3_pass_1 : decode cX3_pass 1 = .ok (.iload_n 1, 1) := by decide +kernel
theorem dX3_pass_2 : decode cX3_pass 2 = .ok (.iconst 1, 1) := by decide +kernel
theorem dX3_pass_3 : decode cX3_pass 3 = .ok (.bipush 30, 2) := by decide +kernel
theorem dX3_pass_5 : decode cX3_pass 5 = .ok (.invokestatic 64, 3) := by decide +kernel
theorem dX3_pass_8 : decode cX3_pass 8 = .ok (.ifCond .eq 19, 3) := by decide +kernel
theorem dX3_pass_11 : decode cX3_pass 11 = .ok (.aload_n 0, 1) := by decide +kernel
theorem dX3_pass_12 : decode cX3_pass 12 = .ok (.getfield 71, 3) := by decide +kernel
theorem dX3_pass_15 : decode cX3_pass 15 = .ok (.iload_n 1, 1) := by decide +kernel
theorem dX3_pass_16 : decode cX3_pass 16 = .ok (.iadd, 1) := by decide +kernel
theorem dX3_pass_17 : decode cX3_pass 17 = .ok (.sipush 999, 3) := by decide +kernel
theorem dX3_pass_20 : decode cX3_pass 20 = .ok (.if_icmp .gt 7, 3) := by decide +kernel
theorem dX3_pass_23 : decode cX3_pass 23 = .ok (.iconst 0, 1) := by decide +kernel
theorem dX3_pass_24 : decode cX3_pass 24 = .ok (.goto 4, 3) := by decide +kernel
theorem dX3_pass_27 : decode cX3_pass 27 = .ok (.iconst 1, 1) := by decide +kernel
theorem dX3_pass_28 : decode cX3_pass 28 = .ok (.putfield 57, 3) := by decide +kernel
theorem dX3_pass_31 : decode cX3_pass 31 = .ok (.iconst 0, 1) := by decide +kernel
theorem dX3_pass_32 : decode cX3_pass 32 = .ok (.istore_n 2, 1) := by decide +kernel
theorem dX3_pass_33 : decode cX3_pass 33 = .ok (.iconst 0, 1) := by decide +kernel
theorem dX3_pass_34 : decode cX3_pass 34 = .ok (.istore_n 3, 1) := by decide +kernel
theorem dX3_pass_35 : decode cX3_pass 35 = .ok (.iload_n 3, 1) := by decide +kernel
theorem dX3_pass_36 : decode cX3_pass 36 = .ok (.iload_n 1, 1) := by decide +kernel
theorem dX3_pass_37 : decode cX3_pass 37 = .ok (.if_icmp .ge 23, 3) := by decide +kernel
theorem dX3_pass_40 : decode cX3_pass 40 = .ok (.aload_n 0, 1) := by decide +kernel
theorem dX3_pass_41 : decode cX3_pass 41 = .ok (.getfield 57, 3) := by decide +kernel
theorem dX3_pass_44 : decode cX3_pass 44 = .ok (.ifCond .ne 16, 3) := by decide +kernel
theorem dX3_pass_47 : decode cX3_pass 47 = .ok (.iload_n 2, 1) := by decide +kernel
theorem dX3_pass_48 : decode cX3_pass 48 = .ok (.aload_n 0, 1) := by decide +kernel
theorem dX3_pass_49 : decode cX3_pass 49 = .ok (.invokevirtual 125, 3) := by decide +kernel
theorem dX3_pass_52 : decode cX3_pass 52 = .ok (.iadd, 1) := by decide +kernel
theorem dX3_pass_53 : decode cX3_pass 53 = .ok (.istore_n 2, 1) := by decide +kernel
theorem dX3_pass_54 : decode cX3_pass 54 = .ok (.iinc 3 1, 3) := by decide +kernel
theorem dX3_pass_57 : decode cX3_pass 57 = .ok (.goto (-22), 3) := by decide +kernel
theorem dX3_pass_60 : decode cX3_pass 60 = .ok (.iload_n 2, 1) := by decide +kernel
theorem dX3_pass_61 : decode cX3_pass 61 = .ok (.ireturn, 1) := by decide +kernel
theorem dX3_day_0 : decode cX3_day 0 = .ok (.aload_n 0, 1) := by decide +kernel
theorem dX3_day_1 : decode cX3_day 1 = .ok (.iconst 0, 1) := by decide +kernel
theorem dX3_day_2 : decode cX3_day 2 = .ok (.putfield 57, 3) := by decide +kernel
theorem dX3_day_5 : decode cX3_day 5 = .ok (.aload_n 0, 1) := by decide +kernel
theorem dX3_day_6 : decode cX3_day 6 = .ok (.getfield 71, 3) := by decide +kernel
theorem dX3_day_9 : decode cX3_day 9 = .ok (.ireturn, 1) := by decide +kernel
set_option maxRecDepth 20000 in
theorem ggX3_count_X3_in_ : GoodIn wsX3_count wsX3_in_ := goodIn_ca (goodIn_r _ [6, 7, 8, 9, 10, 11, 12, 13, 14, 15, 16, 17, 18, 19, 20, 21, 22, 23, 24, 25, 26, 27] (by decide +kernel) (by decide +kernel)) (goodIn_sub (fun _ h => List.mem_cons_of_mem _ (List.mem_append_right _ h)) (by decide +kernel))
set_option maxRecDepth 20000 in
theorem gX3_count_X3_in_ : GoodIn wsX3_count (wsV RX3 122 RX3 yX3_in_ wsX3_in_) := goodIn_app (goodIn_of _ (by decide +kernel)) ggX3_count_X3_in_
theorem dX3_count_0 : decode cX3_count 0 = .ok (.aload_n 0, 1) := by decide +kernel
theorem dX3_count_1 : decode cX3_count 1 = .ok (.iload_n 1, 1) := by decide +kernel
theorem dX3_count_2 : decode cX3_count 2 = .ok (.bipush 104, 2) := by decide +kernel
theorem dX3_count_4 : decode cX3_count 4 = .ok (.if_icmp .eq 27, 3) := by decide +kernel
theorem dX3_count_7 : decode cX3_count 7 = .ok (.iload_n 1, 1) := by decide +kernel
theorem dX3_count_8 : decode cX3_count 8 = .ok (.bipush 119, 2) := by decide +kernel
theorem dX3_count_10 : decode cX3_count 10 = .ok (.if_icmp .eq 21, 3) := by decide +kernel
theorem dX3_count_13 : decode cX3_count 13 = .ok (.iload_n 1, 1) := by decide +kernel
theorem dX3_count_14 : decode cX3_count 14 = .ok (.bipush 116, 2) := by decide +kernel
theorem dX3_count_16 : decode cX3_count 16 = .ok (.if_icmp .eq 15, 3) := by decide +kernel
theorem dX3_count_19 : decode cX3_count 19 = .ok (.iload_n 1, 1) := by decide +kernel
theorem dX3_count_20 : decode cX3_count 20 = .ok (.bipush 100, 2) := by decide +kernel
theorem dX3_count_22 : decode cX3_count 22 = .ok (.if_icmp .eq 9, 3) := by decide +kernel
theorem dX3_count_25 : decode cX3_count 25 = .ok (.iload_n 1, 1) := by decide +kernel
theorem dX3_count_26 : decode cX3_count 26 = .ok (.bipush 120, 2) := by decide +kernel
theorem dX3_count_28 : decode cX3_count 28 = .ok (.if_icmp .ne 7, 3) := by decide +kernel
theorem dX3_count_31 : decode cX3_count 31 = .ok (.iconst 0, 1) := by decide +kernel
theorem dX3_count_32 : decode cX3_count 32 = .ok (.goto 4, 3) := by decide +kernel
theorem dX3_count_35 : decode cX3_count 35 = .ok (.iconst 1, 1) := by decide +kernel
theorem dX3_count_36 : decode cX3_count 36 = .ok (.putfield 57, 3) := by decide +kernel
theorem dX3_count_39 : decode cX3_count 39 = .ok (.aload_n 0, 1) := by decide +kernel
theorem dX3_count_40 : decode cX3_count 40 = .ok (.getfield 57, 3) := by decide +kernel
theorem dX3_count_43 : decode cX3_count 43 = .ok (.ifCond .le 7, 3) := by decide +kernel
theorem dX3_count_46 : decode cX3_count 46 = .ok (.iconst 0, 1) := by decide +kernel
theorem dX3_count_47 : decode cX3_count 47 = .ok (.goto 8, 3) := by decide +kernel
theorem dX3_count_50 : decode cX3_count 50 = .ok (.aload_n 0, 1) := by decide +kernel
theorem dX3_count_51 : decode cX3_count 51 = .ok (.iload_n 1, 1) := by decide +kernel
theorem dX3_count_52 : decode cX3_count 52 = .ok (.invokevirtual 122, 3) := by decide +kernel
theorem dX3_count_55 : decode cX3_count 55 = .ok (.ireturn, 1) := by decide +kernel
set_option maxRecDepth 20000 in
theorem ggX3_doneShare_X3_in_ : GoodIn wsX3_doneShare wsX3_in_ := goodIn_ca (goodIn_r _ [7, 1, 8, 9, 10, 11, 12, 13, 14, 15, 16, 17, 18, 19, 20, 21, 22, 23, 24, 25, 26, 27] (by decide +kernel) (by decide +kernel)) (goodIn_sub (fun _ h => List.mem_cons_of_mem _ (List.mem_append_right _ h)) (by decide +kernel))
set_option maxRecDepth 20000 in
theorem gX3_doneShare_X3_in_ : GoodIn wsX3_doneShare (wsV RX3 122 RX3 yX3_in_ wsX3_in_) := goodIn_app (goodIn_of _ (by decide +kernel)) ggX3_doneShare_X3_in_
theorem dX3_doneShare_0 : decode cX3_doneShare 0 = .ok (.aload_n 0, 1) := by decide +kernel
theorem dX3_doneShare_1 : decode cX3_doneShare 1 = .ok (.aload_n 0, 1) := by decide +kernel
theorem dX3_doneShare_2 : decode cX3_doneShare 2 = .ok (.getfield 68, 3) := by decide +kernel
theorem dX3_doneShare_5 : decode cX3_doneShare 5 = .ok (.ifCond .ne 7, 3) := by decide +kernel
theorem dX3_doneShare_8 : decode cX3_doneShare 8 = .ok (.iconst 1, 1) := by decide +kernel
theorem dX3_doneShare_9 : decode cX3_doneShare 9 = .ok (.goto 4, 3) := by decide +kernel
theorem dX3_doneShare_12 : decode cX3_doneShare 12 = .ok (.iconst 0, 1) := by decide +kernel
theorem dX3_doneShare_13 : decode cX3_doneShare 13 = .ok (.putfield 57, 3) := by decide +kernel
theorem dX3_doneShare_16 : decode cX3_doneShare 16 = .ok (.aload_n 0, 1) := by decide +kernel
theorem dX3_doneShare_17 : decode cX3_doneShare 17 = .ok (.getfield 57, 3) := by decide +kernel
theorem dX3_doneShare_20 : decode cX3_doneShare 20 = .ok (.ifCond .le 7, 3) := by decide +kernel
theorem dX3_doneShare_23 : decode cX3_doneShare 23 = .ok (.fconst 0, 1) := by decide +kernel
theorem dX3_doneShare_24 : decode cX3_doneShare 24 = .ok (.goto 16, 3) := by decide +kernel
theorem dX3_doneShare_27 : decode cX3_doneShare 27 = .ok (.aload_n 0, 1) := by decide +kernel
theorem dX3_doneShare_28 : decode cX3_doneShare 28 = .ok (.bipush 100, 2) := by decide +kernel
theorem dX3_doneShare_30 : decode cX3_doneShare 30 = .ok (.invokevirtual 122, 3) := by decide +kernel
theorem dX3_doneShare_33 : decode cX3_doneShare 33 = .ok (.i2f, 1) := by decide +kernel
theorem dX3_doneShare_34 : decode cX3_doneShare 34 = .ok (.aload_n 0, 1) := by decide +kernel
theorem dX3_doneShare_35 : decode cX3_doneShare 35 = .ok (.getfield 68, 3) := by decide +kernel
theorem dX3_doneShare_38 : decode cX3_doneShare 38 = .ok (.i2f, 1) := by decide +kernel
theorem dX3_doneShare_39 : decode cX3_doneShare 39 = .ok (.fdiv, 1) := by decide +kernel
theorem dX3_doneShare_40 : decode cX3_doneShare 40 = .ok (.freturn, 1) := by decide +kernel
theorem dX3_meanAmount_0 : decode cX3_meanAmount 0 = .ok (.iconst 0, 1) := by decide +kernel
theorem dX3_meanAmount_1 : decode cX3_meanAmount 1 = .ok (.istore_n 1, 1) := by decide +kernel
theorem dX3_meanAmount_2 : decode cX3_meanAmount 2 = .ok (.iconst 0, 1) := by decide +kernel
theorem dX3_meanAmount_3 : decode cX3_meanAmount 3 = .ok (.istore_n 2, 1) := by decide +kernel
theorem dX3_meanAmount_4 : decode cX3_meanAmount 4 = .ok (.iconst 0, 1) := by decide +kernel
theorem dX3_meanAmount_5 : decode cX3_meanAmount 5 = .ok (.istore_n 3, 1) := by decide +kernel
theorem dX3_meanAmount_6 : decode cX3_meanAmount 6 = .ok (.iload_n 3, 1) := by decide +kernel
theorem dX3_meanAmount_7 : decode cX3_meanAmount 7 = .ok (.aload_n 0, 1) := by decide +kernel
theorem dX3_meanAmount_8 : decode cX3_meanAmount 8 = .ok (.getfield 61, 3) := by decide +kernel
theorem dX3_meanAmount_11 : decode cX3_meanAmount 11 = .ok (.if_icmp .ge 35, 3) := by decide +kernel
theorem dX3_meanAmount_14 : decode cX3_meanAmount 14 = .ok (.iload_n 1, 1) := by decide +kernel
theorem dX3_meanAmount_15 : decode cX3_meanAmount 15 = .ok (.aload_n 0, 1) := by decide +kernel
theorem dX3_meanAmount_16 : decode cX3_meanAmount 16 = .ok (.getfield 9, 3) := by decide +kernel
theorem dX3_meanAmount_19 : decode cX3_meanAmount 19 = .ok (.iload_n 3, 1) := by decide +kernel
theorem dX3_meanAmount_20 : decode cX3_meanAmount 20 = .ok (.iaload, 1) := by decide +kernel
theorem dX3_meanAmount_21 : decode cX3_meanAmount 21 = .ok (.iadd, 1) := by decide +kernel
theorem dX3_meanAmount_22 : decode cX3_meanAmount 22 = .ok (.istore_n 1, 1) := by decide +kernel
theorem dX3_meanAmount_23 : decode cX3_meanAmount 23 = .ok (.iload_n 2, 1) := by decide +kernel
theorem dX3_meanAmount_24 : decode cX3_meanAmount 24 = .ok (.aload_n 0, 1) := by decide +kernel
theorem dX3_meanAmount_25 : decode cX3_meanAmount 25 = .ok (.getfield 9, 3) := by decide +kernel
theorem dX3_meanAmount_28 : decode cX3_meanAmount 28 = .ok (.iload_n 3, 1) := by decide +kernel
theorem dX3_meanAmount_29 : decode cX3_meanAmount 29 = .ok (.iaload, 1) := by decide +kernel
theorem dX3_meanAmount_30 : decode cX3_meanAmount 30 = .ok (.ifCond .le 7, 3) := by decide +kernel
theorem dX3_meanAmount_33 : decode cX3_meanAmount 33 = .ok (.iconst 1, 1) := by decide +kernel
theorem dX3_meanAmount_34 : decode cX3_meanAmount 34 = .ok (.goto 4, 3) := by decide +kernel
theorem dX3_meanAmount_37 : decode cX3_meanAmount 37 = .ok (.iconst 0, 1) := by decide +kernel
theorem dX3_meanAmount_38 : decode cX3_meanAmount 38 = .ok (.iadd, 1) := by decide +kernel
theorem dX3_meanAmount_39 : decode cX3_meanAmount 39 = .ok (.istore_n 2, 1) := by decide +kernel
theorem dX3_meanAmount_40 : decode cX3_meanAmount 40 = .ok (.iinc 3 1, 3) := by decide +kernel
theorem dX3_meanAmount_43 : decode cX3_meanAmount 43 = .ok (.goto (-37), 3) := by decide +kernel
theorem dX3_meanAmount_46 : decode cX3_meanAmount 46 = .ok (.aload_n 0, 1) := by decide +kernel
theorem dX3_meanAmount_47 : decode cX3_meanAmount 47 = .ok (.iload_n 2, 1) := by decide +kernel
theorem dX3_meanAmount_48 : decode cX3_meanAmount 48 = .ok (.ifCond .ne 7, 3) := by decide +kernel
theorem dX3_meanAmount_51 : decode cX3_meanAmount 51 = .ok (.iconst 1, 1) := by decide +kernel
theorem dX3_meanAmount_52 : decode cX3_meanAmount 52 = .ok (.goto 4, 3) := by decide +kernel
theorem dX3_meanAmount_55 : decode cX3_meanAmount 55 = .ok (.iconst 0, 1) := by decide +kernel
theorem dX3_meanAmount_56 : decode cX3_meanAmount 56 = .ok (.putfield 57, 3) := by decide +kernel
theorem dX3_meanAmount_59 : decode cX3_meanAmount 59 = .ok (.aload_n 0, 1) := by decide +kernel
theorem dX3_meanAmount_60 : decode cX3_meanAmount 60 = .ok (.getfield 57, 3) := by decide +kernel
theorem dX3_meanAmount_63 : decode cX3_meanAmount 63 = .ok (.ifCond .le 7, 3) := by decide +kernel
theorem dX3_meanAmount_66 : decode cX3_meanAmount 66 = .ok (.dconst 0, 1) := by decide +kernel
theorem dX3_meanAmount_67 : decode cX3_meanAmount 67 = .ok (.goto 8, 3) := by decide +kernel
theorem dX3_meanAmount_70 : decode cX3_meanAmount 70 = .ok (.iload_n 1, 1) := by decide +kernel
theorem dX3_meanAmount_71 : decode cX3_meanAmount 71 = .ok (.i2d, 1) := by decide +kernel
theorem dX3_meanAmount_72 : decode cX3_meanAmount 72 = .ok (.iload_n 2, 1) := by decide +kernel
theorem dX3_meanAmount_73 : decode cX3_meanAmount 73 = .ok (.i2d, 1) := by decide +kernel
theorem dX3_meanAmount_74 : decode cX3_meanAmount 74 = .ok (.ddiv, 1) := by decide +kernel
theorem dX3_meanAmount_75 : decode cX3_meanAmount 75 = .ok (.dreturn, 1) := by decide +kernel
theorem dJx00060_init_a7421_0 : decode cJx00060_init_a7421 0 = .ok (.aload_n 0, 1) := by decide +kernel
theorem dJx00060_init_a7421_1 : decode cJx00060_init_a7421 1 = .ok (.aload_n 1, 1) := by decide +kernel
theorem dJx00060_init_a7421_2 : decode cJx00060_init_a7421 2 = .ok (.invokespecial 7, 3) := by decide +kernel
theorem dJx00060_init_a7421_5 : decode cJx00060_init_a7421 5 = .ok (.return_, 1) := by decide +kernel
theorem dJ9_max_7cf53_0 : decode cJ9_max_7cf53 0 = .ok (.iload_n 0, 1) := by decide +kernel
theorem dJ9_max_7cf53_1 : decode cJ9_max_7cf53 1 = .ok (.iload_n 1, 1) := by decide +kernel
theorem dJ9_max_7cf53_2 : decode cJ9_max_7cf53 2 = .ok (.if_icmp .lt 7, 3) := by decide +kernel
theorem dJ9_max_7cf53_5 : decode cJ9_max_7cf53 5 = .ok (.iload_n 0, 1) := by decide +kernel
theorem dJ9_max_7cf53_6 : decode cJ9_max_7cf53 6 = .ok (.goto 4, 3) := by decide +kernel
theorem dJ9_max_7cf53_9 : decode cJ9_max_7cf53 9 = .ok (.iload_n 1, 1) := by decide +kernel
theorem dJ9_max_7cf53_10 : decode cJ9_max_7cf53 10 = .ok (.ireturn, 1) := by decide +kernel
set_option maxRecDepth 20000 in
theorem ggL_open_X2_open : GoodIn wsL_open wsX2_open := goodIn_ca (goodIn_ca (goodIn_ca (goodIn_r _ [7, 8, 9, 10, 11, 12, 13, 14, 15, 16, 6, 17, 18, 19, 20, 21, 22, 23, 24, 25, 26, 27, 28, 29, 30, 31, 32, 33, 34, 35, 36, 37, 38, 39, 40, 41, 42, 43, 44, 45, 46, 47, 48, 49, 50, 51, 52, 53, 54, 55, 56, 57, 58, 59, 60, 61, 62, 63] (by decide +kernel) (by decide +kernel)) (goodIn_sub (fun _ h => List.mem_cons_of_mem _ (List.mem_append_left _ (List.mem_append_right _ h))) (by decide +kernel))) (goodIn_sub (fun _ h => List.mem_cons_of_mem _ (List.mem_append_right _ h)) (by decide +kernel))) (goodIn_sub (fun _ h => List.mem_cons_of_mem _ (List.mem_append_left _ (List.mem_append_left _ (List.mem_append_right _ h)))) (by decide +kernel))
set_option maxRecDepth 20000 in
theorem gL_open_X2_open : GoodIn wsL_open (wsV RL 7 RX2 yX2_open wsX2_open) := goodIn_app (goodIn_of _ (by decide +kernel)) ggL_open_X2_open
end
section
theorem dL_open_0 : decode cL_open 0 = .ok (.aload_n 3, 1) := by decide +kernel
theorem dL_open_1 : decode cL_open 1 = .ok (.iconst 0, 1) := by decide +kernel
theorem dL_open_2 : decode cL_open 2 = .ok (.aload_n 0, 1) := by decide +kernel
theorem dL_open_3 : decode cL_open 3 = .ok (.iload_n 1, 1) := by decide +kernel
theorem dL_open_4 : decode cL_open 4 = .ok (.iload_n 2, 1) := by decide +kernel
theorem dL_open_5 : decode cL_open 5 = .ok (.invokevirtual 7, 3) := by decide +kernel
theorem dL_open_8 : decode cL_open 8 = .ok (.i2l, 1) := by decide +kernel
theorem dL_open_9 : decode cL_open 9 = .ok (.lastore, 1) := by decide +kernel
theorem dL_open_10 : decode cL_open 10 = .ok (.goto 11, 3) := by decide +kernel
theorem dL_open_13 : decode cL_open 13 = .ok (.astore 4, 2) := by decide +kernel
theorem dL_open_15 : decode cL_open 15 = .ok (.iconst 1, 1) := by decide +kernel
theorem dL_open_16 : decode cL_open 16 = .ok (.ireturn, 1) := by decide +kernel
theorem dL_open_17 : decode cL_open 17 = .ok (.astore 4, 2) := by decide +kernel
theorem dL_open_19 : decode cL_open 19 = .ok (.iconst 2, 1) := by decide +kernel
theorem dL_open_20 : decode cL_open 20 = .ok (.ireturn, 1) := by decide +kernel
theorem dL_open_21 : decode cL_open 21 = .ok (.iconst 0, 1) := by decide +kernel
theorem dL_open_22 : decode cL_open 22 = .ok (.ireturn, 1) := by decide +kernel
set_option maxRecDepth 20000 in
theorem ggL_amount_X2_amount : GoodIn wsL_amount wsX2_amount := goodIn_ca (goodIn_ca (goodIn_r _ [6, 7, 8, 9, 10, 5, 11, 12, 13, 14, 15, 16, 17, 18, 19, 20, 21, 22, 23, 24, 25, 26, 27, 28] (by decide +kernel) (by decide +kernel)) (goodIn_sub (fun _ h => List.mem_cons_of_mem _ (List.mem_append_left _ (List.mem_append_right _ h))) (by decide +kernel))) (goodIn_sub (fun _ h => List.mem_cons_of_mem _ (List.mem_append_right _ h)) (by decide +kernel))
set_option maxRecDepth 20000 in
theorem gL_amount_X2_amount : GoodIn wsL_amount (wsV RL 17 RX2 yX2_amount wsX2_amount) := goodIn_app (goodIn_of _ (by decide +kernel)) ggL_amount_X2_amount
theorem dL_amount_0 : decode cL_amount 0 = .ok (.aload_n 2, 1) := by decide +kernel
theorem dL_amount_1 : decode cL_amount 1 = .ok (.iconst 0, 1) := by decide +kernel
theorem dL_amount_2 : decode cL_amount 2 = .ok (.aload_n 0, 1) := by decide +kernel
theorem dL_amount_3 : decode cL_amount 3 = .ok (.iload_n 1, 1) := by decide +kernel
theorem dL_amount_4 : decode cL_amount 4 = .ok (.invokevirtual 17, 3) := by decide +kernel
theorem dL_amount_7 : decode cL_amount 7 = .ok (.i2l, 1) := by decide +kernel
theorem dL_amount_8 : decode cL_amount 8 = .ok (.lastore, 1) := by decide +kernel
theorem dL_amount_9 : decode cL_amount 9 = .ok (.goto 6, 3) := by decide +kernel
theorem dL_amount_12 : decode cL_amount 12 = .ok (.astore_n 3, 1) := by decide +kernel
theorem dL_amount_13 : decode cL_amount 13 = .ok (.iconst 1, 1) := by decide +kernel
theorem dL_amount_14 : decode cL_amount 14 = .ok (.ireturn, 1) := by decide +kernel
theorem dL_amount_15 : decode cL_amount 15 = .ok (.iconst 0, 1) := by decide +kernel
theorem dL_amount_16 : decode cL_amount 16 = .ok (.ireturn, 1) := by decide +kernel
set_option maxRecDepth 20000 in
theorem ggL_pause_X2_pause : GoodIn wsL_pause wsX2_pause := goodIn_ca (goodIn_ca (goodIn_ca (goodIn_ca (goodIn_r _ [8, 9, 10, 11, 12, 13, 14, 15, 7, 16, 17, 18, 19, 20, 21, 22, 23, 24, 25, 26, 27, 28, 29, 30, 31, 32, 33, 34, 35, 36, 37, 38, 39, 40, 41, 42, 43, 44, 45, 46, 47, 48, 49, 50, 51, 52, 53, 54] (by decide +kernel) (by decide +kernel)) (goodIn_sub (fun _ h => List.mem_cons_of_mem _ (List.mem_append_left _ (List.mem_append_left _ (List.mem_append_right _ h)))) (by decide +kernel))) (goodIn_sub (fun _ h => List.mem_cons_of_mem _ (List.mem_append_left _ (List.mem_append_right _ h))) (by decide +kernel))) (goodIn_sub (fun _ h => List.mem_cons_of_mem _ (List.mem_append_right _ h)) (by decide +kernel))) (goodIn_sub (fun _ h => List.mem_cons_of_mem _ (List.mem_append_left _ (List.mem_append_left _ (List.mem_append_left _ (List.mem_append_right _ h))))) (by decide +kernel))
set_option maxRecDepth 20000 in
theorem gL_pause_X2_pause : GoodIn wsL_pause (wsV RL 23 RX2 yX2_pause wsX2_pause) := goodIn_app (goodIn_of _ (by decide +kernel)) ggL_pause_X2_pause
theorem dL_pause_0 : decode cL_pause 0 = .ok (.aload_n 3, 1) := by decide +kernel
theorem dL_pause_1 : decode cL_pause 1 = .ok (.iconst 0, 1) := by decide +kernel
theorem dL_pause_2 : decode cL_pause 2 = .ok (.aload_n 0, 1) := by decide +kernel
theorem dL_pause_3 : decode cL_pause 3 = .ok (.iload_n 1, 1) := by decide +kernel
theorem dL_pause_4 : decode cL_pause 4 = .ok (.iload_n 2, 1) := by decide +kernel
theorem dL_pause_5 : decode cL_pause 5 = .ok (.invokevirtual 23, 3) := by decide +kernel
theorem dL_pause_8 : decode cL_pause 8 = .ok (.i2l, 1) := by decide +kernel
theorem dL_pause_9 : decode cL_pause 9 = .ok (.lastore, 1) := by decide +kernel
theorem dL_pause_10 : decode cL_pause 10 = .ok (.goto 15, 3) := by decide +kernel
theorem dL_pause_13 : decode cL_pause 13 = .ok (.astore 4, 2) := by decide +kernel
theorem dL_pause_15 : decode cL_pause 15 = .ok (.iconst 1, 1) := by decide +kernel
theorem dL_pause_16 : decode cL_pause 16 = .ok (.ireturn, 1) := by decide +kernel
theorem dL_pause_17 : decode cL_pause 17 = .ok (.astore 4, 2) := by decide +kernel
theorem dL_pause_19 : decode cL_pause 19 = .ok (.iconst 2, 1) := by decide +kernel
theorem dL_pause_20 : decode cL_pause 20 = .ok (.ireturn, 1) := by decide +kernel
theorem dL_pause_21 : decode cL_pause 21 = .ok (.astore 4, 2) := by decide +kernel
theorem dL_pause_23 : decode cL_pause 23 = .ok (.iconst 3, 1) := by decide +kernel
theorem dL_pause_24 : decode cL_pause 24 = .ok (.ireturn, 1) := by decide +kernel
theorem dL_pause_25 : decode cL_pause 25 = .ok (.iconst 0, 1) := by decide +kernel
theorem dL_pause_26 : decode cL_pause 26 = .ok (.ireturn, 1) := by decide +kernel
set_option maxRecDepth 20000 in
theorem ggL_awaitNote_X2_awaitNote : GoodIn wsL_awaitNote wsX2_awaitNote := goodIn_ca (goodIn_ca (goodIn_ca (goodIn_r _ [7, 8, 9, 10, 11, 6, 12, 13, 14, 15, 16, 17, 18, 19, 20, 21, 22, 23, 24, 25, 26, 27, 28, 29, 30, 31, 32, 33, 34, 35, 36, 37, 38, 39] (by decide +kernel) (by decide +kernel)) (goodIn_sub (fun _ h => List.mem_cons_of_mem _ (List.mem_append_left _ (List.mem_append_left _ (List.mem_append_right _ h)))) (by decide +kernel))) (goodIn_sub (fun _ h => List.mem_cons_of_mem _ (List.mem_append_left _ (List.mem_append_right _ h))) (by decide +kernel))) (goodIn_sub (fun _ h => List.mem_cons_of_mem _ (List.mem_append_right _ h)) (by decide +kernel))
set_option maxRecDepth 20000 in
theorem gL_awaitNote_X2_awaitNote : GoodIn wsL_awaitNote (wsV RL 26 RX2 yX2_awaitNote wsX2_awaitNote) := goodIn_app (goodIn_of _ (by decide +kernel)) ggL_awaitNote_X2_awaitNote
theorem dL_awaitNote_0 : decode cL_awaitNote 0 = .ok (.aload_n 2, 1) := by decide +kernel
theorem dL_awaitNote_1 : decode cL_awaitNote 1 = .ok (.iconst 0, 1) := by decide +kernel
theorem dL_awaitNote_2 : decode cL_awaitNote 2 = .ok (.aload_n 0, 1) := by decide +kernel
theorem dL_awaitNote_3 : decode cL_awaitNote 3 = .ok (.iload_n 1, 1) := by decide +kernel
theorem dL_awaitNote_4 : decode cL_awaitNote 4 = .ok (.invokevirtual 26, 3) := by decide +kernel
theorem dL_awaitNote_7 : decode cL_awaitNote 7 = .ok (.ifCond .eq 7, 3) := by decide +kernel
theorem dL_awaitNote_10 : decode cL_awaitNote 10 = .ok (.lconst 1, 1) := by decide +kernel
theorem dL_awaitNote_11 : decode cL_awaitNote 11 = .ok (.goto 4, 3) := by decide +kernel
theorem dL_awaitNote_14 : decode cL_awaitNote 14 = .ok (.lconst 0, 1) := by decide +kernel
theorem dL_awaitNote_15 : decode cL_awaitNote 15 = .ok (.lastore, 1) := by decide +kernel
theorem dL_awaitNote_16 : decode cL_awaitNote 16 = .ok (.goto 9, 3) := by decide +kernel
theorem dL_awaitNote_19 : decode cL_awaitNote 19 = .ok (.astore_n 3, 1) := by decide +kernel
theorem dL_awaitNote_20 : decode cL_awaitNote 20 = .ok (.iconst 1, 1) := by decide +kernel
theorem dL_awaitNote_21 : decode cL_awaitNote 21 = .ok (.ireturn, 1) := by decide +kernel
theorem dL_awaitNote_22 : decode cL_awaitNote 22 = .ok (.astore_n 3, 1) := by decide +kernel
theorem dL_awaitNote_23 : decode cL_awaitNote 23 = .ok (.iconst 2, 1) := by decide +kernel
theorem dL_awaitNote_24 : decode cL_awaitNote 24 = .ok (.ireturn, 1) := by decide +kernel
theorem dL_awaitNote_25 : decode cL_awaitNote 25 = .ok (.iconst 0, 1) := by decide +kernel
theorem dL_awaitNote_26 : decode cL_awaitNote 26 = .ok (.ireturn, 1) := by decide +kernel
set_option maxRecDepth 20000 in
theorem ggL_letters_X2_letters : GoodIn wsL_letters wsX2_letters := goodIn_ca (goodIn_ca (goodIn_r _ [6, 7, 8, 9, 10, 5, 11, 12, 13, 14, 15, 16, 17, 18, 19, 20, 21, 22, 23, 24, 25, 26, 27, 28] (by decide +kernel) (by decide +kernel)) (goodIn_sub (fun _ h => List.mem_cons_of_mem _ (List.mem_append_left _ (List.mem_append_right _ h))) (by decide +kernel))) (goodIn_sub (fun _ h => List.mem_cons_of_mem _ (List.mem_append_right _ h)) (by decide +kernel))
set_option maxRecDepth 20000 in
theorem gL_letters_X2_letters : GoodIn wsL_letters (wsV RL 30 RX2 yX2_letters wsX2_letters) := goodIn_app (goodIn_of _ (by decide +kernel)) ggL_letters_X2_letters
theorem dL_letters_0 : decode cL_letters 0 = .ok (.aload_n 2, 1) := by decide +kernel
theorem dL_letters_1 : decode cL_letters 1 = .ok (.iconst 0, 1) := by decide +kernel
theorem dL_letters_2 : decode cL_letters 2 = .ok (.aload_n 0, 1) := by decide +kernel
theorem dL_letters_3 : decode cL_letters 3 = .ok (.iload_n 1, 1) := by decide +kernel
theorem dL_letters_4 : decode cL_letters 4 = .ok (.invokevirtual 30, 3) := by decide +kernel
theorem dL_letters_7 : decode cL_letters 7 = .ok (.i2l, 1) := by decide +kernel
theorem dL_letters_8 : decode cL_letters 8 = .ok (.lastore, 1) := by decide +kernel
theorem dL_letters_9 : decode cL_letters 9 = .ok (.goto 6, 3) := by decide +kernel
theorem dL_letters_12 : decode cL_letters 12 = .ok (.astore_n 3, 1) := by decide +kernel
theorem dL_letters_13 : decode cL_letters 13 = .ok (.iconst 1, 1) := by decide +kernel
theorem dL_letters_14 : decode cL_letters 14 = .ok (.ireturn, 1) := by decide +kernel
theorem dL_letters_15 : decode cL_letters 15 = .ok (.iconst 0, 1) := by decide +kernel
theorem dL_letters_16 : decode cL_letters 16 = .ok (.ireturn, 1) := by decide +kernel
set_option maxRecDepth 20000 in
theorem ggL_lettersByMessages_X2_lettersByMessages : GoodIn wsL_lettersByMessages wsX2_lettersByMessages := goodIn_ca (goodIn_ca (goodIn_r _ [6, 7, 8, 9, 10, 11, 5, 12, 13, 14, 15, 16, 17, 18, 19, 20, 21, 22, 23, 24, 25, 26, 27, 28, 29, 30, 31, 32, 33, 34, 35, 36, 37, 38, 39, 40, 41, 42, 43, 44, 45, 46, 47, 48, 49, 50, 51, 52, 53, 54, 55, 56, 57, 58, 59, 60] (by decide +kernel) (by decide +kernel)) (goodIn_sub (fun _ h => List.mem_cons_of_mem _ (List.mem_append_left _ (List.mem_append_right _ h))) (by decide +kernel))) (goodIn_sub (fun _ h => List.mem_cons_of_mem _ (List.mem_append_right _ h)) (by decide +kernel))
set_option maxRecDepth 20000 in
theorem gL_lettersByMessages_X2_lettersByMessages : GoodIn wsL_lettersByMessages (wsV RL 33 RX2 yX2_lettersByMessages wsX2_lettersByMessages) := goodIn_app (goodIn_of _ (by decide +kernel)) ggL_lettersByMessages_X2_lettersByMessages
theorem dL_lettersByMessages_0 : decode cL_lettersByMessages 0 = .ok (.aload_n 2, 1) := by decide +kernel
theorem dL_lettersByMessages_1 : decode cL_lettersByMessages 1 = .ok (.iconst 0, 1) := by decide +kernel
theorem dL_lettersByMessages_2 : decode cL_lettersByMessages 2 = .ok (.aload_n 0, 1) := by decide +kernel
theorem dL_lettersByMessages_3 : decode cL_lettersByMessages 3 = .ok (.iload_n 1, 1) := by decide +kernel
theorem dL_lettersByMessages_4 : decode cL_lettersByMessages 4 = .ok (.invokevirtual 33, 3) := by decide +kernel
theorem dL_lettersByMessages_7 : decode cL_lettersByMessages 7 = .ok (.i2l, 1) := by decide +kernel
theorem dL_lettersByMessages_8 : decode cL_lettersByMessages 8 = .ok (.lastore, 1) := by decide +kernel
theorem dL_lettersByMessages_9 : decode cL_lettersByMessages 9 = .ok (.goto 6, 3) := by decide +kernel
theorem dL_lettersByMessages_12 : decode cL_lettersByMessages 12 = .ok (.astore_n 3, 1) := by decide +kernel
theorem dL_lettersByMessages_13 : decode cL_lettersByMessages 13 = .ok (.iconst 1, 1) := by decide +kernel
theorem dL_lettersByMessages_14 : decode cL_lettersByMessages 14 = .ok (.ireturn, 1) := by decide +kernel
theorem dL_lettersByMessages_15 : decode cL_lettersByMessages 15 = .ok (.iconst 0, 1) := by decide +kernel
theorem dL_lettersByMessages_16 : decode cL_lettersByMessages 16 = .ok (.ireturn, 1) := by decide +kernel
set_option maxRecDepth 20000 in
theorem ggL_nextReminder_X2_nextReminder : GoodIn wsL_nextReminder wsX2_nextReminder := goodIn_ca (goodIn_ca (goodIn_ca (goodIn_r _ [7, 8, 9, 10, 11, 12, 13, 14, 15, 16, 17, 18, 6, 19, 20, 21, 22, 23, 24, 25, 26, 27, 28, 29, 30, 31, 32, 33, 34, 35, 36, 37, 38, 39, 40, 41, 42, 43, 44, 45, 46, 47, 48, 49, 50, 51, 52, 53, 54, 55, 56, 57, 58, 59, 60, 61, 62, 63, 64, 65, 66, 67, 68, 69, 70, 71, 72] (by decide +kernel) (by decide +kernel)) (goodIn_sub (fun _ h => List.mem_cons_of_mem _ (List.mem_append_left _ (List.mem_append_right _ h))) (by decide +kernel))) (goodIn_sub (fun _ h => List.mem_cons_of_mem _ (List.mem_append_left _ (List.mem_append_left _ (List.mem_append_right _ h)))) (by decide +kernel))) (goodIn_sub (fun _ h => List.mem_cons_of_mem _ (List.mem_append_right _ h)) (by decide +kernel))
set_option maxRecDepth 20000 in
theorem gL_nextReminder_X2_nextReminder : GoodIn wsL_nextReminder (wsV RL 36 RX2 yX2_nextReminder wsX2_nextReminder) := goodIn_app (goodIn_of _ (by decide +kernel)) ggL_nextReminder_X2_nextReminder
theorem dL_nextReminder_0 : decode cL_nextReminder 0 = .ok (.aload_n 2, 1) := by decide +kernel
theorem dL_nextReminder_1 : decode cL_nextReminder 1 = .ok (.iconst 0, 1) := by decide +kernel
theorem dL_nextReminder_2 : decode cL_nextReminder 2 = .ok (.aload_n 0, 1) := by decide +kernel
theorem dL_nextReminder_3 : decode cL_nextReminder 3 = .ok (.iload_n 1, 1) := by decide +kernel
theorem dL_nextReminder_4 : decode cL_nextReminder 4 = .ok (.invokevirtual 36, 3) := by decide +kernel
theorem dL_nextReminder_7 : decode cL_nextReminder 7 = .ok (.i2l, 1) := by decide +kernel
theorem dL_nextReminder_8 : decode cL_nextReminder 8 = .ok (.lastore, 1) := by decide +kernel
theorem dL_nextReminder_9 : decode cL_nextReminder 9 = .ok (.goto 9, 3) := by decide +kernel
theorem dL_nextReminder_12 : decode cL_nextReminder 12 = .ok (.astore_n 3, 1) := by decide +kernel
theorem dL_nextReminder_13 : decode cL_nextReminder 13 = .ok (.iconst 1, 1) := by decide +kernel
theorem dL_nextReminder_14 : decode cL_nextReminder 14 = .ok (.ireturn, 1) := by decide +kernel
theorem dL_nextReminder_15 : decode cL_nextReminder 15 = .ok (.astore_n 3, 1) := by decide +kernel
theorem dL_nextReminder_16 : decode cL_nextReminder 16 = .ok (.iconst 2, 1) := by decide +kernel
theorem dL_nextReminder_17 : decode cL_nextReminder 17 = .ok (.ireturn, 1) := by decide +kernel
theorem dL_nextReminder_18 : decode cL_nextReminder 18 = .ok (.iconst 0, 1) := by decide +kernel
theorem dL_nextReminder_19 : decode cL_nextReminder 19 = .ok (.ireturn, 1) := by decide +kernel
set_option maxRecDepth 20000 in
theorem ggL_post_X2_post : GoodIn wsL_post wsX2_post := goodIn_ca (goodIn_ca (goodIn_ca (goodIn_r _ [7, 8, 9, 10, 11, 12, 13, 14, 15, 16, 6, 17, 18, 19, 20, 21, 22, 23, 24, 25, 26, 27, 28, 29, 30, 31, 32, 33, 34, 35, 36, 37, 38, 39, 40, 41, 42, 43, 44, 45, 46, 47, 48, 49, 50, 51, 52, 53, 54, 55, 56, 57, 58, 59, 60, 61, 62, 63, 64, 65, 66] (by decide +kernel) (by decide +kernel)) (goodIn_sub (fun _ h => List.mem_cons_of_mem _ (List.mem_append_left _ (List.mem_append_right _ h))) (by decide +kernel))) (goodIn_sub (fun _ h => List.mem_cons_of_mem _ (List.mem_append_right _ h)) (by decide +kernel))) (goodIn_sub (fun _ h => List.mem_cons_of_mem _ (List.mem_append_left _ (List.mem_append_left _ (List.mem_append_right _ h)))) (by decide +kernel))
set_option maxRecDepth 20000 in
theorem gL_post_X2_post : GoodIn wsL_post (wsV RL 41 RX2 yX2_post wsX2_post) := goodIn_app (goodIn_of _ (by decide +kernel)) ggL_post_X2_post
theorem dL_post_0 : decode cL_post 0 = .ok (.aload 7, 2) := by decide +kernel
theorem dL_post_2 : decode cL_post 2 = .ok (.iconst 0, 1) := by decide +kernel
theorem dL_post_3 : decode cL_post 3 = .ok (.aload_n 0, 1) := by decide +kernel
theorem dL_post_4 : decode cL_post 4 = .ok (.iload_n 1, 1) := by decide +kernel
theorem dL_post_5 : decode cL_post 5 = .ok (.iload_n 2, 1) := by decide +kernel
theorem dL_post_6 : decode cL_post 6 = .ok (.iload_n 3, 1) := by decide +kernel
theorem dL_post_7 : decode cL_post 7 = .ok (.iload 4, 2) := by decide +kernel
theorem dL_post_9 : decode cL_post 9 = .ok (.iload 5, 2) := by decide +kernel
theorem dL_post_11 : decode cL_post 11 = .ok (.iload 6, 2) := by decide +kernel
theorem dL_post_13 : decode cL_post 13 = .ok (.invokevirtual 41, 3) := by decide +kernel
theorem dL_post_16 : decode cL_post 16 = .ok (.i2l, 1) := by decide +kernel
theorem dL_post_17 : decode cL_post 17 = .ok (.lastore, 1) := by decide +kernel
theorem dL_post_18 : decode cL_post 18 = .ok (.goto 11, 3) := by decide +kernel
theorem dL_post_21 : decode cL_post 21 = .ok (.astore 8, 2) := by decide +kernel
theorem dL_post_23 : decode cL_post 23 = .ok (.iconst 1, 1) := by decide +kernel
theorem dL_post_24 : decode cL_post 24 = .ok (.ireturn, 1) := by decide +kernel
theorem dL_post_25 : decode cL_post 25 = .ok (.astore 8, 2) := by decide +kernel
theorem dL_post_27 : decode cL_post 27 = .ok (.iconst 2, 1) := by decide +kernel
theorem dL_post_28 : decode cL_post 28 = .ok (.ireturn, 1) := by decide +kernel
theorem dL_post_29 : decode cL_post 29 = .ok (.iconst 0, 1) := by decide +kernel
theorem dL_post_30 : decode cL_post 30 = .ok (.ireturn, 1) := by decide +kernel
set_option maxRecDepth 20000 in
theorem ggL_withKey_X2_withKey : GoodIn wsL_withKey wsX2_withKey := goodIn_ca (goodIn_ca (goodIn_r _ [6, 7, 8, 9, 10, 11, 12, 13, 14, 15, 16, 17, 18, 19, 20, 21, 22, 23, 24, 25, 26, 27, 28, 29, 30, 31] (by decide +kernel) (by decide +kernel)) (goodIn_sub (fun _ h => List.mem_cons_of_mem _ (List.mem_append_right _ h)) (by decide +kernel))) (goodIn_sub (fun _ h => List.mem_cons_of_mem _ (List.mem_append_left _ (List.mem_append_right _ h))) (by decide +kernel))
set_option maxRecDepth 20000 in
theorem gL_withKey_X2_withKey : GoodIn wsL_withKey (wsV RL 45 RX2 yX2_withKey wsX2_withKey) := goodIn_app (goodIn_of _ (by decide +kernel)) ggL_withKey_X2_withKey
theorem dL_withKey_0 : decode cL_withKey 0 = .ok (.aload_n 2, 1) := by decide +kernel
theorem dL_withKey_1 : decode cL_withKey 1 = .ok (.iconst 0, 1) := by decide +kernel
theorem dL_withKey_2 : decode cL_withKey 2 = .ok (.aload_n 0, 1) := by decide +kernel
theorem dL_withKey_3 : decode cL_withKey 3 = .ok (.iload_n 1, 1) := by decide +kernel
theorem dL_withKey_4 : decode cL_withKey 4 = .ok (.invokevirtual 45, 3) := by decide +kernel
theorem dL_withKey_7 : decode cL_withKey 7 = .ok (.i2l, 1) := by decide +kernel
theorem dL_withKey_8 : decode cL_withKey 8 = .ok (.lastore, 1) := by decide +kernel
theorem dL_withKey_9 : decode cL_withKey 9 = .ok (.goto 6, 3) := by decide +kernel
theorem dL_withKey_12 : decode cL_withKey 12 = .ok (.astore_n 3, 1) := by decide +kernel
theorem dL_withKey_13 : decode cL_withKey 13 = .ok (.iconst 1, 1) := by decide +kernel
theorem dL_withKey_14 : decode cL_withKey 14 = .ok (.ireturn, 1) := by decide +kernel
theorem dL_withKey_15 : decode cL_withKey 15 = .ok (.iconst 0, 1) := by decide +kernel
theorem dL_withKey_16 : decode cL_withKey 16 = .ok (.ireturn, 1) := by decide +kernel
set_option maxRecDepth 20000 in
theorem ggL_state_X2_state : GoodIn wsL_state wsX2_state := goodIn_ca (goodIn_ca (goodIn_r _ [6, 7, 8, 9, 10, 5, 11, 12, 13, 14, 15, 16, 17, 18, 19, 20, 21, 22, 23, 24, 25, 26, 27, 28, 29, 30, 31, 32, 33, 34] (by decide +kernel) (by decide +kernel)) (goodIn_sub (fun _ h => List.mem_cons_of_mem _ (List.mem_append_left _ (List.mem_append_right _ h))) (by decide +kernel))) (goodIn_sub (fun _ h => List.mem_cons_of_mem _ (List.mem_append_right _ h)) (by decide +kernel))
set_option maxRecDepth 20000 in
theorem gL_state_X2_state : GoodIn wsL_state (wsV RL 48 RX2 yX2_state wsX2_state) := goodIn_app (goodIn_of _ (by decide +kernel)) ggL_state_X2_state
theorem dL_state_0 : decode cL_state 0 = .ok (.aload_n 2, 1) := by decide +kernel
theorem dL_state_1 : decode cL_state 1 = .ok (.iconst 0, 1) := by decide +kernel
theorem dL_state_2 : decode cL_state 2 = .ok (.aload_n 0, 1) := by decide +kernel
theorem dL_state_3 : decode cL_state 3 = .ok (.iload_n 1, 1) := by decide +kernel
theorem dL_state_4 : decode cL_state 4 = .ok (.invokevirtual 48, 3) := by decide +kernel
theorem dL_state_7 : decode cL_state 7 = .ok (.i2l, 1) := by decide +kernel
theorem dL_state_8 : decode cL_state 8 = .ok (.lastore, 1) := by decide +kernel
theorem dL_state_9 : decode cL_state 9 = .ok (.goto 6, 3) := by decide +kernel
theorem dL_state_12 : decode cL_state 12 = .ok (.astore_n 3, 1) := by decide +kernel
theorem dL_state_13 : decode cL_state 13 = .ok (.iconst 1, 1) := by decide +kernel
theorem dL_state_14 : decode cL_state 14 = .ok (.ireturn, 1) := by decide +kernel
theorem dL_state_15 : decode cL_state 15 = .ok (.iconst 0, 1) := by decide +kernel
theorem dL_state_16 : decode cL_state 16 = .ok (.ireturn, 1) := by decide +kernel
set_option maxRecDepth 20000 in
theorem ggL_kind_X2_kind : GoodIn wsL_kind wsX2_kind := goodIn_ca (goodIn_ca (goodIn_r _ [6, 7, 8, 9, 10, 5, 11, 12, 13, 14, 15, 16, 17, 18, 19, 20, 21, 22, 23, 24, 25, 26, 27, 28, 29, 30, 31, 32, 33, 34] (by decide +kernel) (by decide +kernel)) (goodIn_sub (fun _ h => List.mem_cons_of_mem _ (List.mem_append_left _ (List.mem_append_right _ h))) (by decide +kernel))) (goodIn_sub (fun _ h => List.mem_cons_of_mem _ (List.mem_append_right _ h)) (by decide +kernel))
set_option maxRecDepth 20000 in
theorem gL_kind_X2_kind : GoodIn wsL_kind (wsV RL 52 RX2 yX2_kind wsX2_kind) := goodIn_app (goodIn_of _ (by decide +kernel)) ggL_kind_X2_kind
theorem dL_kind_0 : decode cL_kind 0 = .ok (.aload_n 2, 1) := by decide +kernel
theorem dL_kind_1 : decode cL_kind 1 = .ok (.iconst 0, 1) := by decide +kernel
theorem dL_kind_2 : decode cL_kind 2 = .ok (.aload_n 0, 1) := by decide +kernel
theorem dL_kind_3 : decode cL_kind 3 = .ok (.iload_n 1, 1) := by decide +kernel
theorem dL_kind_4 : decode cL_kind 4 = .ok (.invokevirtual 52, 3) := by decide +kernel
theorem dL_kind_7 : decode cL_kind 7 = .ok (.i2l, 1) := by decide +kernel
theorem dL_kind_8 : decode cL_kind 8 = .ok (.lastore, 1) := by decide +kernel
theorem dL_kind_9 : decode cL_kind 9 = .ok (.goto 6, 3) := by decide +kernel
theorem dL_kind_12 : decode cL_kind 12 = .ok (.astore_n 3, 1) := by decide +kernel
theorem dL_kind_13 : decode cL_kind 13 = .ok (.iconst 1, 1) := by decide +kernel
theorem dL_kind_14 : decode cL_kind 14 = .ok (.ireturn, 1) := by decide +kernel
theorem dL_kind_15 : decode cL_kind 15 = .ok (.iconst 0, 1) := by decide +kernel
theorem dL_kind_16 : decode cL_kind 16 = .ok (.ireturn, 1) := by decide +kernel
set_option maxRecDepth 20000 in
theorem ggL_tries_X2_tries : GoodIn wsL_tries wsX2_tries := goodIn_ca (goodIn_ca (goodIn_r _ [6, 7, 8, 9, 10, 5, 11, 12, 13, 14, 15, 16, 17, 18, 19, 20, 21, 22, 23, 24, 25, 26, 27, 28, 29, 30, 31, 32, 33, 34] (by decide +kernel) (by decide +kernel)) (goodIn_sub (fun _ h => List.mem_cons_of_mem _ (List.mem_append_left _ (List.mem_append_right _ h))) (by decide +kernel))) (goodIn_sub (fun _ h => List.mem_cons_of_mem _ (List.mem_append_right _ h)) (by decide +kernel))
set_option maxRecDepth 20000 in
theorem gL_tries_X2_tries : GoodIn wsL_tries (wsV RL 55 RX2 yX2_tries wsX2_tries) := goodIn_app (goodIn_of _ (by decide +kernel)) ggL_tries_X2_tries
theorem dL_tries_0 : decode cL_tries 0 = .ok (.aload_n 2, 1) := by decide +kernel
theorem dL_tries_1 : decode cL_tries 1 = .ok (.iconst 0, 1) := by decide +kernel
theorem dL_tries_2 : decode cL_tries 2 = .ok (.aload_n 0, 1) := by decide +kernel
theorem dL_tries_3 : decode cL_tries 3 = .ok (.iload_n 1, 1) := by decide +kernel
theorem dL_tries_4 : decode cL_tries 4 = .ok (.invokevirtual 55, 3) := by decide +kernel
theorem dL_tries_7 : decode cL_tries 7 = .ok (.i2l, 1) := by decide +kernel
theorem dL_tries_8 : decode cL_tries 8 = .ok (.lastore, 1) := by decide +kernel
theorem dL_tries_9 : decode cL_tries 9 = .ok (.goto 6, 3) := by decide +kernel
theorem dL_tries_12 : decode cL_tries 12 = .ok (.astore_n 3, 1) := by decide +kernel
theorem dL_tries_13 : decode cL_tries 13 = .ok (.iconst 1, 1) := by decide +kernel
theorem dL_tries_14 : decode cL_tries 14 = .ok (.ireturn, 1) := by decide +kernel
theorem dL_tries_15 : decode cL_tries 15 = .ok (.iconst 0, 1) := by decide +kernel
theorem dL_tries_16 : decode cL_tries 16 = .ok (.ireturn, 1) := by decide +kernel
set_option maxRecDepth 20000 in
theorem ggL_readyAt_X2_readyAt : GoodIn wsL_readyAt wsX2_readyAt := goodIn_ca (goodIn_ca (goodIn_ca (goodIn_r _ [7, 8, 9, 10, 11, 6, 12, 13, 14, 15, 16, 17, 18, 19, 20, 21, 22, 23, 24, 25, 26, 27, 28, 29, 30, 31, 32, 33, 34, 35, 36, 37, 38, 39, 40, 41] (by decide +kernel) (by decide +kernel)) (goodIn_sub (fun _ h => List.mem_cons_of_mem _ (List.mem_append_left _ (List.mem_append_left _ (List.mem_append_right _ h)))) (by decide +kernel))) (goodIn_sub (fun _ h => List.mem_cons_of_mem _ (List.mem_append_left _ (List.mem_append_right _ h))) (by decide +kernel))) (goodIn_sub (fun _ h => List.mem_cons_of_mem _ (List.mem_append_right _ h)) (by decide +kernel))
set_option maxRecDepth 20000 in
theorem gL_readyAt_X2_readyAt : GoodIn wsL_readyAt (wsV RL 58 RX2 yX2_readyAt wsX2_readyAt) := goodIn_app (goodIn_of _ (by decide +kernel)) ggL_readyAt_X2_readyAt
theorem dL_readyAt_0 : decode cL_readyAt 0 = .ok (.aload_n 2, 1) := by decide +kernel
theorem dL_readyAt_1 : decode cL_readyAt 1 = .ok (.iconst 0, 1) := by decide +kernel
theorem dL_readyAt_2 : decode cL_readyAt 2 = .ok (.aload_n 0, 1) := by decide +kernel
theorem dL_readyAt_3 : decode cL_readyAt 3 = .ok (.iload_n 1, 1) := by decide +kernel
theorem dL_readyAt_4 : decode cL_readyAt 4 = .ok (.invokevirtual 58, 3) := by decide +kernel
theorem dL_readyAt_7 : decode cL_readyAt 7 = .ok (.i2l, 1) := by decide +kernel
theorem dL_readyAt_8 : decode cL_readyAt 8 = .ok (.lastore, 1) := by decide +kernel
theorem dL_readyAt_9 : decode cL_readyAt 9 = .ok (.goto 9, 3) := by decide +kernel
theorem dL_readyAt_12 : decode cL_readyAt 12 = .ok (.astore_n 3, 1) := by decide +kernel
theorem dL_readyAt_13 : decode cL_readyAt 13 = .ok (.iconst 1, 1) := by decide +kernel
theorem dL_readyAt_14 : decode cL_readyAt 14 = .ok (.ireturn, 1) := by decide +kernel
theorem dL_readyAt_15 : decode cL_readyAt 15 = .ok (.astore_n 3, 1) := by decide +kernel
theorem dL_readyAt_16 : decode cL_readyAt 16 = .ok (.iconst 2, 1) := by decide +kernel
theorem dL_readyAt_17 : decode cL_readyAt 17 = .ok (.ireturn, 1) := by decide +kernel
theorem dL_readyAt_18 : decode cL_readyAt 18 = .ok (.iconst 0, 1) := by decide +kernel
theorem dL_readyAt_19 : decode cL_readyAt 19 = .ok (.ireturn, 1) := by decide +kernel
set_option maxRecDepth 20000 in
theorem ggL_ready_X2_ready : GoodIn wsL_ready wsX2_ready := goodIn_ca (goodIn_ca (goodIn_r _ [6, 7, 8, 9, 10, 5, 11, 12, 13, 14, 15, 16, 17, 18, 19, 20, 21, 22, 23, 24, 25, 26, 27, 28, 29, 30, 31, 32, 33, 34, 35, 36, 37, 38, 39, 40, 41, 42, 43, 44] (by decide +kernel) (by decide +kernel)) (goodIn_sub (fun _ h => List.mem_cons_of_mem _ (List.mem_append_right _ h)) (by decide +kernel))) (goodIn_sub (fun _ h => List.mem_cons_of_mem _ (List.mem_append_left _ (List.mem_append_right _ h))) (by decide +kernel))
set_option maxRecDepth 20000 in
theorem gL_ready_X2_ready : GoodIn wsL_ready (wsV RL 61 RX2 yX2_ready wsX2_ready) := goodIn_app (goodIn_of _ (by decide +kernel)) ggL_ready_X2_ready
theorem dL_ready_0 : decode cL_ready 0 = .ok (.aload_n 2, 1) := by decide +kernel
theorem dL_ready_1 : decode cL_ready 1 = .ok (.iconst 0, 1) := by decide +kernel
theorem dL_ready_2 : decode cL_ready 2 = .ok (.aload_n 0, 1) := by decide +kernel
theorem dL_ready_3 : decode cL_ready 3 = .ok (.iload_n 1, 1) := by decide +kernel
theorem dL_ready_4 : decode cL_ready 4 = .ok (.invokevirtual 61, 3) := by decide +kernel
theorem dL_ready_7 : decode cL_ready 7 = .ok (.i2l, 1) := by decide +kernel
theorem dL_ready_8 : decode cL_ready 8 = .ok (.lastore, 1) := by decide +kernel
theorem dL_ready_9 : decode cL_ready 9 = .ok (.goto 6, 3) := by decide +kernel
theorem dL_ready_12 : decode cL_ready 12 = .ok (.astore_n 3, 1) := by decide +kernel
theorem dL_ready_13 : decode cL_ready 13 = .ok (.iconst 1, 1) := by decide +kernel
theorem dL_ready_14 : decode cL_ready 14 = .ok (.ireturn, 1) := by decide +kernel
theorem dL_ready_15 : decode cL_ready 15 = .ok (.iconst 0, 1) := by decide +kernel
theorem dL_ready_16 : decode cL_ready 16 = .ok (.ireturn, 1) := by decide +kernel
set_option maxRecDepth 20000 in
theorem ggL_readyAtPlace_X2_readyAtPlace : GoodIn wsL_readyAtPlace wsX2_readyAtPlace := goodIn_ca (goodIn_ca (goodIn_ca (goodIn_r _ [7, 8, 9, 10, 11, 12, 13, 6, 14, 15, 16, 17, 18, 19, 20, 21, 22, 23, 24, 25, 26, 27, 28, 29, 30, 31, 32, 33, 34, 35, 36, 37, 38, 39, 40, 41, 42, 43, 44, 45, 46, 47, 48, 49, 50, 51, 52, 53, 54] (by decide +kernel) (by decide +kernel)) (goodIn_sub (fun _ h => List.mem_cons_of_mem _ (List.mem_append_left _ (List.mem_append_right _ h))) (by decide +kernel))) (goodIn_sub (fun _ h => List.mem_cons_of_mem _ (List.mem_append_right _ h)) (by decide +kernel))) (goodIn_sub (fun _ h => List.mem_cons_of_mem _ (List.mem_append_left _ (List.mem_append_left _ (List.mem_append_right _ h)))) (by decide +kernel))
set_option maxRecDepth 20000 in
theorem gL_readyAtPlace_X2_readyAtPlace : GoodIn wsL_readyAtPlace (wsV RL 64 RX2 yX2_readyAtPlace wsX2_readyAtPlace) := goodIn_app (goodIn_of _ (by decide +kernel)) ggL_readyAtPlace_X2_readyAtPlace
theorem dL_readyAtPlace_0 : decode cL_readyAtPlace 0 = .ok (.aload_n 3, 1) := by decide +kernel
theorem dL_readyAtPlace_1 : decode cL_readyAtPlace 1 = .ok (.iconst 0, 1) := by decide +kernel
theorem dL_readyAtPlace_2 : decode cL_readyAtPlace 2 = .ok (.aload_n 0, 1) := by decide +kernel
theorem dL_readyAtPlace_3 : decode cL_readyAtPlace 3 = .ok (.iload_n 1, 1) := by decide +kernel
theorem dL_readyAtPlace_4 : decode cL_readyAtPlace 4 = .ok (.iload_n 2, 1) := by decide +kernel
theorem dL_readyAtPlace_5 : decode cL_readyAtPlace 5 = .ok (.invokevirtual 64, 3) := by decide +kernel
theorem dL_readyAtPlace_8 : decode cL_readyAtPlace 8 = .ok (.i2l, 1) := by decide +kernel
theorem dL_readyAtPlace_9 : decode cL_readyAtPlace 9 = .ok (.lastore, 1) := by decide +kernel
theorem dL_readyAtPlace_10 : decode cL_readyAtPlace 10 = .ok (.goto 11, 3) := by decide +kernel
theorem dL_readyAtPlace_13 : decode cL_readyAtPlace 13 = .ok (.astore 4, 2) := by decide +kernel
theorem dL_readyAtPlace_15 : decode cL_readyAtPlace 15 = .ok (.iconst 1, 1) := by decide +kernel
theorem dL_readyAtPlace_16 : decode cL_readyAtPlace 16 = .ok (.ireturn, 1) := by decide +kernel
theorem dL_readyAtPlace_17 : decode cL_readyAtPlace 17 = .ok (.astore 4, 2) := by decide +kernel
theorem dL_readyAtPlace_19 : decode cL_readyAtPlace 19 = .ok (.iconst 2, 1) := by decide +kernel
theorem dL_readyAtPlace_20 : decode cL_readyAtPlace 20 = .ok (.ireturn, 1) := by decide +kernel
theorem dL_readyAtPlace_21 : decode cL_readyAtPlace 21 = .ok (.iconst 0, 1) := by decide +kernel
theorem dL_readyAtPlace_22 : decode cL_readyAtPlace 22 = .ok (.ireturn, 1) := by decide +kernel
set_option maxRecDepth 20000 in
theorem ggL_take_X2_take : GoodIn wsL_take wsX2_take := goodIn_ca (goodIn_ca (goodIn_ca (goodIn_ca (goodIn_r _ [8, 9, 10, 11, 12, 13, 14, 15, 16, 7, 17, 18, 19, 20, 21, 22, 23, 24, 25, 26, 27, 28, 29, 30, 31, 32, 33, 34, 35, 36, 37, 38, 39, 40, 41, 42, 43, 44, 45, 46, 47, 48, 49, 50, 51, 52, 53, 54, 55, 56, 57, 58, 59, 60, 61, 62, 63, 64, 65] (by decide +kernel) (by decide +kernel)) (goodIn_sub (fun _ h => List.mem_cons_of_mem _ (List.mem_append_left _ (List.mem_append_left _ (List.mem_append_right _ h)))) (by decide +kernel))) (goodIn_sub (fun _ h => List.mem_cons_of_mem _ (List.mem_append_left _ (List.mem_append_right _ h))) (by decide +kernel))) (goodIn_sub (fun _ h => List.mem_cons_of_mem _ (List.mem_append_right _ h)) (by decide +kernel))) (goodIn_sub (fun _ h => List.mem_cons_of_mem _ (List.mem_append_left _ (List.mem_append_left _ (List.mem_append_left _ (List.mem_append_right _ h))))) (by decide +kernel))
set_option maxRecDepth 20000 in
theorem gL_take_X2_take : GoodIn wsL_take (wsV RL 67 RX2 yX2_take wsX2_take) := goodIn_app (goodIn_of _ (by decide +kernel)) ggL_take_X2_take
theorem dL_take_0 : decode cL_take 0 = .ok (.aload_n 3, 1) := by decide +kernel
theorem dL_take_1 : decode cL_take 1 = .ok (.iconst 0, 1) := by decide +kernel
theorem dL_take_2 : decode cL_take 2 = .ok (.aload_n 0, 1) := by decide +kernel
theorem dL_take_3 : decode cL_take 3 = .ok (.iload_n 1, 1) := by decide +kernel
theorem dL_take_4 : decode cL_take 4 = .ok (.iload_n 2, 1) := by decide +kernel
theorem dL_take_5 : decode cL_take 5 = .ok (.invokevirtual 67, 3) := by decide +kernel
theorem dL_take_8 : decode cL_take 8 = .ok (.i2l, 1) := by decide +kernel
theorem dL_take_9 : decode cL_take 9 = .ok (.lastore, 1) := by decide +kernel
theorem dL_take_10 : decode cL_take 10 = .ok (.goto 15, 3) := by decide +kernel
theorem dL_take_13 : decode cL_take 13 = .ok (.astore 4, 2) := by decide +kernel
theorem dL_take_15 : decode cL_take 15 = .ok (.iconst 1, 1) := by decide +kernel
theorem dL_take_16 : decode cL_take 16 = .ok (.ireturn, 1) := by decide +kernel
theorem dL_take_17 : decode cL_take 17 = .ok (.astore 4, 2) := by decide +kernel
theorem dL_take_19 : decode cL_take 19 = .ok (.iconst 2, 1) := by decide +kernel
theorem dL_take_20 : decode cL_take 20 = .ok (.ireturn, 1) := by decide +kernel
theorem dL_take_21 : decode cL_take 21 = .ok (.astore 4, 2) := by decide +kernel
theorem dL_take_23 : decode cL_take 23 = .ok (.iconst 3, 1) := by decide +kernel
theorem dL_take_24 : decode cL_take 24 = .ok (.ireturn, 1) := by decide +kernel
theorem dL_take_25 : decode cL_take 25 = .ok (.iconst 0, 1) := by decide +kernel
theorem dL_take_26 : decode cL_take 26 = .ok (.ireturn, 1) := by decide +kernel
set_option maxRecDepth 20000 in
theorem ggL_finish_X2_finish : GoodIn wsL_finish wsX2_finish := goodIn_ca (goodIn_ca (goodIn_ca (goodIn_r _ [7, 8, 9, 10, 11, 6, 12, 13, 14, 15, 16, 17, 18, 19, 20, 21, 22, 23, 24, 25, 26, 27, 28, 29, 30, 31, 32, 33, 34, 35, 36, 37, 38, 39, 40, 41, 42, 43, 44, 45, 46, 47, 48, 49, 50, 51, 52, 53, 54, 55, 56, 57, 58, 59, 60, 61, 62, 63, 64, 65, 66, 67, 68, 69, 70, 71, 72, 73, 74, 75, 76, 77, 78, 79, 80, 81, 82, 83, 84] (by decide +kernel) (by decide +kernel)) (goodIn_sub (fun _ h => List.mem_cons_of_mem _ (List.mem_append_left _ (List.mem_append_right _ h))) (by decide +kernel))) (goodIn_sub (fun _ h => List.mem_cons_of_mem _ (List.mem_append_left _ (List.mem_append_left _ (List.mem_append_right _ h)))) (by decide +kernel))) (goodIn_sub (fun _ h => List.mem_cons_of_mem _ (List.mem_append_right _ h)) (by decide +kernel))
set_option maxRecDepth 20000 in
theorem gL_finish_X2_finish : GoodIn wsL_finish (wsV RL 70 RX2 yX2_finish wsX2_finish) := goodIn_app (goodIn_of _ (by decide +kernel)) ggL_finish_X2_finish
theorem dL_finish_0 : decode cL_finish 0 = .ok (.aload_n 2, 1) := by decide +kernel
theorem dL_finish_1 : decode cL_finish 1 = .ok (.iconst 0, 1) := by decide +kernel
theorem dL_finish_2 : decode cL_finish 2 = .ok (.aload_n 0, 1) := by decide +kernel
theorem dL_finish_3 : decode cL_finish 3 = .ok (.iload_n 1, 1) := by decide +kernel
theorem dL_finish_4 : decode cL_finish 4 = .ok (.invokevirtual 70, 3) := by decide +kernel
theorem dL_finish_7 : decode cL_finish 7 = .ok (.ifCond .eq 7, 3) := by decide +kernel
theorem dL_finish_10 : decode cL_finish 10 = .ok (.lconst 1, 1) := by decide +kernel
theorem dL_finish_11 : decode cL_finish 11 = .ok (.goto 4, 3) := by decide +kernel
theorem dL_finish_14 : decode cL_finish 14 = .ok (.lconst 0, 1) := by decide +kernel
theorem dL_finish_15 : decode cL_finish 15 = .ok (.lastore, 1) := by decide +kernel
theorem dL_finish_16 : decode cL_finish 16 = .ok (.goto 9, 3) := by decide +kernel
theorem dL_finish_19 : decode cL_finish 19 = .ok (.astore_n 3, 1) := by decide +kernel
theorem dL_finish_20 : decode cL_finish 20 = .ok (.iconst 1, 1) := by decide +kernel
theorem dL_finish_21 : decode cL_finish 21 = .ok (.ireturn, 1) := by decide +kernel
theorem dL_finish_22 : decode cL_finish 22 = .ok (.astore_n 3, 1) := by decide +kernel
theorem dL_finish_23 : decode cL_finish 23 = .ok (.iconst 2, 1) := by decide +kernel
theorem dL_finish_24 : decode cL_finish 24 = .ok (.ireturn, 1) := by decide +kernel
theorem dL_finish_25 : decode cL_finish 25 = .ok (.iconst 0, 1) := by decide +kernel
theorem dL_finish_26 : decode cL_finish 26 = .ok (.ireturn, 1) := by decide +kernel
set_option maxRecDepth 20000 in
theorem ggL_handBack_X2_handBack : GoodIn wsL_handBack wsX2_handBack := goodIn_ca (goodIn_ca (goodIn_ca (goodIn_r _ [7, 8, 9, 10, 11, 12, 6, 13, 14, 15, 16, 17, 18, 19, 20, 21, 22, 23, 24, 25, 26, 27, 28, 29, 30, 31, 32, 33, 34, 35, 36, 37, 38, 39, 40, 41, 42, 43, 44, 45, 46, 47, 48] (by decide +kernel) (by decide +kernel)) (goodIn_sub (fun _ h => List.mem_cons_of_mem _ (List.mem_append_left _ (List.mem_append_left _ (List.mem_append_right _ h)))) (by decide +kernel))) (goodIn_sub (fun _ h => List.mem_cons_of_mem _ (List.mem_append_left _ (List.mem_append_right _ h))) (by decide +kernel))) (goodIn_sub (fun _ h => List.mem_cons_of_mem _ (List.mem_append_right _ h)) (by decide +kernel))
set_option maxRecDepth 20000 in
theorem gL_handBack_X2_handBack : GoodIn wsL_handBack (wsV RL 73 RX2 yX2_handBack wsX2_handBack) := goodIn_app (goodIn_of _ (by decide +kernel)) ggL_handBack_X2_handBack
theorem dL_handBack_0 : decode cL_handBack 0 = .ok (.aload_n 2, 1) := by decide +kernel
theorem dL_handBack_1 : decode cL_handBack 1 = .ok (.iconst 0, 1) := by decide +kernel
theorem dL_handBack_2 : decode cL_handBack 2 = .ok (.aload_n 0, 1) := by decide +kernel
theorem dL_handBack_3 : decode cL_handBack 3 = .ok (.iload_n 1, 1) := by decide +kernel
theorem dL_handBack_4 : decode cL_handBack 4 = .ok (.invokevirtual 73, 3) := by decide +kernel
theorem dL_handBack_7 : decode cL_handBack 7 = .ok (.i2l, 1) := by decide +kernel
theorem dL_handBack_8 : decode cL_handBack 8 = .ok (.lastore, 1) := by decide +kernel
theorem dL_handBack_9 : decode cL_handBack 9 = .ok (.goto 9, 3) := by decide +kernel
theorem dL_handBack_12 : decode cL_handBack 12 = .ok (.astore_n 3, 1) := by decide +kernel
theorem dL_handBack_13 : decode cL_handBack 13 = .ok (.iconst 1, 1) := by decide +kernel
theorem dL_handBack_14 : decode cL_handBack 14 = .ok (.ireturn, 1) := by decide +kernel
theorem dL_handBack_15 : decode cL_handBack 15 = .ok (.astore_n 3, 1) := by decide +kernel
theorem dL_handBack_16 : decode cL_handBack 16 = .ok (.iconst 2, 1) := by decide +kernel
theorem dL_handBack_17 : decode cL_handBack 17 = .ok (.ireturn, 1) := by decide +kernel
theorem dL_handBack_18 : decode cL_handBack 18 = .ok (.iconst 0, 1) := by decide +kernel
theorem dL_handBack_19 : decode cL_handBack 19 = .ok (.ireturn, 1) := by decide +kernel
set_option maxRecDepth 20000 in
theorem ggL_revive_X2_revive : GoodIn wsL_revive wsX2_revive := goodIn_ca (goodIn_ca (goodIn_ca (goodIn_r _ [7, 8, 9, 10, 11, 12, 6, 13, 14, 15, 16, 17, 18, 19, 20, 21, 22, 23, 24, 25, 26, 27, 28, 29, 30, 31, 32, 33, 34, 35, 36, 37, 38, 39, 40, 41, 42, 43, 44, 45, 46, 47, 48, 49, 50, 51] (by decide +kernel) (by decide +kernel)) (goodIn_sub (fun _ h => List.mem_cons_of_mem _ (List.mem_append_left _ (List.mem_append_right _ h))) (by decide +kernel))) (goodIn_sub (fun _ h => List.mem_cons_of_mem _ (List.mem_append_left _ (List.mem_append_left _ (List.mem_append_right _ h)))) (by decide +kernel))) (goodIn_sub (fun _ h => List.mem_cons_of_mem _ (List.mem_append_right _ h)) (by decide +kernel))
set_option maxRecDepth 20000 in
theorem gL_revive_X2_revive : GoodIn wsL_revive (wsV RL 76 RX2 yX2_revive wsX2_revive) := goodIn_app (goodIn_of _ (by decide +kernel)) ggL_revive_X2_revive
theorem dL_revive_0 : decode cL_revive 0 = .ok (.aload_n 2, 1) := by decide +kernel
theorem dL_revive_1 : decode cL_revive 1 = .ok (.iconst 0, 1) := by decide +kernel
theorem dL_revive_2 : decode cL_revive 2 = .ok (.aload_n 0, 1) := by decide +kernel
theorem dL_revive_3 : decode cL_revive 3 = .ok (.iload_n 1, 1) := by decide +kernel
theorem dL_revive_4 : decode cL_revive 4 = .ok (.invokevirtual 76, 3) := by decide +kernel
theorem dL_revive_7 : decode cL_revive 7 = .ok (.i2l, 1) := by decide +kernel
theorem dL_revive_8 : decode cL_revive 8 = .ok (.lastore, 1) := by decide +kernel
theorem dL_revive_9 : decode cL_revive 9 = .ok (.goto 9, 3) := by decide +kernel
theorem dL_revive_12 : decode cL_revive 12 = .ok (.astore_n 3, 1) := by decide +kernel
theorem dL_revive_13 : decode cL_revive 13 = .ok (.iconst 1, 1) := by decide +kernel
theorem dL_revive_14 : decode cL_revive 14 = .ok (.ireturn, 1) := by decide +kernel
theorem dL_revive_15 : decode cL_revive 15 = .ok (.astore_n 3, 1) := by decide +kernel
theorem dL_revive_16 : decode cL_revive 16 = .ok (.iconst 2, 1) := by decide +kernel
theorem dL_revive_17 : decode cL_revive 17 = .ok (.ireturn, 1) := by decide +kernel
theorem dL_revive_18 : decode cL_revive 18 = .ok (.iconst 0, 1) := by decide +kernel
theorem dL_revive_19 : decode cL_revive 19 = .ok (.ireturn, 1) := by decide +kernel
set_option maxRecDepth 20000 in
theorem ggL_clerk_X2_clerk : GoodIn wsL_clerk wsX2_clerk := goodIn_ca (goodIn_ca (goodIn_ca (goodIn_r _ [7, 8, 9, 10, 11, 12, 13, 6, 14, 15, 16, 17, 18, 19, 20, 21, 22, 23, 24, 25, 26, 27, 28, 29, 30, 31, 32, 33, 34, 35, 36, 37] (by decide +kernel) (by decide +kernel)) (goodIn_sub (fun _ h => List.mem_cons_of_mem _ (List.mem_append_left _ (List.mem_append_left _ (List.mem_append_right _ h)))) (by decide +kernel))) (goodIn_sub (fun _ h => List.mem_cons_of_mem _ (List.mem_append_left _ (List.mem_append_right _ h))) (by decide +kernel))) (goodIn_sub (fun _ h => List.mem_cons_of_mem _ (List.mem_append_right _ h)) (by decide +kernel))
set_option maxRecDepth 20000 in
theorem gL_clerk_X2_clerk : GoodIn wsL_clerk (wsV RL 79 RX2 yX2_clerk wsX2_clerk) := goodIn_app (goodIn_of _ (by decide +kernel)) ggL_clerk_X2_clerk
theorem dL_clerk_0 : decode cL_clerk 0 = .ok (.aload_n 2, 1) := by decide +kernel
theorem dL_clerk_1 : decode cL_clerk 1 = .ok (.iconst 0, 1) := by decide +kernel
theorem dL_clerk_2 : decode cL_clerk 2 = .ok (.aload_n 0, 1) := by decide +kernel
theorem dL_clerk_3 : decode cL_clerk 3 = .ok (.iload_n 1, 1) := by decide +kernel
theorem dL_clerk_4 : decode cL_clerk 4 = .ok (.invokevirtual 79, 3) := by decide +kernel
theorem dL_clerk_7 : decode cL_clerk 7 = .ok (.i2l, 1) := by decide +kernel
theorem dL_clerk_8 : decode cL_clerk 8 = .ok (.lastore, 1) := by decide +kernel
theorem dL_clerk_9 : decode cL_clerk 9 = .ok (.goto 9, 3) := by decide +kernel
theorem dL_clerk_12 : decode cL_clerk 12 = .ok (.astore_n 3, 1) := by decide +kernel
theorem dL_clerk_13 : decode cL_clerk 13 = .ok (.iconst 1, 1) := by decide +kernel
theorem dL_clerk_14 : decode cL_clerk 14 = .ok (.ireturn, 1) := by decide +kernel
theorem dL_clerk_15 : decode cL_clerk 15 = .ok (.astore_n 3, 1) := by decide +kernel
theorem dL_clerk_16 : decode cL_clerk 16 = .ok (.iconst 2, 1) := by decide +kernel
theorem dL_clerk_17 : decode cL_clerk 17 = .ok (.ireturn, 1) := by decide +kernel
theorem dL_clerk_18 : decode cL_clerk 18 = .ok (.iconst 0, 1) := by decide +kernel
theorem dL_clerk_19 : decode cL_clerk 19 = .ok (.ireturn, 1) := by decide +kernel
set_option maxRecDepth 20000 in
theorem ggL_has_X2_has : GoodIn wsL_has wsX2_has := goodIn_ca (goodIn_ca (goodIn_r _ [6, 7, 8, 9, 5, 10, 11, 12, 13, 14, 15, 16, 17, 18, 19, 20, 21, 22, 23, 24, 25, 26, 27, 28, 29, 30, 31, 32, 33, 34, 35, 36, 37, 38] (by decide +kernel) (by decide +kernel)) (goodIn_sub (fun _ h => List.mem_cons_of_mem _ (List.mem_append_right _ h)) (by decide +kernel))) (goodIn_sub (fun _ h => List.mem_cons_of_mem _ (List.mem_append_left _ (List.mem_append_right _ h))) (by decide +kernel))
set_option maxRecDepth 20000 in
theorem gL_has_X2_has : GoodIn wsL_has (wsV RL 82 RX2 yX2_has wsX2_has) := goodIn_app (goodIn_of _ (by decide +kernel)) ggL_has_X2_has
theorem dL_has_0 : decode cL_has 0 = .ok (.aload_n 2, 1) := by decide +kernel
theorem dL_has_1 : decode cL_has 1 = .ok (.iconst 0, 1) := by decide +kernel
theorem dL_has_2 : decode cL_has 2 = .ok (.aload_n 0, 1) := by decide +kernel
theorem dL_has_3 : decode cL_has 3 = .ok (.iload_n 1, 1) := by decide +kernel
theorem dL_has_4 : decode cL_has 4 = .ok (.invokevirtual 82, 3) := by decide +kernel
theorem dL_has_7 : decode cL_has 7 = .ok (.i2l, 1) := by decide +kernel
theorem dL_has_8 : decode cL_has 8 = .ok (.lastore, 1) := by decide +kernel
theorem dL_has_9 : decode cL_has 9 = .ok (.goto 6, 3) := by decide +kernel
theorem dL_has_12 : decode cL_has 12 = .ok (.astore_n 3, 1) := by decide +kernel
theorem dL_has_13 : decode cL_has 13 = .ok (.iconst 1, 1) := by decide +kernel
theorem dL_has_14 : decode cL_has 14 = .ok (.ireturn, 1) := by decide +kernel
theorem dL_has_15 : decode cL_has 15 = .ok (.iconst 0, 1) := by decide +kernel
theorem dL_has_16 : decode cL_has 16 = .ok (.ireturn, 1) := by decide +kernel
set_option maxRecDepth 20000 in
theorem ggL_pass_X2_pass : GoodIn wsL_pass wsX2_pass := goodIn_ca (goodIn_ca (goodIn_r _ [6, 7, 8, 9, 10, 11, 12, 5, 13, 14, 15, 16, 17, 18, 19, 20, 21, 22, 23, 24, 25, 26, 27, 28, 29, 30, 31, 32, 33, 34, 35, 36, 37, 38, 39, 40, 41, 42, 43, 44, 45, 46, 47, 48, 49, 50, 51, 52, 53, 54, 55, 56, 57, 58, 59, 60, 61, 62, 63, 64, 65, 66, 67, 68, 69, 70, 71, 72, 73, 74, 75, 76, 77, 78, 79, 80, 81, 82, 83, 84, 85, 86, 87, 88, 89] (by decide +kernel) (by decide +kernel)) (goodIn_sub (fun _ h => List.mem_cons_of_mem _ (List.mem_append_right _ h)) (by decide +kernel))) (goodIn_sub (fun _ h => List.mem_cons_of_mem _ (List.mem_append_left _ (List.mem_append_right _ h))) (by decide +kernel))
set_option maxRecDepth 20000 in
theorem gL_pass_X2_pass : GoodIn wsL_pass (wsV RL 85 RX2 yX2_pass wsX2_pass) := goodIn_app (goodIn_of _ (by decide +kernel)) ggL_pass_X2_pass
theorem dL_pass_0 : decode cL_pass 0 = .ok (.aload_n 2, 1) := by decide +kernel
theorem dL_pass_1 : decode cL_pass 1 = .ok (.iconst 0, 1) := by decide +kernel
theorem dL_pass_2 : decode cL_pass 2 = .ok (.aload_n 0, 1) := by decide +kernel
theorem dL_pass_3 : decode cL_pass 3 = .ok (.iload_n 1, 1) := by decide +kernel
theorem dL_pass_4 : decode cL_pass 4 = .ok (.invokevirtual 85, 3) := by decide +kernel
theorem dL_pass_7 : decode cL_pass 7 = .ok (.i2l, 1) := by decide +kernel
theorem dL_pass_8 : decode cL_pass 8 = .ok (.lastore, 1) := by decide +kernel
theorem dL_pass_9 : decode cL_pass 9 = .ok (.goto 6, 3) := by decide +kernel
theorem dL_pass_12 : decode cL_pass 12 = .ok (.astore_n 3, 1) := by decide +kernel
theorem dL_pass_13 : decode cL_pass 13 = .ok (.iconst 1, 1) := by decide +kernel
theorem dL_pass_14 : decode cL_pass 14 = .ok (.ireturn, 1) := by decide +kernel
theorem dL_pass_15 : decode cL_pass 15 = .ok (.iconst 0, 1) := by decide +kernel
theorem dL_pass_16 : decode cL_pass 16 = .ok (.ireturn, 1) := by decide +kernel
set_option maxRecDepth 20000 in
theorem ggL_count_X2_count : GoodIn wsL_count wsX2_count := goodIn_ca (goodIn_ca (goodIn_r _ [6, 7, 8, 9, 10, 11, 12, 13, 14, 15, 16, 17, 18, 19, 20, 21, 22, 23, 24, 25, 26, 27, 28, 29, 30, 31] (by decide +kernel) (by decide +kernel)) (goodIn_sub (fun _ h => List.mem_cons_of_mem _ (List.mem_append_right _ h)) (by decide +kernel))) (goodIn_sub (fun _ h => List.mem_cons_of_mem _ (List.mem_append_left _ (List.mem_append_right _ h))) (by decide +kernel))
set_option maxRecDepth 20000 in
theorem gL_count_X2_count : GoodIn wsL_count (wsV RL 88 RX2 yX2_count wsX2_count) := goodIn_app (goodIn_of _ (by decide +kernel)) ggL_count_X2_count
theorem dL_count_0 : decode cL_count 0 = .ok (.aload_n 2, 1) := by decide +kernel
theorem dL_count_1 : decode cL_count 1 = .ok (.iconst 0, 1) := by decide +kernel
theorem dL_count_2 : decode cL_count 2 = .ok (.aload_n 0, 1) := by decide +kernel
theorem dL_count_3 : decode cL_count 3 = .ok (.iload_n 1, 1) := by decide +kernel
theorem dL_count_4 : decode cL_count 4 = .ok (.invokevirtual 88, 3) := by decide +kernel
theorem dL_count_7 : decode cL_count 7 = .ok (.i2l, 1) := by decide +kernel
theorem dL_count_8 : decode cL_count 8 = .ok (.lastore, 1) := by decide +kernel
theorem dL_count_9 : decode cL_count 9 = .ok (.goto 6, 3) := by decide +kernel
theorem dL_count_12 : decode cL_count 12 = .ok (.astore_n 3, 1) := by decide +kernel
theorem dL_count_13 : decode cL_count 13 = .ok (.iconst 1, 1) := by decide +kernel
theorem dL_count_14 : decode cL_count 14 = .ok (.ireturn, 1) := by decide +kernel
theorem dL_count_15 : decode cL_count 15 = .ok (.iconst 0, 1) := by decide +kernel
theorem dL_count_16 : decode cL_count 16 = .ok (.ireturn, 1) := by decide +kernel
set_option maxRecDepth 20000 in
theorem ggL_doneShare_X2_doneShare : GoodIn wsL_doneShare wsX2_doneShare := goodIn_ca (goodIn_ca (goodIn_r _ [6, 7, 8, 9, 10, 11, 12, 13, 14, 15, 16, 17, 18, 19, 20, 21, 22, 23, 24, 25, 26, 27, 28, 29, 30, 31] (by decide +kernel) (by decide +kernel)) (goodIn_sub (fun _ h => List.mem_cons_of_mem _ (List.mem_append_right _ h)) (by decide +kernel))) (goodIn_sub (fun _ h => List.mem_cons_of_mem _ (List.mem_append_left _ (List.mem_append_right _ h))) (by decide +kernel))
set_option maxRecDepth 20000 in
theorem gL_doneShare_X2_doneShare : GoodIn wsL_doneShare (wsV RL 92 RX2 yX2_doneShare wsX2_doneShare) := goodIn_app (goodIn_of _ (by decide +kernel)) ggL_doneShare_X2_doneShare
theorem dL_doneShare_0 : decode cL_doneShare 0 = .ok (.aload_n 1, 1) := by decide +kernel
theorem dL_doneShare_1 : decode cL_doneShare 1 = .ok (.iconst 0, 1) := by decide +kernel
theorem dL_doneShare_2 : decode cL_doneShare 2 = .ok (.aload_n 0, 1) := by decide +kernel
theorem dL_doneShare_3 : decode cL_doneShare 3 = .ok (.invokevirtual 92, 3) := by decide +kernel
theorem dL_doneShare_6 : decode cL_doneShare 6 = .ok (.f2d, 1) := by decide +kernel
theorem dL_doneShare_7 : decode cL_doneShare 7 = .ok (.dastore, 1) := by decide +kernel
theorem dL_doneShare_8 : decode cL_doneShare 8 = .ok (.goto 6, 3) := by decide +kernel
theorem dL_doneShare_11 : decode cL_doneShare 11 = .ok (.astore_n 2, 1) := by decide +kernel
theorem dL_doneShare_12 : decode cL_doneShare 12 = .ok (.iconst 1, 1) := by decide +kernel
theorem dL_doneShare_13 : decode cL_doneShare 13 = .ok (.ireturn, 1) := by decide +kernel
theorem dL_doneShare_14 : decode cL_doneShare 14 = .ok (.iconst 0, 1) := by decide +kernel
theorem dL_doneShare_15 : decode cL_doneShare 15 = .ok (.ireturn, 1) := by decide +kernel
set_option maxRecDepth 20000 in
theorem ggL_meanAmount_X2_meanAmount : GoodIn wsL_meanAmount wsX2_meanAmount := goodIn_ca (goodIn_ca (goodIn_r _ [6, 7, 8, 9, 10, 11, 12, 13, 14, 15, 16, 17, 18, 19, 20, 21, 22, 23, 24, 25, 26, 27, 28, 29, 30, 31, 32] (by decide +kernel) (by decide +kernel)) (goodIn_sub (fun _ h => List.mem_cons_of_mem _ (List.mem_append_right _ h)) (by decide +kernel))) (goodIn_sub (fun _ h => List.mem_cons_of_mem _ (List.mem_append_left _ (List.mem_append_right _ h))) (by decide +kernel))
set_option maxRecDepth 20000 in
theorem gL_meanAmount_X2_meanAmount : GoodIn wsL_meanAmount (wsV RL 98 RX2 yX2_meanAmount wsX2_meanAmount) := goodIn_app (goodIn_of _ (by decide +kernel)) ggL_meanAmount_X2_meanAmount
theorem dL_meanAmount_0 : decode cL_meanAmount 0 = .ok (.aload_n 1, 1) := by decide +kernel
theorem dL_meanAmount_1 : decode cL_meanAmount 1 = .ok (.iconst 0, 1) := by decide +kernel
theorem dL_meanAmount_2 : decode cL_meanAmount 2 = .ok (.aload_n 0, 1) := by decide +kernel
theorem dL_meanAmount_3 : decode cL_meanAmount 3 = .ok (.invokevirtual 98, 3) := by decide +kernel
theorem dL_meanAmount_6 : decode cL_meanAmount 6 = .ok (.dastore, 1) := by decide +kernel
theorem dL_meanAmount_7 : decode cL_meanAmount 7 = .ok (.goto 6, 3) := by decide +kernel
theorem dL_meanAmount_10 : decode cL_meanAmount 10 = .ok (.astore_n 2, 1) := by decide +kernel
theorem dL_meanAmount_11 : decode cL_meanAmount 11 = .ok (.iconst 1, 1) := by decide +kernel
theorem dL_meanAmount_12 : decode cL_meanAmount 12 = .ok (.ireturn, 1) := by decide +kernel
theorem dL_meanAmount_13 : decode cL_meanAmount 13 = .ok (.iconst 0, 1) := by decide +kernel
theorem dL_meanAmount_14 : decode cL_meanAmount 14 = .ok (.ireturn, 1) := by decide +kernel
set_option maxRecDepth 20000 in
theorem ggL_law_X2_init : GoodIn wsL_law wsX2_init := goodIn_r _ [10, 11, 12, 13, 14, 15, 16, 17, 18, 19, 20, 21, 22, 23, 24, 25, 26, 27, 28, 29, 30, 31, 32, 33, 34, 35, 36, 37, 38, 39, 40, 41, 42, 43, 44, 45, 46, 47, 48, 600, 601, 602, 603, 604, 605, 606, 578, 579, 580, 607, 608, 609, 610, 611, 612, 613, 614, 615, 616, 617, 618, 619] (by decide +kernel) (by decide +kernel)
set_option maxRecDepth 20000 in
theorem gL_law_X2_init : GoodIn wsL_law (wsX2_init) := ggL_law_X2_init
set_option maxRecDepth 20000 in
theorem ggL_law_X3_init : GoodIn wsL_law wsX3_init := goodIn_r _ [51, 52, 12, 13, 26, 53, 54, 55, 56, 32, 57, 58, 59, 39, 60, 61, 62, 63, 64, 65, 66, 67, 581, 582, 583, 584, 585, 586, 587, 588, 589, 590, 591, 592, 593, 594, 595, 596, 597, 598, 599] (by decide +kernel) (by decide +kernel)
set_option maxRecDepth 20000 in
theorem gL_law_X3_init : GoodIn wsL_law (wsX3_init) := ggL_law_X3_init
set_option maxRecDepth 20000 in
theorem ggL_law_L_open : GoodIn wsL_law wsL_open := goodIn_ca (goodIn_ca (goodIn_ca (goodIn_r _ [71, 72, 73, 74, 75, 76, 2, 77, 78, 79, 80, 81, 17, 21, 22, 82, 83, 84, 85, 16, 86, 87, 88, 89, 90, 91, 27, 28, 29, 92, 20, 93, 94, 95, 43, 41, 44, 96, 97, 98, 99, 578, 579, 580, 600, 601, 602, 603, 604, 605, 606, 607, 608, 609, 610, 611, 612, 613, 614, 615, 616, 617, 618, 619] (by decide +kernel) (by decide +kernel)) (goodIn_sub (fun _ h => List.mem_append_left _ (List.mem_append_left _ (List.mem_append_left _ (List.mem_append_left _ (List.mem_append_left _ (List.mem_append_right _ h)))))) (by decide +kernel))) (goodIn_sub (fun _ h => List.mem_append_left _ (List.mem_append_left _ (List.mem_append_left _ (List.mem_append_left _ (List.mem_append_right _ h))))) (by decide +kernel))) (goodIn_sub (fun _ h => List.mem_append_left _ (List.mem_append_left _ (List.mem_append_left _ (List.mem_append_right _ h)))) (by decide +kernel))
set_option maxRecDepth 20000 in
theorem gL_law_L_open : GoodIn wsL_law (va_wsS RL 106 yL_open wsL_open) := goodIn_app (goodIn_of _ (by decide +kernel)) ggL_law_L_open
set_option maxRecDepth 20000 in
theorem ggL_law_X3_open : GoodIn wsL_law wsX3_open := goodIn_ca (goodIn_r _ [103, 104, 105, 53, 54, 106, 65, 61, 63, 107, 108, 97, 98, 99, 109, 110, 5, 111, 581, 582, 583, 584, 585, 586, 587, 588, 589, 590, 591, 592, 593, 594, 595, 596, 597, 598, 599] (by decide +kernel) (by decide +kernel)) (goodIn_sub (fun _ h => List.mem_append_left _ (List.mem_append_left _ (List.mem_append_left _ (List.mem_append_left _ (List.mem_append_left _ (List.mem_append_right _ h)))))) (by decide +kernel))
set_option maxRecDepth 20000 in
theorem gL_law_X3_open : GoodIn wsL_law (wsV RL 111 RX3 yX3_open wsX3_open) := goodIn_app (goodIn_of _ (by decide +kernel)) ggL_law_X3_open
set_option maxRecDepth 20000 in
theorem ggL_law_X3_thrown : GoodIn wsL_law wsX3_thrown := goodIn_r _ [115, 105, 581, 582, 583, 584, 585, 586, 587, 588, 589, 590, 591, 592, 593, 594, 595, 596, 597, 598, 599] (by decide +kernel) (by decide +kernel)
set_option maxRecDepth 20000 in
theorem gL_law_X3_thrown : GoodIn wsL_law (wsV RL 112 RX3 yX3_thrown wsX3_thrown) := goodIn_app (goodIn_of _ (by decide +kernel)) ggL_law_X3_thrown
set_option maxRecDepth 20000 in
theorem ggL_law_L_amount : GoodIn wsL_law wsL_amount := goodIn_ca (goodIn_ca (goodIn_r _ [118, 119, 120, 121, 122, 2, 123, 17, 124, 125, 126, 127, 128, 129, 130, 16, 131, 132, 88, 578, 579, 580, 600, 601, 602, 603, 604, 605, 606] (by decide +kernel) (by decide +kernel)) (goodIn_sub (fun _ h => List.mem_append_left _ (List.mem_append_left _ (List.mem_append_left _ (List.mem_append_left _ (List.mem_append_left _ (List.mem_append_right _ h)))))) (by decide +kernel))) (goodIn_sub (fun _ h => List.mem_append_left _ (List.mem_append_left _ (List.mem_append_right _ h))) (by decide +kernel))
set_option maxRecDepth 20000 in
theorem gL_law_L_amount : GoodIn wsL_law (va_wsS RL 116 yL_amount wsL_amount) := goodIn_app (goodIn_of _ (by decide +kernel)) ggL_law_L_amount
set_option maxRecDepth 20000 in
theorem ggL_law_X3_amount : GoodIn wsL_law wsX3_amount := goodIn_ca (goodIn_r _ [136, 53, 137, 138, 139, 5, 140, 104, 105, 109, 110, 111, 581, 582, 583, 584, 585, 586, 587, 588, 589, 590, 591, 592, 593, 594, 595, 596, 597, 598, 599] (by decide +kernel) (by decide +kernel)) (goodIn_sub (fun _ h => List.mem_append_left _ (List.mem_append_left _ (List.mem_append_left _ (List.mem_append_left _ (List.mem_append_left _ (List.mem_append_right _ h)))))) (by decide +kernel))
set_option maxRecDepth 20000 in
theorem gL_law_X3_amount : GoodIn wsL_law (wsV RL 119 RX3 yX3_amount wsX3_amount) := goodIn_app (goodIn_of _ (by decide +kernel)) ggL_law_X3_amount
set_option maxRecDepth 20000 in
theorem ggL_law_L_pause : GoodIn wsL_law wsL_pause := goodIn_ca (goodIn_ca (goodIn_ca (goodIn_ca (goodIn_r _ [143, 119, 72, 73, 144, 145, 146, 2, 147, 78, 79, 17, 22, 124, 125, 126, 127, 128, 129, 130, 16, 131, 132, 88, 82, 83, 84, 148, 149, 150, 151, 80, 81, 152, 153, 154, 28, 155, 156, 157, 31, 158, 97, 98, 99, 578, 579, 580, 600, 601, 602, 603, 604, 605, 606] (by decide +kernel) (by decide +kernel)) (goodIn_sub (fun _ h => List.mem_append_left _ (List.mem_append_left _ (List.mem_append_left _ (List.mem_append_left _ (List.mem_append_left _ (List.mem_append_right _ h)))))) (by decide +kernel))) (goodIn_sub (fun _ h => List.mem_append_left _ (List.mem_append_left _ (List.mem_append_left _ (List.mem_append_left _ (List.mem_append_right _ h))))) (by decide +kernel))) (goodIn_sub (fun _ h => List.mem_append_left _ (List.mem_append_left _ (List.mem_append_right _ h))) (by decide +kernel))) (goodIn_sub (fun _ h => List.mem_append_left _ (List.mem_append_left _ (List.mem_append_left _ (List.mem_append_right _ h)))) (by decide +kernel))
set_option maxRecDepth 20000 in
theorem gL_law_L_pause : GoodIn wsL_law (va_wsS RL 120 yL_pause wsL_pause) := goodIn_app (goodIn_of _ (by decide +kernel)) ggL_law_L_pause
set_option maxRecDepth 20000 in
theorem ggL_law_X3_pause : GoodIn wsL_law wsX3_pause := goodIn_ca (goodIn_r _ [162, 53, 105, 56, 107, 108, 97, 98, 99, 137, 138, 139, 5, 140, 104, 109, 110, 111, 581, 582, 583, 584, 585, 586, 587, 588, 589, 590, 591, 592, 593, 594, 595, 596, 597, 598, 599] (by decide +kernel) (by decide +kernel)) (goodIn_sub (fun _ h => List.mem_append_left _ (List.mem_append_left _ (List.mem_append_left _ (List.mem_append_left _ (List.mem_append_left _ (List.mem_append_right _ h)))))) (by decide +kernel))
set_option maxRecDepth 20000 in
theorem gL_law_X3_pause : GoodIn wsL_law (wsV RL 122 RX3 yX3_pause wsX3_pause) := goodIn_app (goodIn_of _ (by decide +kernel)) ggL_law_X3_pause
set_option maxRecDepth 20000 in
theorem ggL_law_L_awaitNote : GoodIn wsL_law wsL_awaitNote := goodIn_ca (goodIn_ca (goodIn_ca (goodIn_r _ [165, 119, 73, 166, 167, 168, 2, 169, 17, 124, 125, 126, 127, 128, 129, 130, 16, 131, 132, 88, 148, 149, 150, 151, 80, 81, 152, 153, 154, 28, 578, 579, 580, 600, 601, 602, 603, 604, 605, 606] (by decide +kernel) (by decide +kernel)) (goodIn_sub (fun _ h => List.mem_append_left _ (List.mem_append_left _ (List.mem_append_left _ (List.mem_append_left _ (List.mem_append_left _ (List.mem_append_right _ h)))))) (by decide +kernel))) (goodIn_sub (fun _ h => List.mem_append_left _ (List.mem_append_left _ (List.mem_append_right _ h))) (by decide +kernel))) (goodIn_sub (fun _ h => List.mem_append_left _ (List.mem_append_left _ (List.mem_append_left _ (List.mem_append_right _ h)))) (by decide +kernel))
set_option maxRecDepth 20000 in
theorem gL_law_L_awaitNote : GoodIn wsL_law (va_wsS RL 123 yL_awaitNote wsL_awaitNote) := goodIn_app (goodIn_of _ (by decide +kernel)) ggL_law_L_awaitNote
set_option maxRecDepth 20000 in
theorem ggL_law_X3_awaitNote : GoodIn wsL_law wsX3_awaitNote := goodIn_ca (goodIn_r _ [173, 53, 105, 57, 137, 138, 139, 5, 140, 104, 109, 110, 111, 581, 582, 583, 584, 585, 586, 587, 588, 589, 590, 591, 592, 593, 594, 595, 596, 597, 598, 599] (by decide +kernel) (by decide +kernel)) (goodIn_sub (fun _ h => List.mem_append_left _ (List.mem_append_left _ (List.mem_append_left _ (List.mem_append_left _ (List.mem_append_left _ (List.mem_append_right _ h)))))) (by decide +kernel))
set_option maxRecDepth 20000 in
theorem gL_law_X3_awaitNote : GoodIn wsL_law (wsV RL 125 RX3 yX3_awaitNote wsX3_awaitNote) := goodIn_app (goodIn_of _ (by decide +kernel)) ggL_law_X3_awaitNote
set_option maxRecDepth 20000 in
theorem ggL_law_L_letters : GoodIn wsL_law wsL_letters := goodIn_ca (goodIn_ca (goodIn_r _ [176, 119, 177, 178, 179, 2, 180, 17, 124, 125, 126, 127, 128, 129, 130, 16, 131, 132, 88, 578, 579, 580, 600, 601, 602, 603, 604, 605, 606] (by decide +kernel) (by decide +kernel)) (goodIn_sub (fun _ h => List.mem_append_left _ (List.mem_append_left _ (List.mem_append_left _ (List.mem_append_left _ (List.mem_append_left _ (List.mem_append_right _ h)))))) (by decide +kernel))) (goodIn_sub (fun _ h => List.mem_append_left _ (List.mem_append_left _ (List.mem_append_right _ h))) (by decide +kernel))
set_option maxRecDepth 20000 in
theorem gL_law_L_letters : GoodIn wsL_law (va_wsS RL 126 yL_letters wsL_letters) := goodIn_app (goodIn_of _ (by decide +kernel)) ggL_law_L_letters
set_option maxRecDepth 20000 in
theorem ggL_law_X3_letters : GoodIn wsL_law wsX3_letters := goodIn_ca (goodIn_r _ [184, 55, 137, 138, 139, 5, 140, 104, 105, 109, 110, 111, 581, 582, 583, 584, 585, 586, 587, 588, 589, 590, 591, 592, 593, 594, 595, 596, 597, 598, 599] (by decide +kernel) (by decide +kernel)) (goodIn_sub (fun _ h => List.mem_append_left _ (List.mem_append_left _ (List.mem_append_left _ (List.mem_append_left _ (List.mem_append_left _ (List.mem_append_right _ h)))))) (by decide +kernel))
set_option maxRecDepth 20000 in
theorem gL_law_X3_letters : GoodIn wsL_law (wsV RL 128 RX3 yX3_letters wsX3_letters) := goodIn_app (goodIn_of _ (by decide +kernel)) ggL_law_X3_letters
set_option maxRecDepth 20000 in
theorem ggL_law_L_lettersByMessages : GoodIn wsL_law wsL_lettersByMessages := goodIn_ca (goodIn_ca (goodIn_r _ [187, 119, 188, 189, 190, 2, 191, 21, 17, 124, 125, 126, 127, 128, 129, 130, 16, 131, 132, 88, 192, 20, 193, 194, 195, 48, 41, 40, 42, 96, 97, 98, 99, 196, 197, 198, 199, 95, 578, 579, 580, 600, 601, 602, 603, 604, 605, 606, 607, 608, 609, 610, 611, 612, 613, 614, 615, 616, 617, 618, 619] (by decide +kernel) (by decide +kernel)) (goodIn_sub (fun _ h => List.mem_append_left _ (List.mem_append_left _ (List.mem_append_left _ (List.mem_append_left _ (List.mem_append_left _ (List.mem_append_right _ h)))))) (by decide +kernel))) (goodIn_sub (fun _ h => List.mem_append_left _ (List.mem_append_left _ (List.mem_append_right _ h))) (by decide +kernel))
set_option maxRecDepth 20000 in
theorem gL_law_L_lettersByMessages : GoodIn wsL_law (va_wsS RL 129 yL_lettersByMessages wsL_lettersByMessages) := goodIn_app (goodIn_of _ (by decide +kernel)) ggL_law_L_lettersByMessages
set_option maxRecDepth 20000 in
theorem ggL_law_X3_lettersByMessages : GoodIn wsL_law wsX3_lettersByMessages := goodIn_ca (goodIn_r _ [203, 204, 182, 183, 5, 184, 55, 137, 138, 139, 140, 104, 105, 109, 110, 111, 581, 582, 583, 584, 585, 586, 587, 588, 589, 590, 591, 592, 593, 594, 595, 596, 597, 598, 599] (by decide +kernel) (by decide +kernel)) (goodIn_sub (fun _ h => List.mem_append_left _ (List.mem_append_left _ (List.mem_append_left _ (List.mem_append_left _ (List.mem_append_left _ (List.mem_append_right _ h)))))) (by decide +kernel))
set_option maxRecDepth 20000 in
theorem gL_law_X3_lettersByMessages : GoodIn wsL_law (wsV RL 131 RX3 yX3_lettersByMessages wsX3_lettersByMessages) := goodIn_app (goodIn_of _ (by decide +kernel)) ggL_law_X3_lettersByMessages
set_option maxRecDepth 20000 in
theorem ggL_law_L_nextReminder : GoodIn wsL_law wsL_nextReminder := goodIn_ca (goodIn_ca (goodIn_ca (goodIn_r _ [207, 119, 208, 209, 210, 211, 2, 212, 213, 214, 22, 17, 215, 97, 98, 99, 124, 125, 126, 127, 128, 129, 130, 16, 131, 132, 88, 216, 217, 218, 219, 21, 152, 153, 154, 28, 220, 221, 222, 223, 20, 224, 225, 95, 38, 226, 227, 228, 29, 30, 578, 579, 580, 600, 601, 602, 603, 604, 605, 606, 607, 608, 609, 610, 611, 612, 613, 614, 615, 616, 617, 618, 619] (by decide +kernel) (by decide +kernel)) (goodIn_sub (fun _ h => List.mem_append_left _ (List.mem_append_left _ (List.mem_append_left _ (List.mem_append_left _ (List.mem_append_left _ (List.mem_append_right _ h)))))) (by decide +kernel))) (goodIn_sub (fun _ h => List.mem_append_left _ (List.mem_append_right _ h)) (by decide +kernel))) (goodIn_sub (fun _ h => List.mem_append_left _ (List.mem_append_left _ (List.mem_append_right _ h))) (by decide +kernel))
set_option maxRecDepth 20000 in
theorem gL_law_L_nextReminder : GoodIn wsL_law (va_wsS RL 132 yL_nextReminder wsL_nextReminder) := goodIn_app (goodIn_of _ (by decide +kernel)) ggL_law_L_nextReminder
set_option maxRecDepth 20000 in
theorem ggL_law_X3_nextReminder : GoodIn wsL_law wsX3_nextReminder := goodIn_ca (goodIn_r _ [232, 105, 107, 108, 97, 98, 99, 137, 138, 139, 5, 140, 104, 109, 110, 111, 233, 234, 235, 236, 53, 57, 55, 237, 238, 239, 240, 106, 59, 241, 242, 243, 244, 56, 54, 581, 582, 583, 584, 585, 586, 587, 588, 589, 590, 591, 592, 593, 594, 595, 596, 597, 598, 599] (by decide +kernel) (by decide +kernel)) (goodIn_sub (fun _ h => List.mem_append_left _ (List.mem_append_left _ (List.mem_append_left _ (List.mem_append_left _ (List.mem_append_left _ (List.mem_append_right _ h)))))) (by decide +kernel))
set_option maxRecDepth 20000 in
theorem gL_law_X3_nextReminder : GoodIn wsL_law (wsV RL 134 RX3 yX3_nextReminder wsX3_nextReminder) := goodIn_app (goodIn_of _ (by decide +kernel)) ggL_law_X3_nextReminder
set_option maxRecDepth 20000 in
theorem ggL_law_L_post : GoodIn wsL_law wsL_post := goodIn_ca (goodIn_ca (goodIn_ca (goodIn_r _ [247, 72, 73, 248, 249, 250, 2, 251, 78, 79, 80, 81, 21, 22, 17, 252, 253, 254, 82, 83, 84, 223, 20, 224, 225, 95, 38, 255, 256, 257, 258, 259, 260, 37, 40, 41, 42, 44, 43, 130, 16, 131, 132, 88, 578, 579, 580, 607, 608, 609, 610, 611, 612, 613, 614, 615, 616, 617, 618, 619, 600, 601, 602, 603, 604, 605, 606] (by decide +kernel) (by decide +kernel)) (goodIn_sub (fun _ h => List.mem_append_left _ (List.mem_append_left _ (List.mem_append_left _ (List.mem_append_left _ (List.mem_append_left _ (List.mem_append_right _ h)))))) (by decide +kernel))) (goodIn_sub (fun _ h => List.mem_append_left _ (List.mem_append_left _ (List.mem_append_left _ (List.mem_append_left _ (List.mem_append_right _ h))))) (by decide +kernel))) (goodIn_sub (fun _ h => List.mem_append_left _ (List.mem_append_left _ (List.mem_append_left _ (List.mem_append_right _ h)))) (by decide +kernel))
set_option maxRecDepth 20000 in
theorem gL_law_L_post : GoodIn wsL_law (va_wsS RL 135 yL_post wsL_post) := goodIn_app (goodIn_of _ (by decide +kernel)) ggL_law_L_post
set_option maxRecDepth 20000 in
theorem ggL_law_X3_post : GoodIn wsL_law wsX3_post := goodIn_ca (goodIn_r _ [264, 106, 105, 107, 109, 110, 5, 111, 265, 266, 267, 268, 237, 238, 239, 240, 59, 269, 270, 271, 272, 58, 60, 61, 62, 63, 65, 104, 581, 582, 583, 584, 585, 586, 587, 588, 589, 590, 591, 592, 593, 594, 595, 596, 597, 598, 599] (by decide +kernel) (by decide +kernel)) (goodIn_sub (fun _ h => List.mem_append_left _ (List.mem_append_left _ (List.mem_append_left _ (List.mem_append_left _ (List.mem_append_left _ (List.mem_append_right _ h)))))) (by decide +kernel))
set_option maxRecDepth 20000 in
theorem gL_law_X3_post : GoodIn wsL_law (wsV RL 138 RX3 yX3_post wsX3_post) := goodIn_app (goodIn_of _ (by decide +kernel)) ggL_law_X3_post
set_option maxRecDepth 20000 in
theorem ggL_law_L_withKey : GoodIn wsL_law wsL_withKey := goodIn_ca (goodIn_ca (goodIn_r _ [275, 208, 276, 277, 278, 2, 279, 213, 214, 21, 223, 20, 224, 225, 95, 38, 578, 579, 580, 607, 608, 609, 610, 611, 612, 613, 614, 615, 616, 617, 618, 619] (by decide +kernel) (by decide +kernel)) (goodIn_sub (fun _ h => List.mem_append_left _ (List.mem_append_left _ (List.mem_append_left _ (List.mem_append_left _ (List.mem_append_left _ (List.mem_append_right _ h)))))) (by decide +kernel))) (goodIn_sub (fun _ h => List.mem_append_left _ (List.mem_append_right _ h)) (by decide +kernel))
set_option maxRecDepth 20000 in
theorem gL_law_L_withKey : GoodIn wsL_law (va_wsS RL 139 yL_withKey wsL_withKey) := goodIn_app (goodIn_of _ (by decide +kernel)) ggL_law_L_withKey
set_option maxRecDepth 20000 in
theorem ggL_law_X3_withKey : GoodIn wsL_law wsX3_withKey := goodIn_ca (goodIn_r _ [283, 105, 237, 238, 239, 5, 240, 106, 59, 581, 582, 583, 584, 585, 586, 587, 588, 589, 590, 591, 592, 593, 594, 595, 596, 597, 598, 599] (by decide +kernel) (by decide +kernel)) (goodIn_sub (fun _ h => List.mem_append_left _ (List.mem_append_left _ (List.mem_append_left _ (List.mem_append_left _ (List.mem_append_left _ (List.mem_append_right _ h)))))) (by decide +kernel))
set_option maxRecDepth 20000 in
theorem gL_law_X3_withKey : GoodIn wsL_law (wsV RL 141 RX3 yX3_withKey wsX3_withKey) := goodIn_app (goodIn_of _ (by decide +kernel)) ggL_law_X3_withKey
set_option maxRecDepth 20000 in
theorem ggL_law_L_state : GoodIn wsL_law wsL_state := goodIn_ca (goodIn_ca (goodIn_r _ [286, 119, 287, 288, 289, 2, 290, 21, 291, 292, 293, 294, 128, 129, 197, 20, 198, 199, 95, 578, 579, 580, 607, 608, 609, 610, 611, 612, 613, 614, 615, 616, 617, 618, 619] (by decide +kernel) (by decide +kernel)) (goodIn_sub (fun _ h => List.mem_append_left _ (List.mem_append_left _ (List.mem_append_left _ (List.mem_append_left _ (List.mem_append_left _ (List.mem_append_right _ h)))))) (by decide +kernel))) (goodIn_sub (fun _ h => List.mem_append_left _ (List.mem_append_left _ (List.mem_append_right _ h))) (by decide +kernel))
set_option maxRecDepth 20000 in
theorem gL_law_L_state : GoodIn wsL_law (va_wsS RL 142 yL_state wsL_state) := goodIn_app (goodIn_of _ (by decide +kernel)) ggL_law_L_state
set_option maxRecDepth 20000 in
theorem ggL_law_X3_state : GoodIn wsL_law wsX3_state := goodIn_ca (goodIn_r _ [298, 65, 299, 300, 301, 5, 302, 106, 105, 109, 110, 111, 581, 582, 583, 584, 585, 586, 587, 588, 589, 590, 591, 592, 593, 594, 595, 596, 597, 598, 599] (by decide +kernel) (by decide +kernel)) (goodIn_sub (fun _ h => List.mem_append_left _ (List.mem_append_left _ (List.mem_append_left _ (List.mem_append_left _ (List.mem_append_left _ (List.mem_append_right _ h)))))) (by decide +kernel))
set_option maxRecDepth 20000 in
theorem gL_law_X3_state : GoodIn wsL_law (wsV RL 144 RX3 yX3_state wsX3_state) := goodIn_app (goodIn_of _ (by decide +kernel)) ggL_law_X3_state
set_option maxRecDepth 20000 in
theorem ggL_law_L_kind : GoodIn wsL_law wsL_kind := goodIn_ca (goodIn_ca (goodIn_r _ [305, 119, 306, 307, 308, 2, 309, 21, 291, 292, 293, 294, 128, 129, 197, 20, 198, 199, 95, 578, 579, 580, 607, 608, 609, 610, 611, 612, 613, 614, 615, 616, 617, 618, 619] (by decide +kernel) (by decide +kernel)) (goodIn_sub (fun _ h => List.mem_append_left _ (List.mem_append_left _ (List.mem_append_left _ (List.mem_append_left _ (List.mem_append_left _ (List.mem_append_right _ h)))))) (by decide +kernel))) (goodIn_sub (fun _ h => List.mem_append_left _ (List.mem_append_left _ (List.mem_append_right _ h))) (by decide +kernel))
set_option maxRecDepth 20000 in
theorem gL_law_L_kind : GoodIn wsL_law (va_wsS RL 145 yL_kind wsL_kind) := goodIn_app (goodIn_of _ (by decide +kernel)) ggL_law_L_kind
set_option maxRecDepth 20000 in
theorem ggL_law_X3_kind : GoodIn wsL_law wsX3_kind := goodIn_ca (goodIn_r _ [313, 60, 299, 300, 301, 5, 302, 106, 105, 109, 110, 111, 581, 582, 583, 584, 585, 586, 587, 588, 589, 590, 591, 592, 593, 594, 595, 596, 597, 598, 599] (by decide +kernel) (by decide +kernel)) (goodIn_sub (fun _ h => List.mem_append_left _ (List.mem_append_left _ (List.mem_append_left _ (List.mem_append_left _ (List.mem_append_left _ (List.mem_append_right _ h)))))) (by decide +kernel))
set_option maxRecDepth 20000 in
theorem gL_law_X3_kind : GoodIn wsL_law (wsV RL 147 RX3 yX3_kind wsX3_kind) := goodIn_app (goodIn_of _ (by decide +kernel)) ggL_law_X3_kind
set_option maxRecDepth 20000 in
theorem ggL_law_L_tries : GoodIn wsL_law wsL_tries := goodIn_ca (goodIn_ca (goodIn_r _ [316, 119, 317, 318, 319, 2, 320, 21, 291, 292, 293, 294, 128, 129, 197, 20, 198, 199, 95, 578, 579, 580, 607, 608, 609, 610, 611, 612, 613, 614, 615, 616, 617, 618, 619] (by decide +kernel) (by decide +kernel)) (goodIn_sub (fun _ h => List.mem_append_left _ (List.mem_append_left _ (List.mem_append_left _ (List.mem_append_left _ (List.mem_append_left _ (List.mem_append_right _ h)))))) (by decide +kernel))) (goodIn_sub (fun _ h => List.mem_append_left _ (List.mem_append_left _ (List.mem_append_right _ h))) (by decide +kernel))
set_option maxRecDepth 20000 in
theorem gL_law_L_tries : GoodIn wsL_law (va_wsS RL 148 yL_tries wsL_tries) := goodIn_app (goodIn_of _ (by decide +kernel)) ggL_law_L_tries
set_option maxRecDepth 20000 in
theorem ggL_law_X3_tries : GoodIn wsL_law wsX3_tries := goodIn_ca (goodIn_r _ [324, 64, 299, 300, 301, 5, 302, 106, 105, 109, 110, 111, 581, 582, 583, 584, 585, 586, 587, 588, 589, 590, 591, 592, 593, 594, 595, 596, 597, 598, 599] (by decide +kernel) (by decide +kernel)) (goodIn_sub (fun _ h => List.mem_append_left _ (List.mem_append_left _ (List.mem_append_left _ (List.mem_append_left _ (List.mem_append_left _ (List.mem_append_right _ h)))))) (by decide +kernel))
set_option maxRecDepth 20000 in
theorem gL_law_X3_tries : GoodIn wsL_law (wsV RL 150 RX3 yX3_tries wsX3_tries) := goodIn_app (goodIn_of _ (by decide +kernel)) ggL_law_X3_tries
set_option maxRecDepth 20000 in
theorem ggL_law_L_readyAt : GoodIn wsL_law wsL_readyAt := goodIn_ca (goodIn_ca (goodIn_ca (goodIn_r _ [327, 119, 73, 328, 329, 330, 2, 331, 21, 291, 292, 293, 294, 128, 129, 197, 20, 198, 199, 95, 332, 333, 334, 335, 80, 81, 578, 579, 580, 607, 608, 609, 610, 611, 612, 613, 614, 615, 616, 617, 618, 619] (by decide +kernel) (by decide +kernel)) (goodIn_sub (fun _ h => List.mem_append_left _ (List.mem_append_left _ (List.mem_append_left _ (List.mem_append_left _ (List.mem_append_left _ (List.mem_append_right _ h)))))) (by decide +kernel))) (goodIn_sub (fun _ h => List.mem_append_left _ (List.mem_append_left _ (List.mem_append_right _ h))) (by decide +kernel))) (goodIn_sub (fun _ h => List.mem_append_left _ (List.mem_append_left _ (List.mem_append_left _ (List.mem_append_right _ h)))) (by decide +kernel))
set_option maxRecDepth 20000 in
theorem gL_law_L_readyAt : GoodIn wsL_law (va_wsS RL 151 yL_readyAt wsL_readyAt) := goodIn_app (goodIn_of _ (by decide +kernel)) ggL_law_L_readyAt
set_option maxRecDepth 20000 in
theorem ggL_law_X3_readyAt : GoodIn wsL_law wsX3_readyAt := goodIn_ca (goodIn_r _ [339, 65, 105, 63, 299, 300, 301, 5, 302, 106, 109, 110, 111, 581, 582, 583, 584, 585, 586, 587, 588, 589, 590, 591, 592, 593, 594, 595, 596, 597, 598, 599] (by decide +kernel) (by decide +kernel)) (goodIn_sub (fun _ h => List.mem_append_left _ (List.mem_append_left _ (List.mem_append_left _ (List.mem_append_left _ (List.mem_append_left _ (List.mem_append_right _ h)))))) (by decide +kernel))
set_option maxRecDepth 20000 in
theorem gL_law_X3_readyAt : GoodIn wsL_law (wsV RL 153 RX3 yX3_readyAt wsX3_readyAt) := goodIn_app (goodIn_of _ (by decide +kernel)) ggL_law_X3_readyAt
set_option maxRecDepth 20000 in
theorem ggL_law_L_ready : GoodIn wsL_law wsL_ready := goodIn_ca (goodIn_ca (goodIn_r _ [342, 72, 343, 344, 345, 2, 346, 21, 22, 252, 253, 254, 78, 79, 82, 83, 84, 347, 20, 348, 349, 95, 350, 351, 352, 353, 37, 43, 44, 578, 579, 580, 607, 608, 609, 610, 611, 612, 613, 614, 615, 616, 617, 618, 619] (by decide +kernel) (by decide +kernel)) (goodIn_sub (fun _ h => List.mem_append_left _ (List.mem_append_left _ (List.mem_append_left _ (List.mem_append_left _ (List.mem_append_left _ (List.mem_append_right _ h)))))) (by decide +kernel))) (goodIn_sub (fun _ h => List.mem_append_left _ (List.mem_append_left _ (List.mem_append_left _ (List.mem_append_left _ (List.mem_append_right _ h))))) (by decide +kernel))
set_option maxRecDepth 20000 in
theorem gL_law_L_ready : GoodIn wsL_law (va_wsS RL 154 yL_ready wsL_ready) := goodIn_app (goodIn_of _ (by decide +kernel)) ggL_law_L_ready
set_option maxRecDepth 20000 in
theorem ggL_law_X3_ready : GoodIn wsL_law wsX3_ready := goodIn_ca (goodIn_r _ [357, 105, 109, 110, 5, 111, 358, 359, 360, 361, 106, 362, 363, 364, 365, 58, 65, 63, 107, 581, 582, 583, 584, 585, 586, 587, 588, 589, 590, 591, 592, 593, 594, 595, 596, 597, 598, 599] (by decide +kernel) (by decide +kernel)) (goodIn_sub (fun _ h => List.mem_append_left _ (List.mem_append_left _ (List.mem_append_left _ (List.mem_append_left _ (List.mem_append_left _ (List.mem_append_right _ h)))))) (by decide +kernel))
set_option maxRecDepth 20000 in
theorem gL_law_X3_ready : GoodIn wsL_law (wsV RL 156 RX3 yX3_ready wsX3_ready) := goodIn_app (goodIn_of _ (by decide +kernel)) ggL_law_X3_ready
set_option maxRecDepth 20000 in
theorem ggL_law_L_readyAtPlace : GoodIn wsL_law wsL_readyAtPlace := goodIn_ca (goodIn_ca (goodIn_ca (goodIn_r _ [368, 72, 208, 369, 370, 371, 2, 372, 213, 214, 21, 22, 252, 253, 254, 78, 79, 82, 83, 84, 347, 20, 348, 349, 95, 350, 351, 352, 353, 37, 43, 44, 373, 374, 375, 376, 377, 378, 379, 578, 579, 580, 607, 608, 609, 610, 611, 612, 613, 614, 615, 616, 617, 618, 619] (by decide +kernel) (by decide +kernel)) (goodIn_sub (fun _ h => List.mem_append_left _ (List.mem_append_left _ (List.mem_append_left _ (List.mem_append_left _ (List.mem_append_left _ (List.mem_append_right _ h)))))) (by decide +kernel))) (goodIn_sub (fun _ h => List.mem_append_left _ (List.mem_append_right _ h)) (by decide +kernel))) (goodIn_sub (fun _ h => List.mem_append_left _ (List.mem_append_left _ (List.mem_append_left _ (List.mem_append_left _ (List.mem_append_right _ h))))) (by decide +kernel))
set_option maxRecDepth 20000 in
theorem gL_law_L_readyAtPlace : GoodIn wsL_law (va_wsS RL 157 yL_readyAtPlace wsL_readyAtPlace) := goodIn_app (goodIn_of _ (by decide +kernel)) ggL_law_L_readyAtPlace
set_option maxRecDepth 20000 in
theorem ggL_law_X3_readyAtPlace : GoodIn wsL_law wsX3_readyAtPlace := goodIn_ca (goodIn_r _ [383, 105, 109, 110, 5, 111, 265, 266, 267, 268, 384, 385, 386, 387, 106, 63, 362, 363, 364, 365, 58, 65, 107, 581, 582, 583, 584, 585, 586, 587, 588, 589, 590, 591, 592, 593, 594, 595, 596, 597, 598, 599] (by decide +kernel) (by decide +kernel)) (goodIn_sub (fun _ h => List.mem_append_left _ (List.mem_append_left _ (List.mem_append_left _ (List.mem_append_left _ (List.mem_append_left _ (List.mem_append_right _ h)))))) (by decide +kernel))
set_option maxRecDepth 20000 in
theorem gL_law_X3_readyAtPlace : GoodIn wsL_law (wsV RL 159 RX3 yX3_readyAtPlace wsX3_readyAtPlace) := goodIn_app (goodIn_of _ (by decide +kernel)) ggL_law_X3_readyAtPlace
set_option maxRecDepth 20000 in
theorem ggL_law_L_take : GoodIn wsL_law wsL_take := goodIn_ca (goodIn_ca (goodIn_ca (goodIn_ca (goodIn_r _ [390, 72, 73, 208, 391, 392, 393, 2, 394, 80, 81, 213, 214, 21, 22, 395, 396, 397, 78, 79, 82, 83, 84, 252, 253, 254, 398, 20, 399, 400, 95, 43, 46, 373, 374, 375, 350, 351, 352, 353, 37, 44, 376, 377, 378, 379, 401, 402, 403, 47, 578, 579, 580, 607, 608, 609, 610, 611, 612, 613, 614, 615, 616, 617, 618, 619] (by decide +kernel) (by decide +kernel)) (goodIn_sub (fun _ h => List.mem_append_left _ (List.mem_append_left _ (List.mem_append_left _ (List.mem_append_left _ (List.mem_append_left _ (List.mem_append_right _ h)))))) (by decide +kernel))) (goodIn_sub (fun _ h => List.mem_append_left _ (List.mem_append_left _ (List.mem_append_left _ (List.mem_append_right _ h)))) (by decide +kernel))) (goodIn_sub (fun _ h => List.mem_append_left _ (List.mem_append_right _ h)) (by decide +kernel))) (goodIn_sub (fun _ h => List.mem_append_left _ (List.mem_append_left _ (List.mem_append_left _ (List.mem_append_left _ (List.mem_append_right _ h))))) (by decide +kernel))
set_option maxRecDepth 20000 in
theorem gL_law_L_take : GoodIn wsL_law (va_wsS RL 160 yL_take wsL_take) := goodIn_app (goodIn_of _ (by decide +kernel)) ggL_law_L_take
set_option maxRecDepth 20000 in
theorem ggL_law_X3_take : GoodIn wsL_law wsX3_take := goodIn_ca (goodIn_r _ [407, 105, 65, 66, 67, 107, 109, 110, 5, 111, 265, 266, 267, 268, 384, 385, 386, 387, 106, 63, 362, 363, 364, 365, 58, 408, 409, 410, 411, 581, 582, 583, 584, 585, 586, 587, 588, 589, 590, 591, 592, 593, 594, 595, 596, 597, 598, 599] (by decide +kernel) (by decide +kernel)) (goodIn_sub (fun _ h => List.mem_append_left _ (List.mem_append_left _ (List.mem_append_left _ (List.mem_append_left _ (List.mem_append_left _ (List.mem_append_right _ h)))))) (by decide +kernel))
set_option maxRecDepth 20000 in
theorem gL_law_X3_take : GoodIn wsL_law (wsV RL 162 RX3 yX3_take wsX3_take) := goodIn_app (goodIn_of _ (by decide +kernel)) ggL_law_X3_take
set_option maxRecDepth 20000 in
theorem ggL_law_L_finish : GoodIn wsL_law wsL_finish := goodIn_ca (goodIn_ca (goodIn_ca (goodIn_r _ [414, 119, 73, 415, 416, 417, 2, 418, 21, 291, 292, 293, 294, 128, 129, 197, 20, 198, 199, 95, 332, 333, 334, 335, 80, 81, 419, 420, 421, 43, 195, 48, 422, 423, 424, 425, 17, 130, 16, 131, 132, 88, 426, 427, 428, 28, 158, 97, 98, 99, 429, 430, 431, 33, 432, 433, 434, 30, 435, 152, 153, 154, 578, 579, 580, 607, 608, 609, 610, 611, 612, 613, 614, 615, 616, 617, 618, 619, 600, 601, 602, 603, 604, 605, 606] (by decide +kernel) (by decide +kernel)) (goodIn_sub (fun _ h => List.mem_append_left _ (List.mem_append_left _ (List.mem_append_left _ (List.mem_append_left _ (List.mem_append_left _ (List.mem_append_right _ h)))))) (by decide +kernel))) (goodIn_sub (fun _ h => List.mem_append_left _ (List.mem_append_left _ (List.mem_append_right _ h))) (by decide +kernel))) (goodIn_sub (fun _ h => List.mem_append_left _ (List.mem_append_left _ (List.mem_append_left _ (List.mem_append_right _ h)))) (by decide +kernel))
set_option maxRecDepth 20000 in
theorem gL_law_L_finish : GoodIn wsL_law (va_wsS RL 163 yL_finish wsL_finish) := goodIn_app (goodIn_of _ (by decide +kernel)) ggL_law_L_finish
set_option maxRecDepth 20000 in
theorem ggL_law_X3_finish : GoodIn wsL_law wsX3_finish := goodIn_ca (goodIn_r _ [439, 65, 105, 61, 60, 53, 62, 108, 97, 98, 99, 57, 55, 299, 300, 301, 5, 302, 106, 109, 110, 111, 581, 582, 583, 584, 585, 586, 587, 588, 589, 590, 591, 592, 593, 594, 595, 596, 597, 598, 599] (by decide +kernel) (by decide +kernel)) (goodIn_sub (fun _ h => List.mem_append_left _ (List.mem_append_left _ (List.mem_append_left _ (List.mem_append_left _ (List.mem_append_left _ (List.mem_append_right _ h)))))) (by decide +kernel))
set_option maxRecDepth 20000 in
theorem gL_law_X3_finish : GoodIn wsL_law (wsV RL 165 RX3 yX3_finish wsX3_finish) := goodIn_app (goodIn_of _ (by decide +kernel)) ggL_law_X3_finish
set_option maxRecDepth 20000 in
theorem ggL_law_L_handBack : GoodIn wsL_law wsL_handBack := goodIn_ca (goodIn_ca (goodIn_ca (goodIn_r _ [442, 119, 73, 443, 444, 445, 2, 446, 21, 22, 291, 292, 293, 294, 128, 129, 197, 20, 198, 199, 95, 332, 333, 334, 335, 80, 81, 447, 448, 449, 45, 43, 44, 578, 579, 580, 607, 608, 609, 610, 611, 612, 613, 614, 615, 616, 617, 618, 619] (by decide +kernel) (by decide +kernel)) (goodIn_sub (fun _ h => List.mem_append_left _ (List.mem_append_left _ (List.mem_append_left _ (List.mem_append_left _ (List.mem_append_left _ (List.mem_append_right _ h)))))) (by decide +kernel))) (goodIn_sub (fun _ h => List.mem_append_left _ (List.mem_append_left _ (List.mem_append_right _ h))) (by decide +kernel))) (goodIn_sub (fun _ h => List.mem_append_left _ (List.mem_append_left _ (List.mem_append_left _ (List.mem_append_right _ h)))) (by decide +kernel))
set_option maxRecDepth 20000 in
theorem gL_law_L_handBack : GoodIn wsL_law (va_wsS RL 166 yL_handBack wsL_handBack) := goodIn_app (goodIn_of _ (by decide +kernel)) ggL_law_L_handBack
set_option maxRecDepth 20000 in
theorem ggL_law_X3_handBack : GoodIn wsL_law wsX3_handBack := goodIn_ca (goodIn_r _ [453, 65, 105, 299, 300, 301, 5, 302, 106, 109, 110, 111, 454, 455, 456, 457, 64, 63, 107, 581, 582, 583, 584, 585, 586, 587, 588, 589, 590, 591, 592, 593, 594, 595, 596, 597, 598, 599] (by decide +kernel) (by decide +kernel)) (goodIn_sub (fun _ h => List.mem_append_left _ (List.mem_append_left _ (List.mem_append_left _ (List.mem_append_left _ (List.mem_append_left _ (List.mem_append_right _ h)))))) (by decide +kernel))
set_option maxRecDepth 20000 in
theorem gL_law_X3_handBack : GoodIn wsL_law (wsV RL 168 RX3 yX3_handBack wsX3_handBack) := goodIn_app (goodIn_of _ (by decide +kernel)) ggL_law_X3_handBack
set_option maxRecDepth 20000 in
theorem ggL_law_L_revive : GoodIn wsL_law wsL_revive := goodIn_ca (goodIn_ca (goodIn_ca (goodIn_r _ [460, 119, 73, 461, 462, 463, 2, 464, 21, 22, 291, 292, 293, 294, 128, 129, 197, 20, 198, 199, 95, 332, 333, 334, 335, 80, 81, 465, 466, 467, 43, 44, 45, 468, 469, 470, 578, 579, 580, 607, 608, 609, 610, 611, 612, 613, 614, 615, 616, 617, 618, 619] (by decide +kernel) (by decide +kernel)) (goodIn_sub (fun _ h => List.mem_append_left _ (List.mem_append_left _ (List.mem_append_left _ (List.mem_append_left _ (List.mem_append_left _ (List.mem_append_right _ h)))))) (by decide +kernel))) (goodIn_sub (fun _ h => List.mem_append_left _ (List.mem_append_left _ (List.mem_append_right _ h))) (by decide +kernel))) (goodIn_sub (fun _ h => List.mem_append_left _ (List.mem_append_left _ (List.mem_append_left _ (List.mem_append_right _ h)))) (by decide +kernel))
set_option maxRecDepth 20000 in
theorem gL_law_L_revive : GoodIn wsL_law (va_wsS RL 169 yL_revive wsL_revive) := goodIn_app (goodIn_of _ (by decide +kernel)) ggL_law_L_revive
set_option maxRecDepth 20000 in
theorem ggL_law_X3_revive : GoodIn wsL_law wsX3_revive := goodIn_ca (goodIn_r _ [474, 65, 105, 63, 107, 64, 299, 300, 301, 5, 302, 106, 109, 110, 111, 475, 476, 477, 478, 581, 582, 583, 584, 585, 586, 587, 588, 589, 590, 591, 592, 593, 594, 595, 596, 597, 598, 599] (by decide +kernel) (by decide +kernel)) (goodIn_sub (fun _ h => List.mem_append_left _ (List.mem_append_left _ (List.mem_append_left _ (List.mem_append_left _ (List.mem_append_left _ (List.mem_append_right _ h)))))) (by decide +kernel))
set_option maxRecDepth 20000 in
theorem gL_law_X3_revive : GoodIn wsL_law (wsV RL 171 RX3 yX3_revive wsX3_revive) := goodIn_app (goodIn_of _ (by decide +kernel)) ggL_law_X3_revive
set_option maxRecDepth 20000 in
theorem ggL_law_L_clerk : GoodIn wsL_law wsL_clerk := goodIn_ca (goodIn_ca (goodIn_ca (goodIn_r _ [481, 119, 208, 482, 483, 484, 2, 485, 213, 214, 21, 291, 292, 293, 294, 128, 129, 197, 20, 198, 199, 95, 578, 579, 580, 607, 608, 609, 610, 611, 612, 613, 614, 615, 616, 617, 618, 619] (by decide +kernel) (by decide +kernel)) (goodIn_sub (fun _ h => List.mem_append_left _ (List.mem_append_left _ (List.mem_append_left _ (List.mem_append_left _ (List.mem_append_left _ (List.mem_append_right _ h)))))) (by decide +kernel))) (goodIn_sub (fun _ h => List.mem_append_left _ (List.mem_append_right _ h)) (by decide +kernel))) (goodIn_sub (fun _ h => List.mem_append_left _ (List.mem_append_left _ (List.mem_append_right _ h))) (by decide +kernel))
set_option maxRecDepth 20000 in
theorem gL_law_L_clerk : GoodIn wsL_law (va_wsS RL 172 yL_clerk wsL_clerk) := goodIn_app (goodIn_of _ (by decide +kernel)) ggL_law_L_clerk
set_option maxRecDepth 20000 in
theorem ggL_law_X3_clerk : GoodIn wsL_law wsX3_clerk := goodIn_ca (goodIn_r _ [489, 65, 105, 66, 299, 300, 301, 5, 302, 106, 109, 110, 111, 581, 582, 583, 584, 585, 586, 587, 588, 589, 590, 591, 592, 593, 594, 595, 596, 597, 598, 599] (by decide +kernel) (by decide +kernel)) (goodIn_sub (fun _ h => List.mem_append_left _ (List.mem_append_left _ (List.mem_append_left _ (List.mem_append_left _ (List.mem_append_left _ (List.mem_append_right _ h)))))) (by decide +kernel))
set_option maxRecDepth 20000 in
theorem gL_law_X3_clerk : GoodIn wsL_law (wsV RL 174 RX3 yX3_clerk wsX3_clerk) := goodIn_app (goodIn_of _ (by decide +kernel)) ggL_law_X3_clerk
set_option maxRecDepth 20000 in
theorem ggL_law_L_has : GoodIn wsL_law wsL_has := goodIn_ca (goodIn_ca (goodIn_r _ [492, 72, 493, 494, 495, 2, 496, 21, 395, 396, 397, 78, 79, 82, 83, 84, 398, 20, 399, 400, 95, 43, 46, 578, 579, 580, 607, 608, 609, 610, 611, 612, 613, 614, 615, 616, 617, 618, 619] (by decide +kernel) (by decide +kernel)) (goodIn_sub (fun _ h => List.mem_append_left _ (List.mem_append_left _ (List.mem_append_left _ (List.mem_append_left _ (List.mem_append_left _ (List.mem_append_right _ h)))))) (by decide +kernel))) (goodIn_sub (fun _ h => List.mem_append_left _ (List.mem_append_left _ (List.mem_append_left _ (List.mem_append_left _ (List.mem_append_right _ h))))) (by decide +kernel))
set_option maxRecDepth 20000 in
theorem gL_law_L_has : GoodIn wsL_law (va_wsS RL 175 yL_has wsL_has) := goodIn_app (goodIn_of _ (by decide +kernel)) ggL_law_L_has
set_option maxRecDepth 20000 in
theorem ggL_law_X3_has : GoodIn wsL_law wsX3_has := goodIn_ca (goodIn_r _ [500, 105, 109, 110, 5, 111, 408, 409, 410, 411, 106, 65, 66, 581, 582, 583, 584, 585, 586, 587, 588, 589, 590, 591, 592, 593, 594, 595, 596, 597, 598, 599] (by decide +kernel) (by decide +kernel)) (goodIn_sub (fun _ h => List.mem_append_left _ (List.mem_append_left _ (List.mem_append_left _ (List.mem_append_left _ (List.mem_append_left _ (List.mem_append_right _ h)))))) (by decide +kernel))
set_option maxRecDepth 20000 in
theorem gL_law_X3_has : GoodIn wsL_law (wsV RL 177 RX3 yX3_has wsX3_has) := goodIn_app (goodIn_of _ (by decide +kernel)) ggL_law_X3_has
set_option maxRecDepth 20000 in
theorem ggL_law_L_pass : GoodIn wsL_law wsL_pass := goodIn_ca (goodIn_ca (goodIn_r _ [503, 72, 504, 505, 506, 2, 507, 78, 79, 22, 21, 82, 83, 84, 508, 20, 509, 510, 95, 43, 47, 511, 447, 448, 449, 45, 44, 512, 513, 514, 515, 17, 255, 256, 257, 516, 517, 518, 519, 216, 217, 218, 219, 152, 16, 153, 154, 28, 220, 221, 222, 223, 224, 225, 38, 226, 227, 228, 29, 30, 258, 259, 260, 37, 40, 41, 42, 578, 579, 580, 607, 608, 609, 610, 611, 612, 613, 614, 615, 616, 617, 618, 619, 600, 601, 602, 603, 604, 605, 606] (by decide +kernel) (by decide +kernel)) (goodIn_sub (fun _ h => List.mem_append_left _ (List.mem_append_left _ (List.mem_append_left _ (List.mem_append_left _ (List.mem_append_left _ (List.mem_append_right _ h)))))) (by decide +kernel))) (goodIn_sub (fun _ h => List.mem_append_left _ (List.mem_append_left _ (List.mem_append_left _ (List.mem_append_left _ (List.mem_append_right _ h))))) (by decide +kernel))
set_option maxRecDepth 20000 in
theorem gL_law_L_pass : GoodIn wsL_law (va_wsS RL 178 yL_pass wsL_pass) := goodIn_app (goodIn_of _ (by decide +kernel)) ggL_law_L_pass
set_option maxRecDepth 20000 in
theorem ggL_law_X3_pass : GoodIn wsL_law wsX3_pass := goodIn_ca (goodIn_r _ [523, 107, 105, 109, 110, 5, 111, 524, 525, 526, 527, 106, 65, 67, 104, 55, 454, 455, 456, 457, 64, 63, 233, 234, 235, 236, 53, 57, 237, 238, 239, 240, 59, 241, 242, 243, 244, 56, 54, 108, 97, 98, 99, 269, 270, 271, 272, 58, 60, 61, 62, 581, 582, 583, 584, 585, 586, 587, 588, 589, 590, 591, 592, 593, 594, 595, 596, 597, 598, 599] (by decide +kernel) (by decide +kernel)) (goodIn_sub (fun _ h => List.mem_append_left _ (List.mem_append_left _ (List.mem_append_left _ (List.mem_append_left _ (List.mem_append_left _ (List.mem_append_right _ h)))))) (by decide +kernel))
set_option maxRecDepth 20000 in
theorem gL_law_X3_pass : GoodIn wsL_law (wsV RL 180 RX3 yX3_pass wsX3_pass) := goodIn_app (goodIn_of _ (by decide +kernel)) ggL_law_X3_pass
set_option maxRecDepth 20000 in
theorem ggL_law_X2_day : GoodIn wsL_law wsX2_day := goodIn_r _ [531, 22, 578, 579, 580] (by decide +kernel) (by decide +kernel)
set_option maxRecDepth 20000 in
theorem gL_law_X2_day : GoodIn wsL_law (wsV RL 181 RX2 yX2_day wsX2_day) := goodIn_app (goodIn_of _ (by decide +kernel)) ggL_law_X2_day
set_option maxRecDepth 20000 in
theorem ggL_law_X3_day : GoodIn wsL_law wsX3_day := goodIn_r _ [535, 105, 107, 581, 582, 583, 584, 585, 586, 587, 588, 589, 590, 591, 592, 593, 594, 595, 596, 597, 598, 599] (by decide +kernel) (by decide +kernel)
set_option maxRecDepth 20000 in
theorem gL_law_X3_day : GoodIn wsL_law (wsV RL 184 RX3 yX3_day wsX3_day) := goodIn_app (goodIn_of _ (by decide +kernel)) ggL_law_X3_day
set_option maxRecDepth 20000 in
theorem ggL_law_L_count : GoodIn wsL_law wsL_count := goodIn_ca (goodIn_ca (goodIn_r _ [538, 72, 539, 540, 541, 2, 542, 78, 79, 21, 468, 20, 469, 470, 95, 43, 578, 579, 580, 607, 608, 609, 610, 611, 612, 613, 614, 615, 616, 617, 618, 619] (by decide +kernel) (by decide +kernel)) (goodIn_sub (fun _ h => List.mem_append_left _ (List.mem_append_left _ (List.mem_append_left _ (List.mem_append_left _ (List.mem_append_left _ (List.mem_append_right _ h)))))) (by decide +kernel))) (goodIn_sub (fun _ h => List.mem_append_left _ (List.mem_append_left _ (List.mem_append_left _ (List.mem_append_left _ (List.mem_append_right _ h))))) (by decide +kernel))
set_option maxRecDepth 20000 in
theorem gL_law_L_count : GoodIn wsL_law (va_wsS RL 185 yL_count wsL_count) := goodIn_app (goodIn_of _ (by decide +kernel)) ggL_law_L_count
set_option maxRecDepth 20000 in
theorem ggL_law_X3_count : GoodIn wsL_law wsX3_count := goodIn_ca (goodIn_r _ [546, 105, 475, 476, 477, 5, 478, 106, 65, 581, 582, 583, 584, 585, 586, 587, 588, 589, 590, 591, 592, 593, 594, 595, 596, 597, 598, 599] (by decide +kernel) (by decide +kernel)) (goodIn_sub (fun _ h => List.mem_append_left _ (List.mem_append_left _ (List.mem_append_left _ (List.mem_append_left _ (List.mem_append_left _ (List.mem_append_right _ h)))))) (by decide +kernel))
set_option maxRecDepth 20000 in
theorem gL_law_X3_count : GoodIn wsL_law (wsV RL 188 RX3 yX3_count wsX3_count) := goodIn_app (goodIn_of _ (by decide +kernel)) ggL_law_X3_count
set_option maxRecDepth 20000 in
theorem ggL_law_L_doneShare : GoodIn wsL_law wsL_doneShare := goodIn_ca (goodIn_ca (goodIn_r _ [549, 550, 551, 552, 553, 2, 554, 555, 556, 21, 468, 20, 469, 470, 95, 43, 578, 579, 580, 607, 608, 609, 610, 611, 612, 613, 614, 615, 616, 617, 618, 619] (by decide +kernel) (by decide +kernel)) (goodIn_sub (fun _ h => List.mem_append_left _ (List.mem_append_left _ (List.mem_append_left _ (List.mem_append_left _ (List.mem_append_left _ (List.mem_append_right _ h)))))) (by decide +kernel))) (goodIn_sub (fun _ h => List.mem_append_right _ h) (by decide +kernel))
set_option maxRecDepth 20000 in
theorem gL_law_L_doneShare : GoodIn wsL_law (va_wsS RL 189 yL_doneShare wsL_doneShare) := goodIn_app (goodIn_of _ (by decide +kernel)) ggL_law_L_doneShare
set_option maxRecDepth 20000 in
theorem ggL_law_X3_doneShare : GoodIn wsL_law wsX3_doneShare := goodIn_ca (goodIn_r _ [560, 106, 105, 475, 476, 477, 5, 478, 65, 581, 582, 583, 584, 585, 586, 587, 588, 589, 590, 591, 592, 593, 594, 595, 596, 597, 598, 599] (by decide +kernel) (by decide +kernel)) (goodIn_sub (fun _ h => List.mem_append_left _ (List.mem_append_left _ (List.mem_append_left _ (List.mem_append_left _ (List.mem_append_left _ (List.mem_append_right _ h)))))) (by decide +kernel))
set_option maxRecDepth 20000 in
theorem gL_law_X3_doneShare : GoodIn wsL_law (wsV RL 192 RX3 yX3_doneShare wsX3_doneShare) := goodIn_app (goodIn_of _ (by decide +kernel)) ggL_law_X3_doneShare
set_option maxRecDepth 20000 in
theorem ggL_law_L_meanAmount : GoodIn wsL_law wsL_meanAmount := goodIn_ca (goodIn_ca (goodIn_r _ [563, 550, 564, 565, 566, 2, 567, 555, 556, 17, 568, 16, 569, 570, 88, 435, 152, 153, 154, 28, 571, 572, 573, 578, 579, 580, 600, 601, 602, 603, 604, 605, 606] (by decide +kernel) (by decide +kernel)) (goodIn_sub (fun _ h => List.mem_append_left _ (List.mem_append_left _ (List.mem_append_left _ (List.mem_append_left _ (List.mem_append_left _ (List.mem_append_right _ h)))))) (by decide +kernel))) (goodIn_sub (fun _ h => List.mem_append_right _ h) (by decide +kernel))
set_option maxRecDepth 20000 in
theorem gL_law_L_meanAmount : GoodIn wsL_law (va_wsS RL 193 yL_meanAmount wsL_meanAmount) := goodIn_app (goodIn_of _ (by decide +kernel)) ggL_law_L_meanAmount
set_option maxRecDepth 20000 in
theorem ggL_law_X3_meanAmount : GoodIn wsL_law wsX3_meanAmount := goodIn_ca (goodIn_r _ [577, 104, 53, 105, 581, 582, 583, 584, 585, 586, 587, 588, 589, 590, 591, 592, 593, 594, 595, 596, 597, 598, 599] (by decide +kernel) (by decide +kernel)) (goodIn_sub (fun _ h => List.mem_append_left _ (List.mem_append_left _ (List.mem_append_left _ (List.mem_append_left _ (List.mem_append_left _ (List.mem_append_right _ h)))))) (by decide +kernel))
set_option maxRecDepth 20000 in
theorem gL_law_X3_meanAmount : GoodIn wsL_law (wsV RL 195 RX3 yX3_meanAmount wsX3_meanAmount) := goodIn_app (goodIn_of _ (by decide +kernel)) ggL_law_X3_meanAmount
theorem dL_law_0 : decode cL_law 0 = .ok (.new 8, 3) := by decide +kernel
theorem dL_law_3 : decode cL_law 3 = .ok (.dup, 1) := by decide +kernel
theorem dL_law_4 : decode cL_law 4 = .ok (.invokespecial 102, 3) := by decide +kernel
theorem dL_law_7 : decode cL_law 7 = .ok (.astore_n 1, 1) := by decide +kernel
theorem dL_law_8 : decode cL_law 8 = .ok (.new 103, 3) := by decide +kernel
theorem dL_law_11 : decode cL_law 11 = .ok (.dup, 1) := by decide +kernel
theorem dL_law_12 : decode cL_law 12 = .ok (.invokespecial 105, 3) := by decide +kernel
theorem dL_law_15 : decode cL_law 15 = .ok (.astore_n 2, 1) := by decide +kernel
theorem dL_law_16 : decode cL_law 16 = .ok (.iconst 1, 1) := by decide +kernel
theorem dL_law_17 : decode cL_law 17 = .ok (.newarray .long, 2) := by decide +kernel
theorem dL_law_19 : decode cL_law 19 = .ok (.astore_n 3, 1) := by decide +kernel
theorem dL_law_20 : decode cL_law 20 = .ok (.iconst 1, 1) := by decide +kernel
theorem dL_law_21 : decode cL_law 21 = .ok (.newarray .double, 2) := by decide +kernel
theorem dL_law_23 : decode cL_law 23 = .ok (.astore 4, 2) := by decide +kernel
theorem dL_law_25 : decode cL_law 25 = .ok (.iconst 0, 1) := by decide +kernel
theorem dL_law_26 : decode cL_law 26 = .ok (.istore 5, 2) := by decide +kernel
theorem dL_law_28 : decode cL_law 28 = .ok (.iload 5, 2) := by decide +kernel
theorem dL_law_30 : decode cL_law 30 = .ok (.aload_n 0, 1) := by decide +kernel
theorem dL_law_31 : decode cL_law 31 = .ok (.arraylength, 1) := by decide +kernel
theorem dL_law_32 : decode cL_law 32 = .ok (.bipush 7, 2) := by decide +kernel
theorem dL_law_34 : decode cL_law 34 = .ok (.isub, 1) := by decide +kernel
theorem dL_law_35 : decode cL_law 35 = .ok (.if_icmp .gt 1695, 3) := by decide +kernel
theorem dL_law_38 : decode cL_law 38 = .ok (.aload_n 0, 1) := by decide +kernel
theorem dL_law_39 : decode cL_law 39 = .ok (.iload 5, 2) := by decide +kernel
theorem dL_law_41 : decode cL_law 41 = .ok (.iaload, 1) := by decide +kernel
theorem dL_law_42 : decode cL_law 42 = .ok (.bipush 31, 2) := by decide +kernel
theorem dL_law_44 : decode cL_law 44 = .ok (.iand, 1) := by decide +kernel
theorem dL_law_45 : decode cL_law 45 = .ok (.tableswitch 1679 0 25 #[119, 187, 243, 311, 374, 430, 486, 542, 662, 718, 774, 830, 886, 942, 998, 1066, 1134, 1197, 1253, 1309, 1365, 1421, 1477, 1490, 1548, 1614], 119) := by decide +kernel
theorem dL_law_164 : decode cL_law 164 = .ok (.aload_n 1, 1) := by decide +kernel
theorem dL_law_165 : decode cL_law 165 = .ok (.aload_n 0, 1) := by decide +kernel
theorem dL_law_166 : decode cL_law 166 = .ok (.iload 5, 2) := by decide +kernel
theorem dL_law_168 : decode cL_law 168 = .ok (.iconst 1, 1) := by decide +kernel
theorem dL_law_169 : decode cL_law 169 = .ok (.iadd, 1) := by decide +kernel
theorem dL_law_170 : decode cL_law 170 = .ok (.iaload, 1) := by decide +kernel
theorem dL_law_171 : decode cL_law 171 = .ok (.aload_n 0, 1) := by decide +kernel
theorem dL_law_172 : decode cL_law 172 = .ok (.iload 5, 2) := by decide +kernel
theorem dL_law_174 : decode cL_law 174 = .ok (.iconst 2, 1) := by decide +kernel
theorem dL_law_175 : decode cL_law 175 = .ok (.iadd, 1) := by decide +kernel
theorem dL_law_176 : decode cL_law 176 = .ok (.iaload, 1) := by decide +kernel
theorem dL_law_177 : decode cL_law 177 = .ok (.aload_n 3, 1) := by decide +kernel
theorem dL_law_178 : decode cL_law 178 = .ok (.invokestatic 106, 3) := by decide +kernel
theorem dL_law_181 : decode cL_law 181 = .ok (.istore 6, 2) := by decide +kernel
theorem dL_law_183 : decode cL_law 183 = .ok (.aload_n 2, 1) := by decide +kernel
theorem dL_law_184 : decode cL_law 184 = .ok (.aload_n 0, 1) := by decide +kernel
theorem dL_law_185 : decode cL_law 185 = .ok (.iload 5, 2) := by decide +kernel
theorem dL_law_187 : decode cL_law 187 = .ok (.iconst 1, 1) := by decide +kernel
theorem dL_law_188 : decode cL_law 188 = .ok (.iadd, 1) := by decide +kernel
theorem dL_law_189 : decode cL_law 189 = .ok (.iaload, 1) := by decide +kernel
theorem dL_law_190 : decode cL_law 190 = .ok (.aload_n 0, 1) := by decide +kernel
theorem dL_law_191 : decode cL_law 191 = .ok (.iload 5, 2) := by decide +kernel
theorem dL_law_193 : decode cL_law 193 = .ok (.iconst 2, 1) := by decide +kernel
theorem dL_law_194 : decode cL_law 194 = .ok (.iadd, 1) := by decide +kernel
theorem dL_law_195 : decode cL_law 195 = .ok (.iaload, 1) := by decide +kernel
theorem dL_law_196 : decode cL_law 196 = .ok (.invokevirtual 111, 3) := by decide +kernel
theorem dL_law_199 : decode cL_law 199 = .ok (.istore 7, 2) := by decide +kernel
theorem dL_law_201 : decode cL_law 201 = .ok (.aload_n 2, 1) := by decide +kernel
theorem dL_law_202 : decode cL_law 202 = .ok (.invokevirtual 112, 3) := by decide +kernel
theorem dL_law_205 : decode cL_law 205 = .ok (.iload 6, 2) := by decide +kernel
theorem dL_law_207 : decode cL_law 207 = .ok (.if_icmp .eq 5, 3) := by decide +kernel
theorem dL_law_210 : decode cL_law 210 = .ok (.iconst 0, 1) := by decide +kernel
theorem dL_law_211 : decode cL_law 211 = .ok (.ireturn, 1) := by decide +kernel
theorem dL_law_212 : decode cL_law 212 = .ok (.iload 6, 2) := by decide +kernel
theorem dL_law_214 : decode cL_law 214 = .ok (.ifCond .ne 15, 3) := by decide +kernel
theorem dL_law_217 : decode cL_law 217 = .ok (.aload_n 3, 1) := by decide +kernel
theorem dL_law_218 : decode cL_law 218 = .ok (.iconst 0, 1) := by decide +kernel
theorem dL_law_219 : decode cL_law 219 = .ok (.laload, 1) := by decide +kernel
theorem dL_law_220 : decode cL_law 220 = .ok (.iload 7, 2) := by decide +kernel
theorem dL_law_222 : decode cL_law 222 = .ok (.i2l, 1) := by decide +kernel
theorem dL_law_223 : decode cL_law 223 = .ok (.lcmp, 1) := by decide +kernel
theorem dL_law_224 : decode cL_law 224 = .ok (.ifCond .eq 5, 3) := by decide +kernel
theorem dL_law_227 : decode cL_law 227 = .ok (.iconst 0, 1) := by decide +kernel
theorem dL_law_228 : decode cL_law 228 = .ok (.ireturn, 1) := by decide +kernel
theorem dL_law_229 : decode cL_law 229 = .ok (.goto 1495, 3) := by decide +kernel
theorem dL_law_232 : decode cL_law 232 = .ok (.aload_n 1, 1) := by decide +kernel
theorem dL_law_233 : decode cL_law 233 = .ok (.aload_n 0, 1) := by decide +kernel
theorem dL_law_234 : decode cL_law 234 = .ok (.iload 5, 2) := by decide +kernel
theorem dL_law_236 : decode cL_law 236 = .ok (.iconst 1, 1) := by decide +kernel
theorem dL_law_237 : decode cL_law 237 = .ok (.iadd, 1) := by decide +kernel
theorem dL_law_238 : decode cL_law 238 = .ok (.iaload, 1) := by decide +kernel
theorem dL_law_239 : decode cL_law 239 = .ok (.aload_n 3, 1) := by decide +kernel
theorem dL_law_240 : decode cL_law 240 = .ok (.invokestatic 116, 3) := by decide +kernel
theorem dL_law_243 : decode cL_law 243 = .ok (.istore 6, 2) := by decide +kernel
theorem dL_law_245 : decode cL_law 245 = .ok (.aload_n 2, 1) := by decide +kernel
theorem dL_law_246 : decode cL_law 246 = .ok (.aload_n 0, 1) := by decide +kernel
theorem dL_law_247 : decode cL_law 247 = .ok (.iload 5, 2) := by decide +kernel
theorem dL_law_249 : decode cL_law 249 = .ok (.iconst 1, 1) := by decide +kernel
theorem dL_law_250 : decode cL_law 250 = .ok (.iadd, 1) := by decide +kernel
theorem dL_law_251 : decode cL_law 251 = .ok (.iaload, 1) := by decide +kernel
theorem dL_law_252 : decode cL_law 252 = .ok (.invokevirtual 119, 3) := by decide +kernel
theorem dL_law_255 : decode cL_law 255 = .ok (.istore 7, 2) := by decide +kernel
theorem dL_law_257 : decode cL_law 257 = .ok (.aload_n 2, 1) := by decide +kernel
theorem dL_law_258 : decode cL_law 258 = .ok (.invokevirtual 112, 3) := by decide +kernel
theorem dL_law_261 : decode cL_law 261 = .ok (.iload 6, 2) := by decide +kernel
theorem dL_law_263 : decode cL_law 263 = .ok (.if_icmp .eq 5, 3) := by decide +kernel
theorem dL_law_266 : decode cL_law 266 = .ok (.iconst 0, 1) := by decide +kernel
theorem dL_law_267 : decode cL_law 267 = .ok (.ireturn, 1) := by decide +kernel
theorem dL_law_268 : decode cL_law 268 = .ok (.iload 6, 2) := by decide +kernel
theorem dL_law_270 : decode cL_law 270 = .ok (.ifCond .ne 15, 3) := by decide +kernel
theorem dL_law_273 : decode cL_law 273 = .ok (.aload_n 3, 1) := by decide +kernel
theorem dL_law_274 : decode cL_law 274 = .ok (.iconst 0, 1) := by decide +kernel
theorem dL_law_275 : decode cL_law 275 = .ok (.laload, 1) := by decide +kernel
theorem dL_law_276 : decode cL_law 276 = .ok (.iload 7, 2) := by decide +kernel
theorem dL_law_278 : decode cL_law 278 = .ok (.i2l, 1) := by decide +kernel
theorem dL_law_279 : decode cL_law 279 = .ok (.lcmp, 1) := by decide +kernel
theorem dL_law_280 : decode cL_law 280 = .ok (.ifCond .eq 5, 3) := by decide +kernel
theorem dL_law_283 : decode cL_law 283 = .ok (.iconst 0, 1) := by decide +kernel
theorem dL_law_284 : decode cL_law 284 = .ok (.ireturn, 1) := by decide +kernel
theorem dL_law_285 : decode cL_law 285 = .ok (.goto 1439, 3) := by decide +kernel
theorem dL_law_288 : decode cL_law 288 = .ok (.aload_n 1, 1) := by decide +kernel
theorem dL_law_289 : decode cL_law 289 = .ok (.aload_n 0, 1) := by decide +kernel
theorem dL_law_290 : decode cL_law 290 = .ok (.iload 5, 2) := by decide +kernel
theorem dL_law_292 : decode cL_law 292 = .ok (.iconst 1, 1) := by decide +kernel
theorem dL_law_293 : decode cL_law 293 = .ok (.iadd, 1) := by decide +kernel
theorem dL_law_294 : decode cL_law 294 = .ok (.iaload, 1) := by decide +kernel
theorem dL_law_295 : decode cL_law 295 = .ok (.aload_n 0, 1) := by decide +kernel
theorem dL_law_296 : decode cL_law 296 = .ok (.iload 5, 2) := by decide +kernel
theorem dL_law_298 : decode cL_law 298 = .ok (.iconst 2, 1) := by decide +kernel
theorem dL_law_299 : decode cL_law 299 = .ok (.iadd, 1) := by decide +kernel
theorem dL_law_300 : decode cL_law 300 = .ok (.iaload, 1) := by decide +kernel
theorem dL_law_301 : decode cL_law 301 = .ok (.aload_n 3, 1) := by decide +kernel
theorem dL_law_302 : decode cL_law 302 = .ok (.invokestatic 120, 3) := by decide +kernel
theorem dL_law_305 : decode cL_law 305 = .ok (.istore 6, 2) := by decide +kernel
theorem dL_law_307 : decode cL_law 307 = .ok (.aload_n 2, 1) := by decide +kernel
theorem dL_law_308 : decode cL_law 308 = .ok (.aload_n 0, 1) := by decide +kernel
theorem dL_law_309 : decode cL_law 309 = .ok (.iload 5, 2) := by decide +kernel
theorem dL_law_311 : decode cL_law 311 = .ok (.iconst 1, 1) := by decide +kernel
theorem dL_law_312 : decode cL_law 312 = .ok (.iadd, 1) := by decide +kernel
theorem dL_law_313 : decode cL_law 313 = .ok (.iaload, 1) := by decide +kernel
theorem dL_law_314 : decode cL_law 314 = .ok (.aload_n 0, 1) := by decide +kernel
theorem dL_law_315 : decode cL_law 315 = .ok (.iload 5, 2) := by decide +kernel
theorem dL_law_317 : decode cL_law 317 = .ok (.iconst 2, 1) := by decide +kernel
theorem dL_law_318 : decode cL_law 318 = .ok (.iadd, 1) := by decide +kernel
theorem dL_law_319 : decode cL_law 319 = .ok (.iaload, 1) := by decide +kernel
theorem dL_law_320 : decode cL_law 320 = .ok (.invokevirtual 122, 3) := by decide +kernel
theorem dL_law_323 : decode cL_law 323 = .ok (.istore 7, 2) := by decide +kernel
theorem dL_law_325 : decode cL_law 325 = .ok (.aload_n 2, 1) := by decide +kernel
theorem dL_law_326 : decode cL_law 326 = .ok (.invokevirtual 112, 3) := by decide +kernel
theorem dL_law_329 : decode cL_law 329 = .ok (.iload 6, 2) := by decide +kernel
theorem dL_law_331 : decode cL_law 331 = .ok (.if_icmp .eq 5, 3) := by decide +kernel
end
section
theorem dL_law_334 : decode cL_law 334 = .ok (.iconst 0, 1) := by decide +kernel
theorem dL_law_335 : decode cL_law 335 = .ok (.ireturn, 1) := by decide +kernel
theorem dL_law_336 : decode cL_law 336 = .ok (.iload 6, 2) := by decide +kernel
theorem dL_law_338 : decode cL_law 338 = .ok (.ifCond .ne 15, 3) := by decide +kernel
theorem dL_law_341 : decode cL_law 341 = .ok (.aload_n 3, 1) := by decide +kernel
theorem dL_law_342 : decode cL_law 342 = .ok (.iconst 0, 1) := by decide +kernel
theorem dL_law_343 : decode cL_law 343 = .ok (.laload, 1) := by decide +kernel
theorem dL_law_344 : decode cL_law 344 = .ok (.iload 7, 2) := by decide +kernel
theorem dL_law_346 : decode cL_law 346 = .ok (.i2l, 1) := by decide +kernel
theorem dL_law_347 : decode cL_law 347 = .ok (.lcmp, 1) := by decide +kernel
theorem dL_law_348 : decode cL_law 348 = .ok (.ifCond .eq 5, 3) := by decide +kernel
theorem dL_law_351 : decode cL_law 351 = .ok (.iconst 0, 1) := by decide +kernel
theorem dL_law_352 : decode cL_law 352 = .ok (.ireturn, 1) := by decide +kernel
theorem dL_law_353 : decode cL_law 353 = .ok (.goto 1371, 3) := by decide +kernel
theorem dL_law_356 : decode cL_law 356 = .ok (.aload_n 1, 1) := by decide +kernel
theorem dL_law_357 : decode cL_law 357 = .ok (.aload_n 0, 1) := by decide +kernel
theorem dL_law_358 : decode cL_law 358 = .ok (.iload 5, 2) := by decide +kernel
theorem dL_law_360 : decode cL_law 360 = .ok (.iconst 1, 1) := by decide +kernel
theorem dL_law_361 : decode cL_law 361 = .ok (.iadd, 1) := by decide +kernel
theorem dL_law_362 : decode cL_law 362 = .ok (.iaload, 1) := by decide +kernel
theorem dL_law_363 : decode cL_law 363 = .ok (.aload_n 3, 1) := by decide +kernel
theorem dL_law_364 : decode cL_law 364 = .ok (.invokestatic 123, 3) := by decide +kernel
theorem dL_law_367 : decode cL_law 367 = .ok (.istore 6, 2) := by decide +kernel
theorem dL_law_369 : decode cL_law 369 = .ok (.aload_n 2, 1) := by decide +kernel
theorem dL_law_370 : decode cL_law 370 = .ok (.aload_n 0, 1) := by decide +kernel
theorem dL_law_371 : decode cL_law 371 = .ok (.iload 5, 2) := by decide +kernel
theorem dL_law_373 : decode cL_law 373 = .ok (.iconst 1, 1) := by decide +kernel
theorem dL_law_374 : decode cL_law 374 = .ok (.iadd, 1) := by decide +kernel
theorem dL_law_375 : decode cL_law 375 = .ok (.iaload, 1) := by decide +kernel
theorem dL_law_376 : decode cL_law 376 = .ok (.invokevirtual 125, 3) := by decide +kernel
theorem dL_law_379 : decode cL_law 379 = .ok (.istore 7, 2) := by decide +kernel
theorem dL_law_381 : decode cL_law 381 = .ok (.aload_n 2, 1) := by decide +kernel
theorem dL_law_382 : decode cL_law 382 = .ok (.invokevirtual 112, 3) := by decide +kernel
theorem dL_law_385 : decode cL_law 385 = .ok (.iload 6, 2) := by decide +kernel
theorem dL_law_387 : decode cL_law 387 = .ok (.if_icmp .eq 5, 3) := by decide +kernel
theorem dL_law_390 : decode cL_law 390 = .ok (.iconst 0, 1) := by decide +kernel
theorem dL_law_391 : decode cL_law 391 = .ok (.ireturn, 1) := by decide +kernel
theorem dL_law_392 : decode cL_law 392 = .ok (.iload 6, 2) := by decide +kernel
theorem dL_law_394 : decode cL_law 394 = .ok (.ifCond .ne 22, 3) := by decide +kernel
theorem dL_law_397 : decode cL_law 397 = .ok (.aload_n 3, 1) := by decide +kernel
theorem dL_law_398 : decode cL_law 398 = .ok (.iconst 0, 1) := by decide +kernel
theorem dL_law_399 : decode cL_law 399 = .ok (.laload, 1) := by decide +kernel
theorem dL_law_400 : decode cL_law 400 = .ok (.iload 7, 2) := by decide +kernel
theorem dL_law_402 : decode cL_law 402 = .ok (.ifCond .eq 7, 3) := by decide +kernel
theorem dL_law_405 : decode cL_law 405 = .ok (.lconst 1, 1) := by decide +kernel
theorem dL_law_406 : decode cL_law 406 = .ok (.goto 4, 3) := by decide +kernel
theorem dL_law_409 : decode cL_law 409 = .ok (.lconst 0, 1) := by decide +kernel
theorem dL_law_410 : decode cL_law 410 = .ok (.lcmp, 1) := by decide +kernel
theorem dL_law_411 : decode cL_law 411 = .ok (.ifCond .eq 5, 3) := by decide +kernel
theorem dL_law_414 : decode cL_law 414 = .ok (.iconst 0, 1) := by decide +kernel
theorem dL_law_415 : decode cL_law 415 = .ok (.ireturn, 1) := by decide +kernel
theorem dL_law_416 : decode cL_law 416 = .ok (.goto 1308, 3) := by decide +kernel
theorem dL_law_419 : decode cL_law 419 = .ok (.aload_n 1, 1) := by decide +kernel
theorem dL_law_420 : decode cL_law 420 = .ok (.aload_n 0, 1) := by decide +kernel
theorem dL_law_421 : decode cL_law 421 = .ok (.iload 5, 2) := by decide +kernel
theorem dL_law_423 : decode cL_law 423 = .ok (.iconst 1, 1) := by decide +kernel
theorem dL_law_424 : decode cL_law 424 = .ok (.iadd, 1) := by decide +kernel
theorem dL_law_425 : decode cL_law 425 = .ok (.iaload, 1) := by decide +kernel
theorem dL_law_426 : decode cL_law 426 = .ok (.aload_n 3, 1) := by decide +kernel
theorem dL_law_427 : decode cL_law 427 = .ok (.invokestatic 126, 3) := by decide +kernel
theorem dL_law_430 : decode cL_law 430 = .ok (.istore 6, 2) := by decide +kernel
theorem dL_law_432 : decode cL_law 432 = .ok (.aload_n 2, 1) := by decide +kernel
theorem dL_law_433 : decode cL_law 433 = .ok (.aload_n 0, 1) := by decide +kernel
theorem dL_law_434 : decode cL_law 434 = .ok (.iload 5, 2) := by decide +kernel
theorem dL_law_436 : decode cL_law 436 = .ok (.iconst 1, 1) := by decide +kernel
theorem dL_law_437 : decode cL_law 437 = .ok (.iadd, 1) := by decide +kernel
theorem dL_law_438 : decode cL_law 438 = .ok (.iaload, 1) := by decide +kernel
theorem dL_law_439 : decode cL_law 439 = .ok (.invokevirtual 128, 3) := by decide +kernel
theorem dL_law_442 : decode cL_law 442 = .ok (.istore 7, 2) := by decide +kernel
theorem dL_law_444 : decode cL_law 444 = .ok (.aload_n 2, 1) := by decide +kernel
theorem dL_law_445 : decode cL_law 445 = .ok (.invokevirtual 112, 3) := by decide +kernel
theorem dL_law_448 : decode cL_law 448 = .ok (.iload 6, 2) := by decide +kernel
theorem dL_law_450 : decode cL_law 450 = .ok (.if_icmp .eq 5, 3) := by decide +kernel
theorem dL_law_453 : decode cL_law 453 = .ok (.iconst 0, 1) := by decide +kernel
theorem dL_law_454 : decode cL_law 454 = .ok (.ireturn, 1) := by decide +kernel
theorem dL_law_455 : decode cL_law 455 = .ok (.iload 6, 2) := by decide +kernel
theorem dL_law_457 : decode cL_law 457 = .ok (.ifCond .ne 15, 3) := by decide +kernel
theorem dL_law_460 : decode cL_law 460 = .ok (.aload_n 3, 1) := by decide +kernel
theorem dL_law_461 : decode cL_law 461 = .ok (.iconst 0, 1) := by decide +kernel
theorem dL_law_462 : decode cL_law 462 = .ok (.laload, 1) := by decide +kernel
theorem dL_law_463 : decode cL_law 463 = .ok (.iload 7, 2) := by decide +kernel
theorem dL_law_465 : decode cL_law 465 = .ok (.i2l, 1) := by decide +kernel
theorem dL_law_466 : decode cL_law 466 = .ok (.lcmp, 1) := by decide +kernel
theorem dL_law_467 : decode cL_law 467 = .ok (.ifCond .eq 5, 3) := by decide +kernel
theorem dL_law_470 : decode cL_law 470 = .ok (.iconst 0, 1) := by decide +kernel
theorem dL_law_471 : decode cL_law 471 = .ok (.ireturn, 1) := by decide +kernel
theorem dL_law_472 : decode cL_law 472 = .ok (.goto 1252, 3) := by decide +kernel
theorem dL_law_475 : decode cL_law 475 = .ok (.aload_n 1, 1) := by decide +kernel
theorem dL_law_476 : decode cL_law 476 = .ok (.aload_n 0, 1) := by decide +kernel
theorem dL_law_477 : decode cL_law 477 = .ok (.iload 5, 2) := by decide +kernel
theorem dL_law_479 : decode cL_law 479 = .ok (.iconst 1, 1) := by decide +kernel
theorem dL_law_480 : decode cL_law 480 = .ok (.iadd, 1) := by decide +kernel
theorem dL_law_481 : decode cL_law 481 = .ok (.iaload, 1) := by decide +kernel
theorem dL_law_482 : decode cL_law 482 = .ok (.aload_n 3, 1) := by decide +kernel
theorem dL_law_483 : decode cL_law 483 = .ok (.invokestatic 129, 3) := by decide +kernel
theorem dL_law_486 : decode cL_law 486 = .ok (.istore 6, 2) := by decide +kernel
theorem dL_law_488 : decode cL_law 488 = .ok (.aload_n 2, 1) := by decide +kernel
theorem dL_law_489 : decode cL_law 489 = .ok (.aload_n 0, 1) := by decide +kernel
theorem dL_law_490 : decode cL_law 490 = .ok (.iload 5, 2) := by decide +kernel
theorem dL_law_492 : decode cL_law 492 = .ok (.iconst 1, 1) := by decide +kernel
theorem dL_law_493 : decode cL_law 493 = .ok (.iadd, 1) := by decide +kernel
theorem dL_law_494 : decode cL_law 494 = .ok (.iaload, 1) := by decide +kernel
theorem dL_law_495 : decode cL_law 495 = .ok (.invokevirtual 131, 3) := by decide +kernel
theorem dL_law_498 : decode cL_law 498 = .ok (.istore 7, 2) := by decide +kernel
theorem dL_law_500 : decode cL_law 500 = .ok (.aload_n 2, 1) := by decide +kernel
theorem dL_law_501 : decode cL_law 501 = .ok (.invokevirtual 112, 3) := by decide +kernel
theorem dL_law_504 : decode cL_law 504 = .ok (.iload 6, 2) := by decide +kernel
theorem dL_law_506 : decode cL_law 506 = .ok (.if_icmp .eq 5, 3) := by decide +kernel
theorem dL_law_509 : decode cL_law 509 = .ok (.iconst 0, 1) := by decide +kernel
theorem dL_law_510 : decode cL_law 510 = .ok (.ireturn, 1) := by decide +kernel
theorem dL_law_511 : decode cL_law 511 = .ok (.iload 6, 2) := by decide +kernel
theorem dL_law_513 : decode cL_law 513 = .ok (.ifCond .ne 15, 3) := by decide +kernel
theorem dL_law_516 : decode cL_law 516 = .ok (.aload_n 3, 1) := by decide +kernel
theorem dL_law_517 : decode cL_law 517 = .ok (.iconst 0, 1) := by decide +kernel
theorem dL_law_518 : decode cL_law 518 = .ok (.laload, 1) := by decide +kernel
theorem dL_law_519 : decode cL_law 519 = .ok (.iload 7, 2) := by decide +kernel
theorem dL_law_521 : decode cL_law 521 = .ok (.i2l, 1) := by decide +kernel
theorem dL_law_522 : decode cL_law 522 = .ok (.lcmp, 1) := by decide +kernel
theorem dL_law_523 : decode cL_law 523 = .ok (.ifCond .eq 5, 3) := by decide +kernel
theorem dL_law_526 : decode cL_law 526 = .ok (.iconst 0, 1) := by decide +kernel
theorem dL_law_527 : decode cL_law 527 = .ok (.ireturn, 1) := by decide +kernel
theorem dL_law_528 : decode cL_law 528 = .ok (.goto 1196, 3) := by decide +kernel
theorem dL_law_531 : decode cL_law 531 = .ok (.aload_n 1, 1) := by decide +kernel
theorem dL_law_532 : decode cL_law 532 = .ok (.aload_n 0, 1) := by decide +kernel
theorem dL_law_533 : decode cL_law 533 = .ok (.iload 5, 2) := by decide +kernel
theorem dL_law_535 : decode cL_law 535 = .ok (.iconst 1, 1) := by decide +kernel
theorem dL_law_536 : decode cL_law 536 = .ok (.iadd, 1) := by decide +kernel
theorem dL_law_537 : decode cL_law 537 = .ok (.iaload, 1) := by decide +kernel
theorem dL_law_538 : decode cL_law 538 = .ok (.aload_n 3, 1) := by decide +kernel
theorem dL_law_539 : decode cL_law 539 = .ok (.invokestatic 132, 3) := by decide +kernel
theorem dL_law_542 : decode cL_law 542 = .ok (.istore 6, 2) := by decide +kernel
theorem dL_law_544 : decode cL_law 544 = .ok (.aload_n 2, 1) := by decide +kernel
theorem dL_law_545 : decode cL_law 545 = .ok (.aload_n 0, 1) := by decide +kernel
theorem dL_law_546 : decode cL_law 546 = .ok (.iload 5, 2) := by decide +kernel
theorem dL_law_548 : decode cL_law 548 = .ok (.iconst 1, 1) := by decide +kernel
theorem dL_law_549 : decode cL_law 549 = .ok (.iadd, 1) := by decide +kernel
theorem dL_law_550 : decode cL_law 550 = .ok (.iaload, 1) := by decide +kernel
theorem dL_law_551 : decode cL_law 551 = .ok (.invokevirtual 134, 3) := by decide +kernel
theorem dL_law_554 : decode cL_law 554 = .ok (.istore 7, 2) := by decide +kernel
theorem dL_law_556 : decode cL_law 556 = .ok (.aload_n 2, 1) := by decide +kernel
theorem dL_law_557 : decode cL_law 557 = .ok (.invokevirtual 112, 3) := by decide +kernel
theorem dL_law_560 : decode cL_law 560 = .ok (.iload 6, 2) := by decide +kernel
theorem dL_law_562 : decode cL_law 562 = .ok (.if_icmp .eq 5, 3) := by decide +kernel
theorem dL_law_565 : decode cL_law 565 = .ok (.iconst 0, 1) := by decide +kernel
theorem dL_law_566 : decode cL_law 566 = .ok (.ireturn, 1) := by decide +kernel
theorem dL_law_567 : decode cL_law 567 = .ok (.iload 6, 2) := by decide +kernel
theorem dL_law_569 : decode cL_law 569 = .ok (.ifCond .ne 15, 3) := by decide +kernel
theorem dL_law_572 : decode cL_law 572 = .ok (.aload_n 3, 1) := by decide +kernel
theorem dL_law_573 : decode cL_law 573 = .ok (.iconst 0, 1) := by decide +kernel
theorem dL_law_574 : decode cL_law 574 = .ok (.laload, 1) := by decide +kernel
theorem dL_law_575 : decode cL_law 575 = .ok (.iload 7, 2) := by decide +kernel
theorem dL_law_577 : decode cL_law 577 = .ok (.i2l, 1) := by decide +kernel
theorem dL_law_578 : decode cL_law 578 = .ok (.lcmp, 1) := by decide +kernel
theorem dL_law_579 : decode cL_law 579 = .ok (.ifCond .eq 5, 3) := by decide +kernel
theorem dL_law_582 : decode cL_law 582 = .ok (.iconst 0, 1) := by decide +kernel
theorem dL_law_583 : decode cL_law 583 = .ok (.ireturn, 1) := by decide +kernel
theorem dL_law_584 : decode cL_law 584 = .ok (.goto 1140, 3) := by decide +kernel
theorem dL_law_587 : decode cL_law 587 = .ok (.aload_n 1, 1) := by decide +kernel
theorem dL_law_588 : decode cL_law 588 = .ok (.aload_n 0, 1) := by decide +kernel
theorem dL_law_589 : decode cL_law 589 = .ok (.iload 5, 2) := by decide +kernel
theorem dL_law_591 : decode cL_law 591 = .ok (.iconst 1, 1) := by decide +kernel
theorem dL_law_592 : decode cL_law 592 = .ok (.iadd, 1) := by decide +kernel
theorem dL_law_593 : decode cL_law 593 = .ok (.iaload, 1) := by decide +kernel
theorem dL_law_594 : decode cL_law 594 = .ok (.aload_n 0, 1) := by decide +kernel
theorem dL_law_595 : decode cL_law 595 = .ok (.iload 5, 2) := by decide +kernel
theorem dL_law_597 : decode cL_law 597 = .ok (.iconst 2, 1) := by decide +kernel
theorem dL_law_598 : decode cL_law 598 = .ok (.iadd, 1) := by decide +kernel
theorem dL_law_599 : decode cL_law 599 = .ok (.iaload, 1) := by decide +kernel
theorem dL_law_600 : decode cL_law 600 = .ok (.aload_n 0, 1) := by decide +kernel
theorem dL_law_601 : decode cL_law 601 = .ok (.iload 5, 2) := by decide +kernel
theorem dL_law_603 : decode cL_law 603 = .ok (.iconst 3, 1) := by decide +kernel
theorem dL_law_604 : decode cL_law 604 = .ok (.iadd, 1) := by decide +kernel
theorem dL_law_605 : decode cL_law 605 = .ok (.iaload, 1) := by decide +kernel
theorem dL_law_606 : decode cL_law 606 = .ok (.i2c, 1) := by decide +kernel
theorem dL_law_607 : decode cL_law 607 = .ok (.aload_n 0, 1) := by decide +kernel
theorem dL_law_608 : decode cL_law 608 = .ok (.iload 5, 2) := by decide +kernel
theorem dL_law_610 : decode cL_law 610 = .ok (.iconst 4, 1) := by decide +kernel
theorem dL_law_611 : decode cL_law 611 = .ok (.iadd, 1) := by decide +kernel
theorem dL_law_612 : decode cL_law 612 = .ok (.iaload, 1) := by decide +kernel
theorem dL_law_613 : decode cL_law 613 = .ok (.aload_n 0, 1) := by decide +kernel
theorem dL_law_614 : decode cL_law 614 = .ok (.iload 5, 2) := by decide +kernel
theorem dL_law_616 : decode cL_law 616 = .ok (.iconst 5, 1) := by decide +kernel
theorem dL_law_617 : decode cL_law 617 = .ok (.iadd, 1) := by decide +kernel
theorem dL_law_618 : decode cL_law 618 = .ok (.iaload, 1) := by decide +kernel
theorem dL_law_619 : decode cL_law 619 = .ok (.aload_n 0, 1) := by decide +kernel
theorem dL_law_620 : decode cL_law 620 = .ok (.iload 5, 2) := by decide +kernel
theorem dL_law_622 : decode cL_law 622 = .ok (.bipush 6, 2) := by decide +kernel
theorem dL_law_624 : decode cL_law 624 = .ok (.iadd, 1) := by decide +kernel
theorem dL_law_625 : decode cL_law 625 = .ok (.iaload, 1) := by decide +kernel
theorem dL_law_626 : decode cL_law 626 = .ok (.aload_n 3, 1) := by decide +kernel
theorem dL_law_627 : decode cL_law 627 = .ok (.invokestatic 135, 3) := by decide +kernel
theorem dL_law_630 : decode cL_law 630 = .ok (.istore 6, 2) := by decide +kernel
theorem dL_law_632 : decode cL_law 632 = .ok (.aload_n 2, 1) := by decide +kernel
theorem dL_law_633 : decode cL_law 633 = .ok (.aload_n 0, 1) := by decide +kernel
theorem dL_law_634 : decode cL_law 634 = .ok (.iload 5, 2) := by decide +kernel
theorem dL_law_636 : decode cL_law 636 = .ok (.iconst 1, 1) := by decide +kernel
theorem dL_law_637 : decode cL_law 637 = .ok (.iadd, 1) := by decide +kernel
theorem dL_law_638 : decode cL_law 638 = .ok (.iaload, 1) := by decide +kernel
theorem dL_law_639 : decode cL_law 639 = .ok (.aload_n 0, 1) := by decide +kernel
theorem dL_law_640 : decode cL_law 640 = .ok (.iload 5, 2) := by decide +kernel
theorem dL_law_642 : decode cL_law 642 = .ok (.iconst 2, 1) := by decide +kernel
theorem dL_law_643 : decode cL_law 643 = .ok (.iadd, 1) := by decide +kernel
theorem dL_law_644 : decode cL_law 644 = .ok (.iaload, 1) := by decide +kernel
theorem dL_law_645 : decode cL_law 645 = .ok (.aload_n 0, 1) := by decide +kernel
theorem dL_law_646 : decode cL_law 646 = .ok (.iload 5, 2) := by decide +kernel
theorem dL_law_648 : decode cL_law 648 = .ok (.iconst 3, 1) := by decide +kernel
theorem dL_law_649 : decode cL_law 649 = .ok (.iadd, 1) := by decide +kernel
theorem dL_law_650 : decode cL_law 650 = .ok (.iaload, 1) := by decide +kernel
theorem dL_law_651 : decode cL_law 651 = .ok (.i2c, 1) := by decide +kernel
theorem dL_law_652 : decode cL_law 652 = .ok (.aload_n 0, 1) := by decide +kernel
theorem dL_law_653 : decode cL_law 653 = .ok (.iload 5, 2) := by decide +kernel
theorem dL_law_655 : decode cL_law 655 = .ok (.iconst 4, 1) := by decide +kernel
theorem dL_law_656 : decode cL_law 656 = .ok (.iadd, 1) := by decide +kernel
theorem dL_law_657 : decode cL_law 657 = .ok (.iaload, 1) := by decide +kernel
theorem dL_law_658 : decode cL_law 658 = .ok (.aload_n 0, 1) := by decide +kernel
theorem dL_law_659 : decode cL_law 659 = .ok (.iload 5, 2) := by decide +kernel
theorem dL_law_661 : decode cL_law 661 = .ok (.iconst 5, 1) := by decide +kernel
theorem dL_law_662 : decode cL_law 662 = .ok (.iadd, 1) := by decide +kernel
theorem dL_law_663 : decode cL_law 663 = .ok (.iaload, 1) := by decide +kernel
theorem dL_law_664 : decode cL_law 664 = .ok (.aload_n 0, 1) := by decide +kernel
theorem dL_law_665 : decode cL_law 665 = .ok (.iload 5, 2) := by decide +kernel
theorem dL_law_667 : decode cL_law 667 = .ok (.bipush 6, 2) := by decide +kernel
theorem dL_law_669 : decode cL_law 669 = .ok (.iadd, 1) := by decide +kernel
theorem dL_law_670 : decode cL_law 670 = .ok (.iaload, 1) := by decide +kernel
theorem dL_law_671 : decode cL_law 671 = .ok (.invokevirtual 138, 3) := by decide +kernel
theorem dL_law_674 : decode cL_law 674 = .ok (.istore 7, 2) := by decide +kernel
theorem dL_law_676 : decode cL_law 676 = .ok (.aload_n 2, 1) := by decide +kernel
theorem dL_law_677 : decode cL_law 677 = .ok (.invokevirtual 112, 3) := by decide +kernel
theorem dL_law_680 : decode cL_law 680 = .ok (.iload 6, 2) := by decide +kernel
theorem dL_law_682 : decode cL_law 682 = .ok (.if_icmp .eq 5, 3) := by decide +kernel
theorem dL_law_685 : decode cL_law 685 = .ok (.iconst 0, 1) := by decide +kernel
theorem dL_law_686 : decode cL_law 686 = .ok (.ireturn, 1) := by decide +kernel
theorem dL_law_687 : decode cL_law 687 = .ok (.iload 6, 2) := by decide +kernel
theorem dL_law_689 : decode cL_law 689 = .ok (.ifCond .ne 15, 3) := by decide +kernel
theorem dL_law_692 : decode cL_law 692 = .ok (.aload_n 3, 1) := by decide +kernel
theorem dL_law_693 : decode cL_law 693 = .ok (.iconst 0, 1) := by decide +kernel
theorem dL_law_694 : decode cL_law 694 = .ok (.laload, 1) := by decide +kernel
theorem dL_law_695 : decode cL_law 695 = .ok (.iload 7, 2) := by decide +kernel
theorem dL_law_697 : decode cL_law 697 = .ok (.i2l, 1) := by decide +kernel
theorem dL_law_698 : decode cL_law 698 = .ok (.lcmp, 1) := by decide +kernel
theorem dL_law_699 : decode cL_law 699 = .ok (.ifCond .eq 5, 3) := by decide +kernel
theorem dL_law_702 : decode cL_law 702 = .ok (.iconst 0, 1) := by decide +kernel
theorem dL_law_703 : decode cL_law 703 = .ok (.ireturn, 1) := by decide +kernel
theorem dL_law_704 : decode cL_law 704 = .ok (.goto 1020, 3) := by decide +kernel
theorem dL_law_707 : decode cL_law 707 = .ok (.aload_n 1, 1) := by decide +kernel
theorem dL_law_708 : decode cL_law 708 = .ok (.aload_n 0, 1) := by decide +kernel
theorem dL_law_709 : decode cL_law 709 = .ok (.iload 5, 2) := by decide +kernel
theorem dL_law_711 : decode cL_law 711 = .ok (.iconst 1, 1) := by decide +kernel
theorem dL_law_712 : decode cL_law 712 = .ok (.iadd, 1) := by decide +kernel
theorem dL_law_713 : decode cL_law 713 = .ok (.iaload, 1) := by decide +kernel
theorem dL_law_714 : decode cL_law 714 = .ok (.aload_n 3, 1) := by decide +kernel
theorem dL_law_715 : decode cL_law 715 = .ok (.invokestatic 139, 3) := by decide +kernel
theorem dL_law_718 : decode cL_law 718 = .ok (.istore 6, 2) := by decide +kernel
theorem dL_law_720 : decode cL_law 720 = .ok (.aload_n 2, 1) := by decide +kernel
theorem dL_law_721 : decode cL_law 721 = .ok (.aload_n 0, 1) := by decide +kernel
theorem dL_law_722 : decode cL_law 722 = .ok (.iload 5, 2) := by decide +kernel
theorem dL_law_724 : decode cL_law 724 = .ok (.iconst 1, 1) := by decide +kernel
theorem dL_law_725 : decode cL_law 725 = .ok (.iadd, 1) := by decide +kernel
theorem dL_law_726 : decode cL_law 726 = .ok (.iaload, 1) := by decide +kernel
theorem dL_law_727 : decode cL_law 727 = .ok (.invokevirtual 141, 3) := by decide +kernel
theorem dL_law_730 : decode cL_law 730 = .ok (.istore 7, 2) := by decide +kernel
theorem dL_law_732 : decode cL_law 732 = .ok (.aload_n 2, 1) := by decide +kernel
theorem dL_law_733 : decode cL_law 733 = .ok (.invokevirtual 112, 3) := by decide +kernel
theorem dL_law_736 : decode cL_law 736 = .ok (.iload 6, 2) := by decide +kernel
theorem dL_law_738 : decode cL_law 738 = .ok (.if_icmp .eq 5, 3) := by decide +kernel
theorem dL_law_741 : decode cL_law 741 = .ok (.iconst 0, 1) := by decide +kernel
theorem dL_law_742 : decode cL_law 742 = .ok (.ireturn, 1) := by decide +kernel
theorem dL_law_743 : decode cL_law 743 = .ok (.iload 6, 2) := by decide +kernel
theorem dL_law_745 : decode cL_law 745 = .ok (.ifCond .ne 15, 3) := by decide +kernel
theorem dL_law_748 : decode cL_law 748 = .ok (.aload_n 3, 1) := by decide +kernel
theorem dL_law_749 : decode cL_law 749 = .ok (.iconst 0, 1) := by decide +kernel
theorem dL_law_750 : decode cL_law 750 = .ok (.laload, 1) := by decide +kernel
theorem dL_law_751 : decode cL_law 751 = .ok (.iload 7, 2) := by decide +kernel
theorem dL_law_753 : decode cL_law 753 = .ok (.i2l, 1) := by decide +kernel
theorem dL_law_754 : decode cL_law 754 = .ok (.lcmp, 1) := by decide +kernel
theorem dL_law_755 : decode cL_law 755 = .ok (.ifCond .eq 5, 3) := by decide +kernel
theorem dL_law_758 : decode cL_law 758 = .ok (.iconst 0, 1) := by decide +kernel
theorem dL_law_759 : decode cL_law 759 = .ok (.ireturn, 1) := by decide +kernel
theorem dL_law_760 : decode cL_law 760 = .ok (.goto 964, 3) := by decide +kernel
theorem dL_law_763 : decode cL_law 763 = .ok (.aload_n 1, 1) := by decide +kernel
theorem dL_law_764 : decode cL_law 764 = .ok (.aload_n 0, 1) := by decide +kernel
theorem dL_law_765 : decode cL_law 765 = .ok (.iload 5, 2) := by decide +kernel
theorem dL_law_767 : decode cL_law 767 = .ok (.iconst 1, 1) := by decide +kernel
theorem dL_law_768 : decode cL_law 768 = .ok (.iadd, 1) := by decide +kernel
theorem dL_law_769 : decode cL_law 769 = .ok (.iaload, 1) := by decide +kernel
theorem dL_law_770 : decode cL_law 770 = .ok (.aload_n 3, 1) := by decide +kernel
theorem dL_law_771 : decode cL_law 771 = .ok (.invokestatic 142, 3) := by decide +kernel
theorem dL_law_774 : decode cL_law 774 = .ok (.istore 6, 2) := by decide +kernel
theorem dL_law_776 : decode cL_law 776 = .ok (.aload_n 2, 1) := by decide +kernel
theorem dL_law_777 : decode cL_law 777 = .ok (.aload_n 0, 1) := by decide +kernel
theorem dL_law_778 : decode cL_law 778 = .ok (.iload 5, 2) := by decide +kernel
theorem dL_law_780 : decode cL_law 780 = .ok (.iconst 1, 1) := by decide +kernel
theorem dL_law_781 : decode cL_law 781 = .ok (.iadd, 1) := by decide +kernel
theorem dL_law_782 : decode cL_law 782 = .ok (.iaload, 1) := by decide +kernel
theorem dL_law_783 : decode cL_law 783 = .ok (.invokevirtual 144, 3) := by decide +kernel
theorem dL_law_786 : decode cL_law 786 = .ok (.istore 7, 2) := by decide +kernel
theorem dL_law_788 : decode cL_law 788 = .ok (.aload_n 2, 1) := by decide +kernel
theorem dL_law_789 : decode cL_law 789 = .ok (.invokevirtual 112, 3) := by decide +kernel
theorem dL_law_792 : decode cL_law 792 = .ok (.iload 6, 2) := by decide +kernel
theorem dL_law_794 : decode cL_law 794 = .ok (.if_icmp .eq 5, 3) := by decide +kernel
theorem dL_law_797 : decode cL_law 797 = .ok (.iconst 0, 1) := by decide +kernel
theorem dL_law_798 : decode cL_law 798 = .ok (.ireturn, 1) := by decide +kernel
theorem dL_law_799 : decode cL_law 799 = .ok (.iload 6, 2) := by decide +kernel
theorem dL_law_801 : decode cL_law 801 = .ok (.ifCond .ne 15, 3) := by decide +kernel
theorem dL_law_804 : decode cL_law 804 = .ok (.aload_n 3, 1) := by decide +kernel
theorem dL_law_805 : decode cL_law 805 = .ok (.iconst 0, 1) := by decide +kernel
theorem dL_law_806 : decode cL_law 806 = .ok (.laload, 1) := by decide +kernel
theorem dL_law_807 : decode cL_law 807 = .ok (.iload 7, 2) := by decide +kernel
theorem dL_law_809 : decode cL_law 809 = .ok (.i2l, 1) := by decide +kernel
theorem dL_law_810 : decode cL_law 810 = .ok (.lcmp, 1) := by decide +kernel
theorem dL_law_811 : decode cL_law 811 = .ok (.ifCond .eq 5, 3) := by decide +kernel
theorem dL_law_814 : decode cL_law 814 = .ok (.iconst 0, 1) := by decide +kernel
theorem dL_law_815 : decode cL_law 815 = .ok (.ireturn, 1) := by decide +kernel
theorem dL_law_816 : decode cL_law 816 = .ok (.goto 908, 3) := by decide +kernel
theorem dL_law_819 : decode cL_law 819 = .ok (.aload_n 1, 1) := by decide +kernel
theorem dL_law_820 : decode cL_law 820 = .ok (.aload_n 0, 1) := by decide +kernel
theorem dL_law_821 : decode cL_law 821 = .ok (.iload 5, 2) := by decide +kernel
theorem dL_law_823 : decode cL_law 823 = .ok (.iconst 1, 1) := by decide +kernel
theorem dL_law_824 : decode cL_law 824 = .ok (.iadd, 1) := by decide +kernel
theorem dL_law_825 : decode cL_law 825 = .ok (.iaload, 1) := by decide +kernel
theorem dL_law_826 : decode cL_law 826 = .ok (.aload_n 3, 1) := by decide +kernel
theorem dL_law_827 : decode cL_law 827 = .ok (.invokestatic 145, 3) := by decide +kernel
theorem dL_law_830 : decode cL_law 830 = .ok (.istore 6, 2) := by decide +kernel
theorem dL_law_832 : decode cL_law 832 = .ok (.aload_n 2, 1) := by decide +kernel
theorem dL_law_833 : decode cL_law 833 = .ok (.aload_n 0, 1) := by decide +kernel
theorem dL_law_834 : decode cL_law 834 = .ok (.iload 5, 2) := by decide +kernel
theorem dL_law_836 : decode cL_law 836 = .ok (.iconst 1, 1) := by decide +kernel
theorem dL_law_837 : decode cL_law 837 = .ok (.iadd, 1) := by decide +kernel
theorem dL_law_838 : decode cL_law 838 = .ok (.iaload, 1) := by decide +kernel
theorem dL_law_839 : decode cL_law 839 = .ok (.invokevirtual 147, 3) := by decide +kernel
theorem dL_law_842 : decode cL_law 842 = .ok (.istore 7, 2) := by decide +kernel
theorem dL_law_844 : decode cL_law 844 = .ok (.aload_n 2, 1) := by decide +kernel
theorem dL_law_845 : decode cL_law 845 = .ok (.invokevirtual 112, 3) := by decide +kernel
theorem dL_law_848 : decode cL_law 848 = .ok (.iload 6, 2) := by decide +kernel
theorem dL_law_850 : decode cL_law 850 = .ok (.if_icmp .eq 5, 3) := by decide +kernel
theorem dL_law_853 : decode cL_law 853 = .ok (.iconst 0, 1) := by decide +kernel
theorem dL_law_854 : decode cL_law 854 = .ok (.ireturn, 1) := by decide +kernel
theorem dL_law_855 : decode cL_law 855 = .ok (.iload 6, 2) := by decide +kernel
theorem dL_law_857 : decode cL_law 857 = .ok (.ifCond .ne 15, 3) := by decide +kernel
theorem dL_law_860 : decode cL_law 860 = .ok (.aload_n 3, 1) := by decide +kernel
theorem dL_law_861 : decode cL_law 861 = .ok (.iconst 0, 1) := by decide +kernel
theorem dL_law_862 : decode cL_law 862 = .ok (.laload, 1) := by decide +kernel
theorem dL_law_863 : decode cL_law 863 = .ok (.iload 7, 2) := by decide +kernel
theorem dL_law_865 : decode cL_law 865 = .ok (.i2l, 1) := by decide +kernel
theorem dL_law_866 : decode cL_law 866 = .ok (.lcmp, 1) := by decide +kernel
theorem dL_law_867 : decode cL_law 867 = .ok (.ifCond .eq 5, 3) := by decide +kernel
theorem dL_law_870 : decode cL_law 870 = .ok (.iconst 0, 1) := by decide +kernel
theorem dL_law_871 : decode cL_law 871 = .ok (.ireturn, 1) := by decide +kernel
theorem dL_law_872 : decode cL_law 872 = .ok (.goto 852, 3) := by decide +kernel
theorem dL_law_875 : decode cL_law 875 = .ok (.aload_n 1, 1) := by decide +kernel
theorem dL_law_876 : decode cL_law 876 = .ok (.aload_n 0, 1) := by decide +kernel
theorem dL_law_877 : decode cL_law 877 = .ok (.iload 5, 2) := by decide +kernel
theorem dL_law_879 : decode cL_law 879 = .ok (.iconst 1, 1) := by decide +kernel
theorem dL_law_880 : decode cL_law 880 = .ok (.iadd, 1) := by decide +kernel
theorem dL_law_881 : decode cL_law 881 = .ok (.iaload, 1) := by decide +kernel
theorem dL_law_882 : decode cL_law 882 = .ok (.aload_n 3, 1) := by decide +kernel
theorem dL_law_883 : decode cL_law 883 = .ok (.invokestatic 148, 3) := by decide +kernel
theorem dL_law_886 : decode cL_law 886 = .ok (.istore 6, 2) := by decide +kernel
theorem dL_law_888 : decode cL_law 888 = .ok (.aload_n 2, 1) := by decide +kernel
theorem dL_law_889 : decode cL_law 889 = .ok (.aload_n 0, 1) := by decide +kernel
theorem dL_law_890 : decode cL_law 890 = .ok (.iload 5, 2) := by decide +kernel
theorem dL_law_892 : decode cL_law 892 = .ok (.iconst 1, 1) := by decide +kernel
theorem dL_law_893 : decode cL_law 893 = .ok (.iadd, 1) := by decide +kernel
theorem dL_law_894 : decode cL_law 894 = .ok (.iaload, 1) := by decide +kernel
theorem dL_law_895 : decode cL_law 895 = .ok (.invokevirtual 150, 3) := by decide +kernel
theorem dL_law_898 : decode cL_law 898 = .ok (.istore 7, 2) := by decide +kernel
theorem dL_law_900 : decode cL_law 900 = .ok (.aload_n 2, 1) := by decide +kernel
theorem dL_law_901 : decode cL_law 901 = .ok (.invokevirtual 112, 3) := by decide +kernel
theorem dL_law_904 : decode cL_law 904 = .ok (.iload 6, 2) := by decide +kernel
theorem dL_law_906 : decode cL_law 906 = .ok (.if_icmp .eq 5, 3) := by decide +kernel
theorem dL_law_909 : decode cL_law 909 = .ok (.iconst 0, 1) := by decide +kernel
theorem dL_law_910 : decode cL_law 910 = .ok (.ireturn, 1) := by decide +kernel
theorem dL_law_911 : decode cL_law 911 = .ok (.iload 6, 2) := by decide +kernel
theorem dL_law_913 : decode cL_law 913 = .ok (.ifCond .ne 15, 3) := by decide +kernel
theorem dL_law_916 : decode cL_law 916 = .ok (.aload_n 3, 1) := by decide +kernel
theorem dL_law_917 : decode cL_law 917 = .ok (.iconst 0, 1) := by decide +kernel
theorem dL_law_918 : decode cL_law 918 = .ok (.laload, 1) := by decide +kernel
theorem dL_law_919 : decode cL_law 919 = .ok (.iload 7, 2) := by decide +kernel
theorem dL_law_921 : decode cL_law 921 = .ok (.i2l, 1) := by decide +kernel
theorem dL_law_922 : decode cL_law 922 = .ok (.lcmp, 1) := by decide +kernel
theorem dL_law_923 : decode cL_law 923 = .ok (.ifCond .eq 5, 3) := by decide +kernel
theorem dL_law_926 : decode cL_law 926 = .ok (.iconst 0, 1) := by decide +kernel
theorem dL_law_927 : decode cL_law 927 = .ok (.ireturn, 1) := by decide +kernel
theorem dL_law_928 : decode cL_law 928 = .ok (.goto 796, 3) := by decide +kernel
theorem dL_law_931 : decode cL_law 931 = .ok (.aload_n 1, 1) := by decide +kernel
theorem dL_law_932 : decode cL_law 932 = .ok (.aload_n 0, 1) := by decide +kernel
theorem dL_law_933 : decode cL_law 933 = .ok (.iload 5, 2) := by decide +kernel
theorem dL_law_935 : decode cL_law 935 = .ok (.iconst 1, 1) := by decide +kernel
theorem dL_law_936 : decode cL_law 936 = .ok (.iadd, 1) := by decide +kernel
theorem dL_law_937 : decode cL_law 937 = .ok (.iaload, 1) := by decide +kernel
theorem dL_law_938 : decode cL_law 938 = .ok (.aload_n 3, 1) := by decide +kernel
theorem dL_law_939 : decode cL_law 939 = .ok (.invokestatic 151, 3) := by decide +kernel
theorem dL_law_942 : decode cL_law 942 = .ok (.istore 6, 2) := by decide +kernel
theorem dL_law_944 : decode cL_law 944 = .ok (.aload_n 2, 1) := by decide +kernel
theorem dL_law_945 : decode cL_law 945 = .ok (.aload_n 0, 1) := by decide +kernel
theorem dL_law_946 : decode cL_law 946 = .ok (.iload 5, 2) := by decide +kernel
theorem dL_law_948 : decode cL_law 948 = .ok (.iconst 1, 1) := by decide +kernel
theorem dL_law_949 : decode cL_law 949 = .ok (.iadd, 1) := by decide +kernel
theorem dL_law_950 : decode cL_law 950 = .ok (.iaload, 1) := by decide +kernel
theorem dL_law_951 : decode cL_law 951 = .ok (.invokevirtual 153, 3) := by decide +kernel
theorem dL_law_954 : decode cL_law 954 = .ok (.istore 7, 2) := by decide +kernel
theorem dL_law_956 : decode cL_law 956 = .ok (.aload_n 2, 1) := by decide +kernel
theorem dL_law_957 : decode cL_law 957 = .ok (.invokevirtual 112, 3) := by decide +kernel
theorem dL_law_960 : decode cL_law 960 = .ok (.iload 6, 2) := by decide +kernel
theorem dL_law_962 : decode cL_law 962 = .ok (.if_icmp .eq 5, 3) := by decide +kernel
theorem dL_law_965 : decode cL_law 965 = .ok (.iconst 0, 1) := by decide +kernel
theorem dL_law_966 : decode cL_law 966 = .ok (.ireturn, 1) := by decide +kernel
theorem dL_law_967 : decode cL_law 967 = .ok (.iload 6, 2) := by decide +kernel
theorem dL_law_969 : decode cL_law 969 = .ok (.ifCond .ne 15, 3) := by decide +kernel
theorem dL_law_972 : decode cL_law 972 = .ok (.aload_n 3, 1) := by decide +kernel
theorem dL_law_973 : decode cL_law 973 = .ok (.iconst 0, 1) := by decide +kernel
theorem dL_law_974 : decode cL_law 974 = .ok (.laload, 1) := by decide +kernel
theorem dL_law_975 : decode cL_law 975 = .ok (.iload 7, 2) := by decide +kernel
theorem dL_law_977 : decode cL_law 977 = .ok (.i2l, 1) := by decide +kernel
theorem dL_law_978 : decode cL_law 978 = .ok (.lcmp, 1) := by decide +kernel
theorem dL_law_979 : decode cL_law 979 = .ok (.ifCond .eq 5, 3) := by decide +kernel
theorem dL_law_982 : decode cL_law 982 = .ok (.iconst 0, 1) := by decide +kernel
theorem dL_law_983 : decode cL_law 983 = .ok (.ireturn, 1) := by decide +kernel
theorem dL_law_984 : decode cL_law 984 = .ok (.goto 740, 3) := by decide +kernel
theorem dL_law_987 : decode cL_law 987 = .ok (.aload_n 1, 1) := by decide +kernel
theorem dL_law_988 : decode cL_law 988 = .ok (.aload_n 0, 1) := by decide +kernel
theorem dL_law_989 : decode cL_law 989 = .ok (.iload 5, 2) := by decide +kernel
theorem dL_law_991 : decode cL_law 991 = .ok (.iconst 1, 1) := by decide +kernel
theorem dL_law_992 : decode cL_law 992 = .ok (.iadd, 1) := by decide +kernel
theorem dL_law_993 : decode cL_law 993 = .ok (.iaload, 1) := by decide +kernel
theorem dL_law_994 : decode cL_law 994 = .ok (.aload_n 3, 1) := by decide +kernel
theorem dL_law_995 : decode cL_law 995 = .ok (.invokestatic 154, 3) := by decide +kernel
theorem dL_law_998 : decode cL_law 998 = .ok (.istore 6, 2) := by decide +kernel
theorem dL_law_1000 : decode cL_law 1000 = .ok (.aload_n 2, 1) := by decide +kernel
theorem dL_law_1001 : decode cL_law 1001 = .ok (.aload_n 0, 1) := by decide +kernel
theorem dL_law_1002 : decode cL_law 1002 = .ok (.iload 5, 2) := by decide +kernel
theorem dL_law_1004 : decode cL_law 1004 = .ok (.iconst 1, 1) := by decide +kernel
theorem dL_law_1005 : decode cL_law 1005 = .ok (.iadd, 1) := by decide +kernel
theorem dL_law_1006 : decode cL_law 1006 = .ok (.iaload, 1) := by decide +kernel
theorem dL_law_1007 : decode cL_law 1007 = .ok (.invokevirtual 156, 3) := by decide +kernel
theorem dL_law_1010 : decode cL_law 1010 = .ok (.istore 7, 2) := by decide +kernel
theorem dL_law_1012 : decode cL_law 1012 = .ok (.aload_n 2, 1) := by decide +kernel
theorem dL_law_1013 : decode cL_law 1013 = .ok (.invokevirtual 112, 3) := by decide +kernel
theorem dL_law_1016 : decode cL_law 1016 = .ok (.iload 6, 2) := by decide +kernel
theorem dL_law_1018 : decode cL_law 1018 = .ok (.if_icmp .eq 5, 3) := by decide +kernel
theorem dL_law_1021 : decode cL_law 1021 = .ok (.iconst 0, 1) := by decide +kernel
theorem dL_law_1022 : decode cL_law 1022 = .ok (.ireturn, 1) := by decide +kernel
theorem dL_law_1023 : decode cL_law 1023 = .ok (.iload 6, 2) := by decide +kernel
theorem dL_law_1025 : decode cL_law 1025 = .ok (.ifCond .ne 15, 3) := by decide +kernel
theorem dL_law_1028 : decode cL_law 1028 = .ok (.aload_n 3, 1) := by decide +kernel
theorem dL_law_1029 : decode cL_law 1029 = .ok (.iconst 0, 1) := by decide +kernel
theorem dL_law_1030 : decode cL_law 1030 = .ok (.laload, 1) := by decide +kernel
theorem dL_law_1031 : decode cL_law 1031 = .ok (.iload 7, 2) := by decide +kernel
theorem dL_law_1033 : decode cL_law 1033 = .ok (.i2l, 1) := by decide +kernel
theorem dL_law_1034 : decode cL_law 1034 = .ok (.lcmp, 1) := by decide +kernel
theorem dL_law_1035 : decode cL_law 1035 = .ok (.ifCond .eq 5, 3) := by decide +kernel
theorem dL_law_1038 : decode cL_law 1038 = .ok (.iconst 0, 1) := by decide +kernel
theorem dL_law_1039 : decode cL_law 1039 = .ok (.ireturn, 1) := by decide +kernel
theorem dL_law_1040 : decode cL_law 1040 = .ok (.goto 684, 3) := by decide +kernel
theorem dL_law_1043 : decode cL_law 1043 = .ok (.aload_n 1, 1) := by decide +kernel
theorem dL_law_1044 : decode cL_law 1044 = .ok (.aload_n 0, 1) := by decide +kernel
theorem dL_law_1045 : decode cL_law 1045 = .ok (.iload 5, 2) := by decide +kernel
theorem dL_law_1047 : decode cL_law 1047 = .ok (.iconst 1, 1) := by decide +kernel
theorem dL_law_1048 : decode cL_law 1048 = .ok (.iadd, 1) := by decide +kernel
theorem dL_law_1049 : decode cL_law 1049 = .ok (.iaload, 1) := by decide +kernel
theorem dL_law_1050 : decode cL_law 1050 = .ok (.aload_n 0, 1) := by decide +kernel
theorem dL_law_1051 : decode cL_law 1051 = .ok (.iload 5, 2) := by decide +kernel
theorem dL_law_1053 : decode cL_law 1053 = .ok (.iconst 2, 1) := by decide +kernel
theorem dL_law_1054 : decode cL_law 1054 = .ok (.iadd, 1) := by decide +kernel
theorem dL_law_1055 : decode cL_law 1055 = .ok (.iaload, 1) := by decide +kernel
theorem dL_law_1056 : decode cL_law 1056 = .ok (.aload_n 3, 1) := by decide +kernel
theorem dL_law_1057 : decode cL_law 1057 = .ok (.invokestatic 157, 3) := by decide +kernel
theorem dL_law_1060 : decode cL_law 1060 = .ok (.istore 6, 2) := by decide +kernel
theorem dL_law_1062 : decode cL_law 1062 = .ok (.aload_n 2, 1) := by decide +kernel
theorem dL_law_1063 : decode cL_law 1063 = .ok (.aload_n 0, 1) := by decide +kernel
theorem dL_law_1064 : decode cL_law 1064 = .ok (.iload 5, 2) := by decide +kernel
theorem dL_law_1066 : decode cL_law 1066 = .ok (.iconst 1, 1) := by decide +kernel
theorem dL_law_1067 : decode cL_law 1067 = .ok (.iadd, 1) := by decide +kernel
theorem dL_law_1068 : decode cL_law 1068 = .ok (.iaload, 1) := by decide +kernel
theorem dL_law_1069 : decode cL_law 1069 = .ok (.aload_n 0, 1) := by decide +kernel
theorem dL_law_1070 : decode cL_law 1070 = .ok (.iload 5, 2) := by decide +kernel
theorem dL_law_1072 : decode cL_law 1072 = .ok (.iconst 2, 1) := by decide +kernel
theorem dL_law_1073 : decode cL_law 1073 = .ok (.iadd, 1) := by decide +kernel
theorem dL_law_1074 : decode cL_law 1074 = .ok (.iaload, 1) := by decide +kernel
theorem dL_law_1075 : decode cL_law 1075 = .ok (.invokevirtual 159, 3) := by decide +kernel
theorem dL_law_1078 : decode cL_law 1078 = .ok (.istore 7, 2) := by decide +kernel
theorem dL_law_1080 : decode cL_law 1080 = .ok (.aload_n 2, 1) := by decide +kernel
theorem dL_law_1081 : decode cL_law 1081 = .ok (.invokevirtual 112, 3) := by decide +kernel
theorem dL_law_1084 : decode cL_law 1084 = .ok (.iload 6, 2) := by decide +kernel
theorem dL_law_1086 : decode cL_law 1086 = .ok (.if_icmp .eq 5, 3) := by decide +kernel
theorem dL_law_1089 : decode cL_law 1089 = .ok (.iconst 0, 1) := by decide +kernel
theorem dL_law_1090 : decode cL_law 1090 = .ok (.ireturn, 1) := by decide +kernel
theorem dL_law_1091 : decode cL_law 1091 = .ok (.iload 6, 2) := by decide +kernel
theorem dL_law_1093 : decode cL_law 1093 = .ok (.ifCond .ne 15, 3) := by decide +kernel
theorem dL_law_1096 : decode cL_law 1096 = .ok (.aload_n 3, 1) := by decide +kernel
theorem dL_law_1097 : decode cL_law 1097 = .ok (.iconst 0, 1) := by decide +kernel
theorem dL_law_1098 : decode cL_law 1098 = .ok (.laload, 1) := by decide +kernel
theorem dL_law_1099 : decode cL_law 1099 = .ok (.iload 7, 2) := by decide +kernel
theorem dL_law_1101 : decode cL_law 1101 = .ok (.i2l, 1) := by decide +kernel
theorem dL_law_1102 : decode cL_law 1102 = .ok (.lcmp, 1) := by decide +kernel
theorem dL_law_1103 : decode cL_law 1103 = .ok (.ifCond .eq 5, 3) := by decide +kernel
theorem dL_law_1106 : decode cL_law 1106 = .ok (.iconst 0, 1) := by decide +kernel
theorem dL_law_1107 : decode cL_law 1107 = .ok (.ireturn, 1) := by decide +kernel
theorem dL_law_1108 : decode cL_law 1108 = .ok (.goto 616, 3) := by decide +kernel
theorem dL_law_1111 : decode cL_law 1111 = .ok (.aload_n 1, 1) := by decide +kernel
theorem dL_law_1112 : decode cL_law 1112 = .ok (.aload_n 0, 1) := by decide +kernel
theorem dL_law_1113 : decode cL_law 1113 = .ok (.iload 5, 2) := by decide +kernel
theorem dL_law_1115 : decode cL_law 1115 = .ok (.iconst 1, 1) := by decide +kernel
theorem dL_law_1116 : decode cL_law 1116 = .ok (.iadd, 1) := by decide +kernel
theorem dL_law_1117 : decode cL_law 1117 = .ok (.iaload, 1) := by decide +kernel
theorem dL_law_1118 : decode cL_law 1118 = .ok (.aload_n 0, 1) := by decide +kernel
theorem dL_law_1119 : decode cL_law 1119 = .ok (.iload 5, 2) := by decide +kernel
theorem dL_law_1121 : decode cL_law 1121 = .ok (.iconst 2, 1) := by decide +kernel
theorem dL_law_1122 : decode cL_law 1122 = .ok (.iadd, 1) := by decide +kernel
theorem dL_law_1123 : decode cL_law 1123 = .ok (.iaload, 1) := by decide +kernel
theorem dL_law_1124 : decode cL_law 1124 = .ok (.aload_n 3, 1) := by decide +kernel
theorem dL_law_1125 : decode cL_law 1125 = .ok (.invokestatic 160, 3) := by decide +kernel
theorem dL_law_1128 : decode cL_law 1128 = .ok (.istore 6, 2) := by decide +kernel
theorem dL_law_1130 : decode cL_law 1130 = .ok (.aload_n 2, 1) := by decide +kernel
theorem dL_law_1131 : decode cL_law 1131 = .ok (.aload_n 0, 1) := by decide +kernel
theorem dL_law_1132 : decode cL_law 1132 = .ok (.iload 5, 2) := by decide +kernel
theorem dL_law_1134 : decode cL_law 1134 = .ok (.iconst 1, 1) := by decide +kernel
theorem dL_law_1135 : decode cL_law 1135 = .ok (.iadd, 1) := by decide +kernel
theorem dL_law_1136 : decode cL_law 1136 = .ok (.iaload, 1) := by decide +kernel
theorem dL_law_1137 : decode cL_law 1137 = .ok (.aload_n 0, 1) := by decide +kernel
theorem dL_law_1138 : decode cL_law 1138 = .ok (.iload 5, 2) := by decide +kernel
theorem dL_law_1140 : decode cL_law 1140 = .ok (.iconst 2, 1) := by decide +kernel
theorem dL_law_1141 : decode cL_law 1141 = .ok (.iadd, 1) := by decide +kernel
theorem dL_law_1142 : decode cL_law 1142 = .ok (.iaload, 1) := by decide +kernel
theorem dL_law_1143 : decode cL_law 1143 = .ok (.invokevirtual 162, 3) := by decide +kernel
theorem dL_law_1146 : decode cL_law 1146 = .ok (.istore 7, 2) := by decide +kernel
theorem dL_law_1148 : decode cL_law 1148 = .ok (.aload_n 2, 1) := by decide +kernel
theorem dL_law_1149 : decode cL_law 1149 = .ok (.invokevirtual 112, 3) := by decide +kernel
theorem dL_law_1152 : decode cL_law 1152 = .ok (.iload 6, 2) := by decide +kernel
theorem dL_law_1154 : decode cL_law 1154 = .ok (.if_icmp .eq 5, 3) := by decide +kernel
theorem dL_law_1157 : decode cL_law 1157 = .ok (.iconst 0, 1) := by decide +kernel
theorem dL_law_1158 : decode cL_law 1158 = .ok (.ireturn, 1) := by decide +kernel
theorem dL_law_1159 : decode cL_law 1159 = .ok (.iload 6, 2) := by decide +kernel
theorem dL_law_1161 : decode cL_law 1161 = .ok (.ifCond .ne 15, 3) := by decide +kernel
theorem dL_law_1164 : decode cL_law 1164 = .ok (.aload_n 3, 1) := by decide +kernel
theorem dL_law_1165 : decode cL_law 1165 = .ok (.iconst 0, 1) := by decide +kernel
theorem dL_law_1166 : decode cL_law 1166 = .ok (.laload, 1) := by decide +kernel
theorem dL_law_1167 : decode cL_law 1167 = .ok (.iload 7, 2) := by decide +kernel
theorem dL_law_1169 : decode cL_law 1169 = .ok (.i2l, 1) := by decide +kernel
theorem dL_law_1170 : decode cL_law 1170 = .ok (.lcmp, 1) := by decide +kernel
theorem dL_law_1171 : decode cL_law 1171 = .ok (.ifCond .eq 5, 3) := by decide +kernel
theorem dL_law_1174 : decode cL_law 1174 = .ok (.iconst 0, 1) := by decide +kernel
theorem dL_law_1175 : decode cL_law 1175 = .ok (.ireturn, 1) := by decide +kernel
theorem dL_law_1176 : decode cL_law 1176 = .ok (.goto 548, 3) := by decide +kernel
theorem dL_law_1179 : decode cL_law 1179 = .ok (.aload_n 1, 1) := by decide +kernel
theorem dL_law_1180 : decode cL_law 1180 = .ok (.aload_n 0, 1) := by decide +kernel
theorem dL_law_1181 : decode cL_law 1181 = .ok (.iload 5, 2) := by decide +kernel
theorem dL_law_1183 : decode cL_law 1183 = .ok (.iconst 1, 1) := by decide +kernel
theorem dL_law_1184 : decode cL_law 1184 = .ok (.iadd, 1) := by decide +kernel
theorem dL_law_1185 : decode cL_law 1185 = .ok (.iaload, 1) := by decide +kernel
theorem dL_law_1186 : decode cL_law 1186 = .ok (.aload_n 3, 1) := by decide +kernel
theorem dL_law_1187 : decode cL_law 1187 = .ok (.invokestatic 163, 3) := by decide +kernel
theorem dL_law_1190 : decode cL_law 1190 = .ok (.istore 6, 2) := by decide +kernel
theorem dL_law_1192 : decode cL_law 1192 = .ok (.aload_n 2, 1) := by decide +kernel
theorem dL_law_1193 : decode cL_law 1193 = .ok (.aload_n 0, 1) := by decide +kernel
theorem dL_law_1194 : decode cL_law 1194 = .ok (.iload 5, 2) := by decide +kernel
theorem dL_law_1196 : decode cL_law 1196 = .ok (.iconst 1, 1) := by decide +kernel
theorem dL_law_1197 : decode cL_law 1197 = .ok (.iadd, 1) := by decide +kernel
theorem dL_law_1198 : decode cL_law 1198 = .ok (.iaload, 1) := by decide +kernel
theorem dL_law_1199 : decode cL_law 1199 = .ok (.invokevirtual 165, 3) := by decide +kernel
theorem dL_law_1202 : decode cL_law 1202 = .ok (.istore 7, 2) := by decide +kernel
theorem dL_law_1204 : decode cL_law 1204 = .ok (.aload_n 2, 1) := by decide +kernel
theorem dL_law_1205 : decode cL_law 1205 = .ok (.invokevirtual 112, 3) := by decide +kernel
theorem dL_law_1208 : decode cL_law 1208 = .ok (.iload 6, 2) := by decide +kernel
theorem dL_law_1210 : decode cL_law 1210 = .ok (.if_icmp .eq 5, 3) := by decide +kernel
theorem dL_law_1213 : decode cL_law 1213 = .ok (.iconst 0, 1) := by decide +kernel
theorem dL_law_1214 : decode cL_law 1214 = .ok (.ireturn, 1) := by decide +kernel
theorem dL_law_1215 : decode cL_law 1215 = .ok (.iload 6, 2) := by decide +kernel
theorem dL_law_1217 : decode cL_law 1217 = .ok (.ifCond .ne 22, 3) := by decide +kernel
theorem dL_law_1220 : decode cL_law 1220 = .ok (.aload_n 3, 1) := by decide +kernel
theorem dL_law_1221 : decode cL_law 1221 = .ok (.iconst 0, 1) := by decide +kernel
theorem dL_law_1222 : decode cL_law 1222 = .ok (.laload, 1) := by decide +kernel
theorem dL_law_1223 : decode cL_law 1223 = .ok (.iload 7, 2) := by decide +kernel
theorem dL_law_1225 : decode cL_law 1225 = .ok (.ifCond .eq 7, 3) := by decide +kernel
theorem dL_law_1228 : decode cL_law 1228 = .ok (.lconst 1, 1) := by decide +kernel
theorem dL_law_1229 : decode cL_law 1229 = .ok (.goto 4, 3) := by decide +kernel
theorem dL_law_1232 : decode cL_law 1232 = .ok (.lconst 0, 1) := by decide +kernel
theorem dL_law_1233 : decode cL_law 1233 = .ok (.lcmp, 1) := by decide +kernel
theorem dL_law_1234 : decode cL_law 1234 = .ok (.ifCond .eq 5, 3) := by decide +kernel
theorem dL_law_1237 : decode cL_law 1237 = .ok (.iconst 0, 1) := by decide +kernel
theorem dL_law_1238 : decode cL_law 1238 = .ok (.ireturn, 1) := by decide +kernel
theorem dL_law_1239 : decode cL_law 1239 = .ok (.goto 485, 3) := by decide +kernel
theorem dL_law_1242 : decode cL_law 1242 = .ok (.aload_n 1, 1) := by decide +kernel
theorem dL_law_1243 : decode cL_law 1243 = .ok (.aload_n 0, 1) := by decide +kernel
theorem dL_law_1244 : decode cL_law 1244 = .ok (.iload 5, 2) := by decide +kernel
theorem dL_law_1246 : decode cL_law 1246 = .ok (.iconst 1, 1) := by decide +kernel
theorem dL_law_1247 : decode cL_law 1247 = .ok (.iadd, 1) := by decide +kernel
theorem dL_law_1248 : decode cL_law 1248 = .ok (.iaload, 1) := by decide +kernel
theorem dL_law_1249 : decode cL_law 1249 = .ok (.aload_n 3, 1) := by decide +kernel
theorem dL_law_1250 : decode cL_law 1250 = .ok (.invokestatic 166, 3) := by decide +kernel
theorem dL_law_1253 : decode cL_law 1253 = .ok (.istore 6, 2) := by decide +kernel
theorem dL_law_1255 : decode cL_law 1255 = .ok (.aload_n 2, 1) := by decide +kernel
theorem dL_law_1256 : decode cL_law 1256 = .ok (.aload_n 0, 1) := by decide +kernel
theorem dL_law_1257 : decode cL_law 1257 = .ok (.iload 5, 2) := by decide +kernel
theorem dL_law_1259 : decode cL_law 1259 = .ok (.iconst 1, 1) := by decide +kernel
theorem dL_law_1260 : decode cL_law 1260 = .ok (.iadd, 1) := by decide +kernel
theorem dL_law_1261 : decode cL_law 1261 = .ok (.iaload, 1) := by decide +kernel
theorem dL_law_1262 : decode cL_law 1262 = .ok (.invokevirtual 168, 3) := by decide +kernel
theorem dL_law_1265 : decode cL_law 1265 = .ok (.istore 7, 2) := by decide +kernel
theorem dL_law_1267 : decode cL_law 1267 = .ok (.aload_n 2, 1) := by decide +kernel
theorem dL_law_1268 : decode cL_law 1268 = .ok (.invokevirtual 112, 3) := by decide +kernel
theorem dL_law_1271 : decode cL_law 1271 = .ok (.iload 6, 2) := by decide +kernel
theorem dL_law_1273 : decode cL_law 1273 = .ok (.if_icmp .eq 5, 3) := by decide +kernel
theorem dL_law_1276 : decode cL_law 1276 = .ok (.iconst 0, 1) := by decide +kernel
theorem dL_law_1277 : decode cL_law 1277 = .ok (.ireturn, 1) := by decide +kernel
theorem dL_law_1278 : decode cL_law 1278 = .ok (.iload 6, 2) := by decide +kernel
theorem dL_law_1280 : decode cL_law 1280 = .ok (.ifCond .ne 15, 3) := by decide +kernel
theorem dL_law_1283 : decode cL_law 1283 = .ok (.aload_n 3, 1) := by decide +kernel
theorem dL_law_1284 : decode cL_law 1284 = .ok (.iconst 0, 1) := by decide +kernel
theorem dL_law_1285 : decode cL_law 1285 = .ok (.laload, 1) := by decide +kernel
theorem dL_law_1286 : decode cL_law 1286 = .ok (.iload 7, 2) := by decide +kernel
theorem dL_law_1288 : decode cL_law 1288 = .ok (.i2l, 1) := by decide +kernel
theorem dL_law_1289 : decode cL_law 1289 = .ok (.lcmp, 1) := by decide +kernel
theorem dL_law_1290 : decode cL_law 1290 = .ok (.ifCond .eq 5, 3) := by decide +kernel
theorem dL_law_1293 : decode cL_law 1293 = .ok (.iconst 0, 1) := by decide +kernel
theorem dL_law_1294 : decode cL_law 1294 = .ok (.ireturn, 1) := by decide +kernel
theorem dL_law_1295 : decode cL_law 1295 = .ok (.goto 429, 3) := by decide +kernel
theorem dL_law_1298 : decode cL_law 1298 = .ok (.aload_n 1, 1) := by decide +kernel
theorem dL_law_1299 : decode cL_law 1299 = .ok (.aload_n 0, 1) := by decide +kernel
theorem dL_law_1300 : decode cL_law 1300 = .ok (.iload 5, 2) := by decide +kernel
theorem dL_law_1302 : decode cL_law 1302 = .ok (.iconst 1, 1) := by decide +kernel
theorem dL_law_1303 : decode cL_law 1303 = .ok (.iadd, 1) := by decide +kernel
theorem dL_law_1304 : decode cL_law 1304 = .ok (.iaload, 1) := by decide +kernel
theorem dL_law_1305 : decode cL_law 1305 = .ok (.aload_n 3, 1) := by decide +kernel
theorem dL_law_1306 : decode cL_law 1306 = .ok (.invokestatic 169, 3) := by decide +kernel
theorem dL_law_1309 : decode cL_law 1309 = .ok (.istore 6, 2) := by decide +kernel
theorem dL_law_1311 : decode cL_law 1311 = .ok (.aload_n 2, 1) := by decide +kernel
theorem dL_law_1312 : decode cL_law 1312 = .ok (.aload_n 0, 1) := by decide +kernel
theorem dL_law_1313 : decode cL_law 1313 = .ok (.iload 5, 2) := by decide +kernel
theorem dL_law_1315 : decode cL_law 1315 = .ok (.iconst 1, 1) := by decide +kernel
theorem dL_law_1316 : decode cL_law 1316 = .ok (.iadd, 1) := by decide +kernel
theorem dL_law_1317 : decode cL_law 1317 = .ok (.iaload, 1) := by decide +kernel
theorem dL_law_1318 : decode cL_law 1318 = .ok (.invokevirtual 171, 3) := by decide +kernel
theorem dL_law_1321 : decode cL_law 1321 = .ok (.istore 7, 2) := by decide +kernel
theorem dL_law_1323 : decode cL_law 1323 = .ok (.aload_n 2, 1) := by decide +kernel
theorem dL_law_1324 : decode cL_law 1324 = .ok (.invokevirtual 112, 3) := by decide +kernel
theorem dL_law_1327 : decode cL_law 1327 = .ok (.iload 6, 2) := by decide +kernel
theorem dL_law_1329 : decode cL_law 1329 = .ok (.if_icmp .eq 5, 3) := by decide +kernel
theorem dL_law_1332 : decode cL_law 1332 = .ok (.iconst 0, 1) := by decide +kernel
theorem dL_law_1333 : decode cL_law 1333 = .ok (.ireturn, 1) := by decide +kernel
theorem dL_law_1334 : decode cL_law 1334 = .ok (.iload 6, 2) := by decide +kernel
theorem dL_law_1336 : decode cL_law 1336 = .ok (.ifCond .ne 15, 3) := by decide +kernel
theorem dL_law_1339 : decode cL_law 1339 = .ok (.aload_n 3, 1) := by decide +kernel
theorem dL_law_1340 : decode cL_law 1340 = .ok (.iconst 0, 1) := by decide +kernel
theorem dL_law_1341 : decode cL_law 1341 = .ok (.laload, 1) := by decide +kernel
theorem dL_law_1342 : decode cL_law 1342 = .ok (.iload 7, 2) := by decide +kernel
theorem dL_law_1344 : decode cL_law 1344 = .ok (.i2l, 1) := by decide +kernel
theorem dL_law_1345 : decode cL_law 1345 = .ok (.lcmp, 1) := by decide +kernel
theorem dL_law_1346 : decode cL_law 1346 = .ok (.ifCond .eq 5, 3) := by decide +kernel
theorem dL_law_1349 : decode cL_law 1349 = .ok (.iconst 0, 1) := by decide +kernel
theorem dL_law_1350 : decode cL_law 1350 = .ok (.ireturn, 1) := by decide +kernel
theorem dL_law_1351 : decode cL_law 1351 = .ok (.goto 373, 3) := by decide +kernel
theorem dL_law_1354 : decode cL_law 1354 = .ok (.aload_n 1, 1) := by decide +kernel
theorem dL_law_1355 : decode cL_law 1355 = .ok (.aload_n 0, 1) := by decide +kernel
theorem dL_law_1356 : decode cL_law 1356 = .ok (.iload 5, 2) := by decide +kernel
theorem dL_law_1358 : decode cL_law 1358 = .ok (.iconst 1, 1) := by decide +kernel
theorem dL_law_1359 : decode cL_law 1359 = .ok (.iadd, 1) := by decide +kernel
theorem dL_law_1360 : decode cL_law 1360 = .ok (.iaload, 1) := by decide +kernel
theorem dL_law_1361 : decode cL_law 1361 = .ok (.aload_n 3, 1) := by decide +kernel
theorem dL_law_1362 : decode cL_law 1362 = .ok (.invokestatic 172, 3) := by decide +kernel
theorem dL_law_1365 : decode cL_law 1365 = .ok (.istore 6, 2) := by decide +kernel
theorem dL_law_1367 : decode cL_law 1367 = .ok (.aload_n 2, 1) := by decide +kernel
theorem dL_law_1368 : decode cL_law 1368 = .ok (.aload_n 0, 1) := by decide +kernel
theorem dL_law_1369 : decode cL_law 1369 = .ok (.iload 5, 2) := by decide +kernel
theorem dL_law_1371 : decode cL_law 1371 = .ok (.iconst 1, 1) := by decide +kernel
theorem dL_law_1372 : decode cL_law 1372 = .ok (.iadd, 1) := by decide +kernel
theorem dL_law_1373 : decode cL_law 1373 = .ok (.iaload, 1) := by decide +kernel
theorem dL_law_1374 : decode cL_law 1374 = .ok (.invokevirtual 174, 3) := by decide +kernel
theorem dL_law_1377 : decode cL_law 1377 = .ok (.istore 7, 2) := by decide +kernel
theorem dL_law_1379 : decode cL_law 1379 = .ok (.aload_n 2, 1) := by decide +kernel
theorem dL_law_1380 : decode cL_law 1380 = .ok (.invokevirtual 112, 3) := by decide +kernel
theorem dL_law_1383 : decode cL_law 1383 = .ok (.iload 6, 2) := by decide +kernel
theorem dL_law_1385 : decode cL_law 1385 = .ok (.if_icmp .eq 5, 3) := by decide +kernel
theorem dL_law_1388 : decode cL_law 1388 = .ok (.iconst 0, 1) := by decide +kernel
theorem dL_law_1389 : decode cL_law 1389 = .ok (.ireturn, 1) := by decide +kernel
theorem dL_law_1390 : decode cL_law 1390 = .ok (.iload 6, 2) := by decide +kernel
theorem dL_law_1392 : decode cL_law 1392 = .ok (.ifCond .ne 15, 3) := by decide +kernel
theorem dL_law_1395 : decode cL_law 1395 = .ok (.aload_n 3, 1) := by decide +kernel
theorem dL_law_1396 : decode cL_law 1396 = .ok (.iconst 0, 1) := by decide +kernel
theorem dL_law_1397 : decode cL_law 1397 = .ok (.laload, 1) := by decide +kernel
theorem dL_law_1398 : decode cL_law 1398 = .ok (.iload 7, 2) := by decide +kernel
theorem dL_law_1400 : decode cL_law 1400 = .ok (.i2l, 1) := by decide +kernel
theorem dL_law_1401 : decode cL_law 1401 = .ok (.lcmp, 1) := by decide +kernel
theorem dL_law_1402 : decode cL_law 1402 = .ok (.ifCond .eq 5, 3) := by decide +kernel
theorem dL_law_1405 : decode cL_law 1405 = .ok (.iconst 0, 1) := by decide +kernel
theorem dL_law_1406 : decode cL_law 1406 = .ok (.ireturn, 1) := by decide +kernel
theorem dL_law_1407 : decode cL_law 1407 = .ok (.goto 317, 3) := by decide +kernel
theorem dL_law_1410 : decode cL_law 1410 = .ok (.aload_n 1, 1) := by decide +kernel
theorem dL_law_1411 : decode cL_law 1411 = .ok (.aload_n 0, 1) := by decide +kernel
theorem dL_law_1412 : decode cL_law 1412 = .ok (.iload 5, 2) := by decide +kernel
theorem dL_law_1414 : decode cL_law 1414 = .ok (.iconst 1, 1) := by decide +kernel
theorem dL_law_1415 : decode cL_law 1415 = .ok (.iadd, 1) := by decide +kernel
theorem dL_law_1416 : decode cL_law 1416 = .ok (.iaload, 1) := by decide +kernel
theorem dL_law_1417 : decode cL_law 1417 = .ok (.aload_n 3, 1) := by decide +kernel
theorem dL_law_1418 : decode cL_law 1418 = .ok (.invokestatic 175, 3) := by decide +kernel
theorem dL_law_1421 : decode cL_law 1421 = .ok (.istore 6, 2) := by decide +kernel
theorem dL_law_1423 : decode cL_law 1423 = .ok (.aload_n 2, 1) := by decide +kernel
theorem dL_law_1424 : decode cL_law 1424 = .ok (.aload_n 0, 1) := by decide +kernel
theorem dL_law_1425 : decode cL_law 1425 = .ok (.iload 5, 2) := by decide +kernel
theorem dL_law_1427 : decode cL_law 1427 = .ok (.iconst 1, 1) := by decide +kernel
theorem dL_law_1428 : decode cL_law 1428 = .ok (.iadd, 1) := by decide +kernel
theorem dL_law_1429 : decode cL_law 1429 = .ok (.iaload, 1) := by decide +kernel
theorem dL_law_1430 : decode cL_law 1430 = .ok (.invokevirtual 177, 3) := by decide +kernel
theorem dL_law_1433 : decode cL_law 1433 = .ok (.istore 7, 2) := by decide +kernel
theorem dL_law_1435 : decode cL_law 1435 = .ok (.aload_n 2, 1) := by decide +kernel
theorem dL_law_1436 : decode cL_law 1436 = .ok (.invokevirtual 112, 3) := by decide +kernel
theorem dL_law_1439 : decode cL_law 1439 = .ok (.iload 6, 2) := by decide +kernel
theorem dL_law_1441 : decode cL_law 1441 = .ok (.if_icmp .eq 5, 3) := by decide +kernel
theorem dL_law_1444 : decode cL_law 1444 = .ok (.iconst 0, 1) := by decide +kernel
theorem dL_law_1445 : decode cL_law 1445 = .ok (.ireturn, 1) := by decide +kernel
theorem dL_law_1446 : decode cL_law 1446 = .ok (.iload 6, 2) := by decide +kernel
theorem dL_law_1448 : decode cL_law 1448 = .ok (.ifCond .ne 15, 3) := by decide +kernel
theorem dL_law_1451 : decode cL_law 1451 = .ok (.aload_n 3, 1) := by decide +kernel
theorem dL_law_1452 : decode cL_law 1452 = .ok (.iconst 0, 1) := by decide +kernel
theorem dL_law_1453 : decode cL_law 1453 = .ok (.laload, 1) := by decide +kernel
theorem dL_law_1454 : decode cL_law 1454 = .ok (.iload 7, 2) := by decide +kernel
theorem dL_law_1456 : decode cL_law 1456 = .ok (.i2l, 1) := by decide +kernel
theorem dL_law_1457 : decode cL_law 1457 = .ok (.lcmp, 1) := by decide +kernel
theorem dL_law_1458 : decode cL_law 1458 = .ok (.ifCond .eq 5, 3) := by decide +kernel
theorem dL_law_1461 : decode cL_law 1461 = .ok (.iconst 0, 1) := by decide +kernel
theorem dL_law_1462 : decode cL_law 1462 = .ok (.ireturn, 1) := by decide +kernel
theorem dL_law_1463 : decode cL_law 1463 = .ok (.goto 261, 3) := by decide +kernel
theorem dL_law_1466 : decode cL_law 1466 = .ok (.aload_n 1, 1) := by decide +kernel
theorem dL_law_1467 : decode cL_law 1467 = .ok (.aload_n 0, 1) := by decide +kernel
theorem dL_law_1468 : decode cL_law 1468 = .ok (.iload 5, 2) := by decide +kernel
theorem dL_law_1470 : decode cL_law 1470 = .ok (.iconst 1, 1) := by decide +kernel
theorem dL_law_1471 : decode cL_law 1471 = .ok (.iadd, 1) := by decide +kernel
theorem dL_law_1472 : decode cL_law 1472 = .ok (.iaload, 1) := by decide +kernel
theorem dL_law_1473 : decode cL_law 1473 = .ok (.aload_n 3, 1) := by decide +kernel
theorem dL_law_1474 : decode cL_law 1474 = .ok (.invokestatic 178, 3) := by decide +kernel
theorem dL_law_1477 : decode cL_law 1477 = .ok (.istore 6, 2) := by decide +kernel
theorem dL_law_1479 : decode cL_law 1479 = .ok (.aload_n 2, 1) := by decide +kernel
theorem dL_law_1480 : decode cL_law 1480 = .ok (.aload_n 0, 1) := by decide +kernel
theorem dL_law_1481 : decode cL_law 1481 = .ok (.iload 5, 2) := by decide +kernel
theorem dL_law_1483 : decode cL_law 1483 = .ok (.iconst 1, 1) := by decide +kernel
theorem dL_law_1484 : decode cL_law 1484 = .ok (.iadd, 1) := by decide +kernel
theorem dL_law_1485 : decode cL_law 1485 = .ok (.iaload, 1) := by decide +kernel
theorem dL_law_1486 : decode cL_law 1486 = .ok (.invokevirtual 180, 3) := by decide +kernel
theorem dL_law_1489 : decode cL_law 1489 = .ok (.istore 7, 2) := by decide +kernel
theorem dL_law_1491 : decode cL_law 1491 = .ok (.aload_n 2, 1) := by decide +kernel
theorem dL_law_1492 : decode cL_law 1492 = .ok (.invokevirtual 112, 3) := by decide +kernel
theorem dL_law_1495 : decode cL_law 1495 = .ok (.iload 6, 2) := by decide +kernel
theorem dL_law_1497 : decode cL_law 1497 = .ok (.if_icmp .eq 5, 3) := by decide +kernel
theorem dL_law_1500 : decode cL_law 1500 = .ok (.iconst 0, 1) := by decide +kernel
theorem dL_law_1501 : decode cL_law 1501 = .ok (.ireturn, 1) := by decide +kernel
theorem dL_law_1502 : decode cL_law 1502 = .ok (.iload 6, 2) := by decide +kernel
theorem dL_law_1504 : decode cL_law 1504 = .ok (.ifCond .ne 15, 3) := by decide +kernel
theorem dL_law_1507 : decode cL_law 1507 = .ok (.aload_n 3, 1) := by decide +kernel
theorem dL_law_1508 : decode cL_law 1508 = .ok (.iconst 0, 1) := by decide +kernel
theorem dL_law_1509 : decode cL_law 1509 = .ok (.laload, 1) := by decide +kernel
theorem dL_law_1510 : decode cL_law 1510 = .ok (.iload 7, 2) := by decide +kernel
theorem dL_law_1512 : decode cL_law 1512 = .ok (.i2l, 1) := by decide +kernel
theorem dL_law_1513 : decode cL_law 1513 = .ok (.lcmp, 1) := by decide +kernel
theorem dL_law_1514 : decode cL_law 1514 = .ok (.ifCond .eq 5, 3) := by decide +kernel
theorem dL_law_1517 : decode cL_law 1517 = .ok (.iconst 0, 1) := by decide +kernel
theorem dL_law_1518 : decode cL_law 1518 = .ok (.ireturn, 1) := by decide +kernel
theorem dL_law_1519 : decode cL_law 1519 = .ok (.goto 205, 3) := by decide +kernel
theorem dL_law_1522 : decode cL_law 1522 = .ok (.aload_n 1, 1) := by decide +kernel
theorem dL_law_1523 : decode cL_law 1523 = .ok (.invokevirtual 181, 3) := by decide +kernel
theorem dL_law_1526 : decode cL_law 1526 = .ok (.aload_n 2, 1) := by decide +kernel
theorem dL_law_1527 : decode cL_law 1527 = .ok (.invokevirtual 184, 3) := by decide +kernel
theorem dL_law_1530 : decode cL_law 1530 = .ok (.if_icmp .eq 194, 3) := by decide +kernel
theorem dL_law_1533 : decode cL_law 1533 = .ok (.iconst 0, 1) := by decide +kernel
theorem dL_law_1534 : decode cL_law 1534 = .ok (.ireturn, 1) := by decide +kernel
theorem dL_law_1535 : decode cL_law 1535 = .ok (.aload_n 1, 1) := by decide +kernel
theorem dL_law_1536 : decode cL_law 1536 = .ok (.aload_n 0, 1) := by decide +kernel
theorem dL_law_1537 : decode cL_law 1537 = .ok (.iload 5, 2) := by decide +kernel
theorem dL_law_1539 : decode cL_law 1539 = .ok (.iconst 1, 1) := by decide +kernel
theorem dL_law_1540 : decode cL_law 1540 = .ok (.iadd, 1) := by decide +kernel
theorem dL_law_1541 : decode cL_law 1541 = .ok (.iaload, 1) := by decide +kernel
theorem dL_law_1542 : decode cL_law 1542 = .ok (.i2c, 1) := by decide +kernel
theorem dL_law_1543 : decode cL_law 1543 = .ok (.aload_n 3, 1) := by decide +kernel
theorem dL_law_1544 : decode cL_law 1544 = .ok (.invokestatic 185, 3) := by decide +kernel
theorem dL_law_1547 : decode cL_law 1547 = .ok (.istore 6, 2) := by decide +kernel
theorem dL_law_1549 : decode cL_law 1549 = .ok (.aload_n 2, 1) := by decide +kernel
theorem dL_law_1550 : decode cL_law 1550 = .ok (.aload_n 0, 1) := by decide +kernel
theorem dL_law_1551 : decode cL_law 1551 = .ok (.iload 5, 2) := by decide +kernel
theorem dL_law_1553 : decode cL_law 1553 = .ok (.iconst 1, 1) := by decide +kernel
theorem dL_law_1554 : decode cL_law 1554 = .ok (.iadd, 1) := by decide +kernel
theorem dL_law_1555 : decode cL_law 1555 = .ok (.iaload, 1) := by decide +kernel
theorem dL_law_1556 : decode cL_law 1556 = .ok (.i2c, 1) := by decide +kernel
theorem dL_law_1557 : decode cL_law 1557 = .ok (.invokevirtual 188, 3) := by decide +kernel
theorem dL_law_1560 : decode cL_law 1560 = .ok (.istore 7, 2) := by decide +kernel
theorem dL_law_1562 : decode cL_law 1562 = .ok (.aload_n 2, 1) := by decide +kernel
theorem dL_law_1563 : decode cL_law 1563 = .ok (.invokevirtual 112, 3) := by decide +kernel
theorem dL_law_1566 : decode cL_law 1566 = .ok (.iload 6, 2) := by decide +kernel
theorem dL_law_1568 : decode cL_law 1568 = .ok (.if_icmp .eq 5, 3) := by decide +kernel
theorem dL_law_1571 : decode cL_law 1571 = .ok (.iconst 0, 1) := by decide +kernel
theorem dL_law_1572 : decode cL_law 1572 = .ok (.ireturn, 1) := by decide +kernel
theorem dL_law_1573 : decode cL_law 1573 = .ok (.iload 6, 2) := by decide +kernel
theorem dL_law_1575 : decode cL_law 1575 = .ok (.ifCond .ne 15, 3) := by decide +kernel
theorem dL_law_1578 : decode cL_law 1578 = .ok (.aload_n 3, 1) := by decide +kernel
theorem dL_law_1579 : decode cL_law 1579 = .ok (.iconst 0, 1) := by decide +kernel
theorem dL_law_1580 : decode cL_law 1580 = .ok (.laload, 1) := by decide +kernel
theorem dL_law_1581 : decode cL_law 1581 = .ok (.iload 7, 2) := by decide +kernel
theorem dL_law_1583 : decode cL_law 1583 = .ok (.i2l, 1) := by decide +kernel
theorem dL_law_1584 : decode cL_law 1584 = .ok (.lcmp, 1) := by decide +kernel
theorem dL_law_1585 : decode cL_law 1585 = .ok (.ifCond .eq 5, 3) := by decide +kernel
theorem dL_law_1588 : decode cL_law 1588 = .ok (.iconst 0, 1) := by decide +kernel
theorem dL_law_1589 : decode cL_law 1589 = .ok (.ireturn, 1) := by decide +kernel
theorem dL_law_1590 : decode cL_law 1590 = .ok (.goto 134, 3) := by decide +kernel
theorem dL_law_1593 : decode cL_law 1593 = .ok (.aload_n 1, 1) := by decide +kernel
theorem dL_law_1594 : decode cL_law 1594 = .ok (.aload 4, 2) := by decide +kernel
theorem dL_law_1596 : decode cL_law 1596 = .ok (.invokestatic 189, 3) := by decide +kernel
theorem dL_law_1599 : decode cL_law 1599 = .ok (.istore 6, 2) := by decide +kernel
theorem dL_law_1601 : decode cL_law 1601 = .ok (.aload_n 2, 1) := by decide +kernel
theorem dL_law_1602 : decode cL_law 1602 = .ok (.invokevirtual 192, 3) := by decide +kernel
theorem dL_law_1605 : decode cL_law 1605 = .ok (.fstore 7, 2) := by decide +kernel
theorem dL_law_1607 : decode cL_law 1607 = .ok (.aload_n 2, 1) := by decide +kernel
theorem dL_law_1608 : decode cL_law 1608 = .ok (.invokevirtual 112, 3) := by decide +kernel
theorem dL_law_1611 : decode cL_law 1611 = .ok (.iload 6, 2) := by decide +kernel
theorem dL_law_1613 : decode cL_law 1613 = .ok (.if_icmp .eq 5, 3) := by decide +kernel
theorem dL_law_1616 : decode cL_law 1616 = .ok (.iconst 0, 1) := by decide +kernel
theorem dL_law_1617 : decode cL_law 1617 = .ok (.ireturn, 1) := by decide +kernel
theorem dL_law_1618 : decode cL_law 1618 = .ok (.iload 6, 2) := by decide +kernel
theorem dL_law_1620 : decode cL_law 1620 = .ok (.ifCond .ne 36, 3) := by decide +kernel
theorem dL_law_1623 : decode cL_law 1623 = .ok (.aload 4, 2) := by decide +kernel
theorem dL_law_1625 : decode cL_law 1625 = .ok (.iconst 0, 1) := by decide +kernel
theorem dL_law_1626 : decode cL_law 1626 = .ok (.daload, 1) := by decide +kernel
theorem dL_law_1627 : decode cL_law 1627 = .ok (.fload 7, 2) := by decide +kernel
theorem dL_law_1629 : decode cL_law 1629 = .ok (.f2d, 1) := by decide +kernel
theorem dL_law_1630 : decode cL_law 1630 = .ok (.dcmp .l, 1) := by decide +kernel
theorem dL_law_1631 : decode cL_law 1631 = .ok (.ifCond .eq 25, 3) := by decide +kernel
theorem dL_law_1634 : decode cL_law 1634 = .ok (.aload 4, 2) := by decide +kernel
theorem dL_law_1636 : decode cL_law 1636 = .ok (.iconst 0, 1) := by decide +kernel
theorem dL_law_1637 : decode cL_law 1637 = .ok (.daload, 1) := by decide +kernel
theorem dL_law_1638 : decode cL_law 1638 = .ok (.aload 4, 2) := by decide +kernel
theorem dL_law_1640 : decode cL_law 1640 = .ok (.iconst 0, 1) := by decide +kernel
theorem dL_law_1641 : decode cL_law 1641 = .ok (.daload, 1) := by decide +kernel
theorem dL_law_1642 : decode cL_law 1642 = .ok (.dcmp .l, 1) := by decide +kernel
theorem dL_law_1643 : decode cL_law 1643 = .ok (.ifCond .eq 11, 3) := by decide +kernel
theorem dL_law_1646 : decode cL_law 1646 = .ok (.fload 7, 2) := by decide +kernel
theorem dL_law_1648 : decode cL_law 1648 = .ok (.fload 7, 2) := by decide +kernel
theorem dL_law_1650 : decode cL_law 1650 = .ok (.fcmp .l, 1) := by decide +kernel
theorem dL_law_1651 : decode cL_law 1651 = .ok (.ifCond .ne 5, 3) := by decide +kernel
theorem dL_law_1654 : decode cL_law 1654 = .ok (.iconst 0, 1) := by decide +kernel
theorem dL_law_1655 : decode cL_law 1655 = .ok (.ireturn, 1) := by decide +kernel
theorem dL_law_1656 : decode cL_law 1656 = .ok (.goto 68, 3) := by decide +kernel
theorem dL_law_1659 : decode cL_law 1659 = .ok (.aload_n 1, 1) := by decide +kernel
theorem dL_law_1660 : decode cL_law 1660 = .ok (.aload 4, 2) := by decide +kernel
theorem dL_law_1662 : decode cL_law 1662 = .ok (.invokestatic 193, 3) := by decide +kernel
theorem dL_law_1665 : decode cL_law 1665 = .ok (.istore 6, 2) := by decide +kernel
theorem dL_law_1667 : decode cL_law 1667 = .ok (.aload_n 2, 1) := by decide +kernel
theorem dL_law_1668 : decode cL_law 1668 = .ok (.invokevirtual 195, 3) := by decide +kernel
theorem dL_law_1671 : decode cL_law 1671 = .ok (.dstore 7, 2) := by decide +kernel
theorem dL_law_1673 : decode cL_law 1673 = .ok (.aload_n 2, 1) := by decide +kernel
theorem dL_law_1674 : decode cL_law 1674 = .ok (.invokevirtual 112, 3) := by decide +kernel
theorem dL_law_1677 : decode cL_law 1677 = .ok (.iload 6, 2) := by decide +kernel
theorem dL_law_1679 : decode cL_law 1679 = .ok (.if_icmp .eq 5, 3) := by decide +kernel
theorem dL_law_1682 : decode cL_law 1682 = .ok (.iconst 0, 1) := by decide +kernel
theorem dL_law_1683 : decode cL_law 1683 = .ok (.ireturn, 1) := by decide +kernel
theorem dL_law_1684 : decode cL_law 1684 = .ok (.iload 6, 2) := by decide +kernel
theorem dL_law_1686 : decode cL_law 1686 = .ok (.ifCond .ne 35, 3) := by decide +kernel
theorem dL_law_1689 : decode cL_law 1689 = .ok (.aload 4, 2) := by decide +kernel
theorem dL_law_1691 : decode cL_law 1691 = .ok (.iconst 0, 1) := by decide +kernel
theorem dL_law_1692 : decode cL_law 1692 = .ok (.daload, 1) := by decide +kernel
theorem dL_law_1693 : decode cL_law 1693 = .ok (.dload 7, 2) := by decide +kernel
theorem dL_law_1695 : decode cL_law 1695 = .ok (.dcmp .l, 1) := by decide +kernel
theorem dL_law_1696 : decode cL_law 1696 = .ok (.ifCond .eq 25, 3) := by decide +kernel
theorem dL_law_1699 : decode cL_law 1699 = .ok (.aload 4, 2) := by decide +kernel
theorem dL_law_1701 : decode cL_law 1701 = .ok (.iconst 0, 1) := by decide +kernel
theorem dL_law_1702 : decode cL_law 1702 = .ok (.daload, 1) := by decide +kernel
theorem dL_law_1703 : decode cL_law 1703 = .ok (.aload 4, 2) := by decide +kernel
theorem dL_law_1705 : decode cL_law 1705 = .ok (.iconst 0, 1) := by decide +kernel
theorem dL_law_1706 : decode cL_law 1706 = .ok (.daload, 1) := by decide +kernel
theorem dL_law_1707 : decode cL_law 1707 = .ok (.dcmp .l, 1) := by decide +kernel
theorem dL_law_1708 : decode cL_law 1708 = .ok (.ifCond .eq 11, 3) := by decide +kernel
theorem dL_law_1711 : decode cL_law 1711 = .ok (.dload 7, 2) := by decide +kernel
theorem dL_law_1713 : decode cL_law 1713 = .ok (.dload 7, 2) := by decide +kernel
theorem dL_law_1715 : decode cL_law 1715 = .ok (.dcmp .l, 1) := by decide +kernel
theorem dL_law_1716 : decode cL_law 1716 = .ok (.ifCond .ne 5, 3) := by decide +kernel
theorem dL_law_1719 : decode cL_law 1719 = .ok (.iconst 0, 1) := by decide +kernel
theorem dL_law_1720 : decode cL_law 1720 = .ok (.ireturn, 1) := by decide +kernel
theorem dL_law_1721 : decode cL_law 1721 = .ok (.goto 3, 3) := by decide +kernel
theorem dL_law_1724 : decode cL_law 1724 = .ok (.iinc 5 7, 3) := by decide +kernel
theorem dL_law_1727 : decode cL_law 1727 = .ok (.goto (-1699), 3) := by decide +kernel
theorem dL_law_1730 : decode cL_law 1730 = .ok (.iconst 1, 1) := by decide +kernel
theorem dL_law_1731 : decode cL_law 1731 = .ok (.ireturn, 1) := by decide +kernel
end
section
/-! rows of this claim's own, over the kit's: reads and stores at a place nI j, calls that write nothing, loops -/
def b2 (q : Prop) [Decidable q] : Int32 := if q then 1 else 0
theorem b2_t {q : Prop} [Decidable q] (h : q) : b2 q = 1 := if_pos h
theorem b2_f {q : Prop} [Decidable q] (h : ¬ q) : b2 q = 0 := if_neg h
theorem b2_of0 {q : Prop} [Decidable q] (h : b2 q = 0) : ¬ q := fun hq => by rw [b2_t hq] at h; exact absurd h (by decide)
theorem b2_of1 {q : Prop} [Decidable q] (h : ¬ b2 q = 0) : q := Classical.byContradiction fun hq => h (b2_f hq)
theorem b2_cg {q r : Prop} [Decidable q] [Decidable r] (h : q ↔ r) : b2 q = b2 r := by unfold b2; by_cases hq : q <;> simp [hq, ← h]
theorem b2_n (q : Prop) [Decidable q] : narrow .boolean (.int (b2 q)) = .int (b2 q) := by unfold b2; split <;> rfl
def mx (x y : Int32) : Int32 := if x < y then y else x
/-- one array of several, at one place -/
def w2 (M : Nat → Nat → Int32) (k i : Nat) (x : Int32) : Nat → Nat → Int32 := fun a => if a = k then upd (M k) i x else M a
theorem w2_k {M : Nat → Nat → Int32} {k i : Nat} {x : Int32} : w2 M k i x k = upd (M k) i x := if_pos rfl
theorem w2_n {M : Nat → Nat → Int32} {k i a : Nat} {x : Int32} (h : a ≠ k) : w2 M k i x a = M a := if_neg h
def yB (G : va_G) (tys : List (ClassId × FieldType)) (w : va_W) : State → Prop := fun U => va_P G vwCl w U.heap ∧ va_K G vwCl tys U
def yBs (G : va_G) (tys : List (ClassId × FieldType)) (w : va_W) (sz : Nat) : State → Prop := fun U => U.heap.size = sz ∧ va_P G vwCl w U.heap ∧ va_K G vwCl tys U
theorem yB_blind {av : List Value} {G : va_G} {tys : List (ClassId × FieldType)} {w : va_W} : FrameBlind (va_Pc av (yB G tys w)) := fun a U g mk q => ⟨q.1, q.2.1, va_K.moved (u := U) (U := U.calling g mk a) (Vm.Alike.refl U.vm) q.2.2⟩
theorem yBs_blind {av : List Value} {G : va_G} {tys : List (ClassId × FieldType)} {w : va_W} {sz : Nat} : FrameBlind (va_Pc av (yBs G tys w sz)) := fun a U g mk q => ⟨q.1, q.2.1, q.2.2.1, va_K.moved (u := U) (U := U.calling g mk a) (Vm.Alike.refl U.vm) q.2.2.2⟩
theorem yT_blind {av : List Value} : FrameBlind (va_Pc av (fun _ => True)) := fun _ _ _ _ q => q
/-- apart, by the addresses alone -/
theorem yD {A : Nat → Prop} {w w' : va_W} (h : va_D A w) (hm : w'.map Prod.fst = w.map Prod.fst) : va_D A w' := by
  have at' : ∀ (k : Nat) (q : Nat × va_E), w'[k]? = some q → ∃ q0 : Nat × va_E, w[k]? = some q0 ∧ q0.1 = q.1 := by
    intro k q hk
    have h1 : (w'.map Prod.fst)[k]? = some q.1 := by rw [List.getElem?_map, hk]; rfl
    rw [hm, List.getElem?_map] at h1
    cases hw : w[k]? with
    | none => rw [hw] at h1; cases h1
    | some q0 => rw [hw] at h1; exact ⟨q0, rfl, Option.some.inj h1⟩
  refine ⟨fun i j x y hx hy hxy => ?_, fun k q hk => ?_⟩
  · obtain ⟨x0, h1, h2⟩ := at' i x hx
    obtain ⟨y0, h3, h4⟩ := at' j y hy
    exact h.1 i j x0 y0 h1 h3 (by rw [h2, h4]; exact hxy)
  · obtain ⟨q0, h1, h2⟩ := at' k q hk
    rw [← h2]
    exact h.2 k q0 h1
theorem yA_cg {w w' : va_W} {sz : Nat} (hm : w'.map Prod.fst = w.map Prod.fst) {q : Nat} (h : va_A w' sz q) : va_A w sz q := by
  rcases h with ⟨k, e, hk⟩ | h
  · have h1 : (w'.map Prod.fst)[k]? = some q := by rw [List.getElem?_map, hk]; rfl
    rw [hm, List.getElem?_map] at h1
    cases hw : w[k]? with
    | none => rw [hw] at h1; cases h1
    | some q0 =>
      rw [hw] at h1
      have h2 : q0.1 = q := Option.some.inj h1
      subst h2
      exact Or.inl ⟨k, q0.2, hw⟩
  · exact Or.inr h
section
variable {p : Program} {l : Launch} {e : Env} {R : Room} {s : State} {m : MethodId} {args : Array Value} {below : List Frame} {meth : Method} {c : Code} {H : Heap} {locs : List Loc} {cells slots : Nat} {Q : State → Prop}
variable {cc : ByteArray} {pc : Nat} {ls : Array Slot} {rest : List Value} {G : va_G} {tys : List (ClassId × FieldType)} {ws ws' : va_W} {a : Nat} {A : Nat → Prop} {H0 : Heap}
theorem y_iald (hx : p.tables.exec = Jvm.exec) (hb : c.code = cc) (hK : va_K G vwCl tys s) (hP : va_P G vwCl ws H) (q0 t0 : Nat) {cA : ClassId} {n : Nat} {f : Nat → Int32} (ha : ws[q0]? = some (a, .inl (cA, n, .inl f))) (ht : tys[t0]? = some (cA, .int)) {j : Nat} (hj : j < n) (hn : n < 2 ^ 31) (hdg : decode cc pc = .ok (.iaload, 1))
    (kk : W p l e R s m args below meth c H locs cells slots Q (F0 m (pc + 1) ls (.int (f j) :: rest))) : W p l e R s m args below meth c H locs cells slots Q (F0 m pc ls (.int (nI j) :: .ref a :: rest)) := by
  refine va_iald hx hb hK hP q0 t0 ha ht (vp_in_nI hj hn) hdg ?_
  rw [nI_clamp (Nat.lt_trans hj hn)]
  exact kk
theorem y_cald (hx : p.tables.exec = Jvm.exec) (hb : c.code = cc) (hK : va_K G vwCl tys s) (hP : va_P G vwCl ws H) (q0 t0 : Nat) {cA : ClassId} {n : Nat} {f : Nat → Int32} (ha : ws[q0]? = some (a, .inl (cA, n, .inl f))) (ht : tys[t0]? = some (cA, .char)) {j : Nat} (hj : j < n) (hn : n < 2 ^ 31) (hdg : decode cc pc = .ok (.caload, 1))
    (kk : W p l e R s m args below meth c H locs cells slots Q (F0 m (pc + 1) ls (.int (f j) :: rest))) : W p l e R s m args below meth c H locs cells slots Q (F0 m pc ls (.int (nI j) :: .ref a :: rest)) := by
  refine va_cald hx hb hK hP q0 t0 ha ht (vp_in_nI hj hn) hdg ?_
  rw [nI_clamp (Nat.lt_trans hj hn)]
  exact kk
theorem y_zald (hx : p.tables.exec = Jvm.exec) (hb : c.code = cc) (hK : va_K G vwCl tys s) (hP : va_P G vwCl ws H) (q0 t0 : Nat) {cA : ClassId} {n : Nat} {f : Nat → Int32} (ha : ws[q0]? = some (a, .inl (cA, n, .inl f))) (ht : tys[t0]? = some (cA, .boolean)) {j : Nat} (hj : j < n) (hn : n < 2 ^ 31) (hdg : decode cc pc = .ok (.baload, 1))
    (kk : W p l e R s m args below meth c H locs cells slots Q (F0 m (pc + 1) ls (.int (f j) :: rest))) : W p l e R s m args below meth c H locs cells slots Q (F0 m pc ls (.int (nI j) :: .ref a :: rest)) := by
  refine va_zald hx hb hK hP q0 t0 ha ht (vp_in_nI hj hn) hdg ?_
  rw [nI_clamp (Nat.lt_trans hj hn)]
  exact kk
theorem y_iast (hx : p.tables.exec = Jvm.exec) (hb : c.code = cc) (hK : va_K G vwCl tys s) (hP : va_P G vwCl ws H) (hD : va_D A ws) (hS : va_S A H0 H locs) (q0 t0 : Nat) {cA : ClassId} {n : Nat} {f : Nat → Int32} (ha : ws[q0]? = some (a, .inl (cA, n, .inl f))) (ht : tys[t0]? = some (cA, .int)) {j : Nat} {x : Int32} (hj : j < n) (hn : n < 2 ^ 31) (hw : ws.set q0 (a, .inl (cA, n, .inl (upd f j x))) = ws') (hdg : decode cc pc = .ok (.iastore, 1))
    (kk : ∀ (H1 : Heap) (locs1 : List Loc), va_P G vwCl ws' H1 → va_D A ws' → va_S A H0 H1 locs1 → W p l e R s m args below meth c H1 locs1 cells slots Q (F0 m (pc + 1) ls rest)) : W p l e R s m args below meth c H locs cells slots Q (F0 m pc ls (.int x :: .int (nI j) :: .ref a :: rest)) := by
  refine va_iast hx hb hK hP hD hS q0 t0 ha ht (vp_in_nI hj hn) hdg (fun H1 locs1 h1 h2 h3 => ?_)
  rw [nI_clamp (Nat.lt_trans hj hn), hw] at h1 h2
  exact kk H1 locs1 h1 h2 h3
theorem y_cast (hx : p.tables.exec = Jvm.exec) (hb : c.code = cc) (hK : va_K G vwCl tys s) (hP : va_P G vwCl ws H) (hD : va_D A ws) (hS : va_S A H0 H locs) (q0 t0 : Nat) {cA : ClassId} {n : Nat} {f : Nat → Int32} (ha : ws[q0]? = some (a, .inl (cA, n, .inl f))) (ht : tys[t0]? = some (cA, .char)) {j : Nat} {x : Int32} (hj : j < n) (hn : n < 2 ^ 31) (hc : vp_nar .char x = x) (hw : ws.set q0 (a, .inl (cA, n, .inl (upd f j x))) = ws') (hdg : decode cc pc = .ok (.castore, 1))
    (kk : ∀ (H1 : Heap) (locs1 : List Loc), va_P G vwCl ws' H1 → va_D A ws' → va_S A H0 H1 locs1 → W p l e R s m args below meth c H1 locs1 cells slots Q (F0 m (pc + 1) ls rest)) : W p l e R s m args below meth c H locs cells slots Q (F0 m pc ls (.int x :: .int (nI j) :: .ref a :: rest)) := by
  refine va_cast hx hb hK hP hD hS q0 t0 ha ht (vp_in_nI hj hn) hdg (fun H1 locs1 h1 h2 h3 => ?_)
  rw [nI_clamp (Nat.lt_trans hj hn), hc, hw] at h1 h2
  exact kk H1 locs1 h1 h2 h3
theorem y_zast (hx : p.tables.exec = Jvm.exec) (hb : c.code = cc) (hK : va_K G vwCl tys s) (hP : va_P G vwCl ws H) (hD : va_D A ws) (hS : va_S A H0 H locs) (q0 t0 : Nat) {cA : ClassId} {n : Nat} {f : Nat → Int32} (ha : ws[q0]? = some (a, .inl (cA, n, .inl f))) (ht : tys[t0]? = some (cA, .boolean)) {j : Nat} {x : Int32} (hj : j < n) (hn : n < 2 ^ 31) (hc : vp_nar .boolean x = x) (hw : ws.set q0 (a, .inl (cA, n, .inl (upd f j x))) = ws') (hdg : decode cc pc = .ok (.bastore, 1))
    (kk : ∀ (H1 : Heap) (locs1 : List Loc), va_P G vwCl ws' H1 → va_D A ws' → va_S A H0 H1 locs1 → W p l e R s m args below meth c H1 locs1 cells slots Q (F0 m (pc + 1) ls rest)) : W p l e R s m args below meth c H locs cells slots Q (F0 m pc ls (.int x :: .int (nI j) :: .ref a :: rest)) := by
  refine va_zast hx hb hK hP hD hS q0 t0 ha ht (vp_in_nI hj hn) hdg (fun H1 locs1 h1 h2 h3 => ?_)
  rw [nI_clamp (Nat.lt_trans hj hn), hc, hw] at h1 h2
  exact kk H1 locs1 h1 h2 h3
/-- the number on top, rewritten -/
theorem y_top {x y : Int32} (h : x = y) (kk : W p l e R s m args below meth c H locs cells slots Q (F0 m pc ls (.int y :: rest))) : W p l e R s m args below meth c H locs cells slots Q (F0 m pc ls (.int x :: rest)) := by rw [h]; exact kk
/-- a loop, by what is left of it -/
theorem y_loop {σ : Type} (I : Nat → σ → Heap → List Loc → Array Slot → Prop)
    (hs : ∀ (r : Nat) (x : σ) (H : Heap) (locs : List Loc) (ls : Array Slot), I r x H locs ls → (∀ (r' : Nat) (x' : σ) (H' : Heap) (locs' : List Loc) (ls' : Array Slot), r' < r → I r' x' H' locs' ls' → W p l e R s m args below meth c H' locs' cells slots Q (F0 m pc ls' [])) → W p l e R s m args below meth c H locs cells slots Q (F0 m pc ls [])) :
    ∀ (r : Nat) (x : σ) (H : Heap) (locs : List Loc) (ls : Array Slot), I r x H locs ls → W p l e R s m args below meth c H locs cells slots Q (F0 m pc ls []) := by
  intro r
  induction r using Nat.strongRecOn with
  | _ r ih => exact fun x H locs ls h => hs r x H locs ls h (fun r' x' H' locs' ls' hr h' => ih r' hr x' H' locs' ls' h')
end
section
variable {p : Program} {l : Launch} {e : Env} {R : Room} {s : State} {m : MethodId} {args : Array Value} {below : List Frame} {meth : Method} {c : Code} {H : Heap} {locs : List Loc} {cells slots : Nat} {Q : State → Prop}
variable {cc : ByteArray} {pc : Nat} {ls : Array Slot} {rest st0 As : List Value} {G : va_G} {tys : List (ClassId × FieldType)} {w : va_W} {b : Nat} {A0 : Nat → Prop} {H0 : Heap}
variable {y : MethodName} {bytes : ByteArray} {maxL nL n index mc ms : Nat} {ret : Option FieldType} {ws : List Cond} {rm : Room} {Ts : List Cond} {own C host : String}
theorem y_callSi {post : Int32 → Prop} {a : Array Value} (hr : va_Run p l e R s m args below meth c H locs cells slots 0 0 (F0 m pc ls st0) rest (vp_Si post a) (fun _ => False))
    (kk : ∀ r : Int32, post r → W p l e R s m args below meth c H locs cells slots Q (F0 m (pc + 3) ls (.int r :: rest))) : W p l e R s m args below meth c H locs cells slots Q (F0 m pc ls st0) := by
  intro T hT X
  obtain ⟨v, st₀, t, T', L, h0, X', hL, e1, e2, ⟨r, hv, hp, hh⟩, st⟩ := hr T hT X
  cases hv
  obtain ⟨t2, a1, b1⟩ := kk r hp T' (by rw [e1, hh, h0]) (Stand.forget X' (fun q h => (hL q h).elim))
  exact ⟨t2, st t2 a1, b1⟩
/-- calls of methods that write nothing and answer an int -/
theorem y_roV {post : Int32 → Prop} (S : CallFix p m c cc nL s args Ts own) (hM : Met l y ws rm (va_Pc (.ref b :: As) (yB G tys w)) (vp_Si post) 0 0 (fun _ => False)) (cw : CallW R s args own C index y bytes maxL ret ws rm 0 0 n) (hK : va_K G vwCl tys s) (hP : va_P G vwCl w H) (hrc : ∃ cell : Cell, H[b]? = some cell ∧ cell.vm.isStatics = false ∧ s.vm.findClass C = some cell.cls)
    (hn : As.length = n) (hsize : ls.size = nL) (hst : st0 = As.reverse ++ .ref b :: rest) (hW : (rest.map fun v => v.category).sum ≤ 8) (hdg : decode cc pc = .ok (.invokevirtual index, 3)) (hf : cells ≤ R.cells ∧ slots ≤ R.slots)
    (kk : ∀ r : Int32, post r → W p l e R s m args below meth c H locs cells slots Q (F0 m (pc + 3) ls (.int r :: rest))) : W p l e R s m args below meth c H locs cells slots Q (F0 m pc ls st0) :=
  y_callSi (va_runV S hM cw ⟨yB_blind, hrc, fun U hU hW => ⟨rfl, by rw [hU]; exact hP, va_K.moved hW.alike hK⟩⟩ rfl hn hsize hst (lv_room hW) hdg hf) kk
theorem y_roVN {post : Int32 → Prop} (S : CallFix p m c cc nL s args Ts own) (hM : Met l y ws rm (va_Pc (.ref b :: As) (yB G tys w)) (vp_Si post) 0 0 (fun _ => False)) (cw : va_CN R s args own index y host bytes maxL ret ws rm 0 0 n ∧ (Cond.instanceMethod y).before args s = true ∧ (Cond.selects C y y).before args s = true) (hK : va_K G vwCl tys s) (hP : va_P G vwCl w H) (hrc : ∃ cell : Cell, H[b]? = some cell ∧ cell.vm.isStatics = false ∧ s.vm.findClass C = some cell.cls)
    (hn : As.length = n) (hsize : ls.size = nL) (hst : st0 = As.reverse ++ .ref b :: rest) (hW : (rest.map fun v => v.category).sum ≤ 8) (hdg : decode cc pc = .ok (.invokevirtual index, 3)) (hf : cells ≤ R.cells ∧ slots ≤ R.slots)
    (kk : ∀ r : Int32, post r → W p l e R s m args below meth c H locs cells slots Q (F0 m (pc + 3) ls (.int r :: rest))) : W p l e R s m args below meth c H locs cells slots Q (F0 m pc ls st0) :=
  y_callSi (va_runVN S hM cw ⟨yB_blind, hrc, fun U hU hW => ⟨rfl, by rw [hU]; exact hP, va_K.moved hW.alike hK⟩⟩ rfl hn hsize hst (lv_room hW) hdg hf) kk
/-- .. of static ones that read no cell -/
theorem y_roS {post : Int32 → Prop} (S : CallFix p m c cc nL s args Ts own) (hM : Met l y ws rm (va_Pc As (fun _ => True)) (vp_Si post) 0 0 (fun _ => False)) (cw : CallB R s args own index y bytes maxL ret ws rm 0 0 n ∧ (Cond.static y).before args s = true)
    (hn : As.length = n) (hsize : ls.size = nL) (hst : st0 = As.reverse ++ rest) (hW : (rest.map fun v => v.category).sum ≤ 8) (hdg : decode cc pc = .ok (.invokestatic index, 3)) (hf : cells ≤ R.cells ∧ slots ≤ R.slots)
    (kk : ∀ r : Int32, post r → W p l e R s m args below meth c H locs cells slots Q (F0 m (pc + 3) ls (.int r :: rest))) : W p l e R s m args below meth c H locs cells slots Q (F0 m pc ls st0) :=
  y_callSi (va_runS S hM cw ⟨yT_blind, fun U hU hW => ⟨rfl, trivial⟩⟩ rfl hn hsize hst (lv_room hW) hdg hf) kk
/-- calls of methods that write in their own world and answer an int -/
theorem y_rwV {σ : Type} {post : Int32 → σ → Prop} {w' : σ → va_W} (S : CallFix p m c cc nL s args Ts own) (hM : Met l y ws rm (va_Pc (.ref b :: As) (yBs G tys w H.size)) (va_Qi post (fun u t => va_P G vwCl (w' u) t.heap) (va_A w H.size)) mc ms (va_A w H.size)) (cw : CallW R s args own C index y bytes maxL ret ws rm mc ms n) (hK : va_K G vwCl tys s) (hP : va_P G vwCl w H) (hrc : ∃ cell : Cell, H[b]? = some cell ∧ cell.vm.isStatics = false ∧ s.vm.findClass C = some cell.cls) (hS : va_S A0 H0 H locs) (hfr : ∀ q, va_A w H.size q → A0 q)
    (hn : As.length = n) (hsize : ls.size = nL) (hst : st0 = As.reverse ++ .ref b :: rest) (hW : (rest.map fun v => v.category).sum ≤ 8) (hdg : decode cc pc = .ok (.invokevirtual index, 3)) (hf : cells + mc ≤ R.cells ∧ slots + ms ≤ R.slots)
    (kk : ∀ (r : Int32) (u : σ) (H1 : Heap) (locs1 : List Loc), post r u → va_P G vwCl (w' u) H1 → H.size ≤ H1.size → (∀ q : Nat, q < H.size → ¬ va_A w H.size q → H1[q]? = H[q]?) → va_S A0 H0 H1 locs1 → W p l e R s m args below meth c H1 locs1 (cells + mc) (slots + ms) Q (F0 m (pc + 3) ls (.int r :: rest))) : W p l e R s m args below meth c H locs cells slots Q (F0 m pc ls st0) :=
  va_calli (va_runV S hM cw ⟨yBs_blind, hrc, fun U hU hW => ⟨rfl, by rw [hU], by rw [hU]; exact hP, va_K.moved hW.alike hK⟩⟩ rfl hn hsize hst (lv_room hW) hdg hf) hS (fun q _ h => hfr q h) hfr (fun r u t H1 locs1 ht hvm hp hB hz hk hS1 => kk r u H1 locs1 hp (by rw [← ht]; exact hB) hz hk hS1)
theorem y_rwVN {σ : Type} {post : Int32 → σ → Prop} {w' : σ → va_W} (S : CallFix p m c cc nL s args Ts own) (hM : Met l y ws rm (va_Pc (.ref b :: As) (yBs G tys w H.size)) (va_Qi post (fun u t => va_P G vwCl (w' u) t.heap) (va_A w H.size)) mc ms (va_A w H.size)) (cw : va_CN R s args own index y host bytes maxL ret ws rm mc ms n ∧ (Cond.instanceMethod y).before args s = true ∧ (Cond.selects C y y).before args s = true) (hK : va_K G vwCl tys s) (hP : va_P G vwCl w H) (hrc : ∃ cell : Cell, H[b]? = some cell ∧ cell.vm.isStatics = false ∧ s.vm.findClass C = some cell.cls) (hS : va_S A0 H0 H locs) (hfr : ∀ q, va_A w H.size q → A0 q)
    (hn : As.length = n) (hsize : ls.size = nL) (hst : st0 = As.reverse ++ .ref b :: rest) (hW : (rest.map fun v => v.category).sum ≤ 8) (hdg : decode cc pc = .ok (.invokevirtual index, 3)) (hf : cells + mc ≤ R.cells ∧ slots + ms ≤ R.slots)
    (kk : ∀ (r : Int32) (u : σ) (H1 : Heap) (locs1 : List Loc), post r u → va_P G vwCl (w' u) H1 → H.size ≤ H1.size → (∀ q : Nat, q < H.size → ¬ va_A w H.size q → H1[q]? = H[q]?) → va_S A0 H0 H1 locs1 → W p l e R s m args below meth c H1 locs1 (cells + mc) (slots + ms) Q (F0 m (pc + 3) ls (.int r :: rest))) : W p l e R s m args below meth c H locs cells slots Q (F0 m pc ls st0) :=
  va_calli (va_runVN S hM cw ⟨yBs_blind, hrc, fun U hU hW => ⟨rfl, by rw [hU], by rw [hU]; exact hP, va_K.moved hW.alike hK⟩⟩ rfl hn hsize hst (lv_room hW) hdg hf) hS (fun q _ h => hfr q h) hfr (fun r u t H1 locs1 ht hvm hp hB hz hk hS1 => kk r u H1 locs1 hp (by rw [← ht]; exact hB) hz hk hS1)
/-- .. and answer nothing -/
theorem y_rvV {σ : Type} {post : σ → Prop} {w' : σ → va_W} (S : CallFix p m c cc nL s args Ts own) (hM : Met l y ws rm (va_Pc (.ref b :: As) (yBs G tys w H.size)) (va_Qv post (fun u t => va_P G vwCl (w' u) t.heap) (va_A w H.size)) mc ms (va_A w H.size)) (cw : CallW R s args own C index y bytes maxL ret ws rm mc ms n) (hK : va_K G vwCl tys s) (hP : va_P G vwCl w H) (hrc : ∃ cell : Cell, H[b]? = some cell ∧ cell.vm.isStatics = false ∧ s.vm.findClass C = some cell.cls) (hS : va_S A0 H0 H locs) (hfr : ∀ q, va_A w H.size q → A0 q)
    (hn : As.length = n) (hsize : ls.size = nL) (hst : st0 = As.reverse ++ .ref b :: rest) (hW : (rest.map fun v => v.category).sum ≤ 8) (hdg : decode cc pc = .ok (.invokevirtual index, 3)) (hf : cells + mc ≤ R.cells ∧ slots + ms ≤ R.slots)
    (kk : ∀ (u : σ) (H1 : Heap) (locs1 : List Loc), post u → va_P G vwCl (w' u) H1 → H.size ≤ H1.size → (∀ q : Nat, q < H.size → ¬ va_A w H.size q → H1[q]? = H[q]?) → va_S A0 H0 H1 locs1 → W p l e R s m args below meth c H1 locs1 (cells + mc) (slots + ms) Q (F0 m (pc + 3) ls rest)) : W p l e R s m args below meth c H locs cells slots Q (F0 m pc ls st0) :=
  va_callv (va_runV S hM cw ⟨yBs_blind, hrc, fun U hU hW => ⟨rfl, by rw [hU], by rw [hU]; exact hP, va_K.moved hW.alike hK⟩⟩ rfl hn hsize hst (lv_room hW) hdg hf) hS (fun q _ h => hfr q h) hfr (fun u t H1 locs1 ht hvm hp hB hz hk hS1 => kk u H1 locs1 hp (by rw [← ht]; exact hB) hz hk hS1)
theorem y_rvVN {σ : Type} {post : σ → Prop} {w' : σ → va_W} (S : CallFix p m c cc nL s args Ts own) (hM : Met l y ws rm (va_Pc (.ref b :: As) (yBs G tys w H.size)) (va_Qv post (fun u t => va_P G vwCl (w' u) t.heap) (va_A w H.size)) mc ms (va_A w H.size)) (cw : va_CN R s args own index y host bytes maxL ret ws rm mc ms n ∧ (Cond.instanceMethod y).before args s = true ∧ (Cond.selects C y y).before args s = true) (hK : va_K G vwCl tys s) (hP : va_P G vwCl w H) (hrc : ∃ cell : Cell, H[b]? = some cell ∧ cell.vm.isStatics = false ∧ s.vm.findClass C = some cell.cls) (hS : va_S A0 H0 H locs) (hfr : ∀ q, va_A w H.size q → A0 q)
    (hn : As.length = n) (hsize : ls.size = nL) (hst : st0 = As.reverse ++ .ref b :: rest) (hW : (rest.map fun v => v.category).sum ≤ 8) (hdg : decode cc pc = .ok (.invokevirtual index, 3)) (hf : cells + mc ≤ R.cells ∧ slots + ms ≤ R.slots)
    (kk : ∀ (u : σ) (H1 : Heap) (locs1 : List Loc), post u → va_P G vwCl (w' u) H1 → H.size ≤ H1.size → (∀ q : Nat, q < H.size → ¬ va_A w H.size q → H1[q]? = H[q]?) → va_S A0 H0 H1 locs1 → W p l e R s m args below meth c H1 locs1 (cells + mc) (slots + ms) Q (F0 m (pc + 3) ls rest)) : W p l e R s m args below meth c H locs cells slots Q (F0 m pc ls st0) :=
  va_callv (va_runVN S hM cw ⟨yBs_blind, hrc, fun U hU hW => ⟨rfl, by rw [hU], by rw [hU]; exact hP, va_K.moved hW.alike hK⟩⟩ rfl hn hsize hst (lv_room hW) hdg hf) hS (fun q _ h => hfr q h) hfr (fun u t H1 locs1 ht hvm hp hB hz hk hS1 => kk u H1 locs1 hp (by rw [← ht]; exact hB) hz hk hS1)
end
/-! the worlds: k: the classes of the arrays (0 int, 1 boolean, 2 char, 3 long, 4 double); C: the cases' rows (0 amounts, 1 due days, 2 letters, 3 pauses, 4 waits, 5 first amounts); M: the messages' rows (0 queues, 1 keys, 2 kinds, 3 cases, 4 contents, 5 states, 6 ready days, 7 tries, 8 clerks, 9 taken days, 10 the order done) -/
abbrev yT (k : Nat → ClassId) : List (ClassId × FieldType) := [(k 0, .int), (k 1, .boolean), (k 2, .char), (k 3, .long), (k 4, .double)]
abbrev W0 (k : Nat → ClassId) (a : Nat → Nat) (C : Nat → Nat → Int32) (n : Nat) : va_W := [(a 0, .inr (2, [.ref (a 1), .ref (a 2), .ref (a 3), .ref (a 4), .ref (a 5), .ref (a 6), .int (nI n)])), (a 1, .inl (k 0, 8, .inl (C 5))), (a 2, .inl (k 0, 8, .inl (C 0))), (a 3, .inl (k 0, 8, .inl (C 1))), (a 4, .inl (k 0, 8, .inl (C 2))), (a 5, .inl (k 0, 8, .inl (C 3))), (a 6, .inl (k 1, 8, .inl (C 4)))]
abbrev W1 (k : Nat → ClassId) (a : Nat → Nat) (M : Nat → Nat → Int32) (ds n : Nat) : va_W := [(a 0, .inr (3, [.ref (a 1), .ref (a 2), .ref (a 3), .ref (a 4), .ref (a 5), .ref (a 6), .ref (a 7), .ref (a 8), .ref (a 9), .ref (a 10), .ref (a 11), .int (nI ds), .int (nI n)])), (a 1, .inl (k 0, 80, .inl (M 0))), (a 2, .inl (k 0, 80, .inl (M 1))), (a 3, .inl (k 2, 80, .inl (M 2))), (a 4, .inl (k 0, 80, .inl (M 3))), (a 5, .inl (k 0, 80, .inl (M 4))), (a 6, .inl (k 2, 80, .inl (M 5))), (a 7, .inl (k 0, 80, .inl (M 6))), (a 8, .inl (k 0, 80, .inl (M 7))), (a 9, .inl (k 0, 80, .inl (M 8))), (a 10, .inl (k 0, 80, .inl (M 9))), (a 11, .inl (k 0, 80, .inl (M 10)))]
abbrev W2 (k : Nat → ClassId) (h : Nat) (a : Nat → Nat) (c : Nat → Nat) (C : Nat → Nat → Int32) (n0 : Nat) (M : Nat → Nat → Int32) (ds n1 d : Nat) : va_W := (h, .inr (4, [.ref (a 0), .ref (c 0), .int (nI d)])) :: (W0 k a C n0 ++ W1 k c M ds n1)
abbrev W3 (k : Nat → ClassId) (a : Nat → Nat) (C : Nat → Nat → Int32) (n0 : Nat) (M : Nat → Nat → Int32) (n1 d : Nat) (th : Int32) : va_W := [(a 0, .inr (5, [.ref (a 1), .ref (a 2), .ref (a 3), .ref (a 4), .ref (a 5), .int (nI n0), .ref (a 6), .ref (a 7), .ref (a 8), .ref (a 9), .ref (a 10), .ref (a 11), .ref (a 12), .ref (a 13), .ref (a 14), .ref (a 15), .int (nI n1), .int (nI d), .int th])), (a 1, .inl (k 0, 8, .inl (C 0))), (a 2, .inl (k 0, 8, .inl (C 1))), (a 3, .inl (k 0, 8, .inl (C 2))), (a 4, .inl (k 0, 8, .inl (C 3))), (a 5, .inl (k 1, 8, .inl (C 4))), (a 6, .inl (k 0, 80, .inl (M 0))), (a 7, .inl (k 0, 80, .inl (M 1))), (a 8, .inl (k 2, 80, .inl (M 2))), (a 9, .inl (k 0, 80, .inl (M 3))), (a 10, .inl (k 0, 80, .inl (M 4))), (a 11, .inl (k 0, 80, .inl (M 6))), (a 12, .inl (k 0, 80, .inl (M 7))), (a 13, .inl (k 2, 80, .inl (M 5))), (a 14, .inl (k 0, 80, .inl (M 8))), (a 15, .inl (k 0, 80, .inl (M 9)))]
theorem P20 {G : va_G} {k : Nat → ClassId} {h : Nat} {a c : Nat → Nat} {C : Nat → Nat → Int32} {n0 : Nat} {M : Nat → Nat → Int32} {ds n1 d : Nat} {H : Heap} (hP : va_P G vwCl (W2 k h a c C n0 M ds n1 d) H) : va_P G vwCl (W0 k a C n0) H := hP.sub [1, 2, 3, 4, 5, 6, 7] rfl
theorem P21 {G : va_G} {k : Nat → ClassId} {h : Nat} {a c : Nat → Nat} {C : Nat → Nat → Int32} {n0 : Nat} {M : Nat → Nat → Int32} {ds n1 d : Nat} {H : Heap} (hP : va_P G vwCl (W2 k h a c C n0 M ds n1 d) H) : va_P G vwCl (W1 k c M ds n1) H := hP.sub [8, 9, 10, 11, 12, 13, 14, 15, 16, 17, 18, 19] rfl
end
