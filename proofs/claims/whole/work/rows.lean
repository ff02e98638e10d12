section
-- ===== PART A: goes FIRST, ahead of the names: the tables' words, and 'selects' of the private methods out of them =====
/-- a private method of a class that the tables say can be made, by its rows of tables_1 -/
def lw_okq (q : MethodName × Nat) : Prop := (q.1.cls ≠ "java/lang/invoke/MethodHandle" ∧ q.1.cls ≠ "java/lang/invoke/VarHandle") ∧ Cond.instantiable q.1.cls q.2 ∈ tables_1 ∧ Cond.privateMethod q.1 ∈ tables_1 ∧ Cond.instanceMethod q.1 ∈ tables_1
theorem lw_p0 : lw_okq (⟨"JealousChoir$Script", "put", "(I)Z"⟩, 2) := ⟨⟨by decide +kernel, by decide +kernel⟩, List.mem_of_getElem? (i := 24) (by decide +kernel), List.mem_of_getElem? (i := 268) (by decide +kernel), List.mem_of_getElem? (i := 269) (by decide +kernel)⟩
theorem lw_p1 : lw_okq (⟨"JealousChoir$Script", "firstFault", "()I"⟩, 2) := ⟨⟨by decide +kernel, by decide +kernel⟩, List.mem_of_getElem? (i := 24) (by decide +kernel), List.mem_of_getElem? (i := 280) (by decide +kernel), List.mem_of_getElem? (i := 281) (by decide +kernel)⟩
theorem lw_p2 : lw_okq (⟨"JealousChoir$Script", "tellTo", "(LJealousChoir$Roll;LJealousChoir$Stand;)V"⟩, 2) := ⟨⟨by decide +kernel, by decide +kernel⟩, List.mem_of_getElem? (i := 24) (by decide +kernel), List.mem_of_getElem? (i := 297) (by decide +kernel), List.mem_of_getElem? (i := 298) (by decide +kernel)⟩
theorem lw_p3 : lw_okq (⟨"JealousChoir$Roll", "everybody", "()I"⟩, 4) := ⟨⟨by decide +kernel, by decide +kernel⟩, List.mem_of_getElem? (i := 39) (by decide +kernel), List.mem_of_getElem? (i := 304) (by decide +kernel), List.mem_of_getElem? (i := 305) (by decide +kernel)⟩
theorem lw_p4 : lw_okq (⟨"JealousChoir$Stand", "takeVoices", "()V"⟩, 8) := ⟨⟨by decide +kernel, by decide +kernel⟩, List.mem_of_getElem? (i := 72) (by decide +kernel), List.mem_of_getElem? (i := 308) (by decide +kernel), List.mem_of_getElem? (i := 309) (by decide +kernel)⟩
theorem lw_p5 : lw_okq (⟨"JealousChoir$ActRow", "forgetAll", "()V"⟩, 3) := ⟨⟨by decide +kernel, by decide +kernel⟩, List.mem_of_getElem? (i := 117) (by decide +kernel), List.mem_of_getElem? (i := 315) (by decide +kernel), List.mem_of_getElem? (i := 316) (by decide +kernel)⟩
theorem lw_p6 : lw_okq (⟨"JealousChoir$Shelf", "forgetAll", "()V"⟩, 2) := ⟨⟨by decide +kernel, by decide +kernel⟩, List.mem_of_getElem? (i := 137) (by decide +kernel), List.mem_of_getElem? (i := 319) (by decide +kernel), List.mem_of_getElem? (i := 320) (by decide +kernel)⟩
theorem lw_p7 : lw_okq (⟨"JealousChoir$Stand", "isThere", "(I)Z"⟩, 8) := ⟨⟨by decide +kernel, by decide +kernel⟩, List.mem_of_getElem? (i := 72) (by decide +kernel), List.mem_of_getElem? (i := 327) (by decide +kernel), List.mem_of_getElem? (i := 328) (by decide +kernel)⟩
theorem lw_p8 : lw_okq (⟨"JealousChoir$Stand", "seenBy", "(I)I"⟩, 8) := ⟨⟨by decide +kernel, by decide +kernel⟩, List.mem_of_getElem? (i := 72) (by decide +kernel), List.mem_of_getElem? (i := 331) (by decide +kernel), List.mem_of_getElem? (i := 332) (by decide +kernel)⟩
theorem lw_p9 : lw_okq (⟨"JealousChoir$Stand", "isSeen", "(II)Z"⟩, 8) := ⟨⟨by decide +kernel, by decide +kernel⟩, List.mem_of_getElem? (i := 72) (by decide +kernel), List.mem_of_getElem? (i := 335) (by decide +kernel), List.mem_of_getElem? (i := 336) (by decide +kernel)⟩
theorem lw_p10 : lw_okq (⟨"JealousChoir$Stand", "enviedBy", "(I)I"⟩, 8) := ⟨⟨by decide +kernel, by decide +kernel⟩, List.mem_of_getElem? (i := 72) (by decide +kernel), List.mem_of_getElem? (i := 339) (by decide +kernel), List.mem_of_getElem? (i := 340) (by decide +kernel)⟩
theorem lw_p11 : lw_okq (⟨"JealousChoir$Stand", "isHeld", "(I)Z"⟩, 8) := ⟨⟨by decide +kernel, by decide +kernel⟩, List.mem_of_getElem? (i := 72) (by decide +kernel), List.mem_of_getElem? (i := 343) (by decide +kernel), List.mem_of_getElem? (i := 344) (by decide +kernel)⟩
theorem lw_p12 : lw_okq (⟨"JealousChoir$Stand", "isHeldOn", "(I)Z"⟩, 8) := ⟨⟨by decide +kernel, by decide +kernel⟩, List.mem_of_getElem? (i := 72) (by decide +kernel), List.mem_of_getElem? (i := 347) (by decide +kernel), List.mem_of_getElem? (i := 348) (by decide +kernel)⟩
theorem lw_p13 : lw_okq (⟨"JealousChoir$Stand", "whoIsAt", "(I)I"⟩, 8) := ⟨⟨by decide +kernel, by decide +kernel⟩, List.mem_of_getElem? (i := 72) (by decide +kernel), List.mem_of_getElem? (i := 356) (by decide +kernel), List.mem_of_getElem? (i := 357) (by decide +kernel)⟩
theorem lw_p14 : lw_okq (⟨"JealousChoir$ActRow", "remember", "(LJealousChoir$Stand;)V"⟩, 3) := ⟨⟨by decide +kernel, by decide +kernel⟩, List.mem_of_getElem? (i := 117) (by decide +kernel), List.mem_of_getElem? (i := 365) (by decide +kernel), List.mem_of_getElem? (i := 366) (by decide +kernel)⟩
theorem lw_p15 : lw_okq (⟨"JealousChoir$Stand", "copyFrom", "(LJealousChoir$Stand;)V"⟩, 8) := ⟨⟨by decide +kernel, by decide +kernel⟩, List.mem_of_getElem? (i := 72) (by decide +kernel), List.mem_of_getElem? (i := 369) (by decide +kernel), List.mem_of_getElem? (i := 370) (by decide +kernel)⟩
def lw_privs_1 : List (MethodName × Nat) := [(⟨"JealousChoir$Script", "put", "(I)Z"⟩, 2), (⟨"JealousChoir$Script", "firstFault", "()I"⟩, 2), (⟨"JealousChoir$Script", "tellTo", "(LJealousChoir$Roll;LJealousChoir$Stand;)V"⟩, 2), (⟨"JealousChoir$Roll", "everybody", "()I"⟩, 4), (⟨"JealousChoir$Stand", "takeVoices", "()V"⟩, 8), (⟨"JealousChoir$ActRow", "forgetAll", "()V"⟩, 3), (⟨"JealousChoir$Shelf", "forgetAll", "()V"⟩, 2), (⟨"JealousChoir$Stand", "isThere", "(I)Z"⟩, 8), (⟨"JealousChoir$Stand", "seenBy", "(I)I"⟩, 8), (⟨"JealousChoir$Stand", "isSeen", "(II)Z"⟩, 8), (⟨"JealousChoir$Stand", "enviedBy", "(I)I"⟩, 8), (⟨"JealousChoir$Stand", "isHeld", "(I)Z"⟩, 8), (⟨"JealousChoir$Stand", "isHeldOn", "(I)Z"⟩, 8), (⟨"JealousChoir$Stand", "whoIsAt", "(I)I"⟩, 8), (⟨"JealousChoir$ActRow", "remember", "(LJealousChoir$Stand;)V"⟩, 3), (⟨"JealousChoir$Stand", "copyFrom", "(LJealousChoir$Stand;)V"⟩, 8)]
theorem lw_r1 : ∀ q ∈ lw_privs_1, lw_okq q := List.forall_mem_cons.mpr ⟨lw_p0, List.forall_mem_cons.mpr ⟨lw_p1, List.forall_mem_cons.mpr ⟨lw_p2, List.forall_mem_cons.mpr ⟨lw_p3, List.forall_mem_cons.mpr ⟨lw_p4, List.forall_mem_cons.mpr ⟨lw_p5, List.forall_mem_cons.mpr ⟨lw_p6, List.forall_mem_cons.mpr ⟨lw_p7, List.forall_mem_cons.mpr ⟨lw_p8, List.forall_mem_cons.mpr ⟨lw_p9, List.forall_mem_cons.mpr ⟨lw_p10, List.forall_mem_cons.mpr ⟨lw_p11, List.forall_mem_cons.mpr ⟨lw_p12, List.forall_mem_cons.mpr ⟨lw_p13, List.forall_mem_cons.mpr ⟨lw_p14, List.forall_mem_cons.mpr ⟨lw_p15, fun _ h => absurd h List.not_mem_nil⟩⟩⟩⟩⟩⟩⟩⟩⟩⟩⟩⟩⟩⟩⟩⟩
theorem lw_p16 : lw_okq (⟨"JealousChoir$Stand", "goOn", "(I)V"⟩, 8) := ⟨⟨by decide +kernel, by decide +kernel⟩, List.mem_of_getElem? (i := 72) (by decide +kernel), List.mem_of_getElem? (i := 374) (by decide +kernel), List.mem_of_getElem? (i := 375) (by decide +kernel)⟩
theorem lw_p17 : lw_okq (⟨"JealousChoir$Stand", "nextNoteOf", "(I)I"⟩, 8) := ⟨⟨by decide +kernel, by decide +kernel⟩, List.mem_of_getElem? (i := 72) (by decide +kernel), List.mem_of_getElem? (i := 378) (by decide +kernel), List.mem_of_getElem? (i := 379) (by decide +kernel)⟩
theorem lw_p18 : lw_okq (⟨"JealousChoir$Stand", "richness", "()I"⟩, 8) := ⟨⟨by decide +kernel, by decide +kernel⟩, List.mem_of_getElem? (i := 72) (by decide +kernel), List.mem_of_getElem? (i := 387) (by decide +kernel), List.mem_of_getElem? (i := 388) (by decide +kernel)⟩
theorem lw_p19 : lw_okq (⟨"JealousChoir$Stand", "notesSung", "()I"⟩, 8) := ⟨⟨by decide +kernel, by decide +kernel⟩, List.mem_of_getElem? (i := 72) (by decide +kernel), List.mem_of_getElem? (i := 391) (by decide +kernel), List.mem_of_getElem? (i := 392) (by decide +kernel)⟩
theorem lw_p20 : lw_okq (⟨"JealousChoir$Stand", "bitsOf", "([I)I"⟩, 8) := ⟨⟨by decide +kernel, by decide +kernel⟩, List.mem_of_getElem? (i := 72) (by decide +kernel), List.mem_of_getElem? (i := 395) (by decide +kernel), List.mem_of_getElem? (i := 396) (by decide +kernel)⟩
theorem lw_p21 : lw_okq (⟨"JealousChoir$Stand", "give", "(II)V"⟩, 8) := ⟨⟨by decide +kernel, by decide +kernel⟩, List.mem_of_getElem? (i := 72) (by decide +kernel), List.mem_of_getElem? (i := 409) (by decide +kernel), List.mem_of_getElem? (i := 410) (by decide +kernel)⟩
theorem lw_p22 : lw_okq (⟨"JealousChoir$Stand", "swapSeats", "(II)V"⟩, 8) := ⟨⟨by decide +kernel, by decide +kernel⟩, List.mem_of_getElem? (i := 72) (by decide +kernel), List.mem_of_getElem? (i := 417) (by decide +kernel), List.mem_of_getElem? (i := 418) (by decide +kernel)⟩
theorem lw_p23 : lw_okq (⟨"JealousChoir$Stand", "turnHeldOn", "(I)V"⟩, 8) := ⟨⟨by decide +kernel, by decide +kernel⟩, List.mem_of_getElem? (i := 72) (by decide +kernel), List.mem_of_getElem? (i := 430) (by decide +kernel), List.mem_of_getElem? (i := 431) (by decide +kernel)⟩
theorem lw_p24 : lw_okq (⟨"JealousChoir$ActRow", "giveBack", "(LJealousChoir$Stand;)Z"⟩, 3) := ⟨⟨by decide +kernel, by decide +kernel⟩, List.mem_of_getElem? (i := 117) (by decide +kernel), List.mem_of_getElem? (i := 438) (by decide +kernel), List.mem_of_getElem? (i := 439) (by decide +kernel)⟩
theorem lw_p25 : lw_okq (⟨"JealousChoir$Forecast", "noteBehind", "(II)I"⟩, 4) := ⟨⟨by decide +kernel, by decide +kernel⟩, List.mem_of_getElem? (i := 172) (by decide +kernel), List.mem_of_getElem? (i := 446) (by decide +kernel), List.mem_of_getElem? (i := 447) (by decide +kernel)⟩
theorem lw_p26 : lw_okq (⟨"JealousChoir$Forecast", "richnessBehind", "(I)I"⟩, 4) := ⟨⟨by decide +kernel, by decide +kernel⟩, List.mem_of_getElem? (i := 172) (by decide +kernel), List.mem_of_getElem? (i := 456) (by decide +kernel), List.mem_of_getElem? (i := 457) (by decide +kernel)⟩
theorem lw_p27 : lw_okq (⟨"JealousChoir$Forecast", "firstReturn", "(Z)I"⟩, 4) := ⟨⟨by decide +kernel, by decide +kernel⟩, List.mem_of_getElem? (i := 172) (by decide +kernel), List.mem_of_getElem? (i := 465) (by decide +kernel), List.mem_of_getElem? (i := 466) (by decide +kernel)⟩
theorem lw_p28 : lw_okq (⟨"JealousChoir$Stand", "notesAsNumber", "()I"⟩, 8) := ⟨⟨by decide +kernel, by decide +kernel⟩, List.mem_of_getElem? (i := 72) (by decide +kernel), List.mem_of_getElem? (i := 469) (by decide +kernel), List.mem_of_getElem? (i := 470) (by decide +kernel)⟩
theorem lw_p29 : lw_okq (⟨"JealousChoir$Forecast", "firstOneNote", "()I"⟩, 4) := ⟨⟨by decide +kernel, by decide +kernel⟩, List.mem_of_getElem? (i := 172) (by decide +kernel), List.mem_of_getElem? (i := 477) (by decide +kernel), List.mem_of_getElem? (i := 478) (by decide +kernel)⟩
theorem lw_p30 : lw_okq (⟨"JealousChoir$Forecast", "leastGift", "(IIIZ)I"⟩, 4) := ⟨⟨by decide +kernel, by decide +kernel⟩, List.mem_of_getElem? (i := 172) (by decide +kernel), List.mem_of_getElem? (i := 485) (by decide +kernel), List.mem_of_getElem? (i := 486) (by decide +kernel)⟩
theorem lw_p31 : lw_okq (⟨"JealousChoir$Forecast", "richestChange", "(IZ)I"⟩, 4) := ⟨⟨by decide +kernel, by decide +kernel⟩, List.mem_of_getElem? (i := 172) (by decide +kernel), List.mem_of_getElem? (i := 495) (by decide +kernel), List.mem_of_getElem? (i := 496) (by decide +kernel)⟩
def lw_privs_2 : List (MethodName × Nat) := [(⟨"JealousChoir$Stand", "goOn", "(I)V"⟩, 8), (⟨"JealousChoir$Stand", "nextNoteOf", "(I)I"⟩, 8), (⟨"JealousChoir$Stand", "richness", "()I"⟩, 8), (⟨"JealousChoir$Stand", "notesSung", "()I"⟩, 8), (⟨"JealousChoir$Stand", "bitsOf", "([I)I"⟩, 8), (⟨"JealousChoir$Stand", "give", "(II)V"⟩, 8), (⟨"JealousChoir$Stand", "swapSeats", "(II)V"⟩, 8), (⟨"JealousChoir$Stand", "turnHeldOn", "(I)V"⟩, 8), (⟨"JealousChoir$ActRow", "giveBack", "(LJealousChoir$Stand;)Z"⟩, 3), (⟨"JealousChoir$Forecast", "noteBehind", "(II)I"⟩, 4), (⟨"JealousChoir$Forecast", "richnessBehind", "(I)I"⟩, 4), (⟨"JealousChoir$Forecast", "firstReturn", "(Z)I"⟩, 4), (⟨"JealousChoir$Stand", "notesAsNumber", "()I"⟩, 8), (⟨"JealousChoir$Forecast", "firstOneNote", "()I"⟩, 4), (⟨"JealousChoir$Forecast", "leastGift", "(IIIZ)I"⟩, 4), (⟨"JealousChoir$Forecast", "richestChange", "(IZ)I"⟩, 4)]
theorem lw_r2 : ∀ q ∈ lw_privs_2, lw_okq q := List.forall_mem_cons.mpr ⟨lw_p16, List.forall_mem_cons.mpr ⟨lw_p17, List.forall_mem_cons.mpr ⟨lw_p18, List.forall_mem_cons.mpr ⟨lw_p19, List.forall_mem_cons.mpr ⟨lw_p20, List.forall_mem_cons.mpr ⟨lw_p21, List.forall_mem_cons.mpr ⟨lw_p22, List.forall_mem_cons.mpr ⟨lw_p23, List.forall_mem_cons.mpr ⟨lw_p24, List.forall_mem_cons.mpr ⟨lw_p25, List.forall_mem_cons.mpr ⟨lw_p26, List.forall_mem_cons.mpr ⟨lw_p27, List.forall_mem_cons.mpr ⟨lw_p28, List.forall_mem_cons.mpr ⟨lw_p29, List.forall_mem_cons.mpr ⟨lw_p30, List.forall_mem_cons.mpr ⟨lw_p31, fun _ h => absurd h List.not_mem_nil⟩⟩⟩⟩⟩⟩⟩⟩⟩⟩⟩⟩⟩⟩⟩⟩
theorem lw_p32 : lw_okq (⟨"JealousChoir$Forecast", "firstWrongDoing", "(IJ)I"⟩, 4) := ⟨⟨by decide +kernel, by decide +kernel⟩, List.mem_of_getElem? (i := 172) (by decide +kernel), List.mem_of_getElem? (i := 509) (by decide +kernel), List.mem_of_getElem? (i := 510) (by decide +kernel)⟩
theorem lw_p33 : lw_okq (⟨"JealousChoir$Forecast", "canBe", "(III)Z"⟩, 4) := ⟨⟨by decide +kernel, by decide +kernel⟩, List.mem_of_getElem? (i := 172) (by decide +kernel), List.mem_of_getElem? (i := 515) (by decide +kernel), List.mem_of_getElem? (i := 516) (by decide +kernel)⟩
theorem lw_p34 : lw_okq (⟨"JealousChoir$Forecast", "happen", "(III)V"⟩, 4) := ⟨⟨by decide +kernel, by decide +kernel⟩, List.mem_of_getElem? (i := 172) (by decide +kernel), List.mem_of_getElem? (i := 521) (by decide +kernel), List.mem_of_getElem? (i := 522) (by decide +kernel)⟩
theorem lw_p35 : lw_okq (⟨"JealousChoir$Hearsay", "put", "(III)Z"⟩, 4) := ⟨⟨by decide +kernel, by decide +kernel⟩, List.mem_of_getElem? (i := 152) (by decide +kernel), List.mem_of_getElem? (i := 530) (by decide +kernel), List.mem_of_getElem? (i := 531) (by decide +kernel)⟩
theorem lw_p36 : lw_okq (⟨"JealousChoir$Forecast", "goodsThatFit", "(ILJealousChoir$Hearsay;)I"⟩, 4) := ⟨⟨by decide +kernel, by decide +kernel⟩, List.mem_of_getElem? (i := 172) (by decide +kernel), List.mem_of_getElem? (i := 542) (by decide +kernel), List.mem_of_getElem? (i := 543) (by decide +kernel)⟩
theorem lw_p37 : lw_okq (⟨"JealousChoir$Forecast", "isAllHeard", "(LJealousChoir$Hearsay;)Z"⟩, 4) := ⟨⟨by decide +kernel, by decide +kernel⟩, List.mem_of_getElem? (i := 172) (by decide +kernel), List.mem_of_getElem? (i := 546) (by decide +kernel), List.mem_of_getElem? (i := 547) (by decide +kernel)⟩
theorem lw_p38 : lw_okq (⟨"JealousChoir$Hearsay", "allowsAt", "(ILJealousChoir$Stand;)Z"⟩, 4) := ⟨⟨by decide +kernel, by decide +kernel⟩, List.mem_of_getElem? (i := 152) (by decide +kernel), List.mem_of_getElem? (i := 550) (by decide +kernel), List.mem_of_getElem? (i := 551) (by decide +kernel)⟩
theorem lw_p39 : lw_okq (⟨"JealousChoir$Chances", "meanGain", "(IZ)I"⟩, 6) := ⟨⟨by decide +kernel, by decide +kernel⟩, List.mem_of_getElem? (i := 191) (by decide +kernel), List.mem_of_getElem? (i := 559) (by decide +kernel), List.mem_of_getElem? (i := 560) (by decide +kernel)⟩
theorem lw_p40 : lw_okq (⟨"JealousChoir$Chances", "richnessOfSome", "(II)I"⟩, 6) := ⟨⟨by decide +kernel, by decide +kernel⟩, List.mem_of_getElem? (i := 191) (by decide +kernel), List.mem_of_getElem? (i := 564) (by decide +kernel), List.mem_of_getElem? (i := 565) (by decide +kernel)⟩
theorem lw_p41 : lw_okq (⟨"JealousChoir$Chances", "ordersOf", "(I)I"⟩, 6) := ⟨⟨by decide +kernel, by decide +kernel⟩, List.mem_of_getElem? (i := 191) (by decide +kernel), List.mem_of_getElem? (i := 572) (by decide +kernel), List.mem_of_getElem? (i := 573) (by decide +kernel)⟩
theorem lw_p42 : lw_okq (⟨"JealousChoir$Chances", "restingPairs", "(IIZ)I"⟩, 6) := ⟨⟨by decide +kernel, by decide +kernel⟩, List.mem_of_getElem? (i := 191) (by decide +kernel), List.mem_of_getElem? (i := 594) (by decide +kernel), List.mem_of_getElem? (i := 595) (by decide +kernel)⟩
theorem lw_p43 : lw_okq (⟨"JealousChoir$Chances", "giveAndCount", "(IIII)V"⟩, 6) := ⟨⟨by decide +kernel, by decide +kernel⟩, List.mem_of_getElem? (i := 191) (by decide +kernel), List.mem_of_getElem? (i := 598) (by decide +kernel), List.mem_of_getElem? (i := 599) (by decide +kernel)⟩
theorem lw_p44 : lw_okq (⟨"JealousChoir$Stand", "howManySing", "(I)I"⟩, 8) := ⟨⟨by decide +kernel, by decide +kernel⟩, List.mem_of_getElem? (i := 72) (by decide +kernel), List.mem_of_getElem? (i := 603) (by decide +kernel), List.mem_of_getElem? (i := 604) (by decide +kernel)⟩
theorem lw_p45 : lw_okq (⟨"JealousChoir$Chances", "isAtRest", "(II)Z"⟩, 6) := ⟨⟨by decide +kernel, by decide +kernel⟩, List.mem_of_getElem? (i := 191) (by decide +kernel), List.mem_of_getElem? (i := 607) (by decide +kernel), List.mem_of_getElem? (i := 608) (by decide +kernel)⟩
theorem lw_p46 : lw_okq (⟨"JealousChoir$Chances", "chanceOfOneNote", "(IIZ)I"⟩, 6) := ⟨⟨by decide +kernel, by decide +kernel⟩, List.mem_of_getElem? (i := 191) (by decide +kernel), List.mem_of_getElem? (i := 615) (by decide +kernel), List.mem_of_getElem? (i := 616) (by decide +kernel)⟩
theorem lw_p47 : lw_okq (⟨"JealousChoir$Years", "goThrough", "(I)I"⟩, 3) := ⟨⟨by decide +kernel, by decide +kernel⟩, List.mem_of_getElem? (i := 216) (by decide +kernel), List.mem_of_getElem? (i := 630) (by decide +kernel), List.mem_of_getElem? (i := 631) (by decide +kernel)⟩
def lw_privs_3 : List (MethodName × Nat) := [(⟨"JealousChoir$Forecast", "firstWrongDoing", "(IJ)I"⟩, 4), (⟨"JealousChoir$Forecast", "canBe", "(III)Z"⟩, 4), (⟨"JealousChoir$Forecast", "happen", "(III)V"⟩, 4), (⟨"JealousChoir$Hearsay", "put", "(III)Z"⟩, 4), (⟨"JealousChoir$Forecast", "goodsThatFit", "(ILJealousChoir$Hearsay;)I"⟩, 4), (⟨"JealousChoir$Forecast", "isAllHeard", "(LJealousChoir$Hearsay;)Z"⟩, 4), (⟨"JealousChoir$Hearsay", "allowsAt", "(ILJealousChoir$Stand;)Z"⟩, 4), (⟨"JealousChoir$Chances", "meanGain", "(IZ)I"⟩, 6), (⟨"JealousChoir$Chances", "richnessOfSome", "(II)I"⟩, 6), (⟨"JealousChoir$Chances", "ordersOf", "(I)I"⟩, 6), (⟨"JealousChoir$Chances", "restingPairs", "(IIZ)I"⟩, 6), (⟨"JealousChoir$Chances", "giveAndCount", "(IIII)V"⟩, 6), (⟨"JealousChoir$Stand", "howManySing", "(I)I"⟩, 8), (⟨"JealousChoir$Chances", "isAtRest", "(II)Z"⟩, 6), (⟨"JealousChoir$Chances", "chanceOfOneNote", "(IIZ)I"⟩, 6), (⟨"JealousChoir$Years", "goThrough", "(I)I"⟩, 3)]
theorem lw_r3 : ∀ q ∈ lw_privs_3, lw_okq q := List.forall_mem_cons.mpr ⟨lw_p32, List.forall_mem_cons.mpr ⟨lw_p33, List.forall_mem_cons.mpr ⟨lw_p34, List.forall_mem_cons.mpr ⟨lw_p35, List.forall_mem_cons.mpr ⟨lw_p36, List.forall_mem_cons.mpr ⟨lw_p37, List.forall_mem_cons.mpr ⟨lw_p38, List.forall_mem_cons.mpr ⟨lw_p39, List.forall_mem_cons.mpr ⟨lw_p40, List.forall_mem_cons.mpr ⟨lw_p41, List.forall_mem_cons.mpr ⟨lw_p42, List.forall_mem_cons.mpr ⟨lw_p43, List.forall_mem_cons.mpr ⟨lw_p44, List.forall_mem_cons.mpr ⟨lw_p45, List.forall_mem_cons.mpr ⟨lw_p46, List.forall_mem_cons.mpr ⟨lw_p47, fun _ h => absurd h List.not_mem_nil⟩⟩⟩⟩⟩⟩⟩⟩⟩⟩⟩⟩⟩⟩⟩⟩
theorem lw_p48 : lw_okq (⟨"JealousChoir$Years", "happen", "(I)V"⟩, 3) := ⟨⟨by decide +kernel, by decide +kernel⟩, List.mem_of_getElem? (i := 216) (by decide +kernel), List.mem_of_getElem? (i := 638) (by decide +kernel), List.mem_of_getElem? (i := 639) (by decide +kernel)⟩
theorem lw_p49 : lw_okq (⟨"JealousChoir$Shelf", "put", "(ILJealousChoir$Stand;)Z"⟩, 2) := ⟨⟨by decide +kernel, by decide +kernel⟩, List.mem_of_getElem? (i := 137) (by decide +kernel), List.mem_of_getElem? (i := 653) (by decide +kernel), List.mem_of_getElem? (i := 654) (by decide +kernel)⟩
theorem lw_p50 : lw_okq (⟨"JealousChoir$Shelf", "giveBack", "(ILJealousChoir$Stand;)Z"⟩, 2) := ⟨⟨by decide +kernel, by decide +kernel⟩, List.mem_of_getElem? (i := 137) (by decide +kernel), List.mem_of_getElem? (i := 663) (by decide +kernel), List.mem_of_getElem? (i := 664) (by decide +kernel)⟩
theorem lw_p51 : lw_okq (⟨"JealousChoir$Stand", "seatsTaken", "()I"⟩, 8) := ⟨⟨by decide +kernel, by decide +kernel⟩, List.mem_of_getElem? (i := 72) (by decide +kernel), List.mem_of_getElem? (i := 671) (by decide +kernel), List.mem_of_getElem? (i := 672) (by decide +kernel)⟩
theorem lw_p52 : lw_okq (⟨"JealousChoir$Stand", "goodsOfAll", "()I"⟩, 8) := ⟨⟨by decide +kernel, by decide +kernel⟩, List.mem_of_getElem? (i := 72) (by decide +kernel), List.mem_of_getElem? (i := 676) (by decide +kernel), List.mem_of_getElem? (i := 677) (by decide +kernel)⟩
theorem lw_p53 : lw_okq (⟨"JealousChoir$Stand", "envious", "()I"⟩, 8) := ⟨⟨by decide +kernel, by decide +kernel⟩, List.mem_of_getElem? (i := 72) (by decide +kernel), List.mem_of_getElem? (i := 680) (by decide +kernel), List.mem_of_getElem? (i := 681) (by decide +kernel)⟩
theorem lw_p54 : lw_okq (⟨"JealousChoirModel", "readText", "()I"⟩, 25) := ⟨⟨by decide +kernel, by decide +kernel⟩, List.mem_of_getElem? (i := 684) (by decide +kernel), List.mem_of_getElem? (i := 783) (by decide +kernel), List.mem_of_getElem? (i := 784) (by decide +kernel)⟩
theorem lw_p55 : lw_okq (⟨"JealousChoirModel", "readPart", "(I)V"⟩, 25) := ⟨⟨by decide +kernel, by decide +kernel⟩, List.mem_of_getElem? (i := 684) (by decide +kernel), List.mem_of_getElem? (i := 787) (by decide +kernel), List.mem_of_getElem? (i := 788) (by decide +kernel)⟩
theorem lw_p56 : lw_okq (⟨"JealousChoirModel", "figureOf", "(I)I"⟩, 25) := ⟨⟨by decide +kernel, by decide +kernel⟩, List.mem_of_getElem? (i := 684) (by decide +kernel), List.mem_of_getElem? (i := 791) (by decide +kernel), List.mem_of_getElem? (i := 792) (by decide +kernel)⟩
theorem lw_p57 : lw_okq (⟨"JealousChoirModel", "isSinger", "(I)Z"⟩, 25) := ⟨⟨by decide +kernel, by decide +kernel⟩, List.mem_of_getElem? (i := 684) (by decide +kernel), List.mem_of_getElem? (i := 807) (by decide +kernel), List.mem_of_getElem? (i := 808) (by decide +kernel)⟩
theorem lw_p58 : lw_okq (⟨"JealousChoirModel", "seesOf", "(II)I"⟩, 25) := ⟨⟨by decide +kernel, by decide +kernel⟩, List.mem_of_getElem? (i := 684) (by decide +kernel), List.mem_of_getElem? (i := 811) (by decide +kernel), List.mem_of_getElem? (i := 812) (by decide +kernel)⟩
theorem lw_p59 : lw_okq (⟨"JealousChoirModel", "enviesOf", "(II)I"⟩, 25) := ⟨⟨by decide +kernel, by decide +kernel⟩, List.mem_of_getElem? (i := 684) (by decide +kernel), List.mem_of_getElem? (i := 817) (by decide +kernel), List.mem_of_getElem? (i := 818) (by decide +kernel)⟩
theorem lw_p60 : lw_okq (⟨"JealousChoirModel", "kindNow", "(II)I"⟩, 25) := ⟨⟨by decide +kernel, by decide +kernel⟩, List.mem_of_getElem? (i := 684) (by decide +kernel), List.mem_of_getElem? (i := 821) (by decide +kernel), List.mem_of_getElem? (i := 822) (by decide +kernel)⟩
theorem lw_p61 : lw_okq (⟨"JealousChoirModel", "whoAt", "(I)I"⟩, 25) := ⟨⟨by decide +kernel, by decide +kernel⟩, List.mem_of_getElem? (i := 684) (by decide +kernel), List.mem_of_getElem? (i := 830) (by decide +kernel), List.mem_of_getElem? (i := 831) (by decide +kernel)⟩
theorem lw_p62 : lw_okq (⟨"JealousChoirModel", "keepAct", "()V"⟩, 25) := ⟨⟨by decide +kernel, by decide +kernel⟩, List.mem_of_getElem? (i := 684) (by decide +kernel), List.mem_of_getElem? (i := 838) (by decide +kernel), List.mem_of_getElem? (i := 839) (by decide +kernel)⟩
theorem lw_p63 : lw_okq (⟨"JealousChoirModel", "passOn", "(I)V"⟩, 25) := ⟨⟨by decide +kernel, by decide +kernel⟩, List.mem_of_getElem? (i := 684) (by decide +kernel), List.mem_of_getElem? (i := 842) (by decide +kernel), List.mem_of_getElem? (i := 843) (by decide +kernel)⟩
def lw_privs_4 : List (MethodName × Nat) := [(⟨"JealousChoir$Years", "happen", "(I)V"⟩, 3), (⟨"JealousChoir$Shelf", "put", "(ILJealousChoir$Stand;)Z"⟩, 2), (⟨"JealousChoir$Shelf", "giveBack", "(ILJealousChoir$Stand;)Z"⟩, 2), (⟨"JealousChoir$Stand", "seatsTaken", "()I"⟩, 8), (⟨"JealousChoir$Stand", "goodsOfAll", "()I"⟩, 8), (⟨"JealousChoir$Stand", "envious", "()I"⟩, 8), (⟨"JealousChoirModel", "readText", "()I"⟩, 25), (⟨"JealousChoirModel", "readPart", "(I)V"⟩, 25), (⟨"JealousChoirModel", "figureOf", "(I)I"⟩, 25), (⟨"JealousChoirModel", "isSinger", "(I)Z"⟩, 25), (⟨"JealousChoirModel", "seesOf", "(II)I"⟩, 25), (⟨"JealousChoirModel", "enviesOf", "(II)I"⟩, 25), (⟨"JealousChoirModel", "kindNow", "(II)I"⟩, 25), (⟨"JealousChoirModel", "whoAt", "(I)I"⟩, 25), (⟨"JealousChoirModel", "keepAct", "()V"⟩, 25), (⟨"JealousChoirModel", "passOn", "(I)V"⟩, 25)]
theorem lw_r4 : ∀ q ∈ lw_privs_4, lw_okq q := List.forall_mem_cons.mpr ⟨lw_p48, List.forall_mem_cons.mpr ⟨lw_p49, List.forall_mem_cons.mpr ⟨lw_p50, List.forall_mem_cons.mpr ⟨lw_p51, List.forall_mem_cons.mpr ⟨lw_p52, List.forall_mem_cons.mpr ⟨lw_p53, List.forall_mem_cons.mpr ⟨lw_p54, List.forall_mem_cons.mpr ⟨lw_p55, List.forall_mem_cons.mpr ⟨lw_p56, List.forall_mem_cons.mpr ⟨lw_p57, List.forall_mem_cons.mpr ⟨lw_p58, List.forall_mem_cons.mpr ⟨lw_p59, List.forall_mem_cons.mpr ⟨lw_p60, List.forall_mem_cons.mpr ⟨lw_p61, List.forall_mem_cons.mpr ⟨lw_p62, List.forall_mem_cons.mpr ⟨lw_p63, fun _ h => absurd h List.not_mem_nil⟩⟩⟩⟩⟩⟩⟩⟩⟩⟩⟩⟩⟩⟩⟩⟩
theorem lw_p64 : lw_okq (⟨"JealousChoirModel", "noteThen", "(II)I"⟩, 25) := ⟨⟨by decide +kernel, by decide +kernel⟩, List.mem_of_getElem? (i := 684) (by decide +kernel), List.mem_of_getElem? (i := 846) (by decide +kernel), List.mem_of_getElem? (i := 847) (by decide +kernel)⟩
theorem lw_p65 : lw_okq (⟨"JealousChoirModel", "notesOn", "(I)I"⟩, 25) := ⟨⟨by decide +kernel, by decide +kernel⟩, List.mem_of_getElem? (i := 684) (by decide +kernel), List.mem_of_getElem? (i := 850) (by decide +kernel), List.mem_of_getElem? (i := 851) (by decide +kernel)⟩
theorem lw_p66 : lw_okq (⟨"JealousChoirModel", "giveOn", "(III)V"⟩, 25) := ⟨⟨by decide +kernel, by decide +kernel⟩, List.mem_of_getElem? (i := 684) (by decide +kernel), List.mem_of_getElem? (i := 861) (by decide +kernel), List.mem_of_getElem? (i := 862) (by decide +kernel)⟩
theorem lw_p67 : lw_okq (⟨"JealousChoirModel", "changeOn", "(III)V"⟩, 25) := ⟨⟨by decide +kernel, by decide +kernel⟩, List.mem_of_getElem? (i := 684) (by decide +kernel), List.mem_of_getElem? (i := 869) (by decide +kernel), List.mem_of_getElem? (i := 870) (by decide +kernel)⟩
theorem lw_p68 : lw_okq (⟨"JealousChoirModel", "pitchOn", "(I)V"⟩, 25) := ⟨⟨by decide +kernel, by decide +kernel⟩, List.mem_of_getElem? (i := 684) (by decide +kernel), List.mem_of_getElem? (i := 877) (by decide +kernel), List.mem_of_getElem? (i := 878) (by decide +kernel)⟩
theorem lw_p69 : lw_okq (⟨"JealousChoirModel", "layTrial", "()V"⟩, 25) := ⟨⟨by decide +kernel, by decide +kernel⟩, List.mem_of_getElem? (i := 684) (by decide +kernel), List.mem_of_getElem? (i := 894) (by decide +kernel), List.mem_of_getElem? (i := 895) (by decide +kernel)⟩
theorem lw_p70 : lw_okq (⟨"JealousChoirModel", "goOn", "(I)V"⟩, 25) := ⟨⟨by decide +kernel, by decide +kernel⟩, List.mem_of_getElem? (i := 684) (by decide +kernel), List.mem_of_getElem? (i := 898) (by decide +kernel), List.mem_of_getElem? (i := 899) (by decide +kernel)⟩
theorem lw_p71 : lw_okq (⟨"JealousChoirModel", "singAll", "()V"⟩, 25) := ⟨⟨by decide +kernel, by decide +kernel⟩, List.mem_of_getElem? (i := 684) (by decide +kernel), List.mem_of_getElem? (i := 910) (by decide +kernel), List.mem_of_getElem? (i := 911) (by decide +kernel)⟩
theorem lw_p72 : lw_okq (⟨"JealousChoirModel", "leastGift", "(III)I"⟩, 25) := ⟨⟨by decide +kernel, by decide +kernel⟩, List.mem_of_getElem? (i := 684) (by decide +kernel), List.mem_of_getElem? (i := 922) (by decide +kernel), List.mem_of_getElem? (i := 923) (by decide +kernel)⟩
theorem lw_p73 : lw_okq (⟨"JealousChoirModel", "isSung", "(IIIII)Z"⟩, 25) := ⟨⟨by decide +kernel, by decide +kernel⟩, List.mem_of_getElem? (i := 684) (by decide +kernel), List.mem_of_getElem? (i := 926) (by decide +kernel), List.mem_of_getElem? (i := 927) (by decide +kernel)⟩
theorem lw_p74 : lw_okq (⟨"JealousChoirModel", "notesBy", "(III)I"⟩, 25) := ⟨⟨by decide +kernel, by decide +kernel⟩, List.mem_of_getElem? (i := 684) (by decide +kernel), List.mem_of_getElem? (i := 934) (by decide +kernel), List.mem_of_getElem? (i := 935) (by decide +kernel)⟩
theorem lw_p75 : lw_okq (⟨"JealousChoirModel", "tryThing", "(III)Z"⟩, 25) := ⟨⟨by decide +kernel, by decide +kernel⟩, List.mem_of_getElem? (i := 684) (by decide +kernel), List.mem_of_getElem? (i := 947) (by decide +kernel), List.mem_of_getElem? (i := 948) (by decide +kernel)⟩
theorem lw_p76 : lw_okq (⟨"JealousChoirModel", "mayHave", "(II)Z"⟩, 25) := ⟨⟨by decide +kernel, by decide +kernel⟩, List.mem_of_getElem? (i := 684) (by decide +kernel), List.mem_of_getElem? (i := 963) (by decide +kernel), List.mem_of_getElem? (i := 964) (by decide +kernel)⟩
theorem lw_p77 : lw_okq (⟨"JealousChoirModel", "notesOf", "(II)I"⟩, 25) := ⟨⟨by decide +kernel, by decide +kernel⟩, List.mem_of_getElem? (i := 684) (by decide +kernel), List.mem_of_getElem? (i := 974) (by decide +kernel), List.mem_of_getElem? (i := 975) (by decide +kernel)⟩
theorem lw_p78 : lw_okq (⟨"JealousChoirModel", "isRest", "(IIII)Z"⟩, 25) := ⟨⟨by decide +kernel, by decide +kernel⟩, List.mem_of_getElem? (i := 684) (by decide +kernel), List.mem_of_getElem? (i := 985) (by decide +kernel), List.mem_of_getElem? (i := 986) (by decide +kernel)⟩
theorem lw_p79 : lw_okq (⟨"JealousChoirModel", "gain", "(III)I"⟩, 25) := ⟨⟨by decide +kernel, by decide +kernel⟩, List.mem_of_getElem? (i := 684) (by decide +kernel), List.mem_of_getElem? (i := 989) (by decide +kernel), List.mem_of_getElem? (i := 990) (by decide +kernel)⟩
def lw_privs_5 : List (MethodName × Nat) := [(⟨"JealousChoirModel", "noteThen", "(II)I"⟩, 25), (⟨"JealousChoirModel", "notesOn", "(I)I"⟩, 25), (⟨"JealousChoirModel", "giveOn", "(III)V"⟩, 25), (⟨"JealousChoirModel", "changeOn", "(III)V"⟩, 25), (⟨"JealousChoirModel", "pitchOn", "(I)V"⟩, 25), (⟨"JealousChoirModel", "layTrial", "()V"⟩, 25), (⟨"JealousChoirModel", "goOn", "(I)V"⟩, 25), (⟨"JealousChoirModel", "singAll", "()V"⟩, 25), (⟨"JealousChoirModel", "leastGift", "(III)I"⟩, 25), (⟨"JealousChoirModel", "isSung", "(IIIII)Z"⟩, 25), (⟨"JealousChoirModel", "notesBy", "(III)I"⟩, 25), (⟨"JealousChoirModel", "tryThing", "(III)Z"⟩, 25), (⟨"JealousChoirModel", "mayHave", "(II)Z"⟩, 25), (⟨"JealousChoirModel", "notesOf", "(II)I"⟩, 25), (⟨"JealousChoirModel", "isRest", "(IIII)Z"⟩, 25), (⟨"JealousChoirModel", "gain", "(III)I"⟩, 25)]
theorem lw_r5 : ∀ q ∈ lw_privs_5, lw_okq q := List.forall_mem_cons.mpr ⟨lw_p64, List.forall_mem_cons.mpr ⟨lw_p65, List.forall_mem_cons.mpr ⟨lw_p66, List.forall_mem_cons.mpr ⟨lw_p67, List.forall_mem_cons.mpr ⟨lw_p68, List.forall_mem_cons.mpr ⟨lw_p69, List.forall_mem_cons.mpr ⟨lw_p70, List.forall_mem_cons.mpr ⟨lw_p71, List.forall_mem_cons.mpr ⟨lw_p72, List.forall_mem_cons.mpr ⟨lw_p73, List.forall_mem_cons.mpr ⟨lw_p74, List.forall_mem_cons.mpr ⟨lw_p75, List.forall_mem_cons.mpr ⟨lw_p76, List.forall_mem_cons.mpr ⟨lw_p77, List.forall_mem_cons.mpr ⟨lw_p78, List.forall_mem_cons.mpr ⟨lw_p79, fun _ h => absurd h List.not_mem_nil⟩⟩⟩⟩⟩⟩⟩⟩⟩⟩⟩⟩⟩⟩⟩⟩
theorem lw_p80 : lw_okq (⟨"JealousChoirModel", "takenSeats", "()I"⟩, 25) := ⟨⟨by decide +kernel, by decide +kernel⟩, List.mem_of_getElem? (i := 684) (by decide +kernel), List.mem_of_getElem? (i := 1025) (by decide +kernel), List.mem_of_getElem? (i := 1026) (by decide +kernel)⟩
theorem lw_p81 : lw_okq (⟨"JealousChoirModel", "goodsOfAll", "()I"⟩, 25) := ⟨⟨by decide +kernel, by decide +kernel⟩, List.mem_of_getElem? (i := 684) (by decide +kernel), List.mem_of_getElem? (i := 1029) (by decide +kernel), List.mem_of_getElem? (i := 1030) (by decide +kernel)⟩
theorem lw_p82 : lw_okq (⟨"JealousChoirModel", "jealous", "()I"⟩, 25) := ⟨⟨by decide +kernel, by decide +kernel⟩, List.mem_of_getElem? (i := 684) (by decide +kernel), List.mem_of_getElem? (i := 1033) (by decide +kernel), List.mem_of_getElem? (i := 1034) (by decide +kernel)⟩
def lw_privs_6 : List (MethodName × Nat) := [(⟨"JealousChoirModel", "takenSeats", "()I"⟩, 25), (⟨"JealousChoirModel", "goodsOfAll", "()I"⟩, 25), (⟨"JealousChoirModel", "jealous", "()I"⟩, 25)]
theorem lw_r6 : ∀ q ∈ lw_privs_6, lw_okq q := List.forall_mem_cons.mpr ⟨lw_p80, List.forall_mem_cons.mpr ⟨lw_p81, List.forall_mem_cons.mpr ⟨lw_p82, fun _ h => absurd h List.not_mem_nil⟩⟩⟩
def lw_privs : List (MethodName × Nat) := lw_privs_1 ++ (lw_privs_2 ++ (lw_privs_3 ++ (lw_privs_4 ++ (lw_privs_5 ++ (lw_privs_6)))))
def lw_tbl : List Cond := k2_sels lw_privs ++ tables_1
theorem lw_privs_ok : ∀ q ∈ lw_privs, lw_okq q := by
  show ∀ q ∈ lw_privs_1 ++ (lw_privs_2 ++ (lw_privs_3 ++ (lw_privs_4 ++ (lw_privs_5 ++ (lw_privs_6))))), lw_okq q
  exact List.forall_mem_append.mpr ⟨lw_r1, List.forall_mem_append.mpr ⟨lw_r2, List.forall_mem_append.mpr ⟨lw_r3, List.forall_mem_append.mpr ⟨lw_r4, List.forall_mem_append.mpr ⟨lw_r5, lw_r6⟩⟩⟩⟩⟩
end
section
/-! ===== BEGIN words of one list among another's, by their places ===== -/
theorem goodIn_r {big : List Cond} (ws : List Cond) (ps : List Nat) (hp : ws = ps.filterMap (fun i => big[i]?)) (h : ws.all goodWord = true) : GoodIn big ws := by
  intro w hw
  have h1 := List.all_eq_true.mp h w hw
  rw [hp] at hw
  obtain ⟨i, -, hi⟩ := List.mem_filterMap.mp hw
  have hm : w ∈ big := by first | exact List.mem_of_getElem? hi | exact List.getElem?_mem hi
  exact ⟨hm, good_of_word h1⟩
theorem goodIn_app {big a b : List Cond} (ha : GoodIn big a) (hb : GoodIn big b) : GoodIn big (a ++ b) := fun w h => (List.mem_append.mp h).elim (ha w) (hb w)
theorem goodIn_ca {big a b : List Cond} {c : Cond} (ha : GoodIn big (c :: a)) (hb : GoodIn big b) : GoodIn big (c :: (a ++ b)) := fun w h => (List.mem_cons.mp h).elim (fun e => ha w (List.mem_cons.mpr (Or.inl e))) (fun h => (List.mem_append.mp h).elim (fun h => ha w (List.mem_cons.mpr (Or.inr h))) (hb w))
theorem goodIn_sub {big ws : List Cond} (hm : ∀ w ∈ ws, w ∈ big) (h : ws.all goodWord = true) : GoodIn big ws := fun w hw => ⟨hm w hw, good_of_word (List.all_eq_true.mp h w hw)⟩
/-! ===== END ===== -/

/-! ===== BEGIN printed: names, fields, word lists, decode rows ===== -/
def RX0 : String := "JealousChoir$ActRow"
def TX0 : u_T := fun k => match k with
  | 0 => ("JealousChoir$ActRow", "before", "[LJealousChoir$Stand;", true)
  | 1 => ("JealousChoir$ActRow", "next", "I", false)
  | _ => ("JealousChoir$ActRow", "size", "I", false)
def tyX0 : Nat → FieldType := fun k => match k with
  | 0 => .array (.object "JealousChoir$Stand")
  | 1 => .int
  | _ => .int
abbrev wsX00 : List Cond := u_ws RX0 TX0 3
theorem nmX0 : ∀ a, a < 3 → ∀ b, b < 3 → a ≠ b → (TX0 a).2.1 ≠ (TX0 b).2.1 := by decide +kernel
theorem tyX0_ok : ∀ k, k < 3 → parseFieldDescriptor (TX0 k).2.2.1 = some (tyX0 k) := by decide +kernel
abbrev cX0_init : ByteArray := prog_2_method_1_code
def yX0_init : MethodName := ⟨RX0, "<init>", "(LJealousChoir$Roll;)V"⟩
abbrev cX0_forgetAll : ByteArray := prog_2_method_2_code
def yX0_forgetAll : MethodName := ⟨RX0, "forgetAll", "()V"⟩
abbrev cX0_remember : ByteArray := prog_2_method_3_code
def yX0_remember : MethodName := ⟨RX0, "remember", "(LJealousChoir$Stand;)V"⟩
abbrev cX0_giveBack : ByteArray := prog_2_method_4_code
def yX0_giveBack : MethodName := ⟨RX0, "giveBack", "(LJealousChoir$Stand;)Z"⟩
def RX1 : String := "JealousChoir$Chances"
def TX1 : u_T := fun k => match k with
  | 0 => ("JealousChoir$Chances", "roll", "LJealousChoir$Roll;", true)
  | 1 => ("JealousChoir$Chances", "now", "LJealousChoir$Stand;", true)
  | 2 => ("JealousChoir$Chances", "trial", "LJealousChoir$Stand;", true)
  | 3 => ("JealousChoir$Chances", "richnessOf", "[I", true)
  | 4 => ("JealousChoir$Chances", "forOne", "[I", true)
  | _ => ("JealousChoir$Chances", "forOther", "[I", true)
def tyX1 : Nat → FieldType := fun k => match k with
  | 0 => .object "JealousChoir$Roll"
  | 1 => .object "JealousChoir$Stand"
  | 2 => .object "JealousChoir$Stand"
  | 3 => .array .int
  | 4 => .array .int
  | _ => .array .int
abbrev wsX10 : List Cond := u_ws RX1 TX1 6
theorem nmX1 : ∀ a, a < 6 → ∀ b, b < 6 → a ≠ b → (TX1 a).2.1 ≠ (TX1 b).2.1 := by decide +kernel
theorem tyX1_ok : ∀ k, k < 6 → parseFieldDescriptor (TX1 k).2.2.1 = some (tyX1 k) := by decide +kernel
abbrev cX1_init : ByteArray := prog_3_method_1_code
def yX1_init : MethodName := ⟨RX1, "<init>", "(LJealousChoir$Roll;LJealousChoir$Stand;LJealousChoir$Stand;)V"⟩
abbrev cX1_richnessOfSome : ByteArray := prog_3_method_2_code
def yX1_richnessOfSome : MethodName := ⟨RX1, "richnessOfSome", "(II)I"⟩
abbrev cX1_meanGain : ByteArray := prog_3_method_3_code
def yX1_meanGain : MethodName := ⟨RX1, "meanGain", "(IZ)I"⟩
abbrev cX1_ordersOf : ByteArray := prog_3_method_4_code
def yX1_ordersOf : MethodName := ⟨RX1, "ordersOf", "(I)I"⟩
abbrev cX1_factorial : ByteArray := prog_3_method_5_code
def yX1_factorial : MethodName := ⟨RX1, "factorial", "(I)I"⟩
abbrev cX1_restingPairs : ByteArray := prog_3_method_6_code
def yX1_restingPairs : MethodName := ⟨RX1, "restingPairs", "(IIZ)I"⟩
abbrev cX1_giveAndCount : ByteArray := prog_3_method_7_code
def yX1_giveAndCount : MethodName := ⟨RX1, "giveAndCount", "(IIII)V"⟩
abbrev cX1_isAtRest : ByteArray := prog_3_method_8_code
def yX1_isAtRest : MethodName := ⟨RX1, "isAtRest", "(II)Z"⟩
abbrev cX1_chanceOfOneNote : ByteArray := prog_3_method_9_code
def yX1_chanceOfOneNote : MethodName := ⟨RX1, "chanceOfOneNote", "(IIZ)I"⟩
def RX2 : String := "JealousChoir$Forecast"
def TX2 : u_T := fun k => match k with
  | 0 => ("JealousChoir$Forecast", "roll", "LJealousChoir$Roll;", true)
  | 1 => ("JealousChoir$Forecast", "now", "LJealousChoir$Stand;", true)
  | 2 => ("JealousChoir$Forecast", "trial", "LJealousChoir$Stand;", true)
  | _ => ("JealousChoir$Forecast", "sungBehind", "[I", true)
def tyX2 : Nat → FieldType := fun k => match k with
  | 0 => .object "JealousChoir$Roll"
  | 1 => .object "JealousChoir$Stand"
  | 2 => .object "JealousChoir$Stand"
  | _ => .array .int
abbrev wsX20 : List Cond := u_ws RX2 TX2 4
theorem nmX2 : ∀ a, a < 4 → ∀ b, b < 4 → a ≠ b → (TX2 a).2.1 ≠ (TX2 b).2.1 := by decide +kernel
theorem tyX2_ok : ∀ k, k < 4 → parseFieldDescriptor (TX2 k).2.2.1 = some (tyX2 k) := by decide +kernel
abbrev cX2_init : ByteArray := prog_4_method_1_code
def yX2_init : MethodName := ⟨RX2, "<init>", "(LJealousChoir$Roll;LJealousChoir$Stand;LJealousChoir$Stand;)V"⟩
abbrev cX2_noteBehind : ByteArray := prog_4_method_2_code
def yX2_noteBehind : MethodName := ⟨RX2, "noteBehind", "(II)I"⟩
abbrev cX2_richnessBehind : ByteArray := prog_4_method_3_code
def yX2_richnessBehind : MethodName := ⟨RX2, "richnessBehind", "(I)I"⟩
abbrev cX2_firstReturn : ByteArray := prog_4_method_4_code
def yX2_firstReturn : MethodName := ⟨RX2, "firstReturn", "(Z)I"⟩
abbrev cX2_firstOneNote : ByteArray := prog_4_method_5_code
def yX2_firstOneNote : MethodName := ⟨RX2, "firstOneNote", "()I"⟩
abbrev cX2_leastGift : ByteArray := prog_4_method_6_code
def yX2_leastGift : MethodName := ⟨RX2, "leastGift", "(IIIZ)I"⟩
abbrev cX2_richestChange : ByteArray := prog_4_method_7_code
def yX2_richestChange : MethodName := ⟨RX2, "richestChange", "(IZ)I"⟩
abbrev cX2_firstWrongDoing : ByteArray := prog_4_method_8_code
def yX2_firstWrongDoing : MethodName := ⟨RX2, "firstWrongDoing", "(IJ)I"⟩
abbrev cX2_canBe : ByteArray := prog_4_method_9_code
def yX2_canBe : MethodName := ⟨RX2, "canBe", "(III)Z"⟩
abbrev cX2_happen : ByteArray := prog_4_method_10_code
def yX2_happen : MethodName := ⟨RX2, "happen", "(III)V"⟩
abbrev cX2_goodsThatFit : ByteArray := prog_4_method_11_code
def yX2_goodsThatFit : MethodName := ⟨RX2, "goodsThatFit", "(ILJealousChoir$Hearsay;)I"⟩
abbrev cX2_isAllHeard : ByteArray := prog_4_method_12_code
def yX2_isAllHeard : MethodName := ⟨RX2, "isAllHeard", "(LJealousChoir$Hearsay;)Z"⟩
def RX3 : String := "JealousChoir$Hearsay"
def TX3 : u_T := fun k => match k with
  | 0 => ("JealousChoir$Hearsay", "singers", "[I", true)
  | 1 => ("JealousChoir$Hearsay", "times", "[I", true)
  | 2 => ("JealousChoir$Hearsay", "sung", "[I", true)
  | _ => ("JealousChoir$Hearsay", "size", "I", false)
def tyX3 : Nat → FieldType := fun k => match k with
  | 0 => .array .int
  | 1 => .array .int
  | 2 => .array .int
  | _ => .int
abbrev wsX30 : List Cond := u_ws RX3 TX3 4
theorem nmX3 : ∀ a, a < 4 → ∀ b, b < 4 → a ≠ b → (TX3 a).2.1 ≠ (TX3 b).2.1 := by decide +kernel
theorem tyX3_ok : ∀ k, k < 4 → parseFieldDescriptor (TX3 k).2.2.1 = some (tyX3 k) := by decide +kernel
abbrev cX3_init : ByteArray := prog_5_method_1_code
def yX3_init : MethodName := ⟨RX3, "<init>", "()V"⟩
abbrev cX3_put : ByteArray := prog_5_method_2_code
def yX3_put : MethodName := ⟨RX3, "put", "(III)Z"⟩
abbrev cX3_allowsAt : ByteArray := prog_5_method_3_code
def yX3_allowsAt : MethodName := ⟨RX3, "allowsAt", "(ILJealousChoir$Stand;)Z"⟩
def RX4 : String := "JealousChoir$Roll"
def TX4 : u_T := fun k => match k with
  | 0 => ("JealousChoir$Roll", "voices", "[I", true)
  | 1 => ("JealousChoir$Roll", "ranges", "[I", true)
  | 2 => ("JealousChoir$Roll", "kinds", "[I", true)
  | _ => ("JealousChoir$Roll", "size", "I", false)
def tyX4 : Nat → FieldType := fun k => match k with
  | 0 => .array .int
  | 1 => .array .int
  | 2 => .array .int
  | _ => .int
abbrev wsX40 : List Cond := u_ws RX4 TX4 4
theorem nmX4 : ∀ a, a < 4 → ∀ b, b < 4 → a ≠ b → (TX4 a).2.1 ≠ (TX4 b).2.1 := by decide +kernel
theorem tyX4_ok : ∀ k, k < 4 → parseFieldDescriptor (TX4 k).2.2.1 = some (tyX4 k) := by decide +kernel
abbrev cX4_init : ByteArray := prog_6_method_1_code
def yX4_init : MethodName := ⟨RX4, "<init>", "()V"⟩
abbrev cX4_everybody : ByteArray := prog_6_method_2_code
def yX4_everybody : MethodName := ⟨RX4, "everybody", "()I"⟩
def RX5 : String := "JealousChoir$Script"
def TX5 : u_T := fun k => match k with
  | 0 => ("JealousChoir$Script", "letters", "[I", true)
  | _ => ("JealousChoir$Script", "length", "I", false)
def tyX5 : Nat → FieldType := fun k => match k with
  | 0 => .array .int
  | _ => .int
abbrev wsX50 : List Cond := u_ws RX5 TX5 2
theorem nmX5 : ∀ a, a < 2 → ∀ b, b < 2 → a ≠ b → (TX5 a).2.1 ≠ (TX5 b).2.1 := by decide +kernel
theorem tyX5_ok : ∀ k, k < 2 → parseFieldDescriptor (TX5 k).2.2.1 = some (tyX5 k) := by decide +kernel
abbrev cX5_init : ByteArray := prog_7_method_1_code
def yX5_init : MethodName := ⟨RX5, "<init>", "()V"⟩
abbrev cX5_put : ByteArray := prog_7_method_2_code
def yX5_put : MethodName := ⟨RX5, "put", "(I)Z"⟩
abbrev cX5_firstFault : ByteArray := prog_7_method_3_code
def yX5_firstFault : MethodName := ⟨RX5, "firstFault", "()I"⟩
abbrev cX5_part : ByteArray := prog_7_method_4_code
def yX5_part : MethodName := ⟨RX5, "part", "(I)I"⟩
abbrev cX5_canStand : ByteArray := prog_7_method_5_code
def yX5_canStand : MethodName := ⟨RX5, "canStand", "(III)Z"⟩
abbrev cX5_tellTo : ByteArray := prog_7_method_6_code
def yX5_tellTo : MethodName := ⟨RX5, "tellTo", "(LJealousChoir$Roll;LJealousChoir$Stand;)V"⟩
def RX6 : String := "JealousChoir$Shelf"
def TX6 : u_T := fun k => match k with
  | 0 => ("JealousChoir$Shelf", "kept", "[LJealousChoir$Stand;", true)
  | _ => ("JealousChoir$Shelf", "filled", "I", false)
def tyX6 : Nat → FieldType := fun k => match k with
  | 0 => .array (.object "JealousChoir$Stand")
  | _ => .int
abbrev wsX60 : List Cond := u_ws RX6 TX6 2
theorem nmX6 : ∀ a, a < 2 → ∀ b, b < 2 → a ≠ b → (TX6 a).2.1 ≠ (TX6 b).2.1 := by decide +kernel
theorem tyX6_ok : ∀ k, k < 2 → parseFieldDescriptor (TX6 k).2.2.1 = some (tyX6 k) := by decide +kernel
abbrev cX6_init : ByteArray := prog_8_method_1_code
def yX6_init : MethodName := ⟨RX6, "<init>", "(LJealousChoir$Roll;)V"⟩
abbrev cX6_forgetAll : ByteArray := prog_8_method_2_code
def yX6_forgetAll : MethodName := ⟨RX6, "forgetAll", "()V"⟩
abbrev cX6_put : ByteArray := prog_8_method_3_code
def yX6_put : MethodName := ⟨RX6, "put", "(ILJealousChoir$Stand;)Z"⟩
abbrev cX6_giveBack : ByteArray := prog_8_method_4_code
def yX6_giveBack : MethodName := ⟨RX6, "giveBack", "(ILJealousChoir$Stand;)Z"⟩
def RX7 : String := "JealousChoir$Stand"
def TX7 : u_T := fun k => match k with
  | 0 => ("JealousChoir$Stand", "roll", "LJealousChoir$Roll;", true)
  | 1 => ("JealousChoir$Stand", "seats", "[I", true)
  | 2 => ("JealousChoir$Stand", "goods", "[I", true)
  | 3 => ("JealousChoir$Stand", "notes", "[I", true)
  | 4 => ("JealousChoir$Stand", "nextNotes", "[I", true)
  | 5 => ("JealousChoir$Stand", "there", "I", false)
  | 6 => ("JealousChoir$Stand", "heldOn", "I", false)
  | _ => ("JealousChoir$Stand", "bars", "I", false)
def tyX7 : Nat → FieldType := fun k => match k with
  | 0 => .object "JealousChoir$Roll"
  | 1 => .array .int
  | 2 => .array .int
  | 3 => .array .int
  | 4 => .array .int
  | 5 => .int
  | 6 => .int
  | _ => .int
abbrev wsX70 : List Cond := u_ws RX7 TX7 8
theorem nmX7 : ∀ a, a < 8 → ∀ b, b < 8 → a ≠ b → (TX7 a).2.1 ≠ (TX7 b).2.1 := by decide +kernel
theorem tyX7_ok : ∀ k, k < 8 → parseFieldDescriptor (TX7 k).2.2.1 = some (tyX7 k) := by decide +kernel
abbrev cX7_init : ByteArray := prog_9_method_1_code
def yX7_init : MethodName := ⟨RX7, "<init>", "(LJealousChoir$Roll;)V"⟩
abbrev cX7_copyFrom : ByteArray := prog_9_method_2_code
def yX7_copyFrom : MethodName := ⟨RX7, "copyFrom", "(LJealousChoir$Stand;)V"⟩
abbrev cX7_isThere : ByteArray := prog_9_method_3_code
def yX7_isThere : MethodName := ⟨RX7, "isThere", "(I)Z"⟩
abbrev cX7_isHeldOn : ByteArray := prog_9_method_4_code
def yX7_isHeldOn : MethodName := ⟨RX7, "isHeldOn", "(I)Z"⟩
abbrev cX7_isHeld : ByteArray := prog_9_method_5_code
def yX7_isHeld : MethodName := ⟨RX7, "isHeld", "(I)Z"⟩
abbrev cX7_isSeen : ByteArray := prog_9_method_6_code
def yX7_isSeen : MethodName := ⟨RX7, "isSeen", "(II)Z"⟩
abbrev cX7_seenBy : ByteArray := prog_9_method_7_code
def yX7_seenBy : MethodName := ⟨RX7, "seenBy", "(I)I"⟩
abbrev cX7_enviedBy : ByteArray := prog_9_method_8_code
def yX7_enviedBy : MethodName := ⟨RX7, "enviedBy", "(I)I"⟩
abbrev cX7_nextNoteOf : ByteArray := prog_9_method_9_code
def yX7_nextNoteOf : MethodName := ⟨RX7, "nextNoteOf", "(I)I"⟩
abbrev cX7_goOn : ByteArray := prog_9_method_10_code
def yX7_goOn : MethodName := ⟨RX7, "goOn", "(I)V"⟩
abbrev cX7_give : ByteArray := prog_9_method_11_code
def yX7_give : MethodName := ⟨RX7, "give", "(II)V"⟩
abbrev cX7_swapSeats : ByteArray := prog_9_method_12_code
def yX7_swapSeats : MethodName := ⟨RX7, "swapSeats", "(II)V"⟩
abbrev cX7_takeVoices : ByteArray := prog_9_method_13_code
def yX7_takeVoices : MethodName := ⟨RX7, "takeVoices", "()V"⟩
abbrev cX7_turnHeldOn : ByteArray := prog_9_method_14_code
def yX7_turnHeldOn : MethodName := ⟨RX7, "turnHeldOn", "(I)V"⟩
abbrev cX7_whoIsAt : ByteArray := prog_9_method_15_code
def yX7_whoIsAt : MethodName := ⟨RX7, "whoIsAt", "(I)I"⟩
abbrev cX7_seatsTaken : ByteArray := prog_9_method_16_code
def yX7_seatsTaken : MethodName := ⟨RX7, "seatsTaken", "()I"⟩
abbrev cX7_notesSung : ByteArray := prog_9_method_17_code
def yX7_notesSung : MethodName := ⟨RX7, "notesSung", "()I"⟩
abbrev cX7_bitsOf : ByteArray := prog_9_method_18_code
def yX7_bitsOf : MethodName := ⟨RX7, "bitsOf", "([I)I"⟩
abbrev cX7_richness : ByteArray := prog_9_method_19_code
def yX7_richness : MethodName := ⟨RX7, "richness", "()I"⟩
abbrev cX7_howManySing : ByteArray := prog_9_method_20_code
def yX7_howManySing : MethodName := ⟨RX7, "howManySing", "(I)I"⟩
abbrev cX7_goodsOfAll : ByteArray := prog_9_method_21_code
def yX7_goodsOfAll : MethodName := ⟨RX7, "goodsOfAll", "()I"⟩
abbrev cX7_envious : ByteArray := prog_9_method_22_code
def yX7_envious : MethodName := ⟨RX7, "envious", "()I"⟩
abbrev cX7_notesAsNumber : ByteArray := prog_9_method_23_code
def yX7_notesAsNumber : MethodName := ⟨RX7, "notesAsNumber", "()I"⟩
def RX8 : String := "JealousChoir$Years"
def TX8 : u_T := fun k => match k with
  | 0 => ("JealousChoir$Years", "now", "LJealousChoir$Stand;", true)
  | 1 => ("JealousChoir$Years", "trial", "LJealousChoir$Stand;", true)
  | _ => ("JealousChoir$Years", "x", "J", false)
def tyX8 : Nat → FieldType := fun k => match k with
  | 0 => .object "JealousChoir$Stand"
  | 1 => .object "JealousChoir$Stand"
  | _ => .long
abbrev wsX80 : List Cond := u_ws RX8 TX8 3
theorem nmX8 : ∀ a, a < 3 → ∀ b, b < 3 → a ≠ b → (TX8 a).2.1 ≠ (TX8 b).2.1 := by decide +kernel
theorem tyX8_ok : ∀ k, k < 3 → parseFieldDescriptor (TX8 k).2.2.1 = some (tyX8 k) := by decide +kernel
abbrev cX8_init : ByteArray := prog_10_method_1_code
def yX8_init : MethodName := ⟨RX8, "<init>", "(LJealousChoir$Stand;LJealousChoir$Stand;)V"⟩
abbrev cX8_goThrough : ByteArray := prog_10_method_2_code
def yX8_goThrough : MethodName := ⟨RX8, "goThrough", "(I)I"⟩
abbrev cX8_happen : ByteArray := prog_10_method_3_code
def yX8_happen : MethodName := ⟨RX8, "happen", "(I)V"⟩
def RX9 : String := "JealousChoir"
def TX9 : u_T := fun k => match k with
  | 0 => ("JealousChoir", "script", "LJealousChoir$Script;", true)
  | 1 => ("JealousChoir", "roll", "LJealousChoir$Roll;", true)
  | 2 => ("JealousChoir", "now", "LJealousChoir$Stand;", true)
  | 3 => ("JealousChoir", "trial", "LJealousChoir$Stand;", true)
  | 4 => ("JealousChoir", "acts", "LJealousChoir$ActRow;", true)
  | 5 => ("JealousChoir", "shelf", "LJealousChoir$Shelf;", true)
  | 6 => ("JealousChoir", "hearsay", "LJealousChoir$Hearsay;", true)
  | 7 => ("JealousChoir", "forecast", "LJealousChoir$Forecast;", true)
  | 8 => ("JealousChoir", "chances", "LJealousChoir$Chances;", true)
  | _ => ("JealousChoir", "ahead", "LJealousChoir$Years;", true)
def tyX9 : Nat → FieldType := fun k => match k with
  | 0 => .object "JealousChoir$Script"
  | 1 => .object "JealousChoir$Roll"
  | 2 => .object "JealousChoir$Stand"
  | 3 => .object "JealousChoir$Stand"
  | 4 => .object "JealousChoir$ActRow"
  | 5 => .object "JealousChoir$Shelf"
  | 6 => .object "JealousChoir$Hearsay"
  | 7 => .object "JealousChoir$Forecast"
  | 8 => .object "JealousChoir$Chances"
  | _ => .object "JealousChoir$Years"
abbrev wsX90 : List Cond := u_ws RX9 TX9 10
theorem nmX9 : ∀ a, a < 10 → ∀ b, b < 10 → a ≠ b → (TX9 a).2.1 ≠ (TX9 b).2.1 := by decide +kernel
theorem tyX9_ok : ∀ k, k < 10 → parseFieldDescriptor (TX9 k).2.2.1 = some (tyX9 k) := by decide +kernel
abbrev cX9_init : ByteArray := prog_1_method_1_code
def yX9_init : MethodName := ⟨RX9, "<init>", "()V"⟩
abbrev cX9_write : ByteArray := prog_1_method_2_code
def yX9_write : MethodName := ⟨RX9, "write", "(I)I"⟩
abbrev cX9_wipe : ByteArray := prog_1_method_3_code
def yX9_wipe : MethodName := ⟨RX9, "wipe", "()I"⟩
abbrev cX9_fault : ByteArray := prog_1_method_4_code
def yX9_fault : MethodName := ⟨RX9, "fault", "()I"⟩
abbrev cX9_choir : ByteArray := prog_1_method_5_code
def yX9_choir : MethodName := ⟨RX9, "choir", "()I"⟩
abbrev cX9_singer : ByteArray := prog_1_method_6_code
def yX9_singer : MethodName := ⟨RX9, "singer", "(II)I"⟩
abbrev cX9_seat : ByteArray := prog_1_method_7_code
def yX9_seat : MethodName := ⟨RX9, "seat", "(I)I"⟩
abbrev cX9_bar : ByteArray := prog_1_method_8_code
def yX9_bar : MethodName := ⟨RX9, "bar", "()I"⟩
abbrev cX9_gift : ByteArray := prog_1_method_9_code
def yX9_gift : MethodName := ⟨RX9, "gift", "(II)I"⟩
abbrev cX9_change : ByteArray := prog_1_method_10_code
def yX9_change : MethodName := ⟨RX9, "change", "(II)I"⟩
abbrev cX9_pitch : ByteArray := prog_1_method_11_code
def yX9_pitch : MethodName := ⟨RX9, "pitch", "()I"⟩
abbrev cX9_hold : ByteArray := prog_1_method_12_code
def yX9_hold : MethodName := ⟨RX9, "hold", "(I)I"⟩
abbrev cX9_undo : ByteArray := prog_1_method_13_code
def yX9_undo : MethodName := ⟨RX9, "undo", "()I"⟩
abbrev cX9_sings : ByteArray := prog_1_method_14_code
def yX9_sings : MethodName := ⟨RX9, "sings", "(II)I"⟩
abbrev cX9_notes : ByteArray := prog_1_method_15_code
def yX9_notes : MethodName := ⟨RX9, "notes", "(I)I"⟩
abbrev cX9_round : ByteArray := prog_1_method_16_code
def yX9_round : MethodName := ⟨RX9, "round", "(I)I"⟩
abbrev cX9_unison : ByteArray := prog_1_method_17_code
def yX9_unison : MethodName := ⟨RX9, "unison", "()I"⟩
abbrev cX9_gets : ByteArray := prog_1_method_18_code
def yX9_gets : MethodName := ⟨RX9, "gets", "(IIII)I"⟩
abbrev cX9_best : ByteArray := prog_1_method_19_code
def yX9_best : MethodName := ⟨RX9, "best", "(II)I"⟩
abbrev cX9_judge : ByteArray := prog_1_method_20_code
def yX9_judge : MethodName := ⟨RX9, "judge", "(IJ)I"⟩
abbrev cX9_hear : ByteArray := prog_1_method_21_code
def yX9_hear : MethodName := ⟨RX9, "hear", "(III)I"⟩
abbrev cX9_unhear : ByteArray := prog_1_method_22_code
def yX9_unhear : MethodName := ⟨RX9, "unhear", "()I"⟩
abbrev cX9_had : ByteArray := prog_1_method_23_code
def yX9_had : MethodName := ⟨RX9, "had", "(I)I"⟩
abbrev cX9_share : ByteArray := prog_1_method_24_code
def yX9_share : MethodName := ⟨RX9, "share", "(IZ)I"⟩
abbrev cX9_rests : ByteArray := prog_1_method_25_code
def yX9_rests : MethodName := ⟨RX9, "rests", "(III)I"⟩
abbrev cX9_hoarse : ByteArray := prog_1_method_26_code
def yX9_hoarse : MethodName := ⟨RX9, "hoarse", "(IIZ)I"⟩
abbrev cX9_seed : ByteArray := prog_1_method_27_code
def yX9_seed : MethodName := ⟨RX9, "seed", "(J)J"⟩
abbrev cX9_years : ByteArray := prog_1_method_28_code
def yX9_years : MethodName := ⟨RX9, "years", "(I)I"⟩
abbrev cX9_keep : ByteArray := prog_1_method_29_code
def yX9_keep : MethodName := ⟨RX9, "keep", "(I)I"⟩
abbrev cX9_again : ByteArray := prog_1_method_30_code
def yX9_again : MethodName := ⟨RX9, "again", "(I)I"⟩
abbrev cX9_count : ByteArray := prog_1_method_31_code
def yX9_count : MethodName := ⟨RX9, "count", "(I)I"⟩
abbrev cX9_isWithin : ByteArray := prog_1_method_32_code
def yX9_isWithin : MethodName := ⟨RX9, "isWithin", "(III)Z"⟩
abbrev cX9_withoutDoings : ByteArray := prog_1_method_33_code
def yX9_withoutDoings : MethodName := ⟨RX9, "withoutDoings", "(JI)J"⟩
abbrev cX9_sideOfFraction : ByteArray := prog_1_method_34_code
def yX9_sideOfFraction : MethodName := ⟨RX9, "sideOfFraction", "(IIZ)I"⟩
abbrev cX9_greatestDivisor : ByteArray := prog_1_method_35_code
def yX9_greatestDivisor : MethodName := ⟨RX9, "greatestDivisor", "(II)I"⟩
abbrev cX9_power : ByteArray := prog_1_method_36_code
def yX9_power : MethodName := ⟨RX9, "power", "(II)I"⟩
def RX10 : String := "JealousChoirModel"
def TX10 : u_T := fun k => match k with
  | 0 => ("JealousChoirModel", "singers", "I", false)
  | 1 => ("JealousChoirModel", "voice", "[I", true)
  | 2 => ("JealousChoirModel", "range", "[I", true)
  | 3 => ("JealousChoirModel", "kind", "[I", true)
  | 4 => ("JealousChoirModel", "now", "[I", true)
  | 5 => ("JealousChoirModel", "readSinger", "[I", true)
  | 6 => ("JealousChoirModel", "readSingers", "I", false)
  | 7 => ("JealousChoirModel", "readSeats", "I", false)
  | 8 => ("JealousChoirModel", "text", "[I", true)
  | 9 => ("JealousChoirModel", "length", "I", false)
  | 10 => ("JealousChoirModel", "at", "I", false)
  | 11 => ("JealousChoirModel", "faultAt", "I", false)
  | 12 => ("JealousChoirModel", "there", "I", false)
  | 13 => ("JealousChoirModel", "then", "[I", true)
  | 14 => ("JealousChoirModel", "acts", "I", false)
  | 15 => ("JealousChoirModel", "next", "I", false)
  | 16 => ("JealousChoirModel", "row", "[I", true)
  | 17 => ("JealousChoirModel", "sung", "[I", true)
  | 18 => ("JealousChoirModel", "heard", "I", false)
  | 19 => ("JealousChoirModel", "heardOf", "[I", true)
  | 20 => ("JealousChoirModel", "heardBars", "[I", true)
  | 21 => ("JealousChoirModel", "heardNote", "[I", true)
  | 22 => ("JealousChoirModel", "seed", "J", false)
  | 23 => ("JealousChoirModel", "isKept", "[Z", true)
  | _ => ("JealousChoirModel", "kept", "[I", true)
def tyX10 : Nat → FieldType := fun k => match k with
  | 0 => .int
  | 1 => .array .int
  | 2 => .array .int
  | 3 => .array .int
  | 4 => .array .int
  | 5 => .array .int
  | 6 => .int
  | 7 => .int
  | 8 => .array .int
  | 9 => .int
  | 10 => .int
  | 11 => .int
  | 12 => .int
  | 13 => .array .int
  | 14 => .int
  | 15 => .int
  | 16 => .array .int
  | 17 => .array .int
  | 18 => .int
  | 19 => .array .int
  | 20 => .array .int
  | 21 => .array .int
  | 22 => .long
  | 23 => .array .boolean
  | _ => .array .int
abbrev wsX100 : List Cond := u_ws RX10 TX10 25
theorem nmX10 : ∀ a, a < 25 → ∀ b, b < 25 → a ≠ b → (TX10 a).2.1 ≠ (TX10 b).2.1 := by decide +kernel
theorem tyX10_ok : ∀ k, k < 25 → parseFieldDescriptor (TX10 k).2.2.1 = some (tyX10 k) := by decide +kernel
abbrev cX10_init : ByteArray := prog_12_method_1_code
def yX10_init : MethodName := ⟨RX10, "<init>", "()V"⟩
abbrev cX10_in : ByteArray := prog_12_method_3_code
def yX10_in : MethodName := ⟨RX10, "in", "(JJJ)Z"⟩
abbrev cX10_has : ByteArray := prog_12_method_4_code
def yX10_has : MethodName := ⟨RX10, "has", "(II)Z"⟩
abbrev cX10_ones : ByteArray := prog_12_method_5_code
def yX10_ones : MethodName := ⟨RX10, "ones", "(I)I"⟩
abbrev cX10_write : ByteArray := prog_12_method_6_code
def yX10_write : MethodName := ⟨RX10, "write", "(I)I"⟩
abbrev cX10_wipe : ByteArray := prog_12_method_7_code
def yX10_wipe : MethodName := ⟨RX10, "wipe", "()I"⟩
abbrev cX10_figureOf : ByteArray := prog_12_method_8_code
def yX10_figureOf : MethodName := ⟨RX10, "figureOf", "(I)I"⟩
abbrev cX10_readText : ByteArray := prog_12_method_9_code
def yX10_readText : MethodName := ⟨RX10, "readText", "()I"⟩
abbrev cX10_readPart : ByteArray := prog_12_method_10_code
def yX10_readPart : MethodName := ⟨RX10, "readPart", "(I)V"⟩
abbrev cX10_fault : ByteArray := prog_12_method_11_code
def yX10_fault : MethodName := ⟨RX10, "fault", "()I"⟩
abbrev cX10_choir : ByteArray := prog_12_method_12_code
def yX10_choir : MethodName := ⟨RX10, "choir", "()I"⟩
abbrev cX10_isSinger : ByteArray := prog_12_method_13_code
def yX10_isSinger : MethodName := ⟨RX10, "isSinger", "(I)Z"⟩
abbrev cX10_seesOf : ByteArray := prog_12_method_14_code
def yX10_seesOf : MethodName := ⟨RX10, "seesOf", "(II)I"⟩
abbrev cX10_kindNow : ByteArray := prog_12_method_15_code
def yX10_kindNow : MethodName := ⟨RX10, "kindNow", "(II)I"⟩
abbrev cX10_enviesOf : ByteArray := prog_12_method_16_code
def yX10_enviesOf : MethodName := ⟨RX10, "enviesOf", "(II)I"⟩
abbrev cX10_noteThen : ByteArray := prog_12_method_17_code
def yX10_noteThen : MethodName := ⟨RX10, "noteThen", "(II)I"⟩
abbrev cX10_passOn : ByteArray := prog_12_method_18_code
def yX10_passOn : MethodName := ⟨RX10, "passOn", "(I)V"⟩
abbrev cX10_notesOn : ByteArray := prog_12_method_19_code
def yX10_notesOn : MethodName := ⟨RX10, "notesOn", "(I)I"⟩
abbrev cX10_pitchOn : ByteArray := prog_12_method_20_code
def yX10_pitchOn : MethodName := ⟨RX10, "pitchOn", "(I)V"⟩
abbrev cX10_singer : ByteArray := prog_12_method_21_code
def yX10_singer : MethodName := ⟨RX10, "singer", "(II)I"⟩
abbrev cX10_whoAt : ByteArray := prog_12_method_22_code
def yX10_whoAt : MethodName := ⟨RX10, "whoAt", "(I)I"⟩
abbrev cX10_seat : ByteArray := prog_12_method_23_code
def yX10_seat : MethodName := ⟨RX10, "seat", "(I)I"⟩
abbrev cX10_keepAct : ByteArray := prog_12_method_24_code
def yX10_keepAct : MethodName := ⟨RX10, "keepAct", "()V"⟩
abbrev cX10_bar : ByteArray := prog_12_method_25_code
def yX10_bar : MethodName := ⟨RX10, "bar", "()I"⟩
abbrev cX10_giveOn : ByteArray := prog_12_method_26_code
def yX10_giveOn : MethodName := ⟨RX10, "giveOn", "(III)V"⟩
abbrev cX10_gift : ByteArray := prog_12_method_27_code
def yX10_gift : MethodName := ⟨RX10, "gift", "(II)I"⟩
abbrev cX10_changeOn : ByteArray := prog_12_method_28_code
def yX10_changeOn : MethodName := ⟨RX10, "changeOn", "(III)V"⟩
abbrev cX10_change : ByteArray := prog_12_method_29_code
def yX10_change : MethodName := ⟨RX10, "change", "(II)I"⟩
abbrev cX10_pitch : ByteArray := prog_12_method_30_code
def yX10_pitch : MethodName := ⟨RX10, "pitch", "()I"⟩
abbrev cX10_hold : ByteArray := prog_12_method_31_code
def yX10_hold : MethodName := ⟨RX10, "hold", "(I)I"⟩
abbrev cX10_undo : ByteArray := prog_12_method_32_code
def yX10_undo : MethodName := ⟨RX10, "undo", "()I"⟩
abbrev cX10_layTrial : ByteArray := prog_12_method_33_code
def yX10_layTrial : MethodName := ⟨RX10, "layTrial", "()V"⟩
abbrev cX10_goOn : ByteArray := prog_12_method_34_code
def yX10_goOn : MethodName := ⟨RX10, "goOn", "(I)V"⟩
abbrev cX10_sings : ByteArray := prog_12_method_35_code
def yX10_sings : MethodName := ⟨RX10, "sings", "(II)I"⟩
abbrev cX10_notes : ByteArray := prog_12_method_36_code
def yX10_notes : MethodName := ⟨RX10, "notes", "(I)I"⟩
abbrev cX10_singAll : ByteArray := prog_12_method_37_code
def yX10_singAll : MethodName := ⟨RX10, "singAll", "()V"⟩
abbrev cX10_round : ByteArray := prog_12_method_38_code
def yX10_round : MethodName := ⟨RX10, "round", "(I)I"⟩
abbrev cX10_unison : ByteArray := prog_12_method_39_code
def yX10_unison : MethodName := ⟨RX10, "unison", "()I"⟩
abbrev cX10_isSung : ByteArray := prog_12_method_40_code
def yX10_isSung : MethodName := ⟨RX10, "isSung", "(IIIII)Z"⟩
abbrev cX10_leastGift : ByteArray := prog_12_method_41_code
def yX10_leastGift : MethodName := ⟨RX10, "leastGift", "(III)I"⟩
abbrev cX10_gets : ByteArray := prog_12_method_42_code
def yX10_gets : MethodName := ⟨RX10, "gets", "(IIII)I"⟩
abbrev cX10_notesBy : ByteArray := prog_12_method_43_code
def yX10_notesBy : MethodName := ⟨RX10, "notesBy", "(III)I"⟩
abbrev cX10_best : ByteArray := prog_12_method_44_code
def yX10_best : MethodName := ⟨RX10, "best", "(II)I"⟩
abbrev cX10_tryThing : ByteArray := prog_12_method_45_code
def yX10_tryThing : MethodName := ⟨RX10, "tryThing", "(III)Z"⟩
abbrev cX10_thousandTo : ByteArray := prog_12_method_46_code
def yX10_thousandTo : MethodName := ⟨RX10, "thousandTo", "(I)J"⟩
abbrev cX10_judge : ByteArray := prog_12_method_47_code
def yX10_judge : MethodName := ⟨RX10, "judge", "(IJ)I"⟩
abbrev cX10_hear : ByteArray := prog_12_method_48_code
def yX10_hear : MethodName := ⟨RX10, "hear", "(III)I"⟩
abbrev cX10_unhear : ByteArray := prog_12_method_49_code
def yX10_unhear : MethodName := ⟨RX10, "unhear", "()I"⟩
abbrev cX10_mayHave : ByteArray := prog_12_method_50_code
def yX10_mayHave : MethodName := ⟨RX10, "mayHave", "(II)Z"⟩
abbrev cX10_had : ByteArray := prog_12_method_51_code
def yX10_had : MethodName := ⟨RX10, "had", "(I)I"⟩
abbrev cX10_factorial : ByteArray := prog_12_method_52_code
def yX10_factorial : MethodName := ⟨RX10, "factorial", "(I)I"⟩
abbrev cX10_common : ByteArray := prog_12_method_53_code
def yX10_common : MethodName := ⟨RX10, "common", "(II)I"⟩
abbrev cX10_notesOf : ByteArray := prog_12_method_54_code
def yX10_notesOf : MethodName := ⟨RX10, "notesOf", "(II)I"⟩
abbrev cX10_share : ByteArray := prog_12_method_55_code
def yX10_share : MethodName := ⟨RX10, "share", "(IZ)I"⟩
abbrev cX10_gain : ByteArray := prog_12_method_56_code
def yX10_gain : MethodName := ⟨RX10, "gain", "(III)I"⟩
abbrev cX10_isRest : ByteArray := prog_12_method_57_code
def yX10_isRest : MethodName := ⟨RX10, "isRest", "(IIII)Z"⟩
abbrev cX10_rests : ByteArray := prog_12_method_58_code
def yX10_rests : MethodName := ⟨RX10, "rests", "(III)I"⟩
abbrev cX10_power : ByteArray := prog_12_method_59_code
def yX10_power : MethodName := ⟨RX10, "power", "(II)I"⟩
abbrev cX10_hoarse : ByteArray := prog_12_method_60_code
def yX10_hoarse : MethodName := ⟨RX10, "hoarse", "(IIZ)I"⟩
abbrev cX10_seed : ByteArray := prog_12_method_61_code
def yX10_seed : MethodName := ⟨RX10, "seed", "(J)J"⟩
abbrev cX10_years : ByteArray := prog_12_method_62_code
def yX10_years : MethodName := ⟨RX10, "years", "(I)I"⟩
abbrev cX10_keep : ByteArray := prog_12_method_63_code
def yX10_keep : MethodName := ⟨RX10, "keep", "(I)I"⟩
abbrev cX10_again : ByteArray := prog_12_method_64_code
def yX10_again : MethodName := ⟨RX10, "again", "(I)I"⟩
abbrev cX10_takenSeats : ByteArray := prog_12_method_65_code
def yX10_takenSeats : MethodName := ⟨RX10, "takenSeats", "()I"⟩
abbrev cX10_goodsOfAll : ByteArray := prog_12_method_66_code
def yX10_goodsOfAll : MethodName := ⟨RX10, "goodsOfAll", "()I"⟩
abbrev cX10_jealous : ByteArray := prog_12_method_67_code
def yX10_jealous : MethodName := ⟨RX10, "jealous", "()I"⟩
abbrev cX10_count : ByteArray := prog_12_method_68_code
def yX10_count : MethodName := ⟨RX10, "count", "(I)I"⟩
def RJ6 : String := "java/lang/Integer"
def TJ6 : u_T := fun k => match k with
  | _ => ("", "", "", false)
def tyJ6 : Nat → FieldType := fun k => match k with
  | _ => .int
abbrev wsJ60 : List Cond := u_ws RJ6 TJ6 0
theorem nmJ6 : ∀ a, a < 0 → ∀ b, b < 0 → a ≠ b → (TJ6 a).2.1 ≠ (TJ6 b).2.1 := by decide +kernel
theorem tyJ6_ok : ∀ k, k < 0 → parseFieldDescriptor (TJ6 k).2.2.1 = some (tyJ6 k) := by decide +kernel
abbrev cJ6_bitCount_0f7a4 : ByteArray := prog_13_method_49_code
def yJ6_bitCount_0f7a4 : MethodName := ⟨RJ6, "bitCount", "(I)I"⟩
def RJ9 : String := "java/lang/Math"
def TJ9 : u_T := fun k => match k with
  | _ => ("", "", "", false)
def tyJ9 : Nat → FieldType := fun k => match k with
  | _ => .int
abbrev wsJ90 : List Cond := u_ws RJ9 TJ9 0
theorem nmJ9 : ∀ a, a < 0 → ∀ b, b < 0 → a ≠ b → (TJ9 a).2.1 ≠ (TJ9 b).2.1 := by decide +kernel
theorem tyJ9_ok : ∀ k, k < 0 → parseFieldDescriptor (TJ9 k).2.2.1 = some (tyJ9 k) := by decide +kernel
abbrev cJ9_abs_0f7a4 : ByteArray := prog_14_method_59_code
def yJ9_abs_0f7a4 : MethodName := ⟨RJ9, "abs", "(I)I"⟩
abbrev cJ9_max_7cf53 : ByteArray := prog_14_method_65_code
def yJ9_max_7cf53 : MethodName := ⟨RJ9, "max", "(II)I"⟩
abbrev cJ9_min_7cf53 : ByteArray := prog_14_method_69_code
def yJ9_min_7cf53 : MethodName := ⟨RJ9, "min", "(II)I"⟩
def RJ10 : String := "java/lang/System"
def TJ10 : u_T := fun k => match k with
  | _ => ("", "", "", false)
def tyJ10 : Nat → FieldType := fun k => match k with
  | _ => .int
abbrev wsJ100 : List Cond := u_ws RJ10 TJ10 0
theorem nmJ10 : ∀ a, a < 0 → ∀ b, b < 0 → a ≠ b → (TJ10 a).2.1 ≠ (TJ10 b).2.1 := by decide +kernel
theorem tyJ10_ok : ∀ k, k < 0 → parseFieldDescriptor (TJ10 k).2.2.1 = some (tyJ10 k) := by decide +kernel
def RL : String := "JealousChoirLaw"
abbrev cL_law : ByteArray := code
def yL_law : MethodName := ⟨RL, "law", "([I)Z"⟩
abbrev vwCl : List vw_C := [(RX0, TX0, 3), (RX1, TX1, 6), (RX2, TX2, 4), (RX3, TX3, 4), (RX4, TX4, 4), (RX5, TX5, 2), (RX6, TX6, 2), (RX7, TX7, 8), (RX8, TX8, 3), (RX9, TX9, 10), (RX10, TX10, 25)]
set_option maxRecDepth 20000 in
theorem inX0 : ∀ w ∈ wsX00, w ∈ lw_tbl := by decide +kernel
set_option maxRecDepth 20000 in
theorem inX1 : ∀ w ∈ wsX10, w ∈ lw_tbl := by decide +kernel
set_option maxRecDepth 20000 in
theorem inX2 : ∀ w ∈ wsX20, w ∈ lw_tbl := by decide +kernel
set_option maxRecDepth 20000 in
theorem inX3 : ∀ w ∈ wsX30, w ∈ lw_tbl := by decide +kernel
set_option maxRecDepth 20000 in
theorem inX4 : ∀ w ∈ wsX40, w ∈ lw_tbl := by decide +kernel
set_option maxRecDepth 20000 in
theorem inX5 : ∀ w ∈ wsX50, w ∈ lw_tbl := by decide +kernel
set_option maxRecDepth 20000 in
theorem inX6 : ∀ w ∈ wsX60, w ∈ lw_tbl := by decide +kernel
set_option maxRecDepth 20000 in
theorem inX7 : ∀ w ∈ wsX70, w ∈ lw_tbl := by decide +kernel
set_option maxRecDepth 20000 in
theorem inX8 : ∀ w ∈ wsX80, w ∈ lw_tbl := by decide +kernel
set_option maxRecDepth 20000 in
theorem inX9 : ∀ w ∈ wsX90, w ∈ lw_tbl := by decide +kernel
set_option maxRecDepth 20000 in
theorem inX10 : ∀ w ∈ wsX100, w ∈ lw_tbl := by decide +kernel
end
section
theorem dX0_init_0 : decode cX0_init 0 = .ok (.aload_n 0, 1) := by decide +kernel
theorem dX0_init_1 : decode cX0_init 1 = .ok (.invokespecial 3, 3) := by decide +kernel
theorem dX0_init_4 : decode cX0_init 4 = .ok (.aload_n 0, 1) := by decide +kernel
theorem dX0_init_5 : decode cX0_init 5 = .ok (.bipush 14, 2) := by decide +kernel
theorem dX0_init_7 : decode cX0_init 7 = .ok (.anewarray 9, 3) := by decide +kernel
theorem dX0_init_10 : decode cX0_init 10 = .ok (.putfield 11, 3) := by decide +kernel
theorem dX0_init_13 : decode cX0_init 13 = .ok (.aload_n 0, 1) := by decide +kernel
theorem dX0_init_14 : decode cX0_init 14 = .ok (.iconst 0, 1) := by decide +kernel
theorem dX0_init_15 : decode cX0_init 15 = .ok (.putfield 17, 3) := by decide +kernel
theorem dX0_init_18 : decode cX0_init 18 = .ok (.aload_n 0, 1) := by decide +kernel
theorem dX0_init_19 : decode cX0_init 19 = .ok (.iconst 0, 1) := by decide +kernel
theorem dX0_init_20 : decode cX0_init 20 = .ok (.putfield 21, 3) := by decide +kernel
theorem dX0_init_23 : decode cX0_init 23 = .ok (.iconst 0, 1) := by decide +kernel
theorem dX0_init_24 : decode cX0_init 24 = .ok (.istore_n 2, 1) := by decide +kernel
theorem dX0_init_25 : decode cX0_init 25 = .ok (.iload_n 2, 1) := by decide +kernel
theorem dX0_init_26 : decode cX0_init 26 = .ok (.aload_n 0, 1) := by decide +kernel
theorem dX0_init_27 : decode cX0_init 27 = .ok (.getfield 11, 3) := by decide +kernel
theorem dX0_init_30 : decode cX0_init 30 = .ok (.arraylength, 1) := by decide +kernel
theorem dX0_init_31 : decode cX0_init 31 = .ok (.if_icmp .ge 23, 3) := by decide +kernel
theorem dX0_init_34 : decode cX0_init 34 = .ok (.aload_n 0, 1) := by decide +kernel
theorem dX0_init_35 : decode cX0_init 35 = .ok (.getfield 11, 3) := by decide +kernel
theorem dX0_init_38 : decode cX0_init 38 = .ok (.iload_n 2, 1) := by decide +kernel
theorem dX0_init_39 : decode cX0_init 39 = .ok (.new 9, 3) := by decide +kernel
theorem dX0_init_42 : decode cX0_init 42 = .ok (.dup, 1) := by decide +kernel
theorem dX0_init_43 : decode cX0_init 43 = .ok (.aload_n 1, 1) := by decide +kernel
theorem dX0_init_44 : decode cX0_init 44 = .ok (.invokespecial 24, 3) := by decide +kernel
theorem dX0_init_47 : decode cX0_init 47 = .ok (.aastore, 1) := by decide +kernel
theorem dX0_init_48 : decode cX0_init 48 = .ok (.iinc 2 1, 3) := by decide +kernel
theorem dX0_init_51 : decode cX0_init 51 = .ok (.goto (-26), 3) := by decide +kernel
theorem dX0_init_54 : decode cX0_init 54 = .ok (.return_, 1) := by decide +kernel
theorem dX0_forgetAll_0 : decode cX0_forgetAll 0 = .ok (.aload_n 0, 1) := by decide +kernel
theorem dX0_forgetAll_1 : decode cX0_forgetAll 1 = .ok (.iconst 0, 1) := by decide +kernel
theorem dX0_forgetAll_2 : decode cX0_forgetAll 2 = .ok (.putfield 21, 3) := by decide +kernel
theorem dX0_forgetAll_5 : decode cX0_forgetAll 5 = .ok (.return_, 1) := by decide +kernel
theorem dX0_remember_0 : decode cX0_remember 0 = .ok (.aload_n 0, 1) := by decide +kernel
theorem dX0_remember_1 : decode cX0_remember 1 = .ok (.getfield 11, 3) := by decide +kernel
theorem dX0_remember_4 : decode cX0_remember 4 = .ok (.aload_n 0, 1) := by decide +kernel
theorem dX0_remember_5 : decode cX0_remember 5 = .ok (.getfield 17, 3) := by decide +kernel
theorem dX0_remember_8 : decode cX0_remember 8 = .ok (.aaload, 1) := by decide +kernel
theorem dX0_remember_9 : decode cX0_remember 9 = .ok (.aload_n 1, 1) := by decide +kernel
theorem dX0_remember_10 : decode cX0_remember 10 = .ok (.invokevirtual 27, 3) := by decide +kernel
theorem dX0_remember_13 : decode cX0_remember 13 = .ok (.aload_n 0, 1) := by decide +kernel
theorem dX0_remember_14 : decode cX0_remember 14 = .ok (.aload_n 0, 1) := by decide +kernel
theorem dX0_remember_15 : decode cX0_remember 15 = .ok (.getfield 17, 3) := by decide +kernel
theorem dX0_remember_18 : decode cX0_remember 18 = .ok (.iconst 1, 1) := by decide +kernel
theorem dX0_remember_19 : decode cX0_remember 19 = .ok (.iadd, 1) := by decide +kernel
theorem dX0_remember_20 : decode cX0_remember 20 = .ok (.bipush 14, 2) := by decide +kernel
theorem dX0_remember_22 : decode cX0_remember 22 = .ok (.if_icmp .ge 12, 3) := by decide +kernel
theorem dX0_remember_25 : decode cX0_remember 25 = .ok (.aload_n 0, 1) := by decide +kernel
theorem dX0_remember_26 : decode cX0_remember 26 = .ok (.getfield 17, 3) := by decide +kernel
theorem dX0_remember_29 : decode cX0_remember 29 = .ok (.iconst 1, 1) := by decide +kernel
theorem dX0_remember_30 : decode cX0_remember 30 = .ok (.iadd, 1) := by decide +kernel
theorem dX0_remember_31 : decode cX0_remember 31 = .ok (.goto 4, 3) := by decide +kernel
theorem dX0_remember_34 : decode cX0_remember 34 = .ok (.iconst 0, 1) := by decide +kernel
theorem dX0_remember_35 : decode cX0_remember 35 = .ok (.putfield 17, 3) := by decide +kernel
theorem dX0_remember_38 : decode cX0_remember 38 = .ok (.aload_n 0, 1) := by decide +kernel
theorem dX0_remember_39 : decode cX0_remember 39 = .ok (.aload_n 0, 1) := by decide +kernel
theorem dX0_remember_40 : decode cX0_remember 40 = .ok (.getfield 21, 3) := by decide +kernel
theorem dX0_remember_43 : decode cX0_remember 43 = .ok (.iconst 1, 1) := by decide +kernel
theorem dX0_remember_44 : decode cX0_remember 44 = .ok (.iadd, 1) := by decide +kernel
theorem dX0_remember_45 : decode cX0_remember 45 = .ok (.bipush 14, 2) := by decide +kernel
theorem dX0_remember_47 : decode cX0_remember 47 = .ok (.invokestatic 31, 3) := by decide +kernel
theorem dX0_remember_50 : decode cX0_remember 50 = .ok (.putfield 21, 3) := by decide +kernel
theorem dX0_remember_53 : decode cX0_remember 53 = .ok (.return_, 1) := by decide +kernel
theorem dX0_giveBack_0 : decode cX0_giveBack 0 = .ok (.aload_n 0, 1) := by decide +kernel
theorem dX0_giveBack_1 : decode cX0_giveBack 1 = .ok (.getfield 21, 3) := by decide +kernel
theorem dX0_giveBack_4 : decode cX0_giveBack 4 = .ok (.ifCond .ne 5, 3) := by decide +kernel
theorem dX0_giveBack_7 : decode cX0_giveBack 7 = .ok (.iconst 0, 1) := by decide +kernel
theorem dX0_giveBack_8 : decode cX0_giveBack 8 = .ok (.ireturn, 1) := by decide +kernel
theorem dX0_giveBack_9 : decode cX0_giveBack 9 = .ok (.aload_n 0, 1) := by decide +kernel
theorem dX0_giveBack_10 : decode cX0_giveBack 10 = .ok (.aload_n 0, 1) := by decide +kernel
theorem dX0_giveBack_11 : decode cX0_giveBack 11 = .ok (.getfield 17, 3) := by decide +kernel
theorem dX0_giveBack_14 : decode cX0_giveBack 14 = .ok (.ifCond .le 12, 3) := by decide +kernel
theorem dX0_giveBack_17 : decode cX0_giveBack 17 = .ok (.aload_n 0, 1) := by decide +kernel
theorem dX0_giveBack_18 : decode cX0_giveBack 18 = .ok (.getfield 17, 3) := by decide +kernel
theorem dX0_giveBack_21 : decode cX0_giveBack 21 = .ok (.iconst 1, 1) := by decide +kernel
theorem dX0_giveBack_22 : decode cX0_giveBack 22 = .ok (.isub, 1) := by decide +kernel
theorem dX0_giveBack_23 : decode cX0_giveBack 23 = .ok (.goto 5, 3) := by decide +kernel
theorem dX0_giveBack_26 : decode cX0_giveBack 26 = .ok (.bipush 13, 2) := by decide +kernel
theorem dX0_giveBack_28 : decode cX0_giveBack 28 = .ok (.putfield 17, 3) := by decide +kernel
theorem dX0_giveBack_31 : decode cX0_giveBack 31 = .ok (.aload_n 0, 1) := by decide +kernel
theorem dX0_giveBack_32 : decode cX0_giveBack 32 = .ok (.dup, 1) := by decide +kernel
theorem dX0_giveBack_33 : decode cX0_giveBack 33 = .ok (.getfield 21, 3) := by decide +kernel
theorem dX0_giveBack_36 : decode cX0_giveBack 36 = .ok (.iconst 1, 1) := by decide +kernel
theorem dX0_giveBack_37 : decode cX0_giveBack 37 = .ok (.isub, 1) := by decide +kernel
theorem dX0_giveBack_38 : decode cX0_giveBack 38 = .ok (.putfield 21, 3) := by decide +kernel
theorem dX0_giveBack_41 : decode cX0_giveBack 41 = .ok (.aload_n 1, 1) := by decide +kernel
theorem dX0_giveBack_42 : decode cX0_giveBack 42 = .ok (.aload_n 0, 1) := by decide +kernel
theorem dX0_giveBack_43 : decode cX0_giveBack 43 = .ok (.getfield 11, 3) := by decide +kernel
theorem dX0_giveBack_46 : decode cX0_giveBack 46 = .ok (.aload_n 0, 1) := by decide +kernel
theorem dX0_giveBack_47 : decode cX0_giveBack 47 = .ok (.getfield 17, 3) := by decide +kernel
theorem dX0_giveBack_50 : decode cX0_giveBack 50 = .ok (.aaload, 1) := by decide +kernel
theorem dX0_giveBack_51 : decode cX0_giveBack 51 = .ok (.invokevirtual 27, 3) := by decide +kernel
theorem dX0_giveBack_54 : decode cX0_giveBack 54 = .ok (.iconst 1, 1) := by decide +kernel
theorem dX0_giveBack_55 : decode cX0_giveBack 55 = .ok (.ireturn, 1) := by decide +kernel
theorem dX1_init_0 : decode cX1_init 0 = .ok (.aload_n 0, 1) := by decide +kernel
theorem dX1_init_1 : decode cX1_init 1 = .ok (.invokespecial 3, 3) := by decide +kernel
theorem dX1_init_4 : decode cX1_init 4 = .ok (.aload_n 0, 1) := by decide +kernel
theorem dX1_init_5 : decode cX1_init 5 = .ok (.bipush 64, 2) := by decide +kernel
theorem dX1_init_7 : decode cX1_init 7 = .ok (.newarray .int, 2) := by decide +kernel
theorem dX1_init_9 : decode cX1_init 9 = .ok (.putfield 9, 3) := by decide +kernel
theorem dX1_init_12 : decode cX1_init 12 = .ok (.aload_n 0, 1) := by decide +kernel
theorem dX1_init_13 : decode cX1_init 13 = .ok (.bipush 36, 2) := by decide +kernel
theorem dX1_init_15 : decode cX1_init 15 = .ok (.newarray .int, 2) := by decide +kernel
theorem dX1_init_17 : decode cX1_init 17 = .ok (.putfield 15, 3) := by decide +kernel
theorem dX1_init_20 : decode cX1_init 20 = .ok (.aload_n 0, 1) := by decide +kernel
theorem dX1_init_21 : decode cX1_init 21 = .ok (.bipush 36, 2) := by decide +kernel
theorem dX1_init_23 : decode cX1_init 23 = .ok (.newarray .int, 2) := by decide +kernel
theorem dX1_init_25 : decode cX1_init 25 = .ok (.putfield 18, 3) := by decide +kernel
theorem dX1_init_28 : decode cX1_init 28 = .ok (.aload_n 0, 1) := by decide +kernel
theorem dX1_init_29 : decode cX1_init 29 = .ok (.aload_n 1, 1) := by decide +kernel
theorem dX1_init_30 : decode cX1_init 30 = .ok (.putfield 21, 3) := by decide +kernel
theorem dX1_init_33 : decode cX1_init 33 = .ok (.aload_n 0, 1) := by decide +kernel
theorem dX1_init_34 : decode cX1_init 34 = .ok (.aload_n 2, 1) := by decide +kernel
theorem dX1_init_35 : decode cX1_init 35 = .ok (.putfield 25, 3) := by decide +kernel
theorem dX1_init_38 : decode cX1_init 38 = .ok (.aload_n 0, 1) := by decide +kernel
theorem dX1_init_39 : decode cX1_init 39 = .ok (.aload_n 3, 1) := by decide +kernel
theorem dX1_init_40 : decode cX1_init 40 = .ok (.putfield 29, 3) := by decide +kernel
theorem dX1_init_43 : decode cX1_init 43 = .ok (.return_, 1) := by decide +kernel
theorem dX1_richnessOfSome_0 : decode cX1_richnessOfSome 0 = .ok (.aload_n 0, 1) := by decide +kernel
theorem dX1_richnessOfSome_1 : decode cX1_richnessOfSome 1 = .ok (.getfield 29, 3) := by decide +kernel
theorem dX1_richnessOfSome_4 : decode cX1_richnessOfSome 4 = .ok (.aload_n 0, 1) := by decide +kernel
theorem dX1_richnessOfSome_5 : decode cX1_richnessOfSome 5 = .ok (.getfield 25, 3) := by decide +kernel
theorem dX1_richnessOfSome_8 : decode cX1_richnessOfSome 8 = .ok (.invokevirtual 32, 3) := by decide +kernel
theorem dX1_richnessOfSome_11 : decode cX1_richnessOfSome 11 = .ok (.aload_n 0, 1) := by decide +kernel
theorem dX1_richnessOfSome_12 : decode cX1_richnessOfSome 12 = .ok (.getfield 29, 3) := by decide +kernel
theorem dX1_richnessOfSome_15 : decode cX1_richnessOfSome 15 = .ok (.iload_n 1, 1) := by decide +kernel
theorem dX1_richnessOfSome_16 : decode cX1_richnessOfSome 16 = .ok (.putfield 38, 3) := by decide +kernel
theorem dX1_richnessOfSome_19 : decode cX1_richnessOfSome 19 = .ok (.aload_n 0, 1) := by decide +kernel
theorem dX1_richnessOfSome_20 : decode cX1_richnessOfSome 20 = .ok (.getfield 29, 3) := by decide +kernel
theorem dX1_richnessOfSome_23 : decode cX1_richnessOfSome 23 = .ok (.iload_n 2, 1) := by decide +kernel
theorem dX1_richnessOfSome_24 : decode cX1_richnessOfSome 24 = .ok (.invokevirtual 42, 3) := by decide +kernel
theorem dX1_richnessOfSome_27 : decode cX1_richnessOfSome 27 = .ok (.aload_n 0, 1) := by decide +kernel
theorem dX1_richnessOfSome_28 : decode cX1_richnessOfSome 28 = .ok (.getfield 29, 3) := by decide +kernel
theorem dX1_richnessOfSome_31 : decode cX1_richnessOfSome 31 = .ok (.invokevirtual 46, 3) := by decide +kernel
theorem dX1_richnessOfSome_34 : decode cX1_richnessOfSome 34 = .ok (.ireturn, 1) := by decide +kernel
theorem dX1_meanGain_0 : decode cX1_meanGain 0 = .ok (.aload_n 0, 1) := by decide +kernel
theorem dX1_meanGain_1 : decode cX1_meanGain 1 = .ok (.getfield 21, 3) := by decide +kernel
theorem dX1_meanGain_4 : decode cX1_meanGain 4 = .ok (.invokevirtual 50, 3) := by decide +kernel
theorem dX1_meanGain_7 : decode cX1_meanGain 7 = .ok (.istore_n 3, 1) := by decide +kernel
theorem dX1_meanGain_8 : decode cX1_meanGain 8 = .ok (.iconst 0, 1) := by decide +kernel
theorem dX1_meanGain_9 : decode cX1_meanGain 9 = .ok (.istore 4, 2) := by decide +kernel
theorem dX1_meanGain_11 : decode cX1_meanGain 11 = .ok (.iload 4, 2) := by decide +kernel
theorem dX1_meanGain_13 : decode cX1_meanGain 13 = .ok (.iload_n 3, 1) := by decide +kernel
theorem dX1_meanGain_14 : decode cX1_meanGain 14 = .ok (.if_icmp .gt 34, 3) := by decide +kernel
theorem dX1_meanGain_17 : decode cX1_meanGain 17 = .ok (.iload 4, 2) := by decide +kernel
theorem dX1_meanGain_19 : decode cX1_meanGain 19 = .ok (.aload_n 0, 1) := by decide +kernel
theorem dX1_meanGain_20 : decode cX1_meanGain 20 = .ok (.getfield 9, 3) := by decide +kernel
theorem dX1_meanGain_23 : decode cX1_meanGain 23 = .ok (.arraylength, 1) := by decide +kernel
theorem dX1_meanGain_24 : decode cX1_meanGain 24 = .ok (.if_icmp .ge 24, 3) := by decide +kernel
theorem dX1_meanGain_27 : decode cX1_meanGain 27 = .ok (.aload_n 0, 1) := by decide +kernel
theorem dX1_meanGain_28 : decode cX1_meanGain 28 = .ok (.getfield 9, 3) := by decide +kernel
theorem dX1_meanGain_31 : decode cX1_meanGain 31 = .ok (.iload 4, 2) := by decide +kernel
theorem dX1_meanGain_33 : decode cX1_meanGain 33 = .ok (.aload_n 0, 1) := by decide +kernel
theorem dX1_meanGain_34 : decode cX1_meanGain 34 = .ok (.iload 4, 2) := by decide +kernel
theorem dX1_meanGain_36 : decode cX1_meanGain 36 = .ok (.bipush 6, 2) := by decide +kernel
theorem dX1_meanGain_38 : decode cX1_meanGain 38 = .ok (.invokevirtual 55, 3) := by decide +kernel
theorem dX1_meanGain_41 : decode cX1_meanGain 41 = .ok (.iastore, 1) := by decide +kernel
theorem dX1_meanGain_42 : decode cX1_meanGain 42 = .ok (.iinc 4 1, 3) := by decide +kernel
theorem dX1_meanGain_45 : decode cX1_meanGain 45 = .ok (.goto (-34), 3) := by decide +kernel
theorem dX1_meanGain_48 : decode cX1_meanGain 48 = .ok (.iconst 0, 1) := by decide +kernel
theorem dX1_meanGain_49 : decode cX1_meanGain 49 = .ok (.istore 4, 2) := by decide +kernel
theorem dX1_meanGain_51 : decode cX1_meanGain 51 = .ok (.iconst 0, 1) := by decide +kernel
theorem dX1_meanGain_52 : decode cX1_meanGain 52 = .ok (.istore 5, 2) := by decide +kernel
theorem dX1_meanGain_54 : decode cX1_meanGain 54 = .ok (.iload 5, 2) := by decide +kernel
theorem dX1_meanGain_56 : decode cX1_meanGain 56 = .ok (.iload_n 3, 1) := by decide +kernel
theorem dX1_meanGain_57 : decode cX1_meanGain 57 = .ok (.if_icmp .gt 69, 3) := by decide +kernel
theorem dX1_meanGain_60 : decode cX1_meanGain 60 = .ok (.iload 5, 2) := by decide +kernel
theorem dX1_meanGain_62 : decode cX1_meanGain 62 = .ok (.aload_n 0, 1) := by decide +kernel
theorem dX1_meanGain_63 : decode cX1_meanGain 63 = .ok (.getfield 9, 3) := by decide +kernel
theorem dX1_meanGain_66 : decode cX1_meanGain 66 = .ok (.arraylength, 1) := by decide +kernel
theorem dX1_meanGain_67 : decode cX1_meanGain 67 = .ok (.if_icmp .ge 59, 3) := by decide +kernel
theorem dX1_meanGain_70 : decode cX1_meanGain 70 = .ok (.iload 5, 2) := by decide +kernel
theorem dX1_meanGain_72 : decode cX1_meanGain 72 = .ok (.iload_n 1, 1) := by decide +kernel
theorem dX1_meanGain_73 : decode cX1_meanGain 73 = .ok (.ishr, 1) := by decide +kernel
theorem dX1_meanGain_74 : decode cX1_meanGain 74 = .ok (.iconst 1, 1) := by decide +kernel
theorem dX1_meanGain_75 : decode cX1_meanGain 75 = .ok (.iand, 1) := by decide +kernel
theorem dX1_meanGain_76 : decode cX1_meanGain 76 = .ok (.iconst 1, 1) := by decide +kernel
theorem dX1_meanGain_77 : decode cX1_meanGain 77 = .ok (.if_icmp .ne 43, 3) := by decide +kernel
theorem dX1_meanGain_80 : decode cX1_meanGain 80 = .ok (.aload_n 0, 1) := by decide +kernel
theorem dX1_meanGain_81 : decode cX1_meanGain 81 = .ok (.getfield 9, 3) := by decide +kernel
theorem dX1_meanGain_84 : decode cX1_meanGain 84 = .ok (.iload 5, 2) := by decide +kernel
theorem dX1_meanGain_86 : decode cX1_meanGain 86 = .ok (.iaload, 1) := by decide +kernel
theorem dX1_meanGain_87 : decode cX1_meanGain 87 = .ok (.aload_n 0, 1) := by decide +kernel
theorem dX1_meanGain_88 : decode cX1_meanGain 88 = .ok (.getfield 9, 3) := by decide +kernel
theorem dX1_meanGain_91 : decode cX1_meanGain 91 = .ok (.iload 5, 2) := by decide +kernel
theorem dX1_meanGain_93 : decode cX1_meanGain 93 = .ok (.iconst 1, 1) := by decide +kernel
theorem dX1_meanGain_94 : decode cX1_meanGain 94 = .ok (.iload_n 1, 1) := by decide +kernel
theorem dX1_meanGain_95 : decode cX1_meanGain 95 = .ok (.ishl, 1) := by decide +kernel
theorem dX1_meanGain_96 : decode cX1_meanGain 96 = .ok (.iconst (-1), 1) := by decide +kernel
theorem dX1_meanGain_97 : decode cX1_meanGain 97 = .ok (.ixor, 1) := by decide +kernel
theorem dX1_meanGain_98 : decode cX1_meanGain 98 = .ok (.iand, 1) := by decide +kernel
theorem dX1_meanGain_99 : decode cX1_meanGain 99 = .ok (.iaload, 1) := by decide +kernel
theorem dX1_meanGain_100 : decode cX1_meanGain 100 = .ok (.isub, 1) := by decide +kernel
theorem dX1_meanGain_101 : decode cX1_meanGain 101 = .ok (.istore 6, 2) := by decide +kernel
theorem dX1_meanGain_103 : decode cX1_meanGain 103 = .ok (.iload 4, 2) := by decide +kernel
theorem dX1_meanGain_105 : decode cX1_meanGain 105 = .ok (.iload 6, 2) := by decide +kernel
theorem dX1_meanGain_107 : decode cX1_meanGain 107 = .ok (.aload_n 0, 1) := by decide +kernel
theorem dX1_meanGain_108 : decode cX1_meanGain 108 = .ok (.iload 5, 2) := by decide +kernel
theorem dX1_meanGain_110 : decode cX1_meanGain 110 = .ok (.invokestatic 59, 3) := by decide +kernel
theorem dX1_meanGain_113 : decode cX1_meanGain 113 = .ok (.invokevirtual 65, 3) := by decide +kernel
theorem dX1_meanGain_116 : decode cX1_meanGain 116 = .ok (.imul, 1) := by decide +kernel
theorem dX1_meanGain_117 : decode cX1_meanGain 117 = .ok (.iadd, 1) := by decide +kernel
theorem dX1_meanGain_118 : decode cX1_meanGain 118 = .ok (.istore 4, 2) := by decide +kernel
theorem dX1_meanGain_120 : decode cX1_meanGain 120 = .ok (.iinc 5 1, 3) := by decide +kernel
theorem dX1_meanGain_123 : decode cX1_meanGain 123 = .ok (.goto (-69), 3) := by decide +kernel
theorem dX1_meanGain_126 : decode cX1_meanGain 126 = .ok (.iload 4, 2) := by decide +kernel
theorem dX1_meanGain_128 : decode cX1_meanGain 128 = .ok (.aload_n 0, 1) := by decide +kernel
theorem dX1_meanGain_129 : decode cX1_meanGain 129 = .ok (.getfield 21, 3) := by decide +kernel
theorem dX1_meanGain_132 : decode cX1_meanGain 132 = .ok (.getfield 68, 3) := by decide +kernel
theorem dX1_meanGain_135 : decode cX1_meanGain 135 = .ok (.invokestatic 71, 3) := by decide +kernel
theorem dX1_meanGain_138 : decode cX1_meanGain 138 = .ok (.iload_n 2, 1) := by decide +kernel
theorem dX1_meanGain_139 : decode cX1_meanGain 139 = .ok (.invokestatic 74, 3) := by decide +kernel
theorem dX1_meanGain_142 : decode cX1_meanGain 142 = .ok (.ireturn, 1) := by decide +kernel
theorem dX1_ordersOf_0 : decode cX1_ordersOf 0 = .ok (.iload_n 1, 1) := by decide +kernel
theorem dX1_ordersOf_1 : decode cX1_ordersOf 1 = .ok (.iconst 1, 1) := by decide +kernel
theorem dX1_ordersOf_2 : decode cX1_ordersOf 2 = .ok (.isub, 1) := by decide +kernel
theorem dX1_ordersOf_3 : decode cX1_ordersOf 3 = .ok (.invokestatic 71, 3) := by decide +kernel
theorem dX1_ordersOf_6 : decode cX1_ordersOf 6 = .ok (.aload_n 0, 1) := by decide +kernel
theorem dX1_ordersOf_7 : decode cX1_ordersOf 7 = .ok (.getfield 21, 3) := by decide +kernel
theorem dX1_ordersOf_10 : decode cX1_ordersOf 10 = .ok (.getfield 68, 3) := by decide +kernel
theorem dX1_ordersOf_13 : decode cX1_ordersOf 13 = .ok (.iload_n 1, 1) := by decide +kernel
theorem dX1_ordersOf_14 : decode cX1_ordersOf 14 = .ok (.isub, 1) := by decide +kernel
theorem dX1_ordersOf_15 : decode cX1_ordersOf 15 = .ok (.invokestatic 71, 3) := by decide +kernel
theorem dX1_ordersOf_18 : decode cX1_ordersOf 18 = .ok (.imul, 1) := by decide +kernel
theorem dX1_ordersOf_19 : decode cX1_ordersOf 19 = .ok (.ireturn, 1) := by decide +kernel
theorem dX1_factorial_0 : decode cX1_factorial 0 = .ok (.iload_n 0, 1) := by decide +kernel
theorem dX1_factorial_1 : decode cX1_factorial 1 = .ok (.ifCond .lt 19, 3) := by decide +kernel
theorem dX1_factorial_4 : decode cX1_factorial 4 = .ok (.iload_n 0, 1) := by decide +kernel
theorem dX1_factorial_5 : decode cX1_factorial 5 = .ok (.getstatic 78, 3) := by decide +kernel
theorem dX1_factorial_8 : decode cX1_factorial 8 = .ok (.arraylength, 1) := by decide +kernel
theorem dX1_factorial_9 : decode cX1_factorial 9 = .ok (.if_icmp .ge 11, 3) := by decide +kernel
theorem dX1_factorial_12 : decode cX1_factorial 12 = .ok (.getstatic 78, 3) := by decide +kernel
theorem dX1_factorial_15 : decode cX1_factorial 15 = .ok (.iload_n 0, 1) := by decide +kernel
theorem dX1_factorial_16 : decode cX1_factorial 16 = .ok (.iaload, 1) := by decide +kernel
theorem dX1_factorial_17 : decode cX1_factorial 17 = .ok (.goto 4, 3) := by decide +kernel
theorem dX1_factorial_20 : decode cX1_factorial 20 = .ok (.iconst 1, 1) := by decide +kernel
theorem dX1_factorial_21 : decode cX1_factorial 21 = .ok (.ireturn, 1) := by decide +kernel
theorem dX1_restingPairs_0 : decode cX1_restingPairs 0 = .ok (.iconst 0, 1) := by decide +kernel
theorem dX1_restingPairs_1 : decode cX1_restingPairs 1 = .ok (.istore 4, 2) := by decide +kernel
theorem dX1_restingPairs_3 : decode cX1_restingPairs 3 = .ok (.iload 4, 2) := by decide +kernel
theorem dX1_restingPairs_5 : decode cX1_restingPairs 5 = .ok (.aload_n 0, 1) := by decide +kernel
theorem dX1_restingPairs_6 : decode cX1_restingPairs 6 = .ok (.getfield 21, 3) := by decide +kernel
theorem dX1_restingPairs_9 : decode cX1_restingPairs 9 = .ok (.getfield 68, 3) := by decide +kernel
theorem dX1_restingPairs_12 : decode cX1_restingPairs 12 = .ok (.if_icmp .ge 40, 3) := by decide +kernel
theorem dX1_restingPairs_15 : decode cX1_restingPairs 15 = .ok (.iconst 0, 1) := by decide +kernel
theorem dX1_restingPairs_16 : decode cX1_restingPairs 16 = .ok (.istore 5, 2) := by decide +kernel
theorem dX1_restingPairs_18 : decode cX1_restingPairs 18 = .ok (.iload 5, 2) := by decide +kernel
theorem dX1_restingPairs_20 : decode cX1_restingPairs 20 = .ok (.aload_n 0, 1) := by decide +kernel
theorem dX1_restingPairs_21 : decode cX1_restingPairs 21 = .ok (.getfield 21, 3) := by decide +kernel
theorem dX1_restingPairs_24 : decode cX1_restingPairs 24 = .ok (.getfield 68, 3) := by decide +kernel
theorem dX1_restingPairs_27 : decode cX1_restingPairs 27 = .ok (.if_icmp .ge 19, 3) := by decide +kernel
theorem dX1_restingPairs_30 : decode cX1_restingPairs 30 = .ok (.aload_n 0, 1) := by decide +kernel
theorem dX1_restingPairs_31 : decode cX1_restingPairs 31 = .ok (.iload_n 1, 1) := by decide +kernel
theorem dX1_restingPairs_32 : decode cX1_restingPairs 32 = .ok (.iload_n 2, 1) := by decide +kernel
theorem dX1_restingPairs_33 : decode cX1_restingPairs 33 = .ok (.iload 4, 2) := by decide +kernel
theorem dX1_restingPairs_35 : decode cX1_restingPairs 35 = .ok (.iload 5, 2) := by decide +kernel
theorem dX1_restingPairs_37 : decode cX1_restingPairs 37 = .ok (.invokevirtual 81, 3) := by decide +kernel
theorem dX1_restingPairs_40 : decode cX1_restingPairs 40 = .ok (.iinc 5 1, 3) := by decide +kernel
theorem dX1_restingPairs_43 : decode cX1_restingPairs 43 = .ok (.goto (-25), 3) := by decide +kernel
theorem dX1_restingPairs_46 : decode cX1_restingPairs 46 = .ok (.iinc 4 1, 3) := by decide +kernel
theorem dX1_restingPairs_49 : decode cX1_restingPairs 49 = .ok (.goto (-46), 3) := by decide +kernel
theorem dX1_restingPairs_52 : decode cX1_restingPairs 52 = .ok (.iconst 0, 1) := by decide +kernel
theorem dX1_restingPairs_53 : decode cX1_restingPairs 53 = .ok (.istore 4, 2) := by decide +kernel
theorem dX1_restingPairs_55 : decode cX1_restingPairs 55 = .ok (.bipush (-9), 2) := by decide +kernel
theorem dX1_restingPairs_57 : decode cX1_restingPairs 57 = .ok (.istore 5, 2) := by decide +kernel
theorem dX1_restingPairs_59 : decode cX1_restingPairs 59 = .ok (.iconst 0, 1) := by decide +kernel
theorem dX1_restingPairs_60 : decode cX1_restingPairs 60 = .ok (.istore 6, 2) := by decide +kernel
theorem dX1_restingPairs_62 : decode cX1_restingPairs 62 = .ok (.iload 6, 2) := by decide +kernel
theorem dX1_restingPairs_64 : decode cX1_restingPairs 64 = .ok (.aload_n 0, 1) := by decide +kernel
theorem dX1_restingPairs_65 : decode cX1_restingPairs 65 = .ok (.getfield 21, 3) := by decide +kernel
theorem dX1_restingPairs_68 : decode cX1_restingPairs 68 = .ok (.getfield 68, 3) := by decide +kernel
theorem dX1_restingPairs_71 : decode cX1_restingPairs 71 = .ok (.if_icmp .ge 64, 3) := by decide +kernel
theorem dX1_restingPairs_74 : decode cX1_restingPairs 74 = .ok (.iconst 0, 1) := by decide +kernel
theorem dX1_restingPairs_75 : decode cX1_restingPairs 75 = .ok (.istore 7, 2) := by decide +kernel
theorem dX1_restingPairs_77 : decode cX1_restingPairs 77 = .ok (.iload 7, 2) := by decide +kernel
theorem dX1_restingPairs_79 : decode cX1_restingPairs 79 = .ok (.aload_n 0, 1) := by decide +kernel
theorem dX1_restingPairs_80 : decode cX1_restingPairs 80 = .ok (.getfield 21, 3) := by decide +kernel
theorem dX1_restingPairs_83 : decode cX1_restingPairs 83 = .ok (.getfield 68, 3) := by decide +kernel
theorem dX1_restingPairs_86 : decode cX1_restingPairs 86 = .ok (.if_icmp .ge 43, 3) := by decide +kernel
theorem dX1_restingPairs_89 : decode cX1_restingPairs 89 = .ok (.aload_n 0, 1) := by decide +kernel
theorem dX1_restingPairs_90 : decode cX1_restingPairs 90 = .ok (.iload 6, 2) := by decide +kernel
theorem dX1_restingPairs_92 : decode cX1_restingPairs 92 = .ok (.iload 7, 2) := by decide +kernel
theorem dX1_restingPairs_94 : decode cX1_restingPairs 94 = .ok (.invokevirtual 85, 3) := by decide +kernel
theorem dX1_restingPairs_97 : decode cX1_restingPairs 97 = .ok (.ifCond .eq 26, 3) := by decide +kernel
theorem dX1_restingPairs_100 : decode cX1_restingPairs 100 = .ok (.iload 4, 2) := by decide +kernel
theorem dX1_restingPairs_102 : decode cX1_restingPairs 102 = .ok (.ifCond .ne 14, 3) := by decide +kernel
theorem dX1_restingPairs_105 : decode cX1_restingPairs 105 = .ok (.bipush 10, 2) := by decide +kernel
theorem dX1_restingPairs_107 : decode cX1_restingPairs 107 = .ok (.iload 6, 2) := by decide +kernel
theorem dX1_restingPairs_109 : decode cX1_restingPairs 109 = .ok (.imul, 1) := by decide +kernel
theorem dX1_restingPairs_110 : decode cX1_restingPairs 110 = .ok (.iload 7, 2) := by decide +kernel
theorem dX1_restingPairs_112 : decode cX1_restingPairs 112 = .ok (.iadd, 1) := by decide +kernel
theorem dX1_restingPairs_113 : decode cX1_restingPairs 113 = .ok (.goto 5, 3) := by decide +kernel
theorem dX1_restingPairs_116 : decode cX1_restingPairs 116 = .ok (.iload 5, 2) := by decide +kernel
theorem dX1_restingPairs_118 : decode cX1_restingPairs 118 = .ok (.istore 5, 2) := by decide +kernel
theorem dX1_restingPairs_120 : decode cX1_restingPairs 120 = .ok (.iinc 4 1, 3) := by decide +kernel
theorem dX1_restingPairs_123 : decode cX1_restingPairs 123 = .ok (.iinc 7 1, 3) := by decide +kernel
theorem dX1_restingPairs_126 : decode cX1_restingPairs 126 = .ok (.goto (-49), 3) := by decide +kernel
theorem dX1_restingPairs_129 : decode cX1_restingPairs 129 = .ok (.iinc 6 1, 3) := by decide +kernel
theorem dX1_restingPairs_132 : decode cX1_restingPairs 132 = .ok (.goto (-70), 3) := by decide +kernel
theorem dX1_restingPairs_135 : decode cX1_restingPairs 135 = .ok (.iload_n 3, 1) := by decide +kernel
theorem dX1_restingPairs_136 : decode cX1_restingPairs 136 = .ok (.ifCond .eq 8, 3) := by decide +kernel
theorem dX1_restingPairs_139 : decode cX1_restingPairs 139 = .ok (.iload 5, 2) := by decide +kernel
theorem dX1_restingPairs_141 : decode cX1_restingPairs 141 = .ok (.goto 5, 3) := by decide +kernel
theorem dX1_restingPairs_144 : decode cX1_restingPairs 144 = .ok (.iload 4, 2) := by decide +kernel
theorem dX1_restingPairs_146 : decode cX1_restingPairs 146 = .ok (.ireturn, 1) := by decide +kernel
theorem dX1_giveAndCount_0 : decode cX1_giveAndCount 0 = .ok (.aload_n 0, 1) := by decide +kernel
theorem dX1_giveAndCount_1 : decode cX1_giveAndCount 1 = .ok (.getfield 29, 3) := by decide +kernel
theorem dX1_giveAndCount_4 : decode cX1_giveAndCount 4 = .ok (.aload_n 0, 1) := by decide +kernel
theorem dX1_giveAndCount_5 : decode cX1_giveAndCount 5 = .ok (.getfield 25, 3) := by decide +kernel
theorem dX1_giveAndCount_8 : decode cX1_giveAndCount 8 = .ok (.invokevirtual 32, 3) := by decide +kernel
theorem dX1_giveAndCount_11 : decode cX1_giveAndCount 11 = .ok (.aload_n 0, 1) := by decide +kernel
theorem dX1_giveAndCount_12 : decode cX1_giveAndCount 12 = .ok (.getfield 29, 3) := by decide +kernel
theorem dX1_giveAndCount_15 : decode cX1_giveAndCount 15 = .ok (.iload_n 3, 1) := by decide +kernel
theorem dX1_giveAndCount_16 : decode cX1_giveAndCount 16 = .ok (.iconst 4, 1) := by decide +kernel
theorem dX1_giveAndCount_17 : decode cX1_giveAndCount 17 = .ok (.invokevirtual 89, 3) := by decide +kernel
theorem dX1_giveAndCount_20 : decode cX1_giveAndCount 20 = .ok (.aload_n 0, 1) := by decide +kernel
theorem dX1_giveAndCount_21 : decode cX1_giveAndCount 21 = .ok (.getfield 29, 3) := by decide +kernel
theorem dX1_giveAndCount_24 : decode cX1_giveAndCount 24 = .ok (.iload 4, 2) := by decide +kernel
theorem dX1_giveAndCount_26 : decode cX1_giveAndCount 26 = .ok (.iconst 4, 1) := by decide +kernel
theorem dX1_giveAndCount_27 : decode cX1_giveAndCount 27 = .ok (.invokevirtual 89, 3) := by decide +kernel
theorem dX1_giveAndCount_30 : decode cX1_giveAndCount 30 = .ok (.aload_n 0, 1) := by decide +kernel
theorem dX1_giveAndCount_31 : decode cX1_giveAndCount 31 = .ok (.getfield 29, 3) := by decide +kernel
theorem dX1_giveAndCount_34 : decode cX1_giveAndCount 34 = .ok (.bipush 6, 2) := by decide +kernel
theorem dX1_giveAndCount_36 : decode cX1_giveAndCount 36 = .ok (.invokevirtual 42, 3) := by decide +kernel
theorem dX1_giveAndCount_39 : decode cX1_giveAndCount 39 = .ok (.aload_n 0, 1) := by decide +kernel
theorem dX1_giveAndCount_40 : decode cX1_giveAndCount 40 = .ok (.getfield 15, 3) := by decide +kernel
theorem dX1_giveAndCount_43 : decode cX1_giveAndCount 43 = .ok (.iload_n 3, 1) := by decide +kernel
theorem dX1_giveAndCount_44 : decode cX1_giveAndCount 44 = .ok (.bipush 6, 2) := by decide +kernel
theorem dX1_giveAndCount_46 : decode cX1_giveAndCount 46 = .ok (.imul, 1) := by decide +kernel
theorem dX1_giveAndCount_47 : decode cX1_giveAndCount 47 = .ok (.iload 4, 2) := by decide +kernel
theorem dX1_giveAndCount_49 : decode cX1_giveAndCount 49 = .ok (.iadd, 1) := by decide +kernel
theorem dX1_giveAndCount_50 : decode cX1_giveAndCount 50 = .ok (.aload_n 0, 1) := by decide +kernel
theorem dX1_giveAndCount_51 : decode cX1_giveAndCount 51 = .ok (.getfield 29, 3) := by decide +kernel
theorem dX1_giveAndCount_54 : decode cX1_giveAndCount 54 = .ok (.aload_n 0, 1) := by decide +kernel
theorem dX1_giveAndCount_55 : decode cX1_giveAndCount 55 = .ok (.getfield 21, 3) := by decide +kernel
theorem dX1_giveAndCount_58 : decode cX1_giveAndCount 58 = .ok (.getfield 93, 3) := by decide +kernel
theorem dX1_giveAndCount_61 : decode cX1_giveAndCount 61 = .ok (.iload_n 1, 1) := by decide +kernel
theorem dX1_giveAndCount_62 : decode cX1_giveAndCount 62 = .ok (.iaload, 1) := by decide +kernel
theorem dX1_giveAndCount_63 : decode cX1_giveAndCount 63 = .ok (.invokevirtual 96, 3) := by decide +kernel
theorem dX1_giveAndCount_66 : decode cX1_giveAndCount 66 = .ok (.iastore, 1) := by decide +kernel
theorem dX1_giveAndCount_67 : decode cX1_giveAndCount 67 = .ok (.aload_n 0, 1) := by decide +kernel
theorem dX1_giveAndCount_68 : decode cX1_giveAndCount 68 = .ok (.getfield 18, 3) := by decide +kernel
theorem dX1_giveAndCount_71 : decode cX1_giveAndCount 71 = .ok (.iload_n 3, 1) := by decide +kernel
theorem dX1_giveAndCount_72 : decode cX1_giveAndCount 72 = .ok (.bipush 6, 2) := by decide +kernel
theorem dX1_giveAndCount_74 : decode cX1_giveAndCount 74 = .ok (.imul, 1) := by decide +kernel
theorem dX1_giveAndCount_75 : decode cX1_giveAndCount 75 = .ok (.iload 4, 2) := by decide +kernel
theorem dX1_giveAndCount_77 : decode cX1_giveAndCount 77 = .ok (.iadd, 1) := by decide +kernel
theorem dX1_giveAndCount_78 : decode cX1_giveAndCount 78 = .ok (.aload_n 0, 1) := by decide +kernel
theorem dX1_giveAndCount_79 : decode cX1_giveAndCount 79 = .ok (.getfield 29, 3) := by decide +kernel
theorem dX1_giveAndCount_82 : decode cX1_giveAndCount 82 = .ok (.aload_n 0, 1) := by decide +kernel
theorem dX1_giveAndCount_83 : decode cX1_giveAndCount 83 = .ok (.getfield 21, 3) := by decide +kernel
theorem dX1_giveAndCount_86 : decode cX1_giveAndCount 86 = .ok (.getfield 93, 3) := by decide +kernel
theorem dX1_giveAndCount_89 : decode cX1_giveAndCount 89 = .ok (.iload_n 2, 1) := by decide +kernel
theorem dX1_giveAndCount_90 : decode cX1_giveAndCount 90 = .ok (.iaload, 1) := by decide +kernel
theorem dX1_giveAndCount_91 : decode cX1_giveAndCount 91 = .ok (.invokevirtual 96, 3) := by decide +kernel
theorem dX1_giveAndCount_94 : decode cX1_giveAndCount 94 = .ok (.iastore, 1) := by decide +kernel
theorem dX1_giveAndCount_95 : decode cX1_giveAndCount 95 = .ok (.return_, 1) := by decide +kernel
theorem dX1_isAtRest_0 : decode cX1_isAtRest 0 = .ok (.iload_n 1, 1) := by decide +kernel
theorem dX1_isAtRest_1 : decode cX1_isAtRest 1 = .ok (.bipush 6, 2) := by decide +kernel
theorem dX1_isAtRest_3 : decode cX1_isAtRest 3 = .ok (.imul, 1) := by decide +kernel
theorem dX1_isAtRest_4 : decode cX1_isAtRest 4 = .ok (.iload_n 2, 1) := by decide +kernel
theorem dX1_isAtRest_5 : decode cX1_isAtRest 5 = .ok (.iadd, 1) := by decide +kernel
theorem dX1_isAtRest_6 : decode cX1_isAtRest 6 = .ok (.istore_n 3, 1) := by decide +kernel
theorem dX1_isAtRest_7 : decode cX1_isAtRest 7 = .ok (.iconst 0, 1) := by decide +kernel
theorem dX1_isAtRest_8 : decode cX1_isAtRest 8 = .ok (.istore 4, 2) := by decide +kernel
theorem dX1_isAtRest_10 : decode cX1_isAtRest 10 = .ok (.iload 4, 2) := by decide +kernel
theorem dX1_isAtRest_12 : decode cX1_isAtRest 12 = .ok (.aload_n 0, 1) := by decide +kernel
theorem dX1_isAtRest_13 : decode cX1_isAtRest 13 = .ok (.getfield 21, 3) := by decide +kernel
theorem dX1_isAtRest_16 : decode cX1_isAtRest 16 = .ok (.getfield 68, 3) := by decide +kernel
theorem dX1_isAtRest_19 : decode cX1_isAtRest 19 = .ok (.if_icmp .ge 53, 3) := by decide +kernel
theorem dX1_isAtRest_22 : decode cX1_isAtRest 22 = .ok (.aload_n 0, 1) := by decide +kernel
theorem dX1_isAtRest_23 : decode cX1_isAtRest 23 = .ok (.getfield 15, 3) := by decide +kernel
theorem dX1_isAtRest_26 : decode cX1_isAtRest 26 = .ok (.iload 4, 2) := by decide +kernel
theorem dX1_isAtRest_28 : decode cX1_isAtRest 28 = .ok (.bipush 6, 2) := by decide +kernel
theorem dX1_isAtRest_30 : decode cX1_isAtRest 30 = .ok (.imul, 1) := by decide +kernel
theorem dX1_isAtRest_31 : decode cX1_isAtRest 31 = .ok (.iload_n 2, 1) := by decide +kernel
theorem dX1_isAtRest_32 : decode cX1_isAtRest 32 = .ok (.iadd, 1) := by decide +kernel
theorem dX1_isAtRest_33 : decode cX1_isAtRest 33 = .ok (.iaload, 1) := by decide +kernel
theorem dX1_isAtRest_34 : decode cX1_isAtRest 34 = .ok (.aload_n 0, 1) := by decide +kernel
theorem dX1_isAtRest_35 : decode cX1_isAtRest 35 = .ok (.getfield 15, 3) := by decide +kernel
theorem dX1_isAtRest_38 : decode cX1_isAtRest 38 = .ok (.iload_n 3, 1) := by decide +kernel
theorem dX1_isAtRest_39 : decode cX1_isAtRest 39 = .ok (.iaload, 1) := by decide +kernel
theorem dX1_isAtRest_40 : decode cX1_isAtRest 40 = .ok (.if_icmp .gt 24, 3) := by decide +kernel
theorem dX1_isAtRest_43 : decode cX1_isAtRest 43 = .ok (.aload_n 0, 1) := by decide +kernel
theorem dX1_isAtRest_44 : decode cX1_isAtRest 44 = .ok (.getfield 18, 3) := by decide +kernel
theorem dX1_isAtRest_47 : decode cX1_isAtRest 47 = .ok (.iload_n 1, 1) := by decide +kernel
theorem dX1_isAtRest_48 : decode cX1_isAtRest 48 = .ok (.bipush 6, 2) := by decide +kernel
theorem dX1_isAtRest_50 : decode cX1_isAtRest 50 = .ok (.imul, 1) := by decide +kernel
theorem dX1_isAtRest_51 : decode cX1_isAtRest 51 = .ok (.iload 4, 2) := by decide +kernel
theorem dX1_isAtRest_53 : decode cX1_isAtRest 53 = .ok (.iadd, 1) := by decide +kernel
theorem dX1_isAtRest_54 : decode cX1_isAtRest 54 = .ok (.iaload, 1) := by decide +kernel
theorem dX1_isAtRest_55 : decode cX1_isAtRest 55 = .ok (.aload_n 0, 1) := by decide +kernel
theorem dX1_isAtRest_56 : decode cX1_isAtRest 56 = .ok (.getfield 18, 3) := by decide +kernel
theorem dX1_isAtRest_59 : decode cX1_isAtRest 59 = .ok (.iload_n 3, 1) := by decide +kernel
theorem dX1_isAtRest_60 : decode cX1_isAtRest 60 = .ok (.iaload, 1) := by decide +kernel
theorem dX1_isAtRest_61 : decode cX1_isAtRest 61 = .ok (.if_icmp .le 5, 3) := by decide +kernel
theorem dX1_isAtRest_64 : decode cX1_isAtRest 64 = .ok (.iconst 0, 1) := by decide +kernel
theorem dX1_isAtRest_65 : decode cX1_isAtRest 65 = .ok (.ireturn, 1) := by decide +kernel
theorem dX1_isAtRest_66 : decode cX1_isAtRest 66 = .ok (.iinc 4 1, 3) := by decide +kernel
theorem dX1_isAtRest_69 : decode cX1_isAtRest 69 = .ok (.goto (-59), 3) := by decide +kernel
theorem dX1_isAtRest_72 : decode cX1_isAtRest 72 = .ok (.iconst 1, 1) := by decide +kernel
theorem dX1_isAtRest_73 : decode cX1_isAtRest 73 = .ok (.ireturn, 1) := by decide +kernel
theorem dX1_chanceOfOneNote_0 : decode cX1_chanceOfOneNote 0 = .ok (.aload_n 0, 1) := by decide +kernel
theorem dX1_chanceOfOneNote_1 : decode cX1_chanceOfOneNote 1 = .ok (.getfield 21, 3) := by decide +kernel
theorem dX1_chanceOfOneNote_4 : decode cX1_chanceOfOneNote 4 = .ok (.invokevirtual 50, 3) := by decide +kernel
theorem dX1_chanceOfOneNote_7 : decode cX1_chanceOfOneNote 7 = .ok (.istore 4, 2) := by decide +kernel
theorem dX1_chanceOfOneNote_9 : decode cX1_chanceOfOneNote 9 = .ok (.iconst 0, 1) := by decide +kernel
theorem dX1_chanceOfOneNote_10 : decode cX1_chanceOfOneNote 10 = .ok (.istore 5, 2) := by decide +kernel
theorem dX1_chanceOfOneNote_12 : decode cX1_chanceOfOneNote 12 = .ok (.iconst 0, 1) := by decide +kernel
theorem dX1_chanceOfOneNote_13 : decode cX1_chanceOfOneNote 13 = .ok (.istore 6, 2) := by decide +kernel
theorem dX1_chanceOfOneNote_15 : decode cX1_chanceOfOneNote 15 = .ok (.iload 6, 2) := by decide +kernel
theorem dX1_chanceOfOneNote_17 : decode cX1_chanceOfOneNote 17 = .ok (.iload 4, 2) := by decide +kernel
theorem dX1_chanceOfOneNote_19 : decode cX1_chanceOfOneNote 19 = .ok (.if_icmp .gt 65, 3) := by decide +kernel
theorem dX1_chanceOfOneNote_22 : decode cX1_chanceOfOneNote 22 = .ok (.iload 6, 2) := by decide +kernel
theorem dX1_chanceOfOneNote_24 : decode cX1_chanceOfOneNote 24 = .ok (.invokestatic 59, 3) := by decide +kernel
theorem dX1_chanceOfOneNote_27 : decode cX1_chanceOfOneNote 27 = .ok (.istore 7, 2) := by decide +kernel
theorem dX1_chanceOfOneNote_29 : decode cX1_chanceOfOneNote 29 = .ok (.iload_n 2, 1) := by decide +kernel
theorem dX1_chanceOfOneNote_30 : decode cX1_chanceOfOneNote 30 = .ok (.aload_n 0, 1) := by decide +kernel
theorem dX1_chanceOfOneNote_31 : decode cX1_chanceOfOneNote 31 = .ok (.getfield 21, 3) := by decide +kernel
theorem dX1_chanceOfOneNote_34 : decode cX1_chanceOfOneNote 34 = .ok (.getfield 68, 3) := by decide +kernel
theorem dX1_chanceOfOneNote_37 : decode cX1_chanceOfOneNote 37 = .ok (.iload 7, 2) := by decide +kernel
theorem dX1_chanceOfOneNote_39 : decode cX1_chanceOfOneNote 39 = .ok (.isub, 1) := by decide +kernel
theorem dX1_chanceOfOneNote_40 : decode cX1_chanceOfOneNote 40 = .ok (.invokestatic 99, 3) := by decide +kernel
theorem dX1_chanceOfOneNote_43 : decode cX1_chanceOfOneNote 43 = .ok (.bipush 10, 2) := by decide +kernel
theorem dX1_chanceOfOneNote_45 : decode cX1_chanceOfOneNote 45 = .ok (.iload_n 2, 1) := by decide +kernel
theorem dX1_chanceOfOneNote_46 : decode cX1_chanceOfOneNote 46 = .ok (.isub, 1) := by decide +kernel
theorem dX1_chanceOfOneNote_47 : decode cX1_chanceOfOneNote 47 = .ok (.iload 7, 2) := by decide +kernel
theorem dX1_chanceOfOneNote_49 : decode cX1_chanceOfOneNote 49 = .ok (.invokestatic 99, 3) := by decide +kernel
theorem dX1_chanceOfOneNote_52 : decode cX1_chanceOfOneNote 52 = .ok (.imul, 1) := by decide +kernel
theorem dX1_chanceOfOneNote_53 : decode cX1_chanceOfOneNote 53 = .ok (.istore 8, 2) := by decide +kernel
theorem dX1_chanceOfOneNote_55 : decode cX1_chanceOfOneNote 55 = .ok (.iload 8, 2) := by decide +kernel
theorem dX1_chanceOfOneNote_57 : decode cX1_chanceOfOneNote 57 = .ok (.ifCond .le 21, 3) := by decide +kernel
theorem dX1_chanceOfOneNote_60 : decode cX1_chanceOfOneNote 60 = .ok (.aload_n 0, 1) := by decide +kernel
theorem dX1_chanceOfOneNote_61 : decode cX1_chanceOfOneNote 61 = .ok (.iload 6, 2) := by decide +kernel
theorem dX1_chanceOfOneNote_63 : decode cX1_chanceOfOneNote 63 = .ok (.iload_n 1, 1) := by decide +kernel
theorem dX1_chanceOfOneNote_64 : decode cX1_chanceOfOneNote 64 = .ok (.invokevirtual 55, 3) := by decide +kernel
theorem dX1_chanceOfOneNote_67 : decode cX1_chanceOfOneNote 67 = .ok (.iconst 1, 1) := by decide +kernel
theorem dX1_chanceOfOneNote_68 : decode cX1_chanceOfOneNote 68 = .ok (.if_icmp .gt 10, 3) := by decide +kernel
theorem dX1_chanceOfOneNote_71 : decode cX1_chanceOfOneNote 71 = .ok (.iload 5, 2) := by decide +kernel
theorem dX1_chanceOfOneNote_73 : decode cX1_chanceOfOneNote 73 = .ok (.iload 8, 2) := by decide +kernel
theorem dX1_chanceOfOneNote_75 : decode cX1_chanceOfOneNote 75 = .ok (.iadd, 1) := by decide +kernel
theorem dX1_chanceOfOneNote_76 : decode cX1_chanceOfOneNote 76 = .ok (.istore 5, 2) := by decide +kernel
theorem dX1_chanceOfOneNote_78 : decode cX1_chanceOfOneNote 78 = .ok (.iinc 6 1, 3) := by decide +kernel
theorem dX1_chanceOfOneNote_81 : decode cX1_chanceOfOneNote 81 = .ok (.goto (-66), 3) := by decide +kernel
theorem dX1_chanceOfOneNote_84 : decode cX1_chanceOfOneNote 84 = .ok (.iload 5, 2) := by decide +kernel
theorem dX1_chanceOfOneNote_86 : decode cX1_chanceOfOneNote 86 = .ok (.bipush 10, 2) := by decide +kernel
theorem dX1_chanceOfOneNote_88 : decode cX1_chanceOfOneNote 88 = .ok (.aload_n 0, 1) := by decide +kernel
theorem dX1_chanceOfOneNote_89 : decode cX1_chanceOfOneNote 89 = .ok (.getfield 21, 3) := by decide +kernel
theorem dX1_chanceOfOneNote_92 : decode cX1_chanceOfOneNote 92 = .ok (.getfield 68, 3) := by decide +kernel
theorem dX1_chanceOfOneNote_95 : decode cX1_chanceOfOneNote 95 = .ok (.invokestatic 99, 3) := by decide +kernel
theorem dX1_chanceOfOneNote_98 : decode cX1_chanceOfOneNote 98 = .ok (.iload_n 3, 1) := by decide +kernel
theorem dX1_chanceOfOneNote_99 : decode cX1_chanceOfOneNote 99 = .ok (.invokestatic 74, 3) := by decide +kernel
theorem dX1_chanceOfOneNote_102 : decode cX1_chanceOfOneNote 102 = .ok (.ireturn, 1) := by decide +kernel
theorem dX2_init_0 : decode cX2_init 0 = .ok (.aload_n 0, 1) := by decide +kernel
theorem dX2_init_1 : decode cX2_init 1 = .ok (.invokespecial 3, 3) := by decide +kernel
theorem dX2_init_4 : decode cX2_init 4 = .ok (.aload_n 0, 1) := by decide +kernel
theorem dX2_init_5 : decode cX2_init 5 = .ok (.bipush 61, 2) := by decide +kernel
theorem dX2_init_7 : decode cX2_init 7 = .ok (.newarray .int, 2) := by decide +kernel
theorem dX2_init_9 : decode cX2_init 9 = .ok (.putfield 9, 3) := by decide +kernel
theorem dX2_init_12 : decode cX2_init 12 = .ok (.aload_n 0, 1) := by decide +kernel
theorem dX2_init_13 : decode cX2_init 13 = .ok (.aload_n 1, 1) := by decide +kernel
theorem dX2_init_14 : decode cX2_init 14 = .ok (.putfield 15, 3) := by decide +kernel
theorem dX2_init_17 : decode cX2_init 17 = .ok (.aload_n 0, 1) := by decide +kernel
theorem dX2_init_18 : decode cX2_init 18 = .ok (.aload_n 2, 1) := by decide +kernel
theorem dX2_init_19 : decode cX2_init 19 = .ok (.putfield 19, 3) := by decide +kernel
theorem dX2_init_22 : decode cX2_init 22 = .ok (.aload_n 0, 1) := by decide +kernel
theorem dX2_init_23 : decode cX2_init 23 = .ok (.aload_n 3, 1) := by decide +kernel
theorem dX2_init_24 : decode cX2_init 24 = .ok (.putfield 23, 3) := by decide +kernel
theorem dX2_init_27 : decode cX2_init 27 = .ok (.return_, 1) := by decide +kernel
theorem dX2_noteBehind_0 : decode cX2_noteBehind 0 = .ok (.aload_n 0, 1) := by decide +kernel
theorem dX2_noteBehind_1 : decode cX2_noteBehind 1 = .ok (.getfield 23, 3) := by decide +kernel
theorem dX2_noteBehind_4 : decode cX2_noteBehind 4 = .ok (.aload_n 0, 1) := by decide +kernel
theorem dX2_noteBehind_5 : decode cX2_noteBehind 5 = .ok (.getfield 19, 3) := by decide +kernel
theorem dX2_noteBehind_8 : decode cX2_noteBehind 8 = .ok (.invokevirtual 26, 3) := by decide +kernel
theorem dX2_noteBehind_11 : decode cX2_noteBehind 11 = .ok (.aload_n 0, 1) := by decide +kernel
theorem dX2_noteBehind_12 : decode cX2_noteBehind 12 = .ok (.getfield 23, 3) := by decide +kernel
theorem dX2_noteBehind_15 : decode cX2_noteBehind 15 = .ok (.iload_n 2, 1) := by decide +kernel
theorem dX2_noteBehind_16 : decode cX2_noteBehind 16 = .ok (.invokevirtual 32, 3) := by decide +kernel
theorem dX2_noteBehind_19 : decode cX2_noteBehind 19 = .ok (.aload_n 0, 1) := by decide +kernel
theorem dX2_noteBehind_20 : decode cX2_noteBehind 20 = .ok (.getfield 23, 3) := by decide +kernel
theorem dX2_noteBehind_23 : decode cX2_noteBehind 23 = .ok (.getfield 36, 3) := by decide +kernel
theorem dX2_noteBehind_26 : decode cX2_noteBehind 26 = .ok (.iload_n 1, 1) := by decide +kernel
theorem dX2_noteBehind_27 : decode cX2_noteBehind 27 = .ok (.iaload, 1) := by decide +kernel
theorem dX2_noteBehind_28 : decode cX2_noteBehind 28 = .ok (.ireturn, 1) := by decide +kernel
theorem dX2_richnessBehind_0 : decode cX2_richnessBehind 0 = .ok (.aload_n 0, 1) := by decide +kernel
theorem dX2_richnessBehind_1 : decode cX2_richnessBehind 1 = .ok (.getfield 23, 3) := by decide +kernel
theorem dX2_richnessBehind_4 : decode cX2_richnessBehind 4 = .ok (.aload_n 0, 1) := by decide +kernel
theorem dX2_richnessBehind_5 : decode cX2_richnessBehind 5 = .ok (.getfield 19, 3) := by decide +kernel
theorem dX2_richnessBehind_8 : decode cX2_richnessBehind 8 = .ok (.invokevirtual 26, 3) := by decide +kernel
theorem dX2_richnessBehind_11 : decode cX2_richnessBehind 11 = .ok (.aload_n 0, 1) := by decide +kernel
theorem dX2_richnessBehind_12 : decode cX2_richnessBehind 12 = .ok (.getfield 23, 3) := by decide +kernel
theorem dX2_richnessBehind_15 : decode cX2_richnessBehind 15 = .ok (.iload_n 1, 1) := by decide +kernel
theorem dX2_richnessBehind_16 : decode cX2_richnessBehind 16 = .ok (.invokevirtual 32, 3) := by decide +kernel
theorem dX2_richnessBehind_19 : decode cX2_richnessBehind 19 = .ok (.aload_n 0, 1) := by decide +kernel
theorem dX2_richnessBehind_20 : decode cX2_richnessBehind 20 = .ok (.getfield 23, 3) := by decide +kernel
theorem dX2_richnessBehind_23 : decode cX2_richnessBehind 23 = .ok (.invokevirtual 39, 3) := by decide +kernel
theorem dX2_richnessBehind_26 : decode cX2_richnessBehind 26 = .ok (.ireturn, 1) := by decide +kernel
theorem dX2_firstReturn_0 : decode cX2_firstReturn 0 = .ok (.aload_n 0, 1) := by decide +kernel
theorem dX2_firstReturn_1 : decode cX2_firstReturn 1 = .ok (.getfield 23, 3) := by decide +kernel
theorem dX2_firstReturn_4 : decode cX2_firstReturn 4 = .ok (.aload_n 0, 1) := by decide +kernel
theorem dX2_firstReturn_5 : decode cX2_firstReturn 5 = .ok (.getfield 19, 3) := by decide +kernel
theorem dX2_firstReturn_8 : decode cX2_firstReturn 8 = .ok (.invokevirtual 26, 3) := by decide +kernel
theorem dX2_firstReturn_11 : decode cX2_firstReturn 11 = .ok (.iconst 0, 1) := by decide +kernel
theorem dX2_firstReturn_12 : decode cX2_firstReturn 12 = .ok (.istore_n 2, 1) := by decide +kernel
theorem dX2_firstReturn_13 : decode cX2_firstReturn 13 = .ok (.iload_n 2, 1) := by decide +kernel
theorem dX2_firstReturn_14 : decode cX2_firstReturn 14 = .ok (.bipush 60, 2) := by decide +kernel
theorem dX2_firstReturn_16 : decode cX2_firstReturn 16 = .ok (.if_icmp .gt 30, 3) := by decide +kernel
theorem dX2_firstReturn_19 : decode cX2_firstReturn 19 = .ok (.aload_n 0, 1) := by decide +kernel
theorem dX2_firstReturn_20 : decode cX2_firstReturn 20 = .ok (.getfield 9, 3) := by decide +kernel
theorem dX2_firstReturn_23 : decode cX2_firstReturn 23 = .ok (.iload_n 2, 1) := by decide +kernel
theorem dX2_firstReturn_24 : decode cX2_firstReturn 24 = .ok (.aload_n 0, 1) := by decide +kernel
theorem dX2_firstReturn_25 : decode cX2_firstReturn 25 = .ok (.getfield 23, 3) := by decide +kernel
theorem dX2_firstReturn_28 : decode cX2_firstReturn 28 = .ok (.invokevirtual 43, 3) := by decide +kernel
theorem dX2_firstReturn_31 : decode cX2_firstReturn 31 = .ok (.iastore, 1) := by decide +kernel
theorem dX2_firstReturn_32 : decode cX2_firstReturn 32 = .ok (.aload_n 0, 1) := by decide +kernel
theorem dX2_firstReturn_33 : decode cX2_firstReturn 33 = .ok (.getfield 23, 3) := by decide +kernel
theorem dX2_firstReturn_36 : decode cX2_firstReturn 36 = .ok (.iconst 1, 1) := by decide +kernel
theorem dX2_firstReturn_37 : decode cX2_firstReturn 37 = .ok (.invokevirtual 32, 3) := by decide +kernel
theorem dX2_firstReturn_40 : decode cX2_firstReturn 40 = .ok (.iinc 2 1, 3) := by decide +kernel
theorem dX2_firstReturn_43 : decode cX2_firstReturn 43 = .ok (.goto (-30), 3) := by decide +kernel
theorem dX2_firstReturn_46 : decode cX2_firstReturn 46 = .ok (.iconst 0, 1) := by decide +kernel
theorem dX2_firstReturn_47 : decode cX2_firstReturn 47 = .ok (.istore_n 2, 1) := by decide +kernel
theorem dX2_firstReturn_48 : decode cX2_firstReturn 48 = .ok (.iload_n 2, 1) := by decide +kernel
theorem dX2_firstReturn_49 : decode cX2_firstReturn 49 = .ok (.bipush 60, 2) := by decide +kernel
theorem dX2_firstReturn_51 : decode cX2_firstReturn 51 = .ok (.if_icmp .ge 52, 3) := by decide +kernel
theorem dX2_firstReturn_54 : decode cX2_firstReturn 54 = .ok (.iload_n 2, 1) := by decide +kernel
theorem dX2_firstReturn_55 : decode cX2_firstReturn 55 = .ok (.iconst 1, 1) := by decide +kernel
theorem dX2_firstReturn_56 : decode cX2_firstReturn 56 = .ok (.iadd, 1) := by decide +kernel
theorem dX2_firstReturn_57 : decode cX2_firstReturn 57 = .ok (.istore_n 3, 1) := by decide +kernel
theorem dX2_firstReturn_58 : decode cX2_firstReturn 58 = .ok (.iload_n 3, 1) := by decide +kernel
theorem dX2_firstReturn_59 : decode cX2_firstReturn 59 = .ok (.bipush 60, 2) := by decide +kernel
theorem dX2_firstReturn_61 : decode cX2_firstReturn 61 = .ok (.if_icmp .gt 36, 3) := by decide +kernel
theorem dX2_firstReturn_64 : decode cX2_firstReturn 64 = .ok (.aload_n 0, 1) := by decide +kernel
theorem dX2_firstReturn_65 : decode cX2_firstReturn 65 = .ok (.getfield 9, 3) := by decide +kernel
theorem dX2_firstReturn_68 : decode cX2_firstReturn 68 = .ok (.iload_n 2, 1) := by decide +kernel
theorem dX2_firstReturn_69 : decode cX2_firstReturn 69 = .ok (.iaload, 1) := by decide +kernel
theorem dX2_firstReturn_70 : decode cX2_firstReturn 70 = .ok (.aload_n 0, 1) := by decide +kernel
theorem dX2_firstReturn_71 : decode cX2_firstReturn 71 = .ok (.getfield 9, 3) := by decide +kernel
theorem dX2_firstReturn_74 : decode cX2_firstReturn 74 = .ok (.iload_n 3, 1) := by decide +kernel
theorem dX2_firstReturn_75 : decode cX2_firstReturn 75 = .ok (.iaload, 1) := by decide +kernel
theorem dX2_firstReturn_76 : decode cX2_firstReturn 76 = .ok (.if_icmp .ne 15, 3) := by decide +kernel
theorem dX2_firstReturn_79 : decode cX2_firstReturn 79 = .ok (.iload_n 1, 1) := by decide +kernel
theorem dX2_firstReturn_80 : decode cX2_firstReturn 80 = .ok (.ifCond .eq 9, 3) := by decide +kernel
theorem dX2_firstReturn_83 : decode cX2_firstReturn 83 = .ok (.iload_n 3, 1) := by decide +kernel
theorem dX2_firstReturn_84 : decode cX2_firstReturn 84 = .ok (.iload_n 2, 1) := by decide +kernel
theorem dX2_firstReturn_85 : decode cX2_firstReturn 85 = .ok (.isub, 1) := by decide +kernel
theorem dX2_firstReturn_86 : decode cX2_firstReturn 86 = .ok (.goto 4, 3) := by decide +kernel
theorem dX2_firstReturn_89 : decode cX2_firstReturn 89 = .ok (.iload_n 2, 1) := by decide +kernel
theorem dX2_firstReturn_90 : decode cX2_firstReturn 90 = .ok (.ireturn, 1) := by decide +kernel
theorem dX2_firstReturn_91 : decode cX2_firstReturn 91 = .ok (.iinc 3 1, 3) := by decide +kernel
theorem dX2_firstReturn_94 : decode cX2_firstReturn 94 = .ok (.goto (-36), 3) := by decide +kernel
theorem dX2_firstReturn_97 : decode cX2_firstReturn 97 = .ok (.iinc 2 1, 3) := by decide +kernel
theorem dX2_firstReturn_100 : decode cX2_firstReturn 100 = .ok (.goto (-52), 3) := by decide +kernel
theorem dX2_firstReturn_103 : decode cX2_firstReturn 103 = .ok (.bipush (-9), 2) := by decide +kernel
theorem dX2_firstReturn_105 : decode cX2_firstReturn 105 = .ok (.ireturn, 1) := by decide +kernel
theorem dX2_firstOneNote_0 : decode cX2_firstOneNote 0 = .ok (.aload_n 0, 1) := by decide +kernel
theorem dX2_firstOneNote_1 : decode cX2_firstOneNote 1 = .ok (.getfield 23, 3) := by decide +kernel
theorem dX2_firstOneNote_4 : decode cX2_firstOneNote 4 = .ok (.aload_n 0, 1) := by decide +kernel
theorem dX2_firstOneNote_5 : decode cX2_firstOneNote 5 = .ok (.getfield 19, 3) := by decide +kernel
theorem dX2_firstOneNote_8 : decode cX2_firstOneNote 8 = .ok (.invokevirtual 26, 3) := by decide +kernel
theorem dX2_firstOneNote_11 : decode cX2_firstOneNote 11 = .ok (.iconst 0, 1) := by decide +kernel
theorem dX2_firstOneNote_12 : decode cX2_firstOneNote 12 = .ok (.istore_n 1, 1) := by decide +kernel
theorem dX2_firstOneNote_13 : decode cX2_firstOneNote 13 = .ok (.iload_n 1, 1) := by decide +kernel
theorem dX2_firstOneNote_14 : decode cX2_firstOneNote 14 = .ok (.bipush 60, 2) := by decide +kernel
theorem dX2_firstOneNote_16 : decode cX2_firstOneNote 16 = .ok (.if_icmp .gt 30, 3) := by decide +kernel
theorem dX2_firstOneNote_19 : decode cX2_firstOneNote 19 = .ok (.aload_n 0, 1) := by decide +kernel
theorem dX2_firstOneNote_20 : decode cX2_firstOneNote 20 = .ok (.getfield 23, 3) := by decide +kernel
theorem dX2_firstOneNote_23 : decode cX2_firstOneNote 23 = .ok (.invokevirtual 39, 3) := by decide +kernel
theorem dX2_firstOneNote_26 : decode cX2_firstOneNote 26 = .ok (.iconst 1, 1) := by decide +kernel
theorem dX2_firstOneNote_27 : decode cX2_firstOneNote 27 = .ok (.if_icmp .gt 5, 3) := by decide +kernel
theorem dX2_firstOneNote_30 : decode cX2_firstOneNote 30 = .ok (.iload_n 1, 1) := by decide +kernel
theorem dX2_firstOneNote_31 : decode cX2_firstOneNote 31 = .ok (.ireturn, 1) := by decide +kernel
theorem dX2_firstOneNote_32 : decode cX2_firstOneNote 32 = .ok (.aload_n 0, 1) := by decide +kernel
theorem dX2_firstOneNote_33 : decode cX2_firstOneNote 33 = .ok (.getfield 23, 3) := by decide +kernel
theorem dX2_firstOneNote_36 : decode cX2_firstOneNote 36 = .ok (.iconst 1, 1) := by decide +kernel
theorem dX2_firstOneNote_37 : decode cX2_firstOneNote 37 = .ok (.invokevirtual 32, 3) := by decide +kernel
theorem dX2_firstOneNote_40 : decode cX2_firstOneNote 40 = .ok (.iinc 1 1, 3) := by decide +kernel
theorem dX2_firstOneNote_43 : decode cX2_firstOneNote 43 = .ok (.goto (-30), 3) := by decide +kernel
theorem dX2_firstOneNote_46 : decode cX2_firstOneNote 46 = .ok (.bipush (-9), 2) := by decide +kernel
theorem dX2_firstOneNote_48 : decode cX2_firstOneNote 48 = .ok (.ireturn, 1) := by decide +kernel
theorem dX2_leastGift_0 : decode cX2_leastGift 0 = .ok (.aload_n 0, 1) := by decide +kernel
theorem dX2_leastGift_1 : decode cX2_leastGift 1 = .ok (.iload_n 1, 1) := by decide +kernel
theorem dX2_leastGift_2 : decode cX2_leastGift 2 = .ok (.iload_n 3, 1) := by decide +kernel
theorem dX2_leastGift_3 : decode cX2_leastGift 3 = .ok (.invokevirtual 46, 3) := by decide +kernel
theorem dX2_leastGift_6 : decode cX2_leastGift 6 = .ok (.iload_n 2, 1) := by decide +kernel
theorem dX2_leastGift_7 : decode cX2_leastGift 7 = .ok (.if_icmp .ne 15, 3) := by decide +kernel
theorem dX2_leastGift_10 : decode cX2_leastGift 10 = .ok (.iload 4, 2) := by decide +kernel
theorem dX2_leastGift_12 : decode cX2_leastGift 12 = .ok (.ifCond .eq 8, 3) := by decide +kernel
theorem dX2_leastGift_15 : decode cX2_leastGift 15 = .ok (.bipush (-9), 2) := by decide +kernel
theorem dX2_leastGift_17 : decode cX2_leastGift 17 = .ok (.goto 4, 3) := by decide +kernel
theorem dX2_leastGift_20 : decode cX2_leastGift 20 = .ok (.iconst 0, 1) := by decide +kernel
theorem dX2_leastGift_21 : decode cX2_leastGift 21 = .ok (.ireturn, 1) := by decide +kernel
theorem dX2_leastGift_22 : decode cX2_leastGift 22 = .ok (.iconst 1, 1) := by decide +kernel
theorem dX2_leastGift_23 : decode cX2_leastGift 23 = .ok (.istore 5, 2) := by decide +kernel
theorem dX2_leastGift_25 : decode cX2_leastGift 25 = .ok (.iload 5, 2) := by decide +kernel
theorem dX2_leastGift_27 : decode cX2_leastGift 27 = .ok (.bipush 9, 2) := by decide +kernel
theorem dX2_leastGift_29 : decode cX2_leastGift 29 = .ok (.if_icmp .gt 86, 3) := by decide +kernel
theorem dX2_leastGift_32 : decode cX2_leastGift 32 = .ok (.iconst 0, 1) := by decide +kernel
theorem dX2_leastGift_33 : decode cX2_leastGift 33 = .ok (.istore 6, 2) := by decide +kernel
theorem dX2_leastGift_35 : decode cX2_leastGift 35 = .ok (.iload 6, 2) := by decide +kernel
theorem dX2_leastGift_37 : decode cX2_leastGift 37 = .ok (.aload_n 0, 1) := by decide +kernel
theorem dX2_leastGift_38 : decode cX2_leastGift 38 = .ok (.getfield 15, 3) := by decide +kernel
theorem dX2_leastGift_41 : decode cX2_leastGift 41 = .ok (.getfield 50, 3) := by decide +kernel
theorem dX2_leastGift_44 : decode cX2_leastGift 44 = .ok (.if_icmp .ge 65, 3) := by decide +kernel
theorem dX2_leastGift_47 : decode cX2_leastGift 47 = .ok (.aload_n 0, 1) := by decide +kernel
theorem dX2_leastGift_48 : decode cX2_leastGift 48 = .ok (.getfield 23, 3) := by decide +kernel
theorem dX2_leastGift_51 : decode cX2_leastGift 51 = .ok (.aload_n 0, 1) := by decide +kernel
theorem dX2_leastGift_52 : decode cX2_leastGift 52 = .ok (.getfield 19, 3) := by decide +kernel
theorem dX2_leastGift_55 : decode cX2_leastGift 55 = .ok (.invokevirtual 26, 3) := by decide +kernel
theorem dX2_leastGift_58 : decode cX2_leastGift 58 = .ok (.aload_n 0, 1) := by decide +kernel
theorem dX2_leastGift_59 : decode cX2_leastGift 59 = .ok (.getfield 23, 3) := by decide +kernel
theorem dX2_leastGift_62 : decode cX2_leastGift 62 = .ok (.iload 6, 2) := by decide +kernel
theorem dX2_leastGift_64 : decode cX2_leastGift 64 = .ok (.iload 5, 2) := by decide +kernel
theorem dX2_leastGift_66 : decode cX2_leastGift 66 = .ok (.invokevirtual 56, 3) := by decide +kernel
theorem dX2_leastGift_69 : decode cX2_leastGift 69 = .ok (.aload_n 0, 1) := by decide +kernel
theorem dX2_leastGift_70 : decode cX2_leastGift 70 = .ok (.getfield 23, 3) := by decide +kernel
theorem dX2_leastGift_73 : decode cX2_leastGift 73 = .ok (.iload_n 3, 1) := by decide +kernel
theorem dX2_leastGift_74 : decode cX2_leastGift 74 = .ok (.invokevirtual 32, 3) := by decide +kernel
theorem dX2_leastGift_77 : decode cX2_leastGift 77 = .ok (.aload_n 0, 1) := by decide +kernel
theorem dX2_leastGift_78 : decode cX2_leastGift 78 = .ok (.getfield 23, 3) := by decide +kernel
theorem dX2_leastGift_81 : decode cX2_leastGift 81 = .ok (.getfield 36, 3) := by decide +kernel
theorem dX2_leastGift_84 : decode cX2_leastGift 84 = .ok (.iload_n 1, 1) := by decide +kernel
theorem dX2_leastGift_85 : decode cX2_leastGift 85 = .ok (.iaload, 1) := by decide +kernel
theorem dX2_leastGift_86 : decode cX2_leastGift 86 = .ok (.iload_n 2, 1) := by decide +kernel
theorem dX2_leastGift_87 : decode cX2_leastGift 87 = .ok (.if_icmp .ne 16, 3) := by decide +kernel
theorem dX2_leastGift_90 : decode cX2_leastGift 90 = .ok (.iload 4, 2) := by decide +kernel
theorem dX2_leastGift_92 : decode cX2_leastGift 92 = .ok (.ifCond .eq 8, 3) := by decide +kernel
theorem dX2_leastGift_95 : decode cX2_leastGift 95 = .ok (.iload 6, 2) := by decide +kernel
theorem dX2_leastGift_97 : decode cX2_leastGift 97 = .ok (.goto 5, 3) := by decide +kernel
theorem dX2_leastGift_100 : decode cX2_leastGift 100 = .ok (.iload 5, 2) := by decide +kernel
theorem dX2_leastGift_102 : decode cX2_leastGift 102 = .ok (.ireturn, 1) := by decide +kernel
theorem dX2_leastGift_103 : decode cX2_leastGift 103 = .ok (.iinc 6 1, 3) := by decide +kernel
theorem dX2_leastGift_106 : decode cX2_leastGift 106 = .ok (.goto (-71), 3) := by decide +kernel
theorem dX2_leastGift_109 : decode cX2_leastGift 109 = .ok (.iinc 5 1, 3) := by decide +kernel
theorem dX2_leastGift_112 : decode cX2_leastGift 112 = .ok (.goto (-87), 3) := by decide +kernel
theorem dX2_leastGift_115 : decode cX2_leastGift 115 = .ok (.bipush (-9), 2) := by decide +kernel
theorem dX2_leastGift_117 : decode cX2_leastGift 117 = .ok (.ireturn, 1) := by decide +kernel
theorem dX2_richestChange_0 : decode cX2_richestChange 0 = .ok (.aload_n 0, 1) := by decide +kernel
theorem dX2_richestChange_1 : decode cX2_richestChange 1 = .ok (.iload_n 1, 1) := by decide +kernel
theorem dX2_richestChange_2 : decode cX2_richestChange 2 = .ok (.invokevirtual 60, 3) := by decide +kernel
theorem dX2_richestChange_5 : decode cX2_richestChange 5 = .ok (.istore_n 3, 1) := by decide +kernel
theorem dX2_richestChange_6 : decode cX2_richestChange 6 = .ok (.bipush 99, 2) := by decide +kernel
theorem dX2_richestChange_8 : decode cX2_richestChange 8 = .ok (.istore 4, 2) := by decide +kernel
theorem dX2_richestChange_10 : decode cX2_richestChange 10 = .ok (.iconst 0, 1) := by decide +kernel
theorem dX2_richestChange_11 : decode cX2_richestChange 11 = .ok (.istore 5, 2) := by decide +kernel
theorem dX2_richestChange_13 : decode cX2_richestChange 13 = .ok (.iload 5, 2) := by decide +kernel
theorem dX2_richestChange_15 : decode cX2_richestChange 15 = .ok (.aload_n 0, 1) := by decide +kernel
theorem dX2_richestChange_16 : decode cX2_richestChange 16 = .ok (.getfield 15, 3) := by decide +kernel
theorem dX2_richestChange_19 : decode cX2_richestChange 19 = .ok (.getfield 50, 3) := by decide +kernel
theorem dX2_richestChange_22 : decode cX2_richestChange 22 = .ok (.if_icmp .ge 91, 3) := by decide +kernel
theorem dX2_richestChange_25 : decode cX2_richestChange 25 = .ok (.iload 5, 2) := by decide +kernel
theorem dX2_richestChange_27 : decode cX2_richestChange 27 = .ok (.iconst 1, 1) := by decide +kernel
theorem dX2_richestChange_28 : decode cX2_richestChange 28 = .ok (.iadd, 1) := by decide +kernel
theorem dX2_richestChange_29 : decode cX2_richestChange 29 = .ok (.istore 6, 2) := by decide +kernel
theorem dX2_richestChange_31 : decode cX2_richestChange 31 = .ok (.iload 6, 2) := by decide +kernel
theorem dX2_richestChange_33 : decode cX2_richestChange 33 = .ok (.aload_n 0, 1) := by decide +kernel
theorem dX2_richestChange_34 : decode cX2_richestChange 34 = .ok (.getfield 15, 3) := by decide +kernel
theorem dX2_richestChange_37 : decode cX2_richestChange 37 = .ok (.getfield 50, 3) := by decide +kernel
theorem dX2_richestChange_40 : decode cX2_richestChange 40 = .ok (.if_icmp .ge 67, 3) := by decide +kernel
theorem dX2_richestChange_43 : decode cX2_richestChange 43 = .ok (.aload_n 0, 1) := by decide +kernel
theorem dX2_richestChange_44 : decode cX2_richestChange 44 = .ok (.getfield 23, 3) := by decide +kernel
theorem dX2_richestChange_47 : decode cX2_richestChange 47 = .ok (.aload_n 0, 1) := by decide +kernel
theorem dX2_richestChange_48 : decode cX2_richestChange 48 = .ok (.getfield 19, 3) := by decide +kernel
theorem dX2_richestChange_51 : decode cX2_richestChange 51 = .ok (.invokevirtual 26, 3) := by decide +kernel
theorem dX2_richestChange_54 : decode cX2_richestChange 54 = .ok (.aload_n 0, 1) := by decide +kernel
theorem dX2_richestChange_55 : decode cX2_richestChange 55 = .ok (.getfield 23, 3) := by decide +kernel
theorem dX2_richestChange_58 : decode cX2_richestChange 58 = .ok (.iload 5, 2) := by decide +kernel
theorem dX2_richestChange_60 : decode cX2_richestChange 60 = .ok (.iload 6, 2) := by decide +kernel
theorem dX2_richestChange_62 : decode cX2_richestChange 62 = .ok (.invokevirtual 64, 3) := by decide +kernel
theorem dX2_richestChange_65 : decode cX2_richestChange 65 = .ok (.aload_n 0, 1) := by decide +kernel
theorem dX2_richestChange_66 : decode cX2_richestChange 66 = .ok (.getfield 23, 3) := by decide +kernel
theorem dX2_richestChange_69 : decode cX2_richestChange 69 = .ok (.iload_n 1, 1) := by decide +kernel
theorem dX2_richestChange_70 : decode cX2_richestChange 70 = .ok (.invokevirtual 32, 3) := by decide +kernel
theorem dX2_richestChange_73 : decode cX2_richestChange 73 = .ok (.aload_n 0, 1) := by decide +kernel
theorem dX2_richestChange_74 : decode cX2_richestChange 74 = .ok (.getfield 23, 3) := by decide +kernel
theorem dX2_richestChange_77 : decode cX2_richestChange 77 = .ok (.invokevirtual 39, 3) := by decide +kernel
theorem dX2_richestChange_80 : decode cX2_richestChange 80 = .ok (.istore 7, 2) := by decide +kernel
theorem dX2_richestChange_82 : decode cX2_richestChange 82 = .ok (.iload 7, 2) := by decide +kernel
theorem dX2_richestChange_84 : decode cX2_richestChange 84 = .ok (.iload_n 3, 1) := by decide +kernel
theorem dX2_richestChange_85 : decode cX2_richestChange 85 = .ok (.if_icmp .le 16, 3) := by decide +kernel
theorem dX2_richestChange_88 : decode cX2_richestChange 88 = .ok (.iload 7, 2) := by decide +kernel
theorem dX2_richestChange_90 : decode cX2_richestChange 90 = .ok (.istore_n 3, 1) := by decide +kernel
theorem dX2_richestChange_91 : decode cX2_richestChange 91 = .ok (.bipush 10, 2) := by decide +kernel
theorem dX2_richestChange_93 : decode cX2_richestChange 93 = .ok (.iload 5, 2) := by decide +kernel
theorem dX2_richestChange_95 : decode cX2_richestChange 95 = .ok (.imul, 1) := by decide +kernel
theorem dX2_richestChange_96 : decode cX2_richestChange 96 = .ok (.iload 6, 2) := by decide +kernel
theorem dX2_richestChange_98 : decode cX2_richestChange 98 = .ok (.iadd, 1) := by decide +kernel
theorem dX2_richestChange_99 : decode cX2_richestChange 99 = .ok (.istore 4, 2) := by decide +kernel
theorem dX2_richestChange_101 : decode cX2_richestChange 101 = .ok (.iinc 6 1, 3) := by decide +kernel
theorem dX2_richestChange_104 : decode cX2_richestChange 104 = .ok (.goto (-73), 3) := by decide +kernel
theorem dX2_richestChange_107 : decode cX2_richestChange 107 = .ok (.iinc 5 1, 3) := by decide +kernel
theorem dX2_richestChange_110 : decode cX2_richestChange 110 = .ok (.goto (-97), 3) := by decide +kernel
theorem dX2_richestChange_113 : decode cX2_richestChange 113 = .ok (.iload_n 2, 1) := by decide +kernel
theorem dX2_richestChange_114 : decode cX2_richestChange 114 = .ok (.ifCond .eq 8, 3) := by decide +kernel
theorem dX2_richestChange_117 : decode cX2_richestChange 117 = .ok (.iload 4, 2) := by decide +kernel
theorem dX2_richestChange_119 : decode cX2_richestChange 119 = .ok (.goto 4, 3) := by decide +kernel
theorem dX2_richestChange_122 : decode cX2_richestChange 122 = .ok (.iload_n 3, 1) := by decide +kernel
theorem dX2_richestChange_123 : decode cX2_richestChange 123 = .ok (.ireturn, 1) := by decide +kernel
theorem dX2_firstWrongDoing_0 : decode cX2_firstWrongDoing 0 = .ok (.aload_n 0, 1) := by decide +kernel
theorem dX2_firstWrongDoing_1 : decode cX2_firstWrongDoing 1 = .ok (.getfield 23, 3) := by decide +kernel
theorem dX2_firstWrongDoing_4 : decode cX2_firstWrongDoing 4 = .ok (.aload_n 0, 1) := by decide +kernel
theorem dX2_firstWrongDoing_5 : decode cX2_firstWrongDoing 5 = .ok (.getfield 19, 3) := by decide +kernel
theorem dX2_firstWrongDoing_8 : decode cX2_firstWrongDoing 8 = .ok (.invokevirtual 26, 3) := by decide +kernel
theorem dX2_firstWrongDoing_11 : decode cX2_firstWrongDoing 11 = .ok (.iconst 0, 1) := by decide +kernel
theorem dX2_firstWrongDoing_12 : decode cX2_firstWrongDoing 12 = .ok (.istore 4, 2) := by decide +kernel
theorem dX2_firstWrongDoing_14 : decode cX2_firstWrongDoing 14 = .ok (.iload 4, 2) := by decide +kernel
theorem dX2_firstWrongDoing_16 : decode cX2_firstWrongDoing 16 = .ok (.iload_n 1, 1) := by decide +kernel
theorem dX2_firstWrongDoing_17 : decode cX2_firstWrongDoing 17 = .ok (.if_icmp .ge 76, 3) := by decide +kernel
theorem dX2_firstWrongDoing_20 : decode cX2_firstWrongDoing 20 = .ok (.lload_n 2, 1) := by decide +kernel
theorem dX2_firstWrongDoing_21 : decode cX2_firstWrongDoing 21 = .ok (.iload_n 1, 1) := by decide +kernel
theorem dX2_firstWrongDoing_22 : decode cX2_firstWrongDoing 22 = .ok (.iconst 1, 1) := by decide +kernel
theorem dX2_firstWrongDoing_23 : decode cX2_firstWrongDoing 23 = .ok (.isub, 1) := by decide +kernel
theorem dX2_firstWrongDoing_24 : decode cX2_firstWrongDoing 24 = .ok (.iload 4, 2) := by decide +kernel
theorem dX2_firstWrongDoing_26 : decode cX2_firstWrongDoing 26 = .ok (.isub, 1) := by decide +kernel
theorem dX2_firstWrongDoing_27 : decode cX2_firstWrongDoing 27 = .ok (.invokestatic 67, 3) := by decide +kernel
theorem dX2_firstWrongDoing_30 : decode cX2_firstWrongDoing 30 = .ok (.ldc2_w 71, 3) := by decide +kernel
theorem dX2_firstWrongDoing_33 : decode cX2_firstWrongDoing 33 = .ok (.lrem, 1) := by decide +kernel
theorem dX2_firstWrongDoing_34 : decode cX2_firstWrongDoing 34 = .ok (.l2i, 1) := by decide +kernel
theorem dX2_firstWrongDoing_35 : decode cX2_firstWrongDoing 35 = .ok (.istore 5, 2) := by decide +kernel
theorem dX2_firstWrongDoing_37 : decode cX2_firstWrongDoing 37 = .ok (.iload 5, 2) := by decide +kernel
theorem dX2_firstWrongDoing_39 : decode cX2_firstWrongDoing 39 = .ok (.bipush 100, 2) := by decide +kernel
theorem dX2_firstWrongDoing_41 : decode cX2_firstWrongDoing 41 = .ok (.idiv, 1) := by decide +kernel
theorem dX2_firstWrongDoing_42 : decode cX2_firstWrongDoing 42 = .ok (.istore 6, 2) := by decide +kernel
theorem dX2_firstWrongDoing_44 : decode cX2_firstWrongDoing 44 = .ok (.iload 5, 2) := by decide +kernel
theorem dX2_firstWrongDoing_46 : decode cX2_firstWrongDoing 46 = .ok (.bipush 10, 2) := by decide +kernel
theorem dX2_firstWrongDoing_48 : decode cX2_firstWrongDoing 48 = .ok (.idiv, 1) := by decide +kernel
theorem dX2_firstWrongDoing_49 : decode cX2_firstWrongDoing 49 = .ok (.bipush 10, 2) := by decide +kernel
theorem dX2_firstWrongDoing_51 : decode cX2_firstWrongDoing 51 = .ok (.irem, 1) := by decide +kernel
theorem dX2_firstWrongDoing_52 : decode cX2_firstWrongDoing 52 = .ok (.istore 7, 2) := by decide +kernel
theorem dX2_firstWrongDoing_54 : decode cX2_firstWrongDoing 54 = .ok (.iload 5, 2) := by decide +kernel
theorem dX2_firstWrongDoing_56 : decode cX2_firstWrongDoing 56 = .ok (.bipush 10, 2) := by decide +kernel
theorem dX2_firstWrongDoing_58 : decode cX2_firstWrongDoing 58 = .ok (.irem, 1) := by decide +kernel
theorem dX2_firstWrongDoing_59 : decode cX2_firstWrongDoing 59 = .ok (.istore 8, 2) := by decide +kernel
theorem dX2_firstWrongDoing_61 : decode cX2_firstWrongDoing 61 = .ok (.aload_n 0, 1) := by decide +kernel
theorem dX2_firstWrongDoing_62 : decode cX2_firstWrongDoing 62 = .ok (.iload 6, 2) := by decide +kernel
theorem dX2_firstWrongDoing_64 : decode cX2_firstWrongDoing 64 = .ok (.iload 7, 2) := by decide +kernel
theorem dX2_firstWrongDoing_66 : decode cX2_firstWrongDoing 66 = .ok (.iload 8, 2) := by decide +kernel
theorem dX2_firstWrongDoing_68 : decode cX2_firstWrongDoing 68 = .ok (.invokevirtual 73, 3) := by decide +kernel
theorem dX2_firstWrongDoing_71 : decode cX2_firstWrongDoing 71 = .ok (.ifCond .ne 6, 3) := by decide +kernel
theorem dX2_firstWrongDoing_74 : decode cX2_firstWrongDoing 74 = .ok (.iload 4, 2) := by decide +kernel
theorem dX2_firstWrongDoing_76 : decode cX2_firstWrongDoing 76 = .ok (.ireturn, 1) := by decide +kernel
theorem dX2_firstWrongDoing_77 : decode cX2_firstWrongDoing 77 = .ok (.aload_n 0, 1) := by decide +kernel
theorem dX2_firstWrongDoing_78 : decode cX2_firstWrongDoing 78 = .ok (.iload 6, 2) := by decide +kernel
theorem dX2_firstWrongDoing_80 : decode cX2_firstWrongDoing 80 = .ok (.iload 7, 2) := by decide +kernel
theorem dX2_firstWrongDoing_82 : decode cX2_firstWrongDoing 82 = .ok (.iload 8, 2) := by decide +kernel
theorem dX2_firstWrongDoing_84 : decode cX2_firstWrongDoing 84 = .ok (.invokevirtual 77, 3) := by decide +kernel
theorem dX2_firstWrongDoing_87 : decode cX2_firstWrongDoing 87 = .ok (.iinc 4 1, 3) := by decide +kernel
theorem dX2_firstWrongDoing_90 : decode cX2_firstWrongDoing 90 = .ok (.goto (-76), 3) := by decide +kernel
theorem dX2_firstWrongDoing_93 : decode cX2_firstWrongDoing 93 = .ok (.bipush (-9), 2) := by decide +kernel
theorem dX2_firstWrongDoing_95 : decode cX2_firstWrongDoing 95 = .ok (.ireturn, 1) := by decide +kernel
theorem dX2_canBe_0 : decode cX2_canBe 0 = .ok (.iload_n 1, 1) := by decide +kernel
theorem dX2_canBe_1 : decode cX2_canBe 1 = .ok (.tableswitch 166 0 5 #[39, 53, 74, 39, 107, 137], 39) := by decide +kernel
theorem dX2_canBe_40 : decode cX2_canBe 40 = .ok (.iload_n 2, 1) := by decide +kernel
theorem dX2_canBe_41 : decode cX2_canBe 41 = .ok (.ifCond .ne 11, 3) := by decide +kernel
theorem dX2_canBe_44 : decode cX2_canBe 44 = .ok (.iload_n 3, 1) := by decide +kernel
theorem dX2_canBe_45 : decode cX2_canBe 45 = .ok (.ifCond .ne 7, 3) := by decide +kernel
theorem dX2_canBe_48 : decode cX2_canBe 48 = .ok (.iconst 1, 1) := by decide +kernel
theorem dX2_canBe_49 : decode cX2_canBe 49 = .ok (.goto 4, 3) := by decide +kernel
theorem dX2_canBe_52 : decode cX2_canBe 52 = .ok (.iconst 0, 1) := by decide +kernel
theorem dX2_canBe_53 : decode cX2_canBe 53 = .ok (.ireturn, 1) := by decide +kernel
theorem dX2_canBe_54 : decode cX2_canBe 54 = .ok (.aload_n 0, 1) := by decide +kernel
theorem dX2_canBe_55 : decode cX2_canBe 55 = .ok (.getfield 23, 3) := by decide +kernel
theorem dX2_canBe_58 : decode cX2_canBe 58 = .ok (.iload_n 2, 1) := by decide +kernel
theorem dX2_canBe_59 : decode cX2_canBe 59 = .ok (.invokevirtual 81, 3) := by decide +kernel
theorem dX2_canBe_62 : decode cX2_canBe 62 = .ok (.ifCond .eq 11, 3) := by decide +kernel
theorem dX2_canBe_65 : decode cX2_canBe 65 = .ok (.iload_n 3, 1) := by decide +kernel
theorem dX2_canBe_66 : decode cX2_canBe 66 = .ok (.ifCond .le 7, 3) := by decide +kernel
theorem dX2_canBe_69 : decode cX2_canBe 69 = .ok (.iconst 1, 1) := by decide +kernel
theorem dX2_canBe_70 : decode cX2_canBe 70 = .ok (.goto 4, 3) := by decide +kernel
theorem dX2_canBe_73 : decode cX2_canBe 73 = .ok (.iconst 0, 1) := by decide +kernel
theorem dX2_canBe_74 : decode cX2_canBe 74 = .ok (.ireturn, 1) := by decide +kernel
theorem dX2_canBe_75 : decode cX2_canBe 75 = .ok (.aload_n 0, 1) := by decide +kernel
theorem dX2_canBe_76 : decode cX2_canBe 76 = .ok (.getfield 23, 3) := by decide +kernel
theorem dX2_canBe_79 : decode cX2_canBe 79 = .ok (.iload_n 2, 1) := by decide +kernel
theorem dX2_canBe_80 : decode cX2_canBe 80 = .ok (.invokevirtual 81, 3) := by decide +kernel
theorem dX2_canBe_83 : decode cX2_canBe 83 = .ok (.ifCond .eq 23, 3) := by decide +kernel
theorem dX2_canBe_86 : decode cX2_canBe 86 = .ok (.aload_n 0, 1) := by decide +kernel
theorem dX2_canBe_87 : decode cX2_canBe 87 = .ok (.getfield 23, 3) := by decide +kernel
theorem dX2_canBe_90 : decode cX2_canBe 90 = .ok (.iload_n 3, 1) := by decide +kernel
theorem dX2_canBe_91 : decode cX2_canBe 91 = .ok (.invokevirtual 81, 3) := by decide +kernel
theorem dX2_canBe_94 : decode cX2_canBe 94 = .ok (.ifCond .eq 12, 3) := by decide +kernel
theorem dX2_canBe_97 : decode cX2_canBe 97 = .ok (.iload_n 2, 1) := by decide +kernel
theorem dX2_canBe_98 : decode cX2_canBe 98 = .ok (.iload_n 3, 1) := by decide +kernel
theorem dX2_canBe_99 : decode cX2_canBe 99 = .ok (.if_icmp .eq 7, 3) := by decide +kernel
theorem dX2_canBe_102 : decode cX2_canBe 102 = .ok (.iconst 1, 1) := by decide +kernel
theorem dX2_canBe_103 : decode cX2_canBe 103 = .ok (.goto 4, 3) := by decide +kernel
theorem dX2_canBe_106 : decode cX2_canBe 106 = .ok (.iconst 0, 1) := by decide +kernel
theorem dX2_canBe_107 : decode cX2_canBe 107 = .ok (.ireturn, 1) := by decide +kernel
theorem dX2_canBe_108 : decode cX2_canBe 108 = .ok (.aload_n 0, 1) := by decide +kernel
theorem dX2_canBe_109 : decode cX2_canBe 109 = .ok (.getfield 23, 3) := by decide +kernel
theorem dX2_canBe_112 : decode cX2_canBe 112 = .ok (.iload_n 2, 1) := by decide +kernel
theorem dX2_canBe_113 : decode cX2_canBe 113 = .ok (.invokevirtual 81, 3) := by decide +kernel
theorem dX2_canBe_116 : decode cX2_canBe 116 = .ok (.ifCond .eq 20, 3) := by decide +kernel
theorem dX2_canBe_119 : decode cX2_canBe 119 = .ok (.aload_n 0, 1) := by decide +kernel
theorem dX2_canBe_120 : decode cX2_canBe 120 = .ok (.getfield 23, 3) := by decide +kernel
theorem dX2_canBe_123 : decode cX2_canBe 123 = .ok (.getfield 36, 3) := by decide +kernel
theorem dX2_canBe_126 : decode cX2_canBe 126 = .ok (.iload_n 2, 1) := by decide +kernel
theorem dX2_canBe_127 : decode cX2_canBe 127 = .ok (.iaload, 1) := by decide +kernel
theorem dX2_canBe_128 : decode cX2_canBe 128 = .ok (.iload_n 3, 1) := by decide +kernel
theorem dX2_canBe_129 : decode cX2_canBe 129 = .ok (.if_icmp .ne 7, 3) := by decide +kernel
theorem dX2_canBe_132 : decode cX2_canBe 132 = .ok (.iconst 1, 1) := by decide +kernel
theorem dX2_canBe_133 : decode cX2_canBe 133 = .ok (.goto 4, 3) := by decide +kernel
theorem dX2_canBe_136 : decode cX2_canBe 136 = .ok (.iconst 0, 1) := by decide +kernel
theorem dX2_canBe_137 : decode cX2_canBe 137 = .ok (.ireturn, 1) := by decide +kernel
theorem dX2_canBe_138 : decode cX2_canBe 138 = .ok (.aload_n 0, 1) := by decide +kernel
theorem dX2_canBe_139 : decode cX2_canBe 139 = .ok (.getfield 23, 3) := by decide +kernel
theorem dX2_canBe_142 : decode cX2_canBe 142 = .ok (.iload_n 2, 1) := by decide +kernel
theorem dX2_canBe_143 : decode cX2_canBe 143 = .ok (.invokevirtual 81, 3) := by decide +kernel
theorem dX2_canBe_146 : decode cX2_canBe 146 = .ok (.ifCond .eq 19, 3) := by decide +kernel
theorem dX2_canBe_149 : decode cX2_canBe 149 = .ok (.aload_n 0, 1) := by decide +kernel
theorem dX2_canBe_150 : decode cX2_canBe 150 = .ok (.getfield 23, 3) := by decide +kernel
theorem dX2_canBe_153 : decode cX2_canBe 153 = .ok (.iload_n 2, 1) := by decide +kernel
theorem dX2_canBe_154 : decode cX2_canBe 154 = .ok (.invokevirtual 85, 3) := by decide +kernel
theorem dX2_canBe_157 : decode cX2_canBe 157 = .ok (.iload_n 3, 1) := by decide +kernel
theorem dX2_canBe_158 : decode cX2_canBe 158 = .ok (.if_icmp .ne 7, 3) := by decide +kernel
theorem dX2_canBe_161 : decode cX2_canBe 161 = .ok (.iconst 1, 1) := by decide +kernel
theorem dX2_canBe_162 : decode cX2_canBe 162 = .ok (.goto 4, 3) := by decide +kernel
theorem dX2_canBe_165 : decode cX2_canBe 165 = .ok (.iconst 0, 1) := by decide +kernel
theorem dX2_canBe_166 : decode cX2_canBe 166 = .ok (.ireturn, 1) := by decide +kernel
theorem dX2_canBe_167 : decode cX2_canBe 167 = .ok (.iconst 0, 1) := by decide +kernel
theorem dX2_canBe_168 : decode cX2_canBe 168 = .ok (.ireturn, 1) := by decide +kernel
theorem dX2_happen_0 : decode cX2_happen 0 = .ok (.iload_n 1, 1) := by decide +kernel
theorem dX2_happen_1 : decode cX2_happen 1 = .ok (.tableswitch 76 0 3 #[31, 42, 54, 66], 31) := by decide +kernel
theorem dX2_happen_32 : decode cX2_happen 32 = .ok (.aload_n 0, 1) := by decide +kernel
theorem dX2_happen_33 : decode cX2_happen 33 = .ok (.getfield 23, 3) := by decide +kernel
theorem dX2_happen_36 : decode cX2_happen 36 = .ok (.iconst 1, 1) := by decide +kernel
theorem dX2_happen_37 : decode cX2_happen 37 = .ok (.invokevirtual 32, 3) := by decide +kernel
theorem dX2_happen_40 : decode cX2_happen 40 = .ok (.goto 37, 3) := by decide +kernel
theorem dX2_happen_43 : decode cX2_happen 43 = .ok (.aload_n 0, 1) := by decide +kernel
theorem dX2_happen_44 : decode cX2_happen 44 = .ok (.getfield 23, 3) := by decide +kernel
theorem dX2_happen_47 : decode cX2_happen 47 = .ok (.iload_n 2, 1) := by decide +kernel
theorem dX2_happen_48 : decode cX2_happen 48 = .ok (.iload_n 3, 1) := by decide +kernel
theorem dX2_happen_49 : decode cX2_happen 49 = .ok (.invokevirtual 56, 3) := by decide +kernel
theorem dX2_happen_52 : decode cX2_happen 52 = .ok (.goto 25, 3) := by decide +kernel
theorem dX2_happen_55 : decode cX2_happen 55 = .ok (.aload_n 0, 1) := by decide +kernel
theorem dX2_happen_56 : decode cX2_happen 56 = .ok (.getfield 23, 3) := by decide +kernel
theorem dX2_happen_59 : decode cX2_happen 59 = .ok (.iload_n 2, 1) := by decide +kernel
theorem dX2_happen_60 : decode cX2_happen 60 = .ok (.iload_n 3, 1) := by decide +kernel
theorem dX2_happen_61 : decode cX2_happen 61 = .ok (.invokevirtual 64, 3) := by decide +kernel
theorem dX2_happen_64 : decode cX2_happen 64 = .ok (.goto 13, 3) := by decide +kernel
theorem dX2_happen_67 : decode cX2_happen 67 = .ok (.aload_n 0, 1) := by decide +kernel
theorem dX2_happen_68 : decode cX2_happen 68 = .ok (.getfield 23, 3) := by decide +kernel
theorem dX2_happen_71 : decode cX2_happen 71 = .ok (.invokevirtual 88, 3) := by decide +kernel
theorem dX2_happen_74 : decode cX2_happen 74 = .ok (.goto 3, 3) := by decide +kernel
theorem dX2_happen_77 : decode cX2_happen 77 = .ok (.return_, 1) := by decide +kernel
theorem dX2_goodsThatFit_0 : decode cX2_goodsThatFit 0 = .ok (.iconst 0, 1) := by decide +kernel
theorem dX2_goodsThatFit_1 : decode cX2_goodsThatFit 1 = .ok (.istore_n 3, 1) := by decide +kernel
theorem dX2_goodsThatFit_2 : decode cX2_goodsThatFit 2 = .ok (.iconst 0, 1) := by decide +kernel
theorem dX2_goodsThatFit_3 : decode cX2_goodsThatFit 3 = .ok (.istore 4, 2) := by decide +kernel
theorem dX2_goodsThatFit_5 : decode cX2_goodsThatFit 5 = .ok (.iload 4, 2) := by decide +kernel
theorem dX2_goodsThatFit_7 : decode cX2_goodsThatFit 7 = .ok (.bipush 9, 2) := by decide +kernel
theorem dX2_goodsThatFit_9 : decode cX2_goodsThatFit 9 = .ok (.if_icmp .gt 46, 3) := by decide +kernel
theorem dX2_goodsThatFit_12 : decode cX2_goodsThatFit 12 = .ok (.aload_n 0, 1) := by decide +kernel
theorem dX2_goodsThatFit_13 : decode cX2_goodsThatFit 13 = .ok (.getfield 23, 3) := by decide +kernel
theorem dX2_goodsThatFit_16 : decode cX2_goodsThatFit 16 = .ok (.aload_n 0, 1) := by decide +kernel
theorem dX2_goodsThatFit_17 : decode cX2_goodsThatFit 17 = .ok (.getfield 19, 3) := by decide +kernel
theorem dX2_goodsThatFit_20 : decode cX2_goodsThatFit 20 = .ok (.invokevirtual 26, 3) := by decide +kernel
theorem dX2_goodsThatFit_23 : decode cX2_goodsThatFit 23 = .ok (.aload_n 0, 1) := by decide +kernel
theorem dX2_goodsThatFit_24 : decode cX2_goodsThatFit 24 = .ok (.getfield 23, 3) := by decide +kernel
theorem dX2_goodsThatFit_27 : decode cX2_goodsThatFit 27 = .ok (.getfield 91, 3) := by decide +kernel
theorem dX2_goodsThatFit_30 : decode cX2_goodsThatFit 30 = .ok (.iload_n 1, 1) := by decide +kernel
theorem dX2_goodsThatFit_31 : decode cX2_goodsThatFit 31 = .ok (.iload 4, 2) := by decide +kernel
theorem dX2_goodsThatFit_33 : decode cX2_goodsThatFit 33 = .ok (.iastore, 1) := by decide +kernel
theorem dX2_goodsThatFit_34 : decode cX2_goodsThatFit 34 = .ok (.aload_n 0, 1) := by decide +kernel
theorem dX2_goodsThatFit_35 : decode cX2_goodsThatFit 35 = .ok (.aload_n 2, 1) := by decide +kernel
theorem dX2_goodsThatFit_36 : decode cX2_goodsThatFit 36 = .ok (.invokevirtual 94, 3) := by decide +kernel
theorem dX2_goodsThatFit_39 : decode cX2_goodsThatFit 39 = .ok (.ifCond .eq 10, 3) := by decide +kernel
theorem dX2_goodsThatFit_42 : decode cX2_goodsThatFit 42 = .ok (.iload_n 3, 1) := by decide +kernel
theorem dX2_goodsThatFit_43 : decode cX2_goodsThatFit 43 = .ok (.iconst 1, 1) := by decide +kernel
theorem dX2_goodsThatFit_44 : decode cX2_goodsThatFit 44 = .ok (.iload 4, 2) := by decide +kernel
theorem dX2_goodsThatFit_46 : decode cX2_goodsThatFit 46 = .ok (.ishl, 1) := by decide +kernel
theorem dX2_goodsThatFit_47 : decode cX2_goodsThatFit 47 = .ok (.ior, 1) := by decide +kernel
theorem dX2_goodsThatFit_48 : decode cX2_goodsThatFit 48 = .ok (.istore_n 3, 1) := by decide +kernel
theorem dX2_goodsThatFit_49 : decode cX2_goodsThatFit 49 = .ok (.iinc 4 1, 3) := by decide +kernel
theorem dX2_goodsThatFit_52 : decode cX2_goodsThatFit 52 = .ok (.goto (-47), 3) := by decide +kernel
theorem dX2_goodsThatFit_55 : decode cX2_goodsThatFit 55 = .ok (.iload_n 3, 1) := by decide +kernel
theorem dX2_goodsThatFit_56 : decode cX2_goodsThatFit 56 = .ok (.ireturn, 1) := by decide +kernel
theorem dX2_isAllHeard_0 : decode cX2_isAllHeard 0 = .ok (.iconst 0, 1) := by decide +kernel
theorem dX2_isAllHeard_1 : decode cX2_isAllHeard 1 = .ok (.istore_n 2, 1) := by decide +kernel
theorem dX2_isAllHeard_2 : decode cX2_isAllHeard 2 = .ok (.iload_n 2, 1) := by decide +kernel
theorem dX2_isAllHeard_3 : decode cX2_isAllHeard 3 = .ok (.bipush 9, 2) := by decide +kernel
theorem dX2_isAllHeard_5 : decode cX2_isAllHeard 5 = .ok (.if_icmp .gt 31, 3) := by decide +kernel
theorem dX2_isAllHeard_8 : decode cX2_isAllHeard 8 = .ok (.aload_n 1, 1) := by decide +kernel
theorem dX2_isAllHeard_9 : decode cX2_isAllHeard 9 = .ok (.iload_n 2, 1) := by decide +kernel
theorem dX2_isAllHeard_10 : decode cX2_isAllHeard 10 = .ok (.aload_n 0, 1) := by decide +kernel
theorem dX2_isAllHeard_11 : decode cX2_isAllHeard 11 = .ok (.getfield 23, 3) := by decide +kernel
theorem dX2_isAllHeard_14 : decode cX2_isAllHeard 14 = .ok (.invokevirtual 98, 3) := by decide +kernel
theorem dX2_isAllHeard_17 : decode cX2_isAllHeard 17 = .ok (.ifCond .ne 5, 3) := by decide +kernel
theorem dX2_isAllHeard_20 : decode cX2_isAllHeard 20 = .ok (.iconst 0, 1) := by decide +kernel
theorem dX2_isAllHeard_21 : decode cX2_isAllHeard 21 = .ok (.ireturn, 1) := by decide +kernel
theorem dX2_isAllHeard_22 : decode cX2_isAllHeard 22 = .ok (.aload_n 0, 1) := by decide +kernel
theorem dX2_isAllHeard_23 : decode cX2_isAllHeard 23 = .ok (.getfield 23, 3) := by decide +kernel
theorem dX2_isAllHeard_26 : decode cX2_isAllHeard 26 = .ok (.iconst 1, 1) := by decide +kernel
theorem dX2_isAllHeard_27 : decode cX2_isAllHeard 27 = .ok (.invokevirtual 32, 3) := by decide +kernel
theorem dX2_isAllHeard_30 : decode cX2_isAllHeard 30 = .ok (.iinc 2 1, 3) := by decide +kernel
theorem dX2_isAllHeard_33 : decode cX2_isAllHeard 33 = .ok (.goto (-31), 3) := by decide +kernel
theorem dX2_isAllHeard_36 : decode cX2_isAllHeard 36 = .ok (.iconst 1, 1) := by decide +kernel
theorem dX2_isAllHeard_37 : decode cX2_isAllHeard 37 = .ok (.ireturn, 1) := by decide +kernel
theorem dX3_init_0 : decode cX3_init 0 = .ok (.aload_n 0, 1) := by decide +kernel
theorem dX3_init_1 : decode cX3_init 1 = .ok (.invokespecial 3, 3) := by decide +kernel
theorem dX3_init_4 : decode cX3_init 4 = .ok (.aload_n 0, 1) := by decide +kernel
theorem dX3_init_5 : decode cX3_init 5 = .ok (.bipush 6, 2) := by decide +kernel
theorem dX3_init_7 : decode cX3_init 7 = .ok (.newarray .int, 2) := by decide +kernel
theorem dX3_init_9 : decode cX3_init 9 = .ok (.putfield 9, 3) := by decide +kernel
theorem dX3_init_12 : decode cX3_init 12 = .ok (.aload_n 0, 1) := by decide +kernel
theorem dX3_init_13 : decode cX3_init 13 = .ok (.bipush 6, 2) := by decide +kernel
theorem dX3_init_15 : decode cX3_init 15 = .ok (.newarray .int, 2) := by decide +kernel
theorem dX3_init_17 : decode cX3_init 17 = .ok (.putfield 15, 3) := by decide +kernel
theorem dX3_init_20 : decode cX3_init 20 = .ok (.aload_n 0, 1) := by decide +kernel
theorem dX3_init_21 : decode cX3_init 21 = .ok (.bipush 6, 2) := by decide +kernel
theorem dX3_init_23 : decode cX3_init 23 = .ok (.newarray .int, 2) := by decide +kernel
theorem dX3_init_25 : decode cX3_init 25 = .ok (.putfield 18, 3) := by decide +kernel
theorem dX3_init_28 : decode cX3_init 28 = .ok (.aload_n 0, 1) := by decide +kernel
theorem dX3_init_29 : decode cX3_init 29 = .ok (.iconst 0, 1) := by decide +kernel
theorem dX3_init_30 : decode cX3_init 30 = .ok (.putfield 21, 3) := by decide +kernel
theorem dX3_init_33 : decode cX3_init 33 = .ok (.return_, 1) := by decide +kernel
theorem dX3_put_0 : decode cX3_put 0 = .ok (.aload_n 0, 1) := by decide +kernel
theorem dX3_put_1 : decode cX3_put 1 = .ok (.getfield 21, 3) := by decide +kernel
theorem dX3_put_4 : decode cX3_put 4 = .ok (.ifCond .lt 12, 3) := by decide +kernel
theorem dX3_put_7 : decode cX3_put 7 = .ok (.aload_n 0, 1) := by decide +kernel
theorem dX3_put_8 : decode cX3_put 8 = .ok (.getfield 21, 3) := by decide +kernel
theorem dX3_put_11 : decode cX3_put 11 = .ok (.bipush 6, 2) := by decide +kernel
theorem dX3_put_13 : decode cX3_put 13 = .ok (.if_icmp .lt 5, 3) := by decide +kernel
theorem dX3_put_16 : decode cX3_put 16 = .ok (.iconst 0, 1) := by decide +kernel
theorem dX3_put_17 : decode cX3_put 17 = .ok (.ireturn, 1) := by decide +kernel
theorem dX3_put_18 : decode cX3_put 18 = .ok (.aload_n 0, 1) := by decide +kernel
theorem dX3_put_19 : decode cX3_put 19 = .ok (.getfield 9, 3) := by decide +kernel
theorem dX3_put_22 : decode cX3_put 22 = .ok (.aload_n 0, 1) := by decide +kernel
theorem dX3_put_23 : decode cX3_put 23 = .ok (.getfield 21, 3) := by decide +kernel
theorem dX3_put_26 : decode cX3_put 26 = .ok (.iload_n 1, 1) := by decide +kernel
theorem dX3_put_27 : decode cX3_put 27 = .ok (.iastore, 1) := by decide +kernel
theorem dX3_put_28 : decode cX3_put 28 = .ok (.aload_n 0, 1) := by decide +kernel
theorem dX3_put_29 : decode cX3_put 29 = .ok (.getfield 15, 3) := by decide +kernel
theorem dX3_put_32 : decode cX3_put 32 = .ok (.aload_n 0, 1) := by decide +kernel
theorem dX3_put_33 : decode cX3_put 33 = .ok (.getfield 21, 3) := by decide +kernel
theorem dX3_put_36 : decode cX3_put 36 = .ok (.iload_n 2, 1) := by decide +kernel
theorem dX3_put_37 : decode cX3_put 37 = .ok (.iastore, 1) := by decide +kernel
theorem dX3_put_38 : decode cX3_put 38 = .ok (.aload_n 0, 1) := by decide +kernel
theorem dX3_put_39 : decode cX3_put 39 = .ok (.getfield 18, 3) := by decide +kernel
theorem dX3_put_42 : decode cX3_put 42 = .ok (.aload_n 0, 1) := by decide +kernel
theorem dX3_put_43 : decode cX3_put 43 = .ok (.getfield 21, 3) := by decide +kernel
theorem dX3_put_46 : decode cX3_put 46 = .ok (.iload_n 3, 1) := by decide +kernel
theorem dX3_put_47 : decode cX3_put 47 = .ok (.iastore, 1) := by decide +kernel
theorem dX3_put_48 : decode cX3_put 48 = .ok (.aload_n 0, 1) := by decide +kernel
theorem dX3_put_49 : decode cX3_put 49 = .ok (.dup, 1) := by decide +kernel
theorem dX3_put_50 : decode cX3_put 50 = .ok (.getfield 21, 3) := by decide +kernel
theorem dX3_put_53 : decode cX3_put 53 = .ok (.iconst 1, 1) := by decide +kernel
theorem dX3_put_54 : decode cX3_put 54 = .ok (.iadd, 1) := by decide +kernel
theorem dX3_put_55 : decode cX3_put 55 = .ok (.putfield 21, 3) := by decide +kernel
theorem dX3_put_58 : decode cX3_put 58 = .ok (.iconst 1, 1) := by decide +kernel
theorem dX3_put_59 : decode cX3_put 59 = .ok (.ireturn, 1) := by decide +kernel
theorem dX3_allowsAt_0 : decode cX3_allowsAt 0 = .ok (.iconst 0, 1) := by decide +kernel
theorem dX3_allowsAt_1 : decode cX3_allowsAt 1 = .ok (.istore_n 3, 1) := by decide +kernel
theorem dX3_allowsAt_2 : decode cX3_allowsAt 2 = .ok (.iload_n 3, 1) := by decide +kernel
theorem dX3_allowsAt_3 : decode cX3_allowsAt 3 = .ok (.aload_n 0, 1) := by decide +kernel
theorem dX3_allowsAt_4 : decode cX3_allowsAt 4 = .ok (.getfield 21, 3) := by decide +kernel
theorem dX3_allowsAt_7 : decode cX3_allowsAt 7 = .ok (.if_icmp .ge 60, 3) := by decide +kernel
theorem dX3_allowsAt_10 : decode cX3_allowsAt 10 = .ok (.iload_n 3, 1) := by decide +kernel
theorem dX3_allowsAt_11 : decode cX3_allowsAt 11 = .ok (.bipush 6, 2) := by decide +kernel
theorem dX3_allowsAt_13 : decode cX3_allowsAt 13 = .ok (.if_icmp .ge 54, 3) := by decide +kernel
theorem dX3_allowsAt_16 : decode cX3_allowsAt 16 = .ok (.aload_n 0, 1) := by decide +kernel
theorem dX3_allowsAt_17 : decode cX3_allowsAt 17 = .ok (.getfield 9, 3) := by decide +kernel
theorem dX3_allowsAt_20 : decode cX3_allowsAt 20 = .ok (.iload_n 3, 1) := by decide +kernel
theorem dX3_allowsAt_21 : decode cX3_allowsAt 21 = .ok (.iaload, 1) := by decide +kernel
theorem dX3_allowsAt_22 : decode cX3_allowsAt 22 = .ok (.istore 4, 2) := by decide +kernel
theorem dX3_allowsAt_24 : decode cX3_allowsAt 24 = .ok (.aload_n 0, 1) := by decide +kernel
theorem dX3_allowsAt_25 : decode cX3_allowsAt 25 = .ok (.getfield 15, 3) := by decide +kernel
theorem dX3_allowsAt_28 : decode cX3_allowsAt 28 = .ok (.iload_n 3, 1) := by decide +kernel
theorem dX3_allowsAt_29 : decode cX3_allowsAt 29 = .ok (.iaload, 1) := by decide +kernel
theorem dX3_allowsAt_30 : decode cX3_allowsAt 30 = .ok (.iload_n 1, 1) := by decide +kernel
theorem dX3_allowsAt_31 : decode cX3_allowsAt 31 = .ok (.if_icmp .ne 30, 3) := by decide +kernel
theorem dX3_allowsAt_34 : decode cX3_allowsAt 34 = .ok (.aload_n 2, 1) := by decide +kernel
theorem dX3_allowsAt_35 : decode cX3_allowsAt 35 = .ok (.iload 4, 2) := by decide +kernel
theorem dX3_allowsAt_37 : decode cX3_allowsAt 37 = .ok (.invokevirtual 25, 3) := by decide +kernel
theorem dX3_allowsAt_40 : decode cX3_allowsAt 40 = .ok (.ifCond .eq 21, 3) := by decide +kernel
theorem dX3_allowsAt_43 : decode cX3_allowsAt 43 = .ok (.aload_n 2, 1) := by decide +kernel
theorem dX3_allowsAt_44 : decode cX3_allowsAt 44 = .ok (.getfield 31, 3) := by decide +kernel
theorem dX3_allowsAt_47 : decode cX3_allowsAt 47 = .ok (.iload 4, 2) := by decide +kernel
theorem dX3_allowsAt_49 : decode cX3_allowsAt 49 = .ok (.iaload, 1) := by decide +kernel
theorem dX3_allowsAt_50 : decode cX3_allowsAt 50 = .ok (.aload_n 0, 1) := by decide +kernel
theorem dX3_allowsAt_51 : decode cX3_allowsAt 51 = .ok (.getfield 18, 3) := by decide +kernel
theorem dX3_allowsAt_54 : decode cX3_allowsAt 54 = .ok (.iload_n 3, 1) := by decide +kernel
theorem dX3_allowsAt_55 : decode cX3_allowsAt 55 = .ok (.iaload, 1) := by decide +kernel
theorem dX3_allowsAt_56 : decode cX3_allowsAt 56 = .ok (.if_icmp .eq 5, 3) := by decide +kernel
theorem dX3_allowsAt_59 : decode cX3_allowsAt 59 = .ok (.iconst 0, 1) := by decide +kernel
theorem dX3_allowsAt_60 : decode cX3_allowsAt 60 = .ok (.ireturn, 1) := by decide +kernel
theorem dX3_allowsAt_61 : decode cX3_allowsAt 61 = .ok (.iinc 3 1, 3) := by decide +kernel
theorem dX3_allowsAt_64 : decode cX3_allowsAt 64 = .ok (.goto (-62), 3) := by decide +kernel
theorem dX3_allowsAt_67 : decode cX3_allowsAt 67 = .ok (.iconst 1, 1) := by decide +kernel
theorem dX3_allowsAt_68 : decode cX3_allowsAt 68 = .ok (.ireturn, 1) := by decide +kernel
theorem dX4_init_0 : decode cX4_init 0 = .ok (.aload_n 0, 1) := by decide +kernel
theorem dX4_init_1 : decode cX4_init 1 = .ok (.invokespecial 3, 3) := by decide +kernel
theorem dX4_init_4 : decode cX4_init 4 = .ok (.aload_n 0, 1) := by decide +kernel
theorem dX4_init_5 : decode cX4_init 5 = .ok (.bipush 6, 2) := by decide +kernel
theorem dX4_init_7 : decode cX4_init 7 = .ok (.newarray .int, 2) := by decide +kernel
theorem dX4_init_9 : decode cX4_init 9 = .ok (.putfield 9, 3) := by decide +kernel
theorem dX4_init_12 : decode cX4_init 12 = .ok (.aload_n 0, 1) := by decide +kernel
theorem dX4_init_13 : decode cX4_init 13 = .ok (.bipush 6, 2) := by decide +kernel
theorem dX4_init_15 : decode cX4_init 15 = .ok (.newarray .int, 2) := by decide +kernel
theorem dX4_init_17 : decode cX4_init 17 = .ok (.putfield 15, 3) := by decide +kernel
theorem dX4_init_20 : decode cX4_init 20 = .ok (.aload_n 0, 1) := by decide +kernel
theorem dX4_init_21 : decode cX4_init 21 = .ok (.bipush 6, 2) := by decide +kernel
theorem dX4_init_23 : decode cX4_init 23 = .ok (.newarray .int, 2) := by decide +kernel
theorem dX4_init_25 : decode cX4_init 25 = .ok (.putfield 18, 3) := by decide +kernel
theorem dX4_init_28 : decode cX4_init 28 = .ok (.aload_n 0, 1) := by decide +kernel
theorem dX4_init_29 : decode cX4_init 29 = .ok (.iconst 0, 1) := by decide +kernel
theorem dX4_init_30 : decode cX4_init 30 = .ok (.putfield 21, 3) := by decide +kernel
theorem dX4_init_33 : decode cX4_init 33 = .ok (.return_, 1) := by decide +kernel
theorem dX4_everybody_0 : decode cX4_everybody 0 = .ok (.iconst 1, 1) := by decide +kernel
theorem dX4_everybody_1 : decode cX4_everybody 1 = .ok (.aload_n 0, 1) := by decide +kernel
theorem dX4_everybody_2 : decode cX4_everybody 2 = .ok (.getfield 21, 3) := by decide +kernel
theorem dX4_everybody_5 : decode cX4_everybody 5 = .ok (.ishl, 1) := by decide +kernel
theorem dX4_everybody_6 : decode cX4_everybody 6 = .ok (.iconst 1, 1) := by decide +kernel
theorem dX4_everybody_7 : decode cX4_everybody 7 = .ok (.isub, 1) := by decide +kernel
theorem dX4_everybody_8 : decode cX4_everybody 8 = .ok (.ireturn, 1) := by decide +kernel
theorem dX5_init_0 : decode cX5_init 0 = .ok (.aload_n 0, 1) := by decide +kernel
theorem dX5_init_1 : decode cX5_init 1 = .ok (.invokespecial 3, 3) := by decide +kernel
theorem dX5_init_4 : decode cX5_init 4 = .ok (.aload_n 0, 1) := by decide +kernel
theorem dX5_init_5 : decode cX5_init 5 = .ok (.bipush 48, 2) := by decide +kernel
theorem dX5_init_7 : decode cX5_init 7 = .ok (.newarray .int, 2) := by decide +kernel
theorem dX5_init_9 : decode cX5_init 9 = .ok (.putfield 9, 3) := by decide +kernel
theorem dX5_init_12 : decode cX5_init 12 = .ok (.aload_n 0, 1) := by decide +kernel
theorem dX5_init_13 : decode cX5_init 13 = .ok (.iconst 0, 1) := by decide +kernel
theorem dX5_init_14 : decode cX5_init 14 = .ok (.putfield 15, 3) := by decide +kernel
theorem dX5_init_17 : decode cX5_init 17 = .ok (.return_, 1) := by decide +kernel
theorem dX5_put_0 : decode cX5_put 0 = .ok (.aload_n 0, 1) := by decide +kernel
theorem dX5_put_1 : decode cX5_put 1 = .ok (.getfield 15, 3) := by decide +kernel
theorem dX5_put_4 : decode cX5_put 4 = .ok (.ifCond .lt 15, 3) := by decide +kernel
theorem dX5_put_7 : decode cX5_put 7 = .ok (.aload_n 0, 1) := by decide +kernel
theorem dX5_put_8 : decode cX5_put 8 = .ok (.getfield 15, 3) := by decide +kernel
theorem dX5_put_11 : decode cX5_put 11 = .ok (.aload_n 0, 1) := by decide +kernel
theorem dX5_put_12 : decode cX5_put 12 = .ok (.getfield 9, 3) := by decide +kernel
theorem dX5_put_15 : decode cX5_put 15 = .ok (.arraylength, 1) := by decide +kernel
theorem dX5_put_16 : decode cX5_put 16 = .ok (.if_icmp .lt 5, 3) := by decide +kernel
theorem dX5_put_19 : decode cX5_put 19 = .ok (.iconst 0, 1) := by decide +kernel
theorem dX5_put_20 : decode cX5_put 20 = .ok (.ireturn, 1) := by decide +kernel
theorem dX5_put_21 : decode cX5_put 21 = .ok (.aload_n 0, 1) := by decide +kernel
theorem dX5_put_22 : decode cX5_put 22 = .ok (.getfield 9, 3) := by decide +kernel
theorem dX5_put_25 : decode cX5_put 25 = .ok (.aload_n 0, 1) := by decide +kernel
theorem dX5_put_26 : decode cX5_put 26 = .ok (.getfield 15, 3) := by decide +kernel
theorem dX5_put_29 : decode cX5_put 29 = .ok (.iload_n 1, 1) := by decide +kernel
theorem dX5_put_30 : decode cX5_put 30 = .ok (.iastore, 1) := by decide +kernel
theorem dX5_put_31 : decode cX5_put 31 = .ok (.aload_n 0, 1) := by decide +kernel
theorem dX5_put_32 : decode cX5_put 32 = .ok (.dup, 1) := by decide +kernel
theorem dX5_put_33 : decode cX5_put 33 = .ok (.getfield 15, 3) := by decide +kernel
theorem dX5_put_36 : decode cX5_put 36 = .ok (.iconst 1, 1) := by decide +kernel
theorem dX5_put_37 : decode cX5_put 37 = .ok (.iadd, 1) := by decide +kernel
theorem dX5_put_38 : decode cX5_put 38 = .ok (.putfield 15, 3) := by decide +kernel
theorem dX5_put_41 : decode cX5_put 41 = .ok (.iconst 1, 1) := by decide +kernel
theorem dX5_put_42 : decode cX5_put 42 = .ok (.ireturn, 1) := by decide +kernel
theorem dX5_firstFault_0 : decode cX5_firstFault 0 = .ok (.iconst 0, 1) := by decide +kernel
theorem dX5_firstFault_1 : decode cX5_firstFault 1 = .ok (.istore_n 1, 1) := by decide +kernel
theorem dX5_firstFault_2 : decode cX5_firstFault 2 = .ok (.iconst 0, 1) := by decide +kernel
theorem dX5_firstFault_3 : decode cX5_firstFault 3 = .ok (.istore_n 2, 1) := by decide +kernel
theorem dX5_firstFault_4 : decode cX5_firstFault 4 = .ok (.iload_n 2, 1) := by decide +kernel
theorem dX5_firstFault_5 : decode cX5_firstFault 5 = .ok (.aload_n 0, 1) := by decide +kernel
theorem dX5_firstFault_6 : decode cX5_firstFault 6 = .ok (.getfield 15, 3) := by decide +kernel
theorem dX5_firstFault_9 : decode cX5_firstFault 9 = .ok (.if_icmp .ge 56, 3) := by decide +kernel
theorem dX5_firstFault_12 : decode cX5_firstFault 12 = .ok (.iload_n 2, 1) := by decide +kernel
theorem dX5_firstFault_13 : decode cX5_firstFault 13 = .ok (.aload_n 0, 1) := by decide +kernel
theorem dX5_firstFault_14 : decode cX5_firstFault 14 = .ok (.getfield 9, 3) := by decide +kernel
theorem dX5_firstFault_17 : decode cX5_firstFault 17 = .ok (.arraylength, 1) := by decide +kernel
theorem dX5_firstFault_18 : decode cX5_firstFault 18 = .ok (.if_icmp .ge 47, 3) := by decide +kernel
theorem dX5_firstFault_21 : decode cX5_firstFault 21 = .ok (.iload_n 2, 1) := by decide +kernel
theorem dX5_firstFault_22 : decode cX5_firstFault 22 = .ok (.aload_n 0, 1) := by decide +kernel
theorem dX5_firstFault_23 : decode cX5_firstFault 23 = .ok (.getfield 9, 3) := by decide +kernel
theorem dX5_firstFault_26 : decode cX5_firstFault 26 = .ok (.iload_n 2, 1) := by decide +kernel
theorem dX5_firstFault_27 : decode cX5_firstFault 27 = .ok (.iaload, 1) := by decide +kernel
theorem dX5_firstFault_28 : decode cX5_firstFault 28 = .ok (.iload_n 1, 1) := by decide +kernel
theorem dX5_firstFault_29 : decode cX5_firstFault 29 = .ok (.invokestatic 19, 3) := by decide +kernel
theorem dX5_firstFault_32 : decode cX5_firstFault 32 = .ok (.ifCond .ne 5, 3) := by decide +kernel
theorem dX5_firstFault_35 : decode cX5_firstFault 35 = .ok (.iload_n 2, 1) := by decide +kernel
theorem dX5_firstFault_36 : decode cX5_firstFault 36 = .ok (.ireturn, 1) := by decide +kernel
theorem dX5_firstFault_37 : decode cX5_firstFault 37 = .ok (.iload_n 2, 1) := by decide +kernel
theorem dX5_firstFault_38 : decode cX5_firstFault 38 = .ok (.invokestatic 23, 3) := by decide +kernel
theorem dX5_firstFault_41 : decode cX5_firstFault 41 = .ok (.iconst 1, 1) := by decide +kernel
theorem dX5_firstFault_42 : decode cX5_firstFault 42 = .ok (.if_icmp .ne 17, 3) := by decide +kernel
theorem dX5_firstFault_45 : decode cX5_firstFault 45 = .ok (.iload_n 1, 1) := by decide +kernel
theorem dX5_firstFault_46 : decode cX5_firstFault 46 = .ok (.iconst 1, 1) := by decide +kernel
theorem dX5_firstFault_47 : decode cX5_firstFault 47 = .ok (.aload_n 0, 1) := by decide +kernel
theorem dX5_firstFault_48 : decode cX5_firstFault 48 = .ok (.getfield 9, 3) := by decide +kernel
theorem dX5_firstFault_51 : decode cX5_firstFault 51 = .ok (.iload_n 2, 1) := by decide +kernel
theorem dX5_firstFault_52 : decode cX5_firstFault 52 = .ok (.iaload, 1) := by decide +kernel
theorem dX5_firstFault_53 : decode cX5_firstFault 53 = .ok (.bipush 48, 2) := by decide +kernel
theorem dX5_firstFault_55 : decode cX5_firstFault 55 = .ok (.isub, 1) := by decide +kernel
theorem dX5_firstFault_56 : decode cX5_firstFault 56 = .ok (.ishl, 1) := by decide +kernel
theorem dX5_firstFault_57 : decode cX5_firstFault 57 = .ok (.ior, 1) := by decide +kernel
theorem dX5_firstFault_58 : decode cX5_firstFault 58 = .ok (.istore_n 1, 1) := by decide +kernel
theorem dX5_firstFault_59 : decode cX5_firstFault 59 = .ok (.iinc 2 1, 3) := by decide +kernel
theorem dX5_firstFault_62 : decode cX5_firstFault 62 = .ok (.goto (-58), 3) := by decide +kernel
theorem dX5_firstFault_65 : decode cX5_firstFault 65 = .ok (.aload_n 0, 1) := by decide +kernel
theorem dX5_firstFault_66 : decode cX5_firstFault 66 = .ok (.getfield 15, 3) := by decide +kernel
theorem dX5_firstFault_69 : decode cX5_firstFault 69 = .ok (.ifCond .le 17, 3) := by decide +kernel
theorem dX5_firstFault_72 : decode cX5_firstFault 72 = .ok (.aload_n 0, 1) := by decide +kernel
theorem dX5_firstFault_73 : decode cX5_firstFault 73 = .ok (.getfield 15, 3) := by decide +kernel
theorem dX5_firstFault_76 : decode cX5_firstFault 76 = .ok (.invokestatic 23, 3) := by decide +kernel
theorem dX5_firstFault_79 : decode cX5_firstFault 79 = .ok (.ifCond .ne 7, 3) := by decide +kernel
theorem dX5_firstFault_82 : decode cX5_firstFault 82 = .ok (.iconst 1, 1) := by decide +kernel
theorem dX5_firstFault_83 : decode cX5_firstFault 83 = .ok (.goto 4, 3) := by decide +kernel
theorem dX5_firstFault_86 : decode cX5_firstFault 86 = .ok (.iconst 0, 1) := by decide +kernel
theorem dX5_firstFault_87 : decode cX5_firstFault 87 = .ok (.istore_n 2, 1) := by decide +kernel
theorem dX5_firstFault_88 : decode cX5_firstFault 88 = .ok (.iload_n 2, 1) := by decide +kernel
theorem dX5_firstFault_89 : decode cX5_firstFault 89 = .ok (.ifCond .eq 8, 3) := by decide +kernel
theorem dX5_firstFault_92 : decode cX5_firstFault 92 = .ok (.bipush (-9), 2) := by decide +kernel
theorem dX5_firstFault_94 : decode cX5_firstFault 94 = .ok (.goto 7, 3) := by decide +kernel
theorem dX5_firstFault_97 : decode cX5_firstFault 97 = .ok (.aload_n 0, 1) := by decide +kernel
theorem dX5_firstFault_98 : decode cX5_firstFault 98 = .ok (.getfield 15, 3) := by decide +kernel
theorem dX5_firstFault_101 : decode cX5_firstFault 101 = .ok (.ireturn, 1) := by decide +kernel
theorem dX5_part_0 : decode cX5_part 0 = .ok (.iload_n 0, 1) := by decide +kernel
theorem dX5_part_1 : decode cX5_part 1 = .ok (.iconst 1, 1) := by decide +kernel
theorem dX5_part_2 : decode cX5_part 2 = .ok (.if_icmp .ge 8, 3) := by decide +kernel
theorem dX5_part_5 : decode cX5_part 5 = .ok (.bipush (-9), 2) := by decide +kernel
theorem dX5_part_7 : decode cX5_part 7 = .ok (.goto 9, 3) := by decide +kernel
theorem dX5_part_10 : decode cX5_part 10 = .ok (.iload_n 0, 1) := by decide +kernel
theorem dX5_part_11 : decode cX5_part 11 = .ok (.iconst 1, 1) := by decide +kernel
theorem dX5_part_12 : decode cX5_part 12 = .ok (.isub, 1) := by decide +kernel
theorem dX5_part_13 : decode cX5_part 13 = .ok (.bipush 6, 2) := by decide +kernel
theorem dX5_part_15 : decode cX5_part 15 = .ok (.irem, 1) := by decide +kernel
theorem dX5_part_16 : decode cX5_part 16 = .ok (.ireturn, 1) := by decide +kernel
theorem dX5_canStand_0 : decode cX5_canStand 0 = .ok (.iload_n 0, 1) := by decide +kernel
theorem dX5_canStand_1 : decode cX5_canStand 1 = .ok (.ifCond .ne 15, 3) := by decide +kernel
theorem dX5_canStand_4 : decode cX5_canStand 4 = .ok (.iload_n 1, 1) := by decide +kernel
theorem dX5_canStand_5 : decode cX5_canStand 5 = .ok (.bipush 67, 2) := by decide +kernel
theorem dX5_canStand_7 : decode cX5_canStand 7 = .ok (.if_icmp .ne 7, 3) := by decide +kernel
theorem dX5_canStand_10 : decode cX5_canStand 10 = .ok (.iconst 1, 1) := by decide +kernel
theorem dX5_canStand_11 : decode cX5_canStand 11 = .ok (.goto 4, 3) := by decide +kernel
theorem dX5_canStand_14 : decode cX5_canStand 14 = .ok (.iconst 0, 1) := by decide +kernel
theorem dX5_canStand_15 : decode cX5_canStand 15 = .ok (.ireturn, 1) := by decide +kernel
theorem dX5_canStand_16 : decode cX5_canStand 16 = .ok (.iload_n 0, 1) := by decide +kernel
theorem dX5_canStand_17 : decode cX5_canStand 17 = .ok (.bipush 36, 2) := by decide +kernel
theorem dX5_canStand_19 : decode cX5_canStand 19 = .ok (.if_icmp .le 5, 3) := by decide +kernel
theorem dX5_canStand_22 : decode cX5_canStand 22 = .ok (.iconst 0, 1) := by decide +kernel
theorem dX5_canStand_23 : decode cX5_canStand 23 = .ok (.ireturn, 1) := by decide +kernel
theorem dX5_canStand_24 : decode cX5_canStand 24 = .ok (.iload_n 1, 1) := by decide +kernel
theorem dX5_canStand_25 : decode cX5_canStand 25 = .ok (.bipush 48, 2) := by decide +kernel
theorem dX5_canStand_27 : decode cX5_canStand 27 = .ok (.isub, 1) := by decide +kernel
theorem dX5_canStand_28 : decode cX5_canStand 28 = .ok (.istore_n 3, 1) := by decide +kernel
theorem dX5_canStand_29 : decode cX5_canStand 29 = .ok (.iload_n 0, 1) := by decide +kernel
theorem dX5_canStand_30 : decode cX5_canStand 30 = .ok (.invokestatic 23, 3) := by decide +kernel
theorem dX5_canStand_33 : decode cX5_canStand 33 = .ok (.lookupswitch 78 #[(0, 35), (1, 47), (5, 71)], 35) := by decide +kernel
theorem dX5_canStand_68 : decode cX5_canStand 68 = .ok (.iload_n 1, 1) := by decide +kernel
theorem dX5_canStand_69 : decode cX5_canStand 69 = .ok (.bipush 83, 2) := by decide +kernel
theorem dX5_canStand_71 : decode cX5_canStand 71 = .ok (.if_icmp .ne 7, 3) := by decide +kernel
theorem dX5_canStand_74 : decode cX5_canStand 74 = .ok (.iconst 1, 1) := by decide +kernel
theorem dX5_canStand_75 : decode cX5_canStand 75 = .ok (.goto 4, 3) := by decide +kernel
theorem dX5_canStand_78 : decode cX5_canStand 78 = .ok (.iconst 0, 1) := by decide +kernel
theorem dX5_canStand_79 : decode cX5_canStand 79 = .ok (.ireturn, 1) := by decide +kernel
theorem dX5_canStand_80 : decode cX5_canStand 80 = .ok (.iload_n 3, 1) := by decide +kernel
theorem dX5_canStand_81 : decode cX5_canStand 81 = .ok (.iconst 0, 1) := by decide +kernel
theorem dX5_canStand_82 : decode cX5_canStand 82 = .ok (.bipush 7, 2) := by decide +kernel
theorem dX5_canStand_84 : decode cX5_canStand 84 = .ok (.invokestatic 27, 3) := by decide +kernel
theorem dX5_canStand_87 : decode cX5_canStand 87 = .ok (.ifCond .eq 15, 3) := by decide +kernel
theorem dX5_canStand_90 : decode cX5_canStand 90 = .ok (.iload_n 2, 1) := by decide +kernel
theorem dX5_canStand_91 : decode cX5_canStand 91 = .ok (.iload_n 3, 1) := by decide +kernel
theorem dX5_canStand_92 : decode cX5_canStand 92 = .ok (.ishr, 1) := by decide +kernel
theorem dX5_canStand_93 : decode cX5_canStand 93 = .ok (.iconst 1, 1) := by decide +kernel
theorem dX5_canStand_94 : decode cX5_canStand 94 = .ok (.iand, 1) := by decide +kernel
theorem dX5_canStand_95 : decode cX5_canStand 95 = .ok (.ifCond .ne 7, 3) := by decide +kernel
theorem dX5_canStand_98 : decode cX5_canStand 98 = .ok (.iconst 1, 1) := by decide +kernel
theorem dX5_canStand_99 : decode cX5_canStand 99 = .ok (.goto 4, 3) := by decide +kernel
theorem dX5_canStand_102 : decode cX5_canStand 102 = .ok (.iconst 0, 1) := by decide +kernel
theorem dX5_canStand_103 : decode cX5_canStand 103 = .ok (.ireturn, 1) := by decide +kernel
theorem dX5_canStand_104 : decode cX5_canStand 104 = .ok (.iload_n 3, 1) := by decide +kernel
theorem dX5_canStand_105 : decode cX5_canStand 105 = .ok (.iconst 0, 1) := by decide +kernel
theorem dX5_canStand_106 : decode cX5_canStand 106 = .ok (.iconst 3, 1) := by decide +kernel
theorem dX5_canStand_107 : decode cX5_canStand 107 = .ok (.invokestatic 27, 3) := by decide +kernel
theorem dX5_canStand_110 : decode cX5_canStand 110 = .ok (.ireturn, 1) := by decide +kernel
theorem dX5_canStand_111 : decode cX5_canStand 111 = .ok (.iload_n 3, 1) := by decide +kernel
theorem dX5_canStand_112 : decode cX5_canStand 112 = .ok (.iconst 0, 1) := by decide +kernel
theorem dX5_canStand_113 : decode cX5_canStand 113 = .ok (.bipush 9, 2) := by decide +kernel
theorem dX5_canStand_115 : decode cX5_canStand 115 = .ok (.invokestatic 27, 3) := by decide +kernel
theorem dX5_canStand_118 : decode cX5_canStand 118 = .ok (.ireturn, 1) := by decide +kernel
theorem dX5_tellTo_0 : decode cX5_tellTo 0 = .ok (.aload_n 1, 1) := by decide +kernel
theorem dX5_tellTo_1 : decode cX5_tellTo 1 = .ok (.aload_n 0, 1) := by decide +kernel
theorem dX5_tellTo_2 : decode cX5_tellTo 2 = .ok (.getfield 15, 3) := by decide +kernel
theorem dX5_tellTo_5 : decode cX5_tellTo 5 = .ok (.iconst 1, 1) := by decide +kernel
theorem dX5_tellTo_6 : decode cX5_tellTo 6 = .ok (.isub, 1) := by decide +kernel
theorem dX5_tellTo_7 : decode cX5_tellTo 7 = .ok (.bipush 6, 2) := by decide +kernel
theorem dX5_tellTo_9 : decode cX5_tellTo 9 = .ok (.idiv, 1) := by decide +kernel
theorem dX5_tellTo_10 : decode cX5_tellTo 10 = .ok (.bipush 6, 2) := by decide +kernel
theorem dX5_tellTo_12 : decode cX5_tellTo 12 = .ok (.invokestatic 30, 3) := by decide +kernel
theorem dX5_tellTo_15 : decode cX5_tellTo 15 = .ok (.putfield 36, 3) := by decide +kernel
theorem dX5_tellTo_18 : decode cX5_tellTo 18 = .ok (.iconst 0, 1) := by decide +kernel
theorem dX5_tellTo_19 : decode cX5_tellTo 19 = .ok (.istore_n 3, 1) := by decide +kernel
theorem dX5_tellTo_20 : decode cX5_tellTo 20 = .ok (.iload_n 3, 1) := by decide +kernel
theorem dX5_tellTo_21 : decode cX5_tellTo 21 = .ok (.aload_n 1, 1) := by decide +kernel
theorem dX5_tellTo_22 : decode cX5_tellTo 22 = .ok (.getfield 36, 3) := by decide +kernel
theorem dX5_tellTo_25 : decode cX5_tellTo 25 = .ok (.if_icmp .ge 113, 3) := by decide +kernel
theorem dX5_tellTo_28 : decode cX5_tellTo 28 = .ok (.iload_n 3, 1) := by decide +kernel
theorem dX5_tellTo_29 : decode cX5_tellTo 29 = .ok (.bipush 6, 2) := by decide +kernel
theorem dX5_tellTo_31 : decode cX5_tellTo 31 = .ok (.if_icmp .ge 107, 3) := by decide +kernel
theorem dX5_tellTo_34 : decode cX5_tellTo 34 = .ok (.iconst 1, 1) := by decide +kernel
theorem dX5_tellTo_35 : decode cX5_tellTo 35 = .ok (.iload_n 3, 1) := by decide +kernel
theorem dX5_tellTo_36 : decode cX5_tellTo 36 = .ok (.bipush 6, 2) := by decide +kernel
theorem dX5_tellTo_38 : decode cX5_tellTo 38 = .ok (.imul, 1) := by decide +kernel
theorem dX5_tellTo_39 : decode cX5_tellTo 39 = .ok (.iadd, 1) := by decide +kernel
theorem dX5_tellTo_40 : decode cX5_tellTo 40 = .ok (.istore 4, 2) := by decide +kernel
theorem dX5_tellTo_42 : decode cX5_tellTo 42 = .ok (.aload_n 2, 1) := by decide +kernel
theorem dX5_tellTo_43 : decode cX5_tellTo 43 = .ok (.getfield 41, 3) := by decide +kernel
theorem dX5_tellTo_46 : decode cX5_tellTo 46 = .ok (.iload_n 3, 1) := by decide +kernel
theorem dX5_tellTo_47 : decode cX5_tellTo 47 = .ok (.aload_n 0, 1) := by decide +kernel
theorem dX5_tellTo_48 : decode cX5_tellTo 48 = .ok (.getfield 9, 3) := by decide +kernel
theorem dX5_tellTo_51 : decode cX5_tellTo 51 = .ok (.iload 4, 2) := by decide +kernel
theorem dX5_tellTo_53 : decode cX5_tellTo 53 = .ok (.iconst 1, 1) := by decide +kernel
theorem dX5_tellTo_54 : decode cX5_tellTo 54 = .ok (.iadd, 1) := by decide +kernel
theorem dX5_tellTo_55 : decode cX5_tellTo 55 = .ok (.iaload, 1) := by decide +kernel
theorem dX5_tellTo_56 : decode cX5_tellTo 56 = .ok (.bipush 48, 2) := by decide +kernel
theorem dX5_tellTo_58 : decode cX5_tellTo 58 = .ok (.isub, 1) := by decide +kernel
theorem dX5_tellTo_59 : decode cX5_tellTo 59 = .ok (.iastore, 1) := by decide +kernel
theorem dX5_tellTo_60 : decode cX5_tellTo 60 = .ok (.aload_n 1, 1) := by decide +kernel
theorem dX5_tellTo_61 : decode cX5_tellTo 61 = .ok (.getfield 46, 3) := by decide +kernel
theorem dX5_tellTo_64 : decode cX5_tellTo 64 = .ok (.iload_n 3, 1) := by decide +kernel
theorem dX5_tellTo_65 : decode cX5_tellTo 65 = .ok (.aload_n 0, 1) := by decide +kernel
theorem dX5_tellTo_66 : decode cX5_tellTo 66 = .ok (.getfield 9, 3) := by decide +kernel
theorem dX5_tellTo_69 : decode cX5_tellTo 69 = .ok (.iload 4, 2) := by decide +kernel
theorem dX5_tellTo_71 : decode cX5_tellTo 71 = .ok (.iconst 2, 1) := by decide +kernel
theorem dX5_tellTo_72 : decode cX5_tellTo 72 = .ok (.iadd, 1) := by decide +kernel
theorem dX5_tellTo_73 : decode cX5_tellTo 73 = .ok (.iaload, 1) := by decide +kernel
theorem dX5_tellTo_74 : decode cX5_tellTo 74 = .ok (.bipush 48, 2) := by decide +kernel
theorem dX5_tellTo_76 : decode cX5_tellTo 76 = .ok (.isub, 1) := by decide +kernel
theorem dX5_tellTo_77 : decode cX5_tellTo 77 = .ok (.iastore, 1) := by decide +kernel
theorem dX5_tellTo_78 : decode cX5_tellTo 78 = .ok (.aload_n 1, 1) := by decide +kernel
theorem dX5_tellTo_79 : decode cX5_tellTo 79 = .ok (.getfield 49, 3) := by decide +kernel
theorem dX5_tellTo_82 : decode cX5_tellTo 82 = .ok (.iload_n 3, 1) := by decide +kernel
theorem dX5_tellTo_83 : decode cX5_tellTo 83 = .ok (.aload_n 0, 1) := by decide +kernel
theorem dX5_tellTo_84 : decode cX5_tellTo 84 = .ok (.getfield 9, 3) := by decide +kernel
theorem dX5_tellTo_87 : decode cX5_tellTo 87 = .ok (.iload 4, 2) := by decide +kernel
theorem dX5_tellTo_89 : decode cX5_tellTo 89 = .ok (.iconst 3, 1) := by decide +kernel
theorem dX5_tellTo_90 : decode cX5_tellTo 90 = .ok (.iadd, 1) := by decide +kernel
theorem dX5_tellTo_91 : decode cX5_tellTo 91 = .ok (.iaload, 1) := by decide +kernel
theorem dX5_tellTo_92 : decode cX5_tellTo 92 = .ok (.bipush 48, 2) := by decide +kernel
theorem dX5_tellTo_94 : decode cX5_tellTo 94 = .ok (.isub, 1) := by decide +kernel
theorem dX5_tellTo_95 : decode cX5_tellTo 95 = .ok (.iastore, 1) := by decide +kernel
theorem dX5_tellTo_96 : decode cX5_tellTo 96 = .ok (.aload_n 2, 1) := by decide +kernel
theorem dX5_tellTo_97 : decode cX5_tellTo 97 = .ok (.getfield 52, 3) := by decide +kernel
theorem dX5_tellTo_100 : decode cX5_tellTo 100 = .ok (.iload_n 3, 1) := by decide +kernel
theorem dX5_tellTo_101 : decode cX5_tellTo 101 = .ok (.aload_n 0, 1) := by decide +kernel
theorem dX5_tellTo_102 : decode cX5_tellTo 102 = .ok (.getfield 9, 3) := by decide +kernel
theorem dX5_tellTo_105 : decode cX5_tellTo 105 = .ok (.iload 4, 2) := by decide +kernel
theorem dX5_tellTo_107 : decode cX5_tellTo 107 = .ok (.iconst 4, 1) := by decide +kernel
theorem dX5_tellTo_108 : decode cX5_tellTo 108 = .ok (.iadd, 1) := by decide +kernel
theorem dX5_tellTo_109 : decode cX5_tellTo 109 = .ok (.iaload, 1) := by decide +kernel
theorem dX5_tellTo_110 : decode cX5_tellTo 110 = .ok (.bipush 48, 2) := by decide +kernel
theorem dX5_tellTo_112 : decode cX5_tellTo 112 = .ok (.isub, 1) := by decide +kernel
theorem dX5_tellTo_113 : decode cX5_tellTo 113 = .ok (.iastore, 1) := by decide +kernel
theorem dX5_tellTo_114 : decode cX5_tellTo 114 = .ok (.aload_n 1, 1) := by decide +kernel
theorem dX5_tellTo_115 : decode cX5_tellTo 115 = .ok (.getfield 55, 3) := by decide +kernel
theorem dX5_tellTo_118 : decode cX5_tellTo 118 = .ok (.iload_n 3, 1) := by decide +kernel
theorem dX5_tellTo_119 : decode cX5_tellTo 119 = .ok (.aload_n 0, 1) := by decide +kernel
theorem dX5_tellTo_120 : decode cX5_tellTo 120 = .ok (.getfield 9, 3) := by decide +kernel
theorem dX5_tellTo_123 : decode cX5_tellTo 123 = .ok (.iload 4, 2) := by decide +kernel
theorem dX5_tellTo_125 : decode cX5_tellTo 125 = .ok (.iconst 5, 1) := by decide +kernel
theorem dX5_tellTo_126 : decode cX5_tellTo 126 = .ok (.iadd, 1) := by decide +kernel
theorem dX5_tellTo_127 : decode cX5_tellTo 127 = .ok (.iaload, 1) := by decide +kernel
theorem dX5_tellTo_128 : decode cX5_tellTo 128 = .ok (.bipush 48, 2) := by decide +kernel
theorem dX5_tellTo_130 : decode cX5_tellTo 130 = .ok (.isub, 1) := by decide +kernel
theorem dX5_tellTo_131 : decode cX5_tellTo 131 = .ok (.iastore, 1) := by decide +kernel
theorem dX5_tellTo_132 : decode cX5_tellTo 132 = .ok (.iinc 3 1, 3) := by decide +kernel
theorem dX5_tellTo_135 : decode cX5_tellTo 135 = .ok (.goto (-115), 3) := by decide +kernel
theorem dX5_tellTo_138 : decode cX5_tellTo 138 = .ok (.aload_n 2, 1) := by decide +kernel
theorem dX5_tellTo_139 : decode cX5_tellTo 139 = .ok (.aload_n 1, 1) := by decide +kernel
theorem dX5_tellTo_140 : decode cX5_tellTo 140 = .ok (.invokevirtual 58, 3) := by decide +kernel
theorem dX5_tellTo_143 : decode cX5_tellTo 143 = .ok (.putfield 62, 3) := by decide +kernel
theorem dX5_tellTo_146 : decode cX5_tellTo 146 = .ok (.aload_n 2, 1) := by decide +kernel
theorem dX5_tellTo_147 : decode cX5_tellTo 147 = .ok (.iconst 0, 1) := by decide +kernel
theorem dX5_tellTo_148 : decode cX5_tellTo 148 = .ok (.putfield 65, 3) := by decide +kernel
theorem dX5_tellTo_151 : decode cX5_tellTo 151 = .ok (.aload_n 2, 1) := by decide +kernel
theorem dX5_tellTo_152 : decode cX5_tellTo 152 = .ok (.iconst 0, 1) := by decide +kernel
theorem dX5_tellTo_153 : decode cX5_tellTo 153 = .ok (.putfield 68, 3) := by decide +kernel
theorem dX5_tellTo_156 : decode cX5_tellTo 156 = .ok (.aload_n 2, 1) := by decide +kernel
theorem dX5_tellTo_157 : decode cX5_tellTo 157 = .ok (.invokevirtual 71, 3) := by decide +kernel
theorem dX5_tellTo_160 : decode cX5_tellTo 160 = .ok (.return_, 1) := by decide +kernel
theorem dX6_init_0 : decode cX6_init 0 = .ok (.aload_n 0, 1) := by decide +kernel
theorem dX6_init_1 : decode cX6_init 1 = .ok (.invokespecial 3, 3) := by decide +kernel
theorem dX6_init_4 : decode cX6_init 4 = .ok (.aload_n 0, 1) := by decide +kernel
theorem dX6_init_5 : decode cX6_init 5 = .ok (.iconst 2, 1) := by decide +kernel
theorem dX6_init_6 : decode cX6_init 6 = .ok (.anewarray 9, 3) := by decide +kernel
theorem dX6_init_9 : decode cX6_init 9 = .ok (.putfield 11, 3) := by decide +kernel
theorem dX6_init_12 : decode cX6_init 12 = .ok (.aload_n 0, 1) := by decide +kernel
theorem dX6_init_13 : decode cX6_init 13 = .ok (.iconst 0, 1) := by decide +kernel
theorem dX6_init_14 : decode cX6_init 14 = .ok (.putfield 17, 3) := by decide +kernel
theorem dX6_init_17 : decode cX6_init 17 = .ok (.iconst 0, 1) := by decide +kernel
theorem dX6_init_18 : decode cX6_init 18 = .ok (.istore_n 2, 1) := by decide +kernel
theorem dX6_init_19 : decode cX6_init 19 = .ok (.iload_n 2, 1) := by decide +kernel
theorem dX6_init_20 : decode cX6_init 20 = .ok (.aload_n 0, 1) := by decide +kernel
theorem dX6_init_21 : decode cX6_init 21 = .ok (.getfield 11, 3) := by decide +kernel
theorem dX6_init_24 : decode cX6_init 24 = .ok (.arraylength, 1) := by decide +kernel
theorem dX6_init_25 : decode cX6_init 25 = .ok (.if_icmp .ge 23, 3) := by decide +kernel
theorem dX6_init_28 : decode cX6_init 28 = .ok (.aload_n 0, 1) := by decide +kernel
theorem dX6_init_29 : decode cX6_init 29 = .ok (.getfield 11, 3) := by decide +kernel
theorem dX6_init_32 : decode cX6_init 32 = .ok (.iload_n 2, 1) := by decide +kernel
theorem dX6_init_33 : decode cX6_init 33 = .ok (.new 9, 3) := by decide +kernel
theorem dX6_init_36 : decode cX6_init 36 = .ok (.dup, 1) := by decide +kernel
theorem dX6_init_37 : decode cX6_init 37 = .ok (.aload_n 1, 1) := by decide +kernel
theorem dX6_init_38 : decode cX6_init 38 = .ok (.invokespecial 21, 3) := by decide +kernel
theorem dX6_init_41 : decode cX6_init 41 = .ok (.aastore, 1) := by decide +kernel
theorem dX6_init_42 : decode cX6_init 42 = .ok (.iinc 2 1, 3) := by decide +kernel
theorem dX6_init_45 : decode cX6_init 45 = .ok (.goto (-26), 3) := by decide +kernel
theorem dX6_init_48 : decode cX6_init 48 = .ok (.return_, 1) := by decide +kernel
theorem dX6_forgetAll_0 : decode cX6_forgetAll 0 = .ok (.aload_n 0, 1) := by decide +kernel
theorem dX6_forgetAll_1 : decode cX6_forgetAll 1 = .ok (.iconst 0, 1) := by decide +kernel
theorem dX6_forgetAll_2 : decode cX6_forgetAll 2 = .ok (.putfield 17, 3) := by decide +kernel
theorem dX6_forgetAll_5 : decode cX6_forgetAll 5 = .ok (.return_, 1) := by decide +kernel
theorem dX6_put_0 : decode cX6_put 0 = .ok (.iload_n 1, 1) := by decide +kernel
theorem dX6_put_1 : decode cX6_put 1 = .ok (.iconst 0, 1) := by decide +kernel
theorem dX6_put_2 : decode cX6_put 2 = .ok (.iconst 1, 1) := by decide +kernel
theorem dX6_put_3 : decode cX6_put 3 = .ok (.invokestatic 24, 3) := by decide +kernel
theorem dX6_put_6 : decode cX6_put 6 = .ok (.ifCond .ne 5, 3) := by decide +kernel
theorem dX6_put_9 : decode cX6_put 9 = .ok (.iconst 0, 1) := by decide +kernel
theorem dX6_put_10 : decode cX6_put 10 = .ok (.ireturn, 1) := by decide +kernel
theorem dX6_put_11 : decode cX6_put 11 = .ok (.aload_n 0, 1) := by decide +kernel
theorem dX6_put_12 : decode cX6_put 12 = .ok (.getfield 11, 3) := by decide +kernel
theorem dX6_put_15 : decode cX6_put 15 = .ok (.iload_n 1, 1) := by decide +kernel
theorem dX6_put_16 : decode cX6_put 16 = .ok (.aaload, 1) := by decide +kernel
theorem dX6_put_17 : decode cX6_put 17 = .ok (.aload_n 2, 1) := by decide +kernel
theorem dX6_put_18 : decode cX6_put 18 = .ok (.invokevirtual 28, 3) := by decide +kernel
theorem dX6_put_21 : decode cX6_put 21 = .ok (.aload_n 0, 1) := by decide +kernel
theorem dX6_put_22 : decode cX6_put 22 = .ok (.dup, 1) := by decide +kernel
theorem dX6_put_23 : decode cX6_put 23 = .ok (.getfield 17, 3) := by decide +kernel
theorem dX6_put_26 : decode cX6_put 26 = .ok (.iconst 1, 1) := by decide +kernel
theorem dX6_put_27 : decode cX6_put 27 = .ok (.iload_n 1, 1) := by decide +kernel
theorem dX6_put_28 : decode cX6_put 28 = .ok (.ishl, 1) := by decide +kernel
theorem dX6_put_29 : decode cX6_put 29 = .ok (.ior, 1) := by decide +kernel
theorem dX6_put_30 : decode cX6_put 30 = .ok (.putfield 17, 3) := by decide +kernel
theorem dX6_put_33 : decode cX6_put 33 = .ok (.iconst 1, 1) := by decide +kernel
theorem dX6_put_34 : decode cX6_put 34 = .ok (.ireturn, 1) := by decide +kernel
theorem dX6_giveBack_0 : decode cX6_giveBack 0 = .ok (.iload_n 1, 1) := by decide +kernel
theorem dX6_giveBack_1 : decode cX6_giveBack 1 = .ok (.iconst 0, 1) := by decide +kernel
theorem dX6_giveBack_2 : decode cX6_giveBack 2 = .ok (.iconst 1, 1) := by decide +kernel
theorem dX6_giveBack_3 : decode cX6_giveBack 3 = .ok (.invokestatic 24, 3) := by decide +kernel
theorem dX6_giveBack_6 : decode cX6_giveBack 6 = .ok (.ifCond .eq 14, 3) := by decide +kernel
theorem dX6_giveBack_9 : decode cX6_giveBack 9 = .ok (.aload_n 0, 1) := by decide +kernel
theorem dX6_giveBack_10 : decode cX6_giveBack 10 = .ok (.getfield 17, 3) := by decide +kernel
theorem dX6_giveBack_13 : decode cX6_giveBack 13 = .ok (.iload_n 1, 1) := by decide +kernel
theorem dX6_giveBack_14 : decode cX6_giveBack 14 = .ok (.ishr, 1) := by decide +kernel
theorem dX6_giveBack_15 : decode cX6_giveBack 15 = .ok (.iconst 1, 1) := by decide +kernel
theorem dX6_giveBack_16 : decode cX6_giveBack 16 = .ok (.iand, 1) := by decide +kernel
theorem dX6_giveBack_17 : decode cX6_giveBack 17 = .ok (.ifCond .ne 5, 3) := by decide +kernel
theorem dX6_giveBack_20 : decode cX6_giveBack 20 = .ok (.iconst 0, 1) := by decide +kernel
theorem dX6_giveBack_21 : decode cX6_giveBack 21 = .ok (.ireturn, 1) := by decide +kernel
theorem dX6_giveBack_22 : decode cX6_giveBack 22 = .ok (.aload_n 2, 1) := by decide +kernel
theorem dX6_giveBack_23 : decode cX6_giveBack 23 = .ok (.aload_n 0, 1) := by decide +kernel
theorem dX6_giveBack_24 : decode cX6_giveBack 24 = .ok (.getfield 11, 3) := by decide +kernel
theorem dX6_giveBack_27 : decode cX6_giveBack 27 = .ok (.iload_n 1, 1) := by decide +kernel
theorem dX6_giveBack_28 : decode cX6_giveBack 28 = .ok (.aaload, 1) := by decide +kernel
theorem dX6_giveBack_29 : decode cX6_giveBack 29 = .ok (.invokevirtual 28, 3) := by decide +kernel
theorem dX6_giveBack_32 : decode cX6_giveBack 32 = .ok (.iconst 1, 1) := by decide +kernel
theorem dX6_giveBack_33 : decode cX6_giveBack 33 = .ok (.ireturn, 1) := by decide +kernel
theorem dX7_init_0 : decode cX7_init 0 = .ok (.aload_n 0, 1) := by decide +kernel
theorem dX7_init_1 : decode cX7_init 1 = .ok (.invokespecial 3, 3) := by decide +kernel
theorem dX7_init_4 : decode cX7_init 4 = .ok (.aload_n 0, 1) := by decide +kernel
theorem dX7_init_5 : decode cX7_init 5 = .ok (.bipush 6, 2) := by decide +kernel
theorem dX7_init_7 : decode cX7_init 7 = .ok (.newarray .int, 2) := by decide +kernel
theorem dX7_init_9 : decode cX7_init 9 = .ok (.putfield 9, 3) := by decide +kernel
theorem dX7_init_12 : decode cX7_init 12 = .ok (.aload_n 0, 1) := by decide +kernel
theorem dX7_init_13 : decode cX7_init 13 = .ok (.bipush 6, 2) := by decide +kernel
theorem dX7_init_15 : decode cX7_init 15 = .ok (.newarray .int, 2) := by decide +kernel
theorem dX7_init_17 : decode cX7_init 17 = .ok (.putfield 15, 3) := by decide +kernel
theorem dX7_init_20 : decode cX7_init 20 = .ok (.aload_n 0, 1) := by decide +kernel
theorem dX7_init_21 : decode cX7_init 21 = .ok (.bipush 6, 2) := by decide +kernel
theorem dX7_init_23 : decode cX7_init 23 = .ok (.newarray .int, 2) := by decide +kernel
theorem dX7_init_25 : decode cX7_init 25 = .ok (.putfield 18, 3) := by decide +kernel
theorem dX7_init_28 : decode cX7_init 28 = .ok (.aload_n 0, 1) := by decide +kernel
theorem dX7_init_29 : decode cX7_init 29 = .ok (.bipush 6, 2) := by decide +kernel
theorem dX7_init_31 : decode cX7_init 31 = .ok (.newarray .int, 2) := by decide +kernel
theorem dX7_init_33 : decode cX7_init 33 = .ok (.putfield 21, 3) := by decide +kernel
theorem dX7_init_36 : decode cX7_init 36 = .ok (.aload_n 0, 1) := by decide +kernel
theorem dX7_init_37 : decode cX7_init 37 = .ok (.iconst 0, 1) := by decide +kernel
theorem dX7_init_38 : decode cX7_init 38 = .ok (.putfield 24, 3) := by decide +kernel
theorem dX7_init_41 : decode cX7_init 41 = .ok (.aload_n 0, 1) := by decide +kernel
theorem dX7_init_42 : decode cX7_init 42 = .ok (.iconst 0, 1) := by decide +kernel
theorem dX7_init_43 : decode cX7_init 43 = .ok (.putfield 28, 3) := by decide +kernel
theorem dX7_init_46 : decode cX7_init 46 = .ok (.aload_n 0, 1) := by decide +kernel
theorem dX7_init_47 : decode cX7_init 47 = .ok (.iconst 0, 1) := by decide +kernel
theorem dX7_init_48 : decode cX7_init 48 = .ok (.putfield 31, 3) := by decide +kernel
theorem dX7_init_51 : decode cX7_init 51 = .ok (.aload_n 0, 1) := by decide +kernel
theorem dX7_init_52 : decode cX7_init 52 = .ok (.aload_n 1, 1) := by decide +kernel
theorem dX7_init_53 : decode cX7_init 53 = .ok (.putfield 34, 3) := by decide +kernel
theorem dX7_init_56 : decode cX7_init 56 = .ok (.return_, 1) := by decide +kernel
theorem dX7_copyFrom_0 : decode cX7_copyFrom 0 = .ok (.aload_n 1, 1) := by decide +kernel
theorem dX7_copyFrom_1 : decode cX7_copyFrom 1 = .ok (.getfield 9, 3) := by decide +kernel
theorem dX7_copyFrom_4 : decode cX7_copyFrom 4 = .ok (.iconst 0, 1) := by decide +kernel
theorem dX7_copyFrom_5 : decode cX7_copyFrom 5 = .ok (.aload_n 0, 1) := by decide +kernel
theorem dX7_copyFrom_6 : decode cX7_copyFrom 6 = .ok (.getfield 9, 3) := by decide +kernel
theorem dX7_copyFrom_9 : decode cX7_copyFrom 9 = .ok (.iconst 0, 1) := by decide +kernel
theorem dX7_copyFrom_10 : decode cX7_copyFrom 10 = .ok (.bipush 6, 2) := by decide +kernel
theorem dX7_copyFrom_12 : decode cX7_copyFrom 12 = .ok (.invokestatic 38, 3) := by decide +kernel
theorem dX7_copyFrom_15 : decode cX7_copyFrom 15 = .ok (.aload_n 1, 1) := by decide +kernel
theorem dX7_copyFrom_16 : decode cX7_copyFrom 16 = .ok (.getfield 15, 3) := by decide +kernel
theorem dX7_copyFrom_19 : decode cX7_copyFrom 19 = .ok (.iconst 0, 1) := by decide +kernel
theorem dX7_copyFrom_20 : decode cX7_copyFrom 20 = .ok (.aload_n 0, 1) := by decide +kernel
theorem dX7_copyFrom_21 : decode cX7_copyFrom 21 = .ok (.getfield 15, 3) := by decide +kernel
theorem dX7_copyFrom_24 : decode cX7_copyFrom 24 = .ok (.iconst 0, 1) := by decide +kernel
theorem dX7_copyFrom_25 : decode cX7_copyFrom 25 = .ok (.bipush 6, 2) := by decide +kernel
theorem dX7_copyFrom_27 : decode cX7_copyFrom 27 = .ok (.invokestatic 38, 3) := by decide +kernel
theorem dX7_copyFrom_30 : decode cX7_copyFrom 30 = .ok (.aload_n 1, 1) := by decide +kernel
theorem dX7_copyFrom_31 : decode cX7_copyFrom 31 = .ok (.getfield 18, 3) := by decide +kernel
theorem dX7_copyFrom_34 : decode cX7_copyFrom 34 = .ok (.iconst 0, 1) := by decide +kernel
theorem dX7_copyFrom_35 : decode cX7_copyFrom 35 = .ok (.aload_n 0, 1) := by decide +kernel
theorem dX7_copyFrom_36 : decode cX7_copyFrom 36 = .ok (.getfield 18, 3) := by decide +kernel
theorem dX7_copyFrom_39 : decode cX7_copyFrom 39 = .ok (.iconst 0, 1) := by decide +kernel
theorem dX7_copyFrom_40 : decode cX7_copyFrom 40 = .ok (.bipush 6, 2) := by decide +kernel
theorem dX7_copyFrom_42 : decode cX7_copyFrom 42 = .ok (.invokestatic 38, 3) := by decide +kernel
theorem dX7_copyFrom_45 : decode cX7_copyFrom 45 = .ok (.aload_n 0, 1) := by decide +kernel
theorem dX7_copyFrom_46 : decode cX7_copyFrom 46 = .ok (.aload_n 1, 1) := by decide +kernel
theorem dX7_copyFrom_47 : decode cX7_copyFrom 47 = .ok (.getfield 24, 3) := by decide +kernel
theorem dX7_copyFrom_50 : decode cX7_copyFrom 50 = .ok (.putfield 24, 3) := by decide +kernel
theorem dX7_copyFrom_53 : decode cX7_copyFrom 53 = .ok (.aload_n 0, 1) := by decide +kernel
theorem dX7_copyFrom_54 : decode cX7_copyFrom 54 = .ok (.aload_n 1, 1) := by decide +kernel
theorem dX7_copyFrom_55 : decode cX7_copyFrom 55 = .ok (.getfield 28, 3) := by decide +kernel
theorem dX7_copyFrom_58 : decode cX7_copyFrom 58 = .ok (.putfield 28, 3) := by decide +kernel
theorem dX7_copyFrom_61 : decode cX7_copyFrom 61 = .ok (.aload_n 0, 1) := by decide +kernel
theorem dX7_copyFrom_62 : decode cX7_copyFrom 62 = .ok (.aload_n 1, 1) := by decide +kernel
theorem dX7_copyFrom_63 : decode cX7_copyFrom 63 = .ok (.getfield 31, 3) := by decide +kernel
theorem dX7_copyFrom_66 : decode cX7_copyFrom 66 = .ok (.putfield 31, 3) := by decide +kernel
theorem dX7_copyFrom_69 : decode cX7_copyFrom 69 = .ok (.return_, 1) := by decide +kernel
theorem dX7_isThere_0 : decode cX7_isThere 0 = .ok (.iload_n 1, 1) := by decide +kernel
theorem dX7_isThere_1 : decode cX7_isThere 1 = .ok (.ifCond .lt 25, 3) := by decide +kernel
theorem dX7_isThere_4 : decode cX7_isThere 4 = .ok (.iload_n 1, 1) := by decide +kernel
theorem dX7_isThere_5 : decode cX7_isThere 5 = .ok (.bipush 6, 2) := by decide +kernel
theorem dX7_isThere_7 : decode cX7_isThere 7 = .ok (.if_icmp .ge 19, 3) := by decide +kernel
theorem dX7_isThere_10 : decode cX7_isThere 10 = .ok (.aload_n 0, 1) := by decide +kernel
theorem dX7_isThere_11 : decode cX7_isThere 11 = .ok (.getfield 24, 3) := by decide +kernel
theorem dX7_isThere_14 : decode cX7_isThere 14 = .ok (.iload_n 1, 1) := by decide +kernel
theorem dX7_isThere_15 : decode cX7_isThere 15 = .ok (.ishr, 1) := by decide +kernel
theorem dX7_isThere_16 : decode cX7_isThere 16 = .ok (.iconst 1, 1) := by decide +kernel
theorem dX7_isThere_17 : decode cX7_isThere 17 = .ok (.iand, 1) := by decide +kernel
theorem dX7_isThere_18 : decode cX7_isThere 18 = .ok (.iconst 1, 1) := by decide +kernel
theorem dX7_isThere_19 : decode cX7_isThere 19 = .ok (.if_icmp .ne 7, 3) := by decide +kernel
theorem dX7_isThere_22 : decode cX7_isThere 22 = .ok (.iconst 1, 1) := by decide +kernel
theorem dX7_isThere_23 : decode cX7_isThere 23 = .ok (.goto 4, 3) := by decide +kernel
theorem dX7_isThere_26 : decode cX7_isThere 26 = .ok (.iconst 0, 1) := by decide +kernel
theorem dX7_isThere_27 : decode cX7_isThere 27 = .ok (.ireturn, 1) := by decide +kernel
theorem dX7_isHeldOn_0 : decode cX7_isHeldOn 0 = .ok (.aload_n 0, 1) := by decide +kernel
theorem dX7_isHeldOn_1 : decode cX7_isHeldOn 1 = .ok (.getfield 28, 3) := by decide +kernel
theorem dX7_isHeldOn_4 : decode cX7_isHeldOn 4 = .ok (.iload_n 1, 1) := by decide +kernel
theorem dX7_isHeldOn_5 : decode cX7_isHeldOn 5 = .ok (.ishr, 1) := by decide +kernel
theorem dX7_isHeldOn_6 : decode cX7_isHeldOn 6 = .ok (.iconst 1, 1) := by decide +kernel
theorem dX7_isHeldOn_7 : decode cX7_isHeldOn 7 = .ok (.iand, 1) := by decide +kernel
theorem dX7_isHeldOn_8 : decode cX7_isHeldOn 8 = .ok (.iconst 1, 1) := by decide +kernel
theorem dX7_isHeldOn_9 : decode cX7_isHeldOn 9 = .ok (.if_icmp .ne 7, 3) := by decide +kernel
theorem dX7_isHeldOn_12 : decode cX7_isHeldOn 12 = .ok (.iconst 1, 1) := by decide +kernel
theorem dX7_isHeldOn_13 : decode cX7_isHeldOn 13 = .ok (.goto 4, 3) := by decide +kernel
theorem dX7_isHeldOn_16 : decode cX7_isHeldOn 16 = .ok (.iconst 0, 1) := by decide +kernel
theorem dX7_isHeldOn_17 : decode cX7_isHeldOn 17 = .ok (.ireturn, 1) := by decide +kernel
theorem dX7_isHeld_0 : decode cX7_isHeld 0 = .ok (.aload_n 0, 1) := by decide +kernel
theorem dX7_isHeld_1 : decode cX7_isHeld 1 = .ok (.getfield 34, 3) := by decide +kernel
theorem dX7_isHeld_4 : decode cX7_isHeld 4 = .ok (.getfield 44, 3) := by decide +kernel
theorem dX7_isHeld_7 : decode cX7_isHeld 7 = .ok (.iload_n 1, 1) := by decide +kernel
theorem dX7_isHeld_8 : decode cX7_isHeld 8 = .ok (.iaload, 1) := by decide +kernel
theorem dX7_isHeld_9 : decode cX7_isHeld 9 = .ok (.iconst 1, 1) := by decide +kernel
theorem dX7_isHeld_10 : decode cX7_isHeld 10 = .ok (.if_icmp .eq 15, 3) := by decide +kernel
theorem dX7_isHeld_13 : decode cX7_isHeld 13 = .ok (.aload_n 0, 1) := by decide +kernel
theorem dX7_isHeld_14 : decode cX7_isHeld 14 = .ok (.getfield 28, 3) := by decide +kernel
theorem dX7_isHeld_17 : decode cX7_isHeld 17 = .ok (.iload_n 1, 1) := by decide +kernel
theorem dX7_isHeld_18 : decode cX7_isHeld 18 = .ok (.ishr, 1) := by decide +kernel
theorem dX7_isHeld_19 : decode cX7_isHeld 19 = .ok (.iconst 1, 1) := by decide +kernel
theorem dX7_isHeld_20 : decode cX7_isHeld 20 = .ok (.iand, 1) := by decide +kernel
theorem dX7_isHeld_21 : decode cX7_isHeld 21 = .ok (.iconst 1, 1) := by decide +kernel
theorem dX7_isHeld_22 : decode cX7_isHeld 22 = .ok (.if_icmp .ne 7, 3) := by decide +kernel
theorem dX7_isHeld_25 : decode cX7_isHeld 25 = .ok (.iconst 1, 1) := by decide +kernel
theorem dX7_isHeld_26 : decode cX7_isHeld 26 = .ok (.goto 4, 3) := by decide +kernel
theorem dX7_isHeld_29 : decode cX7_isHeld 29 = .ok (.iconst 0, 1) := by decide +kernel
theorem dX7_isHeld_30 : decode cX7_isHeld 30 = .ok (.ireturn, 1) := by decide +kernel
theorem dX7_isSeen_0 : decode cX7_isSeen 0 = .ok (.aload_n 0, 1) := by decide +kernel
theorem dX7_isSeen_1 : decode cX7_isSeen 1 = .ok (.getfield 9, 3) := by decide +kernel
theorem dX7_isSeen_4 : decode cX7_isSeen 4 = .ok (.iload_n 1, 1) := by decide +kernel
theorem dX7_isSeen_5 : decode cX7_isSeen 5 = .ok (.iaload, 1) := by decide +kernel
theorem dX7_isSeen_6 : decode cX7_isSeen 6 = .ok (.aload_n 0, 1) := by decide +kernel
theorem dX7_isSeen_7 : decode cX7_isSeen 7 = .ok (.getfield 9, 3) := by decide +kernel
theorem dX7_isSeen_10 : decode cX7_isSeen 10 = .ok (.iload_n 2, 1) := by decide +kernel
theorem dX7_isSeen_11 : decode cX7_isSeen 11 = .ok (.iaload, 1) := by decide +kernel
theorem dX7_isSeen_12 : decode cX7_isSeen 12 = .ok (.isub, 1) := by decide +kernel
theorem dX7_isSeen_13 : decode cX7_isSeen 13 = .ok (.istore_n 3, 1) := by decide +kernel
theorem dX7_isSeen_14 : decode cX7_isSeen 14 = .ok (.iload_n 1, 1) := by decide +kernel
theorem dX7_isSeen_15 : decode cX7_isSeen 15 = .ok (.iload_n 2, 1) := by decide +kernel
theorem dX7_isSeen_16 : decode cX7_isSeen 16 = .ok (.if_icmp .eq 30, 3) := by decide +kernel
theorem dX7_isSeen_19 : decode cX7_isSeen 19 = .ok (.aload_n 0, 1) := by decide +kernel
theorem dX7_isSeen_20 : decode cX7_isSeen 20 = .ok (.getfield 24, 3) := by decide +kernel
theorem dX7_isSeen_23 : decode cX7_isSeen 23 = .ok (.iload_n 2, 1) := by decide +kernel
theorem dX7_isSeen_24 : decode cX7_isSeen 24 = .ok (.ishr, 1) := by decide +kernel
theorem dX7_isSeen_25 : decode cX7_isSeen 25 = .ok (.iconst 1, 1) := by decide +kernel
theorem dX7_isSeen_26 : decode cX7_isSeen 26 = .ok (.iand, 1) := by decide +kernel
theorem dX7_isSeen_27 : decode cX7_isSeen 27 = .ok (.iconst 1, 1) := by decide +kernel
theorem dX7_isSeen_28 : decode cX7_isSeen 28 = .ok (.if_icmp .ne 18, 3) := by decide +kernel
theorem dX7_isSeen_31 : decode cX7_isSeen 31 = .ok (.iload_n 3, 1) := by decide +kernel
theorem dX7_isSeen_32 : decode cX7_isSeen 32 = .ok (.iconst 3, 1) := by decide +kernel
theorem dX7_isSeen_33 : decode cX7_isSeen 33 = .ok (.if_icmp .gt 13, 3) := by decide +kernel
theorem dX7_isSeen_36 : decode cX7_isSeen 36 = .ok (.iload_n 3, 1) := by decide +kernel
theorem dX7_isSeen_37 : decode cX7_isSeen 37 = .ok (.bipush (-3), 2) := by decide +kernel
theorem dX7_isSeen_39 : decode cX7_isSeen 39 = .ok (.if_icmp .lt 7, 3) := by decide +kernel
theorem dX7_isSeen_42 : decode cX7_isSeen 42 = .ok (.iconst 1, 1) := by decide +kernel
theorem dX7_isSeen_43 : decode cX7_isSeen 43 = .ok (.goto 4, 3) := by decide +kernel
theorem dX7_isSeen_46 : decode cX7_isSeen 46 = .ok (.iconst 0, 1) := by decide +kernel
theorem dX7_isSeen_47 : decode cX7_isSeen 47 = .ok (.ireturn, 1) := by decide +kernel
theorem dX7_seenBy_0 : decode cX7_seenBy 0 = .ok (.iconst 0, 1) := by decide +kernel
theorem dX7_seenBy_1 : decode cX7_seenBy 1 = .ok (.istore_n 2, 1) := by decide +kernel
theorem dX7_seenBy_2 : decode cX7_seenBy 2 = .ok (.iconst 0, 1) := by decide +kernel
theorem dX7_seenBy_3 : decode cX7_seenBy 3 = .ok (.istore_n 3, 1) := by decide +kernel
theorem dX7_seenBy_4 : decode cX7_seenBy 4 = .ok (.iload_n 3, 1) := by decide +kernel
theorem dX7_seenBy_5 : decode cX7_seenBy 5 = .ok (.bipush 6, 2) := by decide +kernel
theorem dX7_seenBy_7 : decode cX7_seenBy 7 = .ok (.if_icmp .ge 24, 3) := by decide +kernel
theorem dX7_seenBy_10 : decode cX7_seenBy 10 = .ok (.aload_n 0, 1) := by decide +kernel
theorem dX7_seenBy_11 : decode cX7_seenBy 11 = .ok (.iload_n 1, 1) := by decide +kernel
theorem dX7_seenBy_12 : decode cX7_seenBy 12 = .ok (.iload_n 3, 1) := by decide +kernel
theorem dX7_seenBy_13 : decode cX7_seenBy 13 = .ok (.invokevirtual 49, 3) := by decide +kernel
theorem dX7_seenBy_16 : decode cX7_seenBy 16 = .ok (.ifCond .eq 9, 3) := by decide +kernel
theorem dX7_seenBy_19 : decode cX7_seenBy 19 = .ok (.iload_n 2, 1) := by decide +kernel
theorem dX7_seenBy_20 : decode cX7_seenBy 20 = .ok (.iconst 1, 1) := by decide +kernel
theorem dX7_seenBy_21 : decode cX7_seenBy 21 = .ok (.iload_n 3, 1) := by decide +kernel
theorem dX7_seenBy_22 : decode cX7_seenBy 22 = .ok (.ishl, 1) := by decide +kernel
theorem dX7_seenBy_23 : decode cX7_seenBy 23 = .ok (.ior, 1) := by decide +kernel
theorem dX7_seenBy_24 : decode cX7_seenBy 24 = .ok (.istore_n 2, 1) := by decide +kernel
theorem dX7_seenBy_25 : decode cX7_seenBy 25 = .ok (.iinc 3 1, 3) := by decide +kernel
theorem dX7_seenBy_28 : decode cX7_seenBy 28 = .ok (.goto (-24), 3) := by decide +kernel
theorem dX7_seenBy_31 : decode cX7_seenBy 31 = .ok (.iload_n 2, 1) := by decide +kernel
theorem dX7_seenBy_32 : decode cX7_seenBy 32 = .ok (.ireturn, 1) := by decide +kernel
theorem dX7_enviedBy_0 : decode cX7_enviedBy 0 = .ok (.aload_n 0, 1) := by decide +kernel
theorem dX7_enviedBy_1 : decode cX7_enviedBy 1 = .ok (.getfield 34, 3) := by decide +kernel
theorem dX7_enviedBy_4 : decode cX7_enviedBy 4 = .ok (.getfield 44, 3) := by decide +kernel
theorem dX7_enviedBy_7 : decode cX7_enviedBy 7 = .ok (.iload_n 1, 1) := by decide +kernel
theorem dX7_enviedBy_8 : decode cX7_enviedBy 8 = .ok (.iaload, 1) := by decide +kernel
theorem dX7_enviedBy_9 : decode cX7_enviedBy 9 = .ok (.istore_n 2, 1) := by decide +kernel
theorem dX7_enviedBy_10 : decode cX7_enviedBy 10 = .ok (.aload_n 0, 1) := by decide +kernel
theorem dX7_enviedBy_11 : decode cX7_enviedBy 11 = .ok (.iload_n 1, 1) := by decide +kernel
theorem dX7_enviedBy_12 : decode cX7_enviedBy 12 = .ok (.invokevirtual 53, 3) := by decide +kernel
theorem dX7_enviedBy_15 : decode cX7_enviedBy 15 = .ok (.ifCond .ne 12, 3) := by decide +kernel
theorem dX7_enviedBy_18 : decode cX7_enviedBy 18 = .ok (.iload_n 2, 1) := by decide +kernel
theorem dX7_enviedBy_19 : decode cX7_enviedBy 19 = .ok (.ifCond .eq 11, 3) := by decide +kernel
theorem dX7_enviedBy_22 : decode cX7_enviedBy 22 = .ok (.iload_n 2, 1) := by decide +kernel
theorem dX7_enviedBy_23 : decode cX7_enviedBy 23 = .ok (.iconst 3, 1) := by decide +kernel
theorem dX7_enviedBy_24 : decode cX7_enviedBy 24 = .ok (.if_icmp .eq 6, 3) := by decide +kernel
theorem dX7_enviedBy_27 : decode cX7_enviedBy 27 = .ok (.bipush (-9), 2) := by decide +kernel
theorem dX7_enviedBy_29 : decode cX7_enviedBy 29 = .ok (.ireturn, 1) := by decide +kernel
theorem dX7_enviedBy_30 : decode cX7_enviedBy 30 = .ok (.iload_n 2, 1) := by decide +kernel
theorem dX7_enviedBy_31 : decode cX7_enviedBy 31 = .ok (.ifCond .ne 10, 3) := by decide +kernel
theorem dX7_enviedBy_34 : decode cX7_enviedBy 34 = .ok (.aload_n 0, 1) := by decide +kernel
theorem dX7_enviedBy_35 : decode cX7_enviedBy 35 = .ok (.getfield 15, 3) := by decide +kernel
theorem dX7_enviedBy_38 : decode cX7_enviedBy 38 = .ok (.goto 7, 3) := by decide +kernel
theorem dX7_enviedBy_41 : decode cX7_enviedBy 41 = .ok (.aload_n 0, 1) := by decide +kernel
theorem dX7_enviedBy_42 : decode cX7_enviedBy 42 = .ok (.getfield 18, 3) := by decide +kernel
theorem dX7_enviedBy_45 : decode cX7_enviedBy 45 = .ok (.astore_n 3, 1) := by decide +kernel
theorem dX7_enviedBy_46 : decode cX7_enviedBy 46 = .ok (.aload_n 3, 1) := by decide +kernel
theorem dX7_enviedBy_47 : decode cX7_enviedBy 47 = .ok (.iload_n 1, 1) := by decide +kernel
theorem dX7_enviedBy_48 : decode cX7_enviedBy 48 = .ok (.iaload, 1) := by decide +kernel
theorem dX7_enviedBy_49 : decode cX7_enviedBy 49 = .ok (.istore 4, 2) := by decide +kernel
theorem dX7_enviedBy_51 : decode cX7_enviedBy 51 = .ok (.bipush (-9), 2) := by decide +kernel
theorem dX7_enviedBy_53 : decode cX7_enviedBy 53 = .ok (.istore 5, 2) := by decide +kernel
theorem dX7_enviedBy_55 : decode cX7_enviedBy 55 = .ok (.iconst 0, 1) := by decide +kernel
theorem dX7_enviedBy_56 : decode cX7_enviedBy 56 = .ok (.istore 6, 2) := by decide +kernel
theorem dX7_enviedBy_58 : decode cX7_enviedBy 58 = .ok (.iload 6, 2) := by decide +kernel
theorem dX7_enviedBy_60 : decode cX7_enviedBy 60 = .ok (.bipush 6, 2) := by decide +kernel
theorem dX7_enviedBy_62 : decode cX7_enviedBy 62 = .ok (.if_icmp .ge 38, 3) := by decide +kernel
theorem dX7_enviedBy_65 : decode cX7_enviedBy 65 = .ok (.aload_n 3, 1) := by decide +kernel
theorem dX7_enviedBy_66 : decode cX7_enviedBy 66 = .ok (.iload 6, 2) := by decide +kernel
theorem dX7_enviedBy_68 : decode cX7_enviedBy 68 = .ok (.iaload, 1) := by decide +kernel
theorem dX7_enviedBy_69 : decode cX7_enviedBy 69 = .ok (.iload 4, 2) := by decide +kernel
theorem dX7_enviedBy_71 : decode cX7_enviedBy 71 = .ok (.if_icmp .le 23, 3) := by decide +kernel
theorem dX7_enviedBy_74 : decode cX7_enviedBy 74 = .ok (.aload_n 0, 1) := by decide +kernel
theorem dX7_enviedBy_75 : decode cX7_enviedBy 75 = .ok (.iload_n 1, 1) := by decide +kernel
theorem dX7_enviedBy_76 : decode cX7_enviedBy 76 = .ok (.iload 6, 2) := by decide +kernel
theorem dX7_enviedBy_78 : decode cX7_enviedBy 78 = .ok (.invokevirtual 49, 3) := by decide +kernel
theorem dX7_enviedBy_81 : decode cX7_enviedBy 81 = .ok (.ifCond .eq 13, 3) := by decide +kernel
theorem dX7_enviedBy_84 : decode cX7_enviedBy 84 = .ok (.aload_n 3, 1) := by decide +kernel
theorem dX7_enviedBy_85 : decode cX7_enviedBy 85 = .ok (.iload 6, 2) := by decide +kernel
theorem dX7_enviedBy_87 : decode cX7_enviedBy 87 = .ok (.iaload, 1) := by decide +kernel
theorem dX7_enviedBy_88 : decode cX7_enviedBy 88 = .ok (.istore 4, 2) := by decide +kernel
theorem dX7_enviedBy_90 : decode cX7_enviedBy 90 = .ok (.iload 6, 2) := by decide +kernel
theorem dX7_enviedBy_92 : decode cX7_enviedBy 92 = .ok (.istore 5, 2) := by decide +kernel
theorem dX7_enviedBy_94 : decode cX7_enviedBy 94 = .ok (.iinc 6 1, 3) := by decide +kernel
theorem dX7_enviedBy_97 : decode cX7_enviedBy 97 = .ok (.goto (-39), 3) := by decide +kernel
theorem dX7_enviedBy_100 : decode cX7_enviedBy 100 = .ok (.iload 5, 2) := by decide +kernel
theorem dX7_enviedBy_102 : decode cX7_enviedBy 102 = .ok (.ireturn, 1) := by decide +kernel
theorem dX7_nextNoteOf_0 : decode cX7_nextNoteOf 0 = .ok (.aload_n 0, 1) := by decide +kernel
theorem dX7_nextNoteOf_1 : decode cX7_nextNoteOf 1 = .ok (.iload_n 1, 1) := by decide +kernel
theorem dX7_nextNoteOf_2 : decode cX7_nextNoteOf 2 = .ok (.invokevirtual 53, 3) := by decide +kernel
theorem dX7_nextNoteOf_5 : decode cX7_nextNoteOf 5 = .ok (.ifCond .eq 10, 3) := by decide +kernel
theorem dX7_nextNoteOf_8 : decode cX7_nextNoteOf 8 = .ok (.aload_n 0, 1) := by decide +kernel
theorem dX7_nextNoteOf_9 : decode cX7_nextNoteOf 9 = .ok (.getfield 18, 3) := by decide +kernel
theorem dX7_nextNoteOf_12 : decode cX7_nextNoteOf 12 = .ok (.iload_n 1, 1) := by decide +kernel
theorem dX7_nextNoteOf_13 : decode cX7_nextNoteOf 13 = .ok (.iaload, 1) := by decide +kernel
theorem dX7_nextNoteOf_14 : decode cX7_nextNoteOf 14 = .ok (.ireturn, 1) := by decide +kernel
theorem dX7_nextNoteOf_15 : decode cX7_nextNoteOf 15 = .ok (.aload_n 0, 1) := by decide +kernel
theorem dX7_nextNoteOf_16 : decode cX7_nextNoteOf 16 = .ok (.iload_n 1, 1) := by decide +kernel
theorem dX7_nextNoteOf_17 : decode cX7_nextNoteOf 17 = .ok (.invokevirtual 57, 3) := by decide +kernel
theorem dX7_nextNoteOf_20 : decode cX7_nextNoteOf 20 = .ok (.istore_n 2, 1) := by decide +kernel
theorem dX7_nextNoteOf_21 : decode cX7_nextNoteOf 21 = .ok (.aload_n 0, 1) := by decide +kernel
theorem dX7_nextNoteOf_22 : decode cX7_nextNoteOf 22 = .ok (.getfield 34, 3) := by decide +kernel
theorem dX7_nextNoteOf_25 : decode cX7_nextNoteOf 25 = .ok (.getfield 61, 3) := by decide +kernel
theorem dX7_nextNoteOf_28 : decode cX7_nextNoteOf 28 = .ok (.iload_n 1, 1) := by decide +kernel
theorem dX7_nextNoteOf_29 : decode cX7_nextNoteOf 29 = .ok (.iaload, 1) := by decide +kernel
theorem dX7_nextNoteOf_30 : decode cX7_nextNoteOf 30 = .ok (.istore_n 3, 1) := by decide +kernel
theorem dX7_nextNoteOf_31 : decode cX7_nextNoteOf 31 = .ok (.iload_n 2, 1) := by decide +kernel
theorem dX7_nextNoteOf_32 : decode cX7_nextNoteOf 32 = .ok (.ifCond .lt 9, 3) := by decide +kernel
theorem dX7_nextNoteOf_35 : decode cX7_nextNoteOf 35 = .ok (.iload_n 2, 1) := by decide +kernel
theorem dX7_nextNoteOf_36 : decode cX7_nextNoteOf 36 = .ok (.bipush 6, 2) := by decide +kernel
theorem dX7_nextNoteOf_38 : decode cX7_nextNoteOf 38 = .ok (.if_icmp .lt 5, 3) := by decide +kernel
theorem dX7_nextNoteOf_41 : decode cX7_nextNoteOf 41 = .ok (.iload_n 3, 1) := by decide +kernel
theorem dX7_nextNoteOf_42 : decode cX7_nextNoteOf 42 = .ok (.ireturn, 1) := by decide +kernel
theorem dX7_nextNoteOf_43 : decode cX7_nextNoteOf 43 = .ok (.aload_n 0, 1) := by decide +kernel
theorem dX7_nextNoteOf_44 : decode cX7_nextNoteOf 44 = .ok (.getfield 34, 3) := by decide +kernel
theorem dX7_nextNoteOf_47 : decode cX7_nextNoteOf 47 = .ok (.getfield 64, 3) := by decide +kernel
theorem dX7_nextNoteOf_50 : decode cX7_nextNoteOf 50 = .ok (.iload_n 1, 1) := by decide +kernel
theorem dX7_nextNoteOf_51 : decode cX7_nextNoteOf 51 = .ok (.iaload, 1) := by decide +kernel
theorem dX7_nextNoteOf_52 : decode cX7_nextNoteOf 52 = .ok (.istore 4, 2) := by decide +kernel
theorem dX7_nextNoteOf_54 : decode cX7_nextNoteOf 54 = .ok (.aload_n 0, 1) := by decide +kernel
theorem dX7_nextNoteOf_55 : decode cX7_nextNoteOf 55 = .ok (.getfield 18, 3) := by decide +kernel
theorem dX7_nextNoteOf_58 : decode cX7_nextNoteOf 58 = .ok (.iload_n 2, 1) := by decide +kernel
theorem dX7_nextNoteOf_59 : decode cX7_nextNoteOf 59 = .ok (.iaload, 1) := by decide +kernel
theorem dX7_nextNoteOf_60 : decode cX7_nextNoteOf 60 = .ok (.iload_n 3, 1) := by decide +kernel
theorem dX7_nextNoteOf_61 : decode cX7_nextNoteOf 61 = .ok (.iload 4, 2) := by decide +kernel
theorem dX7_nextNoteOf_63 : decode cX7_nextNoteOf 63 = .ok (.iadd, 1) := by decide +kernel
theorem dX7_nextNoteOf_64 : decode cX7_nextNoteOf 64 = .ok (.invokestatic 67, 3) := by decide +kernel
theorem dX7_nextNoteOf_67 : decode cX7_nextNoteOf 67 = .ok (.iload_n 3, 1) := by decide +kernel
theorem dX7_nextNoteOf_68 : decode cX7_nextNoteOf 68 = .ok (.iload 4, 2) := by decide +kernel
theorem dX7_nextNoteOf_70 : decode cX7_nextNoteOf 70 = .ok (.isub, 1) := by decide +kernel
theorem dX7_nextNoteOf_71 : decode cX7_nextNoteOf 71 = .ok (.invokestatic 73, 3) := by decide +kernel
theorem dX7_nextNoteOf_74 : decode cX7_nextNoteOf 74 = .ok (.ireturn, 1) := by decide +kernel
theorem dX7_goOn_0 : decode cX7_goOn 0 = .ok (.iconst 0, 1) := by decide +kernel
theorem dX7_goOn_1 : decode cX7_goOn 1 = .ok (.istore_n 2, 1) := by decide +kernel
theorem dX7_goOn_2 : decode cX7_goOn 2 = .ok (.iload_n 2, 1) := by decide +kernel
theorem dX7_goOn_3 : decode cX7_goOn 3 = .ok (.iload_n 1, 1) := by decide +kernel
theorem dX7_goOn_4 : decode cX7_goOn 4 = .ok (.if_icmp .ge 108, 3) := by decide +kernel
theorem dX7_goOn_7 : decode cX7_goOn 7 = .ok (.iconst 0, 1) := by decide +kernel
theorem dX7_goOn_8 : decode cX7_goOn 8 = .ok (.istore_n 3, 1) := by decide +kernel
theorem dX7_goOn_9 : decode cX7_goOn 9 = .ok (.iconst 0, 1) := by decide +kernel
theorem dX7_goOn_10 : decode cX7_goOn 10 = .ok (.istore 4, 2) := by decide +kernel
theorem dX7_goOn_12 : decode cX7_goOn 12 = .ok (.iload 4, 2) := by decide +kernel
theorem dX7_goOn_14 : decode cX7_goOn 14 = .ok (.bipush 6, 2) := by decide +kernel
theorem dX7_goOn_16 : decode cX7_goOn 16 = .ok (.if_icmp .ge 68, 3) := by decide +kernel
theorem dX7_goOn_19 : decode cX7_goOn 19 = .ok (.aload_n 0, 1) := by decide +kernel
theorem dX7_goOn_20 : decode cX7_goOn 20 = .ok (.getfield 21, 3) := by decide +kernel
theorem dX7_goOn_23 : decode cX7_goOn 23 = .ok (.iload 4, 2) := by decide +kernel
theorem dX7_goOn_25 : decode cX7_goOn 25 = .ok (.aload_n 0, 1) := by decide +kernel
theorem dX7_goOn_26 : decode cX7_goOn 26 = .ok (.iload 4, 2) := by decide +kernel
theorem dX7_goOn_28 : decode cX7_goOn 28 = .ok (.invokevirtual 76, 3) := by decide +kernel
theorem dX7_goOn_31 : decode cX7_goOn 31 = .ok (.ifCond .eq 12, 3) := by decide +kernel
theorem dX7_goOn_34 : decode cX7_goOn 34 = .ok (.aload_n 0, 1) := by decide +kernel
theorem dX7_goOn_35 : decode cX7_goOn 35 = .ok (.iload 4, 2) := by decide +kernel
theorem dX7_goOn_37 : decode cX7_goOn 37 = .ok (.invokevirtual 79, 3) := by decide +kernel
theorem dX7_goOn_40 : decode cX7_goOn 40 = .ok (.goto 10, 3) := by decide +kernel
theorem dX7_goOn_43 : decode cX7_goOn 43 = .ok (.aload_n 0, 1) := by decide +kernel
theorem dX7_goOn_44 : decode cX7_goOn 44 = .ok (.getfield 18, 3) := by decide +kernel
theorem dX7_goOn_47 : decode cX7_goOn 47 = .ok (.iload 4, 2) := by decide +kernel
theorem dX7_goOn_49 : decode cX7_goOn 49 = .ok (.iaload, 1) := by decide +kernel
theorem dX7_goOn_50 : decode cX7_goOn 50 = .ok (.iastore, 1) := by decide +kernel
theorem dX7_goOn_51 : decode cX7_goOn 51 = .ok (.iload_n 3, 1) := by decide +kernel
theorem dX7_goOn_52 : decode cX7_goOn 52 = .ok (.ifCond .ne 20, 3) := by decide +kernel
theorem dX7_goOn_55 : decode cX7_goOn 55 = .ok (.aload_n 0, 1) := by decide +kernel
theorem dX7_goOn_56 : decode cX7_goOn 56 = .ok (.getfield 21, 3) := by decide +kernel
theorem dX7_goOn_59 : decode cX7_goOn 59 = .ok (.iload 4, 2) := by decide +kernel
theorem dX7_goOn_61 : decode cX7_goOn 61 = .ok (.iaload, 1) := by decide +kernel
theorem dX7_goOn_62 : decode cX7_goOn 62 = .ok (.aload_n 0, 1) := by decide +kernel
theorem dX7_goOn_63 : decode cX7_goOn 63 = .ok (.getfield 18, 3) := by decide +kernel
theorem dX7_goOn_66 : decode cX7_goOn 66 = .ok (.iload 4, 2) := by decide +kernel
theorem dX7_goOn_68 : decode cX7_goOn 68 = .ok (.iaload, 1) := by decide +kernel
theorem dX7_goOn_69 : decode cX7_goOn 69 = .ok (.if_icmp .eq 7, 3) := by decide +kernel
theorem dX7_goOn_72 : decode cX7_goOn 72 = .ok (.iconst 1, 1) := by decide +kernel
theorem dX7_goOn_73 : decode cX7_goOn 73 = .ok (.goto 4, 3) := by decide +kernel
theorem dX7_goOn_76 : decode cX7_goOn 76 = .ok (.iconst 0, 1) := by decide +kernel
theorem dX7_goOn_77 : decode cX7_goOn 77 = .ok (.istore_n 3, 1) := by decide +kernel
theorem dX7_goOn_78 : decode cX7_goOn 78 = .ok (.iinc 4 1, 3) := by decide +kernel
theorem dX7_goOn_81 : decode cX7_goOn 81 = .ok (.goto (-69), 3) := by decide +kernel
theorem dX7_goOn_84 : decode cX7_goOn 84 = .ok (.iload_n 3, 1) := by decide +kernel
theorem dX7_goOn_85 : decode cX7_goOn 85 = .ok (.ifCond .ne 6, 3) := by decide +kernel
theorem dX7_goOn_88 : decode cX7_goOn 88 = .ok (.goto 24, 3) := by decide +kernel
theorem dX7_goOn_91 : decode cX7_goOn 91 = .ok (.aload_n 0, 1) := by decide +kernel
theorem dX7_goOn_92 : decode cX7_goOn 92 = .ok (.getfield 21, 3) := by decide +kernel
theorem dX7_goOn_95 : decode cX7_goOn 95 = .ok (.iconst 0, 1) := by decide +kernel
theorem dX7_goOn_96 : decode cX7_goOn 96 = .ok (.aload_n 0, 1) := by decide +kernel
theorem dX7_goOn_97 : decode cX7_goOn 97 = .ok (.getfield 18, 3) := by decide +kernel
theorem dX7_goOn_100 : decode cX7_goOn 100 = .ok (.iconst 0, 1) := by decide +kernel
theorem dX7_goOn_101 : decode cX7_goOn 101 = .ok (.bipush 6, 2) := by decide +kernel
theorem dX7_goOn_103 : decode cX7_goOn 103 = .ok (.invokestatic 38, 3) := by decide +kernel
theorem dX7_goOn_106 : decode cX7_goOn 106 = .ok (.iinc 2 1, 3) := by decide +kernel
theorem dX7_goOn_109 : decode cX7_goOn 109 = .ok (.goto (-107), 3) := by decide +kernel
theorem dX7_goOn_112 : decode cX7_goOn 112 = .ok (.return_, 1) := by decide +kernel
theorem dX7_give_0 : decode cX7_give 0 = .ok (.aload_n 0, 1) := by decide +kernel
theorem dX7_give_1 : decode cX7_give 1 = .ok (.getfield 15, 3) := by decide +kernel
theorem dX7_give_4 : decode cX7_give 4 = .ok (.iload_n 1, 1) := by decide +kernel
theorem dX7_give_5 : decode cX7_give 5 = .ok (.aload_n 0, 1) := by decide +kernel
theorem dX7_give_6 : decode cX7_give 6 = .ok (.getfield 15, 3) := by decide +kernel
theorem dX7_give_9 : decode cX7_give 9 = .ok (.iload_n 1, 1) := by decide +kernel
theorem dX7_give_10 : decode cX7_give 10 = .ok (.iaload, 1) := by decide +kernel
theorem dX7_give_11 : decode cX7_give 11 = .ok (.iload_n 2, 1) := by decide +kernel
theorem dX7_give_12 : decode cX7_give 12 = .ok (.iadd, 1) := by decide +kernel
theorem dX7_give_13 : decode cX7_give 13 = .ok (.bipush 99, 2) := by decide +kernel
theorem dX7_give_15 : decode cX7_give 15 = .ok (.invokestatic 67, 3) := by decide +kernel
theorem dX7_give_18 : decode cX7_give 18 = .ok (.iastore, 1) := by decide +kernel
theorem dX7_give_19 : decode cX7_give 19 = .ok (.return_, 1) := by decide +kernel
theorem dX7_swapSeats_0 : decode cX7_swapSeats 0 = .ok (.aload_n 0, 1) := by decide +kernel
theorem dX7_swapSeats_1 : decode cX7_swapSeats 1 = .ok (.getfield 9, 3) := by decide +kernel
theorem dX7_swapSeats_4 : decode cX7_swapSeats 4 = .ok (.iload_n 1, 1) := by decide +kernel
theorem dX7_swapSeats_5 : decode cX7_swapSeats 5 = .ok (.iaload, 1) := by decide +kernel
theorem dX7_swapSeats_6 : decode cX7_swapSeats 6 = .ok (.istore_n 3, 1) := by decide +kernel
theorem dX7_swapSeats_7 : decode cX7_swapSeats 7 = .ok (.aload_n 0, 1) := by decide +kernel
theorem dX7_swapSeats_8 : decode cX7_swapSeats 8 = .ok (.getfield 9, 3) := by decide +kernel
theorem dX7_swapSeats_11 : decode cX7_swapSeats 11 = .ok (.iload_n 1, 1) := by decide +kernel
theorem dX7_swapSeats_12 : decode cX7_swapSeats 12 = .ok (.aload_n 0, 1) := by decide +kernel
theorem dX7_swapSeats_13 : decode cX7_swapSeats 13 = .ok (.getfield 9, 3) := by decide +kernel
theorem dX7_swapSeats_16 : decode cX7_swapSeats 16 = .ok (.iload_n 2, 1) := by decide +kernel
theorem dX7_swapSeats_17 : decode cX7_swapSeats 17 = .ok (.iaload, 1) := by decide +kernel
theorem dX7_swapSeats_18 : decode cX7_swapSeats 18 = .ok (.iastore, 1) := by decide +kernel
theorem dX7_swapSeats_19 : decode cX7_swapSeats 19 = .ok (.aload_n 0, 1) := by decide +kernel
theorem dX7_swapSeats_20 : decode cX7_swapSeats 20 = .ok (.getfield 9, 3) := by decide +kernel
theorem dX7_swapSeats_23 : decode cX7_swapSeats 23 = .ok (.iload_n 2, 1) := by decide +kernel
theorem dX7_swapSeats_24 : decode cX7_swapSeats 24 = .ok (.iload_n 3, 1) := by decide +kernel
theorem dX7_swapSeats_25 : decode cX7_swapSeats 25 = .ok (.iastore, 1) := by decide +kernel
theorem dX7_swapSeats_26 : decode cX7_swapSeats 26 = .ok (.return_, 1) := by decide +kernel
theorem dX7_takeVoices_0 : decode cX7_takeVoices 0 = .ok (.aload_n 0, 1) := by decide +kernel
theorem dX7_takeVoices_1 : decode cX7_takeVoices 1 = .ok (.getfield 34, 3) := by decide +kernel
theorem dX7_takeVoices_4 : decode cX7_takeVoices 4 = .ok (.getfield 61, 3) := by decide +kernel
theorem dX7_takeVoices_7 : decode cX7_takeVoices 7 = .ok (.iconst 0, 1) := by decide +kernel
theorem dX7_takeVoices_8 : decode cX7_takeVoices 8 = .ok (.aload_n 0, 1) := by decide +kernel
theorem dX7_takeVoices_9 : decode cX7_takeVoices 9 = .ok (.getfield 18, 3) := by decide +kernel
theorem dX7_takeVoices_12 : decode cX7_takeVoices 12 = .ok (.iconst 0, 1) := by decide +kernel
theorem dX7_takeVoices_13 : decode cX7_takeVoices 13 = .ok (.bipush 6, 2) := by decide +kernel
theorem dX7_takeVoices_15 : decode cX7_takeVoices 15 = .ok (.invokestatic 38, 3) := by decide +kernel
theorem dX7_takeVoices_18 : decode cX7_takeVoices 18 = .ok (.return_, 1) := by decide +kernel
theorem dX7_turnHeldOn_0 : decode cX7_turnHeldOn 0 = .ok (.aload_n 0, 1) := by decide +kernel
theorem dX7_turnHeldOn_1 : decode cX7_turnHeldOn 1 = .ok (.dup, 1) := by decide +kernel
theorem dX7_turnHeldOn_2 : decode cX7_turnHeldOn 2 = .ok (.getfield 28, 3) := by decide +kernel
theorem dX7_turnHeldOn_5 : decode cX7_turnHeldOn 5 = .ok (.iconst 1, 1) := by decide +kernel
theorem dX7_turnHeldOn_6 : decode cX7_turnHeldOn 6 = .ok (.iload_n 1, 1) := by decide +kernel
theorem dX7_turnHeldOn_7 : decode cX7_turnHeldOn 7 = .ok (.ishl, 1) := by decide +kernel
theorem dX7_turnHeldOn_8 : decode cX7_turnHeldOn 8 = .ok (.ixor, 1) := by decide +kernel
theorem dX7_turnHeldOn_9 : decode cX7_turnHeldOn 9 = .ok (.putfield 28, 3) := by decide +kernel
theorem dX7_turnHeldOn_12 : decode cX7_turnHeldOn 12 = .ok (.return_, 1) := by decide +kernel
theorem dX7_whoIsAt_0 : decode cX7_whoIsAt 0 = .ok (.iconst 0, 1) := by decide +kernel
theorem dX7_whoIsAt_1 : decode cX7_whoIsAt 1 = .ok (.istore_n 2, 1) := by decide +kernel
theorem dX7_whoIsAt_2 : decode cX7_whoIsAt 2 = .ok (.iload_n 2, 1) := by decide +kernel
theorem dX7_whoIsAt_3 : decode cX7_whoIsAt 3 = .ok (.bipush 6, 2) := by decide +kernel
theorem dX7_whoIsAt_5 : decode cX7_whoIsAt 5 = .ok (.if_icmp .ge 29, 3) := by decide +kernel
theorem dX7_whoIsAt_8 : decode cX7_whoIsAt 8 = .ok (.aload_n 0, 1) := by decide +kernel
theorem dX7_whoIsAt_9 : decode cX7_whoIsAt 9 = .ok (.iload_n 2, 1) := by decide +kernel
theorem dX7_whoIsAt_10 : decode cX7_whoIsAt 10 = .ok (.invokevirtual 76, 3) := by decide +kernel
theorem dX7_whoIsAt_13 : decode cX7_whoIsAt 13 = .ok (.ifCond .eq 15, 3) := by decide +kernel
theorem dX7_whoIsAt_16 : decode cX7_whoIsAt 16 = .ok (.aload_n 0, 1) := by decide +kernel
theorem dX7_whoIsAt_17 : decode cX7_whoIsAt 17 = .ok (.getfield 9, 3) := by decide +kernel
theorem dX7_whoIsAt_20 : decode cX7_whoIsAt 20 = .ok (.iload_n 2, 1) := by decide +kernel
theorem dX7_whoIsAt_21 : decode cX7_whoIsAt 21 = .ok (.iaload, 1) := by decide +kernel
theorem dX7_whoIsAt_22 : decode cX7_whoIsAt 22 = .ok (.iload_n 1, 1) := by decide +kernel
theorem dX7_whoIsAt_23 : decode cX7_whoIsAt 23 = .ok (.if_icmp .ne 5, 3) := by decide +kernel
theorem dX7_whoIsAt_26 : decode cX7_whoIsAt 26 = .ok (.iload_n 2, 1) := by decide +kernel
theorem dX7_whoIsAt_27 : decode cX7_whoIsAt 27 = .ok (.ireturn, 1) := by decide +kernel
theorem dX7_whoIsAt_28 : decode cX7_whoIsAt 28 = .ok (.iinc 2 1, 3) := by decide +kernel
theorem dX7_whoIsAt_31 : decode cX7_whoIsAt 31 = .ok (.goto (-29), 3) := by decide +kernel
theorem dX7_whoIsAt_34 : decode cX7_whoIsAt 34 = .ok (.bipush (-9), 2) := by decide +kernel
theorem dX7_whoIsAt_36 : decode cX7_whoIsAt 36 = .ok (.ireturn, 1) := by decide +kernel
theorem dX7_seatsTaken_0 : decode cX7_seatsTaken 0 = .ok (.aload_n 0, 1) := by decide +kernel
theorem dX7_seatsTaken_1 : decode cX7_seatsTaken 1 = .ok (.aload_n 0, 1) := by decide +kernel
theorem dX7_seatsTaken_2 : decode cX7_seatsTaken 2 = .ok (.getfield 9, 3) := by decide +kernel
theorem dX7_seatsTaken_5 : decode cX7_seatsTaken 5 = .ok (.invokevirtual 82, 3) := by decide +kernel
theorem dX7_seatsTaken_8 : decode cX7_seatsTaken 8 = .ok (.ireturn, 1) := by decide +kernel
theorem dX7_notesSung_0 : decode cX7_notesSung 0 = .ok (.aload_n 0, 1) := by decide +kernel
theorem dX7_notesSung_1 : decode cX7_notesSung 1 = .ok (.aload_n 0, 1) := by decide +kernel
theorem dX7_notesSung_2 : decode cX7_notesSung 2 = .ok (.getfield 18, 3) := by decide +kernel
theorem dX7_notesSung_5 : decode cX7_notesSung 5 = .ok (.invokevirtual 82, 3) := by decide +kernel
theorem dX7_notesSung_8 : decode cX7_notesSung 8 = .ok (.ireturn, 1) := by decide +kernel
theorem dX7_bitsOf_0 : decode cX7_bitsOf 0 = .ok (.iconst 0, 1) := by decide +kernel
theorem dX7_bitsOf_1 : decode cX7_bitsOf 1 = .ok (.istore_n 2, 1) := by decide +kernel
theorem dX7_bitsOf_2 : decode cX7_bitsOf 2 = .ok (.iconst 0, 1) := by decide +kernel
theorem dX7_bitsOf_3 : decode cX7_bitsOf 3 = .ok (.istore_n 3, 1) := by decide +kernel
theorem dX7_bitsOf_4 : decode cX7_bitsOf 4 = .ok (.iload_n 3, 1) := by decide +kernel
theorem dX7_bitsOf_5 : decode cX7_bitsOf 5 = .ok (.bipush 6, 2) := by decide +kernel
theorem dX7_bitsOf_7 : decode cX7_bitsOf 7 = .ok (.if_icmp .ge 25, 3) := by decide +kernel
theorem dX7_bitsOf_10 : decode cX7_bitsOf 10 = .ok (.aload_n 0, 1) := by decide +kernel
theorem dX7_bitsOf_11 : decode cX7_bitsOf 11 = .ok (.iload_n 3, 1) := by decide +kernel
theorem dX7_bitsOf_12 : decode cX7_bitsOf 12 = .ok (.invokevirtual 76, 3) := by decide +kernel
theorem dX7_bitsOf_15 : decode cX7_bitsOf 15 = .ok (.ifCond .eq 11, 3) := by decide +kernel
theorem dX7_bitsOf_18 : decode cX7_bitsOf 18 = .ok (.iload_n 2, 1) := by decide +kernel
theorem dX7_bitsOf_19 : decode cX7_bitsOf 19 = .ok (.iconst 1, 1) := by decide +kernel
theorem dX7_bitsOf_20 : decode cX7_bitsOf 20 = .ok (.aload_n 1, 1) := by decide +kernel
theorem dX7_bitsOf_21 : decode cX7_bitsOf 21 = .ok (.iload_n 3, 1) := by decide +kernel
theorem dX7_bitsOf_22 : decode cX7_bitsOf 22 = .ok (.iaload, 1) := by decide +kernel
theorem dX7_bitsOf_23 : decode cX7_bitsOf 23 = .ok (.ishl, 1) := by decide +kernel
theorem dX7_bitsOf_24 : decode cX7_bitsOf 24 = .ok (.ior, 1) := by decide +kernel
theorem dX7_bitsOf_25 : decode cX7_bitsOf 25 = .ok (.istore_n 2, 1) := by decide +kernel
theorem dX7_bitsOf_26 : decode cX7_bitsOf 26 = .ok (.iinc 3 1, 3) := by decide +kernel
theorem dX7_bitsOf_29 : decode cX7_bitsOf 29 = .ok (.goto (-25), 3) := by decide +kernel
theorem dX7_bitsOf_32 : decode cX7_bitsOf 32 = .ok (.iload_n 2, 1) := by decide +kernel
theorem dX7_bitsOf_33 : decode cX7_bitsOf 33 = .ok (.ireturn, 1) := by decide +kernel
theorem dX7_richness_0 : decode cX7_richness 0 = .ok (.aload_n 0, 1) := by decide +kernel
theorem dX7_richness_1 : decode cX7_richness 1 = .ok (.invokevirtual 86, 3) := by decide +kernel
theorem dX7_richness_4 : decode cX7_richness 4 = .ok (.invokestatic 90, 3) := by decide +kernel
theorem dX7_richness_7 : decode cX7_richness 7 = .ok (.ireturn, 1) := by decide +kernel
theorem dX7_howManySing_0 : decode cX7_howManySing 0 = .ok (.iconst 0, 1) := by decide +kernel
theorem dX7_howManySing_1 : decode cX7_howManySing 1 = .ok (.istore_n 2, 1) := by decide +kernel
theorem dX7_howManySing_2 : decode cX7_howManySing 2 = .ok (.iconst 0, 1) := by decide +kernel
theorem dX7_howManySing_3 : decode cX7_howManySing 3 = .ok (.istore_n 3, 1) := by decide +kernel
theorem dX7_howManySing_4 : decode cX7_howManySing 4 = .ok (.iload_n 3, 1) := by decide +kernel
theorem dX7_howManySing_5 : decode cX7_howManySing 5 = .ok (.bipush 6, 2) := by decide +kernel
theorem dX7_howManySing_7 : decode cX7_howManySing 7 = .ok (.if_icmp .ge 30, 3) := by decide +kernel
theorem dX7_howManySing_10 : decode cX7_howManySing 10 = .ok (.aload_n 0, 1) := by decide +kernel
theorem dX7_howManySing_11 : decode cX7_howManySing 11 = .ok (.iload_n 3, 1) := by decide +kernel
theorem dX7_howManySing_12 : decode cX7_howManySing 12 = .ok (.invokevirtual 76, 3) := by decide +kernel
theorem dX7_howManySing_15 : decode cX7_howManySing 15 = .ok (.ifCond .eq 16, 3) := by decide +kernel
theorem dX7_howManySing_18 : decode cX7_howManySing 18 = .ok (.aload_n 0, 1) := by decide +kernel
theorem dX7_howManySing_19 : decode cX7_howManySing 19 = .ok (.getfield 18, 3) := by decide +kernel
theorem dX7_howManySing_22 : decode cX7_howManySing 22 = .ok (.iload_n 3, 1) := by decide +kernel
theorem dX7_howManySing_23 : decode cX7_howManySing 23 = .ok (.iaload, 1) := by decide +kernel
theorem dX7_howManySing_24 : decode cX7_howManySing 24 = .ok (.iload_n 1, 1) := by decide +kernel
theorem dX7_howManySing_25 : decode cX7_howManySing 25 = .ok (.if_icmp .ne 6, 3) := by decide +kernel
theorem dX7_howManySing_28 : decode cX7_howManySing 28 = .ok (.iinc 2 1, 3) := by decide +kernel
theorem dX7_howManySing_31 : decode cX7_howManySing 31 = .ok (.iinc 3 1, 3) := by decide +kernel
theorem dX7_howManySing_34 : decode cX7_howManySing 34 = .ok (.goto (-30), 3) := by decide +kernel
theorem dX7_howManySing_37 : decode cX7_howManySing 37 = .ok (.iload_n 2, 1) := by decide +kernel
theorem dX7_howManySing_38 : decode cX7_howManySing 38 = .ok (.ireturn, 1) := by decide +kernel
theorem dX7_goodsOfAll_0 : decode cX7_goodsOfAll 0 = .ok (.iconst 0, 1) := by decide +kernel
theorem dX7_goodsOfAll_1 : decode cX7_goodsOfAll 1 = .ok (.istore_n 1, 1) := by decide +kernel
theorem dX7_goodsOfAll_2 : decode cX7_goodsOfAll 2 = .ok (.iconst 0, 1) := by decide +kernel
theorem dX7_goodsOfAll_3 : decode cX7_goodsOfAll 3 = .ok (.istore_n 2, 1) := by decide +kernel
theorem dX7_goodsOfAll_4 : decode cX7_goodsOfAll 4 = .ok (.iload_n 2, 1) := by decide +kernel
theorem dX7_goodsOfAll_5 : decode cX7_goodsOfAll 5 = .ok (.bipush 6, 2) := by decide +kernel
theorem dX7_goodsOfAll_7 : decode cX7_goodsOfAll 7 = .ok (.if_icmp .ge 26, 3) := by decide +kernel
theorem dX7_goodsOfAll_10 : decode cX7_goodsOfAll 10 = .ok (.aload_n 0, 1) := by decide +kernel
theorem dX7_goodsOfAll_11 : decode cX7_goodsOfAll 11 = .ok (.iload_n 2, 1) := by decide +kernel
theorem dX7_goodsOfAll_12 : decode cX7_goodsOfAll 12 = .ok (.invokevirtual 76, 3) := by decide +kernel
theorem dX7_goodsOfAll_15 : decode cX7_goodsOfAll 15 = .ok (.ifCond .eq 12, 3) := by decide +kernel
theorem dX7_goodsOfAll_18 : decode cX7_goodsOfAll 18 = .ok (.iload_n 1, 1) := by decide +kernel
theorem dX7_goodsOfAll_19 : decode cX7_goodsOfAll 19 = .ok (.aload_n 0, 1) := by decide +kernel
theorem dX7_goodsOfAll_20 : decode cX7_goodsOfAll 20 = .ok (.getfield 15, 3) := by decide +kernel
theorem dX7_goodsOfAll_23 : decode cX7_goodsOfAll 23 = .ok (.iload_n 2, 1) := by decide +kernel
theorem dX7_goodsOfAll_24 : decode cX7_goodsOfAll 24 = .ok (.iaload, 1) := by decide +kernel
theorem dX7_goodsOfAll_25 : decode cX7_goodsOfAll 25 = .ok (.iadd, 1) := by decide +kernel
theorem dX7_goodsOfAll_26 : decode cX7_goodsOfAll 26 = .ok (.istore_n 1, 1) := by decide +kernel
theorem dX7_goodsOfAll_27 : decode cX7_goodsOfAll 27 = .ok (.iinc 2 1, 3) := by decide +kernel
theorem dX7_goodsOfAll_30 : decode cX7_goodsOfAll 30 = .ok (.goto (-26), 3) := by decide +kernel
theorem dX7_goodsOfAll_33 : decode cX7_goodsOfAll 33 = .ok (.iload_n 1, 1) := by decide +kernel
theorem dX7_goodsOfAll_34 : decode cX7_goodsOfAll 34 = .ok (.ireturn, 1) := by decide +kernel
theorem dX7_envious_0 : decode cX7_envious 0 = .ok (.iconst 0, 1) := by decide +kernel
theorem dX7_envious_1 : decode cX7_envious 1 = .ok (.istore_n 1, 1) := by decide +kernel
theorem dX7_envious_2 : decode cX7_envious 2 = .ok (.iconst 0, 1) := by decide +kernel
theorem dX7_envious_3 : decode cX7_envious 3 = .ok (.istore_n 2, 1) := by decide +kernel
theorem dX7_envious_4 : decode cX7_envious 4 = .ok (.iload_n 2, 1) := by decide +kernel
theorem dX7_envious_5 : decode cX7_envious 5 = .ok (.bipush 6, 2) := by decide +kernel
theorem dX7_envious_7 : decode cX7_envious 7 = .ok (.if_icmp .ge 33, 3) := by decide +kernel
theorem dX7_envious_10 : decode cX7_envious 10 = .ok (.aload_n 0, 1) := by decide +kernel
theorem dX7_envious_11 : decode cX7_envious 11 = .ok (.iload_n 2, 1) := by decide +kernel
theorem dX7_envious_12 : decode cX7_envious 12 = .ok (.invokevirtual 76, 3) := by decide +kernel
theorem dX7_envious_15 : decode cX7_envious 15 = .ok (.ifCond .eq 19, 3) := by decide +kernel
theorem dX7_envious_18 : decode cX7_envious 18 = .ok (.aload_n 0, 1) := by decide +kernel
theorem dX7_envious_19 : decode cX7_envious 19 = .ok (.iload_n 2, 1) := by decide +kernel
theorem dX7_envious_20 : decode cX7_envious 20 = .ok (.invokevirtual 57, 3) := by decide +kernel
theorem dX7_envious_23 : decode cX7_envious 23 = .ok (.bipush (-9), 2) := by decide +kernel
theorem dX7_envious_25 : decode cX7_envious 25 = .ok (.if_icmp .eq 9, 3) := by decide +kernel
theorem dX7_envious_28 : decode cX7_envious 28 = .ok (.iload_n 1, 1) := by decide +kernel
theorem dX7_envious_29 : decode cX7_envious 29 = .ok (.iconst 1, 1) := by decide +kernel
theorem dX7_envious_30 : decode cX7_envious 30 = .ok (.iload_n 2, 1) := by decide +kernel
theorem dX7_envious_31 : decode cX7_envious 31 = .ok (.ishl, 1) := by decide +kernel
theorem dX7_envious_32 : decode cX7_envious 32 = .ok (.ior, 1) := by decide +kernel
theorem dX7_envious_33 : decode cX7_envious 33 = .ok (.istore_n 1, 1) := by decide +kernel
theorem dX7_envious_34 : decode cX7_envious 34 = .ok (.iinc 2 1, 3) := by decide +kernel
theorem dX7_envious_37 : decode cX7_envious 37 = .ok (.goto (-33), 3) := by decide +kernel
theorem dX7_envious_40 : decode cX7_envious 40 = .ok (.iload_n 1, 1) := by decide +kernel
theorem dX7_envious_41 : decode cX7_envious 41 = .ok (.ireturn, 1) := by decide +kernel
theorem dX7_notesAsNumber_0 : decode cX7_notesAsNumber 0 = .ok (.iconst 0, 1) := by decide +kernel
theorem dX7_notesAsNumber_1 : decode cX7_notesAsNumber 1 = .ok (.istore_n 1, 1) := by decide +kernel
theorem dX7_notesAsNumber_2 : decode cX7_notesAsNumber 2 = .ok (.iconst 0, 1) := by decide +kernel
theorem dX7_notesAsNumber_3 : decode cX7_notesAsNumber 3 = .ok (.istore_n 2, 1) := by decide +kernel
theorem dX7_notesAsNumber_4 : decode cX7_notesAsNumber 4 = .ok (.iload_n 2, 1) := by decide +kernel
theorem dX7_notesAsNumber_5 : decode cX7_notesAsNumber 5 = .ok (.bipush 6, 2) := by decide +kernel
theorem dX7_notesAsNumber_7 : decode cX7_notesAsNumber 7 = .ok (.if_icmp .ge 33, 3) := by decide +kernel
theorem dX7_notesAsNumber_10 : decode cX7_notesAsNumber 10 = .ok (.iload_n 1, 1) := by decide +kernel
theorem dX7_notesAsNumber_11 : decode cX7_notesAsNumber 11 = .ok (.bipush 10, 2) := by decide +kernel
theorem dX7_notesAsNumber_13 : decode cX7_notesAsNumber 13 = .ok (.imul, 1) := by decide +kernel
theorem dX7_notesAsNumber_14 : decode cX7_notesAsNumber 14 = .ok (.aload_n 0, 1) := by decide +kernel
theorem dX7_notesAsNumber_15 : decode cX7_notesAsNumber 15 = .ok (.iload_n 2, 1) := by decide +kernel
theorem dX7_notesAsNumber_16 : decode cX7_notesAsNumber 16 = .ok (.invokevirtual 76, 3) := by decide +kernel
theorem dX7_notesAsNumber_19 : decode cX7_notesAsNumber 19 = .ok (.ifCond .eq 12, 3) := by decide +kernel
theorem dX7_notesAsNumber_22 : decode cX7_notesAsNumber 22 = .ok (.aload_n 0, 1) := by decide +kernel
theorem dX7_notesAsNumber_23 : decode cX7_notesAsNumber 23 = .ok (.getfield 18, 3) := by decide +kernel
theorem dX7_notesAsNumber_26 : decode cX7_notesAsNumber 26 = .ok (.iload_n 2, 1) := by decide +kernel
theorem dX7_notesAsNumber_27 : decode cX7_notesAsNumber 27 = .ok (.iaload, 1) := by decide +kernel
theorem dX7_notesAsNumber_28 : decode cX7_notesAsNumber 28 = .ok (.goto 4, 3) := by decide +kernel
theorem dX7_notesAsNumber_31 : decode cX7_notesAsNumber 31 = .ok (.iconst 0, 1) := by decide +kernel
theorem dX7_notesAsNumber_32 : decode cX7_notesAsNumber 32 = .ok (.iadd, 1) := by decide +kernel
theorem dX7_notesAsNumber_33 : decode cX7_notesAsNumber 33 = .ok (.istore_n 1, 1) := by decide +kernel
theorem dX7_notesAsNumber_34 : decode cX7_notesAsNumber 34 = .ok (.iinc 2 1, 3) := by decide +kernel
theorem dX7_notesAsNumber_37 : decode cX7_notesAsNumber 37 = .ok (.goto (-33), 3) := by decide +kernel
theorem dX7_notesAsNumber_40 : decode cX7_notesAsNumber 40 = .ok (.iload_n 1, 1) := by decide +kernel
theorem dX7_notesAsNumber_41 : decode cX7_notesAsNumber 41 = .ok (.ireturn, 1) := by decide +kernel
theorem dX8_init_0 : decode cX8_init 0 = .ok (.aload_n 0, 1) := by decide +kernel
theorem dX8_init_1 : decode cX8_init 1 = .ok (.invokespecial 1, 3) := by decide +kernel
theorem dX8_init_4 : decode cX8_init 4 = .ok (.aload_n 0, 1) := by decide +kernel
theorem dX8_init_5 : decode cX8_init 5 = .ok (.lconst 0, 1) := by decide +kernel
theorem dX8_init_6 : decode cX8_init 6 = .ok (.putfield 7, 3) := by decide +kernel
theorem dX8_init_9 : decode cX8_init 9 = .ok (.aload_n 0, 1) := by decide +kernel
theorem dX8_init_10 : decode cX8_init 10 = .ok (.aload_n 1, 1) := by decide +kernel
theorem dX8_init_11 : decode cX8_init 11 = .ok (.putfield 13, 3) := by decide +kernel
theorem dX8_init_14 : decode cX8_init 14 = .ok (.aload_n 0, 1) := by decide +kernel
theorem dX8_init_15 : decode cX8_init 15 = .ok (.aload_n 2, 1) := by decide +kernel
theorem dX8_init_16 : decode cX8_init 16 = .ok (.putfield 17, 3) := by decide +kernel
theorem dX8_init_19 : decode cX8_init 19 = .ok (.return_, 1) := by decide +kernel
theorem dX8_goThrough_0 : decode cX8_goThrough 0 = .ok (.aload_n 0, 1) := by decide +kernel
theorem dX8_goThrough_1 : decode cX8_goThrough 1 = .ok (.getfield 17, 3) := by decide +kernel
theorem dX8_goThrough_4 : decode cX8_goThrough 4 = .ok (.aload_n 0, 1) := by decide +kernel
theorem dX8_goThrough_5 : decode cX8_goThrough 5 = .ok (.getfield 13, 3) := by decide +kernel
theorem dX8_goThrough_8 : decode cX8_goThrough 8 = .ok (.invokevirtual 20, 3) := by decide +kernel
theorem dX8_goThrough_11 : decode cX8_goThrough 11 = .ok (.iconst 0, 1) := by decide +kernel
theorem dX8_goThrough_12 : decode cX8_goThrough 12 = .ok (.istore_n 2, 1) := by decide +kernel
theorem dX8_goThrough_13 : decode cX8_goThrough 13 = .ok (.iconst 0, 1) := by decide +kernel
theorem dX8_goThrough_14 : decode cX8_goThrough 14 = .ok (.istore_n 3, 1) := by decide +kernel
theorem dX8_goThrough_15 : decode cX8_goThrough 15 = .ok (.iload_n 3, 1) := by decide +kernel
theorem dX8_goThrough_16 : decode cX8_goThrough 16 = .ok (.iload_n 1, 1) := by decide +kernel
theorem dX8_goThrough_17 : decode cX8_goThrough 17 = .ok (.if_icmp .ge 51, 3) := by decide +kernel
theorem dX8_goThrough_20 : decode cX8_goThrough 20 = .ok (.aload_n 0, 1) := by decide +kernel
theorem dX8_goThrough_21 : decode cX8_goThrough 21 = .ok (.aload_n 0, 1) := by decide +kernel
theorem dX8_goThrough_22 : decode cX8_goThrough 22 = .ok (.getfield 7, 3) := by decide +kernel
theorem dX8_goThrough_25 : decode cX8_goThrough 25 = .ok (.ldc2_w 26, 3) := by decide +kernel
theorem dX8_goThrough_28 : decode cX8_goThrough 28 = .ok (.lmul, 1) := by decide +kernel
theorem dX8_goThrough_29 : decode cX8_goThrough 29 = .ok (.ldc2_w 28, 3) := by decide +kernel
theorem dX8_goThrough_32 : decode cX8_goThrough 32 = .ok (.ladd, 1) := by decide +kernel
theorem dX8_goThrough_33 : decode cX8_goThrough 33 = .ok (.putfield 7, 3) := by decide +kernel
theorem dX8_goThrough_36 : decode cX8_goThrough 36 = .ok (.aload_n 0, 1) := by decide +kernel
theorem dX8_goThrough_37 : decode cX8_goThrough 37 = .ok (.aload_n 0, 1) := by decide +kernel
theorem dX8_goThrough_38 : decode cX8_goThrough 38 = .ok (.getfield 7, 3) := by decide +kernel
theorem dX8_goThrough_41 : decode cX8_goThrough 41 = .ok (.bipush 33, 2) := by decide +kernel
theorem dX8_goThrough_43 : decode cX8_goThrough 43 = .ok (.lushr, 1) := by decide +kernel
theorem dX8_goThrough_44 : decode cX8_goThrough 44 = .ok (.ldc2_w 30, 3) := by decide +kernel
theorem dX8_goThrough_47 : decode cX8_goThrough 47 = .ok (.lrem, 1) := by decide +kernel
theorem dX8_goThrough_48 : decode cX8_goThrough 48 = .ok (.l2i, 1) := by decide +kernel
theorem dX8_goThrough_49 : decode cX8_goThrough 49 = .ok (.invokevirtual 32, 3) := by decide +kernel
theorem dX8_goThrough_52 : decode cX8_goThrough 52 = .ok (.iload_n 2, 1) := by decide +kernel
theorem dX8_goThrough_53 : decode cX8_goThrough 53 = .ok (.aload_n 0, 1) := by decide +kernel
theorem dX8_goThrough_54 : decode cX8_goThrough 54 = .ok (.getfield 17, 3) := by decide +kernel
theorem dX8_goThrough_57 : decode cX8_goThrough 57 = .ok (.invokevirtual 36, 3) := by decide +kernel
theorem dX8_goThrough_60 : decode cX8_goThrough 60 = .ok (.iadd, 1) := by decide +kernel
theorem dX8_goThrough_61 : decode cX8_goThrough 61 = .ok (.istore_n 2, 1) := by decide +kernel
theorem dX8_goThrough_62 : decode cX8_goThrough 62 = .ok (.iinc 3 1, 3) := by decide +kernel
theorem dX8_goThrough_65 : decode cX8_goThrough 65 = .ok (.goto (-50), 3) := by decide +kernel
theorem dX8_goThrough_68 : decode cX8_goThrough 68 = .ok (.iload_n 2, 1) := by decide +kernel
theorem dX8_goThrough_69 : decode cX8_goThrough 69 = .ok (.ireturn, 1) := by decide +kernel
theorem dX8_happen_0 : decode cX8_happen 0 = .ok (.iload_n 1, 1) := by decide +kernel
theorem dX8_happen_1 : decode cX8_happen 1 = .ok (.bipush 6, 2) := by decide +kernel
theorem dX8_happen_3 : decode cX8_happen 3 = .ok (.if_icmp .ge 26, 3) := by decide +kernel
theorem dX8_happen_6 : decode cX8_happen 6 = .ok (.aload_n 0, 1) := by decide +kernel
theorem dX8_happen_7 : decode cX8_happen 7 = .ok (.getfield 17, 3) := by decide +kernel
theorem dX8_happen_10 : decode cX8_happen 10 = .ok (.iload_n 1, 1) := by decide +kernel
theorem dX8_happen_11 : decode cX8_happen 11 = .ok (.invokevirtual 40, 3) := by decide +kernel
theorem dX8_happen_14 : decode cX8_happen 14 = .ok (.ifCond .eq 125, 3) := by decide +kernel
theorem dX8_happen_17 : decode cX8_happen 17 = .ok (.aload_n 0, 1) := by decide +kernel
theorem dX8_happen_18 : decode cX8_happen 18 = .ok (.getfield 17, 3) := by decide +kernel
theorem dX8_happen_21 : decode cX8_happen 21 = .ok (.iload_n 1, 1) := by decide +kernel
theorem dX8_happen_22 : decode cX8_happen 22 = .ok (.iconst 1, 1) := by decide +kernel
theorem dX8_happen_23 : decode cX8_happen 23 = .ok (.invokevirtual 44, 3) := by decide +kernel
theorem dX8_happen_26 : decode cX8_happen 26 = .ok (.goto 113, 3) := by decide +kernel
theorem dX8_happen_29 : decode cX8_happen 29 = .ok (.iload_n 1, 1) := by decide +kernel
theorem dX8_happen_30 : decode cX8_happen 30 = .ok (.bipush 12, 2) := by decide +kernel
theorem dX8_happen_32 : decode cX8_happen 32 = .ok (.if_icmp .ge 31, 3) := by decide +kernel
theorem dX8_happen_35 : decode cX8_happen 35 = .ok (.aload_n 0, 1) := by decide +kernel
theorem dX8_happen_36 : decode cX8_happen 36 = .ok (.getfield 17, 3) := by decide +kernel
theorem dX8_happen_39 : decode cX8_happen 39 = .ok (.iload_n 1, 1) := by decide +kernel
theorem dX8_happen_40 : decode cX8_happen 40 = .ok (.bipush 6, 2) := by decide +kernel
theorem dX8_happen_42 : decode cX8_happen 42 = .ok (.isub, 1) := by decide +kernel
theorem dX8_happen_43 : decode cX8_happen 43 = .ok (.invokevirtual 40, 3) := by decide +kernel
theorem dX8_happen_46 : decode cX8_happen 46 = .ok (.ifCond .eq 93, 3) := by decide +kernel
theorem dX8_happen_49 : decode cX8_happen 49 = .ok (.aload_n 0, 1) := by decide +kernel
theorem dX8_happen_50 : decode cX8_happen 50 = .ok (.getfield 17, 3) := by decide +kernel
theorem dX8_happen_53 : decode cX8_happen 53 = .ok (.iload_n 1, 1) := by decide +kernel
theorem dX8_happen_54 : decode cX8_happen 54 = .ok (.bipush 6, 2) := by decide +kernel
theorem dX8_happen_56 : decode cX8_happen 56 = .ok (.isub, 1) := by decide +kernel
theorem dX8_happen_57 : decode cX8_happen 57 = .ok (.invokevirtual 48, 3) := by decide +kernel
theorem dX8_happen_60 : decode cX8_happen 60 = .ok (.goto 79, 3) := by decide +kernel
theorem dX8_happen_63 : decode cX8_happen 63 = .ok (.iload_n 1, 1) := by decide +kernel
theorem dX8_happen_64 : decode cX8_happen 64 = .ok (.bipush 17, 2) := by decide +kernel
theorem dX8_happen_66 : decode cX8_happen 66 = .ok (.if_icmp .ge 49, 3) := by decide +kernel
theorem dX8_happen_69 : decode cX8_happen 69 = .ok (.aload_n 0, 1) := by decide +kernel
theorem dX8_happen_70 : decode cX8_happen 70 = .ok (.getfield 17, 3) := by decide +kernel
theorem dX8_happen_73 : decode cX8_happen 73 = .ok (.iload_n 1, 1) := by decide +kernel
theorem dX8_happen_74 : decode cX8_happen 74 = .ok (.bipush 12, 2) := by decide +kernel
theorem dX8_happen_76 : decode cX8_happen 76 = .ok (.isub, 1) := by decide +kernel
theorem dX8_happen_77 : decode cX8_happen 77 = .ok (.invokevirtual 40, 3) := by decide +kernel
theorem dX8_happen_80 : decode cX8_happen 80 = .ok (.ifCond .eq 59, 3) := by decide +kernel
theorem dX8_happen_83 : decode cX8_happen 83 = .ok (.aload_n 0, 1) := by decide +kernel
theorem dX8_happen_84 : decode cX8_happen 84 = .ok (.getfield 17, 3) := by decide +kernel
theorem dX8_happen_87 : decode cX8_happen 87 = .ok (.iload_n 1, 1) := by decide +kernel
theorem dX8_happen_88 : decode cX8_happen 88 = .ok (.bipush 11, 2) := by decide +kernel
theorem dX8_happen_90 : decode cX8_happen 90 = .ok (.isub, 1) := by decide +kernel
theorem dX8_happen_91 : decode cX8_happen 91 = .ok (.invokevirtual 40, 3) := by decide +kernel
theorem dX8_happen_94 : decode cX8_happen 94 = .ok (.ifCond .eq 45, 3) := by decide +kernel
theorem dX8_happen_97 : decode cX8_happen 97 = .ok (.aload_n 0, 1) := by decide +kernel
theorem dX8_happen_98 : decode cX8_happen 98 = .ok (.getfield 17, 3) := by decide +kernel
theorem dX8_happen_101 : decode cX8_happen 101 = .ok (.iload_n 1, 1) := by decide +kernel
theorem dX8_happen_102 : decode cX8_happen 102 = .ok (.bipush 12, 2) := by decide +kernel
theorem dX8_happen_104 : decode cX8_happen 104 = .ok (.isub, 1) := by decide +kernel
theorem dX8_happen_105 : decode cX8_happen 105 = .ok (.iload_n 1, 1) := by decide +kernel
theorem dX8_happen_106 : decode cX8_happen 106 = .ok (.bipush 11, 2) := by decide +kernel
theorem dX8_happen_108 : decode cX8_happen 108 = .ok (.isub, 1) := by decide +kernel
theorem dX8_happen_109 : decode cX8_happen 109 = .ok (.invokevirtual 51, 3) := by decide +kernel
theorem dX8_happen_112 : decode cX8_happen 112 = .ok (.goto 27, 3) := by decide +kernel
theorem dX8_happen_115 : decode cX8_happen 115 = .ok (.iload_n 1, 1) := by decide +kernel
theorem dX8_happen_116 : decode cX8_happen 116 = .ok (.bipush 17, 2) := by decide +kernel
theorem dX8_happen_118 : decode cX8_happen 118 = .ok (.if_icmp .ne 13, 3) := by decide +kernel
theorem dX8_happen_121 : decode cX8_happen 121 = .ok (.aload_n 0, 1) := by decide +kernel
theorem dX8_happen_122 : decode cX8_happen 122 = .ok (.getfield 17, 3) := by decide +kernel
theorem dX8_happen_125 : decode cX8_happen 125 = .ok (.invokevirtual 54, 3) := by decide +kernel
theorem dX8_happen_128 : decode cX8_happen 128 = .ok (.goto 11, 3) := by decide +kernel
theorem dX8_happen_131 : decode cX8_happen 131 = .ok (.aload_n 0, 1) := by decide +kernel
theorem dX8_happen_132 : decode cX8_happen 132 = .ok (.getfield 17, 3) := by decide +kernel
theorem dX8_happen_135 : decode cX8_happen 135 = .ok (.iconst 1, 1) := by decide +kernel
theorem dX8_happen_136 : decode cX8_happen 136 = .ok (.invokevirtual 57, 3) := by decide +kernel
theorem dX8_happen_139 : decode cX8_happen 139 = .ok (.return_, 1) := by decide +kernel
theorem dX9_init_0 : decode cX9_init 0 = .ok (.aload_n 0, 1) := by decide +kernel
theorem dX9_init_1 : decode cX9_init 1 = .ok (.invokespecial 1, 3) := by decide +kernel
theorem dX9_init_4 : decode cX9_init 4 = .ok (.aload_n 0, 1) := by decide +kernel
theorem dX9_init_5 : decode cX9_init 5 = .ok (.new 7, 3) := by decide +kernel
theorem dX9_init_8 : decode cX9_init 8 = .ok (.dup, 1) := by decide +kernel
theorem dX9_init_9 : decode cX9_init 9 = .ok (.invokespecial 9, 3) := by decide +kernel
theorem dX9_init_12 : decode cX9_init 12 = .ok (.putfield 10, 3) := by decide +kernel
theorem dX9_init_15 : decode cX9_init 15 = .ok (.aload_n 0, 1) := by decide +kernel
theorem dX9_init_16 : decode cX9_init 16 = .ok (.new 16, 3) := by decide +kernel
theorem dX9_init_19 : decode cX9_init 19 = .ok (.dup, 1) := by decide +kernel
theorem dX9_init_20 : decode cX9_init 20 = .ok (.invokespecial 18, 3) := by decide +kernel
theorem dX9_init_23 : decode cX9_init 23 = .ok (.putfield 19, 3) := by decide +kernel
theorem dX9_init_26 : decode cX9_init 26 = .ok (.aload_n 0, 1) := by decide +kernel
theorem dX9_init_27 : decode cX9_init 27 = .ok (.new 23, 3) := by decide +kernel
theorem dX9_init_30 : decode cX9_init 30 = .ok (.dup, 1) := by decide +kernel
theorem dX9_init_31 : decode cX9_init 31 = .ok (.aload_n 0, 1) := by decide +kernel
theorem dX9_init_32 : decode cX9_init 32 = .ok (.getfield 19, 3) := by decide +kernel
theorem dX9_init_35 : decode cX9_init 35 = .ok (.invokespecial 25, 3) := by decide +kernel
theorem dX9_init_38 : decode cX9_init 38 = .ok (.putfield 28, 3) := by decide +kernel
theorem dX9_init_41 : decode cX9_init 41 = .ok (.aload_n 0, 1) := by decide +kernel
theorem dX9_init_42 : decode cX9_init 42 = .ok (.new 23, 3) := by decide +kernel
theorem dX9_init_45 : decode cX9_init 45 = .ok (.dup, 1) := by decide +kernel
theorem dX9_init_46 : decode cX9_init 46 = .ok (.aload_n 0, 1) := by decide +kernel
theorem dX9_init_47 : decode cX9_init 47 = .ok (.getfield 19, 3) := by decide +kernel
theorem dX9_init_50 : decode cX9_init 50 = .ok (.invokespecial 25, 3) := by decide +kernel
theorem dX9_init_53 : decode cX9_init 53 = .ok (.putfield 32, 3) := by decide +kernel
theorem dX9_init_56 : decode cX9_init 56 = .ok (.aload_n 0, 1) := by decide +kernel
theorem dX9_init_57 : decode cX9_init 57 = .ok (.new 35, 3) := by decide +kernel
theorem dX9_init_60 : decode cX9_init 60 = .ok (.dup, 1) := by decide +kernel
theorem dX9_init_61 : decode cX9_init 61 = .ok (.aload_n 0, 1) := by decide +kernel
theorem dX9_init_62 : decode cX9_init 62 = .ok (.getfield 19, 3) := by decide +kernel
theorem dX9_init_65 : decode cX9_init 65 = .ok (.invokespecial 37, 3) := by decide +kernel
theorem dX9_init_68 : decode cX9_init 68 = .ok (.putfield 38, 3) := by decide +kernel
theorem dX9_init_71 : decode cX9_init 71 = .ok (.aload_n 0, 1) := by decide +kernel
theorem dX9_init_72 : decode cX9_init 72 = .ok (.new 42, 3) := by decide +kernel
theorem dX9_init_75 : decode cX9_init 75 = .ok (.dup, 1) := by decide +kernel
theorem dX9_init_76 : decode cX9_init 76 = .ok (.aload_n 0, 1) := by decide +kernel
theorem dX9_init_77 : decode cX9_init 77 = .ok (.getfield 19, 3) := by decide +kernel
theorem dX9_init_80 : decode cX9_init 80 = .ok (.invokespecial 44, 3) := by decide +kernel
theorem dX9_init_83 : decode cX9_init 83 = .ok (.putfield 45, 3) := by decide +kernel
theorem dX9_init_86 : decode cX9_init 86 = .ok (.aload_n 0, 1) := by decide +kernel
theorem dX9_init_87 : decode cX9_init 87 = .ok (.new 49, 3) := by decide +kernel
theorem dX9_init_90 : decode cX9_init 90 = .ok (.dup, 1) := by decide +kernel
theorem dX9_init_91 : decode cX9_init 91 = .ok (.invokespecial 51, 3) := by decide +kernel
theorem dX9_init_94 : decode cX9_init 94 = .ok (.putfield 52, 3) := by decide +kernel
theorem dX9_init_97 : decode cX9_init 97 = .ok (.aload_n 0, 1) := by decide +kernel
theorem dX9_init_98 : decode cX9_init 98 = .ok (.new 56, 3) := by decide +kernel
theorem dX9_init_101 : decode cX9_init 101 = .ok (.dup, 1) := by decide +kernel
theorem dX9_init_102 : decode cX9_init 102 = .ok (.aload_n 0, 1) := by decide +kernel
theorem dX9_init_103 : decode cX9_init 103 = .ok (.getfield 19, 3) := by decide +kernel
theorem dX9_init_106 : decode cX9_init 106 = .ok (.aload_n 0, 1) := by decide +kernel
theorem dX9_init_107 : decode cX9_init 107 = .ok (.getfield 28, 3) := by decide +kernel
theorem dX9_init_110 : decode cX9_init 110 = .ok (.aload_n 0, 1) := by decide +kernel
theorem dX9_init_111 : decode cX9_init 111 = .ok (.getfield 32, 3) := by decide +kernel
theorem dX9_init_114 : decode cX9_init 114 = .ok (.invokespecial 58, 3) := by decide +kernel
theorem dX9_init_117 : decode cX9_init 117 = .ok (.putfield 61, 3) := by decide +kernel
theorem dX9_init_120 : decode cX9_init 120 = .ok (.aload_n 0, 1) := by decide +kernel
theorem dX9_init_121 : decode cX9_init 121 = .ok (.new 65, 3) := by decide +kernel
theorem dX9_init_124 : decode cX9_init 124 = .ok (.dup, 1) := by decide +kernel
theorem dX9_init_125 : decode cX9_init 125 = .ok (.aload_n 0, 1) := by decide +kernel
theorem dX9_init_126 : decode cX9_init 126 = .ok (.getfield 19, 3) := by decide +kernel
theorem dX9_init_129 : decode cX9_init 129 = .ok (.aload_n 0, 1) := by decide +kernel
theorem dX9_init_130 : decode cX9_init 130 = .ok (.getfield 28, 3) := by decide +kernel
theorem dX9_init_133 : decode cX9_init 133 = .ok (.aload_n 0, 1) := by decide +kernel
theorem dX9_init_134 : decode cX9_init 134 = .ok (.getfield 32, 3) := by decide +kernel
theorem dX9_init_137 : decode cX9_init 137 = .ok (.invokespecial 67, 3) := by decide +kernel
theorem dX9_init_140 : decode cX9_init 140 = .ok (.putfield 68, 3) := by decide +kernel
theorem dX9_init_143 : decode cX9_init 143 = .ok (.aload_n 0, 1) := by decide +kernel
theorem dX9_init_144 : decode cX9_init 144 = .ok (.new 72, 3) := by decide +kernel
theorem dX9_init_147 : decode cX9_init 147 = .ok (.dup, 1) := by decide +kernel
theorem dX9_init_148 : decode cX9_init 148 = .ok (.aload_n 0, 1) := by decide +kernel
theorem dX9_init_149 : decode cX9_init 149 = .ok (.getfield 28, 3) := by decide +kernel
theorem dX9_init_152 : decode cX9_init 152 = .ok (.aload_n 0, 1) := by decide +kernel
theorem dX9_init_153 : decode cX9_init 153 = .ok (.getfield 32, 3) := by decide +kernel
theorem dX9_init_156 : decode cX9_init 156 = .ok (.invokespecial 74, 3) := by decide +kernel
theorem dX9_init_159 : decode cX9_init 159 = .ok (.putfield 77, 3) := by decide +kernel
theorem dX9_init_162 : decode cX9_init 162 = .ok (.return_, 1) := by decide +kernel
theorem dX9_write_0 : decode cX9_write 0 = .ok (.iload_n 1, 1) := by decide +kernel
theorem dX9_write_1 : decode cX9_write 1 = .ok (.ifCond .lt 10, 3) := by decide +kernel
theorem dX9_write_4 : decode cX9_write 4 = .ok (.iload_n 1, 1) := by decide +kernel
theorem dX9_write_5 : decode cX9_write 5 = .ok (.sipush 255, 3) := by decide +kernel
theorem dX9_write_8 : decode cX9_write 8 = .ok (.if_icmp .le 6, 3) := by decide +kernel
theorem dX9_write_11 : decode cX9_write 11 = .ok (.bipush (-2), 2) := by decide +kernel
theorem dX9_write_13 : decode cX9_write 13 = .ok (.ireturn, 1) := by decide +kernel
theorem dX9_write_14 : decode cX9_write 14 = .ok (.aload_n 0, 1) := by decide +kernel
theorem dX9_write_15 : decode cX9_write 15 = .ok (.getfield 10, 3) := by decide +kernel
theorem dX9_write_18 : decode cX9_write 18 = .ok (.iload_n 1, 1) := by decide +kernel
theorem dX9_write_19 : decode cX9_write 19 = .ok (.invokevirtual 81, 3) := by decide +kernel
theorem dX9_write_22 : decode cX9_write 22 = .ok (.ifCond .eq 13, 3) := by decide +kernel
theorem dX9_write_25 : decode cX9_write 25 = .ok (.aload_n 0, 1) := by decide +kernel
theorem dX9_write_26 : decode cX9_write 26 = .ok (.getfield 10, 3) := by decide +kernel
theorem dX9_write_29 : decode cX9_write 29 = .ok (.getfield 85, 3) := by decide +kernel
theorem dX9_write_32 : decode cX9_write 32 = .ok (.goto 5, 3) := by decide +kernel
theorem dX9_write_35 : decode cX9_write 35 = .ok (.bipush (-4), 2) := by decide +kernel
theorem dX9_write_37 : decode cX9_write 37 = .ok (.ireturn, 1) := by decide +kernel
theorem dX9_wipe_0 : decode cX9_wipe 0 = .ok (.aload_n 0, 1) := by decide +kernel
theorem dX9_wipe_1 : decode cX9_wipe 1 = .ok (.getfield 10, 3) := by decide +kernel
theorem dX9_wipe_4 : decode cX9_wipe 4 = .ok (.getfield 85, 3) := by decide +kernel
theorem dX9_wipe_7 : decode cX9_wipe 7 = .ok (.istore_n 1, 1) := by decide +kernel
theorem dX9_wipe_8 : decode cX9_wipe 8 = .ok (.aload_n 0, 1) := by decide +kernel
theorem dX9_wipe_9 : decode cX9_wipe 9 = .ok (.getfield 10, 3) := by decide +kernel
theorem dX9_wipe_12 : decode cX9_wipe 12 = .ok (.iconst 0, 1) := by decide +kernel
theorem dX9_wipe_13 : decode cX9_wipe 13 = .ok (.putfield 85, 3) := by decide +kernel
theorem dX9_wipe_16 : decode cX9_wipe 16 = .ok (.iload_n 1, 1) := by decide +kernel
theorem dX9_wipe_17 : decode cX9_wipe 17 = .ok (.ireturn, 1) := by decide +kernel
theorem dX9_fault_0 : decode cX9_fault 0 = .ok (.aload_n 0, 1) := by decide +kernel
theorem dX9_fault_1 : decode cX9_fault 1 = .ok (.getfield 10, 3) := by decide +kernel
theorem dX9_fault_4 : decode cX9_fault 4 = .ok (.invokevirtual 89, 3) := by decide +kernel
theorem dX9_fault_7 : decode cX9_fault 7 = .ok (.ireturn, 1) := by decide +kernel
theorem dX9_choir_0 : decode cX9_choir 0 = .ok (.aload_n 0, 1) := by decide +kernel
theorem dX9_choir_1 : decode cX9_choir 1 = .ok (.getfield 10, 3) := by decide +kernel
theorem dX9_choir_4 : decode cX9_choir 4 = .ok (.invokevirtual 89, 3) := by decide +kernel
theorem dX9_choir_7 : decode cX9_choir 7 = .ok (.bipush (-9), 2) := by decide +kernel
theorem dX9_choir_9 : decode cX9_choir 9 = .ok (.if_icmp .eq 6, 3) := by decide +kernel
theorem dX9_choir_12 : decode cX9_choir 12 = .ok (.bipush (-3), 2) := by decide +kernel
theorem dX9_choir_14 : decode cX9_choir 14 = .ok (.ireturn, 1) := by decide +kernel
theorem dX9_choir_15 : decode cX9_choir 15 = .ok (.aload_n 0, 1) := by decide +kernel
theorem dX9_choir_16 : decode cX9_choir 16 = .ok (.getfield 10, 3) := by decide +kernel
theorem dX9_choir_19 : decode cX9_choir 19 = .ok (.aload_n 0, 1) := by decide +kernel
theorem dX9_choir_20 : decode cX9_choir 20 = .ok (.getfield 19, 3) := by decide +kernel
theorem dX9_choir_23 : decode cX9_choir 23 = .ok (.aload_n 0, 1) := by decide +kernel
theorem dX9_choir_24 : decode cX9_choir 24 = .ok (.getfield 28, 3) := by decide +kernel
theorem dX9_choir_27 : decode cX9_choir 27 = .ok (.invokevirtual 93, 3) := by decide +kernel
theorem dX9_choir_30 : decode cX9_choir 30 = .ok (.aload_n 0, 1) := by decide +kernel
theorem dX9_choir_31 : decode cX9_choir 31 = .ok (.getfield 38, 3) := by decide +kernel
theorem dX9_choir_34 : decode cX9_choir 34 = .ok (.invokevirtual 97, 3) := by decide +kernel
theorem dX9_choir_37 : decode cX9_choir 37 = .ok (.aload_n 0, 1) := by decide +kernel
theorem dX9_choir_38 : decode cX9_choir 38 = .ok (.getfield 45, 3) := by decide +kernel
theorem dX9_choir_41 : decode cX9_choir 41 = .ok (.invokevirtual 100, 3) := by decide +kernel
theorem dX9_choir_44 : decode cX9_choir 44 = .ok (.aload_n 0, 1) := by decide +kernel
theorem dX9_choir_45 : decode cX9_choir 45 = .ok (.getfield 19, 3) := by decide +kernel
theorem dX9_choir_48 : decode cX9_choir 48 = .ok (.getfield 101, 3) := by decide +kernel
theorem dX9_choir_51 : decode cX9_choir 51 = .ok (.ireturn, 1) := by decide +kernel
theorem dX9_singer_0 : decode cX9_singer 0 = .ok (.aload_n 0, 1) := by decide +kernel
theorem dX9_singer_1 : decode cX9_singer 1 = .ok (.getfield 28, 3) := by decide +kernel
theorem dX9_singer_4 : decode cX9_singer 4 = .ok (.iload_n 1, 1) := by decide +kernel
theorem dX9_singer_5 : decode cX9_singer 5 = .ok (.invokevirtual 104, 3) := by decide +kernel
theorem dX9_singer_8 : decode cX9_singer 8 = .ok (.ifCond .ne 5, 3) := by decide +kernel
theorem dX9_singer_11 : decode cX9_singer 11 = .ok (.iconst (-1), 1) := by decide +kernel
theorem dX9_singer_12 : decode cX9_singer 12 = .ok (.ireturn, 1) := by decide +kernel
theorem dX9_singer_13 : decode cX9_singer 13 = .ok (.iload_n 2, 1) := by decide +kernel
theorem dX9_singer_14 : decode cX9_singer 14 = .ok (.tableswitch 145 0 8 #[50, 60, 70, 80, 90, 100, 110, 119, 128], 50) := by decide +kernel
theorem dX9_singer_64 : decode cX9_singer 64 = .ok (.aload_n 0, 1) := by decide +kernel
theorem dX9_singer_65 : decode cX9_singer 65 = .ok (.getfield 28, 3) := by decide +kernel
theorem dX9_singer_68 : decode cX9_singer 68 = .ok (.getfield 107, 3) := by decide +kernel
theorem dX9_singer_71 : decode cX9_singer 71 = .ok (.iload_n 1, 1) := by decide +kernel
theorem dX9_singer_72 : decode cX9_singer 72 = .ok (.iaload, 1) := by decide +kernel
theorem dX9_singer_73 : decode cX9_singer 73 = .ok (.ireturn, 1) := by decide +kernel
theorem dX9_singer_74 : decode cX9_singer 74 = .ok (.aload_n 0, 1) := by decide +kernel
theorem dX9_singer_75 : decode cX9_singer 75 = .ok (.getfield 19, 3) := by decide +kernel
theorem dX9_singer_78 : decode cX9_singer 78 = .ok (.getfield 111, 3) := by decide +kernel
theorem dX9_singer_81 : decode cX9_singer 81 = .ok (.iload_n 1, 1) := by decide +kernel
theorem dX9_singer_82 : decode cX9_singer 82 = .ok (.iaload, 1) := by decide +kernel
theorem dX9_singer_83 : decode cX9_singer 83 = .ok (.ireturn, 1) := by decide +kernel
theorem dX9_singer_84 : decode cX9_singer 84 = .ok (.aload_n 0, 1) := by decide +kernel
theorem dX9_singer_85 : decode cX9_singer 85 = .ok (.getfield 19, 3) := by decide +kernel
theorem dX9_singer_88 : decode cX9_singer 88 = .ok (.getfield 114, 3) := by decide +kernel
theorem dX9_singer_91 : decode cX9_singer 91 = .ok (.iload_n 1, 1) := by decide +kernel
theorem dX9_singer_92 : decode cX9_singer 92 = .ok (.iaload, 1) := by decide +kernel
theorem dX9_singer_93 : decode cX9_singer 93 = .ok (.ireturn, 1) := by decide +kernel
theorem dX9_singer_94 : decode cX9_singer 94 = .ok (.aload_n 0, 1) := by decide +kernel
theorem dX9_singer_95 : decode cX9_singer 95 = .ok (.getfield 28, 3) := by decide +kernel
theorem dX9_singer_98 : decode cX9_singer 98 = .ok (.getfield 117, 3) := by decide +kernel
theorem dX9_singer_101 : decode cX9_singer 101 = .ok (.iload_n 1, 1) := by decide +kernel
theorem dX9_singer_102 : decode cX9_singer 102 = .ok (.iaload, 1) := by decide +kernel
theorem dX9_singer_103 : decode cX9_singer 103 = .ok (.ireturn, 1) := by decide +kernel
theorem dX9_singer_104 : decode cX9_singer 104 = .ok (.aload_n 0, 1) := by decide +kernel
theorem dX9_singer_105 : decode cX9_singer 105 = .ok (.getfield 19, 3) := by decide +kernel
theorem dX9_singer_108 : decode cX9_singer 108 = .ok (.getfield 120, 3) := by decide +kernel
theorem dX9_singer_111 : decode cX9_singer 111 = .ok (.iload_n 1, 1) := by decide +kernel
theorem dX9_singer_112 : decode cX9_singer 112 = .ok (.iaload, 1) := by decide +kernel
theorem dX9_singer_113 : decode cX9_singer 113 = .ok (.ireturn, 1) := by decide +kernel
theorem dX9_singer_114 : decode cX9_singer 114 = .ok (.aload_n 0, 1) := by decide +kernel
theorem dX9_singer_115 : decode cX9_singer 115 = .ok (.getfield 28, 3) := by decide +kernel
theorem dX9_singer_118 : decode cX9_singer 118 = .ok (.getfield 123, 3) := by decide +kernel
theorem dX9_singer_121 : decode cX9_singer 121 = .ok (.iload_n 1, 1) := by decide +kernel
theorem dX9_singer_122 : decode cX9_singer 122 = .ok (.iaload, 1) := by decide +kernel
theorem dX9_singer_123 : decode cX9_singer 123 = .ok (.ireturn, 1) := by decide +kernel
theorem dX9_singer_124 : decode cX9_singer 124 = .ok (.aload_n 0, 1) := by decide +kernel
theorem dX9_singer_125 : decode cX9_singer 125 = .ok (.getfield 28, 3) := by decide +kernel
theorem dX9_singer_128 : decode cX9_singer 128 = .ok (.iload_n 1, 1) := by decide +kernel
theorem dX9_singer_129 : decode cX9_singer 129 = .ok (.invokevirtual 126, 3) := by decide +kernel
theorem dX9_singer_132 : decode cX9_singer 132 = .ok (.ireturn, 1) := by decide +kernel
theorem dX9_singer_133 : decode cX9_singer 133 = .ok (.aload_n 0, 1) := by decide +kernel
theorem dX9_singer_134 : decode cX9_singer 134 = .ok (.getfield 28, 3) := by decide +kernel
theorem dX9_singer_137 : decode cX9_singer 137 = .ok (.iload_n 1, 1) := by decide +kernel
theorem dX9_singer_138 : decode cX9_singer 138 = .ok (.invokevirtual 130, 3) := by decide +kernel
theorem dX9_singer_141 : decode cX9_singer 141 = .ok (.ireturn, 1) := by decide +kernel
theorem dX9_singer_142 : decode cX9_singer 142 = .ok (.aload_n 0, 1) := by decide +kernel
theorem dX9_singer_143 : decode cX9_singer 143 = .ok (.getfield 28, 3) := by decide +kernel
theorem dX9_singer_146 : decode cX9_singer 146 = .ok (.iload_n 1, 1) := by decide +kernel
theorem dX9_singer_147 : decode cX9_singer 147 = .ok (.invokevirtual 133, 3) := by decide +kernel
theorem dX9_singer_150 : decode cX9_singer 150 = .ok (.ifCond .eq 7, 3) := by decide +kernel
theorem dX9_singer_153 : decode cX9_singer 153 = .ok (.iconst 1, 1) := by decide +kernel
theorem dX9_singer_154 : decode cX9_singer 154 = .ok (.goto 4, 3) := by decide +kernel
theorem dX9_singer_157 : decode cX9_singer 157 = .ok (.iconst 0, 1) := by decide +kernel
theorem dX9_singer_158 : decode cX9_singer 158 = .ok (.ireturn, 1) := by decide +kernel
theorem dX9_singer_159 : decode cX9_singer 159 = .ok (.bipush (-2), 2) := by decide +kernel
theorem dX9_singer_161 : decode cX9_singer 161 = .ok (.ireturn, 1) := by decide +kernel
theorem dX9_seat_0 : decode cX9_seat 0 = .ok (.iload_n 1, 1) := by decide +kernel
theorem dX9_seat_1 : decode cX9_seat 1 = .ok (.iconst 0, 1) := by decide +kernel
theorem dX9_seat_2 : decode cX9_seat 2 = .ok (.bipush 7, 2) := by decide +kernel
theorem dX9_seat_4 : decode cX9_seat 4 = .ok (.invokestatic 136, 3) := by decide +kernel
theorem dX9_seat_7 : decode cX9_seat 7 = .ok (.ifCond .eq 14, 3) := by decide +kernel
theorem dX9_seat_10 : decode cX9_seat 10 = .ok (.aload_n 0, 1) := by decide +kernel
theorem dX9_seat_11 : decode cX9_seat 11 = .ok (.getfield 28, 3) := by decide +kernel
theorem dX9_seat_14 : decode cX9_seat 14 = .ok (.iload_n 1, 1) := by decide +kernel
theorem dX9_seat_15 : decode cX9_seat 15 = .ok (.invokevirtual 140, 3) := by decide +kernel
theorem dX9_seat_18 : decode cX9_seat 18 = .ok (.goto 4, 3) := by decide +kernel
theorem dX9_seat_21 : decode cX9_seat 21 = .ok (.iconst (-1), 1) := by decide +kernel
theorem dX9_seat_22 : decode cX9_seat 22 = .ok (.ireturn, 1) := by decide +kernel
theorem dX9_bar_0 : decode cX9_bar 0 = .ok (.aload_n 0, 1) := by decide +kernel
theorem dX9_bar_1 : decode cX9_bar 1 = .ok (.getfield 38, 3) := by decide +kernel
theorem dX9_bar_4 : decode cX9_bar 4 = .ok (.aload_n 0, 1) := by decide +kernel
theorem dX9_bar_5 : decode cX9_bar 5 = .ok (.getfield 28, 3) := by decide +kernel
theorem dX9_bar_8 : decode cX9_bar 8 = .ok (.invokevirtual 143, 3) := by decide +kernel
theorem dX9_bar_11 : decode cX9_bar 11 = .ok (.aload_n 0, 1) := by decide +kernel
theorem dX9_bar_12 : decode cX9_bar 12 = .ok (.getfield 28, 3) := by decide +kernel
theorem dX9_bar_15 : decode cX9_bar 15 = .ok (.iconst 1, 1) := by decide +kernel
theorem dX9_bar_16 : decode cX9_bar 16 = .ok (.invokevirtual 147, 3) := by decide +kernel
theorem dX9_bar_19 : decode cX9_bar 19 = .ok (.aload_n 0, 1) := by decide +kernel
theorem dX9_bar_20 : decode cX9_bar 20 = .ok (.getfield 28, 3) := by decide +kernel
theorem dX9_bar_23 : decode cX9_bar 23 = .ok (.dup, 1) := by decide +kernel
theorem dX9_bar_24 : decode cX9_bar 24 = .ok (.getfield 151, 3) := by decide +kernel
theorem dX9_bar_27 : decode cX9_bar 27 = .ok (.iconst 1, 1) := by decide +kernel
theorem dX9_bar_28 : decode cX9_bar 28 = .ok (.iadd, 1) := by decide +kernel
theorem dX9_bar_29 : decode cX9_bar 29 = .ok (.putfield 151, 3) := by decide +kernel
theorem dX9_bar_32 : decode cX9_bar 32 = .ok (.aload_n 0, 1) := by decide +kernel
theorem dX9_bar_33 : decode cX9_bar 33 = .ok (.getfield 28, 3) := by decide +kernel
theorem dX9_bar_36 : decode cX9_bar 36 = .ok (.invokevirtual 154, 3) := by decide +kernel
theorem dX9_bar_39 : decode cX9_bar 39 = .ok (.ireturn, 1) := by decide +kernel
theorem dX9_gift_0 : decode cX9_gift 0 = .ok (.aload_n 0, 1) := by decide +kernel
theorem dX9_gift_1 : decode cX9_gift 1 = .ok (.getfield 28, 3) := by decide +kernel
theorem dX9_gift_4 : decode cX9_gift 4 = .ok (.iload_n 1, 1) := by decide +kernel
theorem dX9_gift_5 : decode cX9_gift 5 = .ok (.invokevirtual 104, 3) := by decide +kernel
theorem dX9_gift_8 : decode cX9_gift 8 = .ok (.ifCond .ne 5, 3) := by decide +kernel
theorem dX9_gift_11 : decode cX9_gift 11 = .ok (.iconst (-1), 1) := by decide +kernel
theorem dX9_gift_12 : decode cX9_gift 12 = .ok (.ireturn, 1) := by decide +kernel
theorem dX9_gift_13 : decode cX9_gift 13 = .ok (.iload_n 2, 1) := by decide +kernel
theorem dX9_gift_14 : decode cX9_gift 14 = .ok (.iconst 1, 1) := by decide +kernel
theorem dX9_gift_15 : decode cX9_gift 15 = .ok (.bipush 9, 2) := by decide +kernel
theorem dX9_gift_17 : decode cX9_gift 17 = .ok (.invokestatic 136, 3) := by decide +kernel
theorem dX9_gift_20 : decode cX9_gift 20 = .ok (.ifCond .ne 6, 3) := by decide +kernel
theorem dX9_gift_23 : decode cX9_gift 23 = .ok (.bipush (-2), 2) := by decide +kernel
theorem dX9_gift_25 : decode cX9_gift 25 = .ok (.ireturn, 1) := by decide +kernel
theorem dX9_gift_26 : decode cX9_gift 26 = .ok (.aload_n 0, 1) := by decide +kernel
theorem dX9_gift_27 : decode cX9_gift 27 = .ok (.getfield 38, 3) := by decide +kernel
theorem dX9_gift_30 : decode cX9_gift 30 = .ok (.aload_n 0, 1) := by decide +kernel
theorem dX9_gift_31 : decode cX9_gift 31 = .ok (.getfield 28, 3) := by decide +kernel
theorem dX9_gift_34 : decode cX9_gift 34 = .ok (.invokevirtual 143, 3) := by decide +kernel
theorem dX9_gift_37 : decode cX9_gift 37 = .ok (.aload_n 0, 1) := by decide +kernel
theorem dX9_gift_38 : decode cX9_gift 38 = .ok (.getfield 28, 3) := by decide +kernel
theorem dX9_gift_41 : decode cX9_gift 41 = .ok (.iload_n 1, 1) := by decide +kernel
theorem dX9_gift_42 : decode cX9_gift 42 = .ok (.iload_n 2, 1) := by decide +kernel
theorem dX9_gift_43 : decode cX9_gift 43 = .ok (.invokevirtual 157, 3) := by decide +kernel
theorem dX9_gift_46 : decode cX9_gift 46 = .ok (.aload_n 0, 1) := by decide +kernel
theorem dX9_gift_47 : decode cX9_gift 47 = .ok (.getfield 28, 3) := by decide +kernel
theorem dX9_gift_50 : decode cX9_gift 50 = .ok (.getfield 117, 3) := by decide +kernel
theorem dX9_gift_53 : decode cX9_gift 53 = .ok (.iload_n 1, 1) := by decide +kernel
theorem dX9_gift_54 : decode cX9_gift 54 = .ok (.iaload, 1) := by decide +kernel
theorem dX9_gift_55 : decode cX9_gift 55 = .ok (.ireturn, 1) := by decide +kernel
theorem dX9_change_0 : decode cX9_change 0 = .ok (.aload_n 0, 1) := by decide +kernel
theorem dX9_change_1 : decode cX9_change 1 = .ok (.getfield 28, 3) := by decide +kernel
theorem dX9_change_4 : decode cX9_change 4 = .ok (.iload_n 1, 1) := by decide +kernel
theorem dX9_change_5 : decode cX9_change 5 = .ok (.invokevirtual 104, 3) := by decide +kernel
theorem dX9_change_8 : decode cX9_change 8 = .ok (.ifCond .eq 14, 3) := by decide +kernel
theorem dX9_change_11 : decode cX9_change 11 = .ok (.aload_n 0, 1) := by decide +kernel
theorem dX9_change_12 : decode cX9_change 12 = .ok (.getfield 28, 3) := by decide +kernel
theorem dX9_change_15 : decode cX9_change 15 = .ok (.iload_n 2, 1) := by decide +kernel
theorem dX9_change_16 : decode cX9_change 16 = .ok (.invokevirtual 104, 3) := by decide +kernel
theorem dX9_change_19 : decode cX9_change 19 = .ok (.ifCond .ne 5, 3) := by decide +kernel
theorem dX9_change_22 : decode cX9_change 22 = .ok (.iconst (-1), 1) := by decide +kernel
theorem dX9_change_23 : decode cX9_change 23 = .ok (.ireturn, 1) := by decide +kernel
theorem dX9_change_24 : decode cX9_change 24 = .ok (.iload_n 1, 1) := by decide +kernel
theorem dX9_change_25 : decode cX9_change 25 = .ok (.iload_n 2, 1) := by decide +kernel
theorem dX9_change_26 : decode cX9_change 26 = .ok (.if_icmp .ne 6, 3) := by decide +kernel
theorem dX9_change_29 : decode cX9_change 29 = .ok (.bipush (-2), 2) := by decide +kernel
theorem dX9_change_31 : decode cX9_change 31 = .ok (.ireturn, 1) := by decide +kernel
theorem dX9_change_32 : decode cX9_change 32 = .ok (.aload_n 0, 1) := by decide +kernel
theorem dX9_change_33 : decode cX9_change 33 = .ok (.getfield 38, 3) := by decide +kernel
theorem dX9_change_36 : decode cX9_change 36 = .ok (.aload_n 0, 1) := by decide +kernel
theorem dX9_change_37 : decode cX9_change 37 = .ok (.getfield 28, 3) := by decide +kernel
theorem dX9_change_40 : decode cX9_change 40 = .ok (.invokevirtual 143, 3) := by decide +kernel
theorem dX9_change_43 : decode cX9_change 43 = .ok (.aload_n 0, 1) := by decide +kernel
theorem dX9_change_44 : decode cX9_change 44 = .ok (.getfield 28, 3) := by decide +kernel
theorem dX9_change_47 : decode cX9_change 47 = .ok (.iload_n 1, 1) := by decide +kernel
theorem dX9_change_48 : decode cX9_change 48 = .ok (.iload_n 2, 1) := by decide +kernel
theorem dX9_change_49 : decode cX9_change 49 = .ok (.invokevirtual 161, 3) := by decide +kernel
theorem dX9_change_52 : decode cX9_change 52 = .ok (.aload_n 0, 1) := by decide +kernel
theorem dX9_change_53 : decode cX9_change 53 = .ok (.getfield 28, 3) := by decide +kernel
theorem dX9_change_56 : decode cX9_change 56 = .ok (.getfield 107, 3) := by decide +kernel
theorem dX9_change_59 : decode cX9_change 59 = .ok (.iload_n 1, 1) := by decide +kernel
theorem dX9_change_60 : decode cX9_change 60 = .ok (.iaload, 1) := by decide +kernel
theorem dX9_change_61 : decode cX9_change 61 = .ok (.ireturn, 1) := by decide +kernel
theorem dX9_pitch_0 : decode cX9_pitch 0 = .ok (.aload_n 0, 1) := by decide +kernel
theorem dX9_pitch_1 : decode cX9_pitch 1 = .ok (.getfield 38, 3) := by decide +kernel
theorem dX9_pitch_4 : decode cX9_pitch 4 = .ok (.aload_n 0, 1) := by decide +kernel
theorem dX9_pitch_5 : decode cX9_pitch 5 = .ok (.getfield 28, 3) := by decide +kernel
theorem dX9_pitch_8 : decode cX9_pitch 8 = .ok (.invokevirtual 143, 3) := by decide +kernel
theorem dX9_pitch_11 : decode cX9_pitch 11 = .ok (.aload_n 0, 1) := by decide +kernel
theorem dX9_pitch_12 : decode cX9_pitch 12 = .ok (.getfield 28, 3) := by decide +kernel
theorem dX9_pitch_15 : decode cX9_pitch 15 = .ok (.invokevirtual 164, 3) := by decide +kernel
theorem dX9_pitch_18 : decode cX9_pitch 18 = .ok (.aload_n 0, 1) := by decide +kernel
theorem dX9_pitch_19 : decode cX9_pitch 19 = .ok (.getfield 28, 3) := by decide +kernel
theorem dX9_pitch_22 : decode cX9_pitch 22 = .ok (.invokevirtual 154, 3) := by decide +kernel
theorem dX9_pitch_25 : decode cX9_pitch 25 = .ok (.ireturn, 1) := by decide +kernel
theorem dX9_hold_0 : decode cX9_hold 0 = .ok (.aload_n 0, 1) := by decide +kernel
theorem dX9_hold_1 : decode cX9_hold 1 = .ok (.getfield 28, 3) := by decide +kernel
theorem dX9_hold_4 : decode cX9_hold 4 = .ok (.iload_n 1, 1) := by decide +kernel
theorem dX9_hold_5 : decode cX9_hold 5 = .ok (.invokevirtual 104, 3) := by decide +kernel
theorem dX9_hold_8 : decode cX9_hold 8 = .ok (.ifCond .ne 5, 3) := by decide +kernel
theorem dX9_hold_11 : decode cX9_hold 11 = .ok (.iconst (-1), 1) := by decide +kernel
theorem dX9_hold_12 : decode cX9_hold 12 = .ok (.ireturn, 1) := by decide +kernel
theorem dX9_hold_13 : decode cX9_hold 13 = .ok (.aload_n 0, 1) := by decide +kernel
theorem dX9_hold_14 : decode cX9_hold 14 = .ok (.getfield 38, 3) := by decide +kernel
theorem dX9_hold_17 : decode cX9_hold 17 = .ok (.aload_n 0, 1) := by decide +kernel
theorem dX9_hold_18 : decode cX9_hold 18 = .ok (.getfield 28, 3) := by decide +kernel
theorem dX9_hold_21 : decode cX9_hold 21 = .ok (.invokevirtual 143, 3) := by decide +kernel
theorem dX9_hold_24 : decode cX9_hold 24 = .ok (.aload_n 0, 1) := by decide +kernel
theorem dX9_hold_25 : decode cX9_hold 25 = .ok (.getfield 28, 3) := by decide +kernel
theorem dX9_hold_28 : decode cX9_hold 28 = .ok (.iload_n 1, 1) := by decide +kernel
theorem dX9_hold_29 : decode cX9_hold 29 = .ok (.invokevirtual 167, 3) := by decide +kernel
theorem dX9_hold_32 : decode cX9_hold 32 = .ok (.aload_n 0, 1) := by decide +kernel
theorem dX9_hold_33 : decode cX9_hold 33 = .ok (.getfield 28, 3) := by decide +kernel
theorem dX9_hold_36 : decode cX9_hold 36 = .ok (.iload_n 1, 1) := by decide +kernel
theorem dX9_hold_37 : decode cX9_hold 37 = .ok (.invokevirtual 133, 3) := by decide +kernel
theorem dX9_hold_40 : decode cX9_hold 40 = .ok (.ifCond .eq 7, 3) := by decide +kernel
theorem dX9_hold_43 : decode cX9_hold 43 = .ok (.iconst 1, 1) := by decide +kernel
theorem dX9_hold_44 : decode cX9_hold 44 = .ok (.goto 4, 3) := by decide +kernel
theorem dX9_hold_47 : decode cX9_hold 47 = .ok (.iconst 0, 1) := by decide +kernel
theorem dX9_hold_48 : decode cX9_hold 48 = .ok (.ireturn, 1) := by decide +kernel
theorem dX9_undo_0 : decode cX9_undo 0 = .ok (.aload_n 0, 1) := by decide +kernel
theorem dX9_undo_1 : decode cX9_undo 1 = .ok (.getfield 38, 3) := by decide +kernel
theorem dX9_undo_4 : decode cX9_undo 4 = .ok (.aload_n 0, 1) := by decide +kernel
theorem dX9_undo_5 : decode cX9_undo 5 = .ok (.getfield 28, 3) := by decide +kernel
theorem dX9_undo_8 : decode cX9_undo 8 = .ok (.invokevirtual 170, 3) := by decide +kernel
theorem dX9_undo_11 : decode cX9_undo 11 = .ok (.ifCond .eq 13, 3) := by decide +kernel
theorem dX9_undo_14 : decode cX9_undo 14 = .ok (.aload_n 0, 1) := by decide +kernel
theorem dX9_undo_15 : decode cX9_undo 15 = .ok (.getfield 38, 3) := by decide +kernel
theorem dX9_undo_18 : decode cX9_undo 18 = .ok (.getfield 174, 3) := by decide +kernel
theorem dX9_undo_21 : decode cX9_undo 21 = .ok (.goto 5, 3) := by decide +kernel
theorem dX9_undo_24 : decode cX9_undo 24 = .ok (.bipush (-3), 2) := by decide +kernel
theorem dX9_undo_26 : decode cX9_undo 26 = .ok (.ireturn, 1) := by decide +kernel
theorem dX9_sings_0 : decode cX9_sings 0 = .ok (.aload_n 0, 1) := by decide +kernel
theorem dX9_sings_1 : decode cX9_sings 1 = .ok (.getfield 28, 3) := by decide +kernel
theorem dX9_sings_4 : decode cX9_sings 4 = .ok (.iload_n 1, 1) := by decide +kernel
theorem dX9_sings_5 : decode cX9_sings 5 = .ok (.invokevirtual 104, 3) := by decide +kernel
theorem dX9_sings_8 : decode cX9_sings 8 = .ok (.ifCond .ne 5, 3) := by decide +kernel
theorem dX9_sings_11 : decode cX9_sings 11 = .ok (.iconst (-1), 1) := by decide +kernel
theorem dX9_sings_12 : decode cX9_sings 12 = .ok (.ireturn, 1) := by decide +kernel
theorem dX9_sings_13 : decode cX9_sings 13 = .ok (.iload_n 2, 1) := by decide +kernel
theorem dX9_sings_14 : decode cX9_sings 14 = .ok (.iconst 0, 1) := by decide +kernel
theorem dX9_sings_15 : decode cX9_sings 15 = .ok (.bipush 60, 2) := by decide +kernel
theorem dX9_sings_17 : decode cX9_sings 17 = .ok (.invokestatic 136, 3) := by decide +kernel
theorem dX9_sings_20 : decode cX9_sings 20 = .ok (.ifCond .eq 15, 3) := by decide +kernel
theorem dX9_sings_23 : decode cX9_sings 23 = .ok (.aload_n 0, 1) := by decide +kernel
theorem dX9_sings_24 : decode cX9_sings 24 = .ok (.getfield 61, 3) := by decide +kernel
theorem dX9_sings_27 : decode cX9_sings 27 = .ok (.iload_n 1, 1) := by decide +kernel
theorem dX9_sings_28 : decode cX9_sings 28 = .ok (.iload_n 2, 1) := by decide +kernel
theorem dX9_sings_29 : decode cX9_sings 29 = .ok (.invokevirtual 175, 3) := by decide +kernel
theorem dX9_sings_32 : decode cX9_sings 32 = .ok (.goto 5, 3) := by decide +kernel
theorem dX9_sings_35 : decode cX9_sings 35 = .ok (.bipush (-2), 2) := by decide +kernel
theorem dX9_sings_37 : decode cX9_sings 37 = .ok (.ireturn, 1) := by decide +kernel
theorem dX9_notes_0 : decode cX9_notes 0 = .ok (.iload_n 1, 1) := by decide +kernel
theorem dX9_notes_1 : decode cX9_notes 1 = .ok (.iconst 0, 1) := by decide +kernel
theorem dX9_notes_2 : decode cX9_notes 2 = .ok (.bipush 60, 2) := by decide +kernel
theorem dX9_notes_4 : decode cX9_notes 4 = .ok (.invokestatic 136, 3) := by decide +kernel
theorem dX9_notes_7 : decode cX9_notes 7 = .ok (.ifCond .eq 14, 3) := by decide +kernel
theorem dX9_notes_10 : decode cX9_notes 10 = .ok (.aload_n 0, 1) := by decide +kernel
theorem dX9_notes_11 : decode cX9_notes 11 = .ok (.getfield 61, 3) := by decide +kernel
theorem dX9_notes_14 : decode cX9_notes 14 = .ok (.iload_n 1, 1) := by decide +kernel
theorem dX9_notes_15 : decode cX9_notes 15 = .ok (.invokevirtual 179, 3) := by decide +kernel
theorem dX9_notes_18 : decode cX9_notes 18 = .ok (.goto 5, 3) := by decide +kernel
theorem dX9_notes_21 : decode cX9_notes 21 = .ok (.bipush (-2), 2) := by decide +kernel
theorem dX9_notes_23 : decode cX9_notes 23 = .ok (.ireturn, 1) := by decide +kernel
theorem dX9_round_0 : decode cX9_round 0 = .ok (.iload_n 1, 1) := by decide +kernel
theorem dX9_round_1 : decode cX9_round 1 = .ok (.iconst 0, 1) := by decide +kernel
theorem dX9_round_2 : decode cX9_round 2 = .ok (.iconst 1, 1) := by decide +kernel
theorem dX9_round_3 : decode cX9_round 3 = .ok (.invokestatic 136, 3) := by decide +kernel
theorem dX9_round_6 : decode cX9_round 6 = .ok (.ifCond .eq 23, 3) := by decide +kernel
theorem dX9_round_9 : decode cX9_round 9 = .ok (.aload_n 0, 1) := by decide +kernel
theorem dX9_round_10 : decode cX9_round 10 = .ok (.getfield 61, 3) := by decide +kernel
theorem dX9_round_13 : decode cX9_round 13 = .ok (.iload_n 1, 1) := by decide +kernel
theorem dX9_round_14 : decode cX9_round 14 = .ok (.iconst 1, 1) := by decide +kernel
theorem dX9_round_15 : decode cX9_round 15 = .ok (.if_icmp .ne 7, 3) := by decide +kernel
theorem dX9_round_18 : decode cX9_round 18 = .ok (.iconst 1, 1) := by decide +kernel
theorem dX9_round_19 : decode cX9_round 19 = .ok (.goto 4, 3) := by decide +kernel
theorem dX9_round_22 : decode cX9_round 22 = .ok (.iconst 0, 1) := by decide +kernel
theorem dX9_round_23 : decode cX9_round 23 = .ok (.invokevirtual 182, 3) := by decide +kernel
theorem dX9_round_26 : decode cX9_round 26 = .ok (.goto 5, 3) := by decide +kernel
theorem dX9_round_29 : decode cX9_round 29 = .ok (.bipush (-2), 2) := by decide +kernel
theorem dX9_round_31 : decode cX9_round 31 = .ok (.ireturn, 1) := by decide +kernel
theorem dX9_unison_0 : decode cX9_unison 0 = .ok (.aload_n 0, 1) := by decide +kernel
theorem dX9_unison_1 : decode cX9_unison 1 = .ok (.getfield 61, 3) := by decide +kernel
theorem dX9_unison_4 : decode cX9_unison 4 = .ok (.invokevirtual 186, 3) := by decide +kernel
theorem dX9_unison_7 : decode cX9_unison 7 = .ok (.ireturn, 1) := by decide +kernel
theorem dX9_gets_0 : decode cX9_gets 0 = .ok (.aload_n 0, 1) := by decide +kernel
theorem dX9_gets_1 : decode cX9_gets 1 = .ok (.getfield 28, 3) := by decide +kernel
theorem dX9_gets_4 : decode cX9_gets 4 = .ok (.iload_n 1, 1) := by decide +kernel
theorem dX9_gets_5 : decode cX9_gets 5 = .ok (.invokevirtual 104, 3) := by decide +kernel
theorem dX9_gets_8 : decode cX9_gets 8 = .ok (.ifCond .ne 5, 3) := by decide +kernel
theorem dX9_gets_11 : decode cX9_gets 11 = .ok (.iconst (-1), 1) := by decide +kernel
theorem dX9_gets_12 : decode cX9_gets 12 = .ok (.ireturn, 1) := by decide +kernel
theorem dX9_gets_13 : decode cX9_gets 13 = .ok (.iload_n 2, 1) := by decide +kernel
theorem dX9_gets_14 : decode cX9_gets 14 = .ok (.iconst 0, 1) := by decide +kernel
theorem dX9_gets_15 : decode cX9_gets 15 = .ok (.bipush 9, 2) := by decide +kernel
theorem dX9_gets_17 : decode cX9_gets 17 = .ok (.invokestatic 136, 3) := by decide +kernel
theorem dX9_gets_20 : decode cX9_gets 20 = .ok (.ifCond .eq 23, 3) := by decide +kernel
theorem dX9_gets_23 : decode cX9_gets 23 = .ok (.iload_n 3, 1) := by decide +kernel
theorem dX9_gets_24 : decode cX9_gets 24 = .ok (.iconst 1, 1) := by decide +kernel
theorem dX9_gets_25 : decode cX9_gets 25 = .ok (.bipush 9, 2) := by decide +kernel
theorem dX9_gets_27 : decode cX9_gets 27 = .ok (.invokestatic 136, 3) := by decide +kernel
theorem dX9_gets_30 : decode cX9_gets 30 = .ok (.ifCond .eq 13, 3) := by decide +kernel
theorem dX9_gets_33 : decode cX9_gets 33 = .ok (.iload 4, 2) := by decide +kernel
theorem dX9_gets_35 : decode cX9_gets 35 = .ok (.iconst 0, 1) := by decide +kernel
theorem dX9_gets_36 : decode cX9_gets 36 = .ok (.iconst 1, 1) := by decide +kernel
theorem dX9_gets_37 : decode cX9_gets 37 = .ok (.invokestatic 136, 3) := by decide +kernel
theorem dX9_gets_40 : decode cX9_gets 40 = .ok (.ifCond .ne 6, 3) := by decide +kernel
theorem dX9_gets_43 : decode cX9_gets 43 = .ok (.bipush (-2), 2) := by decide +kernel
theorem dX9_gets_45 : decode cX9_gets 45 = .ok (.ireturn, 1) := by decide +kernel
theorem dX9_gets_46 : decode cX9_gets 46 = .ok (.aload_n 0, 1) := by decide +kernel
theorem dX9_gets_47 : decode cX9_gets 47 = .ok (.getfield 61, 3) := by decide +kernel
theorem dX9_gets_50 : decode cX9_gets 50 = .ok (.iload_n 1, 1) := by decide +kernel
theorem dX9_gets_51 : decode cX9_gets 51 = .ok (.iload_n 2, 1) := by decide +kernel
theorem dX9_gets_52 : decode cX9_gets 52 = .ok (.iload_n 3, 1) := by decide +kernel
theorem dX9_gets_53 : decode cX9_gets 53 = .ok (.iload 4, 2) := by decide +kernel
theorem dX9_gets_55 : decode cX9_gets 55 = .ok (.iconst 1, 1) := by decide +kernel
theorem dX9_gets_56 : decode cX9_gets 56 = .ok (.if_icmp .ne 7, 3) := by decide +kernel
theorem dX9_gets_59 : decode cX9_gets 59 = .ok (.iconst 1, 1) := by decide +kernel
theorem dX9_gets_60 : decode cX9_gets 60 = .ok (.goto 4, 3) := by decide +kernel
theorem dX9_gets_63 : decode cX9_gets 63 = .ok (.iconst 0, 1) := by decide +kernel
theorem dX9_gets_64 : decode cX9_gets 64 = .ok (.invokevirtual 189, 3) := by decide +kernel
theorem dX9_gets_67 : decode cX9_gets 67 = .ok (.ireturn, 1) := by decide +kernel
theorem dX9_best_0 : decode cX9_best 0 = .ok (.iload_n 1, 1) := by decide +kernel
theorem dX9_best_1 : decode cX9_best 1 = .ok (.iconst 1, 1) := by decide +kernel
theorem dX9_best_2 : decode cX9_best 2 = .ok (.bipush 9, 2) := by decide +kernel
theorem dX9_best_4 : decode cX9_best 4 = .ok (.invokestatic 136, 3) := by decide +kernel
theorem dX9_best_7 : decode cX9_best 7 = .ok (.ifCond .eq 12, 3) := by decide +kernel
theorem dX9_best_10 : decode cX9_best 10 = .ok (.iload_n 2, 1) := by decide +kernel
theorem dX9_best_11 : decode cX9_best 11 = .ok (.iconst 0, 1) := by decide +kernel
theorem dX9_best_12 : decode cX9_best 12 = .ok (.iconst 1, 1) := by decide +kernel
theorem dX9_best_13 : decode cX9_best 13 = .ok (.invokestatic 136, 3) := by decide +kernel
theorem dX9_best_16 : decode cX9_best 16 = .ok (.ifCond .ne 6, 3) := by decide +kernel
theorem dX9_best_19 : decode cX9_best 19 = .ok (.bipush (-2), 2) := by decide +kernel
theorem dX9_best_21 : decode cX9_best 21 = .ok (.ireturn, 1) := by decide +kernel
theorem dX9_best_22 : decode cX9_best 22 = .ok (.aload_n 0, 1) := by decide +kernel
theorem dX9_best_23 : decode cX9_best 23 = .ok (.getfield 61, 3) := by decide +kernel
theorem dX9_best_26 : decode cX9_best 26 = .ok (.iload_n 1, 1) := by decide +kernel
theorem dX9_best_27 : decode cX9_best 27 = .ok (.iload_n 2, 1) := by decide +kernel
theorem dX9_best_28 : decode cX9_best 28 = .ok (.iconst 1, 1) := by decide +kernel
theorem dX9_best_29 : decode cX9_best 29 = .ok (.if_icmp .ne 7, 3) := by decide +kernel
theorem dX9_best_32 : decode cX9_best 32 = .ok (.iconst 1, 1) := by decide +kernel
theorem dX9_best_33 : decode cX9_best 33 = .ok (.goto 4, 3) := by decide +kernel
theorem dX9_best_36 : decode cX9_best 36 = .ok (.iconst 0, 1) := by decide +kernel
theorem dX9_best_37 : decode cX9_best 37 = .ok (.invokevirtual 193, 3) := by decide +kernel
theorem dX9_best_40 : decode cX9_best 40 = .ok (.ireturn, 1) := by decide +kernel
theorem dX9_judge_0 : decode cX9_judge 0 = .ok (.iload_n 1, 1) := by decide +kernel
theorem dX9_judge_1 : decode cX9_judge 1 = .ok (.iconst 1, 1) := by decide +kernel
theorem dX9_judge_2 : decode cX9_judge 2 = .ok (.iconst 4, 1) := by decide +kernel
theorem dX9_judge_3 : decode cX9_judge 3 = .ok (.invokestatic 136, 3) := by decide +kernel
theorem dX9_judge_6 : decode cX9_judge 6 = .ok (.ifCond .eq 19, 3) := by decide +kernel
theorem dX9_judge_9 : decode cX9_judge 9 = .ok (.lload_n 2, 1) := by decide +kernel
theorem dX9_judge_10 : decode cX9_judge 10 = .ok (.lconst 0, 1) := by decide +kernel
theorem dX9_judge_11 : decode cX9_judge 11 = .ok (.lcmp, 1) := by decide +kernel
theorem dX9_judge_12 : decode cX9_judge 12 = .ok (.ifCond .lt 13, 3) := by decide +kernel
theorem dX9_judge_15 : decode cX9_judge 15 = .ok (.lload_n 2, 1) := by decide +kernel
theorem dX9_judge_16 : decode cX9_judge 16 = .ok (.iload_n 1, 1) := by decide +kernel
theorem dX9_judge_17 : decode cX9_judge 17 = .ok (.invokestatic 197, 3) := by decide +kernel
theorem dX9_judge_20 : decode cX9_judge 20 = .ok (.lconst 0, 1) := by decide +kernel
theorem dX9_judge_21 : decode cX9_judge 21 = .ok (.lcmp, 1) := by decide +kernel
theorem dX9_judge_22 : decode cX9_judge 22 = .ok (.ifCond .eq 6, 3) := by decide +kernel
theorem dX9_judge_25 : decode cX9_judge 25 = .ok (.bipush (-2), 2) := by decide +kernel
theorem dX9_judge_27 : decode cX9_judge 27 = .ok (.ireturn, 1) := by decide +kernel
theorem dX9_judge_28 : decode cX9_judge 28 = .ok (.aload_n 0, 1) := by decide +kernel
theorem dX9_judge_29 : decode cX9_judge 29 = .ok (.getfield 61, 3) := by decide +kernel
theorem dX9_judge_32 : decode cX9_judge 32 = .ok (.iload_n 1, 1) := by decide +kernel
theorem dX9_judge_33 : decode cX9_judge 33 = .ok (.lload_n 2, 1) := by decide +kernel
theorem dX9_judge_34 : decode cX9_judge 34 = .ok (.invokevirtual 201, 3) := by decide +kernel
theorem dX9_judge_37 : decode cX9_judge 37 = .ok (.ireturn, 1) := by decide +kernel
theorem dX9_hear_0 : decode cX9_hear 0 = .ok (.aload_n 0, 1) := by decide +kernel
theorem dX9_hear_1 : decode cX9_hear 1 = .ok (.getfield 28, 3) := by decide +kernel
theorem dX9_hear_4 : decode cX9_hear 4 = .ok (.iload_n 1, 1) := by decide +kernel
theorem dX9_hear_5 : decode cX9_hear 5 = .ok (.invokevirtual 104, 3) := by decide +kernel
theorem dX9_hear_8 : decode cX9_hear 8 = .ok (.ifCond .ne 5, 3) := by decide +kernel
theorem dX9_hear_11 : decode cX9_hear 11 = .ok (.iconst (-1), 1) := by decide +kernel
theorem dX9_hear_12 : decode cX9_hear 12 = .ok (.ireturn, 1) := by decide +kernel
theorem dX9_hear_13 : decode cX9_hear 13 = .ok (.iload_n 2, 1) := by decide +kernel
theorem dX9_hear_14 : decode cX9_hear 14 = .ok (.iconst 0, 1) := by decide +kernel
theorem dX9_hear_15 : decode cX9_hear 15 = .ok (.bipush 9, 2) := by decide +kernel
theorem dX9_hear_17 : decode cX9_hear 17 = .ok (.invokestatic 136, 3) := by decide +kernel
theorem dX9_hear_20 : decode cX9_hear 20 = .ok (.ifCond .eq 13, 3) := by decide +kernel
theorem dX9_hear_23 : decode cX9_hear 23 = .ok (.iload_n 3, 1) := by decide +kernel
theorem dX9_hear_24 : decode cX9_hear 24 = .ok (.iconst 0, 1) := by decide +kernel
theorem dX9_hear_25 : decode cX9_hear 25 = .ok (.bipush 9, 2) := by decide +kernel
theorem dX9_hear_27 : decode cX9_hear 27 = .ok (.invokestatic 136, 3) := by decide +kernel
theorem dX9_hear_30 : decode cX9_hear 30 = .ok (.ifCond .ne 6, 3) := by decide +kernel
theorem dX9_hear_33 : decode cX9_hear 33 = .ok (.bipush (-2), 2) := by decide +kernel
theorem dX9_hear_35 : decode cX9_hear 35 = .ok (.ireturn, 1) := by decide +kernel
theorem dX9_hear_36 : decode cX9_hear 36 = .ok (.aload_n 0, 1) := by decide +kernel
theorem dX9_hear_37 : decode cX9_hear 37 = .ok (.getfield 52, 3) := by decide +kernel
theorem dX9_hear_40 : decode cX9_hear 40 = .ok (.iload_n 1, 1) := by decide +kernel
theorem dX9_hear_41 : decode cX9_hear 41 = .ok (.iload_n 2, 1) := by decide +kernel
theorem dX9_hear_42 : decode cX9_hear 42 = .ok (.iload_n 3, 1) := by decide +kernel
theorem dX9_hear_43 : decode cX9_hear 43 = .ok (.invokevirtual 205, 3) := by decide +kernel
theorem dX9_hear_46 : decode cX9_hear 46 = .ok (.ifCond .eq 13, 3) := by decide +kernel
theorem dX9_hear_49 : decode cX9_hear 49 = .ok (.aload_n 0, 1) := by decide +kernel
theorem dX9_hear_50 : decode cX9_hear 50 = .ok (.getfield 52, 3) := by decide +kernel
theorem dX9_hear_53 : decode cX9_hear 53 = .ok (.getfield 207, 3) := by decide +kernel
theorem dX9_hear_56 : decode cX9_hear 56 = .ok (.goto 5, 3) := by decide +kernel
theorem dX9_hear_59 : decode cX9_hear 59 = .ok (.bipush (-4), 2) := by decide +kernel
theorem dX9_hear_61 : decode cX9_hear 61 = .ok (.ireturn, 1) := by decide +kernel
theorem dX9_unhear_0 : decode cX9_unhear 0 = .ok (.aload_n 0, 1) := by decide +kernel
theorem dX9_unhear_1 : decode cX9_unhear 1 = .ok (.getfield 52, 3) := by decide +kernel
theorem dX9_unhear_4 : decode cX9_unhear 4 = .ok (.getfield 207, 3) := by decide +kernel
theorem dX9_unhear_7 : decode cX9_unhear 7 = .ok (.istore_n 1, 1) := by decide +kernel
theorem dX9_unhear_8 : decode cX9_unhear 8 = .ok (.aload_n 0, 1) := by decide +kernel
theorem dX9_unhear_9 : decode cX9_unhear 9 = .ok (.getfield 52, 3) := by decide +kernel
theorem dX9_unhear_12 : decode cX9_unhear 12 = .ok (.iconst 0, 1) := by decide +kernel
theorem dX9_unhear_13 : decode cX9_unhear 13 = .ok (.putfield 207, 3) := by decide +kernel
theorem dX9_unhear_16 : decode cX9_unhear 16 = .ok (.iload_n 1, 1) := by decide +kernel
theorem dX9_unhear_17 : decode cX9_unhear 17 = .ok (.ireturn, 1) := by decide +kernel
theorem dX9_had_0 : decode cX9_had 0 = .ok (.aload_n 0, 1) := by decide +kernel
theorem dX9_had_1 : decode cX9_had 1 = .ok (.getfield 28, 3) := by decide +kernel
theorem dX9_had_4 : decode cX9_had 4 = .ok (.iload_n 1, 1) := by decide +kernel
theorem dX9_had_5 : decode cX9_had 5 = .ok (.invokevirtual 104, 3) := by decide +kernel
theorem dX9_had_8 : decode cX9_had 8 = .ok (.ifCond .eq 18, 3) := by decide +kernel
theorem dX9_had_11 : decode cX9_had 11 = .ok (.aload_n 0, 1) := by decide +kernel
theorem dX9_had_12 : decode cX9_had 12 = .ok (.getfield 61, 3) := by decide +kernel
theorem dX9_had_15 : decode cX9_had 15 = .ok (.iload_n 1, 1) := by decide +kernel
theorem dX9_had_16 : decode cX9_had 16 = .ok (.aload_n 0, 1) := by decide +kernel
theorem dX9_had_17 : decode cX9_had 17 = .ok (.getfield 52, 3) := by decide +kernel
theorem dX9_had_20 : decode cX9_had 20 = .ok (.invokevirtual 208, 3) := by decide +kernel
theorem dX9_had_23 : decode cX9_had 23 = .ok (.goto 4, 3) := by decide +kernel
theorem dX9_had_26 : decode cX9_had 26 = .ok (.iconst (-1), 1) := by decide +kernel
theorem dX9_had_27 : decode cX9_had 27 = .ok (.ireturn, 1) := by decide +kernel
theorem dX9_share_0 : decode cX9_share 0 = .ok (.aload_n 0, 1) := by decide +kernel
theorem dX9_share_1 : decode cX9_share 1 = .ok (.getfield 28, 3) := by decide +kernel
theorem dX9_share_4 : decode cX9_share 4 = .ok (.iload_n 1, 1) := by decide +kernel
theorem dX9_share_5 : decode cX9_share 5 = .ok (.invokevirtual 104, 3) := by decide +kernel
theorem dX9_share_8 : decode cX9_share 8 = .ok (.ifCond .eq 15, 3) := by decide +kernel
theorem dX9_share_11 : decode cX9_share 11 = .ok (.aload_n 0, 1) := by decide +kernel
theorem dX9_share_12 : decode cX9_share 12 = .ok (.getfield 68, 3) := by decide +kernel
theorem dX9_share_15 : decode cX9_share 15 = .ok (.iload_n 1, 1) := by decide +kernel
theorem dX9_share_16 : decode cX9_share 16 = .ok (.iload_n 2, 1) := by decide +kernel
theorem dX9_share_17 : decode cX9_share 17 = .ok (.invokevirtual 212, 3) := by decide +kernel
theorem dX9_share_20 : decode cX9_share 20 = .ok (.goto 4, 3) := by decide +kernel
theorem dX9_share_23 : decode cX9_share 23 = .ok (.iconst (-1), 1) := by decide +kernel
theorem dX9_share_24 : decode cX9_share 24 = .ok (.ireturn, 1) := by decide +kernel
theorem dX9_rests_0 : decode cX9_rests 0 = .ok (.aload_n 0, 1) := by decide +kernel
theorem dX9_rests_1 : decode cX9_rests 1 = .ok (.getfield 28, 3) := by decide +kernel
theorem dX9_rests_4 : decode cX9_rests 4 = .ok (.iload_n 1, 1) := by decide +kernel
theorem dX9_rests_5 : decode cX9_rests 5 = .ok (.invokevirtual 104, 3) := by decide +kernel
theorem dX9_rests_8 : decode cX9_rests 8 = .ok (.ifCond .eq 14, 3) := by decide +kernel
theorem dX9_rests_11 : decode cX9_rests 11 = .ok (.aload_n 0, 1) := by decide +kernel
theorem dX9_rests_12 : decode cX9_rests 12 = .ok (.getfield 28, 3) := by decide +kernel
theorem dX9_rests_15 : decode cX9_rests 15 = .ok (.iload_n 2, 1) := by decide +kernel
theorem dX9_rests_16 : decode cX9_rests 16 = .ok (.invokevirtual 104, 3) := by decide +kernel
theorem dX9_rests_19 : decode cX9_rests 19 = .ok (.ifCond .ne 5, 3) := by decide +kernel
theorem dX9_rests_22 : decode cX9_rests 22 = .ok (.iconst (-1), 1) := by decide +kernel
theorem dX9_rests_23 : decode cX9_rests 23 = .ok (.ireturn, 1) := by decide +kernel
theorem dX9_rests_24 : decode cX9_rests 24 = .ok (.iload_n 1, 1) := by decide +kernel
theorem dX9_rests_25 : decode cX9_rests 25 = .ok (.iload_n 2, 1) := by decide +kernel
theorem dX9_rests_26 : decode cX9_rests 26 = .ok (.if_icmp .eq 12, 3) := by decide +kernel
theorem dX9_rests_29 : decode cX9_rests 29 = .ok (.iload_n 3, 1) := by decide +kernel
theorem dX9_rests_30 : decode cX9_rests 30 = .ok (.iconst 0, 1) := by decide +kernel
theorem dX9_rests_31 : decode cX9_rests 31 = .ok (.iconst 1, 1) := by decide +kernel
theorem dX9_rests_32 : decode cX9_rests 32 = .ok (.invokestatic 136, 3) := by decide +kernel
theorem dX9_rests_35 : decode cX9_rests 35 = .ok (.ifCond .ne 6, 3) := by decide +kernel
theorem dX9_rests_38 : decode cX9_rests 38 = .ok (.bipush (-2), 2) := by decide +kernel
theorem dX9_rests_40 : decode cX9_rests 40 = .ok (.ireturn, 1) := by decide +kernel
theorem dX9_rests_41 : decode cX9_rests 41 = .ok (.aload_n 0, 1) := by decide +kernel
theorem dX9_rests_42 : decode cX9_rests 42 = .ok (.getfield 68, 3) := by decide +kernel
theorem dX9_rests_45 : decode cX9_rests 45 = .ok (.iload_n 1, 1) := by decide +kernel
theorem dX9_rests_46 : decode cX9_rests 46 = .ok (.iload_n 2, 1) := by decide +kernel
theorem dX9_rests_47 : decode cX9_rests 47 = .ok (.iload_n 3, 1) := by decide +kernel
theorem dX9_rests_48 : decode cX9_rests 48 = .ok (.iconst 1, 1) := by decide +kernel
theorem dX9_rests_49 : decode cX9_rests 49 = .ok (.if_icmp .ne 7, 3) := by decide +kernel
theorem dX9_rests_52 : decode cX9_rests 52 = .ok (.iconst 1, 1) := by decide +kernel
theorem dX9_rests_53 : decode cX9_rests 53 = .ok (.goto 4, 3) := by decide +kernel
theorem dX9_rests_56 : decode cX9_rests 56 = .ok (.iconst 0, 1) := by decide +kernel
theorem dX9_rests_57 : decode cX9_rests 57 = .ok (.invokevirtual 215, 3) := by decide +kernel
theorem dX9_rests_60 : decode cX9_rests 60 = .ok (.ireturn, 1) := by decide +kernel
theorem dX9_hoarse_0 : decode cX9_hoarse 0 = .ok (.iload_n 1, 1) := by decide +kernel
theorem dX9_hoarse_1 : decode cX9_hoarse 1 = .ok (.iconst 0, 1) := by decide +kernel
theorem dX9_hoarse_2 : decode cX9_hoarse 2 = .ok (.bipush 9, 2) := by decide +kernel
theorem dX9_hoarse_4 : decode cX9_hoarse 4 = .ok (.invokestatic 136, 3) := by decide +kernel
theorem dX9_hoarse_7 : decode cX9_hoarse 7 = .ok (.ifCond .eq 13, 3) := by decide +kernel
theorem dX9_hoarse_10 : decode cX9_hoarse 10 = .ok (.iload_n 2, 1) := by decide +kernel
theorem dX9_hoarse_11 : decode cX9_hoarse 11 = .ok (.iconst 0, 1) := by decide +kernel
theorem dX9_hoarse_12 : decode cX9_hoarse 12 = .ok (.bipush 10, 2) := by decide +kernel
theorem dX9_hoarse_14 : decode cX9_hoarse 14 = .ok (.invokestatic 136, 3) := by decide +kernel
theorem dX9_hoarse_17 : decode cX9_hoarse 17 = .ok (.ifCond .ne 6, 3) := by decide +kernel
theorem dX9_hoarse_20 : decode cX9_hoarse 20 = .ok (.bipush (-2), 2) := by decide +kernel
theorem dX9_hoarse_22 : decode cX9_hoarse 22 = .ok (.ireturn, 1) := by decide +kernel
theorem dX9_hoarse_23 : decode cX9_hoarse 23 = .ok (.aload_n 0, 1) := by decide +kernel
theorem dX9_hoarse_24 : decode cX9_hoarse 24 = .ok (.getfield 68, 3) := by decide +kernel
theorem dX9_hoarse_27 : decode cX9_hoarse 27 = .ok (.iload_n 1, 1) := by decide +kernel
theorem dX9_hoarse_28 : decode cX9_hoarse 28 = .ok (.iload_n 2, 1) := by decide +kernel
theorem dX9_hoarse_29 : decode cX9_hoarse 29 = .ok (.iload_n 3, 1) := by decide +kernel
theorem dX9_hoarse_30 : decode cX9_hoarse 30 = .ok (.invokevirtual 219, 3) := by decide +kernel
theorem dX9_hoarse_33 : decode cX9_hoarse 33 = .ok (.ireturn, 1) := by decide +kernel
theorem dX9_seed_0 : decode cX9_seed 0 = .ok (.aload_n 0, 1) := by decide +kernel
theorem dX9_seed_1 : decode cX9_seed 1 = .ok (.getfield 77, 3) := by decide +kernel
theorem dX9_seed_4 : decode cX9_seed 4 = .ok (.getfield 222, 3) := by decide +kernel
theorem dX9_seed_7 : decode cX9_seed 7 = .ok (.lstore_n 3, 1) := by decide +kernel
theorem dX9_seed_8 : decode cX9_seed 8 = .ok (.aload_n 0, 1) := by decide +kernel
theorem dX9_seed_9 : decode cX9_seed 9 = .ok (.getfield 77, 3) := by decide +kernel
theorem dX9_seed_12 : decode cX9_seed 12 = .ok (.lload_n 1, 1) := by decide +kernel
theorem dX9_seed_13 : decode cX9_seed 13 = .ok (.putfield 222, 3) := by decide +kernel
theorem dX9_seed_16 : decode cX9_seed 16 = .ok (.lload_n 3, 1) := by decide +kernel
theorem dX9_seed_17 : decode cX9_seed 17 = .ok (.lreturn, 1) := by decide +kernel
theorem dX9_years_0 : decode cX9_years 0 = .ok (.iload_n 1, 1) := by decide +kernel
theorem dX9_years_1 : decode cX9_years 1 = .ok (.iconst 1, 1) := by decide +kernel
theorem dX9_years_2 : decode cX9_years 2 = .ok (.bipush 30, 2) := by decide +kernel
theorem dX9_years_4 : decode cX9_years 4 = .ok (.invokestatic 136, 3) := by decide +kernel
theorem dX9_years_7 : decode cX9_years 7 = .ok (.ifCond .eq 14, 3) := by decide +kernel
theorem dX9_years_10 : decode cX9_years 10 = .ok (.aload_n 0, 1) := by decide +kernel
theorem dX9_years_11 : decode cX9_years 11 = .ok (.getfield 77, 3) := by decide +kernel
theorem dX9_years_14 : decode cX9_years 14 = .ok (.iload_n 1, 1) := by decide +kernel
theorem dX9_years_15 : decode cX9_years 15 = .ok (.invokevirtual 226, 3) := by decide +kernel
theorem dX9_years_18 : decode cX9_years 18 = .ok (.goto 5, 3) := by decide +kernel
theorem dX9_years_21 : decode cX9_years 21 = .ok (.bipush (-2), 2) := by decide +kernel
theorem dX9_years_23 : decode cX9_years 23 = .ok (.ireturn, 1) := by decide +kernel
theorem dX9_keep_0 : decode cX9_keep 0 = .ok (.aload_n 0, 1) := by decide +kernel
theorem dX9_keep_1 : decode cX9_keep 1 = .ok (.getfield 45, 3) := by decide +kernel
theorem dX9_keep_4 : decode cX9_keep 4 = .ok (.iload_n 1, 1) := by decide +kernel
theorem dX9_keep_5 : decode cX9_keep 5 = .ok (.aload_n 0, 1) := by decide +kernel
theorem dX9_keep_6 : decode cX9_keep 6 = .ok (.getfield 28, 3) := by decide +kernel
theorem dX9_keep_9 : decode cX9_keep 9 = .ok (.invokevirtual 229, 3) := by decide +kernel
theorem dX9_keep_12 : decode cX9_keep 12 = .ok (.ifCond .eq 13, 3) := by decide +kernel
theorem dX9_keep_15 : decode cX9_keep 15 = .ok (.aload_n 0, 1) := by decide +kernel
theorem dX9_keep_16 : decode cX9_keep 16 = .ok (.getfield 28, 3) := by decide +kernel
theorem dX9_keep_19 : decode cX9_keep 19 = .ok (.getfield 151, 3) := by decide +kernel
theorem dX9_keep_22 : decode cX9_keep 22 = .ok (.goto 4, 3) := by decide +kernel
theorem dX9_keep_25 : decode cX9_keep 25 = .ok (.iconst (-1), 1) := by decide +kernel
theorem dX9_keep_26 : decode cX9_keep 26 = .ok (.ireturn, 1) := by decide +kernel
theorem dX9_again_0 : decode cX9_again 0 = .ok (.iload_n 1, 1) := by decide +kernel
theorem dX9_again_1 : decode cX9_again 1 = .ok (.iconst 0, 1) := by decide +kernel
theorem dX9_again_2 : decode cX9_again 2 = .ok (.iconst 1, 1) := by decide +kernel
theorem dX9_again_3 : decode cX9_again 3 = .ok (.invokestatic 136, 3) := by decide +kernel
theorem dX9_again_6 : decode cX9_again 6 = .ok (.ifCond .ne 5, 3) := by decide +kernel
theorem dX9_again_9 : decode cX9_again 9 = .ok (.iconst (-1), 1) := by decide +kernel
theorem dX9_again_10 : decode cX9_again 10 = .ok (.ireturn, 1) := by decide +kernel
theorem dX9_again_11 : decode cX9_again 11 = .ok (.aload_n 0, 1) := by decide +kernel
theorem dX9_again_12 : decode cX9_again 12 = .ok (.getfield 45, 3) := by decide +kernel
theorem dX9_again_15 : decode cX9_again 15 = .ok (.iload_n 1, 1) := by decide +kernel
theorem dX9_again_16 : decode cX9_again 16 = .ok (.aload_n 0, 1) := by decide +kernel
theorem dX9_again_17 : decode cX9_again 17 = .ok (.getfield 28, 3) := by decide +kernel
theorem dX9_again_20 : decode cX9_again 20 = .ok (.invokevirtual 232, 3) := by decide +kernel
theorem dX9_again_23 : decode cX9_again 23 = .ok (.ifCond .ne 6, 3) := by decide +kernel
theorem dX9_again_26 : decode cX9_again 26 = .ok (.bipush (-3), 2) := by decide +kernel
theorem dX9_again_28 : decode cX9_again 28 = .ok (.ireturn, 1) := by decide +kernel
theorem dX9_again_29 : decode cX9_again 29 = .ok (.aload_n 0, 1) := by decide +kernel
theorem dX9_again_30 : decode cX9_again 30 = .ok (.getfield 38, 3) := by decide +kernel
theorem dX9_again_33 : decode cX9_again 33 = .ok (.invokevirtual 97, 3) := by decide +kernel
theorem dX9_again_36 : decode cX9_again 36 = .ok (.aload_n 0, 1) := by decide +kernel
theorem dX9_again_37 : decode cX9_again 37 = .ok (.getfield 28, 3) := by decide +kernel
theorem dX9_again_40 : decode cX9_again 40 = .ok (.getfield 151, 3) := by decide +kernel
theorem dX9_again_43 : decode cX9_again 43 = .ok (.ireturn, 1) := by decide +kernel
theorem dX9_count_0 : decode cX9_count 0 = .ok (.iload_n 1, 1) := by decide +kernel
theorem dX9_count_1 : decode cX9_count 1 = .ok (.tableswitch 135 0 9 #[55, 63, 71, 79, 87, 95, 103, 111, 119, 127], 55) := by decide +kernel
theorem dX9_count_56 : decode cX9_count 56 = .ok (.aload_n 0, 1) := by decide +kernel
theorem dX9_count_57 : decode cX9_count 57 = .ok (.getfield 10, 3) := by decide +kernel
theorem dX9_count_60 : decode cX9_count 60 = .ok (.getfield 85, 3) := by decide +kernel
theorem dX9_count_63 : decode cX9_count 63 = .ok (.ireturn, 1) := by decide +kernel
theorem dX9_count_64 : decode cX9_count 64 = .ok (.aload_n 0, 1) := by decide +kernel
theorem dX9_count_65 : decode cX9_count 65 = .ok (.getfield 19, 3) := by decide +kernel
theorem dX9_count_68 : decode cX9_count 68 = .ok (.getfield 101, 3) := by decide +kernel
theorem dX9_count_71 : decode cX9_count 71 = .ok (.ireturn, 1) := by decide +kernel
theorem dX9_count_72 : decode cX9_count 72 = .ok (.aload_n 0, 1) := by decide +kernel
theorem dX9_count_73 : decode cX9_count 73 = .ok (.getfield 28, 3) := by decide +kernel
theorem dX9_count_76 : decode cX9_count 76 = .ok (.getfield 151, 3) := by decide +kernel
theorem dX9_count_79 : decode cX9_count 79 = .ok (.ireturn, 1) := by decide +kernel
theorem dX9_count_80 : decode cX9_count 80 = .ok (.aload_n 0, 1) := by decide +kernel
theorem dX9_count_81 : decode cX9_count 81 = .ok (.getfield 28, 3) := by decide +kernel
theorem dX9_count_84 : decode cX9_count 84 = .ok (.invokevirtual 234, 3) := by decide +kernel
theorem dX9_count_87 : decode cX9_count 87 = .ok (.ireturn, 1) := by decide +kernel
theorem dX9_count_88 : decode cX9_count 88 = .ok (.aload_n 0, 1) := by decide +kernel
theorem dX9_count_89 : decode cX9_count 89 = .ok (.getfield 28, 3) := by decide +kernel
theorem dX9_count_92 : decode cX9_count 92 = .ok (.invokevirtual 237, 3) := by decide +kernel
theorem dX9_count_95 : decode cX9_count 95 = .ok (.ireturn, 1) := by decide +kernel
theorem dX9_count_96 : decode cX9_count 96 = .ok (.aload_n 0, 1) := by decide +kernel
theorem dX9_count_97 : decode cX9_count 97 = .ok (.getfield 28, 3) := by decide +kernel
theorem dX9_count_100 : decode cX9_count 100 = .ok (.invokevirtual 240, 3) := by decide +kernel
theorem dX9_count_103 : decode cX9_count 103 = .ok (.ireturn, 1) := by decide +kernel
theorem dX9_count_104 : decode cX9_count 104 = .ok (.aload_n 0, 1) := by decide +kernel
theorem dX9_count_105 : decode cX9_count 105 = .ok (.getfield 28, 3) := by decide +kernel
theorem dX9_count_108 : decode cX9_count 108 = .ok (.invokevirtual 243, 3) := by decide +kernel
theorem dX9_count_111 : decode cX9_count 111 = .ok (.ireturn, 1) := by decide +kernel
theorem dX9_count_112 : decode cX9_count 112 = .ok (.aload_n 0, 1) := by decide +kernel
theorem dX9_count_113 : decode cX9_count 113 = .ok (.getfield 28, 3) := by decide +kernel
theorem dX9_count_116 : decode cX9_count 116 = .ok (.getfield 246, 3) := by decide +kernel
theorem dX9_count_119 : decode cX9_count 119 = .ok (.ireturn, 1) := by decide +kernel
theorem dX9_count_120 : decode cX9_count 120 = .ok (.aload_n 0, 1) := by decide +kernel
theorem dX9_count_121 : decode cX9_count 121 = .ok (.getfield 38, 3) := by decide +kernel
theorem dX9_count_124 : decode cX9_count 124 = .ok (.getfield 174, 3) := by decide +kernel
theorem dX9_count_127 : decode cX9_count 127 = .ok (.ireturn, 1) := by decide +kernel
theorem dX9_count_128 : decode cX9_count 128 = .ok (.aload_n 0, 1) := by decide +kernel
theorem dX9_count_129 : decode cX9_count 129 = .ok (.getfield 52, 3) := by decide +kernel
theorem dX9_count_132 : decode cX9_count 132 = .ok (.getfield 207, 3) := by decide +kernel
theorem dX9_count_135 : decode cX9_count 135 = .ok (.ireturn, 1) := by decide +kernel
theorem dX9_count_136 : decode cX9_count 136 = .ok (.bipush (-2), 2) := by decide +kernel
theorem dX9_count_138 : decode cX9_count 138 = .ok (.ireturn, 1) := by decide +kernel
theorem dX9_isWithin_0 : decode cX9_isWithin 0 = .ok (.iload_n 0, 1) := by decide +kernel
theorem dX9_isWithin_1 : decode cX9_isWithin 1 = .ok (.iload_n 1, 1) := by decide +kernel
theorem dX9_isWithin_2 : decode cX9_isWithin 2 = .ok (.if_icmp .lt 12, 3) := by decide +kernel
theorem dX9_isWithin_5 : decode cX9_isWithin 5 = .ok (.iload_n 0, 1) := by decide +kernel
theorem dX9_isWithin_6 : decode cX9_isWithin 6 = .ok (.iload_n 2, 1) := by decide +kernel
theorem dX9_isWithin_7 : decode cX9_isWithin 7 = .ok (.if_icmp .gt 7, 3) := by decide +kernel
theorem dX9_isWithin_10 : decode cX9_isWithin 10 = .ok (.iconst 1, 1) := by decide +kernel
theorem dX9_isWithin_11 : decode cX9_isWithin 11 = .ok (.goto 4, 3) := by decide +kernel
theorem dX9_isWithin_14 : decode cX9_isWithin 14 = .ok (.iconst 0, 1) := by decide +kernel
theorem dX9_isWithin_15 : decode cX9_isWithin 15 = .ok (.ireturn, 1) := by decide +kernel
theorem dX9_withoutDoings_0 : decode cX9_withoutDoings 0 = .ok (.lload_n 0, 1) := by decide +kernel
theorem dX9_withoutDoings_1 : decode cX9_withoutDoings 1 = .ok (.lstore_n 3, 1) := by decide +kernel
theorem dX9_withoutDoings_2 : decode cX9_withoutDoings 2 = .ok (.iconst 0, 1) := by decide +kernel
theorem dX9_withoutDoings_3 : decode cX9_withoutDoings 3 = .ok (.istore 5, 2) := by decide +kernel
theorem dX9_withoutDoings_5 : decode cX9_withoutDoings 5 = .ok (.iload 5, 2) := by decide +kernel
theorem dX9_withoutDoings_7 : decode cX9_withoutDoings 7 = .ok (.iload_n 2, 1) := by decide +kernel
theorem dX9_withoutDoings_8 : decode cX9_withoutDoings 8 = .ok (.if_icmp .ge 15, 3) := by decide +kernel
theorem dX9_withoutDoings_11 : decode cX9_withoutDoings 11 = .ok (.lload_n 3, 1) := by decide +kernel
theorem dX9_withoutDoings_12 : decode cX9_withoutDoings 12 = .ok (.ldc2_w 249, 3) := by decide +kernel
theorem dX9_withoutDoings_15 : decode cX9_withoutDoings 15 = .ok (.ldiv, 1) := by decide +kernel
theorem dX9_withoutDoings_16 : decode cX9_withoutDoings 16 = .ok (.lstore_n 3, 1) := by decide +kernel
theorem dX9_withoutDoings_17 : decode cX9_withoutDoings 17 = .ok (.iinc 5 1, 3) := by decide +kernel
theorem dX9_withoutDoings_20 : decode cX9_withoutDoings 20 = .ok (.goto (-15), 3) := by decide +kernel
theorem dX9_withoutDoings_23 : decode cX9_withoutDoings 23 = .ok (.lload_n 3, 1) := by decide +kernel
theorem dX9_withoutDoings_24 : decode cX9_withoutDoings 24 = .ok (.lreturn, 1) := by decide +kernel
theorem dX9_sideOfFraction_0 : decode cX9_sideOfFraction 0 = .ok (.iload_n 0, 1) := by decide +kernel
theorem dX9_sideOfFraction_1 : decode cX9_sideOfFraction 1 = .ok (.invokestatic 251, 3) := by decide +kernel
theorem dX9_sideOfFraction_4 : decode cX9_sideOfFraction 4 = .ok (.iload_n 1, 1) := by decide +kernel
theorem dX9_sideOfFraction_5 : decode cX9_sideOfFraction 5 = .ok (.invokestatic 256, 3) := by decide +kernel
theorem dX9_sideOfFraction_8 : decode cX9_sideOfFraction 8 = .ok (.istore_n 3, 1) := by decide +kernel
theorem dX9_sideOfFraction_9 : decode cX9_sideOfFraction 9 = .ok (.iload_n 3, 1) := by decide +kernel
theorem dX9_sideOfFraction_10 : decode cX9_sideOfFraction 10 = .ok (.ifCond .ne 5, 3) := by decide +kernel
theorem dX9_sideOfFraction_13 : decode cX9_sideOfFraction 13 = .ok (.iconst 0, 1) := by decide +kernel
theorem dX9_sideOfFraction_14 : decode cX9_sideOfFraction 14 = .ok (.ireturn, 1) := by decide +kernel
theorem dX9_sideOfFraction_15 : decode cX9_sideOfFraction 15 = .ok (.iload_n 2, 1) := by decide +kernel
theorem dX9_sideOfFraction_16 : decode cX9_sideOfFraction 16 = .ok (.ifCond .eq 9, 3) := by decide +kernel
theorem dX9_sideOfFraction_19 : decode cX9_sideOfFraction 19 = .ok (.iload_n 0, 1) := by decide +kernel
theorem dX9_sideOfFraction_20 : decode cX9_sideOfFraction 20 = .ok (.iload_n 3, 1) := by decide +kernel
theorem dX9_sideOfFraction_21 : decode cX9_sideOfFraction 21 = .ok (.idiv, 1) := by decide +kernel
theorem dX9_sideOfFraction_22 : decode cX9_sideOfFraction 22 = .ok (.goto 6, 3) := by decide +kernel
theorem dX9_sideOfFraction_25 : decode cX9_sideOfFraction 25 = .ok (.iload_n 1, 1) := by decide +kernel
theorem dX9_sideOfFraction_26 : decode cX9_sideOfFraction 26 = .ok (.iload_n 3, 1) := by decide +kernel
theorem dX9_sideOfFraction_27 : decode cX9_sideOfFraction 27 = .ok (.idiv, 1) := by decide +kernel
theorem dX9_sideOfFraction_28 : decode cX9_sideOfFraction 28 = .ok (.ireturn, 1) := by decide +kernel
theorem dX9_greatestDivisor_0 : decode cX9_greatestDivisor 0 = .ok (.iload_n 0, 1) := by decide +kernel
theorem dX9_greatestDivisor_1 : decode cX9_greatestDivisor 1 = .ok (.istore_n 2, 1) := by decide +kernel
theorem dX9_greatestDivisor_2 : decode cX9_greatestDivisor 2 = .ok (.iload_n 1, 1) := by decide +kernel
theorem dX9_greatestDivisor_3 : decode cX9_greatestDivisor 3 = .ok (.istore_n 3, 1) := by decide +kernel
theorem dX9_greatestDivisor_4 : decode cX9_greatestDivisor 4 = .ok (.iconst 0, 1) := by decide +kernel
theorem dX9_greatestDivisor_5 : decode cX9_greatestDivisor 5 = .ok (.istore 4, 2) := by decide +kernel
theorem dX9_greatestDivisor_7 : decode cX9_greatestDivisor 7 = .ok (.iload 4, 2) := by decide +kernel
theorem dX9_greatestDivisor_9 : decode cX9_greatestDivisor 9 = .ok (.bipush 64, 2) := by decide +kernel
theorem dX9_greatestDivisor_11 : decode cX9_greatestDivisor 11 = .ok (.if_icmp .ge 23, 3) := by decide +kernel
theorem dX9_greatestDivisor_14 : decode cX9_greatestDivisor 14 = .ok (.iload_n 3, 1) := by decide +kernel
theorem dX9_greatestDivisor_15 : decode cX9_greatestDivisor 15 = .ok (.ifCond .eq 19, 3) := by decide +kernel
theorem dX9_greatestDivisor_18 : decode cX9_greatestDivisor 18 = .ok (.iload_n 2, 1) := by decide +kernel
theorem dX9_greatestDivisor_19 : decode cX9_greatestDivisor 19 = .ok (.iload_n 3, 1) := by decide +kernel
theorem dX9_greatestDivisor_20 : decode cX9_greatestDivisor 20 = .ok (.irem, 1) := by decide +kernel
theorem dX9_greatestDivisor_21 : decode cX9_greatestDivisor 21 = .ok (.istore 5, 2) := by decide +kernel
theorem dX9_greatestDivisor_23 : decode cX9_greatestDivisor 23 = .ok (.iload_n 3, 1) := by decide +kernel
theorem dX9_greatestDivisor_24 : decode cX9_greatestDivisor 24 = .ok (.istore_n 2, 1) := by decide +kernel
theorem dX9_greatestDivisor_25 : decode cX9_greatestDivisor 25 = .ok (.iload 5, 2) := by decide +kernel
theorem dX9_greatestDivisor_27 : decode cX9_greatestDivisor 27 = .ok (.istore_n 3, 1) := by decide +kernel
theorem dX9_greatestDivisor_28 : decode cX9_greatestDivisor 28 = .ok (.iinc 4 1, 3) := by decide +kernel
theorem dX9_greatestDivisor_31 : decode cX9_greatestDivisor 31 = .ok (.goto (-24), 3) := by decide +kernel
theorem dX9_greatestDivisor_34 : decode cX9_greatestDivisor 34 = .ok (.iload_n 2, 1) := by decide +kernel
theorem dX9_greatestDivisor_35 : decode cX9_greatestDivisor 35 = .ok (.ireturn, 1) := by decide +kernel
theorem dX9_power_0 : decode cX9_power 0 = .ok (.iconst 1, 1) := by decide +kernel
theorem dX9_power_1 : decode cX9_power 1 = .ok (.istore_n 2, 1) := by decide +kernel
theorem dX9_power_2 : decode cX9_power 2 = .ok (.iconst 0, 1) := by decide +kernel
theorem dX9_power_3 : decode cX9_power 3 = .ok (.istore_n 3, 1) := by decide +kernel
theorem dX9_power_4 : decode cX9_power 4 = .ok (.iload_n 3, 1) := by decide +kernel
theorem dX9_power_5 : decode cX9_power 5 = .ok (.iload_n 1, 1) := by decide +kernel
theorem dX9_power_6 : decode cX9_power 6 = .ok (.if_icmp .ge 13, 3) := by decide +kernel
theorem dX9_power_9 : decode cX9_power 9 = .ok (.iload_n 2, 1) := by decide +kernel
theorem dX9_power_10 : decode cX9_power 10 = .ok (.iload_n 0, 1) := by decide +kernel
theorem dX9_power_11 : decode cX9_power 11 = .ok (.imul, 1) := by decide +kernel
theorem dX9_power_12 : decode cX9_power 12 = .ok (.istore_n 2, 1) := by decide +kernel
theorem dX9_power_13 : decode cX9_power 13 = .ok (.iinc 3 1, 3) := by decide +kernel
theorem dX9_power_16 : decode cX9_power 16 = .ok (.goto (-12), 3) := by decide +kernel
theorem dX9_power_19 : decode cX9_power 19 = .ok (.iload_n 2, 1) := by decide +kernel
theorem dX9_power_20 : decode cX9_power 20 = .ok (.ireturn, 1) := by decide +kernel
theorem dJ6_bitCount_0f7a4_0 : decode cJ6_bitCount_0f7a4 0 = .ok (.iload_n 0, 1) := by decide +kernel
theorem dJ6_bitCount_0f7a4_1 : decode cJ6_bitCount_0f7a4 1 = .ok (.iload_n 0, 1) := by decide +kernel
theorem dJ6_bitCount_0f7a4_2 : decode cJ6_bitCount_0f7a4 2 = .ok (.iconst 1, 1) := by decide +kernel
theorem dJ6_bitCount_0f7a4_3 : decode cJ6_bitCount_0f7a4 3 = .ok (.iushr, 1) := by decide +kernel
theorem dJ6_bitCount_0f7a4_4 : decode cJ6_bitCount_0f7a4 4 = .ok (.ldc_w 265, 3) := by decide +kernel
theorem dJ6_bitCount_0f7a4_7 : decode cJ6_bitCount_0f7a4 7 = .ok (.iand, 1) := by decide +kernel
theorem dJ6_bitCount_0f7a4_8 : decode cJ6_bitCount_0f7a4 8 = .ok (.isub, 1) := by decide +kernel
theorem dJ6_bitCount_0f7a4_9 : decode cJ6_bitCount_0f7a4 9 = .ok (.istore_n 0, 1) := by decide +kernel
theorem dJ6_bitCount_0f7a4_10 : decode cJ6_bitCount_0f7a4 10 = .ok (.iload_n 0, 1) := by decide +kernel
theorem dJ6_bitCount_0f7a4_11 : decode cJ6_bitCount_0f7a4 11 = .ok (.ldc_w 266, 3) := by decide +kernel
theorem dJ6_bitCount_0f7a4_14 : decode cJ6_bitCount_0f7a4 14 = .ok (.iand, 1) := by decide +kernel
theorem dJ6_bitCount_0f7a4_15 : decode cJ6_bitCount_0f7a4 15 = .ok (.iload_n 0, 1) := by decide +kernel
theorem dJ6_bitCount_0f7a4_16 : decode cJ6_bitCount_0f7a4 16 = .ok (.iconst 2, 1) := by decide +kernel
theorem dJ6_bitCount_0f7a4_17 : decode cJ6_bitCount_0f7a4 17 = .ok (.iushr, 1) := by decide +kernel
theorem dJ6_bitCount_0f7a4_18 : decode cJ6_bitCount_0f7a4 18 = .ok (.ldc_w 266, 3) := by decide +kernel
theorem dJ6_bitCount_0f7a4_21 : decode cJ6_bitCount_0f7a4 21 = .ok (.iand, 1) := by decide +kernel
theorem dJ6_bitCount_0f7a4_22 : decode cJ6_bitCount_0f7a4 22 = .ok (.iadd, 1) := by decide +kernel
theorem dJ6_bitCount_0f7a4_23 : decode cJ6_bitCount_0f7a4 23 = .ok (.istore_n 0, 1) := by decide +kernel
theorem dJ6_bitCount_0f7a4_24 : decode cJ6_bitCount_0f7a4 24 = .ok (.iload_n 0, 1) := by decide +kernel
theorem dJ6_bitCount_0f7a4_25 : decode cJ6_bitCount_0f7a4 25 = .ok (.iload_n 0, 1) := by decide +kernel
theorem dJ6_bitCount_0f7a4_26 : decode cJ6_bitCount_0f7a4 26 = .ok (.iconst 4, 1) := by decide +kernel
theorem dJ6_bitCount_0f7a4_27 : decode cJ6_bitCount_0f7a4 27 = .ok (.iushr, 1) := by decide +kernel
theorem dJ6_bitCount_0f7a4_28 : decode cJ6_bitCount_0f7a4 28 = .ok (.iadd, 1) := by decide +kernel
theorem dJ6_bitCount_0f7a4_29 : decode cJ6_bitCount_0f7a4 29 = .ok (.ldc_w 267, 3) := by decide +kernel
theorem dJ6_bitCount_0f7a4_32 : decode cJ6_bitCount_0f7a4 32 = .ok (.iand, 1) := by decide +kernel
theorem dJ6_bitCount_0f7a4_33 : decode cJ6_bitCount_0f7a4 33 = .ok (.istore_n 0, 1) := by decide +kernel
theorem dJ6_bitCount_0f7a4_34 : decode cJ6_bitCount_0f7a4 34 = .ok (.iload_n 0, 1) := by decide +kernel
theorem dJ6_bitCount_0f7a4_35 : decode cJ6_bitCount_0f7a4 35 = .ok (.iload_n 0, 1) := by decide +kernel
theorem dJ6_bitCount_0f7a4_36 : decode cJ6_bitCount_0f7a4 36 = .ok (.bipush 8, 2) := by decide +kernel
theorem dJ6_bitCount_0f7a4_38 : decode cJ6_bitCount_0f7a4 38 = .ok (.iushr, 1) := by decide +kernel
theorem dJ6_bitCount_0f7a4_39 : decode cJ6_bitCount_0f7a4 39 = .ok (.iadd, 1) := by decide +kernel
theorem dJ6_bitCount_0f7a4_40 : decode cJ6_bitCount_0f7a4 40 = .ok (.istore_n 0, 1) := by decide +kernel
theorem dJ6_bitCount_0f7a4_41 : decode cJ6_bitCount_0f7a4 41 = .ok (.iload_n 0, 1) := by decide +kernel
theorem dJ6_bitCount_0f7a4_42 : decode cJ6_bitCount_0f7a4 42 = .ok (.iload_n 0, 1) := by decide +kernel
theorem dJ6_bitCount_0f7a4_43 : decode cJ6_bitCount_0f7a4 43 = .ok (.bipush 16, 2) := by decide +kernel
theorem dJ6_bitCount_0f7a4_45 : decode cJ6_bitCount_0f7a4 45 = .ok (.iushr, 1) := by decide +kernel
theorem dJ6_bitCount_0f7a4_46 : decode cJ6_bitCount_0f7a4 46 = .ok (.iadd, 1) := by decide +kernel
theorem dJ6_bitCount_0f7a4_47 : decode cJ6_bitCount_0f7a4 47 = .ok (.istore_n 0, 1) := by decide +kernel
theorem dJ6_bitCount_0f7a4_48 : decode cJ6_bitCount_0f7a4 48 = .ok (.iload_n 0, 1) := by decide +kernel
theorem dJ6_bitCount_0f7a4_49 : decode cJ6_bitCount_0f7a4 49 = .ok (.bipush 63, 2) := by decide +kernel
theorem dJ6_bitCount_0f7a4_51 : decode cJ6_bitCount_0f7a4 51 = .ok (.iand, 1) := by decide +kernel
theorem dJ6_bitCount_0f7a4_52 : decode cJ6_bitCount_0f7a4 52 = .ok (.ireturn, 1) := by decide +kernel
theorem dJ9_abs_0f7a4_0 : decode cJ9_abs_0f7a4 0 = .ok (.iload_n 0, 1) := by decide +kernel
theorem dJ9_abs_0f7a4_1 : decode cJ9_abs_0f7a4 1 = .ok (.ifCond .ge 8, 3) := by decide +kernel
theorem dJ9_abs_0f7a4_4 : decode cJ9_abs_0f7a4 4 = .ok (.iload_n 0, 1) := by decide +kernel
theorem dJ9_abs_0f7a4_5 : decode cJ9_abs_0f7a4 5 = .ok (.ineg, 1) := by decide +kernel
theorem dJ9_abs_0f7a4_6 : decode cJ9_abs_0f7a4 6 = .ok (.goto 4, 3) := by decide +kernel
theorem dJ9_abs_0f7a4_9 : decode cJ9_abs_0f7a4 9 = .ok (.iload_n 0, 1) := by decide +kernel
theorem dJ9_abs_0f7a4_10 : decode cJ9_abs_0f7a4 10 = .ok (.ireturn, 1) := by decide +kernel
theorem dJ9_max_7cf53_0 : decode cJ9_max_7cf53 0 = .ok (.iload_n 0, 1) := by decide +kernel
theorem dJ9_max_7cf53_1 : decode cJ9_max_7cf53 1 = .ok (.iload_n 1, 1) := by decide +kernel
theorem dJ9_max_7cf53_2 : decode cJ9_max_7cf53 2 = .ok (.if_icmp .lt 7, 3) := by decide +kernel
theorem dJ9_max_7cf53_5 : decode cJ9_max_7cf53 5 = .ok (.iload_n 0, 1) := by decide +kernel
theorem dJ9_max_7cf53_6 : decode cJ9_max_7cf53 6 = .ok (.goto 4, 3) := by decide +kernel
theorem dJ9_max_7cf53_9 : decode cJ9_max_7cf53 9 = .ok (.iload_n 1, 1) := by decide +kernel
theorem dJ9_max_7cf53_10 : decode cJ9_max_7cf53 10 = .ok (.ireturn, 1) := by decide +kernel
theorem dJ9_min_7cf53_0 : decode cJ9_min_7cf53 0 = .ok (.iload_n 0, 1) := by decide +kernel
theorem dJ9_min_7cf53_1 : decode cJ9_min_7cf53 1 = .ok (.iload_n 1, 1) := by decide +kernel
theorem dJ9_min_7cf53_2 : decode cJ9_min_7cf53 2 = .ok (.if_icmp .gt 7, 3) := by decide +kernel
theorem dJ9_min_7cf53_5 : decode cJ9_min_7cf53 5 = .ok (.iload_n 0, 1) := by decide +kernel
theorem dJ9_min_7cf53_6 : decode cJ9_min_7cf53 6 = .ok (.goto 4, 3) := by decide +kernel
theorem dJ9_min_7cf53_9 : decode cJ9_min_7cf53 9 = .ok (.iload_n 1, 1) := by decide +kernel
theorem dJ9_min_7cf53_10 : decode cJ9_min_7cf53 10 = .ok (.ireturn, 1) := by decide +kernel
end
section
theorem dX10_init_0 : decode cX10_init 0 = .ok (.aload_n 0, 1) := by decide +kernel
theorem dX10_init_1 : decode cX10_init 1 = .ok (.invokespecial 1, 3) := by decide +kernel
theorem dX10_init_4 : decode cX10_init 4 = .ok (.aload_n 0, 1) := by decide +kernel
theorem dX10_init_5 : decode cX10_init 5 = .ok (.bipush 6, 2) := by decide +kernel
theorem dX10_init_7 : decode cX10_init 7 = .ok (.newarray .int, 2) := by decide +kernel
theorem dX10_init_9 : decode cX10_init 9 = .ok (.putfield 7, 3) := by decide +kernel
theorem dX10_init_12 : decode cX10_init 12 = .ok (.aload_n 0, 1) := by decide +kernel
theorem dX10_init_13 : decode cX10_init 13 = .ok (.bipush 6, 2) := by decide +kernel
theorem dX10_init_15 : decode cX10_init 15 = .ok (.newarray .int, 2) := by decide +kernel
theorem dX10_init_17 : decode cX10_init 17 = .ok (.putfield 13, 3) := by decide +kernel
theorem dX10_init_20 : decode cX10_init 20 = .ok (.aload_n 0, 1) := by decide +kernel
theorem dX10_init_21 : decode cX10_init 21 = .ok (.bipush 6, 2) := by decide +kernel
theorem dX10_init_23 : decode cX10_init 23 = .ok (.newarray .int, 2) := by decide +kernel
theorem dX10_init_25 : decode cX10_init 25 = .ok (.putfield 16, 3) := by decide +kernel
theorem dX10_init_28 : decode cX10_init 28 = .ok (.aload_n 0, 1) := by decide +kernel
theorem dX10_init_29 : decode cX10_init 29 = .ok (.bipush 40, 2) := by decide +kernel
theorem dX10_init_31 : decode cX10_init 31 = .ok (.newarray .int, 2) := by decide +kernel
theorem dX10_init_33 : decode cX10_init 33 = .ok (.putfield 19, 3) := by decide +kernel
theorem dX10_init_36 : decode cX10_init 36 = .ok (.aload_n 0, 1) := by decide +kernel
theorem dX10_init_37 : decode cX10_init 37 = .ok (.bipush 30, 2) := by decide +kernel
theorem dX10_init_39 : decode cX10_init 39 = .ok (.newarray .int, 2) := by decide +kernel
theorem dX10_init_41 : decode cX10_init 41 = .ok (.putfield 22, 3) := by decide +kernel
theorem dX10_init_44 : decode cX10_init 44 = .ok (.aload_n 0, 1) := by decide +kernel
theorem dX10_init_45 : decode cX10_init 45 = .ok (.bipush 48, 2) := by decide +kernel
theorem dX10_init_47 : decode cX10_init 47 = .ok (.newarray .int, 2) := by decide +kernel
theorem dX10_init_49 : decode cX10_init 49 = .ok (.putfield 25, 3) := by decide +kernel
theorem dX10_init_52 : decode cX10_init 52 = .ok (.aload_n 0, 1) := by decide +kernel
theorem dX10_init_53 : decode cX10_init 53 = .ok (.bipush 63, 2) := by decide +kernel
theorem dX10_init_55 : decode cX10_init 55 = .ok (.putfield 28, 3) := by decide +kernel
theorem dX10_init_58 : decode cX10_init 58 = .ok (.aload_n 0, 1) := by decide +kernel
theorem dX10_init_59 : decode cX10_init 59 = .ok (.bipush 6, 2) := by decide +kernel
theorem dX10_init_61 : decode cX10_init 61 = .ok (.newarray .int, 2) := by decide +kernel
theorem dX10_init_63 : decode cX10_init 63 = .ok (.putfield 32, 3) := by decide +kernel
theorem dX10_init_66 : decode cX10_init 66 = .ok (.aload_n 0, 1) := by decide +kernel
theorem dX10_init_67 : decode cX10_init 67 = .ok (.sipush 280, 3) := by decide +kernel
theorem dX10_init_70 : decode cX10_init 70 = .ok (.newarray .int, 2) := by decide +kernel
theorem dX10_init_72 : decode cX10_init 72 = .ok (.putfield 35, 3) := by decide +kernel
theorem dX10_init_75 : decode cX10_init 75 = .ok (.aload_n 0, 1) := by decide +kernel
theorem dX10_init_76 : decode cX10_init 76 = .ok (.bipush 61, 2) := by decide +kernel
theorem dX10_init_78 : decode cX10_init 78 = .ok (.newarray .int, 2) := by decide +kernel
theorem dX10_init_80 : decode cX10_init 80 = .ok (.putfield 38, 3) := by decide +kernel
theorem dX10_init_83 : decode cX10_init 83 = .ok (.aload_n 0, 1) := by decide +kernel
theorem dX10_init_84 : decode cX10_init 84 = .ok (.bipush 6, 2) := by decide +kernel
theorem dX10_init_86 : decode cX10_init 86 = .ok (.newarray .int, 2) := by decide +kernel
theorem dX10_init_88 : decode cX10_init 88 = .ok (.putfield 41, 3) := by decide +kernel
theorem dX10_init_91 : decode cX10_init 91 = .ok (.aload_n 0, 1) := by decide +kernel
theorem dX10_init_92 : decode cX10_init 92 = .ok (.bipush 6, 2) := by decide +kernel
theorem dX10_init_94 : decode cX10_init 94 = .ok (.newarray .int, 2) := by decide +kernel
theorem dX10_init_96 : decode cX10_init 96 = .ok (.putfield 44, 3) := by decide +kernel
theorem dX10_init_99 : decode cX10_init 99 = .ok (.aload_n 0, 1) := by decide +kernel
theorem dX10_init_100 : decode cX10_init 100 = .ok (.bipush 6, 2) := by decide +kernel
theorem dX10_init_102 : decode cX10_init 102 = .ok (.newarray .int, 2) := by decide +kernel
theorem dX10_init_104 : decode cX10_init 104 = .ok (.putfield 47, 3) := by decide +kernel
theorem dX10_init_107 : decode cX10_init 107 = .ok (.aload_n 0, 1) := by decide +kernel
theorem dX10_init_108 : decode cX10_init 108 = .ok (.iconst 2, 1) := by decide +kernel
theorem dX10_init_109 : decode cX10_init 109 = .ok (.newarray .boolean, 2) := by decide +kernel
theorem dX10_init_111 : decode cX10_init 111 = .ok (.putfield 50, 3) := by decide +kernel
theorem dX10_init_114 : decode cX10_init 114 = .ok (.aload_n 0, 1) := by decide +kernel
theorem dX10_init_115 : decode cX10_init 115 = .ok (.bipush 40, 2) := by decide +kernel
theorem dX10_init_117 : decode cX10_init 117 = .ok (.newarray .int, 2) := by decide +kernel
theorem dX10_init_119 : decode cX10_init 119 = .ok (.putfield 54, 3) := by decide +kernel
theorem dX10_init_122 : decode cX10_init 122 = .ok (.return_, 1) := by decide +kernel
theorem dX10_in_0 : decode cX10_in 0 = .ok (.lload_n 0, 1) := by decide +kernel
theorem dX10_in_1 : decode cX10_in 1 = .ok (.lload_n 2, 1) := by decide +kernel
theorem dX10_in_2 : decode cX10_in 2 = .ok (.lcmp, 1) := by decide +kernel
theorem dX10_in_3 : decode cX10_in 3 = .ok (.ifCond .lt 14, 3) := by decide +kernel
theorem dX10_in_6 : decode cX10_in 6 = .ok (.lload_n 0, 1) := by decide +kernel
theorem dX10_in_7 : decode cX10_in 7 = .ok (.lload 4, 2) := by decide +kernel
theorem dX10_in_9 : decode cX10_in 9 = .ok (.lcmp, 1) := by decide +kernel
theorem dX10_in_10 : decode cX10_in 10 = .ok (.ifCond .gt 7, 3) := by decide +kernel
theorem dX10_in_13 : decode cX10_in 13 = .ok (.iconst 1, 1) := by decide +kernel
theorem dX10_in_14 : decode cX10_in 14 = .ok (.goto 4, 3) := by decide +kernel
theorem dX10_in_17 : decode cX10_in 17 = .ok (.iconst 0, 1) := by decide +kernel
theorem dX10_in_18 : decode cX10_in 18 = .ok (.ireturn, 1) := by decide +kernel
theorem dX10_has_0 : decode cX10_has 0 = .ok (.iload_n 0, 1) := by decide +kernel
theorem dX10_has_1 : decode cX10_has 1 = .ok (.iload_n 1, 1) := by decide +kernel
theorem dX10_has_2 : decode cX10_has 2 = .ok (.ishr, 1) := by decide +kernel
theorem dX10_has_3 : decode cX10_has 3 = .ok (.iconst 1, 1) := by decide +kernel
theorem dX10_has_4 : decode cX10_has 4 = .ok (.iand, 1) := by decide +kernel
theorem dX10_has_5 : decode cX10_has 5 = .ok (.iconst 1, 1) := by decide +kernel
theorem dX10_has_6 : decode cX10_has 6 = .ok (.if_icmp .ne 7, 3) := by decide +kernel
theorem dX10_has_9 : decode cX10_has 9 = .ok (.iconst 1, 1) := by decide +kernel
theorem dX10_has_10 : decode cX10_has 10 = .ok (.goto 4, 3) := by decide +kernel
theorem dX10_has_13 : decode cX10_has 13 = .ok (.iconst 0, 1) := by decide +kernel
theorem dX10_has_14 : decode cX10_has 14 = .ok (.ireturn, 1) := by decide +kernel
theorem dX10_ones_0 : decode cX10_ones 0 = .ok (.iconst 0, 1) := by decide +kernel
theorem dX10_ones_1 : decode cX10_ones 1 = .ok (.istore_n 1, 1) := by decide +kernel
theorem dX10_ones_2 : decode cX10_ones 2 = .ok (.iconst 0, 1) := by decide +kernel
theorem dX10_ones_3 : decode cX10_ones 3 = .ok (.istore_n 2, 1) := by decide +kernel
theorem dX10_ones_4 : decode cX10_ones 4 = .ok (.iload_n 2, 1) := by decide +kernel
theorem dX10_ones_5 : decode cX10_ones 5 = .ok (.bipush 10, 2) := by decide +kernel
theorem dX10_ones_7 : decode cX10_ones 7 = .ok (.if_icmp .ge 17, 3) := by decide +kernel
theorem dX10_ones_10 : decode cX10_ones 10 = .ok (.iload_n 1, 1) := by decide +kernel
theorem dX10_ones_11 : decode cX10_ones 11 = .ok (.iload_n 0, 1) := by decide +kernel
theorem dX10_ones_12 : decode cX10_ones 12 = .ok (.iload_n 2, 1) := by decide +kernel
theorem dX10_ones_13 : decode cX10_ones 13 = .ok (.ishr, 1) := by decide +kernel
theorem dX10_ones_14 : decode cX10_ones 14 = .ok (.iconst 1, 1) := by decide +kernel
theorem dX10_ones_15 : decode cX10_ones 15 = .ok (.iand, 1) := by decide +kernel
theorem dX10_ones_16 : decode cX10_ones 16 = .ok (.iadd, 1) := by decide +kernel
theorem dX10_ones_17 : decode cX10_ones 17 = .ok (.istore_n 1, 1) := by decide +kernel
theorem dX10_ones_18 : decode cX10_ones 18 = .ok (.iinc 2 1, 3) := by decide +kernel
theorem dX10_ones_21 : decode cX10_ones 21 = .ok (.goto (-17), 3) := by decide +kernel
theorem dX10_ones_24 : decode cX10_ones 24 = .ok (.iload_n 1, 1) := by decide +kernel
theorem dX10_ones_25 : decode cX10_ones 25 = .ok (.ireturn, 1) := by decide +kernel
theorem dX10_write_0 : decode cX10_write 0 = .ok (.iload_n 1, 1) := by decide +kernel
theorem dX10_write_1 : decode cX10_write 1 = .ok (.i2l, 1) := by decide +kernel
theorem dX10_write_2 : decode cX10_write 2 = .ok (.lconst 0, 1) := by decide +kernel
theorem dX10_write_3 : decode cX10_write 3 = .ok (.ldc2_w 57, 3) := by decide +kernel
theorem dX10_write_6 : decode cX10_write 6 = .ok (.invokestatic 59, 3) := by decide +kernel
theorem dX10_write_9 : decode cX10_write 9 = .ok (.ifCond .ne 6, 3) := by decide +kernel
theorem dX10_write_12 : decode cX10_write 12 = .ok (.bipush (-2), 2) := by decide +kernel
theorem dX10_write_14 : decode cX10_write 14 = .ok (.ireturn, 1) := by decide +kernel
theorem dX10_write_15 : decode cX10_write 15 = .ok (.aload_n 0, 1) := by decide +kernel
theorem dX10_write_16 : decode cX10_write 16 = .ok (.getfield 63, 3) := by decide +kernel
theorem dX10_write_19 : decode cX10_write 19 = .ok (.bipush 48, 2) := by decide +kernel
theorem dX10_write_21 : decode cX10_write 21 = .ok (.if_icmp .ne 6, 3) := by decide +kernel
theorem dX10_write_24 : decode cX10_write 24 = .ok (.bipush (-4), 2) := by decide +kernel
theorem dX10_write_26 : decode cX10_write 26 = .ok (.ireturn, 1) := by decide +kernel
theorem dX10_write_27 : decode cX10_write 27 = .ok (.aload_n 0, 1) := by decide +kernel
theorem dX10_write_28 : decode cX10_write 28 = .ok (.getfield 25, 3) := by decide +kernel
theorem dX10_write_31 : decode cX10_write 31 = .ok (.aload_n 0, 1) := by decide +kernel
theorem dX10_write_32 : decode cX10_write 32 = .ok (.getfield 63, 3) := by decide +kernel
theorem dX10_write_35 : decode cX10_write 35 = .ok (.iload_n 1, 1) := by decide +kernel
theorem dX10_write_36 : decode cX10_write 36 = .ok (.iastore, 1) := by decide +kernel
theorem dX10_write_37 : decode cX10_write 37 = .ok (.aload_n 0, 1) := by decide +kernel
theorem dX10_write_38 : decode cX10_write 38 = .ok (.dup, 1) := by decide +kernel
theorem dX10_write_39 : decode cX10_write 39 = .ok (.getfield 63, 3) := by decide +kernel
theorem dX10_write_42 : decode cX10_write 42 = .ok (.iconst 1, 1) := by decide +kernel
theorem dX10_write_43 : decode cX10_write 43 = .ok (.iadd, 1) := by decide +kernel
theorem dX10_write_44 : decode cX10_write 44 = .ok (.putfield 63, 3) := by decide +kernel
theorem dX10_write_47 : decode cX10_write 47 = .ok (.aload_n 0, 1) := by decide +kernel
theorem dX10_write_48 : decode cX10_write 48 = .ok (.getfield 63, 3) := by decide +kernel
theorem dX10_write_51 : decode cX10_write 51 = .ok (.ireturn, 1) := by decide +kernel
theorem dX10_wipe_0 : decode cX10_wipe 0 = .ok (.aload_n 0, 1) := by decide +kernel
theorem dX10_wipe_1 : decode cX10_wipe 1 = .ok (.getfield 63, 3) := by decide +kernel
theorem dX10_wipe_4 : decode cX10_wipe 4 = .ok (.istore_n 1, 1) := by decide +kernel
theorem dX10_wipe_5 : decode cX10_wipe 5 = .ok (.aload_n 0, 1) := by decide +kernel
theorem dX10_wipe_6 : decode cX10_wipe 6 = .ok (.iconst 0, 1) := by decide +kernel
theorem dX10_wipe_7 : decode cX10_wipe 7 = .ok (.putfield 63, 3) := by decide +kernel
theorem dX10_wipe_10 : decode cX10_wipe 10 = .ok (.iload_n 1, 1) := by decide +kernel
theorem dX10_wipe_11 : decode cX10_wipe 11 = .ok (.ireturn, 1) := by decide +kernel
theorem dX10_figureOf_0 : decode cX10_figureOf 0 = .ok (.aload_n 0, 1) := by decide +kernel
theorem dX10_figureOf_1 : decode cX10_figureOf 1 = .ok (.getfield 66, 3) := by decide +kernel
theorem dX10_figureOf_4 : decode cX10_figureOf 4 = .ok (.bipush (-9), 2) := by decide +kernel
theorem dX10_figureOf_6 : decode cX10_figureOf 6 = .ok (.if_icmp .ne 18, 3) := by decide +kernel
theorem dX10_figureOf_9 : decode cX10_figureOf 9 = .ok (.aload_n 0, 1) := by decide +kernel
theorem dX10_figureOf_10 : decode cX10_figureOf 10 = .ok (.getfield 69, 3) := by decide +kernel
theorem dX10_figureOf_13 : decode cX10_figureOf 13 = .ok (.aload_n 0, 1) := by decide +kernel
theorem dX10_figureOf_14 : decode cX10_figureOf 14 = .ok (.getfield 63, 3) := by decide +kernel
theorem dX10_figureOf_17 : decode cX10_figureOf 17 = .ok (.if_icmp .ge 7, 3) := by decide +kernel
theorem dX10_figureOf_20 : decode cX10_figureOf 20 = .ok (.iconst 1, 1) := by decide +kernel
theorem dX10_figureOf_21 : decode cX10_figureOf 21 = .ok (.goto 4, 3) := by decide +kernel
theorem dX10_figureOf_24 : decode cX10_figureOf 24 = .ok (.iconst 0, 1) := by decide +kernel
theorem dX10_figureOf_25 : decode cX10_figureOf 25 = .ok (.istore_n 2, 1) := by decide +kernel
theorem dX10_figureOf_26 : decode cX10_figureOf 26 = .ok (.iload_n 2, 1) := by decide +kernel
theorem dX10_figureOf_27 : decode cX10_figureOf 27 = .ok (.ifCond .eq 18, 3) := by decide +kernel
theorem dX10_figureOf_30 : decode cX10_figureOf 30 = .ok (.aload_n 0, 1) := by decide +kernel
theorem dX10_figureOf_31 : decode cX10_figureOf 31 = .ok (.getfield 25, 3) := by decide +kernel
theorem dX10_figureOf_34 : decode cX10_figureOf 34 = .ok (.aload_n 0, 1) := by decide +kernel
theorem dX10_figureOf_35 : decode cX10_figureOf 35 = .ok (.getfield 69, 3) := by decide +kernel
theorem dX10_figureOf_38 : decode cX10_figureOf 38 = .ok (.iaload, 1) := by decide +kernel
theorem dX10_figureOf_39 : decode cX10_figureOf 39 = .ok (.bipush 48, 2) := by decide +kernel
theorem dX10_figureOf_41 : decode cX10_figureOf 41 = .ok (.isub, 1) := by decide +kernel
theorem dX10_figureOf_42 : decode cX10_figureOf 42 = .ok (.goto 4, 3) := by decide +kernel
theorem dX10_figureOf_45 : decode cX10_figureOf 45 = .ok (.iconst 0, 1) := by decide +kernel
theorem dX10_figureOf_46 : decode cX10_figureOf 46 = .ok (.istore_n 3, 1) := by decide +kernel
theorem dX10_figureOf_47 : decode cX10_figureOf 47 = .ok (.iload_n 2, 1) := by decide +kernel
theorem dX10_figureOf_48 : decode cX10_figureOf 48 = .ok (.ifCond .eq 23, 3) := by decide +kernel
theorem dX10_figureOf_51 : decode cX10_figureOf 51 = .ok (.iload_n 3, 1) := by decide +kernel
theorem dX10_figureOf_52 : decode cX10_figureOf 52 = .ok (.i2l, 1) := by decide +kernel
theorem dX10_figureOf_53 : decode cX10_figureOf 53 = .ok (.lconst 0, 1) := by decide +kernel
theorem dX10_figureOf_54 : decode cX10_figureOf 54 = .ok (.ldc2_w 72, 3) := by decide +kernel
theorem dX10_figureOf_57 : decode cX10_figureOf 57 = .ok (.invokestatic 59, 3) := by decide +kernel
theorem dX10_figureOf_60 : decode cX10_figureOf 60 = .ok (.ifCond .eq 11, 3) := by decide +kernel
theorem dX10_figureOf_63 : decode cX10_figureOf 63 = .ok (.iload_n 1, 1) := by decide +kernel
theorem dX10_figureOf_64 : decode cX10_figureOf 64 = .ok (.iload_n 3, 1) := by decide +kernel
theorem dX10_figureOf_65 : decode cX10_figureOf 65 = .ok (.invokestatic 74, 3) := by decide +kernel
theorem dX10_figureOf_68 : decode cX10_figureOf 68 = .ok (.ifCond .ne 29, 3) := by decide +kernel
theorem dX10_figureOf_71 : decode cX10_figureOf 71 = .ok (.aload_n 0, 1) := by decide +kernel
theorem dX10_figureOf_72 : decode cX10_figureOf 72 = .ok (.aload_n 0, 1) := by decide +kernel
theorem dX10_figureOf_73 : decode cX10_figureOf 73 = .ok (.getfield 66, 3) := by decide +kernel
theorem dX10_figureOf_76 : decode cX10_figureOf 76 = .ok (.bipush (-9), 2) := by decide +kernel
theorem dX10_figureOf_78 : decode cX10_figureOf 78 = .ok (.if_icmp .ne 10, 3) := by decide +kernel
theorem dX10_figureOf_81 : decode cX10_figureOf 81 = .ok (.aload_n 0, 1) := by decide +kernel
theorem dX10_figureOf_82 : decode cX10_figureOf 82 = .ok (.getfield 69, 3) := by decide +kernel
theorem dX10_figureOf_85 : decode cX10_figureOf 85 = .ok (.goto 7, 3) := by decide +kernel
theorem dX10_figureOf_88 : decode cX10_figureOf 88 = .ok (.aload_n 0, 1) := by decide +kernel
theorem dX10_figureOf_89 : decode cX10_figureOf 89 = .ok (.getfield 66, 3) := by decide +kernel
theorem dX10_figureOf_92 : decode cX10_figureOf 92 = .ok (.putfield 66, 3) := by decide +kernel
theorem dX10_figureOf_95 : decode cX10_figureOf 95 = .ok (.iconst 0, 1) := by decide +kernel
theorem dX10_figureOf_96 : decode cX10_figureOf 96 = .ok (.ireturn, 1) := by decide +kernel
theorem dX10_figureOf_97 : decode cX10_figureOf 97 = .ok (.aload_n 0, 1) := by decide +kernel
theorem dX10_figureOf_98 : decode cX10_figureOf 98 = .ok (.dup, 1) := by decide +kernel
theorem dX10_figureOf_99 : decode cX10_figureOf 99 = .ok (.getfield 69, 3) := by decide +kernel
theorem dX10_figureOf_102 : decode cX10_figureOf 102 = .ok (.iconst 1, 1) := by decide +kernel
theorem dX10_figureOf_103 : decode cX10_figureOf 103 = .ok (.iadd, 1) := by decide +kernel
theorem dX10_figureOf_104 : decode cX10_figureOf 104 = .ok (.putfield 69, 3) := by decide +kernel
theorem dX10_figureOf_107 : decode cX10_figureOf 107 = .ok (.iload_n 3, 1) := by decide +kernel
theorem dX10_figureOf_108 : decode cX10_figureOf 108 = .ok (.ireturn, 1) := by decide +kernel
theorem dX10_readText_0 : decode cX10_readText 0 = .ok (.aload_n 0, 1) := by decide +kernel
theorem dX10_readText_1 : decode cX10_readText 1 = .ok (.iconst 0, 1) := by decide +kernel
theorem dX10_readText_2 : decode cX10_readText 2 = .ok (.putfield 69, 3) := by decide +kernel
theorem dX10_readText_5 : decode cX10_readText 5 = .ok (.aload_n 0, 1) := by decide +kernel
theorem dX10_readText_6 : decode cX10_readText 6 = .ok (.bipush (-9), 2) := by decide +kernel
theorem dX10_readText_8 : decode cX10_readText 8 = .ok (.putfield 66, 3) := by decide +kernel
theorem dX10_readText_11 : decode cX10_readText 11 = .ok (.aload_n 0, 1) := by decide +kernel
theorem dX10_readText_12 : decode cX10_readText 12 = .ok (.iconst 0, 1) := by decide +kernel
theorem dX10_readText_13 : decode cX10_readText 13 = .ok (.putfield 78, 3) := by decide +kernel
theorem dX10_readText_16 : decode cX10_readText 16 = .ok (.aload_n 0, 1) := by decide +kernel
theorem dX10_readText_17 : decode cX10_readText 17 = .ok (.iconst 0, 1) := by decide +kernel
theorem dX10_readText_18 : decode cX10_readText 18 = .ok (.putfield 81, 3) := by decide +kernel
theorem dX10_readText_21 : decode cX10_readText 21 = .ok (.aload_n 0, 1) := by decide +kernel
theorem dX10_readText_22 : decode cX10_readText 22 = .ok (.getfield 63, 3) := by decide +kernel
theorem dX10_readText_25 : decode cX10_readText 25 = .ok (.ifCond .eq 14, 3) := by decide +kernel
theorem dX10_readText_28 : decode cX10_readText 28 = .ok (.aload_n 0, 1) := by decide +kernel
theorem dX10_readText_29 : decode cX10_readText 29 = .ok (.getfield 25, 3) := by decide +kernel
theorem dX10_readText_32 : decode cX10_readText 32 = .ok (.iconst 0, 1) := by decide +kernel
theorem dX10_readText_33 : decode cX10_readText 33 = .ok (.iaload, 1) := by decide +kernel
theorem dX10_readText_34 : decode cX10_readText 34 = .ok (.bipush 67, 2) := by decide +kernel
theorem dX10_readText_36 : decode cX10_readText 36 = .ok (.if_icmp .eq 5, 3) := by decide +kernel
theorem dX10_readText_39 : decode cX10_readText 39 = .ok (.iconst 0, 1) := by decide +kernel
theorem dX10_readText_40 : decode cX10_readText 40 = .ok (.ireturn, 1) := by decide +kernel
theorem dX10_readText_41 : decode cX10_readText 41 = .ok (.aload_n 0, 1) := by decide +kernel
theorem dX10_readText_42 : decode cX10_readText 42 = .ok (.iconst 1, 1) := by decide +kernel
theorem dX10_readText_43 : decode cX10_readText 43 = .ok (.putfield 69, 3) := by decide +kernel
theorem dX10_readText_46 : decode cX10_readText 46 = .ok (.aload_n 0, 1) := by decide +kernel
theorem dX10_readText_47 : decode cX10_readText 47 = .ok (.getfield 66, 3) := by decide +kernel
theorem dX10_readText_50 : decode cX10_readText 50 = .ok (.bipush (-9), 2) := by decide +kernel
theorem dX10_readText_52 : decode cX10_readText 52 = .ok (.if_icmp .ne 30, 3) := by decide +kernel
theorem dX10_readText_55 : decode cX10_readText 55 = .ok (.aload_n 0, 1) := by decide +kernel
theorem dX10_readText_56 : decode cX10_readText 56 = .ok (.getfield 69, 3) := by decide +kernel
theorem dX10_readText_59 : decode cX10_readText 59 = .ok (.aload_n 0, 1) := by decide +kernel
theorem dX10_readText_60 : decode cX10_readText 60 = .ok (.getfield 63, 3) := by decide +kernel
theorem dX10_readText_63 : decode cX10_readText 63 = .ok (.if_icmp .ge 19, 3) := by decide +kernel
theorem dX10_readText_66 : decode cX10_readText 66 = .ok (.aload_n 0, 1) := by decide +kernel
theorem dX10_readText_67 : decode cX10_readText 67 = .ok (.aload_n 0, 1) := by decide +kernel
theorem dX10_readText_68 : decode cX10_readText 68 = .ok (.getfield 25, 3) := by decide +kernel
theorem dX10_readText_71 : decode cX10_readText 71 = .ok (.aload_n 0, 1) := by decide +kernel
theorem dX10_readText_72 : decode cX10_readText 72 = .ok (.getfield 69, 3) := by decide +kernel
theorem dX10_readText_75 : decode cX10_readText 75 = .ok (.iaload, 1) := by decide +kernel
theorem dX10_readText_76 : decode cX10_readText 76 = .ok (.invokevirtual 84, 3) := by decide +kernel
theorem dX10_readText_79 : decode cX10_readText 79 = .ok (.goto (-33), 3) := by decide +kernel
theorem dX10_readText_82 : decode cX10_readText 82 = .ok (.aload_n 0, 1) := by decide +kernel
theorem dX10_readText_83 : decode cX10_readText 83 = .ok (.getfield 66, 3) := by decide +kernel
theorem dX10_readText_86 : decode cX10_readText 86 = .ok (.ireturn, 1) := by decide +kernel
theorem dX10_readPart_0 : decode cX10_readPart 0 = .ok (.iload_n 1, 1) := by decide +kernel
theorem dX10_readPart_1 : decode cX10_readPart 1 = .ok (.bipush 83, 2) := by decide +kernel
theorem dX10_readPart_3 : decode cX10_readPart 3 = .ok (.if_icmp .ne 12, 3) := by decide +kernel
theorem dX10_readPart_6 : decode cX10_readPart 6 = .ok (.aload_n 0, 1) := by decide +kernel
theorem dX10_readPart_7 : decode cX10_readPart 7 = .ok (.getfield 78, 3) := by decide +kernel
theorem dX10_readPart_10 : decode cX10_readPart 10 = .ok (.bipush 6, 2) := by decide +kernel
theorem dX10_readPart_12 : decode cX10_readPart 12 = .ok (.if_icmp .ne 12, 3) := by decide +kernel
theorem dX10_readPart_15 : decode cX10_readPart 15 = .ok (.aload_n 0, 1) := by decide +kernel
theorem dX10_readPart_16 : decode cX10_readPart 16 = .ok (.aload_n 0, 1) := by decide +kernel
theorem dX10_readPart_17 : decode cX10_readPart 17 = .ok (.getfield 69, 3) := by decide +kernel
theorem dX10_readPart_20 : decode cX10_readPart 20 = .ok (.putfield 66, 3) := by decide +kernel
theorem dX10_readPart_23 : decode cX10_readPart 23 = .ok (.return_, 1) := by decide +kernel
theorem dX10_readPart_24 : decode cX10_readPart 24 = .ok (.aload_n 0, 1) := by decide +kernel
theorem dX10_readPart_25 : decode cX10_readPart 25 = .ok (.dup, 1) := by decide +kernel
theorem dX10_readPart_26 : decode cX10_readPart 26 = .ok (.getfield 69, 3) := by decide +kernel
theorem dX10_readPart_29 : decode cX10_readPart 29 = .ok (.iconst 1, 1) := by decide +kernel
theorem dX10_readPart_30 : decode cX10_readPart 30 = .ok (.iadd, 1) := by decide +kernel
theorem dX10_readPart_31 : decode cX10_readPart 31 = .ok (.putfield 69, 3) := by decide +kernel
theorem dX10_readPart_34 : decode cX10_readPart 34 = .ok (.iconst 5, 1) := by decide +kernel
theorem dX10_readPart_35 : decode cX10_readPart 35 = .ok (.aload_n 0, 1) := by decide +kernel
theorem dX10_readPart_36 : decode cX10_readPart 36 = .ok (.getfield 78, 3) := by decide +kernel
theorem dX10_readPart_39 : decode cX10_readPart 39 = .ok (.imul, 1) := by decide +kernel
theorem dX10_readPart_40 : decode cX10_readPart 40 = .ok (.istore_n 2, 1) := by decide +kernel
theorem dX10_readPart_41 : decode cX10_readPart 41 = .ok (.aload_n 0, 1) := by decide +kernel
theorem dX10_readPart_42 : decode cX10_readPart 42 = .ok (.getfield 22, 3) := by decide +kernel
theorem dX10_readPart_45 : decode cX10_readPart 45 = .ok (.iload_n 2, 1) := by decide +kernel
theorem dX10_readPart_46 : decode cX10_readPart 46 = .ok (.aload_n 0, 1) := by decide +kernel
theorem dX10_readPart_47 : decode cX10_readPart 47 = .ok (.sipush 255, 3) := by decide +kernel
theorem dX10_readPart_50 : decode cX10_readPart 50 = .ok (.aload_n 0, 1) := by decide +kernel
theorem dX10_readPart_51 : decode cX10_readPart 51 = .ok (.getfield 81, 3) := by decide +kernel
theorem dX10_readPart_54 : decode cX10_readPart 54 = .ok (.iconst (-1), 1) := by decide +kernel
theorem dX10_readPart_55 : decode cX10_readPart 55 = .ok (.ixor, 1) := by decide +kernel
theorem dX10_readPart_56 : decode cX10_readPart 56 = .ok (.iand, 1) := by decide +kernel
theorem dX10_readPart_57 : decode cX10_readPart 57 = .ok (.invokevirtual 88, 3) := by decide +kernel
theorem dX10_readPart_60 : decode cX10_readPart 60 = .ok (.iastore, 1) := by decide +kernel
theorem dX10_readPart_61 : decode cX10_readPart 61 = .ok (.iconst 1, 1) := by decide +kernel
theorem dX10_readPart_62 : decode cX10_readPart 62 = .ok (.istore_n 3, 1) := by decide +kernel
theorem dX10_readPart_63 : decode cX10_readPart 63 = .ok (.iload_n 3, 1) := by decide +kernel
theorem dX10_readPart_64 : decode cX10_readPart 64 = .ok (.iconst 4, 1) := by decide +kernel
theorem dX10_readPart_65 : decode cX10_readPart 65 = .ok (.if_icmp .ge 24, 3) := by decide +kernel
theorem dX10_readPart_68 : decode cX10_readPart 68 = .ok (.aload_n 0, 1) := by decide +kernel
theorem dX10_readPart_69 : decode cX10_readPart 69 = .ok (.getfield 22, 3) := by decide +kernel
theorem dX10_readPart_72 : decode cX10_readPart 72 = .ok (.iload_n 2, 1) := by decide +kernel
theorem dX10_readPart_73 : decode cX10_readPart 73 = .ok (.iload_n 3, 1) := by decide +kernel
theorem dX10_readPart_74 : decode cX10_readPart 74 = .ok (.iadd, 1) := by decide +kernel
theorem dX10_readPart_75 : decode cX10_readPart 75 = .ok (.aload_n 0, 1) := by decide +kernel
theorem dX10_readPart_76 : decode cX10_readPart 76 = .ok (.sipush 1023, 3) := by decide +kernel
theorem dX10_readPart_79 : decode cX10_readPart 79 = .ok (.invokevirtual 88, 3) := by decide +kernel
theorem dX10_readPart_82 : decode cX10_readPart 82 = .ok (.iastore, 1) := by decide +kernel
theorem dX10_readPart_83 : decode cX10_readPart 83 = .ok (.iinc 3 1, 3) := by decide +kernel
theorem dX10_readPart_86 : decode cX10_readPart 86 = .ok (.goto (-23), 3) := by decide +kernel
theorem dX10_readPart_89 : decode cX10_readPart 89 = .ok (.aload_n 0, 1) := by decide +kernel
theorem dX10_readPart_90 : decode cX10_readPart 90 = .ok (.getfield 22, 3) := by decide +kernel
theorem dX10_readPart_93 : decode cX10_readPart 93 = .ok (.iload_n 2, 1) := by decide +kernel
theorem dX10_readPart_94 : decode cX10_readPart 94 = .ok (.iconst 4, 1) := by decide +kernel
theorem dX10_readPart_95 : decode cX10_readPart 95 = .ok (.iadd, 1) := by decide +kernel
theorem dX10_readPart_96 : decode cX10_readPart 96 = .ok (.aload_n 0, 1) := by decide +kernel
theorem dX10_readPart_97 : decode cX10_readPart 97 = .ok (.bipush 15, 2) := by decide +kernel
theorem dX10_readPart_99 : decode cX10_readPart 99 = .ok (.invokevirtual 88, 3) := by decide +kernel
theorem dX10_readPart_102 : decode cX10_readPart 102 = .ok (.iastore, 1) := by decide +kernel
theorem dX10_readPart_103 : decode cX10_readPart 103 = .ok (.aload_n 0, 1) := by decide +kernel
theorem dX10_readPart_104 : decode cX10_readPart 104 = .ok (.dup, 1) := by decide +kernel
theorem dX10_readPart_105 : decode cX10_readPart 105 = .ok (.getfield 81, 3) := by decide +kernel
theorem dX10_readPart_108 : decode cX10_readPart 108 = .ok (.iconst 1, 1) := by decide +kernel
theorem dX10_readPart_109 : decode cX10_readPart 109 = .ok (.aload_n 0, 1) := by decide +kernel
theorem dX10_readPart_110 : decode cX10_readPart 110 = .ok (.getfield 22, 3) := by decide +kernel
theorem dX10_readPart_113 : decode cX10_readPart 113 = .ok (.iload_n 2, 1) := by decide +kernel
theorem dX10_readPart_114 : decode cX10_readPart 114 = .ok (.iaload, 1) := by decide +kernel
theorem dX10_readPart_115 : decode cX10_readPart 115 = .ok (.ishl, 1) := by decide +kernel
theorem dX10_readPart_116 : decode cX10_readPart 116 = .ok (.ior, 1) := by decide +kernel
theorem dX10_readPart_117 : decode cX10_readPart 117 = .ok (.putfield 81, 3) := by decide +kernel
theorem dX10_readPart_120 : decode cX10_readPart 120 = .ok (.aload_n 0, 1) := by decide +kernel
theorem dX10_readPart_121 : decode cX10_readPart 121 = .ok (.dup, 1) := by decide +kernel
theorem dX10_readPart_122 : decode cX10_readPart 122 = .ok (.getfield 78, 3) := by decide +kernel
theorem dX10_readPart_125 : decode cX10_readPart 125 = .ok (.iconst 1, 1) := by decide +kernel
theorem dX10_readPart_126 : decode cX10_readPart 126 = .ok (.iadd, 1) := by decide +kernel
theorem dX10_readPart_127 : decode cX10_readPart 127 = .ok (.putfield 78, 3) := by decide +kernel
theorem dX10_readPart_130 : decode cX10_readPart 130 = .ok (.return_, 1) := by decide +kernel
theorem dX10_fault_0 : decode cX10_fault 0 = .ok (.aload_n 0, 1) := by decide +kernel
theorem dX10_fault_1 : decode cX10_fault 1 = .ok (.invokevirtual 92, 3) := by decide +kernel
theorem dX10_fault_4 : decode cX10_fault 4 = .ok (.ireturn, 1) := by decide +kernel
theorem dX10_choir_0 : decode cX10_choir 0 = .ok (.aload_n 0, 1) := by decide +kernel
theorem dX10_choir_1 : decode cX10_choir 1 = .ok (.invokevirtual 92, 3) := by decide +kernel
theorem dX10_choir_4 : decode cX10_choir 4 = .ok (.bipush (-9), 2) := by decide +kernel
theorem dX10_choir_6 : decode cX10_choir 6 = .ok (.if_icmp .eq 6, 3) := by decide +kernel
theorem dX10_choir_9 : decode cX10_choir 9 = .ok (.bipush (-3), 2) := by decide +kernel
theorem dX10_choir_11 : decode cX10_choir 11 = .ok (.ireturn, 1) := by decide +kernel
theorem dX10_choir_12 : decode cX10_choir 12 = .ok (.aload_n 0, 1) := by decide +kernel
theorem dX10_choir_13 : decode cX10_choir 13 = .ok (.aload_n 0, 1) := by decide +kernel
theorem dX10_choir_14 : decode cX10_choir 14 = .ok (.getfield 78, 3) := by decide +kernel
theorem dX10_choir_17 : decode cX10_choir 17 = .ok (.putfield 96, 3) := by decide +kernel
theorem dX10_choir_20 : decode cX10_choir 20 = .ok (.iconst 0, 1) := by decide +kernel
theorem dX10_choir_21 : decode cX10_choir 21 = .ok (.istore_n 1, 1) := by decide +kernel
theorem dX10_choir_22 : decode cX10_choir 22 = .ok (.iload_n 1, 1) := by decide +kernel
theorem dX10_choir_23 : decode cX10_choir 23 = .ok (.bipush 20, 2) := by decide +kernel
theorem dX10_choir_25 : decode cX10_choir 25 = .ok (.if_icmp .ge 16, 3) := by decide +kernel
theorem dX10_choir_28 : decode cX10_choir 28 = .ok (.aload_n 0, 1) := by decide +kernel
theorem dX10_choir_29 : decode cX10_choir 29 = .ok (.getfield 19, 3) := by decide +kernel
theorem dX10_choir_32 : decode cX10_choir 32 = .ok (.iload_n 1, 1) := by decide +kernel
theorem dX10_choir_33 : decode cX10_choir 33 = .ok (.iconst 0, 1) := by decide +kernel
theorem dX10_choir_34 : decode cX10_choir 34 = .ok (.iastore, 1) := by decide +kernel
theorem dX10_choir_35 : decode cX10_choir 35 = .ok (.iinc 1 1, 3) := by decide +kernel
theorem dX10_choir_38 : decode cX10_choir 38 = .ok (.goto (-16), 3) := by decide +kernel
theorem dX10_choir_41 : decode cX10_choir 41 = .ok (.iconst 0, 1) := by decide +kernel
theorem dX10_choir_42 : decode cX10_choir 42 = .ok (.istore_n 1, 1) := by decide +kernel
theorem dX10_choir_43 : decode cX10_choir 43 = .ok (.iload_n 1, 1) := by decide +kernel
theorem dX10_choir_44 : decode cX10_choir 44 = .ok (.aload_n 0, 1) := by decide +kernel
theorem dX10_choir_45 : decode cX10_choir 45 = .ok (.getfield 96, 3) := by decide +kernel
theorem dX10_choir_48 : decode cX10_choir 48 = .ok (.if_icmp .ge 105, 3) := by decide +kernel
theorem dX10_choir_51 : decode cX10_choir 51 = .ok (.aload_n 0, 1) := by decide +kernel
theorem dX10_choir_52 : decode cX10_choir 52 = .ok (.getfield 19, 3) := by decide +kernel
theorem dX10_choir_55 : decode cX10_choir 55 = .ok (.iload_n 1, 1) := by decide +kernel
theorem dX10_choir_56 : decode cX10_choir 56 = .ok (.aload_n 0, 1) := by decide +kernel
theorem dX10_choir_57 : decode cX10_choir 57 = .ok (.getfield 22, 3) := by decide +kernel
theorem dX10_choir_60 : decode cX10_choir 60 = .ok (.iconst 5, 1) := by decide +kernel
theorem dX10_choir_61 : decode cX10_choir 61 = .ok (.iload_n 1, 1) := by decide +kernel
theorem dX10_choir_62 : decode cX10_choir 62 = .ok (.imul, 1) := by decide +kernel
theorem dX10_choir_63 : decode cX10_choir 63 = .ok (.iaload, 1) := by decide +kernel
theorem dX10_choir_64 : decode cX10_choir 64 = .ok (.iastore, 1) := by decide +kernel
theorem dX10_choir_65 : decode cX10_choir 65 = .ok (.aload_n 0, 1) := by decide +kernel
theorem dX10_choir_66 : decode cX10_choir 66 = .ok (.getfield 7, 3) := by decide +kernel
theorem dX10_choir_69 : decode cX10_choir 69 = .ok (.iload_n 1, 1) := by decide +kernel
theorem dX10_choir_70 : decode cX10_choir 70 = .ok (.aload_n 0, 1) := by decide +kernel
theorem dX10_choir_71 : decode cX10_choir 71 = .ok (.getfield 22, 3) := by decide +kernel
theorem dX10_choir_74 : decode cX10_choir 74 = .ok (.iconst 5, 1) := by decide +kernel
theorem dX10_choir_75 : decode cX10_choir 75 = .ok (.iload_n 1, 1) := by decide +kernel
theorem dX10_choir_76 : decode cX10_choir 76 = .ok (.imul, 1) := by decide +kernel
theorem dX10_choir_77 : decode cX10_choir 77 = .ok (.iconst 1, 1) := by decide +kernel
theorem dX10_choir_78 : decode cX10_choir 78 = .ok (.iadd, 1) := by decide +kernel
theorem dX10_choir_79 : decode cX10_choir 79 = .ok (.iaload, 1) := by decide +kernel
theorem dX10_choir_80 : decode cX10_choir 80 = .ok (.iastore, 1) := by decide +kernel
theorem dX10_choir_81 : decode cX10_choir 81 = .ok (.aload_n 0, 1) := by decide +kernel
theorem dX10_choir_82 : decode cX10_choir 82 = .ok (.getfield 13, 3) := by decide +kernel
theorem dX10_choir_85 : decode cX10_choir 85 = .ok (.iload_n 1, 1) := by decide +kernel
theorem dX10_choir_86 : decode cX10_choir 86 = .ok (.aload_n 0, 1) := by decide +kernel
theorem dX10_choir_87 : decode cX10_choir 87 = .ok (.getfield 22, 3) := by decide +kernel
theorem dX10_choir_90 : decode cX10_choir 90 = .ok (.iconst 5, 1) := by decide +kernel
theorem dX10_choir_91 : decode cX10_choir 91 = .ok (.iload_n 1, 1) := by decide +kernel
theorem dX10_choir_92 : decode cX10_choir 92 = .ok (.imul, 1) := by decide +kernel
theorem dX10_choir_93 : decode cX10_choir 93 = .ok (.iconst 2, 1) := by decide +kernel
theorem dX10_choir_94 : decode cX10_choir 94 = .ok (.iadd, 1) := by decide +kernel
theorem dX10_choir_95 : decode cX10_choir 95 = .ok (.iaload, 1) := by decide +kernel
theorem dX10_choir_96 : decode cX10_choir 96 = .ok (.iastore, 1) := by decide +kernel
theorem dX10_choir_97 : decode cX10_choir 97 = .ok (.aload_n 0, 1) := by decide +kernel
theorem dX10_choir_98 : decode cX10_choir 98 = .ok (.getfield 19, 3) := by decide +kernel
theorem dX10_choir_101 : decode cX10_choir 101 = .ok (.bipush 6, 2) := by decide +kernel
theorem dX10_choir_103 : decode cX10_choir 103 = .ok (.iload_n 1, 1) := by decide +kernel
theorem dX10_choir_104 : decode cX10_choir 104 = .ok (.iadd, 1) := by decide +kernel
theorem dX10_choir_105 : decode cX10_choir 105 = .ok (.aload_n 0, 1) := by decide +kernel
theorem dX10_choir_106 : decode cX10_choir 106 = .ok (.getfield 22, 3) := by decide +kernel
theorem dX10_choir_109 : decode cX10_choir 109 = .ok (.iconst 5, 1) := by decide +kernel
theorem dX10_choir_110 : decode cX10_choir 110 = .ok (.iload_n 1, 1) := by decide +kernel
theorem dX10_choir_111 : decode cX10_choir 111 = .ok (.imul, 1) := by decide +kernel
theorem dX10_choir_112 : decode cX10_choir 112 = .ok (.iconst 3, 1) := by decide +kernel
theorem dX10_choir_113 : decode cX10_choir 113 = .ok (.iadd, 1) := by decide +kernel
theorem dX10_choir_114 : decode cX10_choir 114 = .ok (.iaload, 1) := by decide +kernel
theorem dX10_choir_115 : decode cX10_choir 115 = .ok (.iastore, 1) := by decide +kernel
theorem dX10_choir_116 : decode cX10_choir 116 = .ok (.aload_n 0, 1) := by decide +kernel
theorem dX10_choir_117 : decode cX10_choir 117 = .ok (.getfield 16, 3) := by decide +kernel
theorem dX10_choir_120 : decode cX10_choir 120 = .ok (.iload_n 1, 1) := by decide +kernel
theorem dX10_choir_121 : decode cX10_choir 121 = .ok (.aload_n 0, 1) := by decide +kernel
theorem dX10_choir_122 : decode cX10_choir 122 = .ok (.getfield 22, 3) := by decide +kernel
theorem dX10_choir_125 : decode cX10_choir 125 = .ok (.iconst 5, 1) := by decide +kernel
theorem dX10_choir_126 : decode cX10_choir 126 = .ok (.iload_n 1, 1) := by decide +kernel
theorem dX10_choir_127 : decode cX10_choir 127 = .ok (.imul, 1) := by decide +kernel
theorem dX10_choir_128 : decode cX10_choir 128 = .ok (.iconst 4, 1) := by decide +kernel
theorem dX10_choir_129 : decode cX10_choir 129 = .ok (.iadd, 1) := by decide +kernel
theorem dX10_choir_130 : decode cX10_choir 130 = .ok (.iaload, 1) := by decide +kernel
theorem dX10_choir_131 : decode cX10_choir 131 = .ok (.iastore, 1) := by decide +kernel
theorem dX10_choir_132 : decode cX10_choir 132 = .ok (.aload_n 0, 1) := by decide +kernel
theorem dX10_choir_133 : decode cX10_choir 133 = .ok (.getfield 19, 3) := by decide +kernel
theorem dX10_choir_136 : decode cX10_choir 136 = .ok (.bipush 12, 2) := by decide +kernel
theorem dX10_choir_138 : decode cX10_choir 138 = .ok (.iload_n 1, 1) := by decide +kernel
theorem dX10_choir_139 : decode cX10_choir 139 = .ok (.iadd, 1) := by decide +kernel
theorem dX10_choir_140 : decode cX10_choir 140 = .ok (.aload_n 0, 1) := by decide +kernel
theorem dX10_choir_141 : decode cX10_choir 141 = .ok (.getfield 7, 3) := by decide +kernel
theorem dX10_choir_144 : decode cX10_choir 144 = .ok (.iload_n 1, 1) := by decide +kernel
theorem dX10_choir_145 : decode cX10_choir 145 = .ok (.iaload, 1) := by decide +kernel
theorem dX10_choir_146 : decode cX10_choir 146 = .ok (.iastore, 1) := by decide +kernel
theorem dX10_choir_147 : decode cX10_choir 147 = .ok (.iinc 1 1, 3) := by decide +kernel
theorem dX10_choir_150 : decode cX10_choir 150 = .ok (.goto (-107), 3) := by decide +kernel
theorem dX10_choir_153 : decode cX10_choir 153 = .ok (.aload_n 0, 1) := by decide +kernel
theorem dX10_choir_154 : decode cX10_choir 154 = .ok (.iconst 0, 1) := by decide +kernel
theorem dX10_choir_155 : decode cX10_choir 155 = .ok (.putfield 99, 3) := by decide +kernel
theorem dX10_choir_158 : decode cX10_choir 158 = .ok (.aload_n 0, 1) := by decide +kernel
theorem dX10_choir_159 : decode cX10_choir 159 = .ok (.getfield 50, 3) := by decide +kernel
theorem dX10_choir_162 : decode cX10_choir 162 = .ok (.iconst 0, 1) := by decide +kernel
theorem dX10_choir_163 : decode cX10_choir 163 = .ok (.iconst 0, 1) := by decide +kernel
theorem dX10_choir_164 : decode cX10_choir 164 = .ok (.bastore, 1) := by decide +kernel
theorem dX10_choir_165 : decode cX10_choir 165 = .ok (.aload_n 0, 1) := by decide +kernel
theorem dX10_choir_166 : decode cX10_choir 166 = .ok (.getfield 50, 3) := by decide +kernel
theorem dX10_choir_169 : decode cX10_choir 169 = .ok (.iconst 1, 1) := by decide +kernel
theorem dX10_choir_170 : decode cX10_choir 170 = .ok (.iconst 0, 1) := by decide +kernel
theorem dX10_choir_171 : decode cX10_choir 171 = .ok (.bastore, 1) := by decide +kernel
theorem dX10_choir_172 : decode cX10_choir 172 = .ok (.aload_n 0, 1) := by decide +kernel
theorem dX10_choir_173 : decode cX10_choir 173 = .ok (.getfield 96, 3) := by decide +kernel
theorem dX10_choir_176 : decode cX10_choir 176 = .ok (.ireturn, 1) := by decide +kernel
theorem dX10_isSinger_0 : decode cX10_isSinger 0 = .ok (.iload_n 1, 1) := by decide +kernel
theorem dX10_isSinger_1 : decode cX10_isSinger 1 = .ok (.i2l, 1) := by decide +kernel
theorem dX10_isSinger_2 : decode cX10_isSinger 2 = .ok (.lconst 0, 1) := by decide +kernel
theorem dX10_isSinger_3 : decode cX10_isSinger 3 = .ok (.aload_n 0, 1) := by decide +kernel
theorem dX10_isSinger_4 : decode cX10_isSinger 4 = .ok (.getfield 96, 3) := by decide +kernel
theorem dX10_isSinger_7 : decode cX10_isSinger 7 = .ok (.iconst 1, 1) := by decide +kernel
theorem dX10_isSinger_8 : decode cX10_isSinger 8 = .ok (.isub, 1) := by decide +kernel
theorem dX10_isSinger_9 : decode cX10_isSinger 9 = .ok (.i2l, 1) := by decide +kernel
theorem dX10_isSinger_10 : decode cX10_isSinger 10 = .ok (.invokestatic 59, 3) := by decide +kernel
theorem dX10_isSinger_13 : decode cX10_isSinger 13 = .ok (.ireturn, 1) := by decide +kernel
theorem dX10_seesOf_0 : decode cX10_seesOf 0 = .ok (.iconst 0, 1) := by decide +kernel
theorem dX10_seesOf_1 : decode cX10_seesOf 1 = .ok (.istore_n 3, 1) := by decide +kernel
theorem dX10_seesOf_2 : decode cX10_seesOf 2 = .ok (.iconst 0, 1) := by decide +kernel
theorem dX10_seesOf_3 : decode cX10_seesOf 3 = .ok (.istore 4, 2) := by decide +kernel
theorem dX10_seesOf_5 : decode cX10_seesOf 5 = .ok (.iload 4, 2) := by decide +kernel
theorem dX10_seesOf_7 : decode cX10_seesOf 7 = .ok (.aload_n 0, 1) := by decide +kernel
theorem dX10_seesOf_8 : decode cX10_seesOf 8 = .ok (.getfield 96, 3) := by decide +kernel
theorem dX10_seesOf_11 : decode cX10_seesOf 11 = .ok (.if_icmp .ge 79, 3) := by decide +kernel
theorem dX10_seesOf_14 : decode cX10_seesOf 14 = .ok (.aload_n 0, 1) := by decide +kernel
theorem dX10_seesOf_15 : decode cX10_seesOf 15 = .ok (.getfield 19, 3) := by decide +kernel
theorem dX10_seesOf_18 : decode cX10_seesOf 18 = .ok (.bipush 20, 2) := by decide +kernel
theorem dX10_seesOf_20 : decode cX10_seesOf 20 = .ok (.iload_n 1, 1) := by decide +kernel
theorem dX10_seesOf_21 : decode cX10_seesOf 21 = .ok (.imul, 1) := by decide +kernel
theorem dX10_seesOf_22 : decode cX10_seesOf 22 = .ok (.iload 4, 2) := by decide +kernel
theorem dX10_seesOf_24 : decode cX10_seesOf 24 = .ok (.iadd, 1) := by decide +kernel
theorem dX10_seesOf_25 : decode cX10_seesOf 25 = .ok (.iaload, 1) := by decide +kernel
theorem dX10_seesOf_26 : decode cX10_seesOf 26 = .ok (.aload_n 0, 1) := by decide +kernel
theorem dX10_seesOf_27 : decode cX10_seesOf 27 = .ok (.getfield 19, 3) := by decide +kernel
theorem dX10_seesOf_30 : decode cX10_seesOf 30 = .ok (.bipush 20, 2) := by decide +kernel
theorem dX10_seesOf_32 : decode cX10_seesOf 32 = .ok (.iload_n 1, 1) := by decide +kernel
theorem dX10_seesOf_33 : decode cX10_seesOf 33 = .ok (.imul, 1) := by decide +kernel
theorem dX10_seesOf_34 : decode cX10_seesOf 34 = .ok (.iload_n 2, 1) := by decide +kernel
theorem dX10_seesOf_35 : decode cX10_seesOf 35 = .ok (.iadd, 1) := by decide +kernel
theorem dX10_seesOf_36 : decode cX10_seesOf 36 = .ok (.iaload, 1) := by decide +kernel
theorem dX10_seesOf_37 : decode cX10_seesOf 37 = .ok (.isub, 1) := by decide +kernel
theorem dX10_seesOf_38 : decode cX10_seesOf 38 = .ok (.istore 5, 2) := by decide +kernel
theorem dX10_seesOf_40 : decode cX10_seesOf 40 = .ok (.iload_n 3, 1) := by decide +kernel
theorem dX10_seesOf_41 : decode cX10_seesOf 41 = .ok (.iload 4, 2) := by decide +kernel
theorem dX10_seesOf_43 : decode cX10_seesOf 43 = .ok (.iload_n 2, 1) := by decide +kernel
theorem dX10_seesOf_44 : decode cX10_seesOf 44 = .ok (.if_icmp .eq 37, 3) := by decide +kernel
theorem dX10_seesOf_47 : decode cX10_seesOf 47 = .ok (.aload_n 0, 1) := by decide +kernel
theorem dX10_seesOf_48 : decode cX10_seesOf 48 = .ok (.getfield 28, 3) := by decide +kernel
theorem dX10_seesOf_51 : decode cX10_seesOf 51 = .ok (.iload 4, 2) := by decide +kernel
theorem dX10_seesOf_53 : decode cX10_seesOf 53 = .ok (.invokestatic 74, 3) := by decide +kernel
theorem dX10_seesOf_56 : decode cX10_seesOf 56 = .ok (.ifCond .eq 25, 3) := by decide +kernel
theorem dX10_seesOf_59 : decode cX10_seesOf 59 = .ok (.iload 5, 2) := by decide +kernel
theorem dX10_seesOf_61 : decode cX10_seesOf 61 = .ok (.i2l, 1) := by decide +kernel
theorem dX10_seesOf_62 : decode cX10_seesOf 62 = .ok (.ldc2_w 102, 3) := by decide +kernel
theorem dX10_seesOf_65 : decode cX10_seesOf 65 = .ok (.ldc2_w 104, 3) := by decide +kernel
theorem dX10_seesOf_68 : decode cX10_seesOf 68 = .ok (.invokestatic 59, 3) := by decide +kernel
theorem dX10_seesOf_71 : decode cX10_seesOf 71 = .ok (.ifCond .eq 10, 3) := by decide +kernel
theorem dX10_seesOf_74 : decode cX10_seesOf 74 = .ok (.iconst 1, 1) := by decide +kernel
theorem dX10_seesOf_75 : decode cX10_seesOf 75 = .ok (.iload 4, 2) := by decide +kernel
theorem dX10_seesOf_77 : decode cX10_seesOf 77 = .ok (.ishl, 1) := by decide +kernel
theorem dX10_seesOf_78 : decode cX10_seesOf 78 = .ok (.goto 4, 3) := by decide +kernel
theorem dX10_seesOf_81 : decode cX10_seesOf 81 = .ok (.iconst 0, 1) := by decide +kernel
theorem dX10_seesOf_82 : decode cX10_seesOf 82 = .ok (.ior, 1) := by decide +kernel
theorem dX10_seesOf_83 : decode cX10_seesOf 83 = .ok (.istore_n 3, 1) := by decide +kernel
theorem dX10_seesOf_84 : decode cX10_seesOf 84 = .ok (.iinc 4 1, 3) := by decide +kernel
theorem dX10_seesOf_87 : decode cX10_seesOf 87 = .ok (.goto (-82), 3) := by decide +kernel
theorem dX10_seesOf_90 : decode cX10_seesOf 90 = .ok (.iload_n 3, 1) := by decide +kernel
theorem dX10_seesOf_91 : decode cX10_seesOf 91 = .ok (.ireturn, 1) := by decide +kernel
theorem dX10_kindNow_0 : decode cX10_kindNow 0 = .ok (.aload_n 0, 1) := by decide +kernel
theorem dX10_kindNow_1 : decode cX10_kindNow 1 = .ok (.getfield 19, 3) := by decide +kernel
theorem dX10_kindNow_4 : decode cX10_kindNow 4 = .ok (.bipush 20, 2) := by decide +kernel
theorem dX10_kindNow_6 : decode cX10_kindNow 6 = .ok (.iload_n 1, 1) := by decide +kernel
theorem dX10_kindNow_7 : decode cX10_kindNow 7 = .ok (.imul, 1) := by decide +kernel
theorem dX10_kindNow_8 : decode cX10_kindNow 8 = .ok (.bipush 18, 2) := by decide +kernel
theorem dX10_kindNow_10 : decode cX10_kindNow 10 = .ok (.iadd, 1) := by decide +kernel
theorem dX10_kindNow_11 : decode cX10_kindNow 11 = .ok (.iaload, 1) := by decide +kernel
theorem dX10_kindNow_12 : decode cX10_kindNow 12 = .ok (.iload_n 2, 1) := by decide +kernel
theorem dX10_kindNow_13 : decode cX10_kindNow 13 = .ok (.invokestatic 74, 3) := by decide +kernel
theorem dX10_kindNow_16 : decode cX10_kindNow 16 = .ok (.ifCond .eq 7, 3) := by decide +kernel
theorem dX10_kindNow_19 : decode cX10_kindNow 19 = .ok (.iconst 1, 1) := by decide +kernel
theorem dX10_kindNow_20 : decode cX10_kindNow 20 = .ok (.goto 9, 3) := by decide +kernel
theorem dX10_kindNow_23 : decode cX10_kindNow 23 = .ok (.aload_n 0, 1) := by decide +kernel
theorem dX10_kindNow_24 : decode cX10_kindNow 24 = .ok (.getfield 16, 3) := by decide +kernel
theorem dX10_kindNow_27 : decode cX10_kindNow 27 = .ok (.iload_n 2, 1) := by decide +kernel
theorem dX10_kindNow_28 : decode cX10_kindNow 28 = .ok (.iaload, 1) := by decide +kernel
theorem dX10_kindNow_29 : decode cX10_kindNow 29 = .ok (.ireturn, 1) := by decide +kernel
theorem dX10_enviesOf_0 : decode cX10_enviesOf 0 = .ok (.aload_n 0, 1) := by decide +kernel
theorem dX10_enviesOf_1 : decode cX10_enviesOf 1 = .ok (.iload_n 1, 1) := by decide +kernel
theorem dX10_enviesOf_2 : decode cX10_enviesOf 2 = .ok (.iload_n 2, 1) := by decide +kernel
theorem dX10_enviesOf_3 : decode cX10_enviesOf 3 = .ok (.invokevirtual 106, 3) := by decide +kernel
theorem dX10_enviesOf_6 : decode cX10_enviesOf 6 = .ok (.istore_n 3, 1) := by decide +kernel
theorem dX10_enviesOf_7 : decode cX10_enviesOf 7 = .ok (.iload_n 3, 1) := by decide +kernel
theorem dX10_enviesOf_8 : decode cX10_enviesOf 8 = .ok (.ifCond .eq 11, 3) := by decide +kernel
theorem dX10_enviesOf_11 : decode cX10_enviesOf 11 = .ok (.iload_n 3, 1) := by decide +kernel
theorem dX10_enviesOf_12 : decode cX10_enviesOf 12 = .ok (.iconst 3, 1) := by decide +kernel
theorem dX10_enviesOf_13 : decode cX10_enviesOf 13 = .ok (.if_icmp .eq 6, 3) := by decide +kernel
theorem dX10_enviesOf_16 : decode cX10_enviesOf 16 = .ok (.bipush (-9), 2) := by decide +kernel
theorem dX10_enviesOf_18 : decode cX10_enviesOf 18 = .ok (.ireturn, 1) := by decide +kernel
theorem dX10_enviesOf_19 : decode cX10_enviesOf 19 = .ok (.bipush 20, 2) := by decide +kernel
theorem dX10_enviesOf_21 : decode cX10_enviesOf 21 = .ok (.iload_n 1, 1) := by decide +kernel
theorem dX10_enviesOf_22 : decode cX10_enviesOf 22 = .ok (.imul, 1) := by decide +kernel
theorem dX10_enviesOf_23 : decode cX10_enviesOf 23 = .ok (.iload_n 3, 1) := by decide +kernel
theorem dX10_enviesOf_24 : decode cX10_enviesOf 24 = .ok (.ifCond .ne 8, 3) := by decide +kernel
theorem dX10_enviesOf_27 : decode cX10_enviesOf 27 = .ok (.bipush 6, 2) := by decide +kernel
theorem dX10_enviesOf_29 : decode cX10_enviesOf 29 = .ok (.goto 5, 3) := by decide +kernel
theorem dX10_enviesOf_32 : decode cX10_enviesOf 32 = .ok (.bipush 12, 2) := by decide +kernel
theorem dX10_enviesOf_34 : decode cX10_enviesOf 34 = .ok (.iadd, 1) := by decide +kernel
theorem dX10_enviesOf_35 : decode cX10_enviesOf 35 = .ok (.istore 4, 2) := by decide +kernel
theorem dX10_enviesOf_37 : decode cX10_enviesOf 37 = .ok (.aload_n 0, 1) := by decide +kernel
theorem dX10_enviesOf_38 : decode cX10_enviesOf 38 = .ok (.iload_n 1, 1) := by decide +kernel
theorem dX10_enviesOf_39 : decode cX10_enviesOf 39 = .ok (.iload_n 2, 1) := by decide +kernel
theorem dX10_enviesOf_40 : decode cX10_enviesOf 40 = .ok (.invokevirtual 110, 3) := by decide +kernel
theorem dX10_enviesOf_43 : decode cX10_enviesOf 43 = .ok (.istore 5, 2) := by decide +kernel
theorem dX10_enviesOf_45 : decode cX10_enviesOf 45 = .ok (.bipush (-9), 2) := by decide +kernel
theorem dX10_enviesOf_47 : decode cX10_enviesOf 47 = .ok (.istore 6, 2) := by decide +kernel
theorem dX10_enviesOf_49 : decode cX10_enviesOf 49 = .ok (.aload_n 0, 1) := by decide +kernel
theorem dX10_enviesOf_50 : decode cX10_enviesOf 50 = .ok (.getfield 19, 3) := by decide +kernel
theorem dX10_enviesOf_53 : decode cX10_enviesOf 53 = .ok (.iload 4, 2) := by decide +kernel
theorem dX10_enviesOf_55 : decode cX10_enviesOf 55 = .ok (.iload_n 2, 1) := by decide +kernel
theorem dX10_enviesOf_56 : decode cX10_enviesOf 56 = .ok (.iadd, 1) := by decide +kernel
theorem dX10_enviesOf_57 : decode cX10_enviesOf 57 = .ok (.iaload, 1) := by decide +kernel
theorem dX10_enviesOf_58 : decode cX10_enviesOf 58 = .ok (.istore 7, 2) := by decide +kernel
theorem dX10_enviesOf_60 : decode cX10_enviesOf 60 = .ok (.iconst 0, 1) := by decide +kernel
theorem dX10_enviesOf_61 : decode cX10_enviesOf 61 = .ok (.istore 8, 2) := by decide +kernel
theorem dX10_enviesOf_63 : decode cX10_enviesOf 63 = .ok (.iload 8, 2) := by decide +kernel
theorem dX10_enviesOf_65 : decode cX10_enviesOf 65 = .ok (.aload_n 0, 1) := by decide +kernel
theorem dX10_enviesOf_66 : decode cX10_enviesOf 66 = .ok (.getfield 96, 3) := by decide +kernel
theorem dX10_enviesOf_69 : decode cX10_enviesOf 69 = .ok (.if_icmp .ge 50, 3) := by decide +kernel
theorem dX10_enviesOf_72 : decode cX10_enviesOf 72 = .ok (.iload 5, 2) := by decide +kernel
theorem dX10_enviesOf_74 : decode cX10_enviesOf 74 = .ok (.iload 8, 2) := by decide +kernel
theorem dX10_enviesOf_76 : decode cX10_enviesOf 76 = .ok (.invokestatic 74, 3) := by decide +kernel
theorem dX10_enviesOf_79 : decode cX10_enviesOf 79 = .ok (.ifCond .eq 34, 3) := by decide +kernel
theorem dX10_enviesOf_82 : decode cX10_enviesOf 82 = .ok (.aload_n 0, 1) := by decide +kernel
theorem dX10_enviesOf_83 : decode cX10_enviesOf 83 = .ok (.getfield 19, 3) := by decide +kernel
theorem dX10_enviesOf_86 : decode cX10_enviesOf 86 = .ok (.iload 4, 2) := by decide +kernel
theorem dX10_enviesOf_88 : decode cX10_enviesOf 88 = .ok (.iload 8, 2) := by decide +kernel
theorem dX10_enviesOf_90 : decode cX10_enviesOf 90 = .ok (.iadd, 1) := by decide +kernel
theorem dX10_enviesOf_91 : decode cX10_enviesOf 91 = .ok (.iaload, 1) := by decide +kernel
theorem dX10_enviesOf_92 : decode cX10_enviesOf 92 = .ok (.iload 7, 2) := by decide +kernel
theorem dX10_enviesOf_94 : decode cX10_enviesOf 94 = .ok (.if_icmp .le 19, 3) := by decide +kernel
theorem dX10_enviesOf_97 : decode cX10_enviesOf 97 = .ok (.iload 8, 2) := by decide +kernel
theorem dX10_enviesOf_99 : decode cX10_enviesOf 99 = .ok (.istore 6, 2) := by decide +kernel
theorem dX10_enviesOf_101 : decode cX10_enviesOf 101 = .ok (.aload_n 0, 1) := by decide +kernel
theorem dX10_enviesOf_102 : decode cX10_enviesOf 102 = .ok (.getfield 19, 3) := by decide +kernel
theorem dX10_enviesOf_105 : decode cX10_enviesOf 105 = .ok (.iload 4, 2) := by decide +kernel
theorem dX10_enviesOf_107 : decode cX10_enviesOf 107 = .ok (.iload 8, 2) := by decide +kernel
theorem dX10_enviesOf_109 : decode cX10_enviesOf 109 = .ok (.iadd, 1) := by decide +kernel
theorem dX10_enviesOf_110 : decode cX10_enviesOf 110 = .ok (.iaload, 1) := by decide +kernel
theorem dX10_enviesOf_111 : decode cX10_enviesOf 111 = .ok (.istore 7, 2) := by decide +kernel
theorem dX10_enviesOf_113 : decode cX10_enviesOf 113 = .ok (.iinc 8 1, 3) := by decide +kernel
theorem dX10_enviesOf_116 : decode cX10_enviesOf 116 = .ok (.goto (-53), 3) := by decide +kernel
theorem dX10_enviesOf_119 : decode cX10_enviesOf 119 = .ok (.iload 6, 2) := by decide +kernel
theorem dX10_enviesOf_121 : decode cX10_enviesOf 121 = .ok (.ireturn, 1) := by decide +kernel
theorem dX10_noteThen_0 : decode cX10_noteThen 0 = .ok (.aload_n 0, 1) := by decide +kernel
theorem dX10_noteThen_1 : decode cX10_noteThen 1 = .ok (.iload_n 1, 1) := by decide +kernel
theorem dX10_noteThen_2 : decode cX10_noteThen 2 = .ok (.iload_n 2, 1) := by decide +kernel
theorem dX10_noteThen_3 : decode cX10_noteThen 3 = .ok (.invokevirtual 113, 3) := by decide +kernel
theorem dX10_noteThen_6 : decode cX10_noteThen 6 = .ok (.istore_n 3, 1) := by decide +kernel
theorem dX10_noteThen_7 : decode cX10_noteThen 7 = .ok (.iload_n 3, 1) := by decide +kernel
theorem dX10_noteThen_8 : decode cX10_noteThen 8 = .ok (.bipush (-9), 2) := by decide +kernel
theorem dX10_noteThen_10 : decode cX10_noteThen 10 = .ok (.if_icmp .ne 37, 3) := by decide +kernel
theorem dX10_noteThen_13 : decode cX10_noteThen 13 = .ok (.aload_n 0, 1) := by decide +kernel
theorem dX10_noteThen_14 : decode cX10_noteThen 14 = .ok (.iload_n 1, 1) := by decide +kernel
theorem dX10_noteThen_15 : decode cX10_noteThen 15 = .ok (.iload_n 2, 1) := by decide +kernel
theorem dX10_noteThen_16 : decode cX10_noteThen 16 = .ok (.invokevirtual 106, 3) := by decide +kernel
theorem dX10_noteThen_19 : decode cX10_noteThen 19 = .ok (.iconst 1, 1) := by decide +kernel
theorem dX10_noteThen_20 : decode cX10_noteThen 20 = .ok (.if_icmp .ne 20, 3) := by decide +kernel
theorem dX10_noteThen_23 : decode cX10_noteThen 23 = .ok (.aload_n 0, 1) := by decide +kernel
theorem dX10_noteThen_24 : decode cX10_noteThen 24 = .ok (.getfield 19, 3) := by decide +kernel
theorem dX10_noteThen_27 : decode cX10_noteThen 27 = .ok (.bipush 20, 2) := by decide +kernel
theorem dX10_noteThen_29 : decode cX10_noteThen 29 = .ok (.iload_n 1, 1) := by decide +kernel
theorem dX10_noteThen_30 : decode cX10_noteThen 30 = .ok (.imul, 1) := by decide +kernel
theorem dX10_noteThen_31 : decode cX10_noteThen 31 = .ok (.bipush 12, 2) := by decide +kernel
theorem dX10_noteThen_33 : decode cX10_noteThen 33 = .ok (.iadd, 1) := by decide +kernel
theorem dX10_noteThen_34 : decode cX10_noteThen 34 = .ok (.iload_n 2, 1) := by decide +kernel
theorem dX10_noteThen_35 : decode cX10_noteThen 35 = .ok (.iadd, 1) := by decide +kernel
theorem dX10_noteThen_36 : decode cX10_noteThen 36 = .ok (.iaload, 1) := by decide +kernel
theorem dX10_noteThen_37 : decode cX10_noteThen 37 = .ok (.goto 9, 3) := by decide +kernel
theorem dX10_noteThen_40 : decode cX10_noteThen 40 = .ok (.aload_n 0, 1) := by decide +kernel
theorem dX10_noteThen_41 : decode cX10_noteThen 41 = .ok (.getfield 7, 3) := by decide +kernel
theorem dX10_noteThen_44 : decode cX10_noteThen 44 = .ok (.iload_n 2, 1) := by decide +kernel
theorem dX10_noteThen_45 : decode cX10_noteThen 45 = .ok (.iaload, 1) := by decide +kernel
theorem dX10_noteThen_46 : decode cX10_noteThen 46 = .ok (.ireturn, 1) := by decide +kernel
theorem dX10_noteThen_47 : decode cX10_noteThen 47 = .ok (.aload_n 0, 1) := by decide +kernel
theorem dX10_noteThen_48 : decode cX10_noteThen 48 = .ok (.getfield 19, 3) := by decide +kernel
theorem dX10_noteThen_51 : decode cX10_noteThen 51 = .ok (.bipush 20, 2) := by decide +kernel
theorem dX10_noteThen_53 : decode cX10_noteThen 53 = .ok (.iload_n 1, 1) := by decide +kernel
theorem dX10_noteThen_54 : decode cX10_noteThen 54 = .ok (.imul, 1) := by decide +kernel
theorem dX10_noteThen_55 : decode cX10_noteThen 55 = .ok (.bipush 12, 2) := by decide +kernel
theorem dX10_noteThen_57 : decode cX10_noteThen 57 = .ok (.iadd, 1) := by decide +kernel
theorem dX10_noteThen_58 : decode cX10_noteThen 58 = .ok (.iload_n 3, 1) := by decide +kernel
theorem dX10_noteThen_59 : decode cX10_noteThen 59 = .ok (.iadd, 1) := by decide +kernel
theorem dX10_noteThen_60 : decode cX10_noteThen 60 = .ok (.iaload, 1) := by decide +kernel
theorem dX10_noteThen_61 : decode cX10_noteThen 61 = .ok (.istore 4, 2) := by decide +kernel
theorem dX10_noteThen_63 : decode cX10_noteThen 63 = .ok (.aload_n 0, 1) := by decide +kernel
theorem dX10_noteThen_64 : decode cX10_noteThen 64 = .ok (.getfield 7, 3) := by decide +kernel
theorem dX10_noteThen_67 : decode cX10_noteThen 67 = .ok (.iload_n 2, 1) := by decide +kernel
theorem dX10_noteThen_68 : decode cX10_noteThen 68 = .ok (.iaload, 1) := by decide +kernel
theorem dX10_noteThen_69 : decode cX10_noteThen 69 = .ok (.aload_n 0, 1) := by decide +kernel
theorem dX10_noteThen_70 : decode cX10_noteThen 70 = .ok (.getfield 13, 3) := by decide +kernel
theorem dX10_noteThen_73 : decode cX10_noteThen 73 = .ok (.iload_n 2, 1) := by decide +kernel
theorem dX10_noteThen_74 : decode cX10_noteThen 74 = .ok (.iaload, 1) := by decide +kernel
theorem dX10_noteThen_75 : decode cX10_noteThen 75 = .ok (.iadd, 1) := by decide +kernel
theorem dX10_noteThen_76 : decode cX10_noteThen 76 = .ok (.istore 5, 2) := by decide +kernel
theorem dX10_noteThen_78 : decode cX10_noteThen 78 = .ok (.aload_n 0, 1) := by decide +kernel
theorem dX10_noteThen_79 : decode cX10_noteThen 79 = .ok (.getfield 7, 3) := by decide +kernel
theorem dX10_noteThen_82 : decode cX10_noteThen 82 = .ok (.iload_n 2, 1) := by decide +kernel
theorem dX10_noteThen_83 : decode cX10_noteThen 83 = .ok (.iaload, 1) := by decide +kernel
theorem dX10_noteThen_84 : decode cX10_noteThen 84 = .ok (.aload_n 0, 1) := by decide +kernel
theorem dX10_noteThen_85 : decode cX10_noteThen 85 = .ok (.getfield 13, 3) := by decide +kernel
theorem dX10_noteThen_88 : decode cX10_noteThen 88 = .ok (.iload_n 2, 1) := by decide +kernel
theorem dX10_noteThen_89 : decode cX10_noteThen 89 = .ok (.iaload, 1) := by decide +kernel
theorem dX10_noteThen_90 : decode cX10_noteThen 90 = .ok (.isub, 1) := by decide +kernel
theorem dX10_noteThen_91 : decode cX10_noteThen 91 = .ok (.istore 6, 2) := by decide +kernel
theorem dX10_noteThen_93 : decode cX10_noteThen 93 = .ok (.iload 4, 2) := by decide +kernel
theorem dX10_noteThen_95 : decode cX10_noteThen 95 = .ok (.iload 5, 2) := by decide +kernel
theorem dX10_noteThen_97 : decode cX10_noteThen 97 = .ok (.if_icmp .le 8, 3) := by decide +kernel
theorem dX10_noteThen_100 : decode cX10_noteThen 100 = .ok (.iload 5, 2) := by decide +kernel
theorem dX10_noteThen_102 : decode cX10_noteThen 102 = .ok (.goto 17, 3) := by decide +kernel
theorem dX10_noteThen_105 : decode cX10_noteThen 105 = .ok (.iload 4, 2) := by decide +kernel
theorem dX10_noteThen_107 : decode cX10_noteThen 107 = .ok (.iload 6, 2) := by decide +kernel
theorem dX10_noteThen_109 : decode cX10_noteThen 109 = .ok (.if_icmp .ge 8, 3) := by decide +kernel
theorem dX10_noteThen_112 : decode cX10_noteThen 112 = .ok (.iload 6, 2) := by decide +kernel
theorem dX10_noteThen_114 : decode cX10_noteThen 114 = .ok (.goto 5, 3) := by decide +kernel
theorem dX10_noteThen_117 : decode cX10_noteThen 117 = .ok (.iload 4, 2) := by decide +kernel
theorem dX10_noteThen_119 : decode cX10_noteThen 119 = .ok (.ireturn, 1) := by decide +kernel
theorem dX10_passOn_0 : decode cX10_passOn 0 = .ok (.iconst 0, 1) := by decide +kernel
theorem dX10_passOn_1 : decode cX10_passOn 1 = .ok (.istore_n 2, 1) := by decide +kernel
theorem dX10_passOn_2 : decode cX10_passOn 2 = .ok (.iload_n 2, 1) := by decide +kernel
theorem dX10_passOn_3 : decode cX10_passOn 3 = .ok (.aload_n 0, 1) := by decide +kernel
theorem dX10_passOn_4 : decode cX10_passOn 4 = .ok (.getfield 96, 3) := by decide +kernel
theorem dX10_passOn_7 : decode cX10_passOn 7 = .ok (.if_icmp .ge 21, 3) := by decide +kernel
theorem dX10_passOn_10 : decode cX10_passOn 10 = .ok (.aload_n 0, 1) := by decide +kernel
theorem dX10_passOn_11 : decode cX10_passOn 11 = .ok (.getfield 32, 3) := by decide +kernel
theorem dX10_passOn_14 : decode cX10_passOn 14 = .ok (.iload_n 2, 1) := by decide +kernel
theorem dX10_passOn_15 : decode cX10_passOn 15 = .ok (.aload_n 0, 1) := by decide +kernel
theorem dX10_passOn_16 : decode cX10_passOn 16 = .ok (.iload_n 1, 1) := by decide +kernel
theorem dX10_passOn_17 : decode cX10_passOn 17 = .ok (.iload_n 2, 1) := by decide +kernel
theorem dX10_passOn_18 : decode cX10_passOn 18 = .ok (.invokevirtual 116, 3) := by decide +kernel
theorem dX10_passOn_21 : decode cX10_passOn 21 = .ok (.iastore, 1) := by decide +kernel
theorem dX10_passOn_22 : decode cX10_passOn 22 = .ok (.iinc 2 1, 3) := by decide +kernel
theorem dX10_passOn_25 : decode cX10_passOn 25 = .ok (.goto (-23), 3) := by decide +kernel
theorem dX10_passOn_28 : decode cX10_passOn 28 = .ok (.iconst 0, 1) := by decide +kernel
theorem dX10_passOn_29 : decode cX10_passOn 29 = .ok (.istore_n 2, 1) := by decide +kernel
theorem dX10_passOn_30 : decode cX10_passOn 30 = .ok (.iload_n 2, 1) := by decide +kernel
theorem dX10_passOn_31 : decode cX10_passOn 31 = .ok (.aload_n 0, 1) := by decide +kernel
theorem dX10_passOn_32 : decode cX10_passOn 32 = .ok (.getfield 96, 3) := by decide +kernel
theorem dX10_passOn_35 : decode cX10_passOn 35 = .ok (.if_icmp .ge 29, 3) := by decide +kernel
theorem dX10_passOn_38 : decode cX10_passOn 38 = .ok (.aload_n 0, 1) := by decide +kernel
theorem dX10_passOn_39 : decode cX10_passOn 39 = .ok (.getfield 19, 3) := by decide +kernel
theorem dX10_passOn_42 : decode cX10_passOn 42 = .ok (.bipush 20, 2) := by decide +kernel
theorem dX10_passOn_44 : decode cX10_passOn 44 = .ok (.iload_n 1, 1) := by decide +kernel
theorem dX10_passOn_45 : decode cX10_passOn 45 = .ok (.imul, 1) := by decide +kernel
theorem dX10_passOn_46 : decode cX10_passOn 46 = .ok (.bipush 12, 2) := by decide +kernel
theorem dX10_passOn_48 : decode cX10_passOn 48 = .ok (.iadd, 1) := by decide +kernel
theorem dX10_passOn_49 : decode cX10_passOn 49 = .ok (.iload_n 2, 1) := by decide +kernel
theorem dX10_passOn_50 : decode cX10_passOn 50 = .ok (.iadd, 1) := by decide +kernel
theorem dX10_passOn_51 : decode cX10_passOn 51 = .ok (.aload_n 0, 1) := by decide +kernel
theorem dX10_passOn_52 : decode cX10_passOn 52 = .ok (.getfield 32, 3) := by decide +kernel
theorem dX10_passOn_55 : decode cX10_passOn 55 = .ok (.iload_n 2, 1) := by decide +kernel
theorem dX10_passOn_56 : decode cX10_passOn 56 = .ok (.iaload, 1) := by decide +kernel
theorem dX10_passOn_57 : decode cX10_passOn 57 = .ok (.iastore, 1) := by decide +kernel
theorem dX10_passOn_58 : decode cX10_passOn 58 = .ok (.iinc 2 1, 3) := by decide +kernel
theorem dX10_passOn_61 : decode cX10_passOn 61 = .ok (.goto (-31), 3) := by decide +kernel
theorem dX10_passOn_64 : decode cX10_passOn 64 = .ok (.aload_n 0, 1) := by decide +kernel
theorem dX10_passOn_65 : decode cX10_passOn 65 = .ok (.getfield 19, 3) := by decide +kernel
theorem dX10_passOn_68 : decode cX10_passOn 68 = .ok (.bipush 20, 2) := by decide +kernel
theorem dX10_passOn_70 : decode cX10_passOn 70 = .ok (.iload_n 1, 1) := by decide +kernel
theorem dX10_passOn_71 : decode cX10_passOn 71 = .ok (.imul, 1) := by decide +kernel
theorem dX10_passOn_72 : decode cX10_passOn 72 = .ok (.bipush 19, 2) := by decide +kernel
theorem dX10_passOn_74 : decode cX10_passOn 74 = .ok (.iadd, 1) := by decide +kernel
theorem dX10_passOn_75 : decode cX10_passOn 75 = .ok (.dup2, 1) := by decide +kernel
theorem dX10_passOn_76 : decode cX10_passOn 76 = .ok (.iaload, 1) := by decide +kernel
theorem dX10_passOn_77 : decode cX10_passOn 77 = .ok (.iconst 1, 1) := by decide +kernel
theorem dX10_passOn_78 : decode cX10_passOn 78 = .ok (.iadd, 1) := by decide +kernel
theorem dX10_passOn_79 : decode cX10_passOn 79 = .ok (.iastore, 1) := by decide +kernel
theorem dX10_passOn_80 : decode cX10_passOn 80 = .ok (.return_, 1) := by decide +kernel
theorem dX10_notesOn_0 : decode cX10_notesOn 0 = .ok (.iconst 0, 1) := by decide +kernel
theorem dX10_notesOn_1 : decode cX10_notesOn 1 = .ok (.istore_n 2, 1) := by decide +kernel
theorem dX10_notesOn_2 : decode cX10_notesOn 2 = .ok (.iconst 0, 1) := by decide +kernel
theorem dX10_notesOn_3 : decode cX10_notesOn 3 = .ok (.istore_n 3, 1) := by decide +kernel
theorem dX10_notesOn_4 : decode cX10_notesOn 4 = .ok (.iload_n 3, 1) := by decide +kernel
theorem dX10_notesOn_5 : decode cX10_notesOn 5 = .ok (.aload_n 0, 1) := by decide +kernel
theorem dX10_notesOn_6 : decode cX10_notesOn 6 = .ok (.getfield 96, 3) := by decide +kernel
theorem dX10_notesOn_9 : decode cX10_notesOn 9 = .ok (.if_icmp .ge 43, 3) := by decide +kernel
theorem dX10_notesOn_12 : decode cX10_notesOn 12 = .ok (.iload_n 2, 1) := by decide +kernel
theorem dX10_notesOn_13 : decode cX10_notesOn 13 = .ok (.aload_n 0, 1) := by decide +kernel
theorem dX10_notesOn_14 : decode cX10_notesOn 14 = .ok (.getfield 28, 3) := by decide +kernel
theorem dX10_notesOn_17 : decode cX10_notesOn 17 = .ok (.iload_n 3, 1) := by decide +kernel
theorem dX10_notesOn_18 : decode cX10_notesOn 18 = .ok (.invokestatic 74, 3) := by decide +kernel
theorem dX10_notesOn_21 : decode cX10_notesOn 21 = .ok (.ifCond .eq 22, 3) := by decide +kernel
theorem dX10_notesOn_24 : decode cX10_notesOn 24 = .ok (.iconst 1, 1) := by decide +kernel
theorem dX10_notesOn_25 : decode cX10_notesOn 25 = .ok (.aload_n 0, 1) := by decide +kernel
theorem dX10_notesOn_26 : decode cX10_notesOn 26 = .ok (.getfield 19, 3) := by decide +kernel
theorem dX10_notesOn_29 : decode cX10_notesOn 29 = .ok (.bipush 20, 2) := by decide +kernel
theorem dX10_notesOn_31 : decode cX10_notesOn 31 = .ok (.iload_n 1, 1) := by decide +kernel
theorem dX10_notesOn_32 : decode cX10_notesOn 32 = .ok (.imul, 1) := by decide +kernel
theorem dX10_notesOn_33 : decode cX10_notesOn 33 = .ok (.bipush 12, 2) := by decide +kernel
theorem dX10_notesOn_35 : decode cX10_notesOn 35 = .ok (.iadd, 1) := by decide +kernel
theorem dX10_notesOn_36 : decode cX10_notesOn 36 = .ok (.iload_n 3, 1) := by decide +kernel
theorem dX10_notesOn_37 : decode cX10_notesOn 37 = .ok (.iadd, 1) := by decide +kernel
theorem dX10_notesOn_38 : decode cX10_notesOn 38 = .ok (.iaload, 1) := by decide +kernel
theorem dX10_notesOn_39 : decode cX10_notesOn 39 = .ok (.ishl, 1) := by decide +kernel
theorem dX10_notesOn_40 : decode cX10_notesOn 40 = .ok (.goto 4, 3) := by decide +kernel
theorem dX10_notesOn_43 : decode cX10_notesOn 43 = .ok (.iconst 0, 1) := by decide +kernel
theorem dX10_notesOn_44 : decode cX10_notesOn 44 = .ok (.ior, 1) := by decide +kernel
theorem dX10_notesOn_45 : decode cX10_notesOn 45 = .ok (.istore_n 2, 1) := by decide +kernel
theorem dX10_notesOn_46 : decode cX10_notesOn 46 = .ok (.iinc 3 1, 3) := by decide +kernel
theorem dX10_notesOn_49 : decode cX10_notesOn 49 = .ok (.goto (-45), 3) := by decide +kernel
theorem dX10_notesOn_52 : decode cX10_notesOn 52 = .ok (.iload_n 2, 1) := by decide +kernel
theorem dX10_notesOn_53 : decode cX10_notesOn 53 = .ok (.ireturn, 1) := by decide +kernel
theorem dX10_pitchOn_0 : decode cX10_pitchOn 0 = .ok (.iconst 0, 1) := by decide +kernel
theorem dX10_pitchOn_1 : decode cX10_pitchOn 1 = .ok (.istore_n 2, 1) := by decide +kernel
theorem dX10_pitchOn_2 : decode cX10_pitchOn 2 = .ok (.iload_n 2, 1) := by decide +kernel
theorem dX10_pitchOn_3 : decode cX10_pitchOn 3 = .ok (.aload_n 0, 1) := by decide +kernel
theorem dX10_pitchOn_4 : decode cX10_pitchOn 4 = .ok (.getfield 96, 3) := by decide +kernel
theorem dX10_pitchOn_7 : decode cX10_pitchOn 7 = .ok (.if_icmp .ge 29, 3) := by decide +kernel
theorem dX10_pitchOn_10 : decode cX10_pitchOn 10 = .ok (.aload_n 0, 1) := by decide +kernel
theorem dX10_pitchOn_11 : decode cX10_pitchOn 11 = .ok (.getfield 19, 3) := by decide +kernel
theorem dX10_pitchOn_14 : decode cX10_pitchOn 14 = .ok (.bipush 20, 2) := by decide +kernel
theorem dX10_pitchOn_16 : decode cX10_pitchOn 16 = .ok (.iload_n 1, 1) := by decide +kernel
theorem dX10_pitchOn_17 : decode cX10_pitchOn 17 = .ok (.imul, 1) := by decide +kernel
theorem dX10_pitchOn_18 : decode cX10_pitchOn 18 = .ok (.bipush 12, 2) := by decide +kernel
theorem dX10_pitchOn_20 : decode cX10_pitchOn 20 = .ok (.iadd, 1) := by decide +kernel
theorem dX10_pitchOn_21 : decode cX10_pitchOn 21 = .ok (.iload_n 2, 1) := by decide +kernel
theorem dX10_pitchOn_22 : decode cX10_pitchOn 22 = .ok (.iadd, 1) := by decide +kernel
theorem dX10_pitchOn_23 : decode cX10_pitchOn 23 = .ok (.aload_n 0, 1) := by decide +kernel
theorem dX10_pitchOn_24 : decode cX10_pitchOn 24 = .ok (.getfield 7, 3) := by decide +kernel
theorem dX10_pitchOn_27 : decode cX10_pitchOn 27 = .ok (.iload_n 2, 1) := by decide +kernel
theorem dX10_pitchOn_28 : decode cX10_pitchOn 28 = .ok (.iaload, 1) := by decide +kernel
theorem dX10_pitchOn_29 : decode cX10_pitchOn 29 = .ok (.iastore, 1) := by decide +kernel
theorem dX10_pitchOn_30 : decode cX10_pitchOn 30 = .ok (.iinc 2 1, 3) := by decide +kernel
theorem dX10_pitchOn_33 : decode cX10_pitchOn 33 = .ok (.goto (-31), 3) := by decide +kernel
theorem dX10_pitchOn_36 : decode cX10_pitchOn 36 = .ok (.return_, 1) := by decide +kernel
theorem dX10_singer_0 : decode cX10_singer 0 = .ok (.aload_n 0, 1) := by decide +kernel
theorem dX10_singer_1 : decode cX10_singer 1 = .ok (.iload_n 1, 1) := by decide +kernel
theorem dX10_singer_2 : decode cX10_singer 2 = .ok (.invokevirtual 119, 3) := by decide +kernel
theorem dX10_singer_5 : decode cX10_singer 5 = .ok (.ifCond .ne 5, 3) := by decide +kernel
theorem dX10_singer_8 : decode cX10_singer 8 = .ok (.iconst (-1), 1) := by decide +kernel
theorem dX10_singer_9 : decode cX10_singer 9 = .ok (.ireturn, 1) := by decide +kernel
theorem dX10_singer_10 : decode cX10_singer 10 = .ok (.iload_n 2, 1) := by decide +kernel
theorem dX10_singer_11 : decode cX10_singer 11 = .ok (.tableswitch 123 0 8 #[49, 56, 63, 70, 80, 87, 97, 104, 111], 49) := by decide +kernel
theorem dX10_singer_60 : decode cX10_singer 60 = .ok (.aload_n 0, 1) := by decide +kernel
theorem dX10_singer_61 : decode cX10_singer 61 = .ok (.getfield 19, 3) := by decide +kernel
theorem dX10_singer_64 : decode cX10_singer 64 = .ok (.iload_n 1, 1) := by decide +kernel
theorem dX10_singer_65 : decode cX10_singer 65 = .ok (.iaload, 1) := by decide +kernel
theorem dX10_singer_66 : decode cX10_singer 66 = .ok (.ireturn, 1) := by decide +kernel
theorem dX10_singer_67 : decode cX10_singer 67 = .ok (.aload_n 0, 1) := by decide +kernel
theorem dX10_singer_68 : decode cX10_singer 68 = .ok (.getfield 7, 3) := by decide +kernel
theorem dX10_singer_71 : decode cX10_singer 71 = .ok (.iload_n 1, 1) := by decide +kernel
theorem dX10_singer_72 : decode cX10_singer 72 = .ok (.iaload, 1) := by decide +kernel
theorem dX10_singer_73 : decode cX10_singer 73 = .ok (.ireturn, 1) := by decide +kernel
theorem dX10_singer_74 : decode cX10_singer 74 = .ok (.aload_n 0, 1) := by decide +kernel
theorem dX10_singer_75 : decode cX10_singer 75 = .ok (.getfield 13, 3) := by decide +kernel
theorem dX10_singer_78 : decode cX10_singer 78 = .ok (.iload_n 1, 1) := by decide +kernel
theorem dX10_singer_79 : decode cX10_singer 79 = .ok (.iaload, 1) := by decide +kernel
theorem dX10_singer_80 : decode cX10_singer 80 = .ok (.ireturn, 1) := by decide +kernel
theorem dX10_singer_81 : decode cX10_singer 81 = .ok (.aload_n 0, 1) := by decide +kernel
theorem dX10_singer_82 : decode cX10_singer 82 = .ok (.getfield 19, 3) := by decide +kernel
theorem dX10_singer_85 : decode cX10_singer 85 = .ok (.bipush 6, 2) := by decide +kernel
theorem dX10_singer_87 : decode cX10_singer 87 = .ok (.iload_n 1, 1) := by decide +kernel
theorem dX10_singer_88 : decode cX10_singer 88 = .ok (.iadd, 1) := by decide +kernel
theorem dX10_singer_89 : decode cX10_singer 89 = .ok (.iaload, 1) := by decide +kernel
theorem dX10_singer_90 : decode cX10_singer 90 = .ok (.ireturn, 1) := by decide +kernel
theorem dX10_singer_91 : decode cX10_singer 91 = .ok (.aload_n 0, 1) := by decide +kernel
theorem dX10_singer_92 : decode cX10_singer 92 = .ok (.getfield 16, 3) := by decide +kernel
theorem dX10_singer_95 : decode cX10_singer 95 = .ok (.iload_n 1, 1) := by decide +kernel
theorem dX10_singer_96 : decode cX10_singer 96 = .ok (.iaload, 1) := by decide +kernel
theorem dX10_singer_97 : decode cX10_singer 97 = .ok (.ireturn, 1) := by decide +kernel
theorem dX10_singer_98 : decode cX10_singer 98 = .ok (.aload_n 0, 1) := by decide +kernel
theorem dX10_singer_99 : decode cX10_singer 99 = .ok (.getfield 19, 3) := by decide +kernel
theorem dX10_singer_102 : decode cX10_singer 102 = .ok (.bipush 12, 2) := by decide +kernel
theorem dX10_singer_104 : decode cX10_singer 104 = .ok (.iload_n 1, 1) := by decide +kernel
theorem dX10_singer_105 : decode cX10_singer 105 = .ok (.iadd, 1) := by decide +kernel
theorem dX10_singer_106 : decode cX10_singer 106 = .ok (.iaload, 1) := by decide +kernel
theorem dX10_singer_107 : decode cX10_singer 107 = .ok (.ireturn, 1) := by decide +kernel
theorem dX10_singer_108 : decode cX10_singer 108 = .ok (.aload_n 0, 1) := by decide +kernel
theorem dX10_singer_109 : decode cX10_singer 109 = .ok (.iconst 0, 1) := by decide +kernel
theorem dX10_singer_110 : decode cX10_singer 110 = .ok (.iload_n 1, 1) := by decide +kernel
theorem dX10_singer_111 : decode cX10_singer 111 = .ok (.invokevirtual 110, 3) := by decide +kernel
theorem dX10_singer_114 : decode cX10_singer 114 = .ok (.ireturn, 1) := by decide +kernel
theorem dX10_singer_115 : decode cX10_singer 115 = .ok (.aload_n 0, 1) := by decide +kernel
theorem dX10_singer_116 : decode cX10_singer 116 = .ok (.iconst 0, 1) := by decide +kernel
theorem dX10_singer_117 : decode cX10_singer 117 = .ok (.iload_n 1, 1) := by decide +kernel
theorem dX10_singer_118 : decode cX10_singer 118 = .ok (.invokevirtual 113, 3) := by decide +kernel
theorem dX10_singer_121 : decode cX10_singer 121 = .ok (.ireturn, 1) := by decide +kernel
theorem dX10_singer_122 : decode cX10_singer 122 = .ok (.aload_n 0, 1) := by decide +kernel
theorem dX10_singer_123 : decode cX10_singer 123 = .ok (.getfield 19, 3) := by decide +kernel
theorem dX10_singer_126 : decode cX10_singer 126 = .ok (.bipush 18, 2) := by decide +kernel
theorem dX10_singer_128 : decode cX10_singer 128 = .ok (.iaload, 1) := by decide +kernel
theorem dX10_singer_129 : decode cX10_singer 129 = .ok (.iload_n 1, 1) := by decide +kernel
theorem dX10_singer_130 : decode cX10_singer 130 = .ok (.ishr, 1) := by decide +kernel
theorem dX10_singer_131 : decode cX10_singer 131 = .ok (.iconst 1, 1) := by decide +kernel
theorem dX10_singer_132 : decode cX10_singer 132 = .ok (.iand, 1) := by decide +kernel
theorem dX10_singer_133 : decode cX10_singer 133 = .ok (.ireturn, 1) := by decide +kernel
theorem dX10_singer_134 : decode cX10_singer 134 = .ok (.bipush (-2), 2) := by decide +kernel
theorem dX10_singer_136 : decode cX10_singer 136 = .ok (.ireturn, 1) := by decide +kernel
theorem dX10_whoAt_0 : decode cX10_whoAt 0 = .ok (.iconst 0, 1) := by decide +kernel
theorem dX10_whoAt_1 : decode cX10_whoAt 1 = .ok (.istore_n 2, 1) := by decide +kernel
theorem dX10_whoAt_2 : decode cX10_whoAt 2 = .ok (.iload_n 2, 1) := by decide +kernel
theorem dX10_whoAt_3 : decode cX10_whoAt 3 = .ok (.aload_n 0, 1) := by decide +kernel
theorem dX10_whoAt_4 : decode cX10_whoAt 4 = .ok (.getfield 96, 3) := by decide +kernel
theorem dX10_whoAt_7 : decode cX10_whoAt 7 = .ok (.if_icmp .ge 21, 3) := by decide +kernel
theorem dX10_whoAt_10 : decode cX10_whoAt 10 = .ok (.aload_n 0, 1) := by decide +kernel
theorem dX10_whoAt_11 : decode cX10_whoAt 11 = .ok (.getfield 19, 3) := by decide +kernel
theorem dX10_whoAt_14 : decode cX10_whoAt 14 = .ok (.iload_n 2, 1) := by decide +kernel
theorem dX10_whoAt_15 : decode cX10_whoAt 15 = .ok (.iaload, 1) := by decide +kernel
theorem dX10_whoAt_16 : decode cX10_whoAt 16 = .ok (.iload_n 1, 1) := by decide +kernel
theorem dX10_whoAt_17 : decode cX10_whoAt 17 = .ok (.if_icmp .ne 5, 3) := by decide +kernel
theorem dX10_whoAt_20 : decode cX10_whoAt 20 = .ok (.iload_n 2, 1) := by decide +kernel
theorem dX10_whoAt_21 : decode cX10_whoAt 21 = .ok (.ireturn, 1) := by decide +kernel
theorem dX10_whoAt_22 : decode cX10_whoAt 22 = .ok (.iinc 2 1, 3) := by decide +kernel
theorem dX10_whoAt_25 : decode cX10_whoAt 25 = .ok (.goto (-23), 3) := by decide +kernel
theorem dX10_whoAt_28 : decode cX10_whoAt 28 = .ok (.bipush (-9), 2) := by decide +kernel
theorem dX10_whoAt_30 : decode cX10_whoAt 30 = .ok (.ireturn, 1) := by decide +kernel
theorem dX10_seat_0 : decode cX10_seat 0 = .ok (.iload_n 1, 1) := by decide +kernel
theorem dX10_seat_1 : decode cX10_seat 1 = .ok (.i2l, 1) := by decide +kernel
theorem dX10_seat_2 : decode cX10_seat 2 = .ok (.lconst 0, 1) := by decide +kernel
theorem dX10_seat_3 : decode cX10_seat 3 = .ok (.ldc2_w 123, 3) := by decide +kernel
theorem dX10_seat_6 : decode cX10_seat 6 = .ok (.invokestatic 59, 3) := by decide +kernel
theorem dX10_seat_9 : decode cX10_seat 9 = .ok (.ifCond .eq 11, 3) := by decide +kernel
theorem dX10_seat_12 : decode cX10_seat 12 = .ok (.aload_n 0, 1) := by decide +kernel
theorem dX10_seat_13 : decode cX10_seat 13 = .ok (.iload_n 1, 1) := by decide +kernel
theorem dX10_seat_14 : decode cX10_seat 14 = .ok (.invokevirtual 125, 3) := by decide +kernel
theorem dX10_seat_17 : decode cX10_seat 17 = .ok (.goto 4, 3) := by decide +kernel
theorem dX10_seat_20 : decode cX10_seat 20 = .ok (.iconst (-1), 1) := by decide +kernel
theorem dX10_seat_21 : decode cX10_seat 21 = .ok (.ireturn, 1) := by decide +kernel
theorem dX10_keepAct_0 : decode cX10_keepAct 0 = .ok (.iconst 0, 1) := by decide +kernel
theorem dX10_keepAct_1 : decode cX10_keepAct 1 = .ok (.istore_n 1, 1) := by decide +kernel
theorem dX10_keepAct_2 : decode cX10_keepAct 2 = .ok (.iload_n 1, 1) := by decide +kernel
theorem dX10_keepAct_3 : decode cX10_keepAct 3 = .ok (.bipush 20, 2) := by decide +kernel
theorem dX10_keepAct_5 : decode cX10_keepAct 5 = .ok (.if_icmp .ge 29, 3) := by decide +kernel
theorem dX10_keepAct_8 : decode cX10_keepAct 8 = .ok (.aload_n 0, 1) := by decide +kernel
theorem dX10_keepAct_9 : decode cX10_keepAct 9 = .ok (.getfield 35, 3) := by decide +kernel
theorem dX10_keepAct_12 : decode cX10_keepAct 12 = .ok (.bipush 20, 2) := by decide +kernel
theorem dX10_keepAct_14 : decode cX10_keepAct 14 = .ok (.aload_n 0, 1) := by decide +kernel
theorem dX10_keepAct_15 : decode cX10_keepAct 15 = .ok (.getfield 128, 3) := by decide +kernel
theorem dX10_keepAct_18 : decode cX10_keepAct 18 = .ok (.imul, 1) := by decide +kernel
theorem dX10_keepAct_19 : decode cX10_keepAct 19 = .ok (.iload_n 1, 1) := by decide +kernel
theorem dX10_keepAct_20 : decode cX10_keepAct 20 = .ok (.iadd, 1) := by decide +kernel
theorem dX10_keepAct_21 : decode cX10_keepAct 21 = .ok (.aload_n 0, 1) := by decide +kernel
theorem dX10_keepAct_22 : decode cX10_keepAct 22 = .ok (.getfield 19, 3) := by decide +kernel
theorem dX10_keepAct_25 : decode cX10_keepAct 25 = .ok (.iload_n 1, 1) := by decide +kernel
theorem dX10_keepAct_26 : decode cX10_keepAct 26 = .ok (.iaload, 1) := by decide +kernel
theorem dX10_keepAct_27 : decode cX10_keepAct 27 = .ok (.iastore, 1) := by decide +kernel
theorem dX10_keepAct_28 : decode cX10_keepAct 28 = .ok (.iinc 1 1, 3) := by decide +kernel
theorem dX10_keepAct_31 : decode cX10_keepAct 31 = .ok (.goto (-29), 3) := by decide +kernel
theorem dX10_keepAct_34 : decode cX10_keepAct 34 = .ok (.aload_n 0, 1) := by decide +kernel
theorem dX10_keepAct_35 : decode cX10_keepAct 35 = .ok (.aload_n 0, 1) := by decide +kernel
theorem dX10_keepAct_36 : decode cX10_keepAct 36 = .ok (.getfield 128, 3) := by decide +kernel
theorem dX10_keepAct_39 : decode cX10_keepAct 39 = .ok (.iconst 1, 1) := by decide +kernel
theorem dX10_keepAct_40 : decode cX10_keepAct 40 = .ok (.iadd, 1) := by decide +kernel
theorem dX10_keepAct_41 : decode cX10_keepAct 41 = .ok (.bipush 14, 2) := by decide +kernel
theorem dX10_keepAct_43 : decode cX10_keepAct 43 = .ok (.irem, 1) := by decide +kernel
theorem dX10_keepAct_44 : decode cX10_keepAct 44 = .ok (.putfield 128, 3) := by decide +kernel
theorem dX10_keepAct_47 : decode cX10_keepAct 47 = .ok (.aload_n 0, 1) := by decide +kernel
theorem dX10_keepAct_48 : decode cX10_keepAct 48 = .ok (.aload_n 0, 1) := by decide +kernel
theorem dX10_keepAct_49 : decode cX10_keepAct 49 = .ok (.getfield 99, 3) := by decide +kernel
theorem dX10_keepAct_52 : decode cX10_keepAct 52 = .ok (.bipush 14, 2) := by decide +kernel
theorem dX10_keepAct_54 : decode cX10_keepAct 54 = .ok (.if_icmp .ge 12, 3) := by decide +kernel
theorem dX10_keepAct_57 : decode cX10_keepAct 57 = .ok (.aload_n 0, 1) := by decide +kernel
theorem dX10_keepAct_58 : decode cX10_keepAct 58 = .ok (.getfield 99, 3) := by decide +kernel
theorem dX10_keepAct_61 : decode cX10_keepAct 61 = .ok (.iconst 1, 1) := by decide +kernel
theorem dX10_keepAct_62 : decode cX10_keepAct 62 = .ok (.iadd, 1) := by decide +kernel
theorem dX10_keepAct_63 : decode cX10_keepAct 63 = .ok (.goto 5, 3) := by decide +kernel
theorem dX10_keepAct_66 : decode cX10_keepAct 66 = .ok (.bipush 14, 2) := by decide +kernel
theorem dX10_keepAct_68 : decode cX10_keepAct 68 = .ok (.putfield 99, 3) := by decide +kernel
theorem dX10_keepAct_71 : decode cX10_keepAct 71 = .ok (.return_, 1) := by decide +kernel
theorem dX10_bar_0 : decode cX10_bar 0 = .ok (.aload_n 0, 1) := by decide +kernel
theorem dX10_bar_1 : decode cX10_bar 1 = .ok (.invokevirtual 131, 3) := by decide +kernel
theorem dX10_bar_4 : decode cX10_bar 4 = .ok (.aload_n 0, 1) := by decide +kernel
theorem dX10_bar_5 : decode cX10_bar 5 = .ok (.iconst 0, 1) := by decide +kernel
theorem dX10_bar_6 : decode cX10_bar 6 = .ok (.invokevirtual 134, 3) := by decide +kernel
theorem dX10_bar_9 : decode cX10_bar 9 = .ok (.aload_n 0, 1) := by decide +kernel
theorem dX10_bar_10 : decode cX10_bar 10 = .ok (.iconst 0, 1) := by decide +kernel
theorem dX10_bar_11 : decode cX10_bar 11 = .ok (.invokevirtual 137, 3) := by decide +kernel
theorem dX10_bar_14 : decode cX10_bar 14 = .ok (.invokestatic 140, 3) := by decide +kernel
theorem dX10_bar_17 : decode cX10_bar 17 = .ok (.ireturn, 1) := by decide +kernel
theorem dX10_giveOn_0 : decode cX10_giveOn 0 = .ok (.bipush 20, 2) := by decide +kernel
theorem dX10_giveOn_2 : decode cX10_giveOn 2 = .ok (.iload_n 1, 1) := by decide +kernel
theorem dX10_giveOn_3 : decode cX10_giveOn 3 = .ok (.imul, 1) := by decide +kernel
theorem dX10_giveOn_4 : decode cX10_giveOn 4 = .ok (.bipush 6, 2) := by decide +kernel
theorem dX10_giveOn_6 : decode cX10_giveOn 6 = .ok (.iadd, 1) := by decide +kernel
theorem dX10_giveOn_7 : decode cX10_giveOn 7 = .ok (.iload_n 2, 1) := by decide +kernel
theorem dX10_giveOn_8 : decode cX10_giveOn 8 = .ok (.iadd, 1) := by decide +kernel
theorem dX10_giveOn_9 : decode cX10_giveOn 9 = .ok (.istore 4, 2) := by decide +kernel
theorem dX10_giveOn_11 : decode cX10_giveOn 11 = .ok (.aload_n 0, 1) := by decide +kernel
theorem dX10_giveOn_12 : decode cX10_giveOn 12 = .ok (.getfield 19, 3) := by decide +kernel
theorem dX10_giveOn_15 : decode cX10_giveOn 15 = .ok (.iload 4, 2) := by decide +kernel
theorem dX10_giveOn_17 : decode cX10_giveOn 17 = .ok (.aload_n 0, 1) := by decide +kernel
theorem dX10_giveOn_18 : decode cX10_giveOn 18 = .ok (.getfield 19, 3) := by decide +kernel
theorem dX10_giveOn_21 : decode cX10_giveOn 21 = .ok (.iload 4, 2) := by decide +kernel
theorem dX10_giveOn_23 : decode cX10_giveOn 23 = .ok (.iaload, 1) := by decide +kernel
theorem dX10_giveOn_24 : decode cX10_giveOn 24 = .ok (.iload_n 3, 1) := by decide +kernel
theorem dX10_giveOn_25 : decode cX10_giveOn 25 = .ok (.iadd, 1) := by decide +kernel
theorem dX10_giveOn_26 : decode cX10_giveOn 26 = .ok (.bipush 99, 2) := by decide +kernel
theorem dX10_giveOn_28 : decode cX10_giveOn 28 = .ok (.if_icmp .le 8, 3) := by decide +kernel
theorem dX10_giveOn_31 : decode cX10_giveOn 31 = .ok (.bipush 99, 2) := by decide +kernel
theorem dX10_giveOn_33 : decode cX10_giveOn 33 = .ok (.goto 12, 3) := by decide +kernel
theorem dX10_giveOn_36 : decode cX10_giveOn 36 = .ok (.aload_n 0, 1) := by decide +kernel
theorem dX10_giveOn_37 : decode cX10_giveOn 37 = .ok (.getfield 19, 3) := by decide +kernel
theorem dX10_giveOn_40 : decode cX10_giveOn 40 = .ok (.iload 4, 2) := by decide +kernel
theorem dX10_giveOn_42 : decode cX10_giveOn 42 = .ok (.iaload, 1) := by decide +kernel
theorem dX10_giveOn_43 : decode cX10_giveOn 43 = .ok (.iload_n 3, 1) := by decide +kernel
theorem dX10_giveOn_44 : decode cX10_giveOn 44 = .ok (.iadd, 1) := by decide +kernel
theorem dX10_giveOn_45 : decode cX10_giveOn 45 = .ok (.iastore, 1) := by decide +kernel
theorem dX10_giveOn_46 : decode cX10_giveOn 46 = .ok (.return_, 1) := by decide +kernel
theorem dX10_gift_0 : decode cX10_gift 0 = .ok (.aload_n 0, 1) := by decide +kernel
theorem dX10_gift_1 : decode cX10_gift 1 = .ok (.iload_n 1, 1) := by decide +kernel
theorem dX10_gift_2 : decode cX10_gift 2 = .ok (.invokevirtual 119, 3) := by decide +kernel
theorem dX10_gift_5 : decode cX10_gift 5 = .ok (.ifCond .ne 5, 3) := by decide +kernel
theorem dX10_gift_8 : decode cX10_gift 8 = .ok (.iconst (-1), 1) := by decide +kernel
theorem dX10_gift_9 : decode cX10_gift 9 = .ok (.ireturn, 1) := by decide +kernel
theorem dX10_gift_10 : decode cX10_gift 10 = .ok (.iload_n 2, 1) := by decide +kernel
theorem dX10_gift_11 : decode cX10_gift 11 = .ok (.i2l, 1) := by decide +kernel
theorem dX10_gift_12 : decode cX10_gift 12 = .ok (.lconst 1, 1) := by decide +kernel
theorem dX10_gift_13 : decode cX10_gift 13 = .ok (.ldc2_w 72, 3) := by decide +kernel
theorem dX10_gift_16 : decode cX10_gift 16 = .ok (.invokestatic 59, 3) := by decide +kernel
theorem dX10_gift_19 : decode cX10_gift 19 = .ok (.ifCond .ne 6, 3) := by decide +kernel
theorem dX10_gift_22 : decode cX10_gift 22 = .ok (.bipush (-2), 2) := by decide +kernel
theorem dX10_gift_24 : decode cX10_gift 24 = .ok (.ireturn, 1) := by decide +kernel
theorem dX10_gift_25 : decode cX10_gift 25 = .ok (.aload_n 0, 1) := by decide +kernel
theorem dX10_gift_26 : decode cX10_gift 26 = .ok (.invokevirtual 131, 3) := by decide +kernel
theorem dX10_gift_29 : decode cX10_gift 29 = .ok (.aload_n 0, 1) := by decide +kernel
theorem dX10_gift_30 : decode cX10_gift 30 = .ok (.iconst 0, 1) := by decide +kernel
theorem dX10_gift_31 : decode cX10_gift 31 = .ok (.iload_n 1, 1) := by decide +kernel
theorem dX10_gift_32 : decode cX10_gift 32 = .ok (.iload_n 2, 1) := by decide +kernel
theorem dX10_gift_33 : decode cX10_gift 33 = .ok (.invokevirtual 143, 3) := by decide +kernel
theorem dX10_gift_36 : decode cX10_gift 36 = .ok (.aload_n 0, 1) := by decide +kernel
theorem dX10_gift_37 : decode cX10_gift 37 = .ok (.getfield 19, 3) := by decide +kernel
theorem dX10_gift_40 : decode cX10_gift 40 = .ok (.bipush 6, 2) := by decide +kernel
theorem dX10_gift_42 : decode cX10_gift 42 = .ok (.iload_n 1, 1) := by decide +kernel
theorem dX10_gift_43 : decode cX10_gift 43 = .ok (.iadd, 1) := by decide +kernel
theorem dX10_gift_44 : decode cX10_gift 44 = .ok (.iaload, 1) := by decide +kernel
theorem dX10_gift_45 : decode cX10_gift 45 = .ok (.ireturn, 1) := by decide +kernel
theorem dX10_changeOn_0 : decode cX10_changeOn 0 = .ok (.aload_n 0, 1) := by decide +kernel
theorem dX10_changeOn_1 : decode cX10_changeOn 1 = .ok (.getfield 19, 3) := by decide +kernel
theorem dX10_changeOn_4 : decode cX10_changeOn 4 = .ok (.bipush 20, 2) := by decide +kernel
theorem dX10_changeOn_6 : decode cX10_changeOn 6 = .ok (.iload_n 1, 1) := by decide +kernel
theorem dX10_changeOn_7 : decode cX10_changeOn 7 = .ok (.imul, 1) := by decide +kernel
theorem dX10_changeOn_8 : decode cX10_changeOn 8 = .ok (.iload_n 2, 1) := by decide +kernel
theorem dX10_changeOn_9 : decode cX10_changeOn 9 = .ok (.iadd, 1) := by decide +kernel
theorem dX10_changeOn_10 : decode cX10_changeOn 10 = .ok (.iaload, 1) := by decide +kernel
theorem dX10_changeOn_11 : decode cX10_changeOn 11 = .ok (.istore 4, 2) := by decide +kernel
theorem dX10_changeOn_13 : decode cX10_changeOn 13 = .ok (.aload_n 0, 1) := by decide +kernel
theorem dX10_changeOn_14 : decode cX10_changeOn 14 = .ok (.getfield 19, 3) := by decide +kernel
theorem dX10_changeOn_17 : decode cX10_changeOn 17 = .ok (.bipush 20, 2) := by decide +kernel
theorem dX10_changeOn_19 : decode cX10_changeOn 19 = .ok (.iload_n 1, 1) := by decide +kernel
theorem dX10_changeOn_20 : decode cX10_changeOn 20 = .ok (.imul, 1) := by decide +kernel
theorem dX10_changeOn_21 : decode cX10_changeOn 21 = .ok (.iload_n 2, 1) := by decide +kernel
theorem dX10_changeOn_22 : decode cX10_changeOn 22 = .ok (.iadd, 1) := by decide +kernel
theorem dX10_changeOn_23 : decode cX10_changeOn 23 = .ok (.aload_n 0, 1) := by decide +kernel
theorem dX10_changeOn_24 : decode cX10_changeOn 24 = .ok (.getfield 19, 3) := by decide +kernel
theorem dX10_changeOn_27 : decode cX10_changeOn 27 = .ok (.bipush 20, 2) := by decide +kernel
theorem dX10_changeOn_29 : decode cX10_changeOn 29 = .ok (.iload_n 1, 1) := by decide +kernel
theorem dX10_changeOn_30 : decode cX10_changeOn 30 = .ok (.imul, 1) := by decide +kernel
theorem dX10_changeOn_31 : decode cX10_changeOn 31 = .ok (.iload_n 3, 1) := by decide +kernel
theorem dX10_changeOn_32 : decode cX10_changeOn 32 = .ok (.iadd, 1) := by decide +kernel
theorem dX10_changeOn_33 : decode cX10_changeOn 33 = .ok (.iaload, 1) := by decide +kernel
theorem dX10_changeOn_34 : decode cX10_changeOn 34 = .ok (.iastore, 1) := by decide +kernel
theorem dX10_changeOn_35 : decode cX10_changeOn 35 = .ok (.aload_n 0, 1) := by decide +kernel
theorem dX10_changeOn_36 : decode cX10_changeOn 36 = .ok (.getfield 19, 3) := by decide +kernel
theorem dX10_changeOn_39 : decode cX10_changeOn 39 = .ok (.bipush 20, 2) := by decide +kernel
theorem dX10_changeOn_41 : decode cX10_changeOn 41 = .ok (.iload_n 1, 1) := by decide +kernel
theorem dX10_changeOn_42 : decode cX10_changeOn 42 = .ok (.imul, 1) := by decide +kernel
theorem dX10_changeOn_43 : decode cX10_changeOn 43 = .ok (.iload_n 3, 1) := by decide +kernel
theorem dX10_changeOn_44 : decode cX10_changeOn 44 = .ok (.iadd, 1) := by decide +kernel
theorem dX10_changeOn_45 : decode cX10_changeOn 45 = .ok (.iload 4, 2) := by decide +kernel
theorem dX10_changeOn_47 : decode cX10_changeOn 47 = .ok (.iastore, 1) := by decide +kernel
theorem dX10_changeOn_48 : decode cX10_changeOn 48 = .ok (.return_, 1) := by decide +kernel
theorem dX10_change_0 : decode cX10_change 0 = .ok (.aload_n 0, 1) := by decide +kernel
theorem dX10_change_1 : decode cX10_change 1 = .ok (.iload_n 1, 1) := by decide +kernel
theorem dX10_change_2 : decode cX10_change 2 = .ok (.invokevirtual 119, 3) := by decide +kernel
theorem dX10_change_5 : decode cX10_change 5 = .ok (.ifCond .eq 11, 3) := by decide +kernel
theorem dX10_change_8 : decode cX10_change 8 = .ok (.aload_n 0, 1) := by decide +kernel
theorem dX10_change_9 : decode cX10_change 9 = .ok (.iload_n 2, 1) := by decide +kernel
theorem dX10_change_10 : decode cX10_change 10 = .ok (.invokevirtual 119, 3) := by decide +kernel
theorem dX10_change_13 : decode cX10_change 13 = .ok (.ifCond .ne 5, 3) := by decide +kernel
theorem dX10_change_16 : decode cX10_change 16 = .ok (.iconst (-1), 1) := by decide +kernel
theorem dX10_change_17 : decode cX10_change 17 = .ok (.ireturn, 1) := by decide +kernel
theorem dX10_change_18 : decode cX10_change 18 = .ok (.iload_n 1, 1) := by decide +kernel
theorem dX10_change_19 : decode cX10_change 19 = .ok (.iload_n 2, 1) := by decide +kernel
theorem dX10_change_20 : decode cX10_change 20 = .ok (.if_icmp .ne 6, 3) := by decide +kernel
theorem dX10_change_23 : decode cX10_change 23 = .ok (.bipush (-2), 2) := by decide +kernel
theorem dX10_change_25 : decode cX10_change 25 = .ok (.ireturn, 1) := by decide +kernel
theorem dX10_change_26 : decode cX10_change 26 = .ok (.aload_n 0, 1) := by decide +kernel
theorem dX10_change_27 : decode cX10_change 27 = .ok (.invokevirtual 131, 3) := by decide +kernel
theorem dX10_change_30 : decode cX10_change 30 = .ok (.aload_n 0, 1) := by decide +kernel
theorem dX10_change_31 : decode cX10_change 31 = .ok (.iconst 0, 1) := by decide +kernel
theorem dX10_change_32 : decode cX10_change 32 = .ok (.iload_n 1, 1) := by decide +kernel
theorem dX10_change_33 : decode cX10_change 33 = .ok (.iload_n 2, 1) := by decide +kernel
theorem dX10_change_34 : decode cX10_change 34 = .ok (.invokevirtual 147, 3) := by decide +kernel
theorem dX10_change_37 : decode cX10_change 37 = .ok (.aload_n 0, 1) := by decide +kernel
theorem dX10_change_38 : decode cX10_change 38 = .ok (.getfield 19, 3) := by decide +kernel
theorem dX10_change_41 : decode cX10_change 41 = .ok (.iload_n 1, 1) := by decide +kernel
theorem dX10_change_42 : decode cX10_change 42 = .ok (.iaload, 1) := by decide +kernel
theorem dX10_change_43 : decode cX10_change 43 = .ok (.ireturn, 1) := by decide +kernel
theorem dX10_pitch_0 : decode cX10_pitch 0 = .ok (.aload_n 0, 1) := by decide +kernel
theorem dX10_pitch_1 : decode cX10_pitch 1 = .ok (.invokevirtual 131, 3) := by decide +kernel
theorem dX10_pitch_4 : decode cX10_pitch 4 = .ok (.aload_n 0, 1) := by decide +kernel
theorem dX10_pitch_5 : decode cX10_pitch 5 = .ok (.iconst 0, 1) := by decide +kernel
theorem dX10_pitch_6 : decode cX10_pitch 6 = .ok (.invokevirtual 150, 3) := by decide +kernel
theorem dX10_pitch_9 : decode cX10_pitch 9 = .ok (.aload_n 0, 1) := by decide +kernel
theorem dX10_pitch_10 : decode cX10_pitch 10 = .ok (.iconst 0, 1) := by decide +kernel
theorem dX10_pitch_11 : decode cX10_pitch 11 = .ok (.invokevirtual 137, 3) := by decide +kernel
theorem dX10_pitch_14 : decode cX10_pitch 14 = .ok (.invokestatic 140, 3) := by decide +kernel
theorem dX10_pitch_17 : decode cX10_pitch 17 = .ok (.ireturn, 1) := by decide +kernel
theorem dX10_hold_0 : decode cX10_hold 0 = .ok (.aload_n 0, 1) := by decide +kernel
theorem dX10_hold_1 : decode cX10_hold 1 = .ok (.iload_n 1, 1) := by decide +kernel
theorem dX10_hold_2 : decode cX10_hold 2 = .ok (.invokevirtual 119, 3) := by decide +kernel
theorem dX10_hold_5 : decode cX10_hold 5 = .ok (.ifCond .ne 5, 3) := by decide +kernel
theorem dX10_hold_8 : decode cX10_hold 8 = .ok (.iconst (-1), 1) := by decide +kernel
theorem dX10_hold_9 : decode cX10_hold 9 = .ok (.ireturn, 1) := by decide +kernel
theorem dX10_hold_10 : decode cX10_hold 10 = .ok (.aload_n 0, 1) := by decide +kernel
theorem dX10_hold_11 : decode cX10_hold 11 = .ok (.invokevirtual 131, 3) := by decide +kernel
theorem dX10_hold_14 : decode cX10_hold 14 = .ok (.aload_n 0, 1) := by decide +kernel
theorem dX10_hold_15 : decode cX10_hold 15 = .ok (.getfield 19, 3) := by decide +kernel
theorem dX10_hold_18 : decode cX10_hold 18 = .ok (.bipush 18, 2) := by decide +kernel
theorem dX10_hold_20 : decode cX10_hold 20 = .ok (.dup2, 1) := by decide +kernel
theorem dX10_hold_21 : decode cX10_hold 21 = .ok (.iaload, 1) := by decide +kernel
theorem dX10_hold_22 : decode cX10_hold 22 = .ok (.iconst 1, 1) := by decide +kernel
theorem dX10_hold_23 : decode cX10_hold 23 = .ok (.iload_n 1, 1) := by decide +kernel
theorem dX10_hold_24 : decode cX10_hold 24 = .ok (.ishl, 1) := by decide +kernel
theorem dX10_hold_25 : decode cX10_hold 25 = .ok (.ixor, 1) := by decide +kernel
theorem dX10_hold_26 : decode cX10_hold 26 = .ok (.iastore, 1) := by decide +kernel
theorem dX10_hold_27 : decode cX10_hold 27 = .ok (.aload_n 0, 1) := by decide +kernel
theorem dX10_hold_28 : decode cX10_hold 28 = .ok (.getfield 19, 3) := by decide +kernel
theorem dX10_hold_31 : decode cX10_hold 31 = .ok (.bipush 18, 2) := by decide +kernel
theorem dX10_hold_33 : decode cX10_hold 33 = .ok (.iaload, 1) := by decide +kernel
theorem dX10_hold_34 : decode cX10_hold 34 = .ok (.iload_n 1, 1) := by decide +kernel
theorem dX10_hold_35 : decode cX10_hold 35 = .ok (.ishr, 1) := by decide +kernel
theorem dX10_hold_36 : decode cX10_hold 36 = .ok (.iconst 1, 1) := by decide +kernel
theorem dX10_hold_37 : decode cX10_hold 37 = .ok (.iand, 1) := by decide +kernel
theorem dX10_hold_38 : decode cX10_hold 38 = .ok (.ireturn, 1) := by decide +kernel
theorem dX10_undo_0 : decode cX10_undo 0 = .ok (.aload_n 0, 1) := by decide +kernel
theorem dX10_undo_1 : decode cX10_undo 1 = .ok (.getfield 99, 3) := by decide +kernel
theorem dX10_undo_4 : decode cX10_undo 4 = .ok (.ifCond .ne 6, 3) := by decide +kernel
theorem dX10_undo_7 : decode cX10_undo 7 = .ok (.bipush (-3), 2) := by decide +kernel
theorem dX10_undo_9 : decode cX10_undo 9 = .ok (.ireturn, 1) := by decide +kernel
theorem dX10_undo_10 : decode cX10_undo 10 = .ok (.aload_n 0, 1) := by decide +kernel
theorem dX10_undo_11 : decode cX10_undo 11 = .ok (.dup, 1) := by decide +kernel
theorem dX10_undo_12 : decode cX10_undo 12 = .ok (.getfield 99, 3) := by decide +kernel
theorem dX10_undo_15 : decode cX10_undo 15 = .ok (.iconst 1, 1) := by decide +kernel
theorem dX10_undo_16 : decode cX10_undo 16 = .ok (.isub, 1) := by decide +kernel
theorem dX10_undo_17 : decode cX10_undo 17 = .ok (.putfield 99, 3) := by decide +kernel
theorem dX10_undo_20 : decode cX10_undo 20 = .ok (.aload_n 0, 1) := by decide +kernel
theorem dX10_undo_21 : decode cX10_undo 21 = .ok (.aload_n 0, 1) := by decide +kernel
theorem dX10_undo_22 : decode cX10_undo 22 = .ok (.getfield 128, 3) := by decide +kernel
theorem dX10_undo_25 : decode cX10_undo 25 = .ok (.bipush 13, 2) := by decide +kernel
theorem dX10_undo_27 : decode cX10_undo 27 = .ok (.iadd, 1) := by decide +kernel
theorem dX10_undo_28 : decode cX10_undo 28 = .ok (.bipush 14, 2) := by decide +kernel
theorem dX10_undo_30 : decode cX10_undo 30 = .ok (.irem, 1) := by decide +kernel
theorem dX10_undo_31 : decode cX10_undo 31 = .ok (.putfield 128, 3) := by decide +kernel
theorem dX10_undo_34 : decode cX10_undo 34 = .ok (.iconst 0, 1) := by decide +kernel
theorem dX10_undo_35 : decode cX10_undo 35 = .ok (.istore_n 1, 1) := by decide +kernel
theorem dX10_undo_36 : decode cX10_undo 36 = .ok (.iload_n 1, 1) := by decide +kernel
theorem dX10_undo_37 : decode cX10_undo 37 = .ok (.bipush 20, 2) := by decide +kernel
theorem dX10_undo_39 : decode cX10_undo 39 = .ok (.if_icmp .ge 29, 3) := by decide +kernel
theorem dX10_undo_42 : decode cX10_undo 42 = .ok (.aload_n 0, 1) := by decide +kernel
theorem dX10_undo_43 : decode cX10_undo 43 = .ok (.getfield 19, 3) := by decide +kernel
theorem dX10_undo_46 : decode cX10_undo 46 = .ok (.iload_n 1, 1) := by decide +kernel
theorem dX10_undo_47 : decode cX10_undo 47 = .ok (.aload_n 0, 1) := by decide +kernel
theorem dX10_undo_48 : decode cX10_undo 48 = .ok (.getfield 35, 3) := by decide +kernel
theorem dX10_undo_51 : decode cX10_undo 51 = .ok (.bipush 20, 2) := by decide +kernel
theorem dX10_undo_53 : decode cX10_undo 53 = .ok (.aload_n 0, 1) := by decide +kernel
theorem dX10_undo_54 : decode cX10_undo 54 = .ok (.getfield 128, 3) := by decide +kernel
theorem dX10_undo_57 : decode cX10_undo 57 = .ok (.imul, 1) := by decide +kernel
theorem dX10_undo_58 : decode cX10_undo 58 = .ok (.iload_n 1, 1) := by decide +kernel
theorem dX10_undo_59 : decode cX10_undo 59 = .ok (.iadd, 1) := by decide +kernel
theorem dX10_undo_60 : decode cX10_undo 60 = .ok (.iaload, 1) := by decide +kernel
theorem dX10_undo_61 : decode cX10_undo 61 = .ok (.iastore, 1) := by decide +kernel
theorem dX10_undo_62 : decode cX10_undo 62 = .ok (.iinc 1 1, 3) := by decide +kernel
theorem dX10_undo_65 : decode cX10_undo 65 = .ok (.goto (-29), 3) := by decide +kernel
theorem dX10_undo_68 : decode cX10_undo 68 = .ok (.aload_n 0, 1) := by decide +kernel
theorem dX10_undo_69 : decode cX10_undo 69 = .ok (.getfield 99, 3) := by decide +kernel
theorem dX10_undo_72 : decode cX10_undo 72 = .ok (.ireturn, 1) := by decide +kernel
theorem dX10_layTrial_0 : decode cX10_layTrial 0 = .ok (.iconst 0, 1) := by decide +kernel
theorem dX10_layTrial_1 : decode cX10_layTrial 1 = .ok (.istore_n 1, 1) := by decide +kernel
theorem dX10_layTrial_2 : decode cX10_layTrial 2 = .ok (.iload_n 1, 1) := by decide +kernel
theorem dX10_layTrial_3 : decode cX10_layTrial 3 = .ok (.bipush 20, 2) := by decide +kernel
theorem dX10_layTrial_5 : decode cX10_layTrial 5 = .ok (.if_icmp .ge 24, 3) := by decide +kernel
theorem dX10_layTrial_8 : decode cX10_layTrial 8 = .ok (.aload_n 0, 1) := by decide +kernel
theorem dX10_layTrial_9 : decode cX10_layTrial 9 = .ok (.getfield 19, 3) := by decide +kernel
theorem dX10_layTrial_12 : decode cX10_layTrial 12 = .ok (.bipush 20, 2) := by decide +kernel
theorem dX10_layTrial_14 : decode cX10_layTrial 14 = .ok (.iload_n 1, 1) := by decide +kernel
theorem dX10_layTrial_15 : decode cX10_layTrial 15 = .ok (.iadd, 1) := by decide +kernel
theorem dX10_layTrial_16 : decode cX10_layTrial 16 = .ok (.aload_n 0, 1) := by decide +kernel
theorem dX10_layTrial_17 : decode cX10_layTrial 17 = .ok (.getfield 19, 3) := by decide +kernel
theorem dX10_layTrial_20 : decode cX10_layTrial 20 = .ok (.iload_n 1, 1) := by decide +kernel
theorem dX10_layTrial_21 : decode cX10_layTrial 21 = .ok (.iaload, 1) := by decide +kernel
theorem dX10_layTrial_22 : decode cX10_layTrial 22 = .ok (.iastore, 1) := by decide +kernel
theorem dX10_layTrial_23 : decode cX10_layTrial 23 = .ok (.iinc 1 1, 3) := by decide +kernel
theorem dX10_layTrial_26 : decode cX10_layTrial 26 = .ok (.goto (-24), 3) := by decide +kernel
theorem dX10_layTrial_29 : decode cX10_layTrial 29 = .ok (.return_, 1) := by decide +kernel
theorem dX10_goOn_0 : decode cX10_goOn 0 = .ok (.iconst 0, 1) := by decide +kernel
theorem dX10_goOn_1 : decode cX10_goOn 1 = .ok (.istore_n 2, 1) := by decide +kernel
theorem dX10_goOn_2 : decode cX10_goOn 2 = .ok (.iload_n 2, 1) := by decide +kernel
theorem dX10_goOn_3 : decode cX10_goOn 3 = .ok (.iload_n 1, 1) := by decide +kernel
theorem dX10_goOn_4 : decode cX10_goOn 4 = .ok (.if_icmp .ge 14, 3) := by decide +kernel
theorem dX10_goOn_7 : decode cX10_goOn 7 = .ok (.aload_n 0, 1) := by decide +kernel
theorem dX10_goOn_8 : decode cX10_goOn 8 = .ok (.iconst 1, 1) := by decide +kernel
theorem dX10_goOn_9 : decode cX10_goOn 9 = .ok (.invokevirtual 134, 3) := by decide +kernel
theorem dX10_goOn_12 : decode cX10_goOn 12 = .ok (.iinc 2 1, 3) := by decide +kernel
theorem dX10_goOn_15 : decode cX10_goOn 15 = .ok (.goto (-13), 3) := by decide +kernel
theorem dX10_goOn_18 : decode cX10_goOn 18 = .ok (.return_, 1) := by decide +kernel
theorem dX10_sings_0 : decode cX10_sings 0 = .ok (.aload_n 0, 1) := by decide +kernel
theorem dX10_sings_1 : decode cX10_sings 1 = .ok (.iload_n 1, 1) := by decide +kernel
theorem dX10_sings_2 : decode cX10_sings 2 = .ok (.invokevirtual 119, 3) := by decide +kernel
theorem dX10_sings_5 : decode cX10_sings 5 = .ok (.ifCond .ne 5, 3) := by decide +kernel
theorem dX10_sings_8 : decode cX10_sings 8 = .ok (.iconst (-1), 1) := by decide +kernel
theorem dX10_sings_9 : decode cX10_sings 9 = .ok (.ireturn, 1) := by decide +kernel
theorem dX10_sings_10 : decode cX10_sings 10 = .ok (.iload_n 2, 1) := by decide +kernel
theorem dX10_sings_11 : decode cX10_sings 11 = .ok (.i2l, 1) := by decide +kernel
theorem dX10_sings_12 : decode cX10_sings 12 = .ok (.lconst 0, 1) := by decide +kernel
theorem dX10_sings_13 : decode cX10_sings 13 = .ok (.ldc2_w 153, 3) := by decide +kernel
theorem dX10_sings_16 : decode cX10_sings 16 = .ok (.invokestatic 59, 3) := by decide +kernel
theorem dX10_sings_19 : decode cX10_sings 19 = .ok (.ifCond .ne 6, 3) := by decide +kernel
theorem dX10_sings_22 : decode cX10_sings 22 = .ok (.bipush (-2), 2) := by decide +kernel
theorem dX10_sings_24 : decode cX10_sings 24 = .ok (.ireturn, 1) := by decide +kernel
theorem dX10_sings_25 : decode cX10_sings 25 = .ok (.aload_n 0, 1) := by decide +kernel
theorem dX10_sings_26 : decode cX10_sings 26 = .ok (.invokevirtual 155, 3) := by decide +kernel
theorem dX10_sings_29 : decode cX10_sings 29 = .ok (.aload_n 0, 1) := by decide +kernel
theorem dX10_sings_30 : decode cX10_sings 30 = .ok (.iload_n 2, 1) := by decide +kernel
theorem dX10_sings_31 : decode cX10_sings 31 = .ok (.invokevirtual 158, 3) := by decide +kernel
theorem dX10_sings_34 : decode cX10_sings 34 = .ok (.aload_n 0, 1) := by decide +kernel
theorem dX10_sings_35 : decode cX10_sings 35 = .ok (.getfield 19, 3) := by decide +kernel
theorem dX10_sings_38 : decode cX10_sings 38 = .ok (.bipush 32, 2) := by decide +kernel
theorem dX10_sings_40 : decode cX10_sings 40 = .ok (.iload_n 1, 1) := by decide +kernel
theorem dX10_sings_41 : decode cX10_sings 41 = .ok (.iadd, 1) := by decide +kernel
theorem dX10_sings_42 : decode cX10_sings 42 = .ok (.iaload, 1) := by decide +kernel
theorem dX10_sings_43 : decode cX10_sings 43 = .ok (.ireturn, 1) := by decide +kernel
theorem dX10_notes_0 : decode cX10_notes 0 = .ok (.iload_n 1, 1) := by decide +kernel
theorem dX10_notes_1 : decode cX10_notes 1 = .ok (.i2l, 1) := by decide +kernel
theorem dX10_notes_2 : decode cX10_notes 2 = .ok (.lconst 0, 1) := by decide +kernel
theorem dX10_notes_3 : decode cX10_notes 3 = .ok (.ldc2_w 153, 3) := by decide +kernel
theorem dX10_notes_6 : decode cX10_notes 6 = .ok (.invokestatic 59, 3) := by decide +kernel
theorem dX10_notes_9 : decode cX10_notes 9 = .ok (.ifCond .ne 6, 3) := by decide +kernel
theorem dX10_notes_12 : decode cX10_notes 12 = .ok (.bipush (-2), 2) := by decide +kernel
theorem dX10_notes_14 : decode cX10_notes 14 = .ok (.ireturn, 1) := by decide +kernel
theorem dX10_notes_15 : decode cX10_notes 15 = .ok (.aload_n 0, 1) := by decide +kernel
theorem dX10_notes_16 : decode cX10_notes 16 = .ok (.invokevirtual 155, 3) := by decide +kernel
theorem dX10_notes_19 : decode cX10_notes 19 = .ok (.aload_n 0, 1) := by decide +kernel
theorem dX10_notes_20 : decode cX10_notes 20 = .ok (.iload_n 1, 1) := by decide +kernel
theorem dX10_notes_21 : decode cX10_notes 21 = .ok (.invokevirtual 158, 3) := by decide +kernel
theorem dX10_notes_24 : decode cX10_notes 24 = .ok (.aload_n 0, 1) := by decide +kernel
theorem dX10_notes_25 : decode cX10_notes 25 = .ok (.iconst 1, 1) := by decide +kernel
theorem dX10_notes_26 : decode cX10_notes 26 = .ok (.invokevirtual 137, 3) := by decide +kernel
theorem dX10_notes_29 : decode cX10_notes 29 = .ok (.invokestatic 140, 3) := by decide +kernel
theorem dX10_notes_32 : decode cX10_notes 32 = .ok (.ireturn, 1) := by decide +kernel
theorem dX10_singAll_0 : decode cX10_singAll 0 = .ok (.aload_n 0, 1) := by decide +kernel
theorem dX10_singAll_1 : decode cX10_singAll 1 = .ok (.invokevirtual 155, 3) := by decide +kernel
theorem dX10_singAll_4 : decode cX10_singAll 4 = .ok (.iconst 0, 1) := by decide +kernel
theorem dX10_singAll_5 : decode cX10_singAll 5 = .ok (.istore_n 1, 1) := by decide +kernel
theorem dX10_singAll_6 : decode cX10_singAll 6 = .ok (.iload_n 1, 1) := by decide +kernel
theorem dX10_singAll_7 : decode cX10_singAll 7 = .ok (.bipush 60, 2) := by decide +kernel
theorem dX10_singAll_9 : decode cX10_singAll 9 = .ok (.if_icmp .gt 62, 3) := by decide +kernel
theorem dX10_singAll_12 : decode cX10_singAll 12 = .ok (.aload_n 0, 1) := by decide +kernel
theorem dX10_singAll_13 : decode cX10_singAll 13 = .ok (.getfield 38, 3) := by decide +kernel
theorem dX10_singAll_16 : decode cX10_singAll 16 = .ok (.iload_n 1, 1) := by decide +kernel
theorem dX10_singAll_17 : decode cX10_singAll 17 = .ok (.iconst 0, 1) := by decide +kernel
theorem dX10_singAll_18 : decode cX10_singAll 18 = .ok (.iastore, 1) := by decide +kernel
theorem dX10_singAll_19 : decode cX10_singAll 19 = .ok (.iconst 0, 1) := by decide +kernel
theorem dX10_singAll_20 : decode cX10_singAll 20 = .ok (.istore_n 2, 1) := by decide +kernel
theorem dX10_singAll_21 : decode cX10_singAll 21 = .ok (.iload_n 2, 1) := by decide +kernel
theorem dX10_singAll_22 : decode cX10_singAll 22 = .ok (.aload_n 0, 1) := by decide +kernel
theorem dX10_singAll_23 : decode cX10_singAll 23 = .ok (.getfield 96, 3) := by decide +kernel
theorem dX10_singAll_26 : decode cX10_singAll 26 = .ok (.if_icmp .ge 34, 3) := by decide +kernel
theorem dX10_singAll_29 : decode cX10_singAll 29 = .ok (.aload_n 0, 1) := by decide +kernel
theorem dX10_singAll_30 : decode cX10_singAll 30 = .ok (.getfield 38, 3) := by decide +kernel
theorem dX10_singAll_33 : decode cX10_singAll 33 = .ok (.iload_n 1, 1) := by decide +kernel
theorem dX10_singAll_34 : decode cX10_singAll 34 = .ok (.bipush 10, 2) := by decide +kernel
theorem dX10_singAll_36 : decode cX10_singAll 36 = .ok (.aload_n 0, 1) := by decide +kernel
theorem dX10_singAll_37 : decode cX10_singAll 37 = .ok (.getfield 38, 3) := by decide +kernel
theorem dX10_singAll_40 : decode cX10_singAll 40 = .ok (.iload_n 1, 1) := by decide +kernel
theorem dX10_singAll_41 : decode cX10_singAll 41 = .ok (.iaload, 1) := by decide +kernel
theorem dX10_singAll_42 : decode cX10_singAll 42 = .ok (.imul, 1) := by decide +kernel
theorem dX10_singAll_43 : decode cX10_singAll 43 = .ok (.aload_n 0, 1) := by decide +kernel
theorem dX10_singAll_44 : decode cX10_singAll 44 = .ok (.getfield 19, 3) := by decide +kernel
theorem dX10_singAll_47 : decode cX10_singAll 47 = .ok (.bipush 32, 2) := by decide +kernel
theorem dX10_singAll_49 : decode cX10_singAll 49 = .ok (.iload_n 2, 1) := by decide +kernel
theorem dX10_singAll_50 : decode cX10_singAll 50 = .ok (.iadd, 1) := by decide +kernel
theorem dX10_singAll_51 : decode cX10_singAll 51 = .ok (.iaload, 1) := by decide +kernel
theorem dX10_singAll_52 : decode cX10_singAll 52 = .ok (.iadd, 1) := by decide +kernel
theorem dX10_singAll_53 : decode cX10_singAll 53 = .ok (.iastore, 1) := by decide +kernel
theorem dX10_singAll_54 : decode cX10_singAll 54 = .ok (.iinc 2 1, 3) := by decide +kernel
theorem dX10_singAll_57 : decode cX10_singAll 57 = .ok (.goto (-36), 3) := by decide +kernel
theorem dX10_singAll_60 : decode cX10_singAll 60 = .ok (.aload_n 0, 1) := by decide +kernel
theorem dX10_singAll_61 : decode cX10_singAll 61 = .ok (.iconst 1, 1) := by decide +kernel
theorem dX10_singAll_62 : decode cX10_singAll 62 = .ok (.invokevirtual 134, 3) := by decide +kernel
theorem dX10_singAll_65 : decode cX10_singAll 65 = .ok (.iinc 1 1, 3) := by decide +kernel
theorem dX10_singAll_68 : decode cX10_singAll 68 = .ok (.goto (-62), 3) := by decide +kernel
theorem dX10_singAll_71 : decode cX10_singAll 71 = .ok (.return_, 1) := by decide +kernel
theorem dX10_round_0 : decode cX10_round 0 = .ok (.iload_n 1, 1) := by decide +kernel
theorem dX10_round_1 : decode cX10_round 1 = .ok (.i2l, 1) := by decide +kernel
theorem dX10_round_2 : decode cX10_round 2 = .ok (.lconst 0, 1) := by decide +kernel
theorem dX10_round_3 : decode cX10_round 3 = .ok (.lconst 1, 1) := by decide +kernel
theorem dX10_round_4 : decode cX10_round 4 = .ok (.invokestatic 59, 3) := by decide +kernel
theorem dX10_round_7 : decode cX10_round 7 = .ok (.ifCond .ne 6, 3) := by decide +kernel
theorem dX10_round_10 : decode cX10_round 10 = .ok (.bipush (-2), 2) := by decide +kernel
theorem dX10_round_12 : decode cX10_round 12 = .ok (.ireturn, 1) := by decide +kernel
theorem dX10_round_13 : decode cX10_round 13 = .ok (.aload_n 0, 1) := by decide +kernel
theorem dX10_round_14 : decode cX10_round 14 = .ok (.invokevirtual 161, 3) := by decide +kernel
theorem dX10_round_17 : decode cX10_round 17 = .ok (.iconst 0, 1) := by decide +kernel
theorem dX10_round_18 : decode cX10_round 18 = .ok (.istore_n 2, 1) := by decide +kernel
theorem dX10_round_19 : decode cX10_round 19 = .ok (.iload_n 2, 1) := by decide +kernel
theorem dX10_round_20 : decode cX10_round 20 = .ok (.bipush 60, 2) := by decide +kernel
theorem dX10_round_22 : decode cX10_round 22 = .ok (.if_icmp .ge 52, 3) := by decide +kernel
theorem dX10_round_25 : decode cX10_round 25 = .ok (.iconst 1, 1) := by decide +kernel
theorem dX10_round_26 : decode cX10_round 26 = .ok (.istore_n 3, 1) := by decide +kernel
theorem dX10_round_27 : decode cX10_round 27 = .ok (.iload_n 2, 1) := by decide +kernel
theorem dX10_round_28 : decode cX10_round 28 = .ok (.iload_n 3, 1) := by decide +kernel
theorem dX10_round_29 : decode cX10_round 29 = .ok (.iadd, 1) := by decide +kernel
theorem dX10_round_30 : decode cX10_round 30 = .ok (.bipush 60, 2) := by decide +kernel
theorem dX10_round_32 : decode cX10_round 32 = .ok (.if_icmp .gt 36, 3) := by decide +kernel
theorem dX10_round_35 : decode cX10_round 35 = .ok (.aload_n 0, 1) := by decide +kernel
theorem dX10_round_36 : decode cX10_round 36 = .ok (.getfield 38, 3) := by decide +kernel
theorem dX10_round_39 : decode cX10_round 39 = .ok (.iload_n 2, 1) := by decide +kernel
theorem dX10_round_40 : decode cX10_round 40 = .ok (.iaload, 1) := by decide +kernel
theorem dX10_round_41 : decode cX10_round 41 = .ok (.aload_n 0, 1) := by decide +kernel
theorem dX10_round_42 : decode cX10_round 42 = .ok (.getfield 38, 3) := by decide +kernel
theorem dX10_round_45 : decode cX10_round 45 = .ok (.iload_n 2, 1) := by decide +kernel
theorem dX10_round_46 : decode cX10_round 46 = .ok (.iload_n 3, 1) := by decide +kernel
theorem dX10_round_47 : decode cX10_round 47 = .ok (.iadd, 1) := by decide +kernel
theorem dX10_round_48 : decode cX10_round 48 = .ok (.iaload, 1) := by decide +kernel
theorem dX10_round_49 : decode cX10_round 49 = .ok (.if_icmp .ne 13, 3) := by decide +kernel
theorem dX10_round_52 : decode cX10_round 52 = .ok (.iload_n 1, 1) := by decide +kernel
theorem dX10_round_53 : decode cX10_round 53 = .ok (.ifCond .ne 7, 3) := by decide +kernel
theorem dX10_round_56 : decode cX10_round 56 = .ok (.iload_n 2, 1) := by decide +kernel
theorem dX10_round_57 : decode cX10_round 57 = .ok (.goto 4, 3) := by decide +kernel
theorem dX10_round_60 : decode cX10_round 60 = .ok (.iload_n 3, 1) := by decide +kernel
theorem dX10_round_61 : decode cX10_round 61 = .ok (.ireturn, 1) := by decide +kernel
theorem dX10_round_62 : decode cX10_round 62 = .ok (.iinc 3 1, 3) := by decide +kernel
theorem dX10_round_65 : decode cX10_round 65 = .ok (.goto (-38), 3) := by decide +kernel
theorem dX10_round_68 : decode cX10_round 68 = .ok (.iinc 2 1, 3) := by decide +kernel
theorem dX10_round_71 : decode cX10_round 71 = .ok (.goto (-52), 3) := by decide +kernel
theorem dX10_round_74 : decode cX10_round 74 = .ok (.bipush (-9), 2) := by decide +kernel
theorem dX10_round_76 : decode cX10_round 76 = .ok (.ireturn, 1) := by decide +kernel
theorem dX10_unison_0 : decode cX10_unison 0 = .ok (.aload_n 0, 1) := by decide +kernel
theorem dX10_unison_1 : decode cX10_unison 1 = .ok (.invokevirtual 155, 3) := by decide +kernel
theorem dX10_unison_4 : decode cX10_unison 4 = .ok (.iconst 0, 1) := by decide +kernel
theorem dX10_unison_5 : decode cX10_unison 5 = .ok (.istore_n 1, 1) := by decide +kernel
theorem dX10_unison_6 : decode cX10_unison 6 = .ok (.iload_n 1, 1) := by decide +kernel
theorem dX10_unison_7 : decode cX10_unison 7 = .ok (.bipush 60, 2) := by decide +kernel
theorem dX10_unison_9 : decode cX10_unison 9 = .ok (.if_icmp .gt 28, 3) := by decide +kernel
theorem dX10_unison_12 : decode cX10_unison 12 = .ok (.aload_n 0, 1) := by decide +kernel
theorem dX10_unison_13 : decode cX10_unison 13 = .ok (.iconst 1, 1) := by decide +kernel
theorem dX10_unison_14 : decode cX10_unison 14 = .ok (.invokevirtual 137, 3) := by decide +kernel
theorem dX10_unison_17 : decode cX10_unison 17 = .ok (.invokestatic 140, 3) := by decide +kernel
theorem dX10_unison_20 : decode cX10_unison 20 = .ok (.iconst 2, 1) := by decide +kernel
theorem dX10_unison_21 : decode cX10_unison 21 = .ok (.if_icmp .ge 5, 3) := by decide +kernel
theorem dX10_unison_24 : decode cX10_unison 24 = .ok (.iload_n 1, 1) := by decide +kernel
theorem dX10_unison_25 : decode cX10_unison 25 = .ok (.ireturn, 1) := by decide +kernel
theorem dX10_unison_26 : decode cX10_unison 26 = .ok (.aload_n 0, 1) := by decide +kernel
theorem dX10_unison_27 : decode cX10_unison 27 = .ok (.iconst 1, 1) := by decide +kernel
theorem dX10_unison_28 : decode cX10_unison 28 = .ok (.invokevirtual 134, 3) := by decide +kernel
theorem dX10_unison_31 : decode cX10_unison 31 = .ok (.iinc 1 1, 3) := by decide +kernel
theorem dX10_unison_34 : decode cX10_unison 34 = .ok (.goto (-28), 3) := by decide +kernel
theorem dX10_unison_37 : decode cX10_unison 37 = .ok (.bipush (-9), 2) := by decide +kernel
theorem dX10_unison_39 : decode cX10_unison 39 = .ok (.ireturn, 1) := by decide +kernel
theorem dX10_isSung_0 : decode cX10_isSung 0 = .ok (.aload_n 0, 1) := by decide +kernel
theorem dX10_isSung_1 : decode cX10_isSung 1 = .ok (.invokevirtual 155, 3) := by decide +kernel
theorem dX10_isSung_4 : decode cX10_isSung 4 = .ok (.iload 4, 2) := by decide +kernel
theorem dX10_isSung_6 : decode cX10_isSung 6 = .ok (.bipush (-9), 2) := by decide +kernel
theorem dX10_isSung_8 : decode cX10_isSung 8 = .ok (.if_icmp .eq 12, 3) := by decide +kernel
theorem dX10_isSung_11 : decode cX10_isSung 11 = .ok (.aload_n 0, 1) := by decide +kernel
theorem dX10_isSung_12 : decode cX10_isSung 12 = .ok (.iconst 1, 1) := by decide +kernel
theorem dX10_isSung_13 : decode cX10_isSung 13 = .ok (.iload 4, 2) := by decide +kernel
theorem dX10_isSung_15 : decode cX10_isSung 15 = .ok (.iload 5, 2) := by decide +kernel
theorem dX10_isSung_17 : decode cX10_isSung 17 = .ok (.invokevirtual 143, 3) := by decide +kernel
theorem dX10_isSung_20 : decode cX10_isSung 20 = .ok (.aload_n 0, 1) := by decide +kernel
theorem dX10_isSung_21 : decode cX10_isSung 21 = .ok (.iload_n 3, 1) := by decide +kernel
theorem dX10_isSung_22 : decode cX10_isSung 22 = .ok (.invokevirtual 158, 3) := by decide +kernel
theorem dX10_isSung_25 : decode cX10_isSung 25 = .ok (.aload_n 0, 1) := by decide +kernel
theorem dX10_isSung_26 : decode cX10_isSung 26 = .ok (.getfield 19, 3) := by decide +kernel
theorem dX10_isSung_29 : decode cX10_isSung 29 = .ok (.bipush 32, 2) := by decide +kernel
theorem dX10_isSung_31 : decode cX10_isSung 31 = .ok (.iload_n 1, 1) := by decide +kernel
theorem dX10_isSung_32 : decode cX10_isSung 32 = .ok (.iadd, 1) := by decide +kernel
theorem dX10_isSung_33 : decode cX10_isSung 33 = .ok (.iaload, 1) := by decide +kernel
theorem dX10_isSung_34 : decode cX10_isSung 34 = .ok (.iload_n 2, 1) := by decide +kernel
theorem dX10_isSung_35 : decode cX10_isSung 35 = .ok (.if_icmp .ne 7, 3) := by decide +kernel
theorem dX10_isSung_38 : decode cX10_isSung 38 = .ok (.iconst 1, 1) := by decide +kernel
theorem dX10_isSung_39 : decode cX10_isSung 39 = .ok (.goto 4, 3) := by decide +kernel
theorem dX10_isSung_42 : decode cX10_isSung 42 = .ok (.iconst 0, 1) := by decide +kernel
theorem dX10_isSung_43 : decode cX10_isSung 43 = .ok (.ireturn, 1) := by decide +kernel
theorem dX10_leastGift_0 : decode cX10_leastGift 0 = .ok (.aload_n 0, 1) := by decide +kernel
theorem dX10_leastGift_1 : decode cX10_leastGift 1 = .ok (.iload_n 1, 1) := by decide +kernel
theorem dX10_leastGift_2 : decode cX10_leastGift 2 = .ok (.iload_n 2, 1) := by decide +kernel
theorem dX10_leastGift_3 : decode cX10_leastGift 3 = .ok (.iload_n 3, 1) := by decide +kernel
theorem dX10_leastGift_4 : decode cX10_leastGift 4 = .ok (.bipush (-9), 2) := by decide +kernel
theorem dX10_leastGift_6 : decode cX10_leastGift 6 = .ok (.iconst 0, 1) := by decide +kernel
theorem dX10_leastGift_7 : decode cX10_leastGift 7 = .ok (.invokevirtual 164, 3) := by decide +kernel
theorem dX10_leastGift_10 : decode cX10_leastGift 10 = .ok (.ifCond .eq 6, 3) := by decide +kernel
theorem dX10_leastGift_13 : decode cX10_leastGift 13 = .ok (.bipush 9, 2) := by decide +kernel
theorem dX10_leastGift_15 : decode cX10_leastGift 15 = .ok (.ireturn, 1) := by decide +kernel
theorem dX10_leastGift_16 : decode cX10_leastGift 16 = .ok (.iconst 1, 1) := by decide +kernel
theorem dX10_leastGift_17 : decode cX10_leastGift 17 = .ok (.istore 4, 2) := by decide +kernel
theorem dX10_leastGift_19 : decode cX10_leastGift 19 = .ok (.iload 4, 2) := by decide +kernel
theorem dX10_leastGift_21 : decode cX10_leastGift 21 = .ok (.bipush 10, 2) := by decide +kernel
theorem dX10_leastGift_23 : decode cX10_leastGift 23 = .ok (.if_icmp .ge 50, 3) := by decide +kernel
theorem dX10_leastGift_26 : decode cX10_leastGift 26 = .ok (.iconst 0, 1) := by decide +kernel
theorem dX10_leastGift_27 : decode cX10_leastGift 27 = .ok (.istore 5, 2) := by decide +kernel
theorem dX10_leastGift_29 : decode cX10_leastGift 29 = .ok (.iload 5, 2) := by decide +kernel
theorem dX10_leastGift_31 : decode cX10_leastGift 31 = .ok (.aload_n 0, 1) := by decide +kernel
theorem dX10_leastGift_32 : decode cX10_leastGift 32 = .ok (.getfield 96, 3) := by decide +kernel
theorem dX10_leastGift_35 : decode cX10_leastGift 35 = .ok (.if_icmp .ge 32, 3) := by decide +kernel
theorem dX10_leastGift_38 : decode cX10_leastGift 38 = .ok (.aload_n 0, 1) := by decide +kernel
theorem dX10_leastGift_39 : decode cX10_leastGift 39 = .ok (.iload_n 1, 1) := by decide +kernel
theorem dX10_leastGift_40 : decode cX10_leastGift 40 = .ok (.iload_n 2, 1) := by decide +kernel
theorem dX10_leastGift_41 : decode cX10_leastGift 41 = .ok (.iload_n 3, 1) := by decide +kernel
theorem dX10_leastGift_42 : decode cX10_leastGift 42 = .ok (.iload 5, 2) := by decide +kernel
theorem dX10_leastGift_44 : decode cX10_leastGift 44 = .ok (.iload 4, 2) := by decide +kernel
theorem dX10_leastGift_46 : decode cX10_leastGift 46 = .ok (.invokevirtual 164, 3) := by decide +kernel
theorem dX10_leastGift_49 : decode cX10_leastGift 49 = .ok (.ifCond .eq 12, 3) := by decide +kernel
theorem dX10_leastGift_52 : decode cX10_leastGift 52 = .ok (.bipush 10, 2) := by decide +kernel
theorem dX10_leastGift_54 : decode cX10_leastGift 54 = .ok (.iload 4, 2) := by decide +kernel
theorem dX10_leastGift_56 : decode cX10_leastGift 56 = .ok (.imul, 1) := by decide +kernel
theorem dX10_leastGift_57 : decode cX10_leastGift 57 = .ok (.iload 5, 2) := by decide +kernel
theorem dX10_leastGift_59 : decode cX10_leastGift 59 = .ok (.iadd, 1) := by decide +kernel
theorem dX10_leastGift_60 : decode cX10_leastGift 60 = .ok (.ireturn, 1) := by decide +kernel
theorem dX10_leastGift_61 : decode cX10_leastGift 61 = .ok (.iinc 5 1, 3) := by decide +kernel
theorem dX10_leastGift_64 : decode cX10_leastGift 64 = .ok (.goto (-35), 3) := by decide +kernel
theorem dX10_leastGift_67 : decode cX10_leastGift 67 = .ok (.iinc 4 1, 3) := by decide +kernel
theorem dX10_leastGift_70 : decode cX10_leastGift 70 = .ok (.goto (-51), 3) := by decide +kernel
theorem dX10_leastGift_73 : decode cX10_leastGift 73 = .ok (.bipush (-9), 2) := by decide +kernel
theorem dX10_leastGift_75 : decode cX10_leastGift 75 = .ok (.ireturn, 1) := by decide +kernel
theorem dX10_gets_0 : decode cX10_gets 0 = .ok (.aload_n 0, 1) := by decide +kernel
theorem dX10_gets_1 : decode cX10_gets 1 = .ok (.iload_n 1, 1) := by decide +kernel
theorem dX10_gets_2 : decode cX10_gets 2 = .ok (.invokevirtual 119, 3) := by decide +kernel
theorem dX10_gets_5 : decode cX10_gets 5 = .ok (.ifCond .ne 5, 3) := by decide +kernel
theorem dX10_gets_8 : decode cX10_gets 8 = .ok (.iconst (-1), 1) := by decide +kernel
theorem dX10_gets_9 : decode cX10_gets 9 = .ok (.ireturn, 1) := by decide +kernel
theorem dX10_gets_10 : decode cX10_gets 10 = .ok (.iload_n 2, 1) := by decide +kernel
theorem dX10_gets_11 : decode cX10_gets 11 = .ok (.i2l, 1) := by decide +kernel
theorem dX10_gets_12 : decode cX10_gets 12 = .ok (.lconst 0, 1) := by decide +kernel
theorem dX10_gets_13 : decode cX10_gets 13 = .ok (.ldc2_w 72, 3) := by decide +kernel
theorem dX10_gets_16 : decode cX10_gets 16 = .ok (.invokestatic 59, 3) := by decide +kernel
theorem dX10_gets_19 : decode cX10_gets 19 = .ok (.ifCond .eq 26, 3) := by decide +kernel
theorem dX10_gets_22 : decode cX10_gets 22 = .ok (.iload_n 3, 1) := by decide +kernel
theorem dX10_gets_23 : decode cX10_gets 23 = .ok (.i2l, 1) := by decide +kernel
theorem dX10_gets_24 : decode cX10_gets 24 = .ok (.lconst 1, 1) := by decide +kernel
theorem dX10_gets_25 : decode cX10_gets 25 = .ok (.ldc2_w 72, 3) := by decide +kernel
theorem dX10_gets_28 : decode cX10_gets 28 = .ok (.invokestatic 59, 3) := by decide +kernel
theorem dX10_gets_31 : decode cX10_gets 31 = .ok (.ifCond .eq 14, 3) := by decide +kernel
theorem dX10_gets_34 : decode cX10_gets 34 = .ok (.iload 4, 2) := by decide +kernel
theorem dX10_gets_36 : decode cX10_gets 36 = .ok (.i2l, 1) := by decide +kernel
theorem dX10_gets_37 : decode cX10_gets 37 = .ok (.lconst 0, 1) := by decide +kernel
theorem dX10_gets_38 : decode cX10_gets 38 = .ok (.lconst 1, 1) := by decide +kernel
theorem dX10_gets_39 : decode cX10_gets 39 = .ok (.invokestatic 59, 3) := by decide +kernel
theorem dX10_gets_42 : decode cX10_gets 42 = .ok (.ifCond .ne 6, 3) := by decide +kernel
theorem dX10_gets_45 : decode cX10_gets 45 = .ok (.bipush (-2), 2) := by decide +kernel
theorem dX10_gets_47 : decode cX10_gets 47 = .ok (.ireturn, 1) := by decide +kernel
theorem dX10_gets_48 : decode cX10_gets 48 = .ok (.aload_n 0, 1) := by decide +kernel
theorem dX10_gets_49 : decode cX10_gets 49 = .ok (.iload_n 1, 1) := by decide +kernel
theorem dX10_gets_50 : decode cX10_gets 50 = .ok (.iload_n 2, 1) := by decide +kernel
theorem dX10_gets_51 : decode cX10_gets 51 = .ok (.iload_n 3, 1) := by decide +kernel
theorem dX10_gets_52 : decode cX10_gets 52 = .ok (.invokevirtual 168, 3) := by decide +kernel
theorem dX10_gets_55 : decode cX10_gets 55 = .ok (.istore 5, 2) := by decide +kernel
theorem dX10_gets_57 : decode cX10_gets 57 = .ok (.iload 5, 2) := by decide +kernel
theorem dX10_gets_59 : decode cX10_gets 59 = .ok (.bipush (-9), 2) := by decide +kernel
theorem dX10_gets_61 : decode cX10_gets 61 = .ok (.if_icmp .ne 6, 3) := by decide +kernel
theorem dX10_gets_64 : decode cX10_gets 64 = .ok (.bipush (-9), 2) := by decide +kernel
theorem dX10_gets_66 : decode cX10_gets 66 = .ok (.ireturn, 1) := by decide +kernel
theorem dX10_gets_67 : decode cX10_gets 67 = .ok (.iload 4, 2) := by decide +kernel
theorem dX10_gets_69 : decode cX10_gets 69 = .ok (.ifCond .ne 11, 3) := by decide +kernel
theorem dX10_gets_72 : decode cX10_gets 72 = .ok (.iload 5, 2) := by decide +kernel
theorem dX10_gets_74 : decode cX10_gets 74 = .ok (.bipush 10, 2) := by decide +kernel
theorem dX10_gets_76 : decode cX10_gets 76 = .ok (.idiv, 1) := by decide +kernel
theorem dX10_gets_77 : decode cX10_gets 77 = .ok (.goto 20, 3) := by decide +kernel
theorem dX10_gets_80 : decode cX10_gets 80 = .ok (.iload 5, 2) := by decide +kernel
theorem dX10_gets_82 : decode cX10_gets 82 = .ok (.bipush 9, 2) := by decide +kernel
theorem dX10_gets_84 : decode cX10_gets 84 = .ok (.if_icmp .ne 8, 3) := by decide +kernel
theorem dX10_gets_87 : decode cX10_gets 87 = .ok (.bipush (-9), 2) := by decide +kernel
theorem dX10_gets_89 : decode cX10_gets 89 = .ok (.goto 8, 3) := by decide +kernel
theorem dX10_gets_92 : decode cX10_gets 92 = .ok (.iload 5, 2) := by decide +kernel
theorem dX10_gets_94 : decode cX10_gets 94 = .ok (.bipush 10, 2) := by decide +kernel
theorem dX10_gets_96 : decode cX10_gets 96 = .ok (.irem, 1) := by decide +kernel
theorem dX10_gets_97 : decode cX10_gets 97 = .ok (.ireturn, 1) := by decide +kernel
theorem dX10_notesBy_0 : decode cX10_notesBy 0 = .ok (.aload_n 0, 1) := by decide +kernel
theorem dX10_notesBy_1 : decode cX10_notesBy 1 = .ok (.invokevirtual 155, 3) := by decide +kernel
theorem dX10_notesBy_4 : decode cX10_notesBy 4 = .ok (.iload_n 1, 1) := by decide +kernel
theorem dX10_notesBy_5 : decode cX10_notesBy 5 = .ok (.iload_n 2, 1) := by decide +kernel
theorem dX10_notesBy_6 : decode cX10_notesBy 6 = .ok (.if_icmp .eq 10, 3) := by decide +kernel
theorem dX10_notesBy_9 : decode cX10_notesBy 9 = .ok (.aload_n 0, 1) := by decide +kernel
theorem dX10_notesBy_10 : decode cX10_notesBy 10 = .ok (.iconst 1, 1) := by decide +kernel
theorem dX10_notesBy_11 : decode cX10_notesBy 11 = .ok (.iload_n 1, 1) := by decide +kernel
theorem dX10_notesBy_12 : decode cX10_notesBy 12 = .ok (.iload_n 2, 1) := by decide +kernel
theorem dX10_notesBy_13 : decode cX10_notesBy 13 = .ok (.invokevirtual 147, 3) := by decide +kernel
theorem dX10_notesBy_16 : decode cX10_notesBy 16 = .ok (.aload_n 0, 1) := by decide +kernel
theorem dX10_notesBy_17 : decode cX10_notesBy 17 = .ok (.iload_n 3, 1) := by decide +kernel
theorem dX10_notesBy_18 : decode cX10_notesBy 18 = .ok (.invokevirtual 158, 3) := by decide +kernel
theorem dX10_notesBy_21 : decode cX10_notesBy 21 = .ok (.aload_n 0, 1) := by decide +kernel
theorem dX10_notesBy_22 : decode cX10_notesBy 22 = .ok (.iconst 1, 1) := by decide +kernel
theorem dX10_notesBy_23 : decode cX10_notesBy 23 = .ok (.invokevirtual 137, 3) := by decide +kernel
theorem dX10_notesBy_26 : decode cX10_notesBy 26 = .ok (.invokestatic 140, 3) := by decide +kernel
theorem dX10_notesBy_29 : decode cX10_notesBy 29 = .ok (.ireturn, 1) := by decide +kernel
theorem dX10_best_0 : decode cX10_best 0 = .ok (.iload_n 1, 1) := by decide +kernel
theorem dX10_best_1 : decode cX10_best 1 = .ok (.i2l, 1) := by decide +kernel
theorem dX10_best_2 : decode cX10_best 2 = .ok (.lconst 1, 1) := by decide +kernel
theorem dX10_best_3 : decode cX10_best 3 = .ok (.ldc2_w 72, 3) := by decide +kernel
theorem dX10_best_6 : decode cX10_best 6 = .ok (.invokestatic 59, 3) := by decide +kernel
theorem dX10_best_9 : decode cX10_best 9 = .ok (.ifCond .eq 13, 3) := by decide +kernel
theorem dX10_best_12 : decode cX10_best 12 = .ok (.iload_n 2, 1) := by decide +kernel
theorem dX10_best_13 : decode cX10_best 13 = .ok (.i2l, 1) := by decide +kernel
theorem dX10_best_14 : decode cX10_best 14 = .ok (.lconst 0, 1) := by decide +kernel
theorem dX10_best_15 : decode cX10_best 15 = .ok (.lconst 1, 1) := by decide +kernel
theorem dX10_best_16 : decode cX10_best 16 = .ok (.invokestatic 59, 3) := by decide +kernel
theorem dX10_best_19 : decode cX10_best 19 = .ok (.ifCond .ne 6, 3) := by decide +kernel
theorem dX10_best_22 : decode cX10_best 22 = .ok (.bipush (-2), 2) := by decide +kernel
theorem dX10_best_24 : decode cX10_best 24 = .ok (.ireturn, 1) := by decide +kernel
theorem dX10_best_25 : decode cX10_best 25 = .ok (.aload_n 0, 1) := by decide +kernel
theorem dX10_best_26 : decode cX10_best 26 = .ok (.iconst 0, 1) := by decide +kernel
theorem dX10_best_27 : decode cX10_best 27 = .ok (.iconst 0, 1) := by decide +kernel
theorem dX10_best_28 : decode cX10_best 28 = .ok (.iload_n 1, 1) := by decide +kernel
theorem dX10_best_29 : decode cX10_best 29 = .ok (.invokevirtual 172, 3) := by decide +kernel
theorem dX10_best_32 : decode cX10_best 32 = .ok (.istore_n 3, 1) := by decide +kernel
theorem dX10_best_33 : decode cX10_best 33 = .ok (.bipush 99, 2) := by decide +kernel
theorem dX10_best_35 : decode cX10_best 35 = .ok (.istore 4, 2) := by decide +kernel
theorem dX10_best_37 : decode cX10_best 37 = .ok (.iconst 0, 1) := by decide +kernel
theorem dX10_best_38 : decode cX10_best 38 = .ok (.istore 5, 2) := by decide +kernel
theorem dX10_best_40 : decode cX10_best 40 = .ok (.iload 5, 2) := by decide +kernel
theorem dX10_best_42 : decode cX10_best 42 = .ok (.aload_n 0, 1) := by decide +kernel
theorem dX10_best_43 : decode cX10_best 43 = .ok (.getfield 96, 3) := by decide +kernel
theorem dX10_best_46 : decode cX10_best 46 = .ok (.aload_n 0, 1) := by decide +kernel
theorem dX10_best_47 : decode cX10_best 47 = .ok (.getfield 96, 3) := by decide +kernel
theorem dX10_best_50 : decode cX10_best 50 = .ok (.imul, 1) := by decide +kernel
theorem dX10_best_51 : decode cX10_best 51 = .ok (.if_icmp .ge 84, 3) := by decide +kernel
theorem dX10_best_54 : decode cX10_best 54 = .ok (.iload 5, 2) := by decide +kernel
theorem dX10_best_56 : decode cX10_best 56 = .ok (.aload_n 0, 1) := by decide +kernel
theorem dX10_best_57 : decode cX10_best 57 = .ok (.getfield 96, 3) := by decide +kernel
theorem dX10_best_60 : decode cX10_best 60 = .ok (.idiv, 1) := by decide +kernel
theorem dX10_best_61 : decode cX10_best 61 = .ok (.istore 6, 2) := by decide +kernel
theorem dX10_best_63 : decode cX10_best 63 = .ok (.iload 5, 2) := by decide +kernel
theorem dX10_best_65 : decode cX10_best 65 = .ok (.aload_n 0, 1) := by decide +kernel
theorem dX10_best_66 : decode cX10_best 66 = .ok (.getfield 96, 3) := by decide +kernel
theorem dX10_best_69 : decode cX10_best 69 = .ok (.irem, 1) := by decide +kernel
theorem dX10_best_70 : decode cX10_best 70 = .ok (.istore 7, 2) := by decide +kernel
theorem dX10_best_72 : decode cX10_best 72 = .ok (.iload 6, 2) := by decide +kernel
theorem dX10_best_74 : decode cX10_best 74 = .ok (.iload 7, 2) := by decide +kernel
theorem dX10_best_76 : decode cX10_best 76 = .ok (.if_icmp .ge 15, 3) := by decide +kernel
theorem dX10_best_79 : decode cX10_best 79 = .ok (.aload_n 0, 1) := by decide +kernel
theorem dX10_best_80 : decode cX10_best 80 = .ok (.iload 6, 2) := by decide +kernel
theorem dX10_best_82 : decode cX10_best 82 = .ok (.iload 7, 2) := by decide +kernel
theorem dX10_best_84 : decode cX10_best 84 = .ok (.iload_n 1, 1) := by decide +kernel
theorem dX10_best_85 : decode cX10_best 85 = .ok (.invokevirtual 172, 3) := by decide +kernel
theorem dX10_best_88 : decode cX10_best 88 = .ok (.goto 5, 3) := by decide +kernel
theorem dX10_best_91 : decode cX10_best 91 = .ok (.bipush (-9), 2) := by decide +kernel
theorem dX10_best_93 : decode cX10_best 93 = .ok (.istore 8, 2) := by decide +kernel
theorem dX10_best_95 : decode cX10_best 95 = .ok (.iload 8, 2) := by decide +kernel
theorem dX10_best_97 : decode cX10_best 97 = .ok (.iload_n 3, 1) := by decide +kernel
theorem dX10_best_98 : decode cX10_best 98 = .ok (.if_icmp .le 14, 3) := by decide +kernel
theorem dX10_best_101 : decode cX10_best 101 = .ok (.bipush 10, 2) := by decide +kernel
theorem dX10_best_103 : decode cX10_best 103 = .ok (.iload 6, 2) := by decide +kernel
theorem dX10_best_105 : decode cX10_best 105 = .ok (.imul, 1) := by decide +kernel
theorem dX10_best_106 : decode cX10_best 106 = .ok (.iload 7, 2) := by decide +kernel
theorem dX10_best_108 : decode cX10_best 108 = .ok (.iadd, 1) := by decide +kernel
theorem dX10_best_109 : decode cX10_best 109 = .ok (.goto 5, 3) := by decide +kernel
theorem dX10_best_112 : decode cX10_best 112 = .ok (.iload 4, 2) := by decide +kernel
theorem dX10_best_114 : decode cX10_best 114 = .ok (.istore 4, 2) := by decide +kernel
theorem dX10_best_116 : decode cX10_best 116 = .ok (.iload 8, 2) := by decide +kernel
theorem dX10_best_118 : decode cX10_best 118 = .ok (.iload_n 3, 1) := by decide +kernel
theorem dX10_best_119 : decode cX10_best 119 = .ok (.if_icmp .le 8, 3) := by decide +kernel
theorem dX10_best_122 : decode cX10_best 122 = .ok (.iload 8, 2) := by decide +kernel
theorem dX10_best_124 : decode cX10_best 124 = .ok (.goto 4, 3) := by decide +kernel
theorem dX10_best_127 : decode cX10_best 127 = .ok (.iload_n 3, 1) := by decide +kernel
theorem dX10_best_128 : decode cX10_best 128 = .ok (.istore_n 3, 1) := by decide +kernel
theorem dX10_best_129 : decode cX10_best 129 = .ok (.iinc 5 1, 3) := by decide +kernel
theorem dX10_best_132 : decode cX10_best 132 = .ok (.goto (-92), 3) := by decide +kernel
theorem dX10_best_135 : decode cX10_best 135 = .ok (.iload_n 2, 1) := by decide +kernel
theorem dX10_best_136 : decode cX10_best 136 = .ok (.ifCond .ne 7, 3) := by decide +kernel
theorem dX10_best_139 : decode cX10_best 139 = .ok (.iload_n 3, 1) := by decide +kernel
theorem dX10_best_140 : decode cX10_best 140 = .ok (.goto 5, 3) := by decide +kernel
theorem dX10_best_143 : decode cX10_best 143 = .ok (.iload 4, 2) := by decide +kernel
theorem dX10_best_145 : decode cX10_best 145 = .ok (.ireturn, 1) := by decide +kernel
theorem dX10_tryThing_0 : decode cX10_tryThing 0 = .ok (.iload_n 1, 1) := by decide +kernel
theorem dX10_tryThing_1 : decode cX10_tryThing 1 = .ok (.tableswitch 213 0 5 #[39, 58, 92, 135, 154, 181], 39) := by decide +kernel
theorem dX10_tryThing_40 : decode cX10_tryThing 40 = .ok (.aload_n 0, 1) := by decide +kernel
theorem dX10_tryThing_41 : decode cX10_tryThing 41 = .ok (.iconst 1, 1) := by decide +kernel
theorem dX10_tryThing_42 : decode cX10_tryThing 42 = .ok (.invokevirtual 134, 3) := by decide +kernel
theorem dX10_tryThing_45 : decode cX10_tryThing 45 = .ok (.iload_n 2, 1) := by decide +kernel
theorem dX10_tryThing_46 : decode cX10_tryThing 46 = .ok (.ifCond .ne 11, 3) := by decide +kernel
theorem dX10_tryThing_49 : decode cX10_tryThing 49 = .ok (.iload_n 3, 1) := by decide +kernel
theorem dX10_tryThing_50 : decode cX10_tryThing 50 = .ok (.ifCond .ne 7, 3) := by decide +kernel
theorem dX10_tryThing_53 : decode cX10_tryThing 53 = .ok (.iconst 1, 1) := by decide +kernel
theorem dX10_tryThing_54 : decode cX10_tryThing 54 = .ok (.goto 4, 3) := by decide +kernel
theorem dX10_tryThing_57 : decode cX10_tryThing 57 = .ok (.iconst 0, 1) := by decide +kernel
theorem dX10_tryThing_58 : decode cX10_tryThing 58 = .ok (.ireturn, 1) := by decide +kernel
theorem dX10_tryThing_59 : decode cX10_tryThing 59 = .ok (.aload_n 0, 1) := by decide +kernel
theorem dX10_tryThing_60 : decode cX10_tryThing 60 = .ok (.iload_n 2, 1) := by decide +kernel
theorem dX10_tryThing_61 : decode cX10_tryThing 61 = .ok (.invokevirtual 119, 3) := by decide +kernel
theorem dX10_tryThing_64 : decode cX10_tryThing 64 = .ok (.ifCond .eq 11, 3) := by decide +kernel
theorem dX10_tryThing_67 : decode cX10_tryThing 67 = .ok (.iload_n 3, 1) := by decide +kernel
theorem dX10_tryThing_68 : decode cX10_tryThing 68 = .ok (.ifCond .le 7, 3) := by decide +kernel
theorem dX10_tryThing_71 : decode cX10_tryThing 71 = .ok (.iconst 1, 1) := by decide +kernel
theorem dX10_tryThing_72 : decode cX10_tryThing 72 = .ok (.goto 4, 3) := by decide +kernel
theorem dX10_tryThing_75 : decode cX10_tryThing 75 = .ok (.iconst 0, 1) := by decide +kernel
theorem dX10_tryThing_76 : decode cX10_tryThing 76 = .ok (.istore 4, 2) := by decide +kernel
theorem dX10_tryThing_78 : decode cX10_tryThing 78 = .ok (.iload 4, 2) := by decide +kernel
theorem dX10_tryThing_80 : decode cX10_tryThing 80 = .ok (.ifCond .eq 10, 3) := by decide +kernel
theorem dX10_tryThing_83 : decode cX10_tryThing 83 = .ok (.aload_n 0, 1) := by decide +kernel
theorem dX10_tryThing_84 : decode cX10_tryThing 84 = .ok (.iconst 1, 1) := by decide +kernel
theorem dX10_tryThing_85 : decode cX10_tryThing 85 = .ok (.iload_n 2, 1) := by decide +kernel
theorem dX10_tryThing_86 : decode cX10_tryThing 86 = .ok (.iload_n 3, 1) := by decide +kernel
theorem dX10_tryThing_87 : decode cX10_tryThing 87 = .ok (.invokevirtual 143, 3) := by decide +kernel
theorem dX10_tryThing_90 : decode cX10_tryThing 90 = .ok (.iload 4, 2) := by decide +kernel
theorem dX10_tryThing_92 : decode cX10_tryThing 92 = .ok (.ireturn, 1) := by decide +kernel
theorem dX10_tryThing_93 : decode cX10_tryThing 93 = .ok (.aload_n 0, 1) := by decide +kernel
theorem dX10_tryThing_94 : decode cX10_tryThing 94 = .ok (.iload_n 2, 1) := by decide +kernel
theorem dX10_tryThing_95 : decode cX10_tryThing 95 = .ok (.invokevirtual 119, 3) := by decide +kernel
theorem dX10_tryThing_98 : decode cX10_tryThing 98 = .ok (.ifCond .eq 20, 3) := by decide +kernel
theorem dX10_tryThing_101 : decode cX10_tryThing 101 = .ok (.aload_n 0, 1) := by decide +kernel
theorem dX10_tryThing_102 : decode cX10_tryThing 102 = .ok (.iload_n 3, 1) := by decide +kernel
theorem dX10_tryThing_103 : decode cX10_tryThing 103 = .ok (.invokevirtual 119, 3) := by decide +kernel
theorem dX10_tryThing_106 : decode cX10_tryThing 106 = .ok (.ifCond .eq 12, 3) := by decide +kernel
theorem dX10_tryThing_109 : decode cX10_tryThing 109 = .ok (.iload_n 2, 1) := by decide +kernel
theorem dX10_tryThing_110 : decode cX10_tryThing 110 = .ok (.iload_n 3, 1) := by decide +kernel
theorem dX10_tryThing_111 : decode cX10_tryThing 111 = .ok (.if_icmp .eq 7, 3) := by decide +kernel
theorem dX10_tryThing_114 : decode cX10_tryThing 114 = .ok (.iconst 1, 1) := by decide +kernel
theorem dX10_tryThing_115 : decode cX10_tryThing 115 = .ok (.goto 4, 3) := by decide +kernel
theorem dX10_tryThing_118 : decode cX10_tryThing 118 = .ok (.iconst 0, 1) := by decide +kernel
theorem dX10_tryThing_119 : decode cX10_tryThing 119 = .ok (.istore 5, 2) := by decide +kernel
theorem dX10_tryThing_121 : decode cX10_tryThing 121 = .ok (.iload 5, 2) := by decide +kernel
theorem dX10_tryThing_123 : decode cX10_tryThing 123 = .ok (.ifCond .eq 10, 3) := by decide +kernel
theorem dX10_tryThing_126 : decode cX10_tryThing 126 = .ok (.aload_n 0, 1) := by decide +kernel
theorem dX10_tryThing_127 : decode cX10_tryThing 127 = .ok (.iconst 1, 1) := by decide +kernel
theorem dX10_tryThing_128 : decode cX10_tryThing 128 = .ok (.iload_n 2, 1) := by decide +kernel
theorem dX10_tryThing_129 : decode cX10_tryThing 129 = .ok (.iload_n 3, 1) := by decide +kernel
theorem dX10_tryThing_130 : decode cX10_tryThing 130 = .ok (.invokevirtual 147, 3) := by decide +kernel
theorem dX10_tryThing_133 : decode cX10_tryThing 133 = .ok (.iload 5, 2) := by decide +kernel
theorem dX10_tryThing_135 : decode cX10_tryThing 135 = .ok (.ireturn, 1) := by decide +kernel
theorem dX10_tryThing_136 : decode cX10_tryThing 136 = .ok (.aload_n 0, 1) := by decide +kernel
theorem dX10_tryThing_137 : decode cX10_tryThing 137 = .ok (.iconst 1, 1) := by decide +kernel
theorem dX10_tryThing_138 : decode cX10_tryThing 138 = .ok (.invokevirtual 150, 3) := by decide +kernel
theorem dX10_tryThing_141 : decode cX10_tryThing 141 = .ok (.iload_n 2, 1) := by decide +kernel
theorem dX10_tryThing_142 : decode cX10_tryThing 142 = .ok (.ifCond .ne 11, 3) := by decide +kernel
theorem dX10_tryThing_145 : decode cX10_tryThing 145 = .ok (.iload_n 3, 1) := by decide +kernel
theorem dX10_tryThing_146 : decode cX10_tryThing 146 = .ok (.ifCond .ne 7, 3) := by decide +kernel
theorem dX10_tryThing_149 : decode cX10_tryThing 149 = .ok (.iconst 1, 1) := by decide +kernel
theorem dX10_tryThing_150 : decode cX10_tryThing 150 = .ok (.goto 4, 3) := by decide +kernel
theorem dX10_tryThing_153 : decode cX10_tryThing 153 = .ok (.iconst 0, 1) := by decide +kernel
theorem dX10_tryThing_154 : decode cX10_tryThing 154 = .ok (.ireturn, 1) := by decide +kernel
theorem dX10_tryThing_155 : decode cX10_tryThing 155 = .ok (.aload_n 0, 1) := by decide +kernel
theorem dX10_tryThing_156 : decode cX10_tryThing 156 = .ok (.iload_n 2, 1) := by decide +kernel
theorem dX10_tryThing_157 : decode cX10_tryThing 157 = .ok (.invokevirtual 119, 3) := by decide +kernel
theorem dX10_tryThing_160 : decode cX10_tryThing 160 = .ok (.ifCond .eq 20, 3) := by decide +kernel
theorem dX10_tryThing_163 : decode cX10_tryThing 163 = .ok (.aload_n 0, 1) := by decide +kernel
theorem dX10_tryThing_164 : decode cX10_tryThing 164 = .ok (.getfield 19, 3) := by decide +kernel
theorem dX10_tryThing_167 : decode cX10_tryThing 167 = .ok (.bipush 32, 2) := by decide +kernel
theorem dX10_tryThing_169 : decode cX10_tryThing 169 = .ok (.iload_n 2, 1) := by decide +kernel
theorem dX10_tryThing_170 : decode cX10_tryThing 170 = .ok (.iadd, 1) := by decide +kernel
theorem dX10_tryThing_171 : decode cX10_tryThing 171 = .ok (.iaload, 1) := by decide +kernel
theorem dX10_tryThing_172 : decode cX10_tryThing 172 = .ok (.iload_n 3, 1) := by decide +kernel
theorem dX10_tryThing_173 : decode cX10_tryThing 173 = .ok (.if_icmp .ne 7, 3) := by decide +kernel
theorem dX10_tryThing_176 : decode cX10_tryThing 176 = .ok (.iconst 1, 1) := by decide +kernel
theorem dX10_tryThing_177 : decode cX10_tryThing 177 = .ok (.goto 4, 3) := by decide +kernel
theorem dX10_tryThing_180 : decode cX10_tryThing 180 = .ok (.iconst 0, 1) := by decide +kernel
theorem dX10_tryThing_181 : decode cX10_tryThing 181 = .ok (.ireturn, 1) := by decide +kernel
theorem dX10_tryThing_182 : decode cX10_tryThing 182 = .ok (.aload_n 0, 1) := by decide +kernel
theorem dX10_tryThing_183 : decode cX10_tryThing 183 = .ok (.iload_n 2, 1) := by decide +kernel
theorem dX10_tryThing_184 : decode cX10_tryThing 184 = .ok (.invokevirtual 119, 3) := by decide +kernel
theorem dX10_tryThing_187 : decode cX10_tryThing 187 = .ok (.ifCond .eq 25, 3) := by decide +kernel
theorem dX10_tryThing_190 : decode cX10_tryThing 190 = .ok (.aload_n 0, 1) := by decide +kernel
theorem dX10_tryThing_191 : decode cX10_tryThing 191 = .ok (.iload_n 3, 1) := by decide +kernel
theorem dX10_tryThing_192 : decode cX10_tryThing 192 = .ok (.invokevirtual 119, 3) := by decide +kernel
theorem dX10_tryThing_195 : decode cX10_tryThing 195 = .ok (.ifCond .eq 17, 3) := by decide +kernel
theorem dX10_tryThing_198 : decode cX10_tryThing 198 = .ok (.aload_n 0, 1) := by decide +kernel
theorem dX10_tryThing_199 : decode cX10_tryThing 199 = .ok (.iconst 1, 1) := by decide +kernel
theorem dX10_tryThing_200 : decode cX10_tryThing 200 = .ok (.iload_n 2, 1) := by decide +kernel
theorem dX10_tryThing_201 : decode cX10_tryThing 201 = .ok (.invokevirtual 113, 3) := by decide +kernel
theorem dX10_tryThing_204 : decode cX10_tryThing 204 = .ok (.iload_n 3, 1) := by decide +kernel
theorem dX10_tryThing_205 : decode cX10_tryThing 205 = .ok (.if_icmp .ne 7, 3) := by decide +kernel
theorem dX10_tryThing_208 : decode cX10_tryThing 208 = .ok (.iconst 1, 1) := by decide +kernel
theorem dX10_tryThing_209 : decode cX10_tryThing 209 = .ok (.goto 4, 3) := by decide +kernel
theorem dX10_tryThing_212 : decode cX10_tryThing 212 = .ok (.iconst 0, 1) := by decide +kernel
theorem dX10_tryThing_213 : decode cX10_tryThing 213 = .ok (.ireturn, 1) := by decide +kernel
theorem dX10_tryThing_214 : decode cX10_tryThing 214 = .ok (.iconst 0, 1) := by decide +kernel
theorem dX10_tryThing_215 : decode cX10_tryThing 215 = .ok (.ireturn, 1) := by decide +kernel
theorem dX10_thousandTo_0 : decode cX10_thousandTo 0 = .ok (.lconst 1, 1) := by decide +kernel
theorem dX10_thousandTo_1 : decode cX10_thousandTo 1 = .ok (.lstore_n 1, 1) := by decide +kernel
theorem dX10_thousandTo_2 : decode cX10_thousandTo 2 = .ok (.iconst 0, 1) := by decide +kernel
theorem dX10_thousandTo_3 : decode cX10_thousandTo 3 = .ok (.istore_n 3, 1) := by decide +kernel
theorem dX10_thousandTo_4 : decode cX10_thousandTo 4 = .ok (.iload_n 3, 1) := by decide +kernel
theorem dX10_thousandTo_5 : decode cX10_thousandTo 5 = .ok (.iload_n 0, 1) := by decide +kernel
theorem dX10_thousandTo_6 : decode cX10_thousandTo 6 = .ok (.if_icmp .ge 15, 3) := by decide +kernel
theorem dX10_thousandTo_9 : decode cX10_thousandTo 9 = .ok (.lload_n 1, 1) := by decide +kernel
theorem dX10_thousandTo_10 : decode cX10_thousandTo 10 = .ok (.ldc2_w 175, 3) := by decide +kernel
theorem dX10_thousandTo_13 : decode cX10_thousandTo 13 = .ok (.lmul, 1) := by decide +kernel
theorem dX10_thousandTo_14 : decode cX10_thousandTo 14 = .ok (.lstore_n 1, 1) := by decide +kernel
theorem dX10_thousandTo_15 : decode cX10_thousandTo 15 = .ok (.iinc 3 1, 3) := by decide +kernel
theorem dX10_thousandTo_18 : decode cX10_thousandTo 18 = .ok (.goto (-14), 3) := by decide +kernel
theorem dX10_thousandTo_21 : decode cX10_thousandTo 21 = .ok (.lload_n 1, 1) := by decide +kernel
theorem dX10_thousandTo_22 : decode cX10_thousandTo 22 = .ok (.lreturn, 1) := by decide +kernel
theorem dX10_judge_0 : decode cX10_judge 0 = .ok (.iload_n 1, 1) := by decide +kernel
theorem dX10_judge_1 : decode cX10_judge 1 = .ok (.i2l, 1) := by decide +kernel
theorem dX10_judge_2 : decode cX10_judge 2 = .ok (.lconst 1, 1) := by decide +kernel
theorem dX10_judge_3 : decode cX10_judge 3 = .ok (.ldc2_w 177, 3) := by decide +kernel
theorem dX10_judge_6 : decode cX10_judge 6 = .ok (.invokestatic 59, 3) := by decide +kernel
theorem dX10_judge_9 : decode cX10_judge 9 = .ok (.ifCond .eq 17, 3) := by decide +kernel
theorem dX10_judge_12 : decode cX10_judge 12 = .ok (.lload_n 2, 1) := by decide +kernel
theorem dX10_judge_13 : decode cX10_judge 13 = .ok (.lconst 0, 1) := by decide +kernel
theorem dX10_judge_14 : decode cX10_judge 14 = .ok (.iload_n 1, 1) := by decide +kernel
theorem dX10_judge_15 : decode cX10_judge 15 = .ok (.invokestatic 179, 3) := by decide +kernel
theorem dX10_judge_18 : decode cX10_judge 18 = .ok (.lconst 1, 1) := by decide +kernel
theorem dX10_judge_19 : decode cX10_judge 19 = .ok (.lsub, 1) := by decide +kernel
theorem dX10_judge_20 : decode cX10_judge 20 = .ok (.invokestatic 59, 3) := by decide +kernel
theorem dX10_judge_23 : decode cX10_judge 23 = .ok (.ifCond .ne 6, 3) := by decide +kernel
theorem dX10_judge_26 : decode cX10_judge 26 = .ok (.bipush (-2), 2) := by decide +kernel
theorem dX10_judge_28 : decode cX10_judge 28 = .ok (.ireturn, 1) := by decide +kernel
theorem dX10_judge_29 : decode cX10_judge 29 = .ok (.aload_n 0, 1) := by decide +kernel
theorem dX10_judge_30 : decode cX10_judge 30 = .ok (.invokevirtual 155, 3) := by decide +kernel
theorem dX10_judge_33 : decode cX10_judge 33 = .ok (.iconst 0, 1) := by decide +kernel
theorem dX10_judge_34 : decode cX10_judge 34 = .ok (.istore 4, 2) := by decide +kernel
theorem dX10_judge_36 : decode cX10_judge 36 = .ok (.iload 4, 2) := by decide +kernel
theorem dX10_judge_38 : decode cX10_judge 38 = .ok (.iload_n 1, 1) := by decide +kernel
theorem dX10_judge_39 : decode cX10_judge 39 = .ok (.if_icmp .ge 55, 3) := by decide +kernel
theorem dX10_judge_42 : decode cX10_judge 42 = .ok (.lload_n 2, 1) := by decide +kernel
theorem dX10_judge_43 : decode cX10_judge 43 = .ok (.iload_n 1, 1) := by decide +kernel
theorem dX10_judge_44 : decode cX10_judge 44 = .ok (.iconst 1, 1) := by decide +kernel
theorem dX10_judge_45 : decode cX10_judge 45 = .ok (.isub, 1) := by decide +kernel
theorem dX10_judge_46 : decode cX10_judge 46 = .ok (.iload 4, 2) := by decide +kernel
theorem dX10_judge_48 : decode cX10_judge 48 = .ok (.isub, 1) := by decide +kernel
theorem dX10_judge_49 : decode cX10_judge 49 = .ok (.invokestatic 179, 3) := by decide +kernel
theorem dX10_judge_52 : decode cX10_judge 52 = .ok (.ldiv, 1) := by decide +kernel
theorem dX10_judge_53 : decode cX10_judge 53 = .ok (.ldc2_w 175, 3) := by decide +kernel
theorem dX10_judge_56 : decode cX10_judge 56 = .ok (.lrem, 1) := by decide +kernel
theorem dX10_judge_57 : decode cX10_judge 57 = .ok (.l2i, 1) := by decide +kernel
theorem dX10_judge_58 : decode cX10_judge 58 = .ok (.istore 5, 2) := by decide +kernel
theorem dX10_judge_60 : decode cX10_judge 60 = .ok (.aload_n 0, 1) := by decide +kernel
theorem dX10_judge_61 : decode cX10_judge 61 = .ok (.iload 5, 2) := by decide +kernel
theorem dX10_judge_63 : decode cX10_judge 63 = .ok (.bipush 100, 2) := by decide +kernel
theorem dX10_judge_65 : decode cX10_judge 65 = .ok (.idiv, 1) := by decide +kernel
theorem dX10_judge_66 : decode cX10_judge 66 = .ok (.iload 5, 2) := by decide +kernel
theorem dX10_judge_68 : decode cX10_judge 68 = .ok (.bipush 10, 2) := by decide +kernel
theorem dX10_judge_70 : decode cX10_judge 70 = .ok (.idiv, 1) := by decide +kernel
theorem dX10_judge_71 : decode cX10_judge 71 = .ok (.bipush 10, 2) := by decide +kernel
theorem dX10_judge_73 : decode cX10_judge 73 = .ok (.irem, 1) := by decide +kernel
theorem dX10_judge_74 : decode cX10_judge 74 = .ok (.iload 5, 2) := by decide +kernel
theorem dX10_judge_76 : decode cX10_judge 76 = .ok (.bipush 10, 2) := by decide +kernel
theorem dX10_judge_78 : decode cX10_judge 78 = .ok (.irem, 1) := by decide +kernel
theorem dX10_judge_79 : decode cX10_judge 79 = .ok (.invokevirtual 183, 3) := by decide +kernel
theorem dX10_judge_82 : decode cX10_judge 82 = .ok (.ifCond .ne 6, 3) := by decide +kernel
theorem dX10_judge_85 : decode cX10_judge 85 = .ok (.iload 4, 2) := by decide +kernel
theorem dX10_judge_87 : decode cX10_judge 87 = .ok (.ireturn, 1) := by decide +kernel
theorem dX10_judge_88 : decode cX10_judge 88 = .ok (.iinc 4 1, 3) := by decide +kernel
theorem dX10_judge_91 : decode cX10_judge 91 = .ok (.goto (-55), 3) := by decide +kernel
theorem dX10_judge_94 : decode cX10_judge 94 = .ok (.bipush (-9), 2) := by decide +kernel
theorem dX10_judge_96 : decode cX10_judge 96 = .ok (.ireturn, 1) := by decide +kernel
theorem dX10_hear_0 : decode cX10_hear 0 = .ok (.aload_n 0, 1) := by decide +kernel
theorem dX10_hear_1 : decode cX10_hear 1 = .ok (.iload_n 1, 1) := by decide +kernel
theorem dX10_hear_2 : decode cX10_hear 2 = .ok (.invokevirtual 119, 3) := by decide +kernel
theorem dX10_hear_5 : decode cX10_hear 5 = .ok (.ifCond .ne 5, 3) := by decide +kernel
theorem dX10_hear_8 : decode cX10_hear 8 = .ok (.iconst (-1), 1) := by decide +kernel
theorem dX10_hear_9 : decode cX10_hear 9 = .ok (.ireturn, 1) := by decide +kernel
theorem dX10_hear_10 : decode cX10_hear 10 = .ok (.iload_n 2, 1) := by decide +kernel
theorem dX10_hear_11 : decode cX10_hear 11 = .ok (.i2l, 1) := by decide +kernel
theorem dX10_hear_12 : decode cX10_hear 12 = .ok (.lconst 0, 1) := by decide +kernel
theorem dX10_hear_13 : decode cX10_hear 13 = .ok (.ldc2_w 72, 3) := by decide +kernel
theorem dX10_hear_16 : decode cX10_hear 16 = .ok (.invokestatic 59, 3) := by decide +kernel
theorem dX10_hear_19 : decode cX10_hear 19 = .ok (.ifCond .eq 15, 3) := by decide +kernel
theorem dX10_hear_22 : decode cX10_hear 22 = .ok (.iload_n 3, 1) := by decide +kernel
theorem dX10_hear_23 : decode cX10_hear 23 = .ok (.i2l, 1) := by decide +kernel
theorem dX10_hear_24 : decode cX10_hear 24 = .ok (.lconst 0, 1) := by decide +kernel
theorem dX10_hear_25 : decode cX10_hear 25 = .ok (.ldc2_w 72, 3) := by decide +kernel
theorem dX10_hear_28 : decode cX10_hear 28 = .ok (.invokestatic 59, 3) := by decide +kernel
theorem dX10_hear_31 : decode cX10_hear 31 = .ok (.ifCond .ne 6, 3) := by decide +kernel
theorem dX10_hear_34 : decode cX10_hear 34 = .ok (.bipush (-2), 2) := by decide +kernel
theorem dX10_hear_36 : decode cX10_hear 36 = .ok (.ireturn, 1) := by decide +kernel
theorem dX10_hear_37 : decode cX10_hear 37 = .ok (.aload_n 0, 1) := by decide +kernel
theorem dX10_hear_38 : decode cX10_hear 38 = .ok (.getfield 187, 3) := by decide +kernel
theorem dX10_hear_41 : decode cX10_hear 41 = .ok (.bipush 6, 2) := by decide +kernel
theorem dX10_hear_43 : decode cX10_hear 43 = .ok (.if_icmp .ne 6, 3) := by decide +kernel
theorem dX10_hear_46 : decode cX10_hear 46 = .ok (.bipush (-4), 2) := by decide +kernel
theorem dX10_hear_48 : decode cX10_hear 48 = .ok (.ireturn, 1) := by decide +kernel
theorem dX10_hear_49 : decode cX10_hear 49 = .ok (.aload_n 0, 1) := by decide +kernel
theorem dX10_hear_50 : decode cX10_hear 50 = .ok (.getfield 41, 3) := by decide +kernel
theorem dX10_hear_53 : decode cX10_hear 53 = .ok (.aload_n 0, 1) := by decide +kernel
theorem dX10_hear_54 : decode cX10_hear 54 = .ok (.getfield 187, 3) := by decide +kernel
theorem dX10_hear_57 : decode cX10_hear 57 = .ok (.iload_n 1, 1) := by decide +kernel
theorem dX10_hear_58 : decode cX10_hear 58 = .ok (.iastore, 1) := by decide +kernel
theorem dX10_hear_59 : decode cX10_hear 59 = .ok (.aload_n 0, 1) := by decide +kernel
theorem dX10_hear_60 : decode cX10_hear 60 = .ok (.getfield 44, 3) := by decide +kernel
theorem dX10_hear_63 : decode cX10_hear 63 = .ok (.aload_n 0, 1) := by decide +kernel
theorem dX10_hear_64 : decode cX10_hear 64 = .ok (.getfield 187, 3) := by decide +kernel
theorem dX10_hear_67 : decode cX10_hear 67 = .ok (.iload_n 2, 1) := by decide +kernel
theorem dX10_hear_68 : decode cX10_hear 68 = .ok (.iastore, 1) := by decide +kernel
theorem dX10_hear_69 : decode cX10_hear 69 = .ok (.aload_n 0, 1) := by decide +kernel
theorem dX10_hear_70 : decode cX10_hear 70 = .ok (.getfield 47, 3) := by decide +kernel
theorem dX10_hear_73 : decode cX10_hear 73 = .ok (.aload_n 0, 1) := by decide +kernel
theorem dX10_hear_74 : decode cX10_hear 74 = .ok (.getfield 187, 3) := by decide +kernel
theorem dX10_hear_77 : decode cX10_hear 77 = .ok (.iload_n 3, 1) := by decide +kernel
theorem dX10_hear_78 : decode cX10_hear 78 = .ok (.iastore, 1) := by decide +kernel
theorem dX10_hear_79 : decode cX10_hear 79 = .ok (.aload_n 0, 1) := by decide +kernel
theorem dX10_hear_80 : decode cX10_hear 80 = .ok (.dup, 1) := by decide +kernel
theorem dX10_hear_81 : decode cX10_hear 81 = .ok (.getfield 187, 3) := by decide +kernel
theorem dX10_hear_84 : decode cX10_hear 84 = .ok (.iconst 1, 1) := by decide +kernel
theorem dX10_hear_85 : decode cX10_hear 85 = .ok (.iadd, 1) := by decide +kernel
theorem dX10_hear_86 : decode cX10_hear 86 = .ok (.putfield 187, 3) := by decide +kernel
theorem dX10_hear_89 : decode cX10_hear 89 = .ok (.aload_n 0, 1) := by decide +kernel
theorem dX10_hear_90 : decode cX10_hear 90 = .ok (.getfield 187, 3) := by decide +kernel
theorem dX10_hear_93 : decode cX10_hear 93 = .ok (.ireturn, 1) := by decide +kernel
theorem dX10_unhear_0 : decode cX10_unhear 0 = .ok (.aload_n 0, 1) := by decide +kernel
theorem dX10_unhear_1 : decode cX10_unhear 1 = .ok (.getfield 187, 3) := by decide +kernel
theorem dX10_unhear_4 : decode cX10_unhear 4 = .ok (.istore_n 1, 1) := by decide +kernel
theorem dX10_unhear_5 : decode cX10_unhear 5 = .ok (.aload_n 0, 1) := by decide +kernel
theorem dX10_unhear_6 : decode cX10_unhear 6 = .ok (.iconst 0, 1) := by decide +kernel
theorem dX10_unhear_7 : decode cX10_unhear 7 = .ok (.putfield 187, 3) := by decide +kernel
theorem dX10_unhear_10 : decode cX10_unhear 10 = .ok (.iload_n 1, 1) := by decide +kernel
theorem dX10_unhear_11 : decode cX10_unhear 11 = .ok (.ireturn, 1) := by decide +kernel
theorem dX10_mayHave_0 : decode cX10_mayHave 0 = .ok (.iconst 1, 1) := by decide +kernel
theorem dX10_mayHave_1 : decode cX10_mayHave 1 = .ok (.istore_n 3, 1) := by decide +kernel
theorem dX10_mayHave_2 : decode cX10_mayHave 2 = .ok (.iconst 0, 1) := by decide +kernel
theorem dX10_mayHave_3 : decode cX10_mayHave 3 = .ok (.istore 4, 2) := by decide +kernel
theorem dX10_mayHave_5 : decode cX10_mayHave 5 = .ok (.iload 4, 2) := by decide +kernel
theorem dX10_mayHave_7 : decode cX10_mayHave 7 = .ok (.aload_n 0, 1) := by decide +kernel
theorem dX10_mayHave_8 : decode cX10_mayHave 8 = .ok (.getfield 187, 3) := by decide +kernel
theorem dX10_mayHave_11 : decode cX10_mayHave 11 = .ok (.if_icmp .ge 83, 3) := by decide +kernel
theorem dX10_mayHave_14 : decode cX10_mayHave 14 = .ok (.aload_n 0, 1) := by decide +kernel
theorem dX10_mayHave_15 : decode cX10_mayHave 15 = .ok (.invokevirtual 155, 3) := by decide +kernel
theorem dX10_mayHave_18 : decode cX10_mayHave 18 = .ok (.aload_n 0, 1) := by decide +kernel
theorem dX10_mayHave_19 : decode cX10_mayHave 19 = .ok (.getfield 19, 3) := by decide +kernel
theorem dX10_mayHave_22 : decode cX10_mayHave 22 = .ok (.bipush 26, 2) := by decide +kernel
theorem dX10_mayHave_24 : decode cX10_mayHave 24 = .ok (.iload_n 1, 1) := by decide +kernel
theorem dX10_mayHave_25 : decode cX10_mayHave 25 = .ok (.iadd, 1) := by decide +kernel
theorem dX10_mayHave_26 : decode cX10_mayHave 26 = .ok (.iload_n 2, 1) := by decide +kernel
theorem dX10_mayHave_27 : decode cX10_mayHave 27 = .ok (.iastore, 1) := by decide +kernel
theorem dX10_mayHave_28 : decode cX10_mayHave 28 = .ok (.aload_n 0, 1) := by decide +kernel
theorem dX10_mayHave_29 : decode cX10_mayHave 29 = .ok (.aload_n 0, 1) := by decide +kernel
theorem dX10_mayHave_30 : decode cX10_mayHave 30 = .ok (.getfield 44, 3) := by decide +kernel
theorem dX10_mayHave_33 : decode cX10_mayHave 33 = .ok (.iload 4, 2) := by decide +kernel
theorem dX10_mayHave_35 : decode cX10_mayHave 35 = .ok (.iaload, 1) := by decide +kernel
theorem dX10_mayHave_36 : decode cX10_mayHave 36 = .ok (.invokevirtual 158, 3) := by decide +kernel
theorem dX10_mayHave_39 : decode cX10_mayHave 39 = .ok (.iload_n 3, 1) := by decide +kernel
theorem dX10_mayHave_40 : decode cX10_mayHave 40 = .ok (.ifCond .eq 46, 3) := by decide +kernel
theorem dX10_mayHave_43 : decode cX10_mayHave 43 = .ok (.aload_n 0, 1) := by decide +kernel
theorem dX10_mayHave_44 : decode cX10_mayHave 44 = .ok (.aload_n 0, 1) := by decide +kernel
theorem dX10_mayHave_45 : decode cX10_mayHave 45 = .ok (.getfield 41, 3) := by decide +kernel
theorem dX10_mayHave_48 : decode cX10_mayHave 48 = .ok (.iload 4, 2) := by decide +kernel
theorem dX10_mayHave_50 : decode cX10_mayHave 50 = .ok (.iaload, 1) := by decide +kernel
theorem dX10_mayHave_51 : decode cX10_mayHave 51 = .ok (.invokevirtual 119, 3) := by decide +kernel
theorem dX10_mayHave_54 : decode cX10_mayHave 54 = .ok (.ifCond .eq 28, 3) := by decide +kernel
theorem dX10_mayHave_57 : decode cX10_mayHave 57 = .ok (.aload_n 0, 1) := by decide +kernel
theorem dX10_mayHave_58 : decode cX10_mayHave 58 = .ok (.getfield 19, 3) := by decide +kernel
theorem dX10_mayHave_61 : decode cX10_mayHave 61 = .ok (.bipush 32, 2) := by decide +kernel
theorem dX10_mayHave_63 : decode cX10_mayHave 63 = .ok (.aload_n 0, 1) := by decide +kernel
theorem dX10_mayHave_64 : decode cX10_mayHave 64 = .ok (.getfield 41, 3) := by decide +kernel
theorem dX10_mayHave_67 : decode cX10_mayHave 67 = .ok (.iload 4, 2) := by decide +kernel
theorem dX10_mayHave_69 : decode cX10_mayHave 69 = .ok (.iaload, 1) := by decide +kernel
theorem dX10_mayHave_70 : decode cX10_mayHave 70 = .ok (.iadd, 1) := by decide +kernel
theorem dX10_mayHave_71 : decode cX10_mayHave 71 = .ok (.iaload, 1) := by decide +kernel
theorem dX10_mayHave_72 : decode cX10_mayHave 72 = .ok (.aload_n 0, 1) := by decide +kernel
theorem dX10_mayHave_73 : decode cX10_mayHave 73 = .ok (.getfield 47, 3) := by decide +kernel
theorem dX10_mayHave_76 : decode cX10_mayHave 76 = .ok (.iload 4, 2) := by decide +kernel
theorem dX10_mayHave_78 : decode cX10_mayHave 78 = .ok (.iaload, 1) := by decide +kernel
theorem dX10_mayHave_79 : decode cX10_mayHave 79 = .ok (.if_icmp .ne 7, 3) := by decide +kernel
theorem dX10_mayHave_82 : decode cX10_mayHave 82 = .ok (.iconst 1, 1) := by decide +kernel
theorem dX10_mayHave_83 : decode cX10_mayHave 83 = .ok (.goto 4, 3) := by decide +kernel
theorem dX10_mayHave_86 : decode cX10_mayHave 86 = .ok (.iconst 0, 1) := by decide +kernel
theorem dX10_mayHave_87 : decode cX10_mayHave 87 = .ok (.istore_n 3, 1) := by decide +kernel
theorem dX10_mayHave_88 : decode cX10_mayHave 88 = .ok (.iinc 4 1, 3) := by decide +kernel
theorem dX10_mayHave_91 : decode cX10_mayHave 91 = .ok (.goto (-86), 3) := by decide +kernel
theorem dX10_mayHave_94 : decode cX10_mayHave 94 = .ok (.iload_n 3, 1) := by decide +kernel
theorem dX10_mayHave_95 : decode cX10_mayHave 95 = .ok (.ireturn, 1) := by decide +kernel
theorem dX10_had_0 : decode cX10_had 0 = .ok (.aload_n 0, 1) := by decide +kernel
theorem dX10_had_1 : decode cX10_had 1 = .ok (.iload_n 1, 1) := by decide +kernel
theorem dX10_had_2 : decode cX10_had 2 = .ok (.invokevirtual 119, 3) := by decide +kernel
theorem dX10_had_5 : decode cX10_had 5 = .ok (.ifCond .ne 5, 3) := by decide +kernel
theorem dX10_had_8 : decode cX10_had 8 = .ok (.iconst (-1), 1) := by decide +kernel
theorem dX10_had_9 : decode cX10_had 9 = .ok (.ireturn, 1) := by decide +kernel
theorem dX10_had_10 : decode cX10_had 10 = .ok (.iconst 0, 1) := by decide +kernel
theorem dX10_had_11 : decode cX10_had 11 = .ok (.istore_n 2, 1) := by decide +kernel
theorem dX10_had_12 : decode cX10_had 12 = .ok (.iconst 0, 1) := by decide +kernel
theorem dX10_had_13 : decode cX10_had 13 = .ok (.istore_n 3, 1) := by decide +kernel
theorem dX10_had_14 : decode cX10_had 14 = .ok (.iload_n 3, 1) := by decide +kernel
theorem dX10_had_15 : decode cX10_had 15 = .ok (.bipush 10, 2) := by decide +kernel
theorem dX10_had_17 : decode cX10_had 17 = .ok (.if_icmp .ge 28, 3) := by decide +kernel
theorem dX10_had_20 : decode cX10_had 20 = .ok (.iload_n 2, 1) := by decide +kernel
theorem dX10_had_21 : decode cX10_had 21 = .ok (.aload_n 0, 1) := by decide +kernel
theorem dX10_had_22 : decode cX10_had 22 = .ok (.iload_n 1, 1) := by decide +kernel
theorem dX10_had_23 : decode cX10_had 23 = .ok (.iload_n 3, 1) := by decide +kernel
theorem dX10_had_24 : decode cX10_had 24 = .ok (.invokevirtual 190, 3) := by decide +kernel
theorem dX10_had_27 : decode cX10_had 27 = .ok (.ifCond .eq 9, 3) := by decide +kernel
theorem dX10_had_30 : decode cX10_had 30 = .ok (.iconst 1, 1) := by decide +kernel
theorem dX10_had_31 : decode cX10_had 31 = .ok (.iload_n 3, 1) := by decide +kernel
theorem dX10_had_32 : decode cX10_had 32 = .ok (.ishl, 1) := by decide +kernel
theorem dX10_had_33 : decode cX10_had 33 = .ok (.goto 4, 3) := by decide +kernel
theorem dX10_had_36 : decode cX10_had 36 = .ok (.iconst 0, 1) := by decide +kernel
theorem dX10_had_37 : decode cX10_had 37 = .ok (.ior, 1) := by decide +kernel
theorem dX10_had_38 : decode cX10_had 38 = .ok (.istore_n 2, 1) := by decide +kernel
theorem dX10_had_39 : decode cX10_had 39 = .ok (.iinc 3 1, 3) := by decide +kernel
theorem dX10_had_42 : decode cX10_had 42 = .ok (.goto (-28), 3) := by decide +kernel
theorem dX10_had_45 : decode cX10_had 45 = .ok (.iload_n 2, 1) := by decide +kernel
theorem dX10_had_46 : decode cX10_had 46 = .ok (.ireturn, 1) := by decide +kernel
theorem dX10_factorial_0 : decode cX10_factorial 0 = .ok (.iconst 1, 1) := by decide +kernel
theorem dX10_factorial_1 : decode cX10_factorial 1 = .ok (.istore_n 1, 1) := by decide +kernel
theorem dX10_factorial_2 : decode cX10_factorial 2 = .ok (.iconst 2, 1) := by decide +kernel
theorem dX10_factorial_3 : decode cX10_factorial 3 = .ok (.istore_n 2, 1) := by decide +kernel
theorem dX10_factorial_4 : decode cX10_factorial 4 = .ok (.iload_n 2, 1) := by decide +kernel
theorem dX10_factorial_5 : decode cX10_factorial 5 = .ok (.iload_n 0, 1) := by decide +kernel
theorem dX10_factorial_6 : decode cX10_factorial 6 = .ok (.if_icmp .gt 13, 3) := by decide +kernel
theorem dX10_factorial_9 : decode cX10_factorial 9 = .ok (.iload_n 1, 1) := by decide +kernel
theorem dX10_factorial_10 : decode cX10_factorial 10 = .ok (.iload_n 2, 1) := by decide +kernel
theorem dX10_factorial_11 : decode cX10_factorial 11 = .ok (.imul, 1) := by decide +kernel
theorem dX10_factorial_12 : decode cX10_factorial 12 = .ok (.istore_n 1, 1) := by decide +kernel
theorem dX10_factorial_13 : decode cX10_factorial 13 = .ok (.iinc 2 1, 3) := by decide +kernel
theorem dX10_factorial_16 : decode cX10_factorial 16 = .ok (.goto (-12), 3) := by decide +kernel
theorem dX10_factorial_19 : decode cX10_factorial 19 = .ok (.iload_n 1, 1) := by decide +kernel
theorem dX10_factorial_20 : decode cX10_factorial 20 = .ok (.ireturn, 1) := by decide +kernel
theorem dX10_common_0 : decode cX10_common 0 = .ok (.iload_n 0, 1) := by decide +kernel
theorem dX10_common_1 : decode cX10_common 1 = .ok (.ifCond .ge 8, 3) := by decide +kernel
theorem dX10_common_4 : decode cX10_common 4 = .ok (.iload_n 0, 1) := by decide +kernel
theorem dX10_common_5 : decode cX10_common 5 = .ok (.ineg, 1) := by decide +kernel
theorem dX10_common_6 : decode cX10_common 6 = .ok (.goto 4, 3) := by decide +kernel
theorem dX10_common_9 : decode cX10_common 9 = .ok (.iload_n 0, 1) := by decide +kernel
theorem dX10_common_10 : decode cX10_common 10 = .ok (.istore_n 2, 1) := by decide +kernel
theorem dX10_common_11 : decode cX10_common 11 = .ok (.iload_n 1, 1) := by decide +kernel
theorem dX10_common_12 : decode cX10_common 12 = .ok (.istore_n 3, 1) := by decide +kernel
theorem dX10_common_13 : decode cX10_common 13 = .ok (.iload_n 3, 1) := by decide +kernel
theorem dX10_common_14 : decode cX10_common 14 = .ok (.ifCond .eq 16, 3) := by decide +kernel
theorem dX10_common_17 : decode cX10_common 17 = .ok (.iload_n 2, 1) := by decide +kernel
theorem dX10_common_18 : decode cX10_common 18 = .ok (.iload_n 3, 1) := by decide +kernel
theorem dX10_common_19 : decode cX10_common 19 = .ok (.irem, 1) := by decide +kernel
theorem dX10_common_20 : decode cX10_common 20 = .ok (.istore 4, 2) := by decide +kernel
theorem dX10_common_22 : decode cX10_common 22 = .ok (.iload_n 3, 1) := by decide +kernel
theorem dX10_common_23 : decode cX10_common 23 = .ok (.istore_n 2, 1) := by decide +kernel
theorem dX10_common_24 : decode cX10_common 24 = .ok (.iload 4, 2) := by decide +kernel
theorem dX10_common_26 : decode cX10_common 26 = .ok (.istore_n 3, 1) := by decide +kernel
theorem dX10_common_27 : decode cX10_common 27 = .ok (.goto (-14), 3) := by decide +kernel
theorem dX10_common_30 : decode cX10_common 30 = .ok (.iload_n 2, 1) := by decide +kernel
theorem dX10_common_31 : decode cX10_common 31 = .ok (.ireturn, 1) := by decide +kernel
theorem dX10_notesOf_0 : decode cX10_notesOf 0 = .ok (.aload_n 0, 1) := by decide +kernel
theorem dX10_notesOf_1 : decode cX10_notesOf 1 = .ok (.iload_n 1, 1) := by decide +kernel
theorem dX10_notesOf_2 : decode cX10_notesOf 2 = .ok (.putfield 28, 3) := by decide +kernel
theorem dX10_notesOf_5 : decode cX10_notesOf 5 = .ok (.aload_n 0, 1) := by decide +kernel
theorem dX10_notesOf_6 : decode cX10_notesOf 6 = .ok (.invokevirtual 155, 3) := by decide +kernel
theorem dX10_notesOf_9 : decode cX10_notesOf 9 = .ok (.aload_n 0, 1) := by decide +kernel
theorem dX10_notesOf_10 : decode cX10_notesOf 10 = .ok (.iload_n 2, 1) := by decide +kernel
theorem dX10_notesOf_11 : decode cX10_notesOf 11 = .ok (.invokevirtual 158, 3) := by decide +kernel
theorem dX10_notesOf_14 : decode cX10_notesOf 14 = .ok (.aload_n 0, 1) := by decide +kernel
theorem dX10_notesOf_15 : decode cX10_notesOf 15 = .ok (.iconst 1, 1) := by decide +kernel
theorem dX10_notesOf_16 : decode cX10_notesOf 16 = .ok (.invokevirtual 137, 3) := by decide +kernel
theorem dX10_notesOf_19 : decode cX10_notesOf 19 = .ok (.invokestatic 140, 3) := by decide +kernel
theorem dX10_notesOf_22 : decode cX10_notesOf 22 = .ok (.istore_n 3, 1) := by decide +kernel
theorem dX10_notesOf_23 : decode cX10_notesOf 23 = .ok (.aload_n 0, 1) := by decide +kernel
theorem dX10_notesOf_24 : decode cX10_notesOf 24 = .ok (.bipush 63, 2) := by decide +kernel
theorem dX10_notesOf_26 : decode cX10_notesOf 26 = .ok (.putfield 28, 3) := by decide +kernel
theorem dX10_notesOf_29 : decode cX10_notesOf 29 = .ok (.iload_n 3, 1) := by decide +kernel
theorem dX10_notesOf_30 : decode cX10_notesOf 30 = .ok (.ireturn, 1) := by decide +kernel
theorem dX10_share_0 : decode cX10_share 0 = .ok (.aload_n 0, 1) := by decide +kernel
theorem dX10_share_1 : decode cX10_share 1 = .ok (.iload_n 1, 1) := by decide +kernel
theorem dX10_share_2 : decode cX10_share 2 = .ok (.invokevirtual 119, 3) := by decide +kernel
theorem dX10_share_5 : decode cX10_share 5 = .ok (.ifCond .ne 5, 3) := by decide +kernel
theorem dX10_share_8 : decode cX10_share 8 = .ok (.iconst (-1), 1) := by decide +kernel
theorem dX10_share_9 : decode cX10_share 9 = .ok (.ireturn, 1) := by decide +kernel
theorem dX10_share_10 : decode cX10_share 10 = .ok (.iconst 0, 1) := by decide +kernel
theorem dX10_share_11 : decode cX10_share 11 = .ok (.istore_n 3, 1) := by decide +kernel
theorem dX10_share_12 : decode cX10_share 12 = .ok (.iconst 0, 1) := by decide +kernel
theorem dX10_share_13 : decode cX10_share 13 = .ok (.istore 4, 2) := by decide +kernel
theorem dX10_share_15 : decode cX10_share 15 = .ok (.iload 4, 2) := by decide +kernel
theorem dX10_share_17 : decode cX10_share 17 = .ok (.iconst 1, 1) := by decide +kernel
theorem dX10_share_18 : decode cX10_share 18 = .ok (.aload_n 0, 1) := by decide +kernel
theorem dX10_share_19 : decode cX10_share 19 = .ok (.getfield 96, 3) := by decide +kernel
theorem dX10_share_22 : decode cX10_share 22 = .ok (.ishl, 1) := by decide +kernel
theorem dX10_share_23 : decode cX10_share 23 = .ok (.if_icmp .ge 71, 3) := by decide +kernel
theorem dX10_share_26 : decode cX10_share 26 = .ok (.iload 4, 2) := by decide +kernel
theorem dX10_share_28 : decode cX10_share 28 = .ok (.iload_n 1, 1) := by decide +kernel
theorem dX10_share_29 : decode cX10_share 29 = .ok (.invokestatic 74, 3) := by decide +kernel
theorem dX10_share_32 : decode cX10_share 32 = .ok (.ifCond .ne 56, 3) := by decide +kernel
theorem dX10_share_35 : decode cX10_share 35 = .ok (.iload 4, 2) := by decide +kernel
theorem dX10_share_37 : decode cX10_share 37 = .ok (.invokestatic 140, 3) := by decide +kernel
theorem dX10_share_40 : decode cX10_share 40 = .ok (.invokestatic 193, 3) := by decide +kernel
theorem dX10_share_43 : decode cX10_share 43 = .ok (.aload_n 0, 1) := by decide +kernel
theorem dX10_share_44 : decode cX10_share 44 = .ok (.getfield 96, 3) := by decide +kernel
theorem dX10_share_47 : decode cX10_share 47 = .ok (.iconst 1, 1) := by decide +kernel
theorem dX10_share_48 : decode cX10_share 48 = .ok (.isub, 1) := by decide +kernel
theorem dX10_share_49 : decode cX10_share 49 = .ok (.iload 4, 2) := by decide +kernel
theorem dX10_share_51 : decode cX10_share 51 = .ok (.invokestatic 140, 3) := by decide +kernel
theorem dX10_share_54 : decode cX10_share 54 = .ok (.isub, 1) := by decide +kernel
theorem dX10_share_55 : decode cX10_share 55 = .ok (.invokestatic 193, 3) := by decide +kernel
theorem dX10_share_58 : decode cX10_share 58 = .ok (.imul, 1) := by decide +kernel
theorem dX10_share_59 : decode cX10_share 59 = .ok (.istore 5, 2) := by decide +kernel
theorem dX10_share_61 : decode cX10_share 61 = .ok (.iload_n 3, 1) := by decide +kernel
theorem dX10_share_62 : decode cX10_share 62 = .ok (.iload 5, 2) := by decide +kernel
theorem dX10_share_64 : decode cX10_share 64 = .ok (.aload_n 0, 1) := by decide +kernel
theorem dX10_share_65 : decode cX10_share 65 = .ok (.iload 4, 2) := by decide +kernel
theorem dX10_share_67 : decode cX10_share 67 = .ok (.iconst 1, 1) := by decide +kernel
theorem dX10_share_68 : decode cX10_share 68 = .ok (.iload_n 1, 1) := by decide +kernel
theorem dX10_share_69 : decode cX10_share 69 = .ok (.ishl, 1) := by decide +kernel
theorem dX10_share_70 : decode cX10_share 70 = .ok (.ior, 1) := by decide +kernel
theorem dX10_share_71 : decode cX10_share 71 = .ok (.bipush 6, 2) := by decide +kernel
theorem dX10_share_73 : decode cX10_share 73 = .ok (.invokevirtual 196, 3) := by decide +kernel
theorem dX10_share_76 : decode cX10_share 76 = .ok (.aload_n 0, 1) := by decide +kernel
theorem dX10_share_77 : decode cX10_share 77 = .ok (.iload 4, 2) := by decide +kernel
theorem dX10_share_79 : decode cX10_share 79 = .ok (.bipush 6, 2) := by decide +kernel
theorem dX10_share_81 : decode cX10_share 81 = .ok (.invokevirtual 196, 3) := by decide +kernel
theorem dX10_share_84 : decode cX10_share 84 = .ok (.isub, 1) := by decide +kernel
theorem dX10_share_85 : decode cX10_share 85 = .ok (.imul, 1) := by decide +kernel
theorem dX10_share_86 : decode cX10_share 86 = .ok (.iadd, 1) := by decide +kernel
theorem dX10_share_87 : decode cX10_share 87 = .ok (.istore_n 3, 1) := by decide +kernel
theorem dX10_share_88 : decode cX10_share 88 = .ok (.iinc 4 1, 3) := by decide +kernel
theorem dX10_share_91 : decode cX10_share 91 = .ok (.goto (-76), 3) := by decide +kernel
theorem dX10_share_94 : decode cX10_share 94 = .ok (.iload_n 3, 1) := by decide +kernel
theorem dX10_share_95 : decode cX10_share 95 = .ok (.aload_n 0, 1) := by decide +kernel
theorem dX10_share_96 : decode cX10_share 96 = .ok (.getfield 96, 3) := by decide +kernel
theorem dX10_share_99 : decode cX10_share 99 = .ok (.invokestatic 193, 3) := by decide +kernel
theorem dX10_share_102 : decode cX10_share 102 = .ok (.invokestatic 199, 3) := by decide +kernel
theorem dX10_share_105 : decode cX10_share 105 = .ok (.istore 4, 2) := by decide +kernel
theorem dX10_share_107 : decode cX10_share 107 = .ok (.iload_n 2, 1) := by decide +kernel
theorem dX10_share_108 : decode cX10_share 108 = .ok (.ifCond .eq 10, 3) := by decide +kernel
theorem dX10_share_111 : decode cX10_share 111 = .ok (.iload_n 3, 1) := by decide +kernel
theorem dX10_share_112 : decode cX10_share 112 = .ok (.iload 4, 2) := by decide +kernel
theorem dX10_share_114 : decode cX10_share 114 = .ok (.idiv, 1) := by decide +kernel
theorem dX10_share_115 : decode cX10_share 115 = .ok (.goto 13, 3) := by decide +kernel
theorem dX10_share_118 : decode cX10_share 118 = .ok (.aload_n 0, 1) := by decide +kernel
theorem dX10_share_119 : decode cX10_share 119 = .ok (.getfield 96, 3) := by decide +kernel
theorem dX10_share_122 : decode cX10_share 122 = .ok (.invokestatic 193, 3) := by decide +kernel
theorem dX10_share_125 : decode cX10_share 125 = .ok (.iload 4, 2) := by decide +kernel
theorem dX10_share_127 : decode cX10_share 127 = .ok (.idiv, 1) := by decide +kernel
theorem dX10_share_128 : decode cX10_share 128 = .ok (.ireturn, 1) := by decide +kernel
theorem dX10_gain_0 : decode cX10_gain 0 = .ok (.aload_n 0, 1) := by decide +kernel
theorem dX10_gain_1 : decode cX10_gain 1 = .ok (.invokevirtual 155, 3) := by decide +kernel
theorem dX10_gain_4 : decode cX10_gain 4 = .ok (.aload_n 0, 1) := by decide +kernel
theorem dX10_gain_5 : decode cX10_gain 5 = .ok (.iconst 1, 1) := by decide +kernel
theorem dX10_gain_6 : decode cX10_gain 6 = .ok (.iload_n 2, 1) := by decide +kernel
theorem dX10_gain_7 : decode cX10_gain 7 = .ok (.iconst 4, 1) := by decide +kernel
theorem dX10_gain_8 : decode cX10_gain 8 = .ok (.invokevirtual 143, 3) := by decide +kernel
theorem dX10_gain_11 : decode cX10_gain 11 = .ok (.aload_n 0, 1) := by decide +kernel
theorem dX10_gain_12 : decode cX10_gain 12 = .ok (.iconst 1, 1) := by decide +kernel
theorem dX10_gain_13 : decode cX10_gain 13 = .ok (.iload_n 3, 1) := by decide +kernel
theorem dX10_gain_14 : decode cX10_gain 14 = .ok (.iconst 4, 1) := by decide +kernel
theorem dX10_gain_15 : decode cX10_gain 15 = .ok (.invokevirtual 143, 3) := by decide +kernel
theorem dX10_gain_18 : decode cX10_gain 18 = .ok (.aload_n 0, 1) := by decide +kernel
theorem dX10_gain_19 : decode cX10_gain 19 = .ok (.bipush 6, 2) := by decide +kernel
theorem dX10_gain_21 : decode cX10_gain 21 = .ok (.invokevirtual 158, 3) := by decide +kernel
theorem dX10_gain_24 : decode cX10_gain 24 = .ok (.iconst 0, 1) := by decide +kernel
theorem dX10_gain_25 : decode cX10_gain 25 = .ok (.istore 4, 2) := by decide +kernel
theorem dX10_gain_27 : decode cX10_gain 27 = .ok (.iconst 0, 1) := by decide +kernel
theorem dX10_gain_28 : decode cX10_gain 28 = .ok (.istore 5, 2) := by decide +kernel
theorem dX10_gain_30 : decode cX10_gain 30 = .ok (.iload 5, 2) := by decide +kernel
theorem dX10_gain_32 : decode cX10_gain 32 = .ok (.aload_n 0, 1) := by decide +kernel
theorem dX10_gain_33 : decode cX10_gain 33 = .ok (.getfield 96, 3) := by decide +kernel
theorem dX10_gain_36 : decode cX10_gain 36 = .ok (.if_icmp .ge 38, 3) := by decide +kernel
theorem dX10_gain_39 : decode cX10_gain 39 = .ok (.iload 4, 2) := by decide +kernel
theorem dX10_gain_41 : decode cX10_gain 41 = .ok (.aload_n 0, 1) := by decide +kernel
theorem dX10_gain_42 : decode cX10_gain 42 = .ok (.getfield 19, 3) := by decide +kernel
theorem dX10_gain_45 : decode cX10_gain 45 = .ok (.bipush 32, 2) := by decide +kernel
theorem dX10_gain_47 : decode cX10_gain 47 = .ok (.iload 5, 2) := by decide +kernel
theorem dX10_gain_49 : decode cX10_gain 49 = .ok (.iadd, 1) := by decide +kernel
theorem dX10_gain_50 : decode cX10_gain 50 = .ok (.iaload, 1) := by decide +kernel
theorem dX10_gain_51 : decode cX10_gain 51 = .ok (.aload_n 0, 1) := by decide +kernel
theorem dX10_gain_52 : decode cX10_gain 52 = .ok (.getfield 7, 3) := by decide +kernel
theorem dX10_gain_55 : decode cX10_gain 55 = .ok (.iload_n 1, 1) := by decide +kernel
theorem dX10_gain_56 : decode cX10_gain 56 = .ok (.iaload, 1) := by decide +kernel
theorem dX10_gain_57 : decode cX10_gain 57 = .ok (.if_icmp .ne 7, 3) := by decide +kernel
theorem dX10_gain_60 : decode cX10_gain 60 = .ok (.iconst 1, 1) := by decide +kernel
theorem dX10_gain_61 : decode cX10_gain 61 = .ok (.goto 4, 3) := by decide +kernel
theorem dX10_gain_64 : decode cX10_gain 64 = .ok (.iconst 0, 1) := by decide +kernel
theorem dX10_gain_65 : decode cX10_gain 65 = .ok (.iadd, 1) := by decide +kernel
theorem dX10_gain_66 : decode cX10_gain 66 = .ok (.istore 4, 2) := by decide +kernel
theorem dX10_gain_68 : decode cX10_gain 68 = .ok (.iinc 5 1, 3) := by decide +kernel
theorem dX10_gain_71 : decode cX10_gain 71 = .ok (.goto (-41), 3) := by decide +kernel
theorem dX10_gain_74 : decode cX10_gain 74 = .ok (.iload 4, 2) := by decide +kernel
theorem dX10_gain_76 : decode cX10_gain 76 = .ok (.ireturn, 1) := by decide +kernel
theorem dX10_isRest_0 : decode cX10_isRest 0 = .ok (.iconst 1, 1) := by decide +kernel
theorem dX10_isRest_1 : decode cX10_isRest 1 = .ok (.istore 5, 2) := by decide +kernel
theorem dX10_isRest_3 : decode cX10_isRest 3 = .ok (.iconst 0, 1) := by decide +kernel
theorem dX10_isRest_4 : decode cX10_isRest 4 = .ok (.istore 6, 2) := by decide +kernel
theorem dX10_isRest_6 : decode cX10_isRest 6 = .ok (.iload 6, 2) := by decide +kernel
theorem dX10_isRest_8 : decode cX10_isRest 8 = .ok (.aload_n 0, 1) := by decide +kernel
theorem dX10_isRest_9 : decode cX10_isRest 9 = .ok (.getfield 96, 3) := by decide +kernel
theorem dX10_isRest_12 : decode cX10_isRest 12 = .ok (.if_icmp .ge 60, 3) := by decide +kernel
theorem dX10_isRest_15 : decode cX10_isRest 15 = .ok (.iload 5, 2) := by decide +kernel
theorem dX10_isRest_17 : decode cX10_isRest 17 = .ok (.ifCond .eq 46, 3) := by decide +kernel
theorem dX10_isRest_20 : decode cX10_isRest 20 = .ok (.aload_n 0, 1) := by decide +kernel
theorem dX10_isRest_21 : decode cX10_isRest 21 = .ok (.iload_n 1, 1) := by decide +kernel
theorem dX10_isRest_22 : decode cX10_isRest 22 = .ok (.iload 6, 2) := by decide +kernel
theorem dX10_isRest_24 : decode cX10_isRest 24 = .ok (.iload 4, 2) := by decide +kernel
theorem dX10_isRest_26 : decode cX10_isRest 26 = .ok (.invokevirtual 202, 3) := by decide +kernel
theorem dX10_isRest_29 : decode cX10_isRest 29 = .ok (.aload_n 0, 1) := by decide +kernel
theorem dX10_isRest_30 : decode cX10_isRest 30 = .ok (.iload_n 1, 1) := by decide +kernel
theorem dX10_isRest_31 : decode cX10_isRest 31 = .ok (.iload_n 3, 1) := by decide +kernel
theorem dX10_isRest_32 : decode cX10_isRest 32 = .ok (.iload 4, 2) := by decide +kernel
theorem dX10_isRest_34 : decode cX10_isRest 34 = .ok (.invokevirtual 202, 3) := by decide +kernel
theorem dX10_isRest_37 : decode cX10_isRest 37 = .ok (.if_icmp .gt 26, 3) := by decide +kernel
theorem dX10_isRest_40 : decode cX10_isRest 40 = .ok (.aload_n 0, 1) := by decide +kernel
theorem dX10_isRest_41 : decode cX10_isRest 41 = .ok (.iload_n 2, 1) := by decide +kernel
theorem dX10_isRest_42 : decode cX10_isRest 42 = .ok (.iload_n 3, 1) := by decide +kernel
theorem dX10_isRest_43 : decode cX10_isRest 43 = .ok (.iload 6, 2) := by decide +kernel
theorem dX10_isRest_45 : decode cX10_isRest 45 = .ok (.invokevirtual 202, 3) := by decide +kernel
theorem dX10_isRest_48 : decode cX10_isRest 48 = .ok (.aload_n 0, 1) := by decide +kernel
theorem dX10_isRest_49 : decode cX10_isRest 49 = .ok (.iload_n 2, 1) := by decide +kernel
theorem dX10_isRest_50 : decode cX10_isRest 50 = .ok (.iload_n 3, 1) := by decide +kernel
theorem dX10_isRest_51 : decode cX10_isRest 51 = .ok (.iload 4, 2) := by decide +kernel
theorem dX10_isRest_53 : decode cX10_isRest 53 = .ok (.invokevirtual 202, 3) := by decide +kernel
theorem dX10_isRest_56 : decode cX10_isRest 56 = .ok (.if_icmp .gt 7, 3) := by decide +kernel
theorem dX10_isRest_59 : decode cX10_isRest 59 = .ok (.iconst 1, 1) := by decide +kernel
theorem dX10_isRest_60 : decode cX10_isRest 60 = .ok (.goto 4, 3) := by decide +kernel
theorem dX10_isRest_63 : decode cX10_isRest 63 = .ok (.iconst 0, 1) := by decide +kernel
theorem dX10_isRest_64 : decode cX10_isRest 64 = .ok (.istore 5, 2) := by decide +kernel
theorem dX10_isRest_66 : decode cX10_isRest 66 = .ok (.iinc 6 1, 3) := by decide +kernel
theorem dX10_isRest_69 : decode cX10_isRest 69 = .ok (.goto (-63), 3) := by decide +kernel
theorem dX10_isRest_72 : decode cX10_isRest 72 = .ok (.iload 5, 2) := by decide +kernel
theorem dX10_isRest_74 : decode cX10_isRest 74 = .ok (.ireturn, 1) := by decide +kernel
theorem dX10_rests_0 : decode cX10_rests 0 = .ok (.aload_n 0, 1) := by decide +kernel
theorem dX10_rests_1 : decode cX10_rests 1 = .ok (.iload_n 1, 1) := by decide +kernel
theorem dX10_rests_2 : decode cX10_rests 2 = .ok (.invokevirtual 119, 3) := by decide +kernel
theorem dX10_rests_5 : decode cX10_rests 5 = .ok (.ifCond .eq 11, 3) := by decide +kernel
theorem dX10_rests_8 : decode cX10_rests 8 = .ok (.aload_n 0, 1) := by decide +kernel
theorem dX10_rests_9 : decode cX10_rests 9 = .ok (.iload_n 2, 1) := by decide +kernel
theorem dX10_rests_10 : decode cX10_rests 10 = .ok (.invokevirtual 119, 3) := by decide +kernel
theorem dX10_rests_13 : decode cX10_rests 13 = .ok (.ifCond .ne 5, 3) := by decide +kernel
theorem dX10_rests_16 : decode cX10_rests 16 = .ok (.iconst (-1), 1) := by decide +kernel
theorem dX10_rests_17 : decode cX10_rests 17 = .ok (.ireturn, 1) := by decide +kernel
theorem dX10_rests_18 : decode cX10_rests 18 = .ok (.iload_n 1, 1) := by decide +kernel
theorem dX10_rests_19 : decode cX10_rests 19 = .ok (.iload_n 2, 1) := by decide +kernel
theorem dX10_rests_20 : decode cX10_rests 20 = .ok (.if_icmp .eq 13, 3) := by decide +kernel
theorem dX10_rests_23 : decode cX10_rests 23 = .ok (.iload_n 3, 1) := by decide +kernel
theorem dX10_rests_24 : decode cX10_rests 24 = .ok (.i2l, 1) := by decide +kernel
theorem dX10_rests_25 : decode cX10_rests 25 = .ok (.lconst 0, 1) := by decide +kernel
theorem dX10_rests_26 : decode cX10_rests 26 = .ok (.lconst 1, 1) := by decide +kernel
theorem dX10_rests_27 : decode cX10_rests 27 = .ok (.invokestatic 59, 3) := by decide +kernel
theorem dX10_rests_30 : decode cX10_rests 30 = .ok (.ifCond .ne 6, 3) := by decide +kernel
theorem dX10_rests_33 : decode cX10_rests 33 = .ok (.bipush (-2), 2) := by decide +kernel
theorem dX10_rests_35 : decode cX10_rests 35 = .ok (.ireturn, 1) := by decide +kernel
theorem dX10_rests_36 : decode cX10_rests 36 = .ok (.iconst 0, 1) := by decide +kernel
theorem dX10_rests_37 : decode cX10_rests 37 = .ok (.istore 4, 2) := by decide +kernel
theorem dX10_rests_39 : decode cX10_rests 39 = .ok (.bipush (-9), 2) := by decide +kernel
theorem dX10_rests_41 : decode cX10_rests 41 = .ok (.istore 5, 2) := by decide +kernel
theorem dX10_rests_43 : decode cX10_rests 43 = .ok (.iconst 0, 1) := by decide +kernel
theorem dX10_rests_44 : decode cX10_rests 44 = .ok (.istore 6, 2) := by decide +kernel
theorem dX10_rests_46 : decode cX10_rests 46 = .ok (.iload 6, 2) := by decide +kernel
theorem dX10_rests_48 : decode cX10_rests 48 = .ok (.aload_n 0, 1) := by decide +kernel
theorem dX10_rests_49 : decode cX10_rests 49 = .ok (.getfield 96, 3) := by decide +kernel
theorem dX10_rests_52 : decode cX10_rests 52 = .ok (.aload_n 0, 1) := by decide +kernel
theorem dX10_rests_53 : decode cX10_rests 53 = .ok (.getfield 96, 3) := by decide +kernel
theorem dX10_rests_56 : decode cX10_rests 56 = .ok (.imul, 1) := by decide +kernel
theorem dX10_rests_57 : decode cX10_rests 57 = .ok (.if_icmp .ge 65, 3) := by decide +kernel
theorem dX10_rests_60 : decode cX10_rests 60 = .ok (.aload_n 0, 1) := by decide +kernel
theorem dX10_rests_61 : decode cX10_rests 61 = .ok (.iload_n 1, 1) := by decide +kernel
theorem dX10_rests_62 : decode cX10_rests 62 = .ok (.iload_n 2, 1) := by decide +kernel
theorem dX10_rests_63 : decode cX10_rests 63 = .ok (.iload 6, 2) := by decide +kernel
theorem dX10_rests_65 : decode cX10_rests 65 = .ok (.aload_n 0, 1) := by decide +kernel
theorem dX10_rests_66 : decode cX10_rests 66 = .ok (.getfield 96, 3) := by decide +kernel
theorem dX10_rests_69 : decode cX10_rests 69 = .ok (.idiv, 1) := by decide +kernel
theorem dX10_rests_70 : decode cX10_rests 70 = .ok (.iload 6, 2) := by decide +kernel
theorem dX10_rests_72 : decode cX10_rests 72 = .ok (.aload_n 0, 1) := by decide +kernel
theorem dX10_rests_73 : decode cX10_rests 73 = .ok (.getfield 96, 3) := by decide +kernel
theorem dX10_rests_76 : decode cX10_rests 76 = .ok (.irem, 1) := by decide +kernel
theorem dX10_rests_77 : decode cX10_rests 77 = .ok (.invokevirtual 205, 3) := by decide +kernel
theorem dX10_rests_80 : decode cX10_rests 80 = .ok (.ifCond .eq 36, 3) := by decide +kernel
theorem dX10_rests_83 : decode cX10_rests 83 = .ok (.iload 4, 2) := by decide +kernel
theorem dX10_rests_85 : decode cX10_rests 85 = .ok (.ifCond .ne 24, 3) := by decide +kernel
theorem dX10_rests_88 : decode cX10_rests 88 = .ok (.bipush 10, 2) := by decide +kernel
theorem dX10_rests_90 : decode cX10_rests 90 = .ok (.iload 6, 2) := by decide +kernel
theorem dX10_rests_92 : decode cX10_rests 92 = .ok (.aload_n 0, 1) := by decide +kernel
theorem dX10_rests_93 : decode cX10_rests 93 = .ok (.getfield 96, 3) := by decide +kernel
theorem dX10_rests_96 : decode cX10_rests 96 = .ok (.idiv, 1) := by decide +kernel
theorem dX10_rests_97 : decode cX10_rests 97 = .ok (.imul, 1) := by decide +kernel
theorem dX10_rests_98 : decode cX10_rests 98 = .ok (.iload 6, 2) := by decide +kernel
theorem dX10_rests_100 : decode cX10_rests 100 = .ok (.aload_n 0, 1) := by decide +kernel
theorem dX10_rests_101 : decode cX10_rests 101 = .ok (.getfield 96, 3) := by decide +kernel
theorem dX10_rests_104 : decode cX10_rests 104 = .ok (.irem, 1) := by decide +kernel
theorem dX10_rests_105 : decode cX10_rests 105 = .ok (.iadd, 1) := by decide +kernel
theorem dX10_rests_106 : decode cX10_rests 106 = .ok (.goto 5, 3) := by decide +kernel
theorem dX10_rests_109 : decode cX10_rests 109 = .ok (.iload 5, 2) := by decide +kernel
theorem dX10_rests_111 : decode cX10_rests 111 = .ok (.istore 5, 2) := by decide +kernel
theorem dX10_rests_113 : decode cX10_rests 113 = .ok (.iinc 4 1, 3) := by decide +kernel
theorem dX10_rests_116 : decode cX10_rests 116 = .ok (.iinc 6 1, 3) := by decide +kernel
theorem dX10_rests_119 : decode cX10_rests 119 = .ok (.goto (-73), 3) := by decide +kernel
theorem dX10_rests_122 : decode cX10_rests 122 = .ok (.iload_n 3, 1) := by decide +kernel
theorem dX10_rests_123 : decode cX10_rests 123 = .ok (.ifCond .ne 8, 3) := by decide +kernel
theorem dX10_rests_126 : decode cX10_rests 126 = .ok (.iload 4, 2) := by decide +kernel
theorem dX10_rests_128 : decode cX10_rests 128 = .ok (.goto 5, 3) := by decide +kernel
theorem dX10_rests_131 : decode cX10_rests 131 = .ok (.iload 5, 2) := by decide +kernel
theorem dX10_rests_133 : decode cX10_rests 133 = .ok (.ireturn, 1) := by decide +kernel
theorem dX10_power_0 : decode cX10_power 0 = .ok (.iconst 1, 1) := by decide +kernel
theorem dX10_power_1 : decode cX10_power 1 = .ok (.istore_n 2, 1) := by decide +kernel
theorem dX10_power_2 : decode cX10_power 2 = .ok (.iconst 0, 1) := by decide +kernel
theorem dX10_power_3 : decode cX10_power 3 = .ok (.istore_n 3, 1) := by decide +kernel
theorem dX10_power_4 : decode cX10_power 4 = .ok (.iload_n 3, 1) := by decide +kernel
theorem dX10_power_5 : decode cX10_power 5 = .ok (.iload_n 1, 1) := by decide +kernel
theorem dX10_power_6 : decode cX10_power 6 = .ok (.if_icmp .ge 13, 3) := by decide +kernel
theorem dX10_power_9 : decode cX10_power 9 = .ok (.iload_n 2, 1) := by decide +kernel
theorem dX10_power_10 : decode cX10_power 10 = .ok (.iload_n 0, 1) := by decide +kernel
theorem dX10_power_11 : decode cX10_power 11 = .ok (.imul, 1) := by decide +kernel
theorem dX10_power_12 : decode cX10_power 12 = .ok (.istore_n 2, 1) := by decide +kernel
theorem dX10_power_13 : decode cX10_power 13 = .ok (.iinc 3 1, 3) := by decide +kernel
theorem dX10_power_16 : decode cX10_power 16 = .ok (.goto (-12), 3) := by decide +kernel
theorem dX10_power_19 : decode cX10_power 19 = .ok (.iload_n 2, 1) := by decide +kernel
theorem dX10_power_20 : decode cX10_power 20 = .ok (.ireturn, 1) := by decide +kernel
theorem dX10_hoarse_0 : decode cX10_hoarse 0 = .ok (.iload_n 1, 1) := by decide +kernel
theorem dX10_hoarse_1 : decode cX10_hoarse 1 = .ok (.i2l, 1) := by decide +kernel
theorem dX10_hoarse_2 : decode cX10_hoarse 2 = .ok (.lconst 0, 1) := by decide +kernel
theorem dX10_hoarse_3 : decode cX10_hoarse 3 = .ok (.ldc2_w 72, 3) := by decide +kernel
theorem dX10_hoarse_6 : decode cX10_hoarse 6 = .ok (.invokestatic 59, 3) := by decide +kernel
theorem dX10_hoarse_9 : decode cX10_hoarse 9 = .ok (.ifCond .eq 15, 3) := by decide +kernel
theorem dX10_hoarse_12 : decode cX10_hoarse 12 = .ok (.iload_n 2, 1) := by decide +kernel
theorem dX10_hoarse_13 : decode cX10_hoarse 13 = .ok (.i2l, 1) := by decide +kernel
theorem dX10_hoarse_14 : decode cX10_hoarse 14 = .ok (.lconst 0, 1) := by decide +kernel
theorem dX10_hoarse_15 : decode cX10_hoarse 15 = .ok (.ldc2_w 209, 3) := by decide +kernel
theorem dX10_hoarse_18 : decode cX10_hoarse 18 = .ok (.invokestatic 59, 3) := by decide +kernel
theorem dX10_hoarse_21 : decode cX10_hoarse 21 = .ok (.ifCond .ne 6, 3) := by decide +kernel
theorem dX10_hoarse_24 : decode cX10_hoarse 24 = .ok (.bipush (-2), 2) := by decide +kernel
theorem dX10_hoarse_26 : decode cX10_hoarse 26 = .ok (.ireturn, 1) := by decide +kernel
theorem dX10_hoarse_27 : decode cX10_hoarse 27 = .ok (.iconst 0, 1) := by decide +kernel
theorem dX10_hoarse_28 : decode cX10_hoarse 28 = .ok (.istore 4, 2) := by decide +kernel
theorem dX10_hoarse_30 : decode cX10_hoarse 30 = .ok (.iconst 0, 1) := by decide +kernel
theorem dX10_hoarse_31 : decode cX10_hoarse 31 = .ok (.istore 5, 2) := by decide +kernel
theorem dX10_hoarse_33 : decode cX10_hoarse 33 = .ok (.iconst 0, 1) := by decide +kernel
theorem dX10_hoarse_34 : decode cX10_hoarse 34 = .ok (.istore 6, 2) := by decide +kernel
theorem dX10_hoarse_36 : decode cX10_hoarse 36 = .ok (.iload 6, 2) := by decide +kernel
theorem dX10_hoarse_38 : decode cX10_hoarse 38 = .ok (.iconst 1, 1) := by decide +kernel
theorem dX10_hoarse_39 : decode cX10_hoarse 39 = .ok (.aload_n 0, 1) := by decide +kernel
theorem dX10_hoarse_40 : decode cX10_hoarse 40 = .ok (.getfield 96, 3) := by decide +kernel
theorem dX10_hoarse_43 : decode cX10_hoarse 43 = .ok (.ishl, 1) := by decide +kernel
theorem dX10_hoarse_44 : decode cX10_hoarse 44 = .ok (.if_icmp .ge 67, 3) := by decide +kernel
theorem dX10_hoarse_47 : decode cX10_hoarse 47 = .ok (.bipush 10, 2) := by decide +kernel
theorem dX10_hoarse_49 : decode cX10_hoarse 49 = .ok (.iload_n 2, 1) := by decide +kernel
theorem dX10_hoarse_50 : decode cX10_hoarse 50 = .ok (.isub, 1) := by decide +kernel
theorem dX10_hoarse_51 : decode cX10_hoarse 51 = .ok (.iload 6, 2) := by decide +kernel
theorem dX10_hoarse_53 : decode cX10_hoarse 53 = .ok (.invokestatic 140, 3) := by decide +kernel
theorem dX10_hoarse_56 : decode cX10_hoarse 56 = .ok (.invokestatic 211, 3) := by decide +kernel
theorem dX10_hoarse_59 : decode cX10_hoarse 59 = .ok (.iload_n 2, 1) := by decide +kernel
theorem dX10_hoarse_60 : decode cX10_hoarse 60 = .ok (.aload_n 0, 1) := by decide +kernel
theorem dX10_hoarse_61 : decode cX10_hoarse 61 = .ok (.getfield 96, 3) := by decide +kernel
theorem dX10_hoarse_64 : decode cX10_hoarse 64 = .ok (.iload 6, 2) := by decide +kernel
theorem dX10_hoarse_66 : decode cX10_hoarse 66 = .ok (.invokestatic 140, 3) := by decide +kernel
theorem dX10_hoarse_69 : decode cX10_hoarse 69 = .ok (.isub, 1) := by decide +kernel
theorem dX10_hoarse_70 : decode cX10_hoarse 70 = .ok (.invokestatic 211, 3) := by decide +kernel
theorem dX10_hoarse_73 : decode cX10_hoarse 73 = .ok (.imul, 1) := by decide +kernel
theorem dX10_hoarse_74 : decode cX10_hoarse 74 = .ok (.istore 7, 2) := by decide +kernel
theorem dX10_hoarse_76 : decode cX10_hoarse 76 = .ok (.iload 5, 2) := by decide +kernel
theorem dX10_hoarse_78 : decode cX10_hoarse 78 = .ok (.iload 7, 2) := by decide +kernel
theorem dX10_hoarse_80 : decode cX10_hoarse 80 = .ok (.iadd, 1) := by decide +kernel
theorem dX10_hoarse_81 : decode cX10_hoarse 81 = .ok (.istore 5, 2) := by decide +kernel
theorem dX10_hoarse_83 : decode cX10_hoarse 83 = .ok (.iload 4, 2) := by decide +kernel
theorem dX10_hoarse_85 : decode cX10_hoarse 85 = .ok (.aload_n 0, 1) := by decide +kernel
theorem dX10_hoarse_86 : decode cX10_hoarse 86 = .ok (.iload 6, 2) := by decide +kernel
theorem dX10_hoarse_88 : decode cX10_hoarse 88 = .ok (.iload_n 1, 1) := by decide +kernel
theorem dX10_hoarse_89 : decode cX10_hoarse 89 = .ok (.invokevirtual 196, 3) := by decide +kernel
theorem dX10_hoarse_92 : decode cX10_hoarse 92 = .ok (.iconst 2, 1) := by decide +kernel
theorem dX10_hoarse_93 : decode cX10_hoarse 93 = .ok (.if_icmp .ge 8, 3) := by decide +kernel
theorem dX10_hoarse_96 : decode cX10_hoarse 96 = .ok (.iload 7, 2) := by decide +kernel
theorem dX10_hoarse_98 : decode cX10_hoarse 98 = .ok (.goto 4, 3) := by decide +kernel
theorem dX10_hoarse_101 : decode cX10_hoarse 101 = .ok (.iconst 0, 1) := by decide +kernel
theorem dX10_hoarse_102 : decode cX10_hoarse 102 = .ok (.iadd, 1) := by decide +kernel
theorem dX10_hoarse_103 : decode cX10_hoarse 103 = .ok (.istore 4, 2) := by decide +kernel
theorem dX10_hoarse_105 : decode cX10_hoarse 105 = .ok (.iinc 6 1, 3) := by decide +kernel
theorem dX10_hoarse_108 : decode cX10_hoarse 108 = .ok (.goto (-72), 3) := by decide +kernel
theorem dX10_hoarse_111 : decode cX10_hoarse 111 = .ok (.iload 4, 2) := by decide +kernel
theorem dX10_hoarse_113 : decode cX10_hoarse 113 = .ok (.iload 5, 2) := by decide +kernel
theorem dX10_hoarse_115 : decode cX10_hoarse 115 = .ok (.invokestatic 199, 3) := by decide +kernel
theorem dX10_hoarse_118 : decode cX10_hoarse 118 = .ok (.istore 6, 2) := by decide +kernel
theorem dX10_hoarse_120 : decode cX10_hoarse 120 = .ok (.iload_n 3, 1) := by decide +kernel
theorem dX10_hoarse_121 : decode cX10_hoarse 121 = .ok (.ifCond .eq 11, 3) := by decide +kernel
theorem dX10_hoarse_124 : decode cX10_hoarse 124 = .ok (.iload 4, 2) := by decide +kernel
theorem dX10_hoarse_126 : decode cX10_hoarse 126 = .ok (.iload 6, 2) := by decide +kernel
theorem dX10_hoarse_128 : decode cX10_hoarse 128 = .ok (.idiv, 1) := by decide +kernel
theorem dX10_hoarse_129 : decode cX10_hoarse 129 = .ok (.goto 8, 3) := by decide +kernel
theorem dX10_hoarse_132 : decode cX10_hoarse 132 = .ok (.iload 5, 2) := by decide +kernel
theorem dX10_hoarse_134 : decode cX10_hoarse 134 = .ok (.iload 6, 2) := by decide +kernel
theorem dX10_hoarse_136 : decode cX10_hoarse 136 = .ok (.idiv, 1) := by decide +kernel
theorem dX10_hoarse_137 : decode cX10_hoarse 137 = .ok (.ireturn, 1) := by decide +kernel
theorem dX10_seed_0 : decode cX10_seed 0 = .ok (.aload_n 0, 1) := by decide +kernel
theorem dX10_seed_1 : decode cX10_seed 1 = .ok (.getfield 214, 3) := by decide +kernel
theorem dX10_seed_4 : decode cX10_seed 4 = .ok (.lstore_n 3, 1) := by decide +kernel
theorem dX10_seed_5 : decode cX10_seed 5 = .ok (.aload_n 0, 1) := by decide +kernel
theorem dX10_seed_6 : decode cX10_seed 6 = .ok (.lload_n 1, 1) := by decide +kernel
theorem dX10_seed_7 : decode cX10_seed 7 = .ok (.putfield 214, 3) := by decide +kernel
theorem dX10_seed_10 : decode cX10_seed 10 = .ok (.lload_n 3, 1) := by decide +kernel
theorem dX10_seed_11 : decode cX10_seed 11 = .ok (.lreturn, 1) := by decide +kernel
theorem dX10_years_0 : decode cX10_years 0 = .ok (.iload_n 1, 1) := by decide +kernel
theorem dX10_years_1 : decode cX10_years 1 = .ok (.i2l, 1) := by decide +kernel
theorem dX10_years_2 : decode cX10_years 2 = .ok (.lconst 1, 1) := by decide +kernel
theorem dX10_years_3 : decode cX10_years 3 = .ok (.ldc2_w 218, 3) := by decide +kernel
theorem dX10_years_6 : decode cX10_years 6 = .ok (.invokestatic 59, 3) := by decide +kernel
theorem dX10_years_9 : decode cX10_years 9 = .ok (.ifCond .ne 6, 3) := by decide +kernel
theorem dX10_years_12 : decode cX10_years 12 = .ok (.bipush (-2), 2) := by decide +kernel
theorem dX10_years_14 : decode cX10_years 14 = .ok (.ireturn, 1) := by decide +kernel
theorem dX10_years_15 : decode cX10_years 15 = .ok (.aload_n 0, 1) := by decide +kernel
theorem dX10_years_16 : decode cX10_years 16 = .ok (.invokevirtual 155, 3) := by decide +kernel
theorem dX10_years_19 : decode cX10_years 19 = .ok (.iconst 0, 1) := by decide +kernel
theorem dX10_years_20 : decode cX10_years 20 = .ok (.istore_n 2, 1) := by decide +kernel
theorem dX10_years_21 : decode cX10_years 21 = .ok (.iconst 0, 1) := by decide +kernel
theorem dX10_years_22 : decode cX10_years 22 = .ok (.istore_n 3, 1) := by decide +kernel
theorem dX10_years_23 : decode cX10_years 23 = .ok (.iload_n 3, 1) := by decide +kernel
theorem dX10_years_24 : decode cX10_years 24 = .ok (.iload_n 1, 1) := by decide +kernel
theorem dX10_years_25 : decode cX10_years 25 = .ok (.if_icmp .ge 157, 3) := by decide +kernel
theorem dX10_years_28 : decode cX10_years 28 = .ok (.aload_n 0, 1) := by decide +kernel
theorem dX10_years_29 : decode cX10_years 29 = .ok (.aload_n 0, 1) := by decide +kernel
theorem dX10_years_30 : decode cX10_years 30 = .ok (.getfield 214, 3) := by decide +kernel
theorem dX10_years_33 : decode cX10_years 33 = .ok (.ldc2_w 220, 3) := by decide +kernel
theorem dX10_years_36 : decode cX10_years 36 = .ok (.lmul, 1) := by decide +kernel
theorem dX10_years_37 : decode cX10_years 37 = .ok (.ldc2_w 222, 3) := by decide +kernel
theorem dX10_years_40 : decode cX10_years 40 = .ok (.ladd, 1) := by decide +kernel
theorem dX10_years_41 : decode cX10_years 41 = .ok (.putfield 214, 3) := by decide +kernel
theorem dX10_years_44 : decode cX10_years 44 = .ok (.aload_n 0, 1) := by decide +kernel
theorem dX10_years_45 : decode cX10_years 45 = .ok (.getfield 214, 3) := by decide +kernel
theorem dX10_years_48 : decode cX10_years 48 = .ok (.bipush 33, 2) := by decide +kernel
theorem dX10_years_50 : decode cX10_years 50 = .ok (.lushr, 1) := by decide +kernel
theorem dX10_years_51 : decode cX10_years 51 = .ok (.ldc2_w 224, 3) := by decide +kernel
theorem dX10_years_54 : decode cX10_years 54 = .ok (.lrem, 1) := by decide +kernel
theorem dX10_years_55 : decode cX10_years 55 = .ok (.l2i, 1) := by decide +kernel
theorem dX10_years_56 : decode cX10_years 56 = .ok (.istore 4, 2) := by decide +kernel
theorem dX10_years_58 : decode cX10_years 58 = .ok (.iload 4, 2) := by decide +kernel
theorem dX10_years_60 : decode cX10_years 60 = .ok (.bipush 17, 2) := by decide +kernel
theorem dX10_years_62 : decode cX10_years 62 = .ok (.if_icmp .le 11, 3) := by decide +kernel
theorem dX10_years_65 : decode cX10_years 65 = .ok (.aload_n 0, 1) := by decide +kernel
theorem dX10_years_66 : decode cX10_years 66 = .ok (.iconst 1, 1) := by decide +kernel
theorem dX10_years_67 : decode cX10_years 67 = .ok (.invokevirtual 134, 3) := by decide +kernel
theorem dX10_years_70 : decode cX10_years 70 = .ok (.goto 95, 3) := by decide +kernel
theorem dX10_years_73 : decode cX10_years 73 = .ok (.iload 4, 2) := by decide +kernel
theorem dX10_years_75 : decode cX10_years 75 = .ok (.bipush 17, 2) := by decide +kernel
theorem dX10_years_77 : decode cX10_years 77 = .ok (.if_icmp .ne 11, 3) := by decide +kernel
theorem dX10_years_80 : decode cX10_years 80 = .ok (.aload_n 0, 1) := by decide +kernel
theorem dX10_years_81 : decode cX10_years 81 = .ok (.iconst 1, 1) := by decide +kernel
theorem dX10_years_82 : decode cX10_years 82 = .ok (.invokevirtual 150, 3) := by decide +kernel
theorem dX10_years_85 : decode cX10_years 85 = .ok (.goto 80, 3) := by decide +kernel
theorem dX10_years_88 : decode cX10_years 88 = .ok (.iload 4, 2) := by decide +kernel
theorem dX10_years_90 : decode cX10_years 90 = .ok (.bipush 11, 2) := by decide +kernel
theorem dX10_years_92 : decode cX10_years 92 = .ok (.if_icmp .le 22, 3) := by decide +kernel
theorem dX10_years_95 : decode cX10_years 95 = .ok (.aload_n 0, 1) := by decide +kernel
theorem dX10_years_96 : decode cX10_years 96 = .ok (.iconst 2, 1) := by decide +kernel
theorem dX10_years_97 : decode cX10_years 97 = .ok (.iload 4, 2) := by decide +kernel
theorem dX10_years_99 : decode cX10_years 99 = .ok (.bipush 12, 2) := by decide +kernel
theorem dX10_years_101 : decode cX10_years 101 = .ok (.isub, 1) := by decide +kernel
theorem dX10_years_102 : decode cX10_years 102 = .ok (.iload 4, 2) := by decide +kernel
theorem dX10_years_104 : decode cX10_years 104 = .ok (.bipush 11, 2) := by decide +kernel
theorem dX10_years_106 : decode cX10_years 106 = .ok (.isub, 1) := by decide +kernel
theorem dX10_years_107 : decode cX10_years 107 = .ok (.invokevirtual 183, 3) := by decide +kernel
theorem dX10_years_110 : decode cX10_years 110 = .ok (.pop, 1) := by decide +kernel
theorem dX10_years_111 : decode cX10_years 111 = .ok (.goto 54, 3) := by decide +kernel
theorem dX10_years_114 : decode cX10_years 114 = .ok (.iload 4, 2) := by decide +kernel
theorem dX10_years_116 : decode cX10_years 116 = .ok (.iconst 5, 1) := by decide +kernel
theorem dX10_years_117 : decode cX10_years 117 = .ok (.if_icmp .le 39, 3) := by decide +kernel
theorem dX10_years_120 : decode cX10_years 120 = .ok (.aload_n 0, 1) := by decide +kernel
theorem dX10_years_121 : decode cX10_years 121 = .ok (.getfield 19, 3) := by decide +kernel
theorem dX10_years_124 : decode cX10_years 124 = .ok (.bipush 38, 2) := by decide +kernel
theorem dX10_years_126 : decode cX10_years 126 = .ok (.dup2, 1) := by decide +kernel
theorem dX10_years_127 : decode cX10_years 127 = .ok (.iaload, 1) := by decide +kernel
theorem dX10_years_128 : decode cX10_years 128 = .ok (.aload_n 0, 1) := by decide +kernel
theorem dX10_years_129 : decode cX10_years 129 = .ok (.iload 4, 2) := by decide +kernel
theorem dX10_years_131 : decode cX10_years 131 = .ok (.bipush 6, 2) := by decide +kernel
theorem dX10_years_133 : decode cX10_years 133 = .ok (.isub, 1) := by decide +kernel
theorem dX10_years_134 : decode cX10_years 134 = .ok (.invokevirtual 119, 3) := by decide +kernel
theorem dX10_years_137 : decode cX10_years 137 = .ok (.ifCond .eq 13, 3) := by decide +kernel
theorem dX10_years_140 : decode cX10_years 140 = .ok (.iconst 1, 1) := by decide +kernel
theorem dX10_years_141 : decode cX10_years 141 = .ok (.iload 4, 2) := by decide +kernel
theorem dX10_years_143 : decode cX10_years 143 = .ok (.bipush 6, 2) := by decide +kernel
theorem dX10_years_145 : decode cX10_years 145 = .ok (.isub, 1) := by decide +kernel
theorem dX10_years_146 : decode cX10_years 146 = .ok (.ishl, 1) := by decide +kernel
theorem dX10_years_147 : decode cX10_years 147 = .ok (.goto 4, 3) := by decide +kernel
theorem dX10_years_150 : decode cX10_years 150 = .ok (.iconst 0, 1) := by decide +kernel
theorem dX10_years_151 : decode cX10_years 151 = .ok (.ixor, 1) := by decide +kernel
theorem dX10_years_152 : decode cX10_years 152 = .ok (.iastore, 1) := by decide +kernel
theorem dX10_years_153 : decode cX10_years 153 = .ok (.goto 12, 3) := by decide +kernel
theorem dX10_years_156 : decode cX10_years 156 = .ok (.aload_n 0, 1) := by decide +kernel
theorem dX10_years_157 : decode cX10_years 157 = .ok (.iconst 1, 1) := by decide +kernel
theorem dX10_years_158 : decode cX10_years 158 = .ok (.iload 4, 2) := by decide +kernel
theorem dX10_years_160 : decode cX10_years 160 = .ok (.iconst 1, 1) := by decide +kernel
theorem dX10_years_161 : decode cX10_years 161 = .ok (.invokevirtual 183, 3) := by decide +kernel
theorem dX10_years_164 : decode cX10_years 164 = .ok (.pop, 1) := by decide +kernel
theorem dX10_years_165 : decode cX10_years 165 = .ok (.iload_n 2, 1) := by decide +kernel
theorem dX10_years_166 : decode cX10_years 166 = .ok (.aload_n 0, 1) := by decide +kernel
theorem dX10_years_167 : decode cX10_years 167 = .ok (.iconst 1, 1) := by decide +kernel
theorem dX10_years_168 : decode cX10_years 168 = .ok (.invokevirtual 137, 3) := by decide +kernel
theorem dX10_years_171 : decode cX10_years 171 = .ok (.invokestatic 140, 3) := by decide +kernel
theorem dX10_years_174 : decode cX10_years 174 = .ok (.iadd, 1) := by decide +kernel
theorem dX10_years_175 : decode cX10_years 175 = .ok (.istore_n 2, 1) := by decide +kernel
theorem dX10_years_176 : decode cX10_years 176 = .ok (.iinc 3 1, 3) := by decide +kernel
theorem dX10_years_179 : decode cX10_years 179 = .ok (.goto (-156), 3) := by decide +kernel
theorem dX10_years_182 : decode cX10_years 182 = .ok (.iload_n 2, 1) := by decide +kernel
theorem dX10_years_183 : decode cX10_years 183 = .ok (.ireturn, 1) := by decide +kernel
theorem dX10_keep_0 : decode cX10_keep 0 = .ok (.iload_n 1, 1) := by decide +kernel
theorem dX10_keep_1 : decode cX10_keep 1 = .ok (.i2l, 1) := by decide +kernel
theorem dX10_keep_2 : decode cX10_keep 2 = .ok (.lconst 0, 1) := by decide +kernel
theorem dX10_keep_3 : decode cX10_keep 3 = .ok (.lconst 1, 1) := by decide +kernel
theorem dX10_keep_4 : decode cX10_keep 4 = .ok (.invokestatic 59, 3) := by decide +kernel
theorem dX10_keep_7 : decode cX10_keep 7 = .ok (.ifCond .ne 5, 3) := by decide +kernel
theorem dX10_keep_10 : decode cX10_keep 10 = .ok (.iconst (-1), 1) := by decide +kernel
theorem dX10_keep_11 : decode cX10_keep 11 = .ok (.ireturn, 1) := by decide +kernel
theorem dX10_keep_12 : decode cX10_keep 12 = .ok (.aload_n 0, 1) := by decide +kernel
theorem dX10_keep_13 : decode cX10_keep 13 = .ok (.getfield 50, 3) := by decide +kernel
theorem dX10_keep_16 : decode cX10_keep 16 = .ok (.iload_n 1, 1) := by decide +kernel
theorem dX10_keep_17 : decode cX10_keep 17 = .ok (.iconst 1, 1) := by decide +kernel
theorem dX10_keep_18 : decode cX10_keep 18 = .ok (.bastore, 1) := by decide +kernel
theorem dX10_keep_19 : decode cX10_keep 19 = .ok (.iconst 0, 1) := by decide +kernel
theorem dX10_keep_20 : decode cX10_keep 20 = .ok (.istore_n 2, 1) := by decide +kernel
theorem dX10_keep_21 : decode cX10_keep 21 = .ok (.iload_n 2, 1) := by decide +kernel
theorem dX10_keep_22 : decode cX10_keep 22 = .ok (.bipush 20, 2) := by decide +kernel
theorem dX10_keep_24 : decode cX10_keep 24 = .ok (.if_icmp .ge 26, 3) := by decide +kernel
theorem dX10_keep_27 : decode cX10_keep 27 = .ok (.aload_n 0, 1) := by decide +kernel
theorem dX10_keep_28 : decode cX10_keep 28 = .ok (.getfield 54, 3) := by decide +kernel
theorem dX10_keep_31 : decode cX10_keep 31 = .ok (.bipush 20, 2) := by decide +kernel
theorem dX10_keep_33 : decode cX10_keep 33 = .ok (.iload_n 1, 1) := by decide +kernel
theorem dX10_keep_34 : decode cX10_keep 34 = .ok (.imul, 1) := by decide +kernel
theorem dX10_keep_35 : decode cX10_keep 35 = .ok (.iload_n 2, 1) := by decide +kernel
theorem dX10_keep_36 : decode cX10_keep 36 = .ok (.iadd, 1) := by decide +kernel
theorem dX10_keep_37 : decode cX10_keep 37 = .ok (.aload_n 0, 1) := by decide +kernel
theorem dX10_keep_38 : decode cX10_keep 38 = .ok (.getfield 19, 3) := by decide +kernel
theorem dX10_keep_41 : decode cX10_keep 41 = .ok (.iload_n 2, 1) := by decide +kernel
theorem dX10_keep_42 : decode cX10_keep 42 = .ok (.iaload, 1) := by decide +kernel
theorem dX10_keep_43 : decode cX10_keep 43 = .ok (.iastore, 1) := by decide +kernel
theorem dX10_keep_44 : decode cX10_keep 44 = .ok (.iinc 2 1, 3) := by decide +kernel
theorem dX10_keep_47 : decode cX10_keep 47 = .ok (.goto (-26), 3) := by decide +kernel
theorem dX10_keep_50 : decode cX10_keep 50 = .ok (.aload_n 0, 1) := by decide +kernel
theorem dX10_keep_51 : decode cX10_keep 51 = .ok (.getfield 19, 3) := by decide +kernel
theorem dX10_keep_54 : decode cX10_keep 54 = .ok (.bipush 19, 2) := by decide +kernel
theorem dX10_keep_56 : decode cX10_keep 56 = .ok (.iaload, 1) := by decide +kernel
theorem dX10_keep_57 : decode cX10_keep 57 = .ok (.ireturn, 1) := by decide +kernel
theorem dX10_again_0 : decode cX10_again 0 = .ok (.iload_n 1, 1) := by decide +kernel
theorem dX10_again_1 : decode cX10_again 1 = .ok (.i2l, 1) := by decide +kernel
theorem dX10_again_2 : decode cX10_again 2 = .ok (.lconst 0, 1) := by decide +kernel
theorem dX10_again_3 : decode cX10_again 3 = .ok (.lconst 1, 1) := by decide +kernel
theorem dX10_again_4 : decode cX10_again 4 = .ok (.invokestatic 59, 3) := by decide +kernel
theorem dX10_again_7 : decode cX10_again 7 = .ok (.ifCond .ne 5, 3) := by decide +kernel
theorem dX10_again_10 : decode cX10_again 10 = .ok (.iconst (-1), 1) := by decide +kernel
theorem dX10_again_11 : decode cX10_again 11 = .ok (.ireturn, 1) := by decide +kernel
theorem dX10_again_12 : decode cX10_again 12 = .ok (.aload_n 0, 1) := by decide +kernel
theorem dX10_again_13 : decode cX10_again 13 = .ok (.getfield 50, 3) := by decide +kernel
theorem dX10_again_16 : decode cX10_again 16 = .ok (.iload_n 1, 1) := by decide +kernel
theorem dX10_again_17 : decode cX10_again 17 = .ok (.baload, 1) := by decide +kernel
theorem dX10_again_18 : decode cX10_again 18 = .ok (.ifCond .ne 6, 3) := by decide +kernel
theorem dX10_again_21 : decode cX10_again 21 = .ok (.bipush (-3), 2) := by decide +kernel
theorem dX10_again_23 : decode cX10_again 23 = .ok (.ireturn, 1) := by decide +kernel
theorem dX10_again_24 : decode cX10_again 24 = .ok (.iconst 0, 1) := by decide +kernel
theorem dX10_again_25 : decode cX10_again 25 = .ok (.istore_n 2, 1) := by decide +kernel
theorem dX10_again_26 : decode cX10_again 26 = .ok (.iload_n 2, 1) := by decide +kernel
theorem dX10_again_27 : decode cX10_again 27 = .ok (.bipush 20, 2) := by decide +kernel
theorem dX10_again_29 : decode cX10_again 29 = .ok (.if_icmp .ge 26, 3) := by decide +kernel
theorem dX10_again_32 : decode cX10_again 32 = .ok (.aload_n 0, 1) := by decide +kernel
theorem dX10_again_33 : decode cX10_again 33 = .ok (.getfield 19, 3) := by decide +kernel
theorem dX10_again_36 : decode cX10_again 36 = .ok (.iload_n 2, 1) := by decide +kernel
theorem dX10_again_37 : decode cX10_again 37 = .ok (.aload_n 0, 1) := by decide +kernel
theorem dX10_again_38 : decode cX10_again 38 = .ok (.getfield 54, 3) := by decide +kernel
theorem dX10_again_41 : decode cX10_again 41 = .ok (.bipush 20, 2) := by decide +kernel
theorem dX10_again_43 : decode cX10_again 43 = .ok (.iload_n 1, 1) := by decide +kernel
theorem dX10_again_44 : decode cX10_again 44 = .ok (.imul, 1) := by decide +kernel
theorem dX10_again_45 : decode cX10_again 45 = .ok (.iload_n 2, 1) := by decide +kernel
theorem dX10_again_46 : decode cX10_again 46 = .ok (.iadd, 1) := by decide +kernel
theorem dX10_again_47 : decode cX10_again 47 = .ok (.iaload, 1) := by decide +kernel
theorem dX10_again_48 : decode cX10_again 48 = .ok (.iastore, 1) := by decide +kernel
theorem dX10_again_49 : decode cX10_again 49 = .ok (.iinc 2 1, 3) := by decide +kernel
theorem dX10_again_52 : decode cX10_again 52 = .ok (.goto (-26), 3) := by decide +kernel
theorem dX10_again_55 : decode cX10_again 55 = .ok (.aload_n 0, 1) := by decide +kernel
theorem dX10_again_56 : decode cX10_again 56 = .ok (.iconst 0, 1) := by decide +kernel
theorem dX10_again_57 : decode cX10_again 57 = .ok (.putfield 99, 3) := by decide +kernel
theorem dX10_again_60 : decode cX10_again 60 = .ok (.aload_n 0, 1) := by decide +kernel
theorem dX10_again_61 : decode cX10_again 61 = .ok (.getfield 19, 3) := by decide +kernel
theorem dX10_again_64 : decode cX10_again 64 = .ok (.bipush 19, 2) := by decide +kernel
theorem dX10_again_66 : decode cX10_again 66 = .ok (.iaload, 1) := by decide +kernel
theorem dX10_again_67 : decode cX10_again 67 = .ok (.ireturn, 1) := by decide +kernel
theorem dX10_takenSeats_0 : decode cX10_takenSeats 0 = .ok (.iconst 0, 1) := by decide +kernel
theorem dX10_takenSeats_1 : decode cX10_takenSeats 1 = .ok (.istore_n 1, 1) := by decide +kernel
theorem dX10_takenSeats_2 : decode cX10_takenSeats 2 = .ok (.iconst 0, 1) := by decide +kernel
theorem dX10_takenSeats_3 : decode cX10_takenSeats 3 = .ok (.istore_n 2, 1) := by decide +kernel
theorem dX10_takenSeats_4 : decode cX10_takenSeats 4 = .ok (.iload_n 2, 1) := by decide +kernel
theorem dX10_takenSeats_5 : decode cX10_takenSeats 5 = .ok (.aload_n 0, 1) := by decide +kernel
theorem dX10_takenSeats_6 : decode cX10_takenSeats 6 = .ok (.getfield 96, 3) := by decide +kernel
theorem dX10_takenSeats_9 : decode cX10_takenSeats 9 = .ok (.if_icmp .ge 20, 3) := by decide +kernel
theorem dX10_takenSeats_12 : decode cX10_takenSeats 12 = .ok (.iload_n 1, 1) := by decide +kernel
theorem dX10_takenSeats_13 : decode cX10_takenSeats 13 = .ok (.iconst 1, 1) := by decide +kernel
theorem dX10_takenSeats_14 : decode cX10_takenSeats 14 = .ok (.aload_n 0, 1) := by decide +kernel
theorem dX10_takenSeats_15 : decode cX10_takenSeats 15 = .ok (.getfield 19, 3) := by decide +kernel
theorem dX10_takenSeats_18 : decode cX10_takenSeats 18 = .ok (.iload_n 2, 1) := by decide +kernel
theorem dX10_takenSeats_19 : decode cX10_takenSeats 19 = .ok (.iaload, 1) := by decide +kernel
theorem dX10_takenSeats_20 : decode cX10_takenSeats 20 = .ok (.ishl, 1) := by decide +kernel
theorem dX10_takenSeats_21 : decode cX10_takenSeats 21 = .ok (.ior, 1) := by decide +kernel
theorem dX10_takenSeats_22 : decode cX10_takenSeats 22 = .ok (.istore_n 1, 1) := by decide +kernel
theorem dX10_takenSeats_23 : decode cX10_takenSeats 23 = .ok (.iinc 2 1, 3) := by decide +kernel
theorem dX10_takenSeats_26 : decode cX10_takenSeats 26 = .ok (.goto (-22), 3) := by decide +kernel
theorem dX10_takenSeats_29 : decode cX10_takenSeats 29 = .ok (.iload_n 1, 1) := by decide +kernel
theorem dX10_takenSeats_30 : decode cX10_takenSeats 30 = .ok (.ireturn, 1) := by decide +kernel
theorem dX10_goodsOfAll_0 : decode cX10_goodsOfAll 0 = .ok (.iconst 0, 1) := by decide +kernel
theorem dX10_goodsOfAll_1 : decode cX10_goodsOfAll 1 = .ok (.istore_n 1, 1) := by decide +kernel
theorem dX10_goodsOfAll_2 : decode cX10_goodsOfAll 2 = .ok (.iconst 0, 1) := by decide +kernel
theorem dX10_goodsOfAll_3 : decode cX10_goodsOfAll 3 = .ok (.istore_n 2, 1) := by decide +kernel
theorem dX10_goodsOfAll_4 : decode cX10_goodsOfAll 4 = .ok (.iload_n 2, 1) := by decide +kernel
theorem dX10_goodsOfAll_5 : decode cX10_goodsOfAll 5 = .ok (.aload_n 0, 1) := by decide +kernel
theorem dX10_goodsOfAll_6 : decode cX10_goodsOfAll 6 = .ok (.getfield 96, 3) := by decide +kernel
theorem dX10_goodsOfAll_9 : decode cX10_goodsOfAll 9 = .ok (.if_icmp .ge 21, 3) := by decide +kernel
theorem dX10_goodsOfAll_12 : decode cX10_goodsOfAll 12 = .ok (.iload_n 1, 1) := by decide +kernel
theorem dX10_goodsOfAll_13 : decode cX10_goodsOfAll 13 = .ok (.aload_n 0, 1) := by decide +kernel
theorem dX10_goodsOfAll_14 : decode cX10_goodsOfAll 14 = .ok (.getfield 19, 3) := by decide +kernel
theorem dX10_goodsOfAll_17 : decode cX10_goodsOfAll 17 = .ok (.bipush 6, 2) := by decide +kernel
theorem dX10_goodsOfAll_19 : decode cX10_goodsOfAll 19 = .ok (.iload_n 2, 1) := by decide +kernel
theorem dX10_goodsOfAll_20 : decode cX10_goodsOfAll 20 = .ok (.iadd, 1) := by decide +kernel
theorem dX10_goodsOfAll_21 : decode cX10_goodsOfAll 21 = .ok (.iaload, 1) := by decide +kernel
theorem dX10_goodsOfAll_22 : decode cX10_goodsOfAll 22 = .ok (.iadd, 1) := by decide +kernel
theorem dX10_goodsOfAll_23 : decode cX10_goodsOfAll 23 = .ok (.istore_n 1, 1) := by decide +kernel
theorem dX10_goodsOfAll_24 : decode cX10_goodsOfAll 24 = .ok (.iinc 2 1, 3) := by decide +kernel
theorem dX10_goodsOfAll_27 : decode cX10_goodsOfAll 27 = .ok (.goto (-23), 3) := by decide +kernel
theorem dX10_goodsOfAll_30 : decode cX10_goodsOfAll 30 = .ok (.iload_n 1, 1) := by decide +kernel
theorem dX10_goodsOfAll_31 : decode cX10_goodsOfAll 31 = .ok (.ireturn, 1) := by decide +kernel
theorem dX10_jealous_0 : decode cX10_jealous 0 = .ok (.iconst 0, 1) := by decide +kernel
theorem dX10_jealous_1 : decode cX10_jealous 1 = .ok (.istore_n 1, 1) := by decide +kernel
theorem dX10_jealous_2 : decode cX10_jealous 2 = .ok (.iconst 0, 1) := by decide +kernel
theorem dX10_jealous_3 : decode cX10_jealous 3 = .ok (.istore_n 2, 1) := by decide +kernel
theorem dX10_jealous_4 : decode cX10_jealous 4 = .ok (.iload_n 2, 1) := by decide +kernel
theorem dX10_jealous_5 : decode cX10_jealous 5 = .ok (.aload_n 0, 1) := by decide +kernel
theorem dX10_jealous_6 : decode cX10_jealous 6 = .ok (.getfield 96, 3) := by decide +kernel
theorem dX10_jealous_9 : decode cX10_jealous 9 = .ok (.if_icmp .ge 30, 3) := by decide +kernel
theorem dX10_jealous_12 : decode cX10_jealous 12 = .ok (.iload_n 1, 1) := by decide +kernel
theorem dX10_jealous_13 : decode cX10_jealous 13 = .ok (.aload_n 0, 1) := by decide +kernel
theorem dX10_jealous_14 : decode cX10_jealous 14 = .ok (.iconst 0, 1) := by decide +kernel
theorem dX10_jealous_15 : decode cX10_jealous 15 = .ok (.iload_n 2, 1) := by decide +kernel
theorem dX10_jealous_16 : decode cX10_jealous 16 = .ok (.invokevirtual 113, 3) := by decide +kernel
theorem dX10_jealous_19 : decode cX10_jealous 19 = .ok (.bipush (-9), 2) := by decide +kernel
theorem dX10_jealous_21 : decode cX10_jealous 21 = .ok (.if_icmp .ne 7, 3) := by decide +kernel
theorem dX10_jealous_24 : decode cX10_jealous 24 = .ok (.iconst 0, 1) := by decide +kernel
theorem dX10_jealous_25 : decode cX10_jealous 25 = .ok (.goto 6, 3) := by decide +kernel
theorem dX10_jealous_28 : decode cX10_jealous 28 = .ok (.iconst 1, 1) := by decide +kernel
theorem dX10_jealous_29 : decode cX10_jealous 29 = .ok (.iload_n 2, 1) := by decide +kernel
theorem dX10_jealous_30 : decode cX10_jealous 30 = .ok (.ishl, 1) := by decide +kernel
theorem dX10_jealous_31 : decode cX10_jealous 31 = .ok (.ior, 1) := by decide +kernel
theorem dX10_jealous_32 : decode cX10_jealous 32 = .ok (.istore_n 1, 1) := by decide +kernel
theorem dX10_jealous_33 : decode cX10_jealous 33 = .ok (.iinc 2 1, 3) := by decide +kernel
theorem dX10_jealous_36 : decode cX10_jealous 36 = .ok (.goto (-32), 3) := by decide +kernel
theorem dX10_jealous_39 : decode cX10_jealous 39 = .ok (.iload_n 1, 1) := by decide +kernel
theorem dX10_jealous_40 : decode cX10_jealous 40 = .ok (.ireturn, 1) := by decide +kernel
theorem dX10_count_0 : decode cX10_count 0 = .ok (.iload_n 1, 1) := by decide +kernel
theorem dX10_count_1 : decode cX10_count 1 = .ok (.tableswitch 112 0 9 #[55, 60, 65, 73, 78, 84, 89, 94, 102, 107], 55) := by decide +kernel
theorem dX10_count_56 : decode cX10_count 56 = .ok (.aload_n 0, 1) := by decide +kernel
theorem dX10_count_57 : decode cX10_count 57 = .ok (.getfield 63, 3) := by decide +kernel
theorem dX10_count_60 : decode cX10_count 60 = .ok (.ireturn, 1) := by decide +kernel
theorem dX10_count_61 : decode cX10_count 61 = .ok (.aload_n 0, 1) := by decide +kernel
theorem dX10_count_62 : decode cX10_count 62 = .ok (.getfield 96, 3) := by decide +kernel
theorem dX10_count_65 : decode cX10_count 65 = .ok (.ireturn, 1) := by decide +kernel
theorem dX10_count_66 : decode cX10_count 66 = .ok (.aload_n 0, 1) := by decide +kernel
theorem dX10_count_67 : decode cX10_count 67 = .ok (.getfield 19, 3) := by decide +kernel
theorem dX10_count_70 : decode cX10_count 70 = .ok (.bipush 19, 2) := by decide +kernel
theorem dX10_count_72 : decode cX10_count 72 = .ok (.iaload, 1) := by decide +kernel
theorem dX10_count_73 : decode cX10_count 73 = .ok (.ireturn, 1) := by decide +kernel
theorem dX10_count_74 : decode cX10_count 74 = .ok (.aload_n 0, 1) := by decide +kernel
theorem dX10_count_75 : decode cX10_count 75 = .ok (.invokevirtual 226, 3) := by decide +kernel
theorem dX10_count_78 : decode cX10_count 78 = .ok (.ireturn, 1) := by decide +kernel
theorem dX10_count_79 : decode cX10_count 79 = .ok (.aload_n 0, 1) := by decide +kernel
theorem dX10_count_80 : decode cX10_count 80 = .ok (.iconst 0, 1) := by decide +kernel
theorem dX10_count_81 : decode cX10_count 81 = .ok (.invokevirtual 137, 3) := by decide +kernel
theorem dX10_count_84 : decode cX10_count 84 = .ok (.ireturn, 1) := by decide +kernel
theorem dX10_count_85 : decode cX10_count 85 = .ok (.aload_n 0, 1) := by decide +kernel
theorem dX10_count_86 : decode cX10_count 86 = .ok (.invokevirtual 229, 3) := by decide +kernel
theorem dX10_count_89 : decode cX10_count 89 = .ok (.ireturn, 1) := by decide +kernel
theorem dX10_count_90 : decode cX10_count 90 = .ok (.aload_n 0, 1) := by decide +kernel
theorem dX10_count_91 : decode cX10_count 91 = .ok (.invokevirtual 232, 3) := by decide +kernel
theorem dX10_count_94 : decode cX10_count 94 = .ok (.ireturn, 1) := by decide +kernel
theorem dX10_count_95 : decode cX10_count 95 = .ok (.aload_n 0, 1) := by decide +kernel
theorem dX10_count_96 : decode cX10_count 96 = .ok (.getfield 19, 3) := by decide +kernel
theorem dX10_count_99 : decode cX10_count 99 = .ok (.bipush 18, 2) := by decide +kernel
theorem dX10_count_101 : decode cX10_count 101 = .ok (.iaload, 1) := by decide +kernel
theorem dX10_count_102 : decode cX10_count 102 = .ok (.ireturn, 1) := by decide +kernel
theorem dX10_count_103 : decode cX10_count 103 = .ok (.aload_n 0, 1) := by decide +kernel
theorem dX10_count_104 : decode cX10_count 104 = .ok (.getfield 99, 3) := by decide +kernel
theorem dX10_count_107 : decode cX10_count 107 = .ok (.ireturn, 1) := by decide +kernel
theorem dX10_count_108 : decode cX10_count 108 = .ok (.aload_n 0, 1) := by decide +kernel
theorem dX10_count_109 : decode cX10_count 109 = .ok (.getfield 187, 3) := by decide +kernel
theorem dX10_count_112 : decode cX10_count 112 = .ok (.ireturn, 1) := by decide +kernel
theorem dX10_count_113 : decode cX10_count 113 = .ok (.bipush (-2), 2) := by decide +kernel
theorem dX10_count_115 : decode cX10_count 115 = .ok (.ireturn, 1) := by decide +kernel
end
section
theorem dL_law_0 : decode cL_law 0 = .ok (.new 7, 3) := by decide +kernel
theorem dL_law_3 : decode cL_law 3 = .ok (.dup, 1) := by decide +kernel
theorem dL_law_4 : decode cL_law 4 = .ok (.invokespecial 9, 3) := by decide +kernel
theorem dL_law_7 : decode cL_law 7 = .ok (.astore_n 1, 1) := by decide +kernel
theorem dL_law_8 : decode cL_law 8 = .ok (.new 10, 3) := by decide +kernel
theorem dL_law_11 : decode cL_law 11 = .ok (.dup, 1) := by decide +kernel
theorem dL_law_12 : decode cL_law 12 = .ok (.invokespecial 12, 3) := by decide +kernel
theorem dL_law_15 : decode cL_law 15 = .ok (.astore_n 2, 1) := by decide +kernel
theorem dL_law_16 : decode cL_law 16 = .ok (.iconst 0, 1) := by decide +kernel
theorem dL_law_17 : decode cL_law 17 = .ok (.istore_n 3, 1) := by decide +kernel
theorem dL_law_18 : decode cL_law 18 = .ok (.iload_n 3, 1) := by decide +kernel
theorem dL_law_19 : decode cL_law 19 = .ok (.aload_n 0, 1) := by decide +kernel
theorem dL_law_20 : decode cL_law 20 = .ok (.arraylength, 1) := by decide +kernel
theorem dL_law_21 : decode cL_law 21 = .ok (.iconst 5, 1) := by decide +kernel
theorem dL_law_22 : decode cL_law 22 = .ok (.isub, 1) := by decide +kernel
theorem dL_law_23 : decode cL_law 23 = .ok (.if_icmp .gt 1014, 3) := by decide +kernel
theorem dL_law_26 : decode cL_law 26 = .ok (.aload_n 0, 1) := by decide +kernel
theorem dL_law_27 : decode cL_law 27 = .ok (.iload_n 3, 1) := by decide +kernel
theorem dL_law_28 : decode cL_law 28 = .ok (.iaload, 1) := by decide +kernel
theorem dL_law_29 : decode cL_law 29 = .ok (.bipush 31, 2) := by decide +kernel
theorem dL_law_31 : decode cL_law 31 = .ok (.iand, 1) := by decide +kernel
theorem dL_law_32 : decode cL_law 32 = .ok (.tableswitch 999 0 29 #[136, 159, 172, 185, 198, 231, 254, 267, 300, 333, 346, 369, 382, 415, 438, 461, 474, 527, 560, 623, 666, 679, 702, 751, 794, 853, 907, 930, 953, 976], 136) := by decide +kernel
theorem dL_law_168 : decode cL_law 168 = .ok (.aload_n 1, 1) := by decide +kernel
theorem dL_law_169 : decode cL_law 169 = .ok (.aload_n 0, 1) := by decide +kernel
theorem dL_law_170 : decode cL_law 170 = .ok (.iload_n 3, 1) := by decide +kernel
theorem dL_law_171 : decode cL_law 171 = .ok (.iconst 1, 1) := by decide +kernel
theorem dL_law_172 : decode cL_law 172 = .ok (.iadd, 1) := by decide +kernel
theorem dL_law_173 : decode cL_law 173 = .ok (.iaload, 1) := by decide +kernel
theorem dL_law_174 : decode cL_law 174 = .ok (.invokevirtual 13, 3) := by decide +kernel
theorem dL_law_177 : decode cL_law 177 = .ok (.aload_n 2, 1) := by decide +kernel
theorem dL_law_178 : decode cL_law 178 = .ok (.aload_n 0, 1) := by decide +kernel
theorem dL_law_179 : decode cL_law 179 = .ok (.iload_n 3, 1) := by decide +kernel
theorem dL_law_180 : decode cL_law 180 = .ok (.iconst 1, 1) := by decide +kernel
theorem dL_law_181 : decode cL_law 181 = .ok (.iadd, 1) := by decide +kernel
theorem dL_law_182 : decode cL_law 182 = .ok (.iaload, 1) := by decide +kernel
theorem dL_law_183 : decode cL_law 183 = .ok (.invokevirtual 17, 3) := by decide +kernel
theorem dL_law_186 : decode cL_law 186 = .ok (.if_icmp .eq 845, 3) := by decide +kernel
theorem dL_law_189 : decode cL_law 189 = .ok (.iconst 0, 1) := by decide +kernel
theorem dL_law_190 : decode cL_law 190 = .ok (.ireturn, 1) := by decide +kernel
theorem dL_law_191 : decode cL_law 191 = .ok (.aload_n 1, 1) := by decide +kernel
theorem dL_law_192 : decode cL_law 192 = .ok (.invokevirtual 18, 3) := by decide +kernel
theorem dL_law_195 : decode cL_law 195 = .ok (.aload_n 2, 1) := by decide +kernel
theorem dL_law_196 : decode cL_law 196 = .ok (.invokevirtual 22, 3) := by decide +kernel
theorem dL_law_199 : decode cL_law 199 = .ok (.if_icmp .eq 832, 3) := by decide +kernel
theorem dL_law_202 : decode cL_law 202 = .ok (.iconst 0, 1) := by decide +kernel
theorem dL_law_203 : decode cL_law 203 = .ok (.ireturn, 1) := by decide +kernel
theorem dL_law_204 : decode cL_law 204 = .ok (.aload_n 1, 1) := by decide +kernel
theorem dL_law_205 : decode cL_law 205 = .ok (.invokevirtual 23, 3) := by decide +kernel
theorem dL_law_208 : decode cL_law 208 = .ok (.aload_n 2, 1) := by decide +kernel
theorem dL_law_209 : decode cL_law 209 = .ok (.invokevirtual 26, 3) := by decide +kernel
theorem dL_law_212 : decode cL_law 212 = .ok (.if_icmp .eq 819, 3) := by decide +kernel
theorem dL_law_215 : decode cL_law 215 = .ok (.iconst 0, 1) := by decide +kernel
theorem dL_law_216 : decode cL_law 216 = .ok (.ireturn, 1) := by decide +kernel
theorem dL_law_217 : decode cL_law 217 = .ok (.aload_n 1, 1) := by decide +kernel
theorem dL_law_218 : decode cL_law 218 = .ok (.invokevirtual 27, 3) := by decide +kernel
theorem dL_law_221 : decode cL_law 221 = .ok (.aload_n 2, 1) := by decide +kernel
theorem dL_law_222 : decode cL_law 222 = .ok (.invokevirtual 30, 3) := by decide +kernel
theorem dL_law_225 : decode cL_law 225 = .ok (.if_icmp .eq 806, 3) := by decide +kernel
theorem dL_law_228 : decode cL_law 228 = .ok (.iconst 0, 1) := by decide +kernel
theorem dL_law_229 : decode cL_law 229 = .ok (.ireturn, 1) := by decide +kernel
theorem dL_law_230 : decode cL_law 230 = .ok (.aload_n 1, 1) := by decide +kernel
theorem dL_law_231 : decode cL_law 231 = .ok (.aload_n 0, 1) := by decide +kernel
theorem dL_law_232 : decode cL_law 232 = .ok (.iload_n 3, 1) := by decide +kernel
theorem dL_law_233 : decode cL_law 233 = .ok (.iconst 1, 1) := by decide +kernel
theorem dL_law_234 : decode cL_law 234 = .ok (.iadd, 1) := by decide +kernel
theorem dL_law_235 : decode cL_law 235 = .ok (.iaload, 1) := by decide +kernel
theorem dL_law_236 : decode cL_law 236 = .ok (.aload_n 0, 1) := by decide +kernel
theorem dL_law_237 : decode cL_law 237 = .ok (.iload_n 3, 1) := by decide +kernel
theorem dL_law_238 : decode cL_law 238 = .ok (.iconst 2, 1) := by decide +kernel
theorem dL_law_239 : decode cL_law 239 = .ok (.iadd, 1) := by decide +kernel
theorem dL_law_240 : decode cL_law 240 = .ok (.iaload, 1) := by decide +kernel
theorem dL_law_241 : decode cL_law 241 = .ok (.invokevirtual 31, 3) := by decide +kernel
theorem dL_law_244 : decode cL_law 244 = .ok (.aload_n 2, 1) := by decide +kernel
theorem dL_law_245 : decode cL_law 245 = .ok (.aload_n 0, 1) := by decide +kernel
theorem dL_law_246 : decode cL_law 246 = .ok (.iload_n 3, 1) := by decide +kernel
theorem dL_law_247 : decode cL_law 247 = .ok (.iconst 1, 1) := by decide +kernel
theorem dL_law_248 : decode cL_law 248 = .ok (.iadd, 1) := by decide +kernel
theorem dL_law_249 : decode cL_law 249 = .ok (.iaload, 1) := by decide +kernel
theorem dL_law_250 : decode cL_law 250 = .ok (.aload_n 0, 1) := by decide +kernel
theorem dL_law_251 : decode cL_law 251 = .ok (.iload_n 3, 1) := by decide +kernel
theorem dL_law_252 : decode cL_law 252 = .ok (.iconst 2, 1) := by decide +kernel
theorem dL_law_253 : decode cL_law 253 = .ok (.iadd, 1) := by decide +kernel
theorem dL_law_254 : decode cL_law 254 = .ok (.iaload, 1) := by decide +kernel
theorem dL_law_255 : decode cL_law 255 = .ok (.invokevirtual 35, 3) := by decide +kernel
theorem dL_law_258 : decode cL_law 258 = .ok (.if_icmp .eq 773, 3) := by decide +kernel
theorem dL_law_261 : decode cL_law 261 = .ok (.iconst 0, 1) := by decide +kernel
theorem dL_law_262 : decode cL_law 262 = .ok (.ireturn, 1) := by decide +kernel
theorem dL_law_263 : decode cL_law 263 = .ok (.aload_n 1, 1) := by decide +kernel
theorem dL_law_264 : decode cL_law 264 = .ok (.aload_n 0, 1) := by decide +kernel
theorem dL_law_265 : decode cL_law 265 = .ok (.iload_n 3, 1) := by decide +kernel
theorem dL_law_266 : decode cL_law 266 = .ok (.iconst 1, 1) := by decide +kernel
theorem dL_law_267 : decode cL_law 267 = .ok (.iadd, 1) := by decide +kernel
theorem dL_law_268 : decode cL_law 268 = .ok (.iaload, 1) := by decide +kernel
theorem dL_law_269 : decode cL_law 269 = .ok (.invokevirtual 36, 3) := by decide +kernel
theorem dL_law_272 : decode cL_law 272 = .ok (.aload_n 2, 1) := by decide +kernel
theorem dL_law_273 : decode cL_law 273 = .ok (.aload_n 0, 1) := by decide +kernel
theorem dL_law_274 : decode cL_law 274 = .ok (.iload_n 3, 1) := by decide +kernel
theorem dL_law_275 : decode cL_law 275 = .ok (.iconst 1, 1) := by decide +kernel
theorem dL_law_276 : decode cL_law 276 = .ok (.iadd, 1) := by decide +kernel
theorem dL_law_277 : decode cL_law 277 = .ok (.iaload, 1) := by decide +kernel
theorem dL_law_278 : decode cL_law 278 = .ok (.invokevirtual 39, 3) := by decide +kernel
theorem dL_law_281 : decode cL_law 281 = .ok (.if_icmp .eq 750, 3) := by decide +kernel
theorem dL_law_284 : decode cL_law 284 = .ok (.iconst 0, 1) := by decide +kernel
theorem dL_law_285 : decode cL_law 285 = .ok (.ireturn, 1) := by decide +kernel
theorem dL_law_286 : decode cL_law 286 = .ok (.aload_n 1, 1) := by decide +kernel
theorem dL_law_287 : decode cL_law 287 = .ok (.invokevirtual 40, 3) := by decide +kernel
theorem dL_law_290 : decode cL_law 290 = .ok (.aload_n 2, 1) := by decide +kernel
theorem dL_law_291 : decode cL_law 291 = .ok (.invokevirtual 43, 3) := by decide +kernel
theorem dL_law_294 : decode cL_law 294 = .ok (.if_icmp .eq 737, 3) := by decide +kernel
theorem dL_law_297 : decode cL_law 297 = .ok (.iconst 0, 1) := by decide +kernel
theorem dL_law_298 : decode cL_law 298 = .ok (.ireturn, 1) := by decide +kernel
theorem dL_law_299 : decode cL_law 299 = .ok (.aload_n 1, 1) := by decide +kernel
theorem dL_law_300 : decode cL_law 300 = .ok (.aload_n 0, 1) := by decide +kernel
theorem dL_law_301 : decode cL_law 301 = .ok (.iload_n 3, 1) := by decide +kernel
theorem dL_law_302 : decode cL_law 302 = .ok (.iconst 1, 1) := by decide +kernel
theorem dL_law_303 : decode cL_law 303 = .ok (.iadd, 1) := by decide +kernel
theorem dL_law_304 : decode cL_law 304 = .ok (.iaload, 1) := by decide +kernel
theorem dL_law_305 : decode cL_law 305 = .ok (.aload_n 0, 1) := by decide +kernel
theorem dL_law_306 : decode cL_law 306 = .ok (.iload_n 3, 1) := by decide +kernel
theorem dL_law_307 : decode cL_law 307 = .ok (.iconst 2, 1) := by decide +kernel
theorem dL_law_308 : decode cL_law 308 = .ok (.iadd, 1) := by decide +kernel
theorem dL_law_309 : decode cL_law 309 = .ok (.iaload, 1) := by decide +kernel
theorem dL_law_310 : decode cL_law 310 = .ok (.invokevirtual 44, 3) := by decide +kernel
theorem dL_law_313 : decode cL_law 313 = .ok (.aload_n 2, 1) := by decide +kernel
theorem dL_law_314 : decode cL_law 314 = .ok (.aload_n 0, 1) := by decide +kernel
theorem dL_law_315 : decode cL_law 315 = .ok (.iload_n 3, 1) := by decide +kernel
theorem dL_law_316 : decode cL_law 316 = .ok (.iconst 1, 1) := by decide +kernel
theorem dL_law_317 : decode cL_law 317 = .ok (.iadd, 1) := by decide +kernel
theorem dL_law_318 : decode cL_law 318 = .ok (.iaload, 1) := by decide +kernel
theorem dL_law_319 : decode cL_law 319 = .ok (.aload_n 0, 1) := by decide +kernel
theorem dL_law_320 : decode cL_law 320 = .ok (.iload_n 3, 1) := by decide +kernel
theorem dL_law_321 : decode cL_law 321 = .ok (.iconst 2, 1) := by decide +kernel
theorem dL_law_322 : decode cL_law 322 = .ok (.iadd, 1) := by decide +kernel
theorem dL_law_323 : decode cL_law 323 = .ok (.iaload, 1) := by decide +kernel
theorem dL_law_324 : decode cL_law 324 = .ok (.invokevirtual 47, 3) := by decide +kernel
theorem dL_law_327 : decode cL_law 327 = .ok (.if_icmp .eq 704, 3) := by decide +kernel
theorem dL_law_330 : decode cL_law 330 = .ok (.iconst 0, 1) := by decide +kernel
theorem dL_law_331 : decode cL_law 331 = .ok (.ireturn, 1) := by decide +kernel
theorem dL_law_332 : decode cL_law 332 = .ok (.aload_n 1, 1) := by decide +kernel
theorem dL_law_333 : decode cL_law 333 = .ok (.aload_n 0, 1) := by decide +kernel
theorem dL_law_334 : decode cL_law 334 = .ok (.iload_n 3, 1) := by decide +kernel
theorem dL_law_335 : decode cL_law 335 = .ok (.iconst 1, 1) := by decide +kernel
theorem dL_law_336 : decode cL_law 336 = .ok (.iadd, 1) := by decide +kernel
theorem dL_law_337 : decode cL_law 337 = .ok (.iaload, 1) := by decide +kernel
theorem dL_law_338 : decode cL_law 338 = .ok (.aload_n 0, 1) := by decide +kernel
theorem dL_law_339 : decode cL_law 339 = .ok (.iload_n 3, 1) := by decide +kernel
theorem dL_law_340 : decode cL_law 340 = .ok (.iconst 2, 1) := by decide +kernel
theorem dL_law_341 : decode cL_law 341 = .ok (.iadd, 1) := by decide +kernel
theorem dL_law_342 : decode cL_law 342 = .ok (.iaload, 1) := by decide +kernel
theorem dL_law_343 : decode cL_law 343 = .ok (.invokevirtual 48, 3) := by decide +kernel
theorem dL_law_346 : decode cL_law 346 = .ok (.aload_n 2, 1) := by decide +kernel
theorem dL_law_347 : decode cL_law 347 = .ok (.aload_n 0, 1) := by decide +kernel
theorem dL_law_348 : decode cL_law 348 = .ok (.iload_n 3, 1) := by decide +kernel
theorem dL_law_349 : decode cL_law 349 = .ok (.iconst 1, 1) := by decide +kernel
theorem dL_law_350 : decode cL_law 350 = .ok (.iadd, 1) := by decide +kernel
theorem dL_law_351 : decode cL_law 351 = .ok (.iaload, 1) := by decide +kernel
theorem dL_law_352 : decode cL_law 352 = .ok (.aload_n 0, 1) := by decide +kernel
theorem dL_law_353 : decode cL_law 353 = .ok (.iload_n 3, 1) := by decide +kernel
theorem dL_law_354 : decode cL_law 354 = .ok (.iconst 2, 1) := by decide +kernel
theorem dL_law_355 : decode cL_law 355 = .ok (.iadd, 1) := by decide +kernel
theorem dL_law_356 : decode cL_law 356 = .ok (.iaload, 1) := by decide +kernel
theorem dL_law_357 : decode cL_law 357 = .ok (.invokevirtual 51, 3) := by decide +kernel
theorem dL_law_360 : decode cL_law 360 = .ok (.if_icmp .eq 671, 3) := by decide +kernel
theorem dL_law_363 : decode cL_law 363 = .ok (.iconst 0, 1) := by decide +kernel
theorem dL_law_364 : decode cL_law 364 = .ok (.ireturn, 1) := by decide +kernel
theorem dL_law_365 : decode cL_law 365 = .ok (.aload_n 1, 1) := by decide +kernel
theorem dL_law_366 : decode cL_law 366 = .ok (.invokevirtual 52, 3) := by decide +kernel
theorem dL_law_369 : decode cL_law 369 = .ok (.aload_n 2, 1) := by decide +kernel
theorem dL_law_370 : decode cL_law 370 = .ok (.invokevirtual 55, 3) := by decide +kernel
theorem dL_law_373 : decode cL_law 373 = .ok (.if_icmp .eq 658, 3) := by decide +kernel
theorem dL_law_376 : decode cL_law 376 = .ok (.iconst 0, 1) := by decide +kernel
theorem dL_law_377 : decode cL_law 377 = .ok (.ireturn, 1) := by decide +kernel
theorem dL_law_378 : decode cL_law 378 = .ok (.aload_n 1, 1) := by decide +kernel
theorem dL_law_379 : decode cL_law 379 = .ok (.aload_n 0, 1) := by decide +kernel
theorem dL_law_380 : decode cL_law 380 = .ok (.iload_n 3, 1) := by decide +kernel
theorem dL_law_381 : decode cL_law 381 = .ok (.iconst 1, 1) := by decide +kernel
theorem dL_law_382 : decode cL_law 382 = .ok (.iadd, 1) := by decide +kernel
theorem dL_law_383 : decode cL_law 383 = .ok (.iaload, 1) := by decide +kernel
theorem dL_law_384 : decode cL_law 384 = .ok (.invokevirtual 56, 3) := by decide +kernel
theorem dL_law_387 : decode cL_law 387 = .ok (.aload_n 2, 1) := by decide +kernel
theorem dL_law_388 : decode cL_law 388 = .ok (.aload_n 0, 1) := by decide +kernel
theorem dL_law_389 : decode cL_law 389 = .ok (.iload_n 3, 1) := by decide +kernel
theorem dL_law_390 : decode cL_law 390 = .ok (.iconst 1, 1) := by decide +kernel
theorem dL_law_391 : decode cL_law 391 = .ok (.iadd, 1) := by decide +kernel
theorem dL_law_392 : decode cL_law 392 = .ok (.iaload, 1) := by decide +kernel
theorem dL_law_393 : decode cL_law 393 = .ok (.invokevirtual 59, 3) := by decide +kernel
theorem dL_law_396 : decode cL_law 396 = .ok (.if_icmp .eq 635, 3) := by decide +kernel
theorem dL_law_399 : decode cL_law 399 = .ok (.iconst 0, 1) := by decide +kernel
theorem dL_law_400 : decode cL_law 400 = .ok (.ireturn, 1) := by decide +kernel
theorem dL_law_401 : decode cL_law 401 = .ok (.aload_n 1, 1) := by decide +kernel
theorem dL_law_402 : decode cL_law 402 = .ok (.invokevirtual 60, 3) := by decide +kernel
theorem dL_law_405 : decode cL_law 405 = .ok (.aload_n 2, 1) := by decide +kernel
theorem dL_law_406 : decode cL_law 406 = .ok (.invokevirtual 63, 3) := by decide +kernel
theorem dL_law_409 : decode cL_law 409 = .ok (.if_icmp .eq 622, 3) := by decide +kernel
theorem dL_law_412 : decode cL_law 412 = .ok (.iconst 0, 1) := by decide +kernel
theorem dL_law_413 : decode cL_law 413 = .ok (.ireturn, 1) := by decide +kernel
theorem dL_law_414 : decode cL_law 414 = .ok (.aload_n 1, 1) := by decide +kernel
theorem dL_law_415 : decode cL_law 415 = .ok (.aload_n 0, 1) := by decide +kernel
theorem dL_law_416 : decode cL_law 416 = .ok (.iload_n 3, 1) := by decide +kernel
theorem dL_law_417 : decode cL_law 417 = .ok (.iconst 1, 1) := by decide +kernel
theorem dL_law_418 : decode cL_law 418 = .ok (.iadd, 1) := by decide +kernel
theorem dL_law_419 : decode cL_law 419 = .ok (.iaload, 1) := by decide +kernel
theorem dL_law_420 : decode cL_law 420 = .ok (.aload_n 0, 1) := by decide +kernel
theorem dL_law_421 : decode cL_law 421 = .ok (.iload_n 3, 1) := by decide +kernel
theorem dL_law_422 : decode cL_law 422 = .ok (.iconst 2, 1) := by decide +kernel
theorem dL_law_423 : decode cL_law 423 = .ok (.iadd, 1) := by decide +kernel
theorem dL_law_424 : decode cL_law 424 = .ok (.iaload, 1) := by decide +kernel
theorem dL_law_425 : decode cL_law 425 = .ok (.invokevirtual 64, 3) := by decide +kernel
theorem dL_law_428 : decode cL_law 428 = .ok (.aload_n 2, 1) := by decide +kernel
theorem dL_law_429 : decode cL_law 429 = .ok (.aload_n 0, 1) := by decide +kernel
theorem dL_law_430 : decode cL_law 430 = .ok (.iload_n 3, 1) := by decide +kernel
theorem dL_law_431 : decode cL_law 431 = .ok (.iconst 1, 1) := by decide +kernel
theorem dL_law_432 : decode cL_law 432 = .ok (.iadd, 1) := by decide +kernel
theorem dL_law_433 : decode cL_law 433 = .ok (.iaload, 1) := by decide +kernel
theorem dL_law_434 : decode cL_law 434 = .ok (.aload_n 0, 1) := by decide +kernel
theorem dL_law_435 : decode cL_law 435 = .ok (.iload_n 3, 1) := by decide +kernel
theorem dL_law_436 : decode cL_law 436 = .ok (.iconst 2, 1) := by decide +kernel
theorem dL_law_437 : decode cL_law 437 = .ok (.iadd, 1) := by decide +kernel
theorem dL_law_438 : decode cL_law 438 = .ok (.iaload, 1) := by decide +kernel
theorem dL_law_439 : decode cL_law 439 = .ok (.invokevirtual 67, 3) := by decide +kernel
theorem dL_law_442 : decode cL_law 442 = .ok (.if_icmp .eq 589, 3) := by decide +kernel
theorem dL_law_445 : decode cL_law 445 = .ok (.iconst 0, 1) := by decide +kernel
theorem dL_law_446 : decode cL_law 446 = .ok (.ireturn, 1) := by decide +kernel
theorem dL_law_447 : decode cL_law 447 = .ok (.aload_n 1, 1) := by decide +kernel
theorem dL_law_448 : decode cL_law 448 = .ok (.aload_n 0, 1) := by decide +kernel
theorem dL_law_449 : decode cL_law 449 = .ok (.iload_n 3, 1) := by decide +kernel
theorem dL_law_450 : decode cL_law 450 = .ok (.iconst 1, 1) := by decide +kernel
theorem dL_law_451 : decode cL_law 451 = .ok (.iadd, 1) := by decide +kernel
theorem dL_law_452 : decode cL_law 452 = .ok (.iaload, 1) := by decide +kernel
theorem dL_law_453 : decode cL_law 453 = .ok (.invokevirtual 68, 3) := by decide +kernel
theorem dL_law_456 : decode cL_law 456 = .ok (.aload_n 2, 1) := by decide +kernel
theorem dL_law_457 : decode cL_law 457 = .ok (.aload_n 0, 1) := by decide +kernel
theorem dL_law_458 : decode cL_law 458 = .ok (.iload_n 3, 1) := by decide +kernel
theorem dL_law_459 : decode cL_law 459 = .ok (.iconst 1, 1) := by decide +kernel
theorem dL_law_460 : decode cL_law 460 = .ok (.iadd, 1) := by decide +kernel
theorem dL_law_461 : decode cL_law 461 = .ok (.iaload, 1) := by decide +kernel
theorem dL_law_462 : decode cL_law 462 = .ok (.invokevirtual 71, 3) := by decide +kernel
theorem dL_law_465 : decode cL_law 465 = .ok (.if_icmp .eq 566, 3) := by decide +kernel
theorem dL_law_468 : decode cL_law 468 = .ok (.iconst 0, 1) := by decide +kernel
theorem dL_law_469 : decode cL_law 469 = .ok (.ireturn, 1) := by decide +kernel
theorem dL_law_470 : decode cL_law 470 = .ok (.aload_n 1, 1) := by decide +kernel
theorem dL_law_471 : decode cL_law 471 = .ok (.aload_n 0, 1) := by decide +kernel
theorem dL_law_472 : decode cL_law 472 = .ok (.iload_n 3, 1) := by decide +kernel
theorem dL_law_473 : decode cL_law 473 = .ok (.iconst 1, 1) := by decide +kernel
theorem dL_law_474 : decode cL_law 474 = .ok (.iadd, 1) := by decide +kernel
theorem dL_law_475 : decode cL_law 475 = .ok (.iaload, 1) := by decide +kernel
theorem dL_law_476 : decode cL_law 476 = .ok (.invokevirtual 72, 3) := by decide +kernel
theorem dL_law_479 : decode cL_law 479 = .ok (.aload_n 2, 1) := by decide +kernel
theorem dL_law_480 : decode cL_law 480 = .ok (.aload_n 0, 1) := by decide +kernel
theorem dL_law_481 : decode cL_law 481 = .ok (.iload_n 3, 1) := by decide +kernel
theorem dL_law_482 : decode cL_law 482 = .ok (.iconst 1, 1) := by decide +kernel
theorem dL_law_483 : decode cL_law 483 = .ok (.iadd, 1) := by decide +kernel
theorem dL_law_484 : decode cL_law 484 = .ok (.iaload, 1) := by decide +kernel
theorem dL_law_485 : decode cL_law 485 = .ok (.invokevirtual 75, 3) := by decide +kernel
theorem dL_law_488 : decode cL_law 488 = .ok (.if_icmp .eq 543, 3) := by decide +kernel
theorem dL_law_491 : decode cL_law 491 = .ok (.iconst 0, 1) := by decide +kernel
theorem dL_law_492 : decode cL_law 492 = .ok (.ireturn, 1) := by decide +kernel
theorem dL_law_493 : decode cL_law 493 = .ok (.aload_n 1, 1) := by decide +kernel
theorem dL_law_494 : decode cL_law 494 = .ok (.invokevirtual 76, 3) := by decide +kernel
theorem dL_law_497 : decode cL_law 497 = .ok (.aload_n 2, 1) := by decide +kernel
theorem dL_law_498 : decode cL_law 498 = .ok (.invokevirtual 79, 3) := by decide +kernel
theorem dL_law_501 : decode cL_law 501 = .ok (.if_icmp .eq 530, 3) := by decide +kernel
theorem dL_law_504 : decode cL_law 504 = .ok (.iconst 0, 1) := by decide +kernel
theorem dL_law_505 : decode cL_law 505 = .ok (.ireturn, 1) := by decide +kernel
theorem dL_law_506 : decode cL_law 506 = .ok (.aload_n 1, 1) := by decide +kernel
theorem dL_law_507 : decode cL_law 507 = .ok (.aload_n 0, 1) := by decide +kernel
theorem dL_law_508 : decode cL_law 508 = .ok (.iload_n 3, 1) := by decide +kernel
theorem dL_law_509 : decode cL_law 509 = .ok (.iconst 1, 1) := by decide +kernel
theorem dL_law_510 : decode cL_law 510 = .ok (.iadd, 1) := by decide +kernel
theorem dL_law_511 : decode cL_law 511 = .ok (.iaload, 1) := by decide +kernel
theorem dL_law_512 : decode cL_law 512 = .ok (.aload_n 0, 1) := by decide +kernel
theorem dL_law_513 : decode cL_law 513 = .ok (.iload_n 3, 1) := by decide +kernel
theorem dL_law_514 : decode cL_law 514 = .ok (.iconst 2, 1) := by decide +kernel
theorem dL_law_515 : decode cL_law 515 = .ok (.iadd, 1) := by decide +kernel
theorem dL_law_516 : decode cL_law 516 = .ok (.iaload, 1) := by decide +kernel
theorem dL_law_517 : decode cL_law 517 = .ok (.aload_n 0, 1) := by decide +kernel
theorem dL_law_518 : decode cL_law 518 = .ok (.iload_n 3, 1) := by decide +kernel
theorem dL_law_519 : decode cL_law 519 = .ok (.iconst 3, 1) := by decide +kernel
theorem dL_law_520 : decode cL_law 520 = .ok (.iadd, 1) := by decide +kernel
theorem dL_law_521 : decode cL_law 521 = .ok (.iaload, 1) := by decide +kernel
theorem dL_law_522 : decode cL_law 522 = .ok (.aload_n 0, 1) := by decide +kernel
theorem dL_law_523 : decode cL_law 523 = .ok (.iload_n 3, 1) := by decide +kernel
theorem dL_law_524 : decode cL_law 524 = .ok (.iconst 4, 1) := by decide +kernel
theorem dL_law_525 : decode cL_law 525 = .ok (.iadd, 1) := by decide +kernel
theorem dL_law_526 : decode cL_law 526 = .ok (.iaload, 1) := by decide +kernel
theorem dL_law_527 : decode cL_law 527 = .ok (.invokevirtual 80, 3) := by decide +kernel
theorem dL_law_530 : decode cL_law 530 = .ok (.aload_n 2, 1) := by decide +kernel
theorem dL_law_531 : decode cL_law 531 = .ok (.aload_n 0, 1) := by decide +kernel
theorem dL_law_532 : decode cL_law 532 = .ok (.iload_n 3, 1) := by decide +kernel
theorem dL_law_533 : decode cL_law 533 = .ok (.iconst 1, 1) := by decide +kernel
theorem dL_law_534 : decode cL_law 534 = .ok (.iadd, 1) := by decide +kernel
theorem dL_law_535 : decode cL_law 535 = .ok (.iaload, 1) := by decide +kernel
theorem dL_law_536 : decode cL_law 536 = .ok (.aload_n 0, 1) := by decide +kernel
theorem dL_law_537 : decode cL_law 537 = .ok (.iload_n 3, 1) := by decide +kernel
theorem dL_law_538 : decode cL_law 538 = .ok (.iconst 2, 1) := by decide +kernel
theorem dL_law_539 : decode cL_law 539 = .ok (.iadd, 1) := by decide +kernel
theorem dL_law_540 : decode cL_law 540 = .ok (.iaload, 1) := by decide +kernel
theorem dL_law_541 : decode cL_law 541 = .ok (.aload_n 0, 1) := by decide +kernel
theorem dL_law_542 : decode cL_law 542 = .ok (.iload_n 3, 1) := by decide +kernel
theorem dL_law_543 : decode cL_law 543 = .ok (.iconst 3, 1) := by decide +kernel
theorem dL_law_544 : decode cL_law 544 = .ok (.iadd, 1) := by decide +kernel
theorem dL_law_545 : decode cL_law 545 = .ok (.iaload, 1) := by decide +kernel
theorem dL_law_546 : decode cL_law 546 = .ok (.aload_n 0, 1) := by decide +kernel
theorem dL_law_547 : decode cL_law 547 = .ok (.iload_n 3, 1) := by decide +kernel
theorem dL_law_548 : decode cL_law 548 = .ok (.iconst 4, 1) := by decide +kernel
theorem dL_law_549 : decode cL_law 549 = .ok (.iadd, 1) := by decide +kernel
theorem dL_law_550 : decode cL_law 550 = .ok (.iaload, 1) := by decide +kernel
theorem dL_law_551 : decode cL_law 551 = .ok (.invokevirtual 84, 3) := by decide +kernel
theorem dL_law_554 : decode cL_law 554 = .ok (.if_icmp .eq 477, 3) := by decide +kernel
theorem dL_law_557 : decode cL_law 557 = .ok (.iconst 0, 1) := by decide +kernel
theorem dL_law_558 : decode cL_law 558 = .ok (.ireturn, 1) := by decide +kernel
theorem dL_law_559 : decode cL_law 559 = .ok (.aload_n 1, 1) := by decide +kernel
theorem dL_law_560 : decode cL_law 560 = .ok (.aload_n 0, 1) := by decide +kernel
theorem dL_law_561 : decode cL_law 561 = .ok (.iload_n 3, 1) := by decide +kernel
theorem dL_law_562 : decode cL_law 562 = .ok (.iconst 1, 1) := by decide +kernel
theorem dL_law_563 : decode cL_law 563 = .ok (.iadd, 1) := by decide +kernel
theorem dL_law_564 : decode cL_law 564 = .ok (.iaload, 1) := by decide +kernel
theorem dL_law_565 : decode cL_law 565 = .ok (.aload_n 0, 1) := by decide +kernel
theorem dL_law_566 : decode cL_law 566 = .ok (.iload_n 3, 1) := by decide +kernel
theorem dL_law_567 : decode cL_law 567 = .ok (.iconst 2, 1) := by decide +kernel
theorem dL_law_568 : decode cL_law 568 = .ok (.iadd, 1) := by decide +kernel
theorem dL_law_569 : decode cL_law 569 = .ok (.iaload, 1) := by decide +kernel
theorem dL_law_570 : decode cL_law 570 = .ok (.invokevirtual 85, 3) := by decide +kernel
theorem dL_law_573 : decode cL_law 573 = .ok (.aload_n 2, 1) := by decide +kernel
theorem dL_law_574 : decode cL_law 574 = .ok (.aload_n 0, 1) := by decide +kernel
theorem dL_law_575 : decode cL_law 575 = .ok (.iload_n 3, 1) := by decide +kernel
theorem dL_law_576 : decode cL_law 576 = .ok (.iconst 1, 1) := by decide +kernel
theorem dL_law_577 : decode cL_law 577 = .ok (.iadd, 1) := by decide +kernel
theorem dL_law_578 : decode cL_law 578 = .ok (.iaload, 1) := by decide +kernel
theorem dL_law_579 : decode cL_law 579 = .ok (.aload_n 0, 1) := by decide +kernel
theorem dL_law_580 : decode cL_law 580 = .ok (.iload_n 3, 1) := by decide +kernel
theorem dL_law_581 : decode cL_law 581 = .ok (.iconst 2, 1) := by decide +kernel
theorem dL_law_582 : decode cL_law 582 = .ok (.iadd, 1) := by decide +kernel
theorem dL_law_583 : decode cL_law 583 = .ok (.iaload, 1) := by decide +kernel
theorem dL_law_584 : decode cL_law 584 = .ok (.invokevirtual 88, 3) := by decide +kernel
theorem dL_law_587 : decode cL_law 587 = .ok (.if_icmp .eq 444, 3) := by decide +kernel
theorem dL_law_590 : decode cL_law 590 = .ok (.iconst 0, 1) := by decide +kernel
theorem dL_law_591 : decode cL_law 591 = .ok (.ireturn, 1) := by decide +kernel
theorem dL_law_592 : decode cL_law 592 = .ok (.aload_n 1, 1) := by decide +kernel
theorem dL_law_593 : decode cL_law 593 = .ok (.aload_n 0, 1) := by decide +kernel
theorem dL_law_594 : decode cL_law 594 = .ok (.iload_n 3, 1) := by decide +kernel
theorem dL_law_595 : decode cL_law 595 = .ok (.iconst 1, 1) := by decide +kernel
theorem dL_law_596 : decode cL_law 596 = .ok (.iadd, 1) := by decide +kernel
theorem dL_law_597 : decode cL_law 597 = .ok (.iaload, 1) := by decide +kernel
theorem dL_law_598 : decode cL_law 598 = .ok (.aload_n 0, 1) := by decide +kernel
theorem dL_law_599 : decode cL_law 599 = .ok (.iload_n 3, 1) := by decide +kernel
theorem dL_law_600 : decode cL_law 600 = .ok (.iconst 2, 1) := by decide +kernel
theorem dL_law_601 : decode cL_law 601 = .ok (.iadd, 1) := by decide +kernel
theorem dL_law_602 : decode cL_law 602 = .ok (.iaload, 1) := by decide +kernel
theorem dL_law_603 : decode cL_law 603 = .ok (.i2l, 1) := by decide +kernel
theorem dL_law_604 : decode cL_law 604 = .ok (.bipush 32, 2) := by decide +kernel
theorem dL_law_606 : decode cL_law 606 = .ok (.lshl, 1) := by decide +kernel
theorem dL_law_607 : decode cL_law 607 = .ok (.aload_n 0, 1) := by decide +kernel
theorem dL_law_608 : decode cL_law 608 = .ok (.iload_n 3, 1) := by decide +kernel
theorem dL_law_609 : decode cL_law 609 = .ok (.iconst 3, 1) := by decide +kernel
theorem dL_law_610 : decode cL_law 610 = .ok (.iadd, 1) := by decide +kernel
theorem dL_law_611 : decode cL_law 611 = .ok (.iaload, 1) := by decide +kernel
theorem dL_law_612 : decode cL_law 612 = .ok (.i2l, 1) := by decide +kernel
theorem dL_law_613 : decode cL_law 613 = .ok (.ldc2_w 89, 3) := by decide +kernel
theorem dL_law_616 : decode cL_law 616 = .ok (.land, 1) := by decide +kernel
theorem dL_law_617 : decode cL_law 617 = .ok (.lor, 1) := by decide +kernel
theorem dL_law_618 : decode cL_law 618 = .ok (.invokevirtual 91, 3) := by decide +kernel
theorem dL_law_621 : decode cL_law 621 = .ok (.aload_n 2, 1) := by decide +kernel
theorem dL_law_622 : decode cL_law 622 = .ok (.aload_n 0, 1) := by decide +kernel
theorem dL_law_623 : decode cL_law 623 = .ok (.iload_n 3, 1) := by decide +kernel
theorem dL_law_624 : decode cL_law 624 = .ok (.iconst 1, 1) := by decide +kernel
theorem dL_law_625 : decode cL_law 625 = .ok (.iadd, 1) := by decide +kernel
theorem dL_law_626 : decode cL_law 626 = .ok (.iaload, 1) := by decide +kernel
theorem dL_law_627 : decode cL_law 627 = .ok (.aload_n 0, 1) := by decide +kernel
theorem dL_law_628 : decode cL_law 628 = .ok (.iload_n 3, 1) := by decide +kernel
theorem dL_law_629 : decode cL_law 629 = .ok (.iconst 2, 1) := by decide +kernel
theorem dL_law_630 : decode cL_law 630 = .ok (.iadd, 1) := by decide +kernel
theorem dL_law_631 : decode cL_law 631 = .ok (.iaload, 1) := by decide +kernel
theorem dL_law_632 : decode cL_law 632 = .ok (.i2l, 1) := by decide +kernel
theorem dL_law_633 : decode cL_law 633 = .ok (.bipush 32, 2) := by decide +kernel
theorem dL_law_635 : decode cL_law 635 = .ok (.lshl, 1) := by decide +kernel
theorem dL_law_636 : decode cL_law 636 = .ok (.aload_n 0, 1) := by decide +kernel
theorem dL_law_637 : decode cL_law 637 = .ok (.iload_n 3, 1) := by decide +kernel
theorem dL_law_638 : decode cL_law 638 = .ok (.iconst 3, 1) := by decide +kernel
theorem dL_law_639 : decode cL_law 639 = .ok (.iadd, 1) := by decide +kernel
theorem dL_law_640 : decode cL_law 640 = .ok (.iaload, 1) := by decide +kernel
theorem dL_law_641 : decode cL_law 641 = .ok (.i2l, 1) := by decide +kernel
theorem dL_law_642 : decode cL_law 642 = .ok (.ldc2_w 89, 3) := by decide +kernel
theorem dL_law_645 : decode cL_law 645 = .ok (.land, 1) := by decide +kernel
theorem dL_law_646 : decode cL_law 646 = .ok (.lor, 1) := by decide +kernel
theorem dL_law_647 : decode cL_law 647 = .ok (.invokevirtual 95, 3) := by decide +kernel
theorem dL_law_650 : decode cL_law 650 = .ok (.if_icmp .eq 381, 3) := by decide +kernel
theorem dL_law_653 : decode cL_law 653 = .ok (.iconst 0, 1) := by decide +kernel
theorem dL_law_654 : decode cL_law 654 = .ok (.ireturn, 1) := by decide +kernel
theorem dL_law_655 : decode cL_law 655 = .ok (.aload_n 1, 1) := by decide +kernel
theorem dL_law_656 : decode cL_law 656 = .ok (.aload_n 0, 1) := by decide +kernel
theorem dL_law_657 : decode cL_law 657 = .ok (.iload_n 3, 1) := by decide +kernel
theorem dL_law_658 : decode cL_law 658 = .ok (.iconst 1, 1) := by decide +kernel
theorem dL_law_659 : decode cL_law 659 = .ok (.iadd, 1) := by decide +kernel
theorem dL_law_660 : decode cL_law 660 = .ok (.iaload, 1) := by decide +kernel
theorem dL_law_661 : decode cL_law 661 = .ok (.aload_n 0, 1) := by decide +kernel
theorem dL_law_662 : decode cL_law 662 = .ok (.iload_n 3, 1) := by decide +kernel
theorem dL_law_663 : decode cL_law 663 = .ok (.iconst 2, 1) := by decide +kernel
theorem dL_law_664 : decode cL_law 664 = .ok (.iadd, 1) := by decide +kernel
theorem dL_law_665 : decode cL_law 665 = .ok (.iaload, 1) := by decide +kernel
theorem dL_law_666 : decode cL_law 666 = .ok (.aload_n 0, 1) := by decide +kernel
theorem dL_law_667 : decode cL_law 667 = .ok (.iload_n 3, 1) := by decide +kernel
theorem dL_law_668 : decode cL_law 668 = .ok (.iconst 3, 1) := by decide +kernel
theorem dL_law_669 : decode cL_law 669 = .ok (.iadd, 1) := by decide +kernel
theorem dL_law_670 : decode cL_law 670 = .ok (.iaload, 1) := by decide +kernel
theorem dL_law_671 : decode cL_law 671 = .ok (.invokevirtual 96, 3) := by decide +kernel
theorem dL_law_674 : decode cL_law 674 = .ok (.aload_n 2, 1) := by decide +kernel
theorem dL_law_675 : decode cL_law 675 = .ok (.aload_n 0, 1) := by decide +kernel
theorem dL_law_676 : decode cL_law 676 = .ok (.iload_n 3, 1) := by decide +kernel
theorem dL_law_677 : decode cL_law 677 = .ok (.iconst 1, 1) := by decide +kernel
theorem dL_law_678 : decode cL_law 678 = .ok (.iadd, 1) := by decide +kernel
theorem dL_law_679 : decode cL_law 679 = .ok (.iaload, 1) := by decide +kernel
theorem dL_law_680 : decode cL_law 680 = .ok (.aload_n 0, 1) := by decide +kernel
theorem dL_law_681 : decode cL_law 681 = .ok (.iload_n 3, 1) := by decide +kernel
theorem dL_law_682 : decode cL_law 682 = .ok (.iconst 2, 1) := by decide +kernel
theorem dL_law_683 : decode cL_law 683 = .ok (.iadd, 1) := by decide +kernel
theorem dL_law_684 : decode cL_law 684 = .ok (.iaload, 1) := by decide +kernel
theorem dL_law_685 : decode cL_law 685 = .ok (.aload_n 0, 1) := by decide +kernel
theorem dL_law_686 : decode cL_law 686 = .ok (.iload_n 3, 1) := by decide +kernel
theorem dL_law_687 : decode cL_law 687 = .ok (.iconst 3, 1) := by decide +kernel
theorem dL_law_688 : decode cL_law 688 = .ok (.iadd, 1) := by decide +kernel
theorem dL_law_689 : decode cL_law 689 = .ok (.iaload, 1) := by decide +kernel
theorem dL_law_690 : decode cL_law 690 = .ok (.invokevirtual 100, 3) := by decide +kernel
theorem dL_law_693 : decode cL_law 693 = .ok (.if_icmp .eq 338, 3) := by decide +kernel
theorem dL_law_696 : decode cL_law 696 = .ok (.iconst 0, 1) := by decide +kernel
theorem dL_law_697 : decode cL_law 697 = .ok (.ireturn, 1) := by decide +kernel
theorem dL_law_698 : decode cL_law 698 = .ok (.aload_n 1, 1) := by decide +kernel
theorem dL_law_699 : decode cL_law 699 = .ok (.invokevirtual 101, 3) := by decide +kernel
theorem dL_law_702 : decode cL_law 702 = .ok (.aload_n 2, 1) := by decide +kernel
theorem dL_law_703 : decode cL_law 703 = .ok (.invokevirtual 104, 3) := by decide +kernel
theorem dL_law_706 : decode cL_law 706 = .ok (.if_icmp .eq 325, 3) := by decide +kernel
theorem dL_law_709 : decode cL_law 709 = .ok (.iconst 0, 1) := by decide +kernel
theorem dL_law_710 : decode cL_law 710 = .ok (.ireturn, 1) := by decide +kernel
theorem dL_law_711 : decode cL_law 711 = .ok (.aload_n 1, 1) := by decide +kernel
theorem dL_law_712 : decode cL_law 712 = .ok (.aload_n 0, 1) := by decide +kernel
theorem dL_law_713 : decode cL_law 713 = .ok (.iload_n 3, 1) := by decide +kernel
theorem dL_law_714 : decode cL_law 714 = .ok (.iconst 1, 1) := by decide +kernel
theorem dL_law_715 : decode cL_law 715 = .ok (.iadd, 1) := by decide +kernel
theorem dL_law_716 : decode cL_law 716 = .ok (.iaload, 1) := by decide +kernel
theorem dL_law_717 : decode cL_law 717 = .ok (.invokevirtual 105, 3) := by decide +kernel
theorem dL_law_720 : decode cL_law 720 = .ok (.aload_n 2, 1) := by decide +kernel
theorem dL_law_721 : decode cL_law 721 = .ok (.aload_n 0, 1) := by decide +kernel
theorem dL_law_722 : decode cL_law 722 = .ok (.iload_n 3, 1) := by decide +kernel
theorem dL_law_723 : decode cL_law 723 = .ok (.iconst 1, 1) := by decide +kernel
theorem dL_law_724 : decode cL_law 724 = .ok (.iadd, 1) := by decide +kernel
theorem dL_law_725 : decode cL_law 725 = .ok (.iaload, 1) := by decide +kernel
theorem dL_law_726 : decode cL_law 726 = .ok (.invokevirtual 108, 3) := by decide +kernel
theorem dL_law_729 : decode cL_law 729 = .ok (.if_icmp .eq 302, 3) := by decide +kernel
theorem dL_law_732 : decode cL_law 732 = .ok (.iconst 0, 1) := by decide +kernel
theorem dL_law_733 : decode cL_law 733 = .ok (.ireturn, 1) := by decide +kernel
theorem dL_law_734 : decode cL_law 734 = .ok (.aload_n 1, 1) := by decide +kernel
theorem dL_law_735 : decode cL_law 735 = .ok (.aload_n 0, 1) := by decide +kernel
theorem dL_law_736 : decode cL_law 736 = .ok (.iload_n 3, 1) := by decide +kernel
theorem dL_law_737 : decode cL_law 737 = .ok (.iconst 1, 1) := by decide +kernel
theorem dL_law_738 : decode cL_law 738 = .ok (.iadd, 1) := by decide +kernel
theorem dL_law_739 : decode cL_law 739 = .ok (.iaload, 1) := by decide +kernel
theorem dL_law_740 : decode cL_law 740 = .ok (.aload_n 0, 1) := by decide +kernel
theorem dL_law_741 : decode cL_law 741 = .ok (.iload_n 3, 1) := by decide +kernel
theorem dL_law_742 : decode cL_law 742 = .ok (.iconst 2, 1) := by decide +kernel
theorem dL_law_743 : decode cL_law 743 = .ok (.iadd, 1) := by decide +kernel
theorem dL_law_744 : decode cL_law 744 = .ok (.iaload, 1) := by decide +kernel
theorem dL_law_745 : decode cL_law 745 = .ok (.ifCond .eq 7, 3) := by decide +kernel
theorem dL_law_748 : decode cL_law 748 = .ok (.iconst 1, 1) := by decide +kernel
theorem dL_law_749 : decode cL_law 749 = .ok (.goto 4, 3) := by decide +kernel
theorem dL_law_752 : decode cL_law 752 = .ok (.iconst 0, 1) := by decide +kernel
theorem dL_law_753 : decode cL_law 753 = .ok (.invokevirtual 109, 3) := by decide +kernel
theorem dL_law_756 : decode cL_law 756 = .ok (.aload_n 2, 1) := by decide +kernel
theorem dL_law_757 : decode cL_law 757 = .ok (.aload_n 0, 1) := by decide +kernel
theorem dL_law_758 : decode cL_law 758 = .ok (.iload_n 3, 1) := by decide +kernel
theorem dL_law_759 : decode cL_law 759 = .ok (.iconst 1, 1) := by decide +kernel
theorem dL_law_760 : decode cL_law 760 = .ok (.iadd, 1) := by decide +kernel
theorem dL_law_761 : decode cL_law 761 = .ok (.iaload, 1) := by decide +kernel
theorem dL_law_762 : decode cL_law 762 = .ok (.aload_n 0, 1) := by decide +kernel
theorem dL_law_763 : decode cL_law 763 = .ok (.iload_n 3, 1) := by decide +kernel
theorem dL_law_764 : decode cL_law 764 = .ok (.iconst 2, 1) := by decide +kernel
theorem dL_law_765 : decode cL_law 765 = .ok (.iadd, 1) := by decide +kernel
theorem dL_law_766 : decode cL_law 766 = .ok (.iaload, 1) := by decide +kernel
theorem dL_law_767 : decode cL_law 767 = .ok (.ifCond .eq 7, 3) := by decide +kernel
theorem dL_law_770 : decode cL_law 770 = .ok (.iconst 1, 1) := by decide +kernel
theorem dL_law_771 : decode cL_law 771 = .ok (.goto 4, 3) := by decide +kernel
theorem dL_law_774 : decode cL_law 774 = .ok (.iconst 0, 1) := by decide +kernel
theorem dL_law_775 : decode cL_law 775 = .ok (.invokevirtual 113, 3) := by decide +kernel
theorem dL_law_778 : decode cL_law 778 = .ok (.if_icmp .eq 253, 3) := by decide +kernel
theorem dL_law_781 : decode cL_law 781 = .ok (.iconst 0, 1) := by decide +kernel
theorem dL_law_782 : decode cL_law 782 = .ok (.ireturn, 1) := by decide +kernel
theorem dL_law_783 : decode cL_law 783 = .ok (.aload_n 1, 1) := by decide +kernel
theorem dL_law_784 : decode cL_law 784 = .ok (.aload_n 0, 1) := by decide +kernel
theorem dL_law_785 : decode cL_law 785 = .ok (.iload_n 3, 1) := by decide +kernel
theorem dL_law_786 : decode cL_law 786 = .ok (.iconst 1, 1) := by decide +kernel
theorem dL_law_787 : decode cL_law 787 = .ok (.iadd, 1) := by decide +kernel
theorem dL_law_788 : decode cL_law 788 = .ok (.iaload, 1) := by decide +kernel
theorem dL_law_789 : decode cL_law 789 = .ok (.aload_n 0, 1) := by decide +kernel
theorem dL_law_790 : decode cL_law 790 = .ok (.iload_n 3, 1) := by decide +kernel
theorem dL_law_791 : decode cL_law 791 = .ok (.iconst 2, 1) := by decide +kernel
theorem dL_law_792 : decode cL_law 792 = .ok (.iadd, 1) := by decide +kernel
theorem dL_law_793 : decode cL_law 793 = .ok (.iaload, 1) := by decide +kernel
theorem dL_law_794 : decode cL_law 794 = .ok (.aload_n 0, 1) := by decide +kernel
theorem dL_law_795 : decode cL_law 795 = .ok (.iload_n 3, 1) := by decide +kernel
theorem dL_law_796 : decode cL_law 796 = .ok (.iconst 3, 1) := by decide +kernel
theorem dL_law_797 : decode cL_law 797 = .ok (.iadd, 1) := by decide +kernel
theorem dL_law_798 : decode cL_law 798 = .ok (.iaload, 1) := by decide +kernel
theorem dL_law_799 : decode cL_law 799 = .ok (.invokevirtual 114, 3) := by decide +kernel
theorem dL_law_802 : decode cL_law 802 = .ok (.aload_n 2, 1) := by decide +kernel
theorem dL_law_803 : decode cL_law 803 = .ok (.aload_n 0, 1) := by decide +kernel
theorem dL_law_804 : decode cL_law 804 = .ok (.iload_n 3, 1) := by decide +kernel
theorem dL_law_805 : decode cL_law 805 = .ok (.iconst 1, 1) := by decide +kernel
theorem dL_law_806 : decode cL_law 806 = .ok (.iadd, 1) := by decide +kernel
theorem dL_law_807 : decode cL_law 807 = .ok (.iaload, 1) := by decide +kernel
theorem dL_law_808 : decode cL_law 808 = .ok (.aload_n 0, 1) := by decide +kernel
theorem dL_law_809 : decode cL_law 809 = .ok (.iload_n 3, 1) := by decide +kernel
theorem dL_law_810 : decode cL_law 810 = .ok (.iconst 2, 1) := by decide +kernel
theorem dL_law_811 : decode cL_law 811 = .ok (.iadd, 1) := by decide +kernel
theorem dL_law_812 : decode cL_law 812 = .ok (.iaload, 1) := by decide +kernel
theorem dL_law_813 : decode cL_law 813 = .ok (.aload_n 0, 1) := by decide +kernel
theorem dL_law_814 : decode cL_law 814 = .ok (.iload_n 3, 1) := by decide +kernel
theorem dL_law_815 : decode cL_law 815 = .ok (.iconst 3, 1) := by decide +kernel
theorem dL_law_816 : decode cL_law 816 = .ok (.iadd, 1) := by decide +kernel
theorem dL_law_817 : decode cL_law 817 = .ok (.iaload, 1) := by decide +kernel
theorem dL_law_818 : decode cL_law 818 = .ok (.invokevirtual 117, 3) := by decide +kernel
theorem dL_law_821 : decode cL_law 821 = .ok (.if_icmp .eq 210, 3) := by decide +kernel
theorem dL_law_824 : decode cL_law 824 = .ok (.iconst 0, 1) := by decide +kernel
theorem dL_law_825 : decode cL_law 825 = .ok (.ireturn, 1) := by decide +kernel
theorem dL_law_826 : decode cL_law 826 = .ok (.aload_n 1, 1) := by decide +kernel
theorem dL_law_827 : decode cL_law 827 = .ok (.aload_n 0, 1) := by decide +kernel
theorem dL_law_828 : decode cL_law 828 = .ok (.iload_n 3, 1) := by decide +kernel
theorem dL_law_829 : decode cL_law 829 = .ok (.iconst 1, 1) := by decide +kernel
theorem dL_law_830 : decode cL_law 830 = .ok (.iadd, 1) := by decide +kernel
theorem dL_law_831 : decode cL_law 831 = .ok (.iaload, 1) := by decide +kernel
theorem dL_law_832 : decode cL_law 832 = .ok (.aload_n 0, 1) := by decide +kernel
theorem dL_law_833 : decode cL_law 833 = .ok (.iload_n 3, 1) := by decide +kernel
theorem dL_law_834 : decode cL_law 834 = .ok (.iconst 2, 1) := by decide +kernel
theorem dL_law_835 : decode cL_law 835 = .ok (.iadd, 1) := by decide +kernel
theorem dL_law_836 : decode cL_law 836 = .ok (.iaload, 1) := by decide +kernel
theorem dL_law_837 : decode cL_law 837 = .ok (.aload_n 0, 1) := by decide +kernel
theorem dL_law_838 : decode cL_law 838 = .ok (.iload_n 3, 1) := by decide +kernel
theorem dL_law_839 : decode cL_law 839 = .ok (.iconst 3, 1) := by decide +kernel
theorem dL_law_840 : decode cL_law 840 = .ok (.iadd, 1) := by decide +kernel
theorem dL_law_841 : decode cL_law 841 = .ok (.iaload, 1) := by decide +kernel
theorem dL_law_842 : decode cL_law 842 = .ok (.ifCond .eq 7, 3) := by decide +kernel
theorem dL_law_845 : decode cL_law 845 = .ok (.iconst 1, 1) := by decide +kernel
theorem dL_law_846 : decode cL_law 846 = .ok (.goto 4, 3) := by decide +kernel
theorem dL_law_849 : decode cL_law 849 = .ok (.iconst 0, 1) := by decide +kernel
theorem dL_law_850 : decode cL_law 850 = .ok (.invokevirtual 118, 3) := by decide +kernel
theorem dL_law_853 : decode cL_law 853 = .ok (.aload_n 2, 1) := by decide +kernel
theorem dL_law_854 : decode cL_law 854 = .ok (.aload_n 0, 1) := by decide +kernel
theorem dL_law_855 : decode cL_law 855 = .ok (.iload_n 3, 1) := by decide +kernel
theorem dL_law_856 : decode cL_law 856 = .ok (.iconst 1, 1) := by decide +kernel
theorem dL_law_857 : decode cL_law 857 = .ok (.iadd, 1) := by decide +kernel
theorem dL_law_858 : decode cL_law 858 = .ok (.iaload, 1) := by decide +kernel
theorem dL_law_859 : decode cL_law 859 = .ok (.aload_n 0, 1) := by decide +kernel
theorem dL_law_860 : decode cL_law 860 = .ok (.iload_n 3, 1) := by decide +kernel
theorem dL_law_861 : decode cL_law 861 = .ok (.iconst 2, 1) := by decide +kernel
theorem dL_law_862 : decode cL_law 862 = .ok (.iadd, 1) := by decide +kernel
theorem dL_law_863 : decode cL_law 863 = .ok (.iaload, 1) := by decide +kernel
theorem dL_law_864 : decode cL_law 864 = .ok (.aload_n 0, 1) := by decide +kernel
theorem dL_law_865 : decode cL_law 865 = .ok (.iload_n 3, 1) := by decide +kernel
theorem dL_law_866 : decode cL_law 866 = .ok (.iconst 3, 1) := by decide +kernel
theorem dL_law_867 : decode cL_law 867 = .ok (.iadd, 1) := by decide +kernel
theorem dL_law_868 : decode cL_law 868 = .ok (.iaload, 1) := by decide +kernel
theorem dL_law_869 : decode cL_law 869 = .ok (.ifCond .eq 7, 3) := by decide +kernel
theorem dL_law_872 : decode cL_law 872 = .ok (.iconst 1, 1) := by decide +kernel
theorem dL_law_873 : decode cL_law 873 = .ok (.goto 4, 3) := by decide +kernel
theorem dL_law_876 : decode cL_law 876 = .ok (.iconst 0, 1) := by decide +kernel
theorem dL_law_877 : decode cL_law 877 = .ok (.invokevirtual 122, 3) := by decide +kernel
theorem dL_law_880 : decode cL_law 880 = .ok (.if_icmp .eq 151, 3) := by decide +kernel
theorem dL_law_883 : decode cL_law 883 = .ok (.iconst 0, 1) := by decide +kernel
theorem dL_law_884 : decode cL_law 884 = .ok (.ireturn, 1) := by decide +kernel
theorem dL_law_885 : decode cL_law 885 = .ok (.aload_n 1, 1) := by decide +kernel
theorem dL_law_886 : decode cL_law 886 = .ok (.aload_n 0, 1) := by decide +kernel
theorem dL_law_887 : decode cL_law 887 = .ok (.iload_n 3, 1) := by decide +kernel
theorem dL_law_888 : decode cL_law 888 = .ok (.iconst 1, 1) := by decide +kernel
theorem dL_law_889 : decode cL_law 889 = .ok (.iadd, 1) := by decide +kernel
theorem dL_law_890 : decode cL_law 890 = .ok (.iaload, 1) := by decide +kernel
theorem dL_law_891 : decode cL_law 891 = .ok (.i2l, 1) := by decide +kernel
theorem dL_law_892 : decode cL_law 892 = .ok (.bipush 32, 2) := by decide +kernel
theorem dL_law_894 : decode cL_law 894 = .ok (.lshl, 1) := by decide +kernel
theorem dL_law_895 : decode cL_law 895 = .ok (.aload_n 0, 1) := by decide +kernel
theorem dL_law_896 : decode cL_law 896 = .ok (.iload_n 3, 1) := by decide +kernel
theorem dL_law_897 : decode cL_law 897 = .ok (.iconst 2, 1) := by decide +kernel
theorem dL_law_898 : decode cL_law 898 = .ok (.iadd, 1) := by decide +kernel
theorem dL_law_899 : decode cL_law 899 = .ok (.iaload, 1) := by decide +kernel
theorem dL_law_900 : decode cL_law 900 = .ok (.i2l, 1) := by decide +kernel
theorem dL_law_901 : decode cL_law 901 = .ok (.ldc2_w 89, 3) := by decide +kernel
theorem dL_law_904 : decode cL_law 904 = .ok (.land, 1) := by decide +kernel
theorem dL_law_905 : decode cL_law 905 = .ok (.lor, 1) := by decide +kernel
theorem dL_law_906 : decode cL_law 906 = .ok (.invokevirtual 123, 3) := by decide +kernel
theorem dL_law_909 : decode cL_law 909 = .ok (.aload_n 2, 1) := by decide +kernel
theorem dL_law_910 : decode cL_law 910 = .ok (.aload_n 0, 1) := by decide +kernel
theorem dL_law_911 : decode cL_law 911 = .ok (.iload_n 3, 1) := by decide +kernel
theorem dL_law_912 : decode cL_law 912 = .ok (.iconst 1, 1) := by decide +kernel
theorem dL_law_913 : decode cL_law 913 = .ok (.iadd, 1) := by decide +kernel
theorem dL_law_914 : decode cL_law 914 = .ok (.iaload, 1) := by decide +kernel
theorem dL_law_915 : decode cL_law 915 = .ok (.i2l, 1) := by decide +kernel
theorem dL_law_916 : decode cL_law 916 = .ok (.bipush 32, 2) := by decide +kernel
theorem dL_law_918 : decode cL_law 918 = .ok (.lshl, 1) := by decide +kernel
theorem dL_law_919 : decode cL_law 919 = .ok (.aload_n 0, 1) := by decide +kernel
theorem dL_law_920 : decode cL_law 920 = .ok (.iload_n 3, 1) := by decide +kernel
theorem dL_law_921 : decode cL_law 921 = .ok (.iconst 2, 1) := by decide +kernel
theorem dL_law_922 : decode cL_law 922 = .ok (.iadd, 1) := by decide +kernel
theorem dL_law_923 : decode cL_law 923 = .ok (.iaload, 1) := by decide +kernel
theorem dL_law_924 : decode cL_law 924 = .ok (.i2l, 1) := by decide +kernel
theorem dL_law_925 : decode cL_law 925 = .ok (.ldc2_w 89, 3) := by decide +kernel
theorem dL_law_928 : decode cL_law 928 = .ok (.land, 1) := by decide +kernel
theorem dL_law_929 : decode cL_law 929 = .ok (.lor, 1) := by decide +kernel
theorem dL_law_930 : decode cL_law 930 = .ok (.invokevirtual 127, 3) := by decide +kernel
theorem dL_law_933 : decode cL_law 933 = .ok (.lcmp, 1) := by decide +kernel
theorem dL_law_934 : decode cL_law 934 = .ok (.ifCond .eq 97, 3) := by decide +kernel
theorem dL_law_937 : decode cL_law 937 = .ok (.iconst 0, 1) := by decide +kernel
theorem dL_law_938 : decode cL_law 938 = .ok (.ireturn, 1) := by decide +kernel
theorem dL_law_939 : decode cL_law 939 = .ok (.aload_n 1, 1) := by decide +kernel
theorem dL_law_940 : decode cL_law 940 = .ok (.aload_n 0, 1) := by decide +kernel
theorem dL_law_941 : decode cL_law 941 = .ok (.iload_n 3, 1) := by decide +kernel
theorem dL_law_942 : decode cL_law 942 = .ok (.iconst 1, 1) := by decide +kernel
theorem dL_law_943 : decode cL_law 943 = .ok (.iadd, 1) := by decide +kernel
theorem dL_law_944 : decode cL_law 944 = .ok (.iaload, 1) := by decide +kernel
theorem dL_law_945 : decode cL_law 945 = .ok (.invokevirtual 128, 3) := by decide +kernel
theorem dL_law_948 : decode cL_law 948 = .ok (.aload_n 2, 1) := by decide +kernel
theorem dL_law_949 : decode cL_law 949 = .ok (.aload_n 0, 1) := by decide +kernel
theorem dL_law_950 : decode cL_law 950 = .ok (.iload_n 3, 1) := by decide +kernel
theorem dL_law_951 : decode cL_law 951 = .ok (.iconst 1, 1) := by decide +kernel
theorem dL_law_952 : decode cL_law 952 = .ok (.iadd, 1) := by decide +kernel
theorem dL_law_953 : decode cL_law 953 = .ok (.iaload, 1) := by decide +kernel
theorem dL_law_954 : decode cL_law 954 = .ok (.invokevirtual 131, 3) := by decide +kernel
theorem dL_law_957 : decode cL_law 957 = .ok (.if_icmp .eq 74, 3) := by decide +kernel
theorem dL_law_960 : decode cL_law 960 = .ok (.iconst 0, 1) := by decide +kernel
theorem dL_law_961 : decode cL_law 961 = .ok (.ireturn, 1) := by decide +kernel
theorem dL_law_962 : decode cL_law 962 = .ok (.aload_n 1, 1) := by decide +kernel
theorem dL_law_963 : decode cL_law 963 = .ok (.aload_n 0, 1) := by decide +kernel
theorem dL_law_964 : decode cL_law 964 = .ok (.iload_n 3, 1) := by decide +kernel
theorem dL_law_965 : decode cL_law 965 = .ok (.iconst 1, 1) := by decide +kernel
theorem dL_law_966 : decode cL_law 966 = .ok (.iadd, 1) := by decide +kernel
theorem dL_law_967 : decode cL_law 967 = .ok (.iaload, 1) := by decide +kernel
theorem dL_law_968 : decode cL_law 968 = .ok (.invokevirtual 132, 3) := by decide +kernel
theorem dL_law_971 : decode cL_law 971 = .ok (.aload_n 2, 1) := by decide +kernel
theorem dL_law_972 : decode cL_law 972 = .ok (.aload_n 0, 1) := by decide +kernel
theorem dL_law_973 : decode cL_law 973 = .ok (.iload_n 3, 1) := by decide +kernel
theorem dL_law_974 : decode cL_law 974 = .ok (.iconst 1, 1) := by decide +kernel
theorem dL_law_975 : decode cL_law 975 = .ok (.iadd, 1) := by decide +kernel
theorem dL_law_976 : decode cL_law 976 = .ok (.iaload, 1) := by decide +kernel
theorem dL_law_977 : decode cL_law 977 = .ok (.invokevirtual 135, 3) := by decide +kernel
theorem dL_law_980 : decode cL_law 980 = .ok (.if_icmp .eq 51, 3) := by decide +kernel
theorem dL_law_983 : decode cL_law 983 = .ok (.iconst 0, 1) := by decide +kernel
theorem dL_law_984 : decode cL_law 984 = .ok (.ireturn, 1) := by decide +kernel
theorem dL_law_985 : decode cL_law 985 = .ok (.aload_n 1, 1) := by decide +kernel
theorem dL_law_986 : decode cL_law 986 = .ok (.aload_n 0, 1) := by decide +kernel
theorem dL_law_987 : decode cL_law 987 = .ok (.iload_n 3, 1) := by decide +kernel
theorem dL_law_988 : decode cL_law 988 = .ok (.iconst 1, 1) := by decide +kernel
theorem dL_law_989 : decode cL_law 989 = .ok (.iadd, 1) := by decide +kernel
theorem dL_law_990 : decode cL_law 990 = .ok (.iaload, 1) := by decide +kernel
theorem dL_law_991 : decode cL_law 991 = .ok (.invokevirtual 136, 3) := by decide +kernel
theorem dL_law_994 : decode cL_law 994 = .ok (.aload_n 2, 1) := by decide +kernel
theorem dL_law_995 : decode cL_law 995 = .ok (.aload_n 0, 1) := by decide +kernel
theorem dL_law_996 : decode cL_law 996 = .ok (.iload_n 3, 1) := by decide +kernel
theorem dL_law_997 : decode cL_law 997 = .ok (.iconst 1, 1) := by decide +kernel
theorem dL_law_998 : decode cL_law 998 = .ok (.iadd, 1) := by decide +kernel
theorem dL_law_999 : decode cL_law 999 = .ok (.iaload, 1) := by decide +kernel
theorem dL_law_1000 : decode cL_law 1000 = .ok (.invokevirtual 139, 3) := by decide +kernel
theorem dL_law_1003 : decode cL_law 1003 = .ok (.if_icmp .eq 28, 3) := by decide +kernel
theorem dL_law_1006 : decode cL_law 1006 = .ok (.iconst 0, 1) := by decide +kernel
theorem dL_law_1007 : decode cL_law 1007 = .ok (.ireturn, 1) := by decide +kernel
theorem dL_law_1008 : decode cL_law 1008 = .ok (.aload_n 1, 1) := by decide +kernel
theorem dL_law_1009 : decode cL_law 1009 = .ok (.aload_n 0, 1) := by decide +kernel
theorem dL_law_1010 : decode cL_law 1010 = .ok (.iload_n 3, 1) := by decide +kernel
theorem dL_law_1011 : decode cL_law 1011 = .ok (.iconst 1, 1) := by decide +kernel
theorem dL_law_1012 : decode cL_law 1012 = .ok (.iadd, 1) := by decide +kernel
theorem dL_law_1013 : decode cL_law 1013 = .ok (.iaload, 1) := by decide +kernel
theorem dL_law_1014 : decode cL_law 1014 = .ok (.invokevirtual 140, 3) := by decide +kernel
theorem dL_law_1017 : decode cL_law 1017 = .ok (.aload_n 2, 1) := by decide +kernel
theorem dL_law_1018 : decode cL_law 1018 = .ok (.aload_n 0, 1) := by decide +kernel
theorem dL_law_1019 : decode cL_law 1019 = .ok (.iload_n 3, 1) := by decide +kernel
theorem dL_law_1020 : decode cL_law 1020 = .ok (.iconst 1, 1) := by decide +kernel
theorem dL_law_1021 : decode cL_law 1021 = .ok (.iadd, 1) := by decide +kernel
theorem dL_law_1022 : decode cL_law 1022 = .ok (.iaload, 1) := by decide +kernel
theorem dL_law_1023 : decode cL_law 1023 = .ok (.invokevirtual 143, 3) := by decide +kernel
theorem dL_law_1026 : decode cL_law 1026 = .ok (.if_icmp .eq 5, 3) := by decide +kernel
theorem dL_law_1029 : decode cL_law 1029 = .ok (.iconst 0, 1) := by decide +kernel
theorem dL_law_1030 : decode cL_law 1030 = .ok (.ireturn, 1) := by decide +kernel
theorem dL_law_1031 : decode cL_law 1031 = .ok (.iinc 3 5, 3) := by decide +kernel
theorem dL_law_1034 : decode cL_law 1034 = .ok (.goto (-1016), 3) := by decide +kernel
theorem dL_law_1037 : decode cL_law 1037 = .ok (.iconst 1, 1) := by decide +kernel
theorem dL_law_1038 : decode cL_law 1038 = .ok (.ireturn, 1) := by decide +kernel
end
section
/-! the memory, the world of one JealousChoir and one JealousChoirModel -/
abbrev Mem : Type := (Nat → Nat → Nat → Int32) × (Nat → Int64)
/-- a row of an object (row 0: its own fields) is set -/
def sr (M : Mem) (o i : Nat) (f : Nat → Int32) : Mem := (fun a b => if a = o ∧ b = i then f else M.1 a b, M.2)
def sw (M : Mem) (o i k : Nat) (x : Int32) : Mem := sr M o i (upd (M.1 o i) k x)
def sl (M : Mem) (o : Nat) (x : Int64) : Mem := (M.1, fun a => if a = o then x else M.2 a)
abbrev GT : Type := va_G × (Nat → Nat → Nat) × ClassId × ClassId × ClassId × Nat
def ga (g : GT) (o i : Nat) : Nat := g.2.1 o i
def gcI (g : GT) : ClassId := g.2.2.1
def gcZ (g : GT) : ClassId := g.2.2.2.1
def gcS (g : GT) : ClassId := g.2.2.2.2.1
def gft (g : GT) : Nat := g.2.2.2.2.2
def kd (o : Nat) : Nat := if o < 18 then 7 else if o = 18 then 5 else if o = 19 then 4 else if o = 20 then 9 else if o = 21 then 0 else if o = 22 then 6 else if o = 23 then 3 else if o = 24 then 2 else if o = 25 then 1 else if o = 26 then 8 else 10
def flds (g : GT) (M : Mem) (o : Nat) : List Value :=
  if o < 18 then [.ref (ga g 19 0), .ref (ga g o 1), .ref (ga g o 2), .ref (ga g o 3), .ref (ga g o 4), .int (M.1 o 0 5), .int (M.1 o 0 6), .int (M.1 o 0 7)]
  else if o = 18 then [.ref (ga g 18 1), .int (M.1 o 0 1)]
  else if o = 19 then [.ref (ga g 19 1), .ref (ga g 19 2), .ref (ga g 19 3), .int (M.1 o 0 3)]
  else if o = 20 then [.ref (ga g 18 0), .ref (ga g 19 0), .ref (ga g 0 0), .ref (ga g 1 0), .ref (ga g 21 0), .ref (ga g 22 0), .ref (ga g 23 0), .ref (ga g 24 0), .ref (ga g 25 0), .ref (ga g 26 0)]
  else if o = 21 then [.ref (ga g 21 1), .int (M.1 o 0 1), .int (M.1 o 0 2)]
  else if o = 22 then [.ref (ga g 22 1), .int (M.1 o 0 1)]
  else if o = 23 then [.ref (ga g 23 1), .ref (ga g 23 2), .ref (ga g 23 3), .int (M.1 o 0 3)]
  else if o = 24 then [.ref (ga g 19 0), .ref (ga g 0 0), .ref (ga g 1 0), .ref (ga g 24 1)]
  else if o = 25 then [.ref (ga g 19 0), .ref (ga g 0 0), .ref (ga g 1 0), .ref (ga g 25 1), .ref (ga g 25 2), .ref (ga g 25 3)]
  else if o = 26 then [.ref (ga g 0 0), .ref (ga g 1 0), .long (M.2 o)]
  else [.int (M.1 o 0 0), .ref (ga g 27 1), .ref (ga g 27 2), .ref (ga g 27 3), .ref (ga g 27 4), .ref (ga g 27 5), .int (M.1 o 0 6), .int (M.1 o 0 7), .ref (ga g 27 6), .int (M.1 o 0 9), .int (M.1 o 0 10), .int (M.1 o 0 11), .int (M.1 o 0 12), .ref (ga g 27 7), .int (M.1 o 0 14), .int (M.1 o 0 15), .ref (ga g 27 8), .ref (ga g 27 9), .int (M.1 o 0 18), .ref (ga g 27 10), .ref (ga g 27 11), .ref (ga g 27 12), .long (M.2 o), .ref (ga g 27 13), .ref (ga g 27 14)]
def ln (o i : Nat) : Nat :=
  if o < 18 then 6 else if o = 18 then 48 else if o = 19 then 6 else if o = 21 then 14 else if o = 22 then 2 else if o = 23 then 6 else if o = 24 then 61
  else if o = 25 then (if i = 1 then 64 else 36)
  else if i = 4 then 40 else if i = 5 then 30 else if i = 6 then 48 else if i = 8 then 280 else if i = 9 then 61 else if i = 13 then 2 else if i = 14 then 40 else 6
def cel (g : GT) (M : Mem) (o i : Nat) : va_E :=
  if i = 0 then .inr (kd o, flds g M o)
  else if o = 21 then .inl (gcS g, 14, .inr (.inr (.inr (.inr (fun k => some (ga g (2 + k) 0))))))
  else if o = 22 then .inl (gcS g, 2, .inr (.inr (.inr (.inr (fun k => some (ga g (16 + k) 0))))))
  else if o = 27 ∧ i = 13 then .inl (gcZ g, 2, .inl (M.1 o i))
  else .inl (gcI g, ln o i, .inl (M.1 o i))
def idx : List (Nat × Nat) := ((List.range 18).flatMap fun o => [(o, 0), (o, 1), (o, 2), (o, 3), (o, 4)]) ++ [(18, 0), (18, 1), (19, 0), (19, 1), (19, 2), (19, 3), (20, 0), (21, 0), (21, 1), (22, 0), (22, 1), (23, 0), (23, 1), (23, 2), (23, 3), (24, 0), (24, 1), (25, 0), (25, 1), (25, 2), (25, 3), (26, 0), (27, 0), (27, 1), (27, 2), (27, 3), (27, 4), (27, 5), (27, 6), (27, 7), (27, 8), (27, 9), (27, 10), (27, 11), (27, 12), (27, 13), (27, 14)]
theorem idx_nd : idx.Nodup := by decide +kernel
theorem idx_st : ∀ o, o < 18 → ∀ i, i < 5 → (o, i) ∈ idx := by decide +kernel
def wl (g : GT) (M : Mem) : va_W := idx.map (fun q => (ga g q.1 q.2, cel g M q.1 q.2))
def gInj (g : GT) : Prop := ∀ q ∈ idx, ∀ r ∈ idx, ga g q.1 q.2 = ga g r.1 r.2 → q = r
def gA (g : GT) : Nat → Prop := fun a => ∃ q ∈ idx, ga g q.1 q.2 = a
theorem wl_get {g : GT} {M : Mem} {o i : Nat} (h : (o, i) ∈ idx) : ∃ k : Nat, idx[k]? = some (o, i) ∧ (wl g M)[k]? = some (ga g o i, cel g M o i) := by
  obtain ⟨k, hk⟩ := List.getElem?_of_mem h
  exact ⟨k, hk, by simp [wl, List.getElem?_map, hk]⟩
theorem wl_at {g : GT} {M : Mem} {k : Nat} {q : Nat × va_E} (h : (wl g M)[k]? = some q) : ∃ r : Nat × Nat, idx[k]? = some r ∧ q = (ga g r.1 r.2, cel g M r.1 r.2) := by
  simp only [wl, List.getElem?_map, Option.map_eq_some_iff] at h
  obtain ⟨r, h1, h2⟩ := h
  exact ⟨r, h1, h2.symm⟩
theorem wl_D {g : GT} {M : Mem} (h : gInj g) : va_D (gA g) (wl g M) := by
  refine ⟨fun i j p q hp hq he => ?_, fun k q hq => ?_⟩
  · obtain ⟨r1, h1, rfl⟩ := wl_at hp
    obtain ⟨r2, h2, rfl⟩ := wl_at hq
    have e := h r1 (List.mem_of_getElem? h1) r2 (List.mem_of_getElem? h2) he
    subst e
    have hi : i < idx.length := (List.getElem?_eq_some_iff.mp h1).1
    exact (List.getElem?_inj hi idx_nd).mp (h1.trans h2.symm)
  · obtain ⟨r, h1, rfl⟩ := wl_at hq
    exact ⟨r, List.mem_of_getElem? h1, rfl⟩
theorem wl_set {g : GT} {M M' : Mem} {k o i : Nat} (hk : idx[k]? = some (o, i)) (hM : ∀ a b : Nat, ¬ (a = o ∧ b = i) → cel g M' a b = cel g M a b) : (wl g M).set k (ga g o i, cel g M' o i) = wl g M' := by
  have hl : k < idx.length := (List.getElem?_eq_some_iff.mp hk).1
  apply List.ext_getElem?
  intro n
  rw [List.getElem?_set]
  by_cases h : k = n
  · subst h
    rw [if_pos rfl, if_pos (by simpa [wl] using hl)]
    simp [wl, List.getElem?_map, hk]
  · rw [if_neg h]
    simp only [wl, List.getElem?_map]
    cases hn : idx[n]? with
    | none => rfl
    | some r =>
      have hne : ¬ (r.1 = o ∧ r.2 = i) := by
        rintro ⟨h1, h2⟩
        have : r = (o, i) := Prod.ext h1 h2
        subst this
        exact h ((List.getElem?_inj hl idx_nd).mp (hk.trans hn.symm))
      simp [hM r.1 r.2 hne]
theorem cel_sr {g : GT} {M : Mem} {o i : Nat} {f : Nat → Int32} (a b : Nat) (h : ¬ (a = o ∧ b = i)) : cel g (sr M o i f) a b = cel g M a b := by
  have e : (sr M o i f).1 a b = M.1 a b := if_neg h
  have e2 : (sr M o i f).2 = M.2 := rfl
  by_cases hb : b = 0
  · subst hb
    have e3 : flds g (sr M o i f) a = flds g M a := by
      unfold flds
      simp only [e, e2]
    simp only [cel, if_true, e3]
  · simp only [cel, if_neg hb, e]
theorem cel_sl {g : GT} {M : Mem} {o : Nat} {x : Int64} (a b : Nat) (h : ¬ (a = o ∧ b = 0)) : cel g (sl M o x) a b = cel g M a b := by
  by_cases hb : b = 0
  · subst hb
    have ha : ¬ a = o := fun e => h ⟨e, rfl⟩
    have e3 : flds g (sl M o x) a = flds g M a := by
      unfold flds
      simp only [sl, if_neg ha]
    simp only [cel, if_true, e3]
  · simp only [cel, if_neg hb, sl]
/-! the words: all good ones of the tables; those of nest mates -/
def gW : List Cond := lw_tbl.filter goodWord
def isN : Cond → Bool
  | .fieldLinkNest .. => true
  | .methodLinkNest .. => true
  | _ => false
def nW : List Cond := lw_tbl.filter isN
theorem gW_in {w : Cond} (h : w ∈ gW) : w ∈ lw_tbl := (List.mem_filter.mp h).1
theorem gW_good {w : Cond} (h : w ∈ gW) : goodWord w = true := (List.mem_filter.mp h).2
theorem gW_GoodIn {y y' : MethodName} {b b' : ByteArray} {n n' : Nat} {r r' : Option FieldType} (h : Cond.code y' b' n' r' ∈ gW) : GoodIn (Cond.code y b n r :: gW) (Cond.code y' b' n' r' :: gW) := by
  intro w hw
  rcases List.mem_cons.mp hw with rfl | hw
  · exact ⟨List.mem_cons_of_mem _ h, good_of_word (gW_good h)⟩
  · exact ⟨List.mem_cons_of_mem _ hw, good_of_word (gW_good hw)⟩
theorem gW_GoodIn' {y' : MethodName} {b' : ByteArray} {n' : Nat} {r' : Option FieldType} (h : Cond.code y' b' n' r' ∈ gW) : GoodIn gW (Cond.code y' b' n' r' :: gW) := by
  intro w hw
  rcases List.mem_cons.mp hw with rfl | hw
  · exact ⟨h, good_of_word (gW_good h)⟩
  · exact ⟨hw, good_of_word (gW_good hw)⟩
def facs (j : Nat) : Int32 := if j = 0 then 1 else if j = 1 then 1 else if j = 2 then 2 else if j = 3 then 6 else if j = 4 then 24 else if j = 5 then 120 else 720
abbrev gtys (g : GT) : List (ClassId × FieldType) := [(gcI g, .int), (gcZ g, .boolean), (gcS g, .object "JealousChoir$Stand")]
def Wk (g : GT) (U : State) : Prop := va_K g.1 vwCl (gtys g) U ∧ (∀ w ∈ nW, va_Nw w U) ∧ gInj g ∧ va_Z "JealousChoir$Chances" "FACTORIALS" "[I" (.ref (gft g)) (gA g) U U.heap ∧ va_T .int (gft g) 7 (fun j => .int (facs j)) (gA g) U U.heap
def Wd (g : GT) (M : Mem) (U : State) : Prop := va_P g.1 vwCl (wl g M) U.heap ∧ Wk g U
theorem nW_warm {s U : State} (hW : s.WarmedH U.vm) (h : ∀ w ∈ nW, va_Nw w s) : ∀ w ∈ nW, va_Nw w U := by
  intro w hw
  have h1 := h w hw
  have h2 := (List.mem_filter.mp hw).2
  cases w <;> first | exact va_Nw.warmF hW h1 | exact va_Nw.warmM hW h1 | cases h2
theorem nW_same {s U : State} (hv : s.vm = U.vm) (h : ∀ w ∈ nW, va_Nw w s) : ∀ w ∈ nW, va_Nw w U := by
  intro w hw
  have h1 := h w hw
  have h2 := (List.mem_filter.mp hw).2
  cases w <;> first | exact va_Nw.same rfl hv h1 | cases h2
theorem Wk.warm {g : GT} {s U : State} {H : Heap} {locs : List Loc} (h : Wk g s) (hW : s.WarmedH U.vm) (hS : va_S (gA g) s.heap H locs) (hU : U.heap = H) : Wk g U := by
  obtain ⟨h1, h2, h3, h4, h5⟩ := h
  have hq : ∀ a : Nat, a < s.heap.size → ¬ gA g a → U.heap[a]? = s.heap[a]? := fun a q1 q2 => by rw [hU]; exact hS.2.1 a q1 q2
  exact ⟨va_K.moved hW.alike h1, nW_warm hW h2, h3, (h4.moved hW.alike).kept hq, (h5.moved hW.alike).kept hq⟩
theorem Wd.blind {g : GT} {M : Mem} {as : List Value} : FrameBlind (va_Pc as (Wd g M)) := by
  intro a U G mk q
  obtain ⟨q0, qP, q1, q2, q3, q4, q5⟩ := q
  exact ⟨q0, qP, va_K.moved (u := U) (U := U.calling G mk a) (Vm.Alike.refl U.vm) q1, nW_same (s := U) (U := U.calling G mk a) rfl q2, q3, va_Z.moved (u := U) (U := U.calling G mk a) (Vm.Alike.refl U.vm) q4, va_T.moved (u := U) (U := U.calling G mk a) (Vm.Alike.refl U.vm) q5⟩
/-! locals by their places -/
def lh (ls : Array Slot) (nL : Nat) (lv : List (Option Value)) : Prop := ls.size = nL ∧ lv_wf ls ∧ ∀ (i : Nat) (v : Value), lv[i]? = some (some v) → ls[i]? = some (.val v)
def ll (nL : Nat) (lv : List (Option Value)) : List (Nat × Value) := (List.range nL).filterMap (fun i => (lv[i]?.join).map (fun v => (i, v)))
theorem ll_mem {nL : Nat} {lv : List (Option Value)} {q : Nat × Value} : q ∈ ll nL lv ↔ q.1 < nL ∧ lv[q.1]? = some (some q.2) := by
  simp only [ll, List.mem_filterMap, List.mem_range, Option.map_eq_some_iff]
  constructor
  · rintro ⟨a, h1, v, h2, rfl⟩
    refine ⟨h1, ?_⟩
    cases h : lv[a]? with
    | none => rw [h] at h2; cases h2
    | some o => rw [h] at h2; simp only [Option.join_some] at h2; rw [h2]
  · rintro ⟨h1, h2⟩
    exact ⟨q.1, h1, q.2, by rw [h2]; rfl, rfl⟩
theorem lh.has {ls : Array Slot} {nL : Nat} {lv : List (Option Value)} (h : lh ls nL lv) : lv_has ls nL (ll nL lv) := ⟨h.1, h.2.1, fun q hq => h.2.2 q.1 q.2 (ll_mem.mp hq).2⟩
theorem lh.lt {ls : Array Slot} {nL : Nat} {lv : List (Option Value)} (h : lh ls nL lv) {i : Nat} {v : Value} (hi : lv[i]? = some (some v)) : i < nL := by
  have := h.2.2 i v hi
  rw [← h.1]
  exact (Array.getElem?_eq_some_iff.mp this).1
theorem lh.mono {ls : Array Slot} {nL : Nat} {lv lv' : List (Option Value)} (h : lh ls nL lv) (hm : ∀ (i : Nat) (v : Value), lv'[i]? = some (some v) → lv[i]? = some (some v)) : lh ls nL lv' := ⟨h.1, h.2.1, fun i v q => h.2.2 i v (hm i v q)⟩
/-- not the first half of a long -/
def nl (a : Option Value) : Bool := match a with
  | some v => v.category == 1
  | none => true
theorem lh.st1 {ls ls' : Array Slot} {nL i : Nat} {v : Value} {lv : List (Option Value)} (h : lh ls nL lv) (h' : lv_has ls' nL ((i, v) :: (ll nL lv).filter (fun q => !(q.1 == i) && !(q.1 + 1 == i && q.2.category == 2)))) (hp : ∀ j : Nat, j + 1 = i → ∀ w, lv[j]? = some (some w) → w.category = 1) : lh ls' nL (lv.set i (some v)) := by
  refine ⟨h'.1, h'.2.1, fun j w hj => ?_⟩
  rw [List.getElem?_set] at hj
  by_cases hij : i = j
  · subst hij
    rw [if_pos rfl] at hj
    split at hj
    · cases hj; exact h'.2.2 _ List.mem_cons_self
    · cases hj
  · rw [if_neg hij] at hj
    refine h'.2.2 (j, w) (List.mem_cons_of_mem _ (List.mem_filter.mpr ⟨ll_mem.mpr ⟨h.lt hj, hj⟩, ?_⟩))
    have h1 : ¬ j = i := fun e => hij e.symm
    by_cases h2 : j + 1 = i
    · have := hp j h2 w hj
      simp [h1, this]
    · simp [h1, h2]
theorem lh.st2 {ls ls' : Array Slot} {nL i : Nat} {v : Value} {lv : List (Option Value)} (h : lh ls nL lv) (h' : lv_has ls' nL ((i, v) :: (ll nL lv).filter (fun q => !(q.1 == i) && (!(q.1 == i + 1) && !(q.1 + 1 == i && q.2.category == 2))))) (hp : ∀ j : Nat, j + 1 = i → ∀ w, lv[j]? = some (some w) → w.category = 1) : lh ls' nL ((lv.set i (some v)).set (i + 1) none) := by
  refine ⟨h'.1, h'.2.1, fun j w hj => ?_⟩
  rw [List.getElem?_set] at hj
  by_cases hij1 : i + 1 = j
  · rw [if_pos hij1] at hj
    split at hj <;> cases hj
  · rw [if_neg hij1, List.getElem?_set] at hj
    by_cases hij : i = j
    · subst hij
      rw [if_pos rfl] at hj
      split at hj
      · cases hj; exact h'.2.2 _ List.mem_cons_self
      · cases hj
    · rw [if_neg hij] at hj
      refine h'.2.2 (j, w) (List.mem_cons_of_mem _ (List.mem_filter.mpr ⟨ll_mem.mpr ⟨h.lt hj, hj⟩, ?_⟩))
      have h1 : ¬ j = i := fun e => hij e.symm
      have h3 : ¬ j = i + 1 := fun e => hij1 e.symm
      by_cases h2 : j + 1 = i
      · have := hp j h2 w hj
        simp [h1, h3, this]
      · simp [h1, h2, h3]
def ea : List Value → List (Option Value)
  | [] => []
  | v :: vs => if v.category = 2 then some v :: none :: ea vs else some v :: ea vs
theorem ea_args (vs : List Value) : ∀ (n i : Nat) (v : Value), (ea vs)[i]? = some (some v) → (n + i, v) ∈ lv_args n vs := by
  induction vs with
  | nil => intro n i v h; simp [ea] at h
  | cons w vs ih =>
    intro n i v h
    unfold ea at h
    unfold lv_args
    by_cases hc : w.category = 2
    · rw [if_pos hc] at h
      rw [if_pos hc]
      match i, h with
      | 0, h => simp at h; subst h; exact List.mem_cons_self
      | 1, h => simp at h
      | i + 2, h =>
        simp at h
        have := ih (n + 2) i v h
        rw [show n + (i + 2) = n + 2 + i by omega]
        exact List.mem_cons_of_mem _ this
    · rw [if_neg hc] at h
      rw [if_neg hc]
      match i, h with
      | 0, h => simp at h; subst h; exact List.mem_cons_self
      | i + 1, h =>
        simp at h
        have := ih (n + 1) i v h
        rw [show n + (i + 1) = n + 1 + i by omega]
        exact List.mem_cons_of_mem _ this
theorem lh_entry {ls : Array Slot} {n k : Nat} {vs : List Value} {lv : List (Option Value)} (h : lv_has ls n (lv_args 0 vs)) (hlv : ea vs ++ List.replicate k none = lv) : lh ls n lv := by
  refine ⟨h.1, h.2.1, fun i v hi => ?_⟩
  subst hlv
  by_cases hl : i < (ea vs).length
  · rw [List.getElem?_append_left hl] at hi
    have := ea_args vs 0 i v hi
    rw [Nat.zero_add] at this
    exact h.2.2 _ this
  · rw [List.getElem?_append_right (by omega), List.getElem?_replicate] at hi
    split at hi <;> cases hi
end
section
abbrev XT : Type := Program × Launch × Env × Room × State × MethodId × Array Value × List Frame × Method × Code × Nat × Nat × (State → Prop)
abbrev xp (X : XT) : Program := X.1
abbrev xl (X : XT) : Launch := X.2.1
abbrev xe (X : XT) : Env := X.2.2.1
abbrev xR (X : XT) : Room := X.2.2.2.1
abbrev xs (X : XT) : State := X.2.2.2.2.1
abbrev xm (X : XT) : MethodId := X.2.2.2.2.2.1
abbrev xa (X : XT) : Array Value := X.2.2.2.2.2.2.1
abbrev xb (X : XT) : List Frame := X.2.2.2.2.2.2.2.1
abbrev xt (X : XT) : Method := X.2.2.2.2.2.2.2.2.1
abbrev xc (X : XT) : Code := X.2.2.2.2.2.2.2.2.2.1
abbrev xk (X : XT) : Nat := X.2.2.2.2.2.2.2.2.2.2.1
abbrev xn (X : XT) : Nat := X.2.2.2.2.2.2.2.2.2.2.2.1
abbrev xQ (X : XT) : State → Prop := X.2.2.2.2.2.2.2.2.2.2.2.2
def Kj (g : GT) (X : XT) (nL pc : Nat) (lv : List (Option Value)) (st : List Value) (M : Mem) : Prop :=
  ∀ (H : Heap) (locs : List Loc) (ls : Array Slot), va_P g.1 vwCl (wl g M) H → va_S (gA g) (xs X).heap H locs → lh ls nL lv → W (xp X) (xl X) (xe X) (xR X) (xs X) (xm X) (xa X) (xb X) (xt X) (xc X) H locs (xk X) (xn X) (xQ X) (F0 (xm X) pc ls st)
def Cx (g : GT) (X : XT) (cc : ByteArray) (own : String) (nL d : Nat) : Prop :=
  (xp X).tables.exec = Jvm.exec ∧ (xc X).code = cc ∧ (xc X).maxLocals = nL ∧ (xs X).vm.findClass own = some (xm X).cls ∧ (∀ w ∈ gW, w.before (xa X) (xs X) = true) ∧ Wk g (xs X) ∧ (xt X).locks = false ∧ xk X ≤ (xR X).cells ∧ xn X ≤ (xR X).slots ∧ d ≤ (xR X).frames ∧ 41 * d ≤ (xR X).locals
def Qr (g : GT) (v : Option Value) (M : Mem) : Array Value → State → Outcome → State → Prop := fun _ st oc t => (oc = .returned v ∧ Wd g M t) ∧ va_F (gA g) st t
def Rt (g : GT) (X : XT) (v : Option Value) (M : Mem) : Prop := xQ X = MQ (xb X) (Qr g v M) (xa X) (xs X) (xk X) (xn X) (gA g)
def rmD (d : Nat) : Room := { frames := d, cells := 0, slots := 0, locals := 41 * d }
def Ct (g : GT) (l : Launch) (d : Nat) (y : MethodName) (cc : ByteArray) (maxL : Nat) (ret : Option FieldType) (as : List Value) (M : Mem) (v : Option Value) (M' : Mem) : Prop :=
  Met l y (.code y cc maxL ret :: gW) (rmD d) (va_Pc as (Wd g M)) (Qr g v M') 0 0 (gA g)
/-- what is known of a called method -/
def Mi (y : MethodName) (cc : ByteArray) (maxL : Nat) (ret : Option FieldType) (n : Nat) : Prop :=
  Cond.code y cc maxL ret ∈ gW ∧ Cond.initialized y.cls ∈ gW ∧ (y.cls ≠ "java/lang/invoke/MethodHandle" ∧ y.cls ≠ "java/lang/invoke/VarHandle" ∧ (parseMethodDescriptor y.desc).map (fun d => d.parameters.length) = some n) ∧ maxL ≤ 22
def Mv (y : MethodName) (cc : ByteArray) (maxL : Nat) (ret : Option FieldType) (n : Nat) : Prop := Mi y cc maxL ret n ∧ Cond.instanceMethod y ∈ gW ∧ Cond.selects y.cls y y ∈ gW
def Ms (y : MethodName) (cc : ByteArray) (maxL : Nat) (ret : Option FieldType) (n : Nat) : Prop := Mi y cc maxL ret n ∧ Cond.static y ∈ gW
section KJ
variable {g : GT} {X : XT} {cc : ByteArray} {own : String} {nL d pc : Nat} {lv : List (Option Value)} {st : List Value} {M : Mem}
theorem kj_lv {lv' : List (Option Value)} (hm : ∀ (i : Nat) (v : Value), lv'[i]? = some (some v) → lv[i]? = some (some v)) (kk : Kj g X nL pc lv' st M) : Kj g X nL pc lv st M := fun H locs ls hP hS hl => kk H locs ls hP hS (hl.mono hm)
theorem kj_ni {x e : Int32} (hx : x = e) (kk : Kj g X nL pc lv (.int x :: st) M) : Kj g X nL pc lv (.int e :: st) M := by subst hx; exact kk
theorem kj_nlg {x e : Int64} (hx : x = e) (kk : Kj g X nL pc lv (.long x :: st) M) : Kj g X nL pc lv (.long e :: st) M := by subst hx; exact kk
theorem kj_nM {M' : Mem} (hx : M' = M) (kk : Kj g X nL pc lv st M') : Kj g X nL pc lv st M := by subst hx; exact kk
theorem kj_pc {pc' : Nat} (hx : pc = pc') (kk : Kj g X nL pc' lv st M) : Kj g X nL pc lv st M := by subst hx; exact kk

theorem kj_iconst (C : Cx g X cc own nL d) {n : Int} {v : Int32} (hd : decode cc pc = .ok (.iconst n, 1)) (hv : Int32.ofInt n = v) (kk : Kj g X nL (pc + 1) lv (.int v :: st) M) : Kj g X nL pc lv (st) M := fun H locs ls hP hS hl => lv_iconst C.1 C.2.1 hd hv (kk H locs ls hP hS hl)
theorem kj_bipush (C : Cx g X cc own nL d) {n : Int} {v : Int32} (hd : decode cc pc = .ok (.bipush n, 2)) (hv : (Int8.ofInt n).toInt32 = v) (kk : Kj g X nL (pc + 2) lv (.int v :: st) M) : Kj g X nL pc lv (st) M := fun H locs ls hP hS hl => lv_bipush C.1 C.2.1 hd hv (kk H locs ls hP hS hl)
theorem kj_sipush (C : Cx g X cc own nL d) {n : Int} {v : Int32} (hd : decode cc pc = .ok (.sipush n, 3)) (hv : (Int16.ofInt n).toInt32 = v) (kk : Kj g X nL (pc + 3) lv (.int v :: st) M) : Kj g X nL pc lv (st) M := fun H locs ls hP hS hl => lv_sipush C.1 C.2.1 hd hv (kk H locs ls hP hS hl)
theorem kj_lconst (C : Cx g X cc own nL d) {n : Fin 2} {v : Int64} (hd : decode cc pc = .ok (.lconst n, 1)) (hv : Int64.ofNat (n : Nat) = v) (kk : Kj g X nL (pc + 1) lv (.long v :: st) M) : Kj g X nL pc lv (st) M := fun H locs ls hP hS hl => lv_lconst C.1 C.2.1 hd hv (kk H locs ls hP hS hl)
theorem kj_iadd (C : Cx g X cc own nL d) {x y : Int32} (hd : decode cc pc = .ok (.iadd, 1))  (kk : Kj g X nL (pc + 1) lv (.int (x + y) :: st) M) : Kj g X nL pc lv (.int y :: .int x :: st) M := fun H locs ls hP hS hl => lv_iadd C.1 C.2.1 hd  (kk H locs ls hP hS hl)
theorem kj_isub (C : Cx g X cc own nL d) {x y : Int32} (hd : decode cc pc = .ok (.isub, 1))  (kk : Kj g X nL (pc + 1) lv (.int (x - y) :: st) M) : Kj g X nL pc lv (.int y :: .int x :: st) M := fun H locs ls hP hS hl => lv_isub C.1 C.2.1 hd  (kk H locs ls hP hS hl)
theorem kj_imul (C : Cx g X cc own nL d) {x y : Int32} (hd : decode cc pc = .ok (.imul, 1))  (kk : Kj g X nL (pc + 1) lv (.int (x * y) :: st) M) : Kj g X nL pc lv (.int y :: .int x :: st) M := fun H locs ls hP hS hl => lv_imul C.1 C.2.1 hd  (kk H locs ls hP hS hl)
theorem kj_iand (C : Cx g X cc own nL d) {x y : Int32} (hd : decode cc pc = .ok (.iand, 1))  (kk : Kj g X nL (pc + 1) lv (.int (x &&& y) :: st) M) : Kj g X nL pc lv (.int y :: .int x :: st) M := fun H locs ls hP hS hl => lv_iand C.1 C.2.1 hd  (kk H locs ls hP hS hl)
theorem kj_ior (C : Cx g X cc own nL d) {x y : Int32} (hd : decode cc pc = .ok (.ior, 1))  (kk : Kj g X nL (pc + 1) lv (.int (x ||| y) :: st) M) : Kj g X nL pc lv (.int y :: .int x :: st) M := fun H locs ls hP hS hl => lv_ior C.1 C.2.1 hd  (kk H locs ls hP hS hl)
theorem kj_ixor (C : Cx g X cc own nL d) {x y : Int32} (hd : decode cc pc = .ok (.ixor, 1))  (kk : Kj g X nL (pc + 1) lv (.int (x ^^^ y) :: st) M) : Kj g X nL pc lv (.int y :: .int x :: st) M := fun H locs ls hP hS hl => lv_ixor C.1 C.2.1 hd  (kk H locs ls hP hS hl)
theorem kj_ishl (C : Cx g X cc own nL d) {x y : Int32} (hd : decode cc pc = .ok (.ishl, 1))  (kk : Kj g X nL (pc + 1) lv (.int (x <<< (y &&& 31)) :: st) M) : Kj g X nL pc lv (.int y :: .int x :: st) M := fun H locs ls hP hS hl => lv_ishl C.1 C.2.1 hd  (kk H locs ls hP hS hl)
theorem kj_ishr (C : Cx g X cc own nL d) {x y : Int32} (hd : decode cc pc = .ok (.ishr, 1))  (kk : Kj g X nL (pc + 1) lv (.int (x >>> (y &&& 31)) :: st) M) : Kj g X nL pc lv (.int y :: .int x :: st) M := fun H locs ls hP hS hl => lv_ishr C.1 C.2.1 hd  (kk H locs ls hP hS hl)
theorem kj_idiv (C : Cx g X cc own nL d) {x y : Int32} (hd : decode cc pc = .ok (.idiv, 1)) (hne : ¬ y = 0) (kk : Kj g X nL (pc + 1) lv (.int (x / y) :: st) M) : Kj g X nL pc lv (.int y :: .int x :: st) M := fun H locs ls hP hS hl => lv_idiv C.1 C.2.1 hd hne (kk H locs ls hP hS hl)
theorem kj_irem (C : Cx g X cc own nL d) {x y : Int32} (hd : decode cc pc = .ok (.irem, 1)) (hne : ¬ y = 0) (kk : Kj g X nL (pc + 1) lv (.int (x - x / y * y) :: st) M) : Kj g X nL pc lv (.int y :: .int x :: st) M := fun H locs ls hP hS hl => lv_irem C.1 C.2.1 hd hne (kk H locs ls hP hS hl)
theorem kj_ladd (C : Cx g X cc own nL d) {x y : Int64} (hd : decode cc pc = .ok (.ladd, 1))  (kk : Kj g X nL (pc + 1) lv (.long (x + y) :: st) M) : Kj g X nL pc lv (.long y :: .long x :: st) M := fun H locs ls hP hS hl => lv_ladd C.1 C.2.1 hd  (kk H locs ls hP hS hl)
theorem kj_lsub (C : Cx g X cc own nL d) {x y : Int64} (hd : decode cc pc = .ok (.lsub, 1))  (kk : Kj g X nL (pc + 1) lv (.long (x - y) :: st) M) : Kj g X nL pc lv (.long y :: .long x :: st) M := fun H locs ls hP hS hl => lv_lsub C.1 C.2.1 hd  (kk H locs ls hP hS hl)
theorem kj_lmul (C : Cx g X cc own nL d) {x y : Int64} (hd : decode cc pc = .ok (.lmul, 1))  (kk : Kj g X nL (pc + 1) lv (.long (x * y) :: st) M) : Kj g X nL pc lv (.long y :: .long x :: st) M := fun H locs ls hP hS hl => lv_lmul C.1 C.2.1 hd  (kk H locs ls hP hS hl)
theorem kj_land (C : Cx g X cc own nL d) {x y : Int64} (hd : decode cc pc = .ok (.land, 1))  (kk : Kj g X nL (pc + 1) lv (.long (x &&& y) :: st) M) : Kj g X nL pc lv (.long y :: .long x :: st) M := fun H locs ls hP hS hl => lv_land C.1 C.2.1 hd  (kk H locs ls hP hS hl)
theorem kj_lor (C : Cx g X cc own nL d) {x y : Int64} (hd : decode cc pc = .ok (.lor, 1))  (kk : Kj g X nL (pc + 1) lv (.long (x ||| y) :: st) M) : Kj g X nL pc lv (.long y :: .long x :: st) M := fun H locs ls hP hS hl => lv_lor C.1 C.2.1 hd  (kk H locs ls hP hS hl)
theorem kj_ldiv (C : Cx g X cc own nL d) {x y : Int64} (hd : decode cc pc = .ok (.ldiv, 1)) (hne : ¬ y = 0) (kk : Kj g X nL (pc + 1) lv (.long (x / y) :: st) M) : Kj g X nL pc lv (.long y :: .long x :: st) M := fun H locs ls hP hS hl => lv_ldiv C.1 C.2.1 hd hne (kk H locs ls hP hS hl)
theorem kj_lrem (C : Cx g X cc own nL d) {x y : Int64} (hd : decode cc pc = .ok (.lrem, 1)) (hne : ¬ y = 0) (kk : Kj g X nL (pc + 1) lv (.long (x - x / y * y) :: st) M) : Kj g X nL pc lv (.long y :: .long x :: st) M := fun H locs ls hP hS hl => lv_lrem C.1 C.2.1 hd hne (kk H locs ls hP hS hl)
theorem kj_ineg (C : Cx g X cc own nL d) {x : Int32} (hd : decode cc pc = .ok (.ineg, 1))  (kk : Kj g X nL (pc + 1) lv (.int (-x) :: st) M) : Kj g X nL pc lv (.int x :: st) M := fun H locs ls hP hS hl => lv_ineg C.1 C.2.1 hd  (kk H locs ls hP hS hl)
theorem kj_i2l (C : Cx g X cc own nL d) {x : Int32} (hd : decode cc pc = .ok (.i2l, 1))  (kk : Kj g X nL (pc + 1) lv (.long x.toInt64 :: st) M) : Kj g X nL pc lv (.int x :: st) M := fun H locs ls hP hS hl => lv_i2l C.1 C.2.1 hd rfl (kk H locs ls hP hS hl)
theorem kj_l2i (C : Cx g X cc own nL d) {x : Int64} (hd : decode cc pc = .ok (.l2i, 1))  (kk : Kj g X nL (pc + 1) lv (.int x.toInt32 :: st) M) : Kj g X nL pc lv (.long x :: st) M := fun H locs ls hP hS hl => lv_l2i C.1 C.2.1 hd rfl (kk H locs ls hP hS hl)
theorem kj_iushr (C : Cx g X cc own nL d) {x y : Int32} (hd : decode cc pc = .ok (.iushr, 1))  (kk : Kj g X nL (pc + 1) lv (.int (x.toUInt32 >>> (y.toUInt32 &&& Int32.toUInt32 31)).toInt32 :: st) M) : Kj g X nL pc lv (.int y :: .int x :: st) M := fun H locs ls hP hS hl => lv_iushr C.1 C.2.1 hd rfl (kk H locs ls hP hS hl)
theorem kj_lushr (C : Cx g X cc own nL d) {x : Int64} {y : Int32} (hd : decode cc pc = .ok (.lushr, 1))  (kk : Kj g X nL (pc + 1) lv (.long (x.toUInt64 >>> (y.toInt64.toUInt64 &&& Int64.toUInt64 63)).toInt64 :: st) M) : Kj g X nL pc lv (.int y :: .long x :: st) M := fun H locs ls hP hS hl => lv_lushr C.1 C.2.1 hd rfl (kk H locs ls hP hS hl)
theorem kj_lshl (C : Cx g X cc own nL d) {x : Int64} {y : Int32} (hd : decode cc pc = .ok (.lshl, 1))  (kk : Kj g X nL (pc + 1) lv (.long (x <<< (y.toInt64 &&& 63)) :: st) M) : Kj g X nL pc lv (.int y :: .long x :: st) M := fun H locs ls hP hS hl => lv_lshl C.1 C.2.1 hd rfl (kk H locs ls hP hS hl)
theorem kj_lcmp (C : Cx g X cc own nL d) {x y : Int64} (hd : decode cc pc = .ok (.lcmp, 1))  (kk : Kj g X nL (pc + 1) lv (.int (lg_cmp x y) :: st) M) : Kj g X nL pc lv (.long y :: .long x :: st) M := fun H locs ls hP hS hl => W.lcmp C.1 C.2.1 hd  (kk H locs ls hP hS hl)
theorem kj_dup (C : Cx g X cc own nL d) {va : Value} (hd : decode cc pc = .ok (.dup, 1)) (hva : va.category = 1) (kk : Kj g X nL (pc + 1) lv (va :: va :: st) M) : Kj g X nL pc lv (va :: st) M := fun H locs ls hP hS hl => lv_dup C.1 C.2.1 hd hva (kk H locs ls hP hS hl)
theorem kj_pop (C : Cx g X cc own nL d) {va : Value} (hd : decode cc pc = .ok (.pop, 1)) (hva : va.category = 1) (kk : Kj g X nL (pc + 1) lv (st) M) : Kj g X nL pc lv (va :: st) M := fun H locs ls hP hS hl => lv_pop C.1 C.2.1 hd hva (kk H locs ls hP hS hl)
theorem kj_dup2 (C : Cx g X cc own nL d) {va vb : Value} (hd : decode cc pc = .ok (.dup2, 1)) (hva : va.category = 1) (hvb : vb.category = 1) (kk : Kj g X nL (pc + 1) lv (va :: vb :: va :: vb :: st) M) : Kj g X nL pc lv (va :: vb :: st) M := fun H locs ls hP hS hl => lv_dup2_11 C.1 C.2.1 hd hva hvb (kk H locs ls hP hS hl)
theorem kj_ldc (C : Cx g X cc own nL d) {index : Nat} {v : Int32} (hc : Cond.constant own index v ∈ gW) (hd : decode cc pc = .ok (.ldc index, 2)) (kk : Kj g X nL (pc + 2) lv (.int v :: st) M) : Kj g X nL pc lv st M := fun H locs ls hP hS hl => lv_ldc C.1 C.2.1 C.2.2.2.1 (C.2.2.2.2.1 _ hc) hd (kk H locs ls hP hS hl)
theorem kj_ldcw (C : Cx g X cc own nL d) {index : Nat} {v : Int32} (hc : Cond.constant own index v ∈ gW) (hd : decode cc pc = .ok (.ldc_w index, 3)) (kk : Kj g X nL (pc + 3) lv (.int v :: st) M) : Kj g X nL pc lv st M := fun H locs ls hP hS hl => lv_ldcw C.1 C.2.1 C.2.2.2.1 (C.2.2.2.2.1 _ hc) hd (kk H locs ls hP hS hl)
theorem kj_ldc2 (C : Cx g X cc own nL d) {index : Nat} {v : Int64} (hc : Cond.constantLong own index v ∈ gW) (hd : decode cc pc = .ok (.ldc2_w index, 3)) (kk : Kj g X nL (pc + 3) lv (.long v :: st) M) : Kj g X nL pc lv st M := fun H locs ls hP hS hl => lv_ldc2 C.1 C.2.1 C.2.2.2.1 (C.2.2.2.2.1 _ hc) hd (kk H locs ls hP hS hl)
theorem kj_goto (C : Cx g X cc own nL d) {off : Int} {tgt : Nat} (hd : decode cc pc = .ok (.goto off, 3)) (ht : (pc : Int) + off = (tgt : Int)) (kk : Kj g X nL tgt lv st M) : Kj g X nL pc lv st M := fun H locs ls hP hS hl => lv_goto C.1 C.2.1 hd ht (kk H locs ls hP hS hl)
theorem kj_if_eq (C : Cx g X cc own nL d) {x : Int32} {off : Int} {tgt : Nat} (hd : decode cc pc = .ok (.ifCond .eq off, 3)) (ht : (pc : Int) + off = (tgt : Int)) (kt : x = 0 → Kj g X nL tgt lv st M) (kf : ¬ x = 0 → Kj g X nL (pc + 3) lv st M) : Kj g X nL pc lv (.int x :: st) M := fun H locs ls hP hS hl => lv_if_eq C.1 C.2.1 hd ht (fun q => kt q H locs ls hP hS hl) (fun q => kf q H locs ls hP hS hl)
theorem kj_icmp_eq (C : Cx g X cc own nL d) {x y : Int32} {off : Int} {tgt : Nat} (hd : decode cc pc = .ok (.if_icmp .eq off, 3)) (ht : (pc : Int) + off = (tgt : Int)) (kt : x = y → Kj g X nL tgt lv st M) (kf : ¬ x = y → Kj g X nL (pc + 3) lv st M) : Kj g X nL pc lv (.int y :: .int x :: st) M := fun H locs ls hP hS hl => lv_icmp_eq C.1 C.2.1 hd ht (fun q => kt q H locs ls hP hS hl) (fun q => kf q H locs ls hP hS hl)
theorem kj_if_ne (C : Cx g X cc own nL d) {x : Int32} {off : Int} {tgt : Nat} (hd : decode cc pc = .ok (.ifCond .ne off, 3)) (ht : (pc : Int) + off = (tgt : Int)) (kt : ¬ x = 0 → Kj g X nL tgt lv st M) (kf : x = 0 → Kj g X nL (pc + 3) lv st M) : Kj g X nL pc lv (.int x :: st) M := fun H locs ls hP hS hl => lv_if_ne C.1 C.2.1 hd ht (fun q => kt q H locs ls hP hS hl) (fun q => kf q H locs ls hP hS hl)
theorem kj_icmp_ne (C : Cx g X cc own nL d) {x y : Int32} {off : Int} {tgt : Nat} (hd : decode cc pc = .ok (.if_icmp .ne off, 3)) (ht : (pc : Int) + off = (tgt : Int)) (kt : ¬ x = y → Kj g X nL tgt lv st M) (kf : x = y → Kj g X nL (pc + 3) lv st M) : Kj g X nL pc lv (.int y :: .int x :: st) M := fun H locs ls hP hS hl => lv_icmp_ne C.1 C.2.1 hd ht (fun q => kt q H locs ls hP hS hl) (fun q => kf q H locs ls hP hS hl)
theorem kj_if_lt (C : Cx g X cc own nL d) {x : Int32} {off : Int} {tgt : Nat} (hd : decode cc pc = .ok (.ifCond .lt off, 3)) (ht : (pc : Int) + off = (tgt : Int)) (kt : x < 0 → Kj g X nL tgt lv st M) (kf : ¬ x < 0 → Kj g X nL (pc + 3) lv st M) : Kj g X nL pc lv (.int x :: st) M := fun H locs ls hP hS hl => lv_if_lt C.1 C.2.1 hd ht (fun q => kt q H locs ls hP hS hl) (fun q => kf q H locs ls hP hS hl)
theorem kj_icmp_lt (C : Cx g X cc own nL d) {x y : Int32} {off : Int} {tgt : Nat} (hd : decode cc pc = .ok (.if_icmp .lt off, 3)) (ht : (pc : Int) + off = (tgt : Int)) (kt : x < y → Kj g X nL tgt lv st M) (kf : ¬ x < y → Kj g X nL (pc + 3) lv st M) : Kj g X nL pc lv (.int y :: .int x :: st) M := fun H locs ls hP hS hl => lv_icmp_lt C.1 C.2.1 hd ht (fun q => kt q H locs ls hP hS hl) (fun q => kf q H locs ls hP hS hl)
theorem kj_if_ge (C : Cx g X cc own nL d) {x : Int32} {off : Int} {tgt : Nat} (hd : decode cc pc = .ok (.ifCond .ge off, 3)) (ht : (pc : Int) + off = (tgt : Int)) (kt : 0 ≤ x → Kj g X nL tgt lv st M) (kf : ¬ 0 ≤ x → Kj g X nL (pc + 3) lv st M) : Kj g X nL pc lv (.int x :: st) M := fun H locs ls hP hS hl => lv_if_ge C.1 C.2.1 hd ht (fun q => kt q H locs ls hP hS hl) (fun q => kf q H locs ls hP hS hl)
theorem kj_icmp_ge (C : Cx g X cc own nL d) {x y : Int32} {off : Int} {tgt : Nat} (hd : decode cc pc = .ok (.if_icmp .ge off, 3)) (ht : (pc : Int) + off = (tgt : Int)) (kt : y ≤ x → Kj g X nL tgt lv st M) (kf : ¬ y ≤ x → Kj g X nL (pc + 3) lv st M) : Kj g X nL pc lv (.int y :: .int x :: st) M := fun H locs ls hP hS hl => lv_icmp_ge C.1 C.2.1 hd ht (fun q => kt q H locs ls hP hS hl) (fun q => kf q H locs ls hP hS hl)
theorem kj_if_gt (C : Cx g X cc own nL d) {x : Int32} {off : Int} {tgt : Nat} (hd : decode cc pc = .ok (.ifCond .gt off, 3)) (ht : (pc : Int) + off = (tgt : Int)) (kt : 0 < x → Kj g X nL tgt lv st M) (kf : ¬ 0 < x → Kj g X nL (pc + 3) lv st M) : Kj g X nL pc lv (.int x :: st) M := fun H locs ls hP hS hl => lv_if_gt C.1 C.2.1 hd ht (fun q => kt q H locs ls hP hS hl) (fun q => kf q H locs ls hP hS hl)
theorem kj_icmp_gt (C : Cx g X cc own nL d) {x y : Int32} {off : Int} {tgt : Nat} (hd : decode cc pc = .ok (.if_icmp .gt off, 3)) (ht : (pc : Int) + off = (tgt : Int)) (kt : y < x → Kj g X nL tgt lv st M) (kf : ¬ y < x → Kj g X nL (pc + 3) lv st M) : Kj g X nL pc lv (.int y :: .int x :: st) M := fun H locs ls hP hS hl => lv_icmp_gt C.1 C.2.1 hd ht (fun q => kt q H locs ls hP hS hl) (fun q => kf q H locs ls hP hS hl)
theorem kj_if_le (C : Cx g X cc own nL d) {x : Int32} {off : Int} {tgt : Nat} (hd : decode cc pc = .ok (.ifCond .le off, 3)) (ht : (pc : Int) + off = (tgt : Int)) (kt : x ≤ 0 → Kj g X nL tgt lv st M) (kf : ¬ x ≤ 0 → Kj g X nL (pc + 3) lv st M) : Kj g X nL pc lv (.int x :: st) M := fun H locs ls hP hS hl => lv_if_le C.1 C.2.1 hd ht (fun q => kt q H locs ls hP hS hl) (fun q => kf q H locs ls hP hS hl)
theorem kj_icmp_le (C : Cx g X cc own nL d) {x y : Int32} {off : Int} {tgt : Nat} (hd : decode cc pc = .ok (.if_icmp .le off, 3)) (ht : (pc : Int) + off = (tgt : Int)) (kt : x ≤ y → Kj g X nL tgt lv st M) (kf : ¬ x ≤ y → Kj g X nL (pc + 3) lv st M) : Kj g X nL pc lv (.int y :: .int x :: st) M := fun H locs ls hP hS hl => lv_icmp_le C.1 C.2.1 hd ht (fun q => kt q H locs ls hP hS hl) (fun q => kf q H locs ls hP hS hl)
theorem kj_tsIn (C : Cx g X cc own nL d) {dflt lo hi : Int} {offs : Array Int} {len : Nat} {x : Int32} {off : Int} {tgt : Nat} (hd : decode cc pc = .ok (.tableswitch dflt lo hi offs, len)) (h1 : ¬ x.toInt < lo) (h2 : ¬ hi < x.toInt) (ho : offs[(x.toInt - lo).toNat]? = some off) (ht : (pc : Int) + off = (tgt : Int)) (kk : Kj g X nL tgt lv st M) : Kj g X nL pc lv (.int x :: st) M := fun H locs ls hP hS hl => lv_tableIn C.1 C.2.1 hd h1 h2 ho ht (kk H locs ls hP hS hl)
theorem kj_tsOut (C : Cx g X cc own nL d) {dflt lo hi : Int} {offs : Array Int} {len : Nat} {x : Int32} {tgt : Nat} (hd : decode cc pc = .ok (.tableswitch dflt lo hi offs, len)) (h : x.toInt < lo ∨ hi < x.toInt) (ht : (pc : Int) + dflt = (tgt : Int)) (kk : Kj g X nL tgt lv st M) : Kj g X nL pc lv (.int x :: st) M := fun H locs ls hP hS hl => lv_tableOut C.1 C.2.1 hd h ht (kk H locs ls hP hS hl)
theorem kj_look (C : Cx g X cc own nL d) {dflt : Int} {ps : Array (Int × Int)} {len : Nat} {x : Int32} {off : Int} {tgt : Nat} (hd : decode cc pc = .ok (.lookupswitch dflt ps, len)) (hp : (ps.toList.zip (ps.toList.drop 1)).all (fun (a, next) => a.1 < next.1) = true) (ho : Op.lookupswitch.offset ps.toList dflt x.toInt = off) (ht : (pc : Int) + off = (tgt : Int)) (kk : Kj g X nL tgt lv st M) : Kj g X nL pc lv (.int x :: st) M := fun H locs ls hP hS hl => lv_lookup C.1 C.2.1 hd hp ho ht (kk H locs ls hP hS hl)
theorem kj_ild (C : Cx g X cc own nL d) {i : Nat} {x : Int32} (hd : decode cc pc = .ok (.iload i, 2)) (h : lv[i]? = some (some (.int x))) (kk : Kj g X nL (pc + 2) lv (.int x :: st) M) : Kj g X nL pc lv st M := fun H locs ls hP hS hl => lv_iload C.1 C.2.1 hd (hl.2.2 _ _ h) (kk H locs ls hP hS hl)
theorem kj_ildn (C : Cx g X cc own nL d) {k : Fin 4} {x : Int32} (hd : decode cc pc = .ok (.iload_n k, 1)) (h : lv[(k : Nat)]? = some (some (.int x))) (kk : Kj g X nL (pc + 1) lv (.int x :: st) M) : Kj g X nL pc lv st M := fun H locs ls hP hS hl => lv_iload_n C.1 C.2.1 hd rfl (hl.2.2 _ _ h) (kk H locs ls hP hS hl)
theorem kj_ist (C : Cx g X cc own nL d) {i : Nat} {x : Int32} (hd : decode cc pc = .ok (.istore i, 2)) (hn : i < nL) (hp : ∀ j : Nat, j + 1 = i → ∀ w, lv[j]? = some (some w) → w.category = 1) (kk : Kj g X nL (pc + 2) (lv.set i (some (.int x))) st M) : Kj g X nL pc lv (.int x :: st) M := fun H locs ls hP hS hl => lv_istore C.1 C.2.1 hd hl.has hn rfl (fun ls2 hl2 => kk H locs ls2 hP hS (hl.st1 hl2 hp))
theorem kj_istn (C : Cx g X cc own nL d) {k : Fin 4} {x : Int32} (hd : decode cc pc = .ok (.istore_n k, 1)) (hn : (k : Nat) < nL) (hp : ∀ j : Nat, j + 1 = (k : Nat) → ∀ w, lv[j]? = some (some w) → w.category = 1) (kk : Kj g X nL (pc + 1) (lv.set (k : Nat) (some (.int x))) st M) : Kj g X nL pc lv (.int x :: st) M := fun H locs ls hP hS hl => lv_istore_n C.1 C.2.1 hd rfl hl.has hn rfl (fun ls2 hl2 => kk H locs ls2 hP hS (hl.st1 hl2 hp))
theorem kj_lld (C : Cx g X cc own nL d) {i : Nat} {x : Int64} (hd : decode cc pc = .ok (.lload i, 2)) (h : lv[i]? = some (some (.long x))) (kk : Kj g X nL (pc + 2) lv (.long x :: st) M) : Kj g X nL pc lv st M := fun H locs ls hP hS hl => lv_lload C.1 C.2.1 hd (hl.2.2 _ _ h) (kk H locs ls hP hS hl)
theorem kj_lldn (C : Cx g X cc own nL d) {k : Fin 4} {x : Int64} (hd : decode cc pc = .ok (.lload_n k, 1)) (h : lv[(k : Nat)]? = some (some (.long x))) (kk : Kj g X nL (pc + 1) lv (.long x :: st) M) : Kj g X nL pc lv st M := fun H locs ls hP hS hl => lv_lload_n C.1 C.2.1 hd rfl (hl.2.2 _ _ h) (kk H locs ls hP hS hl)
theorem kj_lst (C : Cx g X cc own nL d) {i : Nat} {x : Int64} (hd : decode cc pc = .ok (.lstore i, 2)) (hn : i + 1 < nL) (hp : ∀ j : Nat, j + 1 = i → ∀ w, lv[j]? = some (some w) → w.category = 1) (kk : Kj g X nL (pc + 2) ((lv.set i (some (.long x))).set (i + 1) none) st M) : Kj g X nL pc lv (.long x :: st) M := fun H locs ls hP hS hl => lv_lstore C.1 C.2.1 hd hl.has hn rfl (fun ls2 hl2 => kk H locs ls2 hP hS (hl.st2 hl2 hp))
theorem kj_lstn (C : Cx g X cc own nL d) {k : Fin 4} {x : Int64} (hd : decode cc pc = .ok (.lstore_n k, 1)) (hn : (k : Nat) + 1 < nL) (hp : ∀ j : Nat, j + 1 = (k : Nat) → ∀ w, lv[j]? = some (some w) → w.category = 1) (kk : Kj g X nL (pc + 1) ((lv.set (k : Nat) (some (.long x))).set ((k : Nat) + 1) none) st M) : Kj g X nL pc lv (.long x :: st) M := fun H locs ls hP hS hl => lv_lstore_n C.1 C.2.1 hd rfl hl.has hn rfl (fun ls2 hl2 => kk H locs ls2 hP hS (hl.st2 hl2 hp))
theorem kj_ald (C : Cx g X cc own nL d) {i : Nat} {x : Nat} (hd : decode cc pc = .ok (.aload i, 2)) (h : lv[i]? = some (some (.ref x))) (kk : Kj g X nL (pc + 2) lv (.ref x :: st) M) : Kj g X nL pc lv st M := fun H locs ls hP hS hl => lv_aload C.1 C.2.1 hd (hl.2.2 _ _ h) (kk H locs ls hP hS hl)
theorem kj_aldn (C : Cx g X cc own nL d) {k : Fin 4} {x : Nat} (hd : decode cc pc = .ok (.aload_n k, 1)) (h : lv[(k : Nat)]? = some (some (.ref x))) (kk : Kj g X nL (pc + 1) lv (.ref x :: st) M) : Kj g X nL pc lv st M := fun H locs ls hP hS hl => lv_aload_n C.1 C.2.1 hd rfl (hl.2.2 _ _ h) (kk H locs ls hP hS hl)
theorem kj_ast (C : Cx g X cc own nL d) {i : Nat} {x : Nat} (hd : decode cc pc = .ok (.astore i, 2)) (hn : i < nL) (hp : ∀ j : Nat, j + 1 = i → ∀ w, lv[j]? = some (some w) → w.category = 1) (kk : Kj g X nL (pc + 2) (lv.set i (some (.ref x))) st M) : Kj g X nL pc lv (.ref x :: st) M := fun H locs ls hP hS hl => lv_astore C.1 C.2.1 hd hl.has hn rfl (fun ls2 hl2 => kk H locs ls2 hP hS (hl.st1 hl2 hp))
theorem kj_astn (C : Cx g X cc own nL d) {k : Fin 4} {x : Nat} (hd : decode cc pc = .ok (.astore_n k, 1)) (hn : (k : Nat) < nL) (hp : ∀ j : Nat, j + 1 = (k : Nat) → ∀ w, lv[j]? = some (some w) → w.category = 1) (kk : Kj g X nL (pc + 1) (lv.set (k : Nat) (some (.ref x))) st M) : Kj g X nL pc lv (.ref x :: st) M := fun H locs ls hP hS hl => lv_astore_n C.1 C.2.1 hd rfl hl.has hn rfl (fun ls2 hl2 => kk H locs ls2 hP hS (hl.st1 hl2 hp))
theorem kj_iinc (C : Cx g X cc own nL d) {i : Nat} {n : Int} {x v : Int32} (hd : decode cc pc = .ok (.iinc i n, 3)) (h : lv[i]? = some (some (.int x))) (hv : x + Int32.ofInt n = v) (hn : i < nL) (hp : ∀ j : Nat, j + 1 = i → ∀ w, lv[j]? = some (some w) → w.category = 1) (kk : Kj g X nL (pc + 3) (lv.set i (some (.int v))) st M) : Kj g X nL pc lv st M := fun H locs ls hP hS hl => by
  obtain ⟨k, hk⟩ := List.getElem?_of_mem ((ll_mem (q := (i, Value.int x))).mpr ⟨hn, h⟩)
  exact lv_iinc C.1 C.2.1 hd hl.has hk hv hn rfl (fun ls2 hl2 => kk H locs ls2 hP hS (hl.st1 hl2 hp))
theorem kj_ild0 (C : Cx g X cc own nL d) {r : List (Option Value)} {x : Int32} (hd : decode cc pc = .ok (.iload_n 0, 1)) (kk : Kj g X nL (pc + 1) (some (.int x) :: r) (.int x :: st) M) : Kj g X nL pc (some (.int x) :: r) st M := kj_ildn (k := 0) C hd rfl kk
theorem kj_ist0 (C : Cx g X cc own nL d) {b0 : Option Value} {r : List (Option Value)} {x : Int32} (hd : decode cc pc = .ok (.istore_n 0, 1)) (hn : 0 < nL)  (kk : Kj g X nL (pc + 1) (some (.int x) :: r) st M) : Kj g X nL pc (b0 :: r) (.int x :: st) M := kj_istn (k := 0) C hd hn (by
  intro j hj; omega
  ) kk
theorem kj_lld0 (C : Cx g X cc own nL d) {r : List (Option Value)} {x : Int64} (hd : decode cc pc = .ok (.lload_n 0, 1)) (kk : Kj g X nL (pc + 1) (some (.long x) :: r) (.long x :: st) M) : Kj g X nL pc (some (.long x) :: r) st M := kj_lldn (k := 0) C hd rfl kk
theorem kj_lst0 (C : Cx g X cc own nL d) {b0 b1 : Option Value} {r : List (Option Value)} {x : Int64} (hd : decode cc pc = .ok (.lstore_n 0, 1)) (hn : 0 + 1 < nL)  (kk : Kj g X nL (pc + 1) (some (.long x) :: none :: r) st M) : Kj g X nL pc (b0 :: b1 :: r) (.long x :: st) M := kj_lstn (k := 0) C hd hn (by
  intro j hj; omega
  ) kk
theorem kj_ald0 (C : Cx g X cc own nL d) {r : List (Option Value)} {x : Nat} (hd : decode cc pc = .ok (.aload_n 0, 1)) (kk : Kj g X nL (pc + 1) (some (.ref x) :: r) (.ref x :: st) M) : Kj g X nL pc (some (.ref x) :: r) st M := kj_aldn (k := 0) C hd rfl kk
theorem kj_ast0 (C : Cx g X cc own nL d) {b0 : Option Value} {r : List (Option Value)} {x : Nat} (hd : decode cc pc = .ok (.astore_n 0, 1)) (hn : 0 < nL)  (kk : Kj g X nL (pc + 1) (some (.ref x) :: r) st M) : Kj g X nL pc (b0 :: r) (.ref x :: st) M := kj_astn (k := 0) C hd hn (by
  intro j hj; omega
  ) kk
theorem kj_iinc0 (C : Cx g X cc own nL d) {r : List (Option Value)} {n : Int} {x v : Int32} (hd : decode cc pc = .ok (.iinc 0 n, 3)) (hn : 0 < nL)  (hv : x + Int32.ofInt n = v) (kk : Kj g X nL (pc + 3) (some (.int v) :: r) st M) : Kj g X nL pc (some (.int x) :: r) st M := kj_iinc (i := 0) C hd rfl hv hn (by
  intro j hj; omega
  ) kk
theorem kj_ild1 (C : Cx g X cc own nL d) {a0 : Option Value} {r : List (Option Value)} {x : Int32} (hd : decode cc pc = .ok (.iload_n 1, 1)) (kk : Kj g X nL (pc + 1) (a0 :: some (.int x) :: r) (.int x :: st) M) : Kj g X nL pc (a0 :: some (.int x) :: r) st M := kj_ildn (k := 1) C hd rfl kk
theorem kj_ist1 (C : Cx g X cc own nL d) {a0 b0 : Option Value} {r : List (Option Value)} {x : Int32} (hd : decode cc pc = .ok (.istore_n 1, 1)) (hn : 1 < nL) (hp : nl a0 = true) (kk : Kj g X nL (pc + 1) (a0 :: some (.int x) :: r) st M) : Kj g X nL pc (a0 :: b0 :: r) (.int x :: st) M := kj_istn (k := 1) C hd hn (by
  intro j hj w hw; obtain rfl : j = 0 := by (have : j + 1 = 1 := hj); omega
  simp at hw; rw [hw] at hp; simpa [nl] using hp) kk
theorem kj_lld1 (C : Cx g X cc own nL d) {a0 : Option Value} {r : List (Option Value)} {x : Int64} (hd : decode cc pc = .ok (.lload_n 1, 1)) (kk : Kj g X nL (pc + 1) (a0 :: some (.long x) :: r) (.long x :: st) M) : Kj g X nL pc (a0 :: some (.long x) :: r) st M := kj_lldn (k := 1) C hd rfl kk
theorem kj_lst1 (C : Cx g X cc own nL d) {a0 b0 b1 : Option Value} {r : List (Option Value)} {x : Int64} (hd : decode cc pc = .ok (.lstore_n 1, 1)) (hn : 1 + 1 < nL) (hp : nl a0 = true) (kk : Kj g X nL (pc + 1) (a0 :: some (.long x) :: none :: r) st M) : Kj g X nL pc (a0 :: b0 :: b1 :: r) (.long x :: st) M := kj_lstn (k := 1) C hd hn (by
  intro j hj w hw; obtain rfl : j = 0 := by (have : j + 1 = 1 := hj); omega
  simp at hw; rw [hw] at hp; simpa [nl] using hp) kk
theorem kj_ald1 (C : Cx g X cc own nL d) {a0 : Option Value} {r : List (Option Value)} {x : Nat} (hd : decode cc pc = .ok (.aload_n 1, 1)) (kk : Kj g X nL (pc + 1) (a0 :: some (.ref x) :: r) (.ref x :: st) M) : Kj g X nL pc (a0 :: some (.ref x) :: r) st M := kj_aldn (k := 1) C hd rfl kk
theorem kj_ast1 (C : Cx g X cc own nL d) {a0 b0 : Option Value} {r : List (Option Value)} {x : Nat} (hd : decode cc pc = .ok (.astore_n 1, 1)) (hn : 1 < nL) (hp : nl a0 = true) (kk : Kj g X nL (pc + 1) (a0 :: some (.ref x) :: r) st M) : Kj g X nL pc (a0 :: b0 :: r) (.ref x :: st) M := kj_astn (k := 1) C hd hn (by
  intro j hj w hw; obtain rfl : j = 0 := by (have : j + 1 = 1 := hj); omega
  simp at hw; rw [hw] at hp; simpa [nl] using hp) kk
theorem kj_iinc1 (C : Cx g X cc own nL d) {a0 : Option Value} {r : List (Option Value)} {n : Int} {x v : Int32} (hd : decode cc pc = .ok (.iinc 1 n, 3)) (hn : 1 < nL) (hp : nl a0 = true) (hv : x + Int32.ofInt n = v) (kk : Kj g X nL (pc + 3) (a0 :: some (.int v) :: r) st M) : Kj g X nL pc (a0 :: some (.int x) :: r) st M := kj_iinc (i := 1) C hd rfl hv hn (by
  intro j hj w hw; obtain rfl : j = 0 := by (have : j + 1 = 1 := hj); omega
  simp at hw; rw [hw] at hp; simpa [nl] using hp) kk
theorem kj_ild2 (C : Cx g X cc own nL d) {a0 a1 : Option Value} {r : List (Option Value)} {x : Int32} (hd : decode cc pc = .ok (.iload_n 2, 1)) (kk : Kj g X nL (pc + 1) (a0 :: a1 :: some (.int x) :: r) (.int x :: st) M) : Kj g X nL pc (a0 :: a1 :: some (.int x) :: r) st M := kj_ildn (k := 2) C hd rfl kk
theorem kj_ist2 (C : Cx g X cc own nL d) {a0 a1 b0 : Option Value} {r : List (Option Value)} {x : Int32} (hd : decode cc pc = .ok (.istore_n 2, 1)) (hn : 2 < nL) (hp : nl a1 = true) (kk : Kj g X nL (pc + 1) (a0 :: a1 :: some (.int x) :: r) st M) : Kj g X nL pc (a0 :: a1 :: b0 :: r) (.int x :: st) M := kj_istn (k := 2) C hd hn (by
  intro j hj w hw; obtain rfl : j = 1 := by (have : j + 1 = 2 := hj); omega
  simp at hw; rw [hw] at hp; simpa [nl] using hp) kk
theorem kj_lld2 (C : Cx g X cc own nL d) {a0 a1 : Option Value} {r : List (Option Value)} {x : Int64} (hd : decode cc pc = .ok (.lload_n 2, 1)) (kk : Kj g X nL (pc + 1) (a0 :: a1 :: some (.long x) :: r) (.long x :: st) M) : Kj g X nL pc (a0 :: a1 :: some (.long x) :: r) st M := kj_lldn (k := 2) C hd rfl kk
theorem kj_lst2 (C : Cx g X cc own nL d) {a0 a1 b0 b1 : Option Value} {r : List (Option Value)} {x : Int64} (hd : decode cc pc = .ok (.lstore_n 2, 1)) (hn : 2 + 1 < nL) (hp : nl a1 = true) (kk : Kj g X nL (pc + 1) (a0 :: a1 :: some (.long x) :: none :: r) st M) : Kj g X nL pc (a0 :: a1 :: b0 :: b1 :: r) (.long x :: st) M := kj_lstn (k := 2) C hd hn (by
  intro j hj w hw; obtain rfl : j = 1 := by (have : j + 1 = 2 := hj); omega
  simp at hw; rw [hw] at hp; simpa [nl] using hp) kk
theorem kj_ald2 (C : Cx g X cc own nL d) {a0 a1 : Option Value} {r : List (Option Value)} {x : Nat} (hd : decode cc pc = .ok (.aload_n 2, 1)) (kk : Kj g X nL (pc + 1) (a0 :: a1 :: some (.ref x) :: r) (.ref x :: st) M) : Kj g X nL pc (a0 :: a1 :: some (.ref x) :: r) st M := kj_aldn (k := 2) C hd rfl kk
theorem kj_ast2 (C : Cx g X cc own nL d) {a0 a1 b0 : Option Value} {r : List (Option Value)} {x : Nat} (hd : decode cc pc = .ok (.astore_n 2, 1)) (hn : 2 < nL) (hp : nl a1 = true) (kk : Kj g X nL (pc + 1) (a0 :: a1 :: some (.ref x) :: r) st M) : Kj g X nL pc (a0 :: a1 :: b0 :: r) (.ref x :: st) M := kj_astn (k := 2) C hd hn (by
  intro j hj w hw; obtain rfl : j = 1 := by (have : j + 1 = 2 := hj); omega
  simp at hw; rw [hw] at hp; simpa [nl] using hp) kk
theorem kj_iinc2 (C : Cx g X cc own nL d) {a0 a1 : Option Value} {r : List (Option Value)} {n : Int} {x v : Int32} (hd : decode cc pc = .ok (.iinc 2 n, 3)) (hn : 2 < nL) (hp : nl a1 = true) (hv : x + Int32.ofInt n = v) (kk : Kj g X nL (pc + 3) (a0 :: a1 :: some (.int v) :: r) st M) : Kj g X nL pc (a0 :: a1 :: some (.int x) :: r) st M := kj_iinc (i := 2) C hd rfl hv hn (by
  intro j hj w hw; obtain rfl : j = 1 := by (have : j + 1 = 2 := hj); omega
  simp at hw; rw [hw] at hp; simpa [nl] using hp) kk
theorem kj_ild3 (C : Cx g X cc own nL d) {a0 a1 a2 : Option Value} {r : List (Option Value)} {x : Int32} (hd : decode cc pc = .ok (.iload_n 3, 1)) (kk : Kj g X nL (pc + 1) (a0 :: a1 :: a2 :: some (.int x) :: r) (.int x :: st) M) : Kj g X nL pc (a0 :: a1 :: a2 :: some (.int x) :: r) st M := kj_ildn (k := 3) C hd rfl kk
theorem kj_ist3 (C : Cx g X cc own nL d) {a0 a1 a2 b0 : Option Value} {r : List (Option Value)} {x : Int32} (hd : decode cc pc = .ok (.istore_n 3, 1)) (hn : 3 < nL) (hp : nl a2 = true) (kk : Kj g X nL (pc + 1) (a0 :: a1 :: a2 :: some (.int x) :: r) st M) : Kj g X nL pc (a0 :: a1 :: a2 :: b0 :: r) (.int x :: st) M := kj_istn (k := 3) C hd hn (by
  intro j hj w hw; obtain rfl : j = 2 := by (have : j + 1 = 3 := hj); omega
  simp at hw; rw [hw] at hp; simpa [nl] using hp) kk
theorem kj_lld3 (C : Cx g X cc own nL d) {a0 a1 a2 : Option Value} {r : List (Option Value)} {x : Int64} (hd : decode cc pc = .ok (.lload_n 3, 1)) (kk : Kj g X nL (pc + 1) (a0 :: a1 :: a2 :: some (.long x) :: r) (.long x :: st) M) : Kj g X nL pc (a0 :: a1 :: a2 :: some (.long x) :: r) st M := kj_lldn (k := 3) C hd rfl kk
theorem kj_lst3 (C : Cx g X cc own nL d) {a0 a1 a2 b0 b1 : Option Value} {r : List (Option Value)} {x : Int64} (hd : decode cc pc = .ok (.lstore_n 3, 1)) (hn : 3 + 1 < nL) (hp : nl a2 = true) (kk : Kj g X nL (pc + 1) (a0 :: a1 :: a2 :: some (.long x) :: none :: r) st M) : Kj g X nL pc (a0 :: a1 :: a2 :: b0 :: b1 :: r) (.long x :: st) M := kj_lstn (k := 3) C hd hn (by
  intro j hj w hw; obtain rfl : j = 2 := by (have : j + 1 = 3 := hj); omega
  simp at hw; rw [hw] at hp; simpa [nl] using hp) kk
theorem kj_ald3 (C : Cx g X cc own nL d) {a0 a1 a2 : Option Value} {r : List (Option Value)} {x : Nat} (hd : decode cc pc = .ok (.aload_n 3, 1)) (kk : Kj g X nL (pc + 1) (a0 :: a1 :: a2 :: some (.ref x) :: r) (.ref x :: st) M) : Kj g X nL pc (a0 :: a1 :: a2 :: some (.ref x) :: r) st M := kj_aldn (k := 3) C hd rfl kk
theorem kj_ast3 (C : Cx g X cc own nL d) {a0 a1 a2 b0 : Option Value} {r : List (Option Value)} {x : Nat} (hd : decode cc pc = .ok (.astore_n 3, 1)) (hn : 3 < nL) (hp : nl a2 = true) (kk : Kj g X nL (pc + 1) (a0 :: a1 :: a2 :: some (.ref x) :: r) st M) : Kj g X nL pc (a0 :: a1 :: a2 :: b0 :: r) (.ref x :: st) M := kj_astn (k := 3) C hd hn (by
  intro j hj w hw; obtain rfl : j = 2 := by (have : j + 1 = 3 := hj); omega
  simp at hw; rw [hw] at hp; simpa [nl] using hp) kk
theorem kj_iinc3 (C : Cx g X cc own nL d) {a0 a1 a2 : Option Value} {r : List (Option Value)} {n : Int} {x v : Int32} (hd : decode cc pc = .ok (.iinc 3 n, 3)) (hn : 3 < nL) (hp : nl a2 = true) (hv : x + Int32.ofInt n = v) (kk : Kj g X nL (pc + 3) (a0 :: a1 :: a2 :: some (.int v) :: r) st M) : Kj g X nL pc (a0 :: a1 :: a2 :: some (.int x) :: r) st M := kj_iinc (i := 3) C hd rfl hv hn (by
  intro j hj w hw; obtain rfl : j = 2 := by (have : j + 1 = 3 := hj); omega
  simp at hw; rw [hw] at hp; simpa [nl] using hp) kk
theorem kj_ild4 (C : Cx g X cc own nL d) {a0 a1 a2 a3 : Option Value} {r : List (Option Value)} {x : Int32} (hd : decode cc pc = .ok (.iload 4, 2)) (kk : Kj g X nL (pc + 2) (a0 :: a1 :: a2 :: a3 :: some (.int x) :: r) (.int x :: st) M) : Kj g X nL pc (a0 :: a1 :: a2 :: a3 :: some (.int x) :: r) st M := kj_ild (i := 4) C hd rfl kk
theorem kj_ist4 (C : Cx g X cc own nL d) {a0 a1 a2 a3 b0 : Option Value} {r : List (Option Value)} {x : Int32} (hd : decode cc pc = .ok (.istore 4, 2)) (hn : 4 < nL) (hp : nl a3 = true) (kk : Kj g X nL (pc + 2) (a0 :: a1 :: a2 :: a3 :: some (.int x) :: r) st M) : Kj g X nL pc (a0 :: a1 :: a2 :: a3 :: b0 :: r) (.int x :: st) M := kj_ist (i := 4) C hd hn (by
  intro j hj w hw; obtain rfl : j = 3 := by (have : j + 1 = 4 := hj); omega
  simp at hw; rw [hw] at hp; simpa [nl] using hp) kk
theorem kj_lld4 (C : Cx g X cc own nL d) {a0 a1 a2 a3 : Option Value} {r : List (Option Value)} {x : Int64} (hd : decode cc pc = .ok (.lload 4, 2)) (kk : Kj g X nL (pc + 2) (a0 :: a1 :: a2 :: a3 :: some (.long x) :: r) (.long x :: st) M) : Kj g X nL pc (a0 :: a1 :: a2 :: a3 :: some (.long x) :: r) st M := kj_lld (i := 4) C hd rfl kk
theorem kj_lst4 (C : Cx g X cc own nL d) {a0 a1 a2 a3 b0 b1 : Option Value} {r : List (Option Value)} {x : Int64} (hd : decode cc pc = .ok (.lstore 4, 2)) (hn : 4 + 1 < nL) (hp : nl a3 = true) (kk : Kj g X nL (pc + 2) (a0 :: a1 :: a2 :: a3 :: some (.long x) :: none :: r) st M) : Kj g X nL pc (a0 :: a1 :: a2 :: a3 :: b0 :: b1 :: r) (.long x :: st) M := kj_lst (i := 4) C hd hn (by
  intro j hj w hw; obtain rfl : j = 3 := by (have : j + 1 = 4 := hj); omega
  simp at hw; rw [hw] at hp; simpa [nl] using hp) kk
theorem kj_ald4 (C : Cx g X cc own nL d) {a0 a1 a2 a3 : Option Value} {r : List (Option Value)} {x : Nat} (hd : decode cc pc = .ok (.aload 4, 2)) (kk : Kj g X nL (pc + 2) (a0 :: a1 :: a2 :: a3 :: some (.ref x) :: r) (.ref x :: st) M) : Kj g X nL pc (a0 :: a1 :: a2 :: a3 :: some (.ref x) :: r) st M := kj_ald (i := 4) C hd rfl kk
theorem kj_ast4 (C : Cx g X cc own nL d) {a0 a1 a2 a3 b0 : Option Value} {r : List (Option Value)} {x : Nat} (hd : decode cc pc = .ok (.astore 4, 2)) (hn : 4 < nL) (hp : nl a3 = true) (kk : Kj g X nL (pc + 2) (a0 :: a1 :: a2 :: a3 :: some (.ref x) :: r) st M) : Kj g X nL pc (a0 :: a1 :: a2 :: a3 :: b0 :: r) (.ref x :: st) M := kj_ast (i := 4) C hd hn (by
  intro j hj w hw; obtain rfl : j = 3 := by (have : j + 1 = 4 := hj); omega
  simp at hw; rw [hw] at hp; simpa [nl] using hp) kk
theorem kj_iinc4 (C : Cx g X cc own nL d) {a0 a1 a2 a3 : Option Value} {r : List (Option Value)} {n : Int} {x v : Int32} (hd : decode cc pc = .ok (.iinc 4 n, 3)) (hn : 4 < nL) (hp : nl a3 = true) (hv : x + Int32.ofInt n = v) (kk : Kj g X nL (pc + 3) (a0 :: a1 :: a2 :: a3 :: some (.int v) :: r) st M) : Kj g X nL pc (a0 :: a1 :: a2 :: a3 :: some (.int x) :: r) st M := kj_iinc (i := 4) C hd rfl hv hn (by
  intro j hj w hw; obtain rfl : j = 3 := by (have : j + 1 = 4 := hj); omega
  simp at hw; rw [hw] at hp; simpa [nl] using hp) kk
theorem kj_ild5 (C : Cx g X cc own nL d) {a0 a1 a2 a3 a4 : Option Value} {r : List (Option Value)} {x : Int32} (hd : decode cc pc = .ok (.iload 5, 2)) (kk : Kj g X nL (pc + 2) (a0 :: a1 :: a2 :: a3 :: a4 :: some (.int x) :: r) (.int x :: st) M) : Kj g X nL pc (a0 :: a1 :: a2 :: a3 :: a4 :: some (.int x) :: r) st M := kj_ild (i := 5) C hd rfl kk
theorem kj_ist5 (C : Cx g X cc own nL d) {a0 a1 a2 a3 a4 b0 : Option Value} {r : List (Option Value)} {x : Int32} (hd : decode cc pc = .ok (.istore 5, 2)) (hn : 5 < nL) (hp : nl a4 = true) (kk : Kj g X nL (pc + 2) (a0 :: a1 :: a2 :: a3 :: a4 :: some (.int x) :: r) st M) : Kj g X nL pc (a0 :: a1 :: a2 :: a3 :: a4 :: b0 :: r) (.int x :: st) M := kj_ist (i := 5) C hd hn (by
  intro j hj w hw; obtain rfl : j = 4 := by (have : j + 1 = 5 := hj); omega
  simp at hw; rw [hw] at hp; simpa [nl] using hp) kk
theorem kj_lld5 (C : Cx g X cc own nL d) {a0 a1 a2 a3 a4 : Option Value} {r : List (Option Value)} {x : Int64} (hd : decode cc pc = .ok (.lload 5, 2)) (kk : Kj g X nL (pc + 2) (a0 :: a1 :: a2 :: a3 :: a4 :: some (.long x) :: r) (.long x :: st) M) : Kj g X nL pc (a0 :: a1 :: a2 :: a3 :: a4 :: some (.long x) :: r) st M := kj_lld (i := 5) C hd rfl kk
theorem kj_lst5 (C : Cx g X cc own nL d) {a0 a1 a2 a3 a4 b0 b1 : Option Value} {r : List (Option Value)} {x : Int64} (hd : decode cc pc = .ok (.lstore 5, 2)) (hn : 5 + 1 < nL) (hp : nl a4 = true) (kk : Kj g X nL (pc + 2) (a0 :: a1 :: a2 :: a3 :: a4 :: some (.long x) :: none :: r) st M) : Kj g X nL pc (a0 :: a1 :: a2 :: a3 :: a4 :: b0 :: b1 :: r) (.long x :: st) M := kj_lst (i := 5) C hd hn (by
  intro j hj w hw; obtain rfl : j = 4 := by (have : j + 1 = 5 := hj); omega
  simp at hw; rw [hw] at hp; simpa [nl] using hp) kk
theorem kj_ald5 (C : Cx g X cc own nL d) {a0 a1 a2 a3 a4 : Option Value} {r : List (Option Value)} {x : Nat} (hd : decode cc pc = .ok (.aload 5, 2)) (kk : Kj g X nL (pc + 2) (a0 :: a1 :: a2 :: a3 :: a4 :: some (.ref x) :: r) (.ref x :: st) M) : Kj g X nL pc (a0 :: a1 :: a2 :: a3 :: a4 :: some (.ref x) :: r) st M := kj_ald (i := 5) C hd rfl kk
theorem kj_ast5 (C : Cx g X cc own nL d) {a0 a1 a2 a3 a4 b0 : Option Value} {r : List (Option Value)} {x : Nat} (hd : decode cc pc = .ok (.astore 5, 2)) (hn : 5 < nL) (hp : nl a4 = true) (kk : Kj g X nL (pc + 2) (a0 :: a1 :: a2 :: a3 :: a4 :: some (.ref x) :: r) st M) : Kj g X nL pc (a0 :: a1 :: a2 :: a3 :: a4 :: b0 :: r) (.ref x :: st) M := kj_ast (i := 5) C hd hn (by
  intro j hj w hw; obtain rfl : j = 4 := by (have : j + 1 = 5 := hj); omega
  simp at hw; rw [hw] at hp; simpa [nl] using hp) kk
theorem kj_iinc5 (C : Cx g X cc own nL d) {a0 a1 a2 a3 a4 : Option Value} {r : List (Option Value)} {n : Int} {x v : Int32} (hd : decode cc pc = .ok (.iinc 5 n, 3)) (hn : 5 < nL) (hp : nl a4 = true) (hv : x + Int32.ofInt n = v) (kk : Kj g X nL (pc + 3) (a0 :: a1 :: a2 :: a3 :: a4 :: some (.int v) :: r) st M) : Kj g X nL pc (a0 :: a1 :: a2 :: a3 :: a4 :: some (.int x) :: r) st M := kj_iinc (i := 5) C hd rfl hv hn (by
  intro j hj w hw; obtain rfl : j = 4 := by (have : j + 1 = 5 := hj); omega
  simp at hw; rw [hw] at hp; simpa [nl] using hp) kk
theorem kj_ild6 (C : Cx g X cc own nL d) {a0 a1 a2 a3 a4 a5 : Option Value} {r : List (Option Value)} {x : Int32} (hd : decode cc pc = .ok (.iload 6, 2)) (kk : Kj g X nL (pc + 2) (a0 :: a1 :: a2 :: a3 :: a4 :: a5 :: some (.int x) :: r) (.int x :: st) M) : Kj g X nL pc (a0 :: a1 :: a2 :: a3 :: a4 :: a5 :: some (.int x) :: r) st M := kj_ild (i := 6) C hd rfl kk
theorem kj_ist6 (C : Cx g X cc own nL d) {a0 a1 a2 a3 a4 a5 b0 : Option Value} {r : List (Option Value)} {x : Int32} (hd : decode cc pc = .ok (.istore 6, 2)) (hn : 6 < nL) (hp : nl a5 = true) (kk : Kj g X nL (pc + 2) (a0 :: a1 :: a2 :: a3 :: a4 :: a5 :: some (.int x) :: r) st M) : Kj g X nL pc (a0 :: a1 :: a2 :: a3 :: a4 :: a5 :: b0 :: r) (.int x :: st) M := kj_ist (i := 6) C hd hn (by
  intro j hj w hw; obtain rfl : j = 5 := by (have : j + 1 = 6 := hj); omega
  simp at hw; rw [hw] at hp; simpa [nl] using hp) kk
theorem kj_lld6 (C : Cx g X cc own nL d) {a0 a1 a2 a3 a4 a5 : Option Value} {r : List (Option Value)} {x : Int64} (hd : decode cc pc = .ok (.lload 6, 2)) (kk : Kj g X nL (pc + 2) (a0 :: a1 :: a2 :: a3 :: a4 :: a5 :: some (.long x) :: r) (.long x :: st) M) : Kj g X nL pc (a0 :: a1 :: a2 :: a3 :: a4 :: a5 :: some (.long x) :: r) st M := kj_lld (i := 6) C hd rfl kk
theorem kj_lst6 (C : Cx g X cc own nL d) {a0 a1 a2 a3 a4 a5 b0 b1 : Option Value} {r : List (Option Value)} {x : Int64} (hd : decode cc pc = .ok (.lstore 6, 2)) (hn : 6 + 1 < nL) (hp : nl a5 = true) (kk : Kj g X nL (pc + 2) (a0 :: a1 :: a2 :: a3 :: a4 :: a5 :: some (.long x) :: none :: r) st M) : Kj g X nL pc (a0 :: a1 :: a2 :: a3 :: a4 :: a5 :: b0 :: b1 :: r) (.long x :: st) M := kj_lst (i := 6) C hd hn (by
  intro j hj w hw; obtain rfl : j = 5 := by (have : j + 1 = 6 := hj); omega
  simp at hw; rw [hw] at hp; simpa [nl] using hp) kk
theorem kj_ald6 (C : Cx g X cc own nL d) {a0 a1 a2 a3 a4 a5 : Option Value} {r : List (Option Value)} {x : Nat} (hd : decode cc pc = .ok (.aload 6, 2)) (kk : Kj g X nL (pc + 2) (a0 :: a1 :: a2 :: a3 :: a4 :: a5 :: some (.ref x) :: r) (.ref x :: st) M) : Kj g X nL pc (a0 :: a1 :: a2 :: a3 :: a4 :: a5 :: some (.ref x) :: r) st M := kj_ald (i := 6) C hd rfl kk
theorem kj_ast6 (C : Cx g X cc own nL d) {a0 a1 a2 a3 a4 a5 b0 : Option Value} {r : List (Option Value)} {x : Nat} (hd : decode cc pc = .ok (.astore 6, 2)) (hn : 6 < nL) (hp : nl a5 = true) (kk : Kj g X nL (pc + 2) (a0 :: a1 :: a2 :: a3 :: a4 :: a5 :: some (.ref x) :: r) st M) : Kj g X nL pc (a0 :: a1 :: a2 :: a3 :: a4 :: a5 :: b0 :: r) (.ref x :: st) M := kj_ast (i := 6) C hd hn (by
  intro j hj w hw; obtain rfl : j = 5 := by (have : j + 1 = 6 := hj); omega
  simp at hw; rw [hw] at hp; simpa [nl] using hp) kk
theorem kj_iinc6 (C : Cx g X cc own nL d) {a0 a1 a2 a3 a4 a5 : Option Value} {r : List (Option Value)} {n : Int} {x v : Int32} (hd : decode cc pc = .ok (.iinc 6 n, 3)) (hn : 6 < nL) (hp : nl a5 = true) (hv : x + Int32.ofInt n = v) (kk : Kj g X nL (pc + 3) (a0 :: a1 :: a2 :: a3 :: a4 :: a5 :: some (.int v) :: r) st M) : Kj g X nL pc (a0 :: a1 :: a2 :: a3 :: a4 :: a5 :: some (.int x) :: r) st M := kj_iinc (i := 6) C hd rfl hv hn (by
  intro j hj w hw; obtain rfl : j = 5 := by (have : j + 1 = 6 := hj); omega
  simp at hw; rw [hw] at hp; simpa [nl] using hp) kk
theorem kj_ild7 (C : Cx g X cc own nL d) {a0 a1 a2 a3 a4 a5 a6 : Option Value} {r : List (Option Value)} {x : Int32} (hd : decode cc pc = .ok (.iload 7, 2)) (kk : Kj g X nL (pc + 2) (a0 :: a1 :: a2 :: a3 :: a4 :: a5 :: a6 :: some (.int x) :: r) (.int x :: st) M) : Kj g X nL pc (a0 :: a1 :: a2 :: a3 :: a4 :: a5 :: a6 :: some (.int x) :: r) st M := kj_ild (i := 7) C hd rfl kk
theorem kj_ist7 (C : Cx g X cc own nL d) {a0 a1 a2 a3 a4 a5 a6 b0 : Option Value} {r : List (Option Value)} {x : Int32} (hd : decode cc pc = .ok (.istore 7, 2)) (hn : 7 < nL) (hp : nl a6 = true) (kk : Kj g X nL (pc + 2) (a0 :: a1 :: a2 :: a3 :: a4 :: a5 :: a6 :: some (.int x) :: r) st M) : Kj g X nL pc (a0 :: a1 :: a2 :: a3 :: a4 :: a5 :: a6 :: b0 :: r) (.int x :: st) M := kj_ist (i := 7) C hd hn (by
  intro j hj w hw; obtain rfl : j = 6 := by (have : j + 1 = 7 := hj); omega
  simp at hw; rw [hw] at hp; simpa [nl] using hp) kk
theorem kj_lld7 (C : Cx g X cc own nL d) {a0 a1 a2 a3 a4 a5 a6 : Option Value} {r : List (Option Value)} {x : Int64} (hd : decode cc pc = .ok (.lload 7, 2)) (kk : Kj g X nL (pc + 2) (a0 :: a1 :: a2 :: a3 :: a4 :: a5 :: a6 :: some (.long x) :: r) (.long x :: st) M) : Kj g X nL pc (a0 :: a1 :: a2 :: a3 :: a4 :: a5 :: a6 :: some (.long x) :: r) st M := kj_lld (i := 7) C hd rfl kk
theorem kj_lst7 (C : Cx g X cc own nL d) {a0 a1 a2 a3 a4 a5 a6 b0 b1 : Option Value} {r : List (Option Value)} {x : Int64} (hd : decode cc pc = .ok (.lstore 7, 2)) (hn : 7 + 1 < nL) (hp : nl a6 = true) (kk : Kj g X nL (pc + 2) (a0 :: a1 :: a2 :: a3 :: a4 :: a5 :: a6 :: some (.long x) :: none :: r) st M) : Kj g X nL pc (a0 :: a1 :: a2 :: a3 :: a4 :: a5 :: a6 :: b0 :: b1 :: r) (.long x :: st) M := kj_lst (i := 7) C hd hn (by
  intro j hj w hw; obtain rfl : j = 6 := by (have : j + 1 = 7 := hj); omega
  simp at hw; rw [hw] at hp; simpa [nl] using hp) kk
theorem kj_ald7 (C : Cx g X cc own nL d) {a0 a1 a2 a3 a4 a5 a6 : Option Value} {r : List (Option Value)} {x : Nat} (hd : decode cc pc = .ok (.aload 7, 2)) (kk : Kj g X nL (pc + 2) (a0 :: a1 :: a2 :: a3 :: a4 :: a5 :: a6 :: some (.ref x) :: r) (.ref x :: st) M) : Kj g X nL pc (a0 :: a1 :: a2 :: a3 :: a4 :: a5 :: a6 :: some (.ref x) :: r) st M := kj_ald (i := 7) C hd rfl kk
theorem kj_ast7 (C : Cx g X cc own nL d) {a0 a1 a2 a3 a4 a5 a6 b0 : Option Value} {r : List (Option Value)} {x : Nat} (hd : decode cc pc = .ok (.astore 7, 2)) (hn : 7 < nL) (hp : nl a6 = true) (kk : Kj g X nL (pc + 2) (a0 :: a1 :: a2 :: a3 :: a4 :: a5 :: a6 :: some (.ref x) :: r) st M) : Kj g X nL pc (a0 :: a1 :: a2 :: a3 :: a4 :: a5 :: a6 :: b0 :: r) (.ref x :: st) M := kj_ast (i := 7) C hd hn (by
  intro j hj w hw; obtain rfl : j = 6 := by (have : j + 1 = 7 := hj); omega
  simp at hw; rw [hw] at hp; simpa [nl] using hp) kk
theorem kj_iinc7 (C : Cx g X cc own nL d) {a0 a1 a2 a3 a4 a5 a6 : Option Value} {r : List (Option Value)} {n : Int} {x v : Int32} (hd : decode cc pc = .ok (.iinc 7 n, 3)) (hn : 7 < nL) (hp : nl a6 = true) (hv : x + Int32.ofInt n = v) (kk : Kj g X nL (pc + 3) (a0 :: a1 :: a2 :: a3 :: a4 :: a5 :: a6 :: some (.int v) :: r) st M) : Kj g X nL pc (a0 :: a1 :: a2 :: a3 :: a4 :: a5 :: a6 :: some (.int x) :: r) st M := kj_iinc (i := 7) C hd rfl hv hn (by
  intro j hj w hw; obtain rfl : j = 6 := by (have : j + 1 = 7 := hj); omega
  simp at hw; rw [hw] at hp; simpa [nl] using hp) kk
theorem kj_ild8 (C : Cx g X cc own nL d) {a0 a1 a2 a3 a4 a5 a6 a7 : Option Value} {r : List (Option Value)} {x : Int32} (hd : decode cc pc = .ok (.iload 8, 2)) (kk : Kj g X nL (pc + 2) (a0 :: a1 :: a2 :: a3 :: a4 :: a5 :: a6 :: a7 :: some (.int x) :: r) (.int x :: st) M) : Kj g X nL pc (a0 :: a1 :: a2 :: a3 :: a4 :: a5 :: a6 :: a7 :: some (.int x) :: r) st M := kj_ild (i := 8) C hd rfl kk
theorem kj_ist8 (C : Cx g X cc own nL d) {a0 a1 a2 a3 a4 a5 a6 a7 b0 : Option Value} {r : List (Option Value)} {x : Int32} (hd : decode cc pc = .ok (.istore 8, 2)) (hn : 8 < nL) (hp : nl a7 = true) (kk : Kj g X nL (pc + 2) (a0 :: a1 :: a2 :: a3 :: a4 :: a5 :: a6 :: a7 :: some (.int x) :: r) st M) : Kj g X nL pc (a0 :: a1 :: a2 :: a3 :: a4 :: a5 :: a6 :: a7 :: b0 :: r) (.int x :: st) M := kj_ist (i := 8) C hd hn (by
  intro j hj w hw; obtain rfl : j = 7 := by (have : j + 1 = 8 := hj); omega
  simp at hw; rw [hw] at hp; simpa [nl] using hp) kk
theorem kj_lld8 (C : Cx g X cc own nL d) {a0 a1 a2 a3 a4 a5 a6 a7 : Option Value} {r : List (Option Value)} {x : Int64} (hd : decode cc pc = .ok (.lload 8, 2)) (kk : Kj g X nL (pc + 2) (a0 :: a1 :: a2 :: a3 :: a4 :: a5 :: a6 :: a7 :: some (.long x) :: r) (.long x :: st) M) : Kj g X nL pc (a0 :: a1 :: a2 :: a3 :: a4 :: a5 :: a6 :: a7 :: some (.long x) :: r) st M := kj_lld (i := 8) C hd rfl kk
theorem kj_lst8 (C : Cx g X cc own nL d) {a0 a1 a2 a3 a4 a5 a6 a7 b0 b1 : Option Value} {r : List (Option Value)} {x : Int64} (hd : decode cc pc = .ok (.lstore 8, 2)) (hn : 8 + 1 < nL) (hp : nl a7 = true) (kk : Kj g X nL (pc + 2) (a0 :: a1 :: a2 :: a3 :: a4 :: a5 :: a6 :: a7 :: some (.long x) :: none :: r) st M) : Kj g X nL pc (a0 :: a1 :: a2 :: a3 :: a4 :: a5 :: a6 :: a7 :: b0 :: b1 :: r) (.long x :: st) M := kj_lst (i := 8) C hd hn (by
  intro j hj w hw; obtain rfl : j = 7 := by (have : j + 1 = 8 := hj); omega
  simp at hw; rw [hw] at hp; simpa [nl] using hp) kk
theorem kj_ald8 (C : Cx g X cc own nL d) {a0 a1 a2 a3 a4 a5 a6 a7 : Option Value} {r : List (Option Value)} {x : Nat} (hd : decode cc pc = .ok (.aload 8, 2)) (kk : Kj g X nL (pc + 2) (a0 :: a1 :: a2 :: a3 :: a4 :: a5 :: a6 :: a7 :: some (.ref x) :: r) (.ref x :: st) M) : Kj g X nL pc (a0 :: a1 :: a2 :: a3 :: a4 :: a5 :: a6 :: a7 :: some (.ref x) :: r) st M := kj_ald (i := 8) C hd rfl kk
theorem kj_ast8 (C : Cx g X cc own nL d) {a0 a1 a2 a3 a4 a5 a6 a7 b0 : Option Value} {r : List (Option Value)} {x : Nat} (hd : decode cc pc = .ok (.astore 8, 2)) (hn : 8 < nL) (hp : nl a7 = true) (kk : Kj g X nL (pc + 2) (a0 :: a1 :: a2 :: a3 :: a4 :: a5 :: a6 :: a7 :: some (.ref x) :: r) st M) : Kj g X nL pc (a0 :: a1 :: a2 :: a3 :: a4 :: a5 :: a6 :: a7 :: b0 :: r) (.ref x :: st) M := kj_ast (i := 8) C hd hn (by
  intro j hj w hw; obtain rfl : j = 7 := by (have : j + 1 = 8 := hj); omega
  simp at hw; rw [hw] at hp; simpa [nl] using hp) kk
theorem kj_iinc8 (C : Cx g X cc own nL d) {a0 a1 a2 a3 a4 a5 a6 a7 : Option Value} {r : List (Option Value)} {n : Int} {x v : Int32} (hd : decode cc pc = .ok (.iinc 8 n, 3)) (hn : 8 < nL) (hp : nl a7 = true) (hv : x + Int32.ofInt n = v) (kk : Kj g X nL (pc + 3) (a0 :: a1 :: a2 :: a3 :: a4 :: a5 :: a6 :: a7 :: some (.int v) :: r) st M) : Kj g X nL pc (a0 :: a1 :: a2 :: a3 :: a4 :: a5 :: a6 :: a7 :: some (.int x) :: r) st M := kj_iinc (i := 8) C hd rfl hv hn (by
  intro j hj w hw; obtain rfl : j = 7 := by (have : j + 1 = 8 := hj); omega
  simp at hw; rw [hw] at hp; simpa [nl] using hp) kk
theorem kj_ild9 (C : Cx g X cc own nL d) {a0 a1 a2 a3 a4 a5 a6 a7 a8 : Option Value} {r : List (Option Value)} {x : Int32} (hd : decode cc pc = .ok (.iload 9, 2)) (kk : Kj g X nL (pc + 2) (a0 :: a1 :: a2 :: a3 :: a4 :: a5 :: a6 :: a7 :: a8 :: some (.int x) :: r) (.int x :: st) M) : Kj g X nL pc (a0 :: a1 :: a2 :: a3 :: a4 :: a5 :: a6 :: a7 :: a8 :: some (.int x) :: r) st M := kj_ild (i := 9) C hd rfl kk
theorem kj_ist9 (C : Cx g X cc own nL d) {a0 a1 a2 a3 a4 a5 a6 a7 a8 b0 : Option Value} {r : List (Option Value)} {x : Int32} (hd : decode cc pc = .ok (.istore 9, 2)) (hn : 9 < nL) (hp : nl a8 = true) (kk : Kj g X nL (pc + 2) (a0 :: a1 :: a2 :: a3 :: a4 :: a5 :: a6 :: a7 :: a8 :: some (.int x) :: r) st M) : Kj g X nL pc (a0 :: a1 :: a2 :: a3 :: a4 :: a5 :: a6 :: a7 :: a8 :: b0 :: r) (.int x :: st) M := kj_ist (i := 9) C hd hn (by
  intro j hj w hw; obtain rfl : j = 8 := by (have : j + 1 = 9 := hj); omega
  simp at hw; rw [hw] at hp; simpa [nl] using hp) kk
theorem kj_lld9 (C : Cx g X cc own nL d) {a0 a1 a2 a3 a4 a5 a6 a7 a8 : Option Value} {r : List (Option Value)} {x : Int64} (hd : decode cc pc = .ok (.lload 9, 2)) (kk : Kj g X nL (pc + 2) (a0 :: a1 :: a2 :: a3 :: a4 :: a5 :: a6 :: a7 :: a8 :: some (.long x) :: r) (.long x :: st) M) : Kj g X nL pc (a0 :: a1 :: a2 :: a3 :: a4 :: a5 :: a6 :: a7 :: a8 :: some (.long x) :: r) st M := kj_lld (i := 9) C hd rfl kk
theorem kj_lst9 (C : Cx g X cc own nL d) {a0 a1 a2 a3 a4 a5 a6 a7 a8 b0 b1 : Option Value} {r : List (Option Value)} {x : Int64} (hd : decode cc pc = .ok (.lstore 9, 2)) (hn : 9 + 1 < nL) (hp : nl a8 = true) (kk : Kj g X nL (pc + 2) (a0 :: a1 :: a2 :: a3 :: a4 :: a5 :: a6 :: a7 :: a8 :: some (.long x) :: none :: r) st M) : Kj g X nL pc (a0 :: a1 :: a2 :: a3 :: a4 :: a5 :: a6 :: a7 :: a8 :: b0 :: b1 :: r) (.long x :: st) M := kj_lst (i := 9) C hd hn (by
  intro j hj w hw; obtain rfl : j = 8 := by (have : j + 1 = 9 := hj); omega
  simp at hw; rw [hw] at hp; simpa [nl] using hp) kk
theorem kj_ald9 (C : Cx g X cc own nL d) {a0 a1 a2 a3 a4 a5 a6 a7 a8 : Option Value} {r : List (Option Value)} {x : Nat} (hd : decode cc pc = .ok (.aload 9, 2)) (kk : Kj g X nL (pc + 2) (a0 :: a1 :: a2 :: a3 :: a4 :: a5 :: a6 :: a7 :: a8 :: some (.ref x) :: r) (.ref x :: st) M) : Kj g X nL pc (a0 :: a1 :: a2 :: a3 :: a4 :: a5 :: a6 :: a7 :: a8 :: some (.ref x) :: r) st M := kj_ald (i := 9) C hd rfl kk
theorem kj_ast9 (C : Cx g X cc own nL d) {a0 a1 a2 a3 a4 a5 a6 a7 a8 b0 : Option Value} {r : List (Option Value)} {x : Nat} (hd : decode cc pc = .ok (.astore 9, 2)) (hn : 9 < nL) (hp : nl a8 = true) (kk : Kj g X nL (pc + 2) (a0 :: a1 :: a2 :: a3 :: a4 :: a5 :: a6 :: a7 :: a8 :: some (.ref x) :: r) st M) : Kj g X nL pc (a0 :: a1 :: a2 :: a3 :: a4 :: a5 :: a6 :: a7 :: a8 :: b0 :: r) (.ref x :: st) M := kj_ast (i := 9) C hd hn (by
  intro j hj w hw; obtain rfl : j = 8 := by (have : j + 1 = 9 := hj); omega
  simp at hw; rw [hw] at hp; simpa [nl] using hp) kk
theorem kj_iinc9 (C : Cx g X cc own nL d) {a0 a1 a2 a3 a4 a5 a6 a7 a8 : Option Value} {r : List (Option Value)} {n : Int} {x v : Int32} (hd : decode cc pc = .ok (.iinc 9 n, 3)) (hn : 9 < nL) (hp : nl a8 = true) (hv : x + Int32.ofInt n = v) (kk : Kj g X nL (pc + 3) (a0 :: a1 :: a2 :: a3 :: a4 :: a5 :: a6 :: a7 :: a8 :: some (.int v) :: r) st M) : Kj g X nL pc (a0 :: a1 :: a2 :: a3 :: a4 :: a5 :: a6 :: a7 :: a8 :: some (.int x) :: r) st M := kj_iinc (i := 9) C hd rfl hv hn (by
  intro j hj w hw; obtain rfl : j = 8 := by (have : j + 1 = 9 := hj); omega
  simp at hw; rw [hw] at hp; simpa [nl] using hp) kk
theorem kj_ild10 (C : Cx g X cc own nL d) {a0 a1 a2 a3 a4 a5 a6 a7 a8 a9 : Option Value} {r : List (Option Value)} {x : Int32} (hd : decode cc pc = .ok (.iload 10, 2)) (kk : Kj g X nL (pc + 2) (a0 :: a1 :: a2 :: a3 :: a4 :: a5 :: a6 :: a7 :: a8 :: a9 :: some (.int x) :: r) (.int x :: st) M) : Kj g X nL pc (a0 :: a1 :: a2 :: a3 :: a4 :: a5 :: a6 :: a7 :: a8 :: a9 :: some (.int x) :: r) st M := kj_ild (i := 10) C hd rfl kk
theorem kj_ist10 (C : Cx g X cc own nL d) {a0 a1 a2 a3 a4 a5 a6 a7 a8 a9 b0 : Option Value} {r : List (Option Value)} {x : Int32} (hd : decode cc pc = .ok (.istore 10, 2)) (hn : 10 < nL) (hp : nl a9 = true) (kk : Kj g X nL (pc + 2) (a0 :: a1 :: a2 :: a3 :: a4 :: a5 :: a6 :: a7 :: a8 :: a9 :: some (.int x) :: r) st M) : Kj g X nL pc (a0 :: a1 :: a2 :: a3 :: a4 :: a5 :: a6 :: a7 :: a8 :: a9 :: b0 :: r) (.int x :: st) M := kj_ist (i := 10) C hd hn (by
  intro j hj w hw; obtain rfl : j = 9 := by (have : j + 1 = 10 := hj); omega
  simp at hw; rw [hw] at hp; simpa [nl] using hp) kk
theorem kj_lld10 (C : Cx g X cc own nL d) {a0 a1 a2 a3 a4 a5 a6 a7 a8 a9 : Option Value} {r : List (Option Value)} {x : Int64} (hd : decode cc pc = .ok (.lload 10, 2)) (kk : Kj g X nL (pc + 2) (a0 :: a1 :: a2 :: a3 :: a4 :: a5 :: a6 :: a7 :: a8 :: a9 :: some (.long x) :: r) (.long x :: st) M) : Kj g X nL pc (a0 :: a1 :: a2 :: a3 :: a4 :: a5 :: a6 :: a7 :: a8 :: a9 :: some (.long x) :: r) st M := kj_lld (i := 10) C hd rfl kk
theorem kj_lst10 (C : Cx g X cc own nL d) {a0 a1 a2 a3 a4 a5 a6 a7 a8 a9 b0 b1 : Option Value} {r : List (Option Value)} {x : Int64} (hd : decode cc pc = .ok (.lstore 10, 2)) (hn : 10 + 1 < nL) (hp : nl a9 = true) (kk : Kj g X nL (pc + 2) (a0 :: a1 :: a2 :: a3 :: a4 :: a5 :: a6 :: a7 :: a8 :: a9 :: some (.long x) :: none :: r) st M) : Kj g X nL pc (a0 :: a1 :: a2 :: a3 :: a4 :: a5 :: a6 :: a7 :: a8 :: a9 :: b0 :: b1 :: r) (.long x :: st) M := kj_lst (i := 10) C hd hn (by
  intro j hj w hw; obtain rfl : j = 9 := by (have : j + 1 = 10 := hj); omega
  simp at hw; rw [hw] at hp; simpa [nl] using hp) kk
theorem kj_ald10 (C : Cx g X cc own nL d) {a0 a1 a2 a3 a4 a5 a6 a7 a8 a9 : Option Value} {r : List (Option Value)} {x : Nat} (hd : decode cc pc = .ok (.aload 10, 2)) (kk : Kj g X nL (pc + 2) (a0 :: a1 :: a2 :: a3 :: a4 :: a5 :: a6 :: a7 :: a8 :: a9 :: some (.ref x) :: r) (.ref x :: st) M) : Kj g X nL pc (a0 :: a1 :: a2 :: a3 :: a4 :: a5 :: a6 :: a7 :: a8 :: a9 :: some (.ref x) :: r) st M := kj_ald (i := 10) C hd rfl kk
theorem kj_ast10 (C : Cx g X cc own nL d) {a0 a1 a2 a3 a4 a5 a6 a7 a8 a9 b0 : Option Value} {r : List (Option Value)} {x : Nat} (hd : decode cc pc = .ok (.astore 10, 2)) (hn : 10 < nL) (hp : nl a9 = true) (kk : Kj g X nL (pc + 2) (a0 :: a1 :: a2 :: a3 :: a4 :: a5 :: a6 :: a7 :: a8 :: a9 :: some (.ref x) :: r) st M) : Kj g X nL pc (a0 :: a1 :: a2 :: a3 :: a4 :: a5 :: a6 :: a7 :: a8 :: a9 :: b0 :: r) (.ref x :: st) M := kj_ast (i := 10) C hd hn (by
  intro j hj w hw; obtain rfl : j = 9 := by (have : j + 1 = 10 := hj); omega
  simp at hw; rw [hw] at hp; simpa [nl] using hp) kk
theorem kj_iinc10 (C : Cx g X cc own nL d) {a0 a1 a2 a3 a4 a5 a6 a7 a8 a9 : Option Value} {r : List (Option Value)} {n : Int} {x v : Int32} (hd : decode cc pc = .ok (.iinc 10 n, 3)) (hn : 10 < nL) (hp : nl a9 = true) (hv : x + Int32.ofInt n = v) (kk : Kj g X nL (pc + 3) (a0 :: a1 :: a2 :: a3 :: a4 :: a5 :: a6 :: a7 :: a8 :: a9 :: some (.int v) :: r) st M) : Kj g X nL pc (a0 :: a1 :: a2 :: a3 :: a4 :: a5 :: a6 :: a7 :: a8 :: a9 :: some (.int x) :: r) st M := kj_iinc (i := 10) C hd rfl hv hn (by
  intro j hj w hw; obtain rfl : j = 9 := by (have : j + 1 = 10 := hj); omega
  simp at hw; rw [hw] at hp; simpa [nl] using hp) kk
theorem kj_ild11 (C : Cx g X cc own nL d) {a0 a1 a2 a3 a4 a5 a6 a7 a8 a9 a10 : Option Value} {r : List (Option Value)} {x : Int32} (hd : decode cc pc = .ok (.iload 11, 2)) (kk : Kj g X nL (pc + 2) (a0 :: a1 :: a2 :: a3 :: a4 :: a5 :: a6 :: a7 :: a8 :: a9 :: a10 :: some (.int x) :: r) (.int x :: st) M) : Kj g X nL pc (a0 :: a1 :: a2 :: a3 :: a4 :: a5 :: a6 :: a7 :: a8 :: a9 :: a10 :: some (.int x) :: r) st M := kj_ild (i := 11) C hd rfl kk
theorem kj_ist11 (C : Cx g X cc own nL d) {a0 a1 a2 a3 a4 a5 a6 a7 a8 a9 a10 b0 : Option Value} {r : List (Option Value)} {x : Int32} (hd : decode cc pc = .ok (.istore 11, 2)) (hn : 11 < nL) (hp : nl a10 = true) (kk : Kj g X nL (pc + 2) (a0 :: a1 :: a2 :: a3 :: a4 :: a5 :: a6 :: a7 :: a8 :: a9 :: a10 :: some (.int x) :: r) st M) : Kj g X nL pc (a0 :: a1 :: a2 :: a3 :: a4 :: a5 :: a6 :: a7 :: a8 :: a9 :: a10 :: b0 :: r) (.int x :: st) M := kj_ist (i := 11) C hd hn (by
  intro j hj w hw; obtain rfl : j = 10 := by (have : j + 1 = 11 := hj); omega
  simp at hw; rw [hw] at hp; simpa [nl] using hp) kk
theorem kj_lld11 (C : Cx g X cc own nL d) {a0 a1 a2 a3 a4 a5 a6 a7 a8 a9 a10 : Option Value} {r : List (Option Value)} {x : Int64} (hd : decode cc pc = .ok (.lload 11, 2)) (kk : Kj g X nL (pc + 2) (a0 :: a1 :: a2 :: a3 :: a4 :: a5 :: a6 :: a7 :: a8 :: a9 :: a10 :: some (.long x) :: r) (.long x :: st) M) : Kj g X nL pc (a0 :: a1 :: a2 :: a3 :: a4 :: a5 :: a6 :: a7 :: a8 :: a9 :: a10 :: some (.long x) :: r) st M := kj_lld (i := 11) C hd rfl kk
theorem kj_lst11 (C : Cx g X cc own nL d) {a0 a1 a2 a3 a4 a5 a6 a7 a8 a9 a10 b0 b1 : Option Value} {r : List (Option Value)} {x : Int64} (hd : decode cc pc = .ok (.lstore 11, 2)) (hn : 11 + 1 < nL) (hp : nl a10 = true) (kk : Kj g X nL (pc + 2) (a0 :: a1 :: a2 :: a3 :: a4 :: a5 :: a6 :: a7 :: a8 :: a9 :: a10 :: some (.long x) :: none :: r) st M) : Kj g X nL pc (a0 :: a1 :: a2 :: a3 :: a4 :: a5 :: a6 :: a7 :: a8 :: a9 :: a10 :: b0 :: b1 :: r) (.long x :: st) M := kj_lst (i := 11) C hd hn (by
  intro j hj w hw; obtain rfl : j = 10 := by (have : j + 1 = 11 := hj); omega
  simp at hw; rw [hw] at hp; simpa [nl] using hp) kk
theorem kj_ald11 (C : Cx g X cc own nL d) {a0 a1 a2 a3 a4 a5 a6 a7 a8 a9 a10 : Option Value} {r : List (Option Value)} {x : Nat} (hd : decode cc pc = .ok (.aload 11, 2)) (kk : Kj g X nL (pc + 2) (a0 :: a1 :: a2 :: a3 :: a4 :: a5 :: a6 :: a7 :: a8 :: a9 :: a10 :: some (.ref x) :: r) (.ref x :: st) M) : Kj g X nL pc (a0 :: a1 :: a2 :: a3 :: a4 :: a5 :: a6 :: a7 :: a8 :: a9 :: a10 :: some (.ref x) :: r) st M := kj_ald (i := 11) C hd rfl kk
theorem kj_ast11 (C : Cx g X cc own nL d) {a0 a1 a2 a3 a4 a5 a6 a7 a8 a9 a10 b0 : Option Value} {r : List (Option Value)} {x : Nat} (hd : decode cc pc = .ok (.astore 11, 2)) (hn : 11 < nL) (hp : nl a10 = true) (kk : Kj g X nL (pc + 2) (a0 :: a1 :: a2 :: a3 :: a4 :: a5 :: a6 :: a7 :: a8 :: a9 :: a10 :: some (.ref x) :: r) st M) : Kj g X nL pc (a0 :: a1 :: a2 :: a3 :: a4 :: a5 :: a6 :: a7 :: a8 :: a9 :: a10 :: b0 :: r) (.ref x :: st) M := kj_ast (i := 11) C hd hn (by
  intro j hj w hw; obtain rfl : j = 10 := by (have : j + 1 = 11 := hj); omega
  simp at hw; rw [hw] at hp; simpa [nl] using hp) kk
theorem kj_iinc11 (C : Cx g X cc own nL d) {a0 a1 a2 a3 a4 a5 a6 a7 a8 a9 a10 : Option Value} {r : List (Option Value)} {n : Int} {x v : Int32} (hd : decode cc pc = .ok (.iinc 11 n, 3)) (hn : 11 < nL) (hp : nl a10 = true) (hv : x + Int32.ofInt n = v) (kk : Kj g X nL (pc + 3) (a0 :: a1 :: a2 :: a3 :: a4 :: a5 :: a6 :: a7 :: a8 :: a9 :: a10 :: some (.int v) :: r) st M) : Kj g X nL pc (a0 :: a1 :: a2 :: a3 :: a4 :: a5 :: a6 :: a7 :: a8 :: a9 :: a10 :: some (.int x) :: r) st M := kj_iinc (i := 11) C hd rfl hv hn (by
  intro j hj w hw; obtain rfl : j = 10 := by (have : j + 1 = 11 := hj); omega
  simp at hw; rw [hw] at hp; simpa [nl] using hp) kk
theorem kj_ild12 (C : Cx g X cc own nL d) {a0 a1 a2 a3 a4 a5 a6 a7 a8 a9 a10 a11 : Option Value} {r : List (Option Value)} {x : Int32} (hd : decode cc pc = .ok (.iload 12, 2)) (kk : Kj g X nL (pc + 2) (a0 :: a1 :: a2 :: a3 :: a4 :: a5 :: a6 :: a7 :: a8 :: a9 :: a10 :: a11 :: some (.int x) :: r) (.int x :: st) M) : Kj g X nL pc (a0 :: a1 :: a2 :: a3 :: a4 :: a5 :: a6 :: a7 :: a8 :: a9 :: a10 :: a11 :: some (.int x) :: r) st M := kj_ild (i := 12) C hd rfl kk
theorem kj_ist12 (C : Cx g X cc own nL d) {a0 a1 a2 a3 a4 a5 a6 a7 a8 a9 a10 a11 b0 : Option Value} {r : List (Option Value)} {x : Int32} (hd : decode cc pc = .ok (.istore 12, 2)) (hn : 12 < nL) (hp : nl a11 = true) (kk : Kj g X nL (pc + 2) (a0 :: a1 :: a2 :: a3 :: a4 :: a5 :: a6 :: a7 :: a8 :: a9 :: a10 :: a11 :: some (.int x) :: r) st M) : Kj g X nL pc (a0 :: a1 :: a2 :: a3 :: a4 :: a5 :: a6 :: a7 :: a8 :: a9 :: a10 :: a11 :: b0 :: r) (.int x :: st) M := kj_ist (i := 12) C hd hn (by
  intro j hj w hw; obtain rfl : j = 11 := by (have : j + 1 = 12 := hj); omega
  simp at hw; rw [hw] at hp; simpa [nl] using hp) kk
theorem kj_lld12 (C : Cx g X cc own nL d) {a0 a1 a2 a3 a4 a5 a6 a7 a8 a9 a10 a11 : Option Value} {r : List (Option Value)} {x : Int64} (hd : decode cc pc = .ok (.lload 12, 2)) (kk : Kj g X nL (pc + 2) (a0 :: a1 :: a2 :: a3 :: a4 :: a5 :: a6 :: a7 :: a8 :: a9 :: a10 :: a11 :: some (.long x) :: r) (.long x :: st) M) : Kj g X nL pc (a0 :: a1 :: a2 :: a3 :: a4 :: a5 :: a6 :: a7 :: a8 :: a9 :: a10 :: a11 :: some (.long x) :: r) st M := kj_lld (i := 12) C hd rfl kk
theorem kj_lst12 (C : Cx g X cc own nL d) {a0 a1 a2 a3 a4 a5 a6 a7 a8 a9 a10 a11 b0 b1 : Option Value} {r : List (Option Value)} {x : Int64} (hd : decode cc pc = .ok (.lstore 12, 2)) (hn : 12 + 1 < nL) (hp : nl a11 = true) (kk : Kj g X nL (pc + 2) (a0 :: a1 :: a2 :: a3 :: a4 :: a5 :: a6 :: a7 :: a8 :: a9 :: a10 :: a11 :: some (.long x) :: none :: r) st M) : Kj g X nL pc (a0 :: a1 :: a2 :: a3 :: a4 :: a5 :: a6 :: a7 :: a8 :: a9 :: a10 :: a11 :: b0 :: b1 :: r) (.long x :: st) M := kj_lst (i := 12) C hd hn (by
  intro j hj w hw; obtain rfl : j = 11 := by (have : j + 1 = 12 := hj); omega
  simp at hw; rw [hw] at hp; simpa [nl] using hp) kk
theorem kj_ald12 (C : Cx g X cc own nL d) {a0 a1 a2 a3 a4 a5 a6 a7 a8 a9 a10 a11 : Option Value} {r : List (Option Value)} {x : Nat} (hd : decode cc pc = .ok (.aload 12, 2)) (kk : Kj g X nL (pc + 2) (a0 :: a1 :: a2 :: a3 :: a4 :: a5 :: a6 :: a7 :: a8 :: a9 :: a10 :: a11 :: some (.ref x) :: r) (.ref x :: st) M) : Kj g X nL pc (a0 :: a1 :: a2 :: a3 :: a4 :: a5 :: a6 :: a7 :: a8 :: a9 :: a10 :: a11 :: some (.ref x) :: r) st M := kj_ald (i := 12) C hd rfl kk
theorem kj_ast12 (C : Cx g X cc own nL d) {a0 a1 a2 a3 a4 a5 a6 a7 a8 a9 a10 a11 b0 : Option Value} {r : List (Option Value)} {x : Nat} (hd : decode cc pc = .ok (.astore 12, 2)) (hn : 12 < nL) (hp : nl a11 = true) (kk : Kj g X nL (pc + 2) (a0 :: a1 :: a2 :: a3 :: a4 :: a5 :: a6 :: a7 :: a8 :: a9 :: a10 :: a11 :: some (.ref x) :: r) st M) : Kj g X nL pc (a0 :: a1 :: a2 :: a3 :: a4 :: a5 :: a6 :: a7 :: a8 :: a9 :: a10 :: a11 :: b0 :: r) (.ref x :: st) M := kj_ast (i := 12) C hd hn (by
  intro j hj w hw; obtain rfl : j = 11 := by (have : j + 1 = 12 := hj); omega
  simp at hw; rw [hw] at hp; simpa [nl] using hp) kk
theorem kj_iinc12 (C : Cx g X cc own nL d) {a0 a1 a2 a3 a4 a5 a6 a7 a8 a9 a10 a11 : Option Value} {r : List (Option Value)} {n : Int} {x v : Int32} (hd : decode cc pc = .ok (.iinc 12 n, 3)) (hn : 12 < nL) (hp : nl a11 = true) (hv : x + Int32.ofInt n = v) (kk : Kj g X nL (pc + 3) (a0 :: a1 :: a2 :: a3 :: a4 :: a5 :: a6 :: a7 :: a8 :: a9 :: a10 :: a11 :: some (.int v) :: r) st M) : Kj g X nL pc (a0 :: a1 :: a2 :: a3 :: a4 :: a5 :: a6 :: a7 :: a8 :: a9 :: a10 :: a11 :: some (.int x) :: r) st M := kj_iinc (i := 12) C hd rfl hv hn (by
  intro j hj w hw; obtain rfl : j = 11 := by (have : j + 1 = 12 := hj); omega
  simp at hw; rw [hw] at hp; simpa [nl] using hp) kk
theorem kj_ild13 (C : Cx g X cc own nL d) {a0 a1 a2 a3 a4 a5 a6 a7 a8 a9 a10 a11 a12 : Option Value} {r : List (Option Value)} {x : Int32} (hd : decode cc pc = .ok (.iload 13, 2)) (kk : Kj g X nL (pc + 2) (a0 :: a1 :: a2 :: a3 :: a4 :: a5 :: a6 :: a7 :: a8 :: a9 :: a10 :: a11 :: a12 :: some (.int x) :: r) (.int x :: st) M) : Kj g X nL pc (a0 :: a1 :: a2 :: a3 :: a4 :: a5 :: a6 :: a7 :: a8 :: a9 :: a10 :: a11 :: a12 :: some (.int x) :: r) st M := kj_ild (i := 13) C hd rfl kk
theorem kj_ist13 (C : Cx g X cc own nL d) {a0 a1 a2 a3 a4 a5 a6 a7 a8 a9 a10 a11 a12 b0 : Option Value} {r : List (Option Value)} {x : Int32} (hd : decode cc pc = .ok (.istore 13, 2)) (hn : 13 < nL) (hp : nl a12 = true) (kk : Kj g X nL (pc + 2) (a0 :: a1 :: a2 :: a3 :: a4 :: a5 :: a6 :: a7 :: a8 :: a9 :: a10 :: a11 :: a12 :: some (.int x) :: r) st M) : Kj g X nL pc (a0 :: a1 :: a2 :: a3 :: a4 :: a5 :: a6 :: a7 :: a8 :: a9 :: a10 :: a11 :: a12 :: b0 :: r) (.int x :: st) M := kj_ist (i := 13) C hd hn (by
  intro j hj w hw; obtain rfl : j = 12 := by (have : j + 1 = 13 := hj); omega
  simp at hw; rw [hw] at hp; simpa [nl] using hp) kk
theorem kj_lld13 (C : Cx g X cc own nL d) {a0 a1 a2 a3 a4 a5 a6 a7 a8 a9 a10 a11 a12 : Option Value} {r : List (Option Value)} {x : Int64} (hd : decode cc pc = .ok (.lload 13, 2)) (kk : Kj g X nL (pc + 2) (a0 :: a1 :: a2 :: a3 :: a4 :: a5 :: a6 :: a7 :: a8 :: a9 :: a10 :: a11 :: a12 :: some (.long x) :: r) (.long x :: st) M) : Kj g X nL pc (a0 :: a1 :: a2 :: a3 :: a4 :: a5 :: a6 :: a7 :: a8 :: a9 :: a10 :: a11 :: a12 :: some (.long x) :: r) st M := kj_lld (i := 13) C hd rfl kk
theorem kj_lst13 (C : Cx g X cc own nL d) {a0 a1 a2 a3 a4 a5 a6 a7 a8 a9 a10 a11 a12 b0 b1 : Option Value} {r : List (Option Value)} {x : Int64} (hd : decode cc pc = .ok (.lstore 13, 2)) (hn : 13 + 1 < nL) (hp : nl a12 = true) (kk : Kj g X nL (pc + 2) (a0 :: a1 :: a2 :: a3 :: a4 :: a5 :: a6 :: a7 :: a8 :: a9 :: a10 :: a11 :: a12 :: some (.long x) :: none :: r) st M) : Kj g X nL pc (a0 :: a1 :: a2 :: a3 :: a4 :: a5 :: a6 :: a7 :: a8 :: a9 :: a10 :: a11 :: a12 :: b0 :: b1 :: r) (.long x :: st) M := kj_lst (i := 13) C hd hn (by
  intro j hj w hw; obtain rfl : j = 12 := by (have : j + 1 = 13 := hj); omega
  simp at hw; rw [hw] at hp; simpa [nl] using hp) kk
theorem kj_ald13 (C : Cx g X cc own nL d) {a0 a1 a2 a3 a4 a5 a6 a7 a8 a9 a10 a11 a12 : Option Value} {r : List (Option Value)} {x : Nat} (hd : decode cc pc = .ok (.aload 13, 2)) (kk : Kj g X nL (pc + 2) (a0 :: a1 :: a2 :: a3 :: a4 :: a5 :: a6 :: a7 :: a8 :: a9 :: a10 :: a11 :: a12 :: some (.ref x) :: r) (.ref x :: st) M) : Kj g X nL pc (a0 :: a1 :: a2 :: a3 :: a4 :: a5 :: a6 :: a7 :: a8 :: a9 :: a10 :: a11 :: a12 :: some (.ref x) :: r) st M := kj_ald (i := 13) C hd rfl kk
theorem kj_ast13 (C : Cx g X cc own nL d) {a0 a1 a2 a3 a4 a5 a6 a7 a8 a9 a10 a11 a12 b0 : Option Value} {r : List (Option Value)} {x : Nat} (hd : decode cc pc = .ok (.astore 13, 2)) (hn : 13 < nL) (hp : nl a12 = true) (kk : Kj g X nL (pc + 2) (a0 :: a1 :: a2 :: a3 :: a4 :: a5 :: a6 :: a7 :: a8 :: a9 :: a10 :: a11 :: a12 :: some (.ref x) :: r) st M) : Kj g X nL pc (a0 :: a1 :: a2 :: a3 :: a4 :: a5 :: a6 :: a7 :: a8 :: a9 :: a10 :: a11 :: a12 :: b0 :: r) (.ref x :: st) M := kj_ast (i := 13) C hd hn (by
  intro j hj w hw; obtain rfl : j = 12 := by (have : j + 1 = 13 := hj); omega
  simp at hw; rw [hw] at hp; simpa [nl] using hp) kk
theorem kj_iinc13 (C : Cx g X cc own nL d) {a0 a1 a2 a3 a4 a5 a6 a7 a8 a9 a10 a11 a12 : Option Value} {r : List (Option Value)} {n : Int} {x v : Int32} (hd : decode cc pc = .ok (.iinc 13 n, 3)) (hn : 13 < nL) (hp : nl a12 = true) (hv : x + Int32.ofInt n = v) (kk : Kj g X nL (pc + 3) (a0 :: a1 :: a2 :: a3 :: a4 :: a5 :: a6 :: a7 :: a8 :: a9 :: a10 :: a11 :: a12 :: some (.int v) :: r) st M) : Kj g X nL pc (a0 :: a1 :: a2 :: a3 :: a4 :: a5 :: a6 :: a7 :: a8 :: a9 :: a10 :: a11 :: a12 :: some (.int x) :: r) st M := kj_iinc (i := 13) C hd rfl hv hn (by
  intro j hj w hw; obtain rfl : j = 12 := by (have : j + 1 = 13 := hj); omega
  simp at hw; rw [hw] at hp; simpa [nl] using hp) kk
theorem kj_ild14 (C : Cx g X cc own nL d) {a0 a1 a2 a3 a4 a5 a6 a7 a8 a9 a10 a11 a12 a13 : Option Value} {r : List (Option Value)} {x : Int32} (hd : decode cc pc = .ok (.iload 14, 2)) (kk : Kj g X nL (pc + 2) (a0 :: a1 :: a2 :: a3 :: a4 :: a5 :: a6 :: a7 :: a8 :: a9 :: a10 :: a11 :: a12 :: a13 :: some (.int x) :: r) (.int x :: st) M) : Kj g X nL pc (a0 :: a1 :: a2 :: a3 :: a4 :: a5 :: a6 :: a7 :: a8 :: a9 :: a10 :: a11 :: a12 :: a13 :: some (.int x) :: r) st M := kj_ild (i := 14) C hd rfl kk
theorem kj_ist14 (C : Cx g X cc own nL d) {a0 a1 a2 a3 a4 a5 a6 a7 a8 a9 a10 a11 a12 a13 b0 : Option Value} {r : List (Option Value)} {x : Int32} (hd : decode cc pc = .ok (.istore 14, 2)) (hn : 14 < nL) (hp : nl a13 = true) (kk : Kj g X nL (pc + 2) (a0 :: a1 :: a2 :: a3 :: a4 :: a5 :: a6 :: a7 :: a8 :: a9 :: a10 :: a11 :: a12 :: a13 :: some (.int x) :: r) st M) : Kj g X nL pc (a0 :: a1 :: a2 :: a3 :: a4 :: a5 :: a6 :: a7 :: a8 :: a9 :: a10 :: a11 :: a12 :: a13 :: b0 :: r) (.int x :: st) M := kj_ist (i := 14) C hd hn (by
  intro j hj w hw; obtain rfl : j = 13 := by (have : j + 1 = 14 := hj); omega
  simp at hw; rw [hw] at hp; simpa [nl] using hp) kk
theorem kj_lld14 (C : Cx g X cc own nL d) {a0 a1 a2 a3 a4 a5 a6 a7 a8 a9 a10 a11 a12 a13 : Option Value} {r : List (Option Value)} {x : Int64} (hd : decode cc pc = .ok (.lload 14, 2)) (kk : Kj g X nL (pc + 2) (a0 :: a1 :: a2 :: a3 :: a4 :: a5 :: a6 :: a7 :: a8 :: a9 :: a10 :: a11 :: a12 :: a13 :: some (.long x) :: r) (.long x :: st) M) : Kj g X nL pc (a0 :: a1 :: a2 :: a3 :: a4 :: a5 :: a6 :: a7 :: a8 :: a9 :: a10 :: a11 :: a12 :: a13 :: some (.long x) :: r) st M := kj_lld (i := 14) C hd rfl kk
theorem kj_lst14 (C : Cx g X cc own nL d) {a0 a1 a2 a3 a4 a5 a6 a7 a8 a9 a10 a11 a12 a13 b0 b1 : Option Value} {r : List (Option Value)} {x : Int64} (hd : decode cc pc = .ok (.lstore 14, 2)) (hn : 14 + 1 < nL) (hp : nl a13 = true) (kk : Kj g X nL (pc + 2) (a0 :: a1 :: a2 :: a3 :: a4 :: a5 :: a6 :: a7 :: a8 :: a9 :: a10 :: a11 :: a12 :: a13 :: some (.long x) :: none :: r) st M) : Kj g X nL pc (a0 :: a1 :: a2 :: a3 :: a4 :: a5 :: a6 :: a7 :: a8 :: a9 :: a10 :: a11 :: a12 :: a13 :: b0 :: b1 :: r) (.long x :: st) M := kj_lst (i := 14) C hd hn (by
  intro j hj w hw; obtain rfl : j = 13 := by (have : j + 1 = 14 := hj); omega
  simp at hw; rw [hw] at hp; simpa [nl] using hp) kk
theorem kj_ald14 (C : Cx g X cc own nL d) {a0 a1 a2 a3 a4 a5 a6 a7 a8 a9 a10 a11 a12 a13 : Option Value} {r : List (Option Value)} {x : Nat} (hd : decode cc pc = .ok (.aload 14, 2)) (kk : Kj g X nL (pc + 2) (a0 :: a1 :: a2 :: a3 :: a4 :: a5 :: a6 :: a7 :: a8 :: a9 :: a10 :: a11 :: a12 :: a13 :: some (.ref x) :: r) (.ref x :: st) M) : Kj g X nL pc (a0 :: a1 :: a2 :: a3 :: a4 :: a5 :: a6 :: a7 :: a8 :: a9 :: a10 :: a11 :: a12 :: a13 :: some (.ref x) :: r) st M := kj_ald (i := 14) C hd rfl kk
theorem kj_ast14 (C : Cx g X cc own nL d) {a0 a1 a2 a3 a4 a5 a6 a7 a8 a9 a10 a11 a12 a13 b0 : Option Value} {r : List (Option Value)} {x : Nat} (hd : decode cc pc = .ok (.astore 14, 2)) (hn : 14 < nL) (hp : nl a13 = true) (kk : Kj g X nL (pc + 2) (a0 :: a1 :: a2 :: a3 :: a4 :: a5 :: a6 :: a7 :: a8 :: a9 :: a10 :: a11 :: a12 :: a13 :: some (.ref x) :: r) st M) : Kj g X nL pc (a0 :: a1 :: a2 :: a3 :: a4 :: a5 :: a6 :: a7 :: a8 :: a9 :: a10 :: a11 :: a12 :: a13 :: b0 :: r) (.ref x :: st) M := kj_ast (i := 14) C hd hn (by
  intro j hj w hw; obtain rfl : j = 13 := by (have : j + 1 = 14 := hj); omega
  simp at hw; rw [hw] at hp; simpa [nl] using hp) kk
theorem kj_iinc14 (C : Cx g X cc own nL d) {a0 a1 a2 a3 a4 a5 a6 a7 a8 a9 a10 a11 a12 a13 : Option Value} {r : List (Option Value)} {n : Int} {x v : Int32} (hd : decode cc pc = .ok (.iinc 14 n, 3)) (hn : 14 < nL) (hp : nl a13 = true) (hv : x + Int32.ofInt n = v) (kk : Kj g X nL (pc + 3) (a0 :: a1 :: a2 :: a3 :: a4 :: a5 :: a6 :: a7 :: a8 :: a9 :: a10 :: a11 :: a12 :: a13 :: some (.int v) :: r) st M) : Kj g X nL pc (a0 :: a1 :: a2 :: a3 :: a4 :: a5 :: a6 :: a7 :: a8 :: a9 :: a10 :: a11 :: a12 :: a13 :: some (.int x) :: r) st M := kj_iinc (i := 14) C hd rfl hv hn (by
  intro j hj w hw; obtain rfl : j = 13 := by (have : j + 1 = 14 := hj); omega
  simp at hw; rw [hw] at hp; simpa [nl] using hp) kk
/-! the heap -/
theorem kj_get (C : Cx g X cc own nL d) {o index k : Nat} {q : vw_C} {ref : String} {v : Value} (ho : (o, 0) ∈ idx) (hc : vwCl[kd o]? = some q) (hin : ∀ w ∈ u_ws q.1 q.2.1 q.2.2, w ∈ gW) (hk : k < q.2.2) (hlink : Cond.fieldLink own index ref (q.2.1 k).2.1 (q.2.1 k).2.2.1 ∈ gW) (href : ref = (q.2.1 k).1) (hv : (flds g M o)[k]? = some v) (hd : decode cc pc = .ok (.getfield index, 3)) (kk : Kj g X nL (pc + 3) lv (v :: st) M) : Kj g X nL pc lv (.ref (ga g o 0) :: st) M := fun H locs ls hP hS hl => by
  obtain ⟨q0, -, he⟩ := wl_get (g := g) (M := M) ho
  subst href
  exact va_get C.1 C.2.1 C.2.2.2.2.1 hin C.2.2.2.1 C.2.2.2.2.2.1.1 hP q0 he hc k hk (C.2.2.2.2.1 _ hlink) (fun _ h => h) hv hd (kk H locs ls hP hS hl)
theorem kj_getN (C : Cx g X cc own nL d) {o index k : Nat} {q : vw_C} {ref host : String} {v : Value} (ho : (o, 0) ∈ idx) (hc : vwCl[kd o]? = some q) (hin : ∀ w ∈ u_ws q.1 q.2.1 q.2.2, w ∈ gW) (hk : k < q.2.2) (hlink : Cond.fieldLinkNest own index ref (q.2.1 k).2.1 (q.2.1 k).2.2.1 host ∈ nW) (href : ref = (q.2.1 k).1) (hv : (flds g M o)[k]? = some v) (hd : decode cc pc = .ok (.getfield index, 3)) (kk : Kj g X nL (pc + 3) lv (v :: st) M) : Kj g X nL pc lv (.ref (ga g o 0) :: st) M := fun H locs ls hP hS hl => by
  obtain ⟨q0, -, he⟩ := wl_get (g := g) (M := M) ho
  subst href
  exact va_getN C.1 C.2.1 C.2.2.2.2.1 hin C.2.2.2.1 C.2.2.2.2.2.1.1 hP q0 he hc k hk (va_Nw.use rfl (C.2.2.2.2.2.1.2.1 _ hlink)) (fun _ h => h) hv hd (kk H locs ls hP hS hl)
theorem kj_put (C : Cx g X cc own nL d) {o index k : Nat} {q : vw_C} {ref : String} {v : Value} {ty : FieldType} {M' : Mem} {ty0 : Nat → FieldType} (ho : (o, 0) ∈ idx) (hc : vwCl[kd o]? = some q) (hin : ∀ w ∈ u_ws q.1 q.2.1 q.2.2, w ∈ gW) (hty : ∀ k, k < q.2.2 → parseFieldDescriptor (q.2.1 k).2.2.1 = some (ty0 k)) (hnm : ∀ a, a < q.2.2 → ∀ b, b < q.2.2 → a ≠ b → (q.2.1 a).2.1 ≠ (q.2.1 b).2.1) (hk : k < q.2.2) (hlink : Cond.fieldLink own index ref (q.2.1 k).2.1 (q.2.1 k).2.2.1 ∈ gW) (href : ref = (q.2.1 k).1) (hfin : (q.2.1 k).2.2.2 = false) (hd' : parseFieldDescriptor (q.2.1 k).2.2.1 = some ty) (hn : narrow ty v = v) (hfit : fits ty v = true) (hlen : k < (flds g M o).length)
    (hM : ∀ a b : Nat, ¬ (a = o ∧ b = 0) → cel g M' a b = cel g M a b) (hf : flds g M' o = (flds g M o).set k v) (hd : decode cc pc = .ok (.putfield index, 3)) (kk : Kj g X nL (pc + 3) lv st M') : Kj g X nL pc lv (v :: .ref (ga g o 0) :: st) M := fun H locs ls hP hS hl => by
  obtain ⟨q0, hq0, he⟩ := wl_get (g := g) (M := M) ho
  subst href
  have hI := C.2.2.2.2.2.1.2.2.1
  refine va_put C.1 C.2.1 C.2.2.2.2.1 hin ty0 hty hnm C.2.2.2.1 C.2.2.2.2.2.1.1 hP (wl_D hI) hS q0 he hc k hk (C.2.2.2.2.1 _ hlink) (fun _ h => h) hfin hd' hn hfit hlen hd (fun H1 locs1 hP1 _ hS1 => ?_)
  have e := wl_set (g := g) (M := M) (M' := M') hq0 hM
  have e2 : cel g M' o 0 = .inr (kd o, (flds g M o).set k v) := by simp only [cel, if_true, hf]
  rw [e2] at e
  rw [e] at hP1
  exact kk H1 locs1 ls hP1 hS1 hl
theorem kj_putN (C : Cx g X cc own nL d) {o index k : Nat} {q : vw_C} {ref host : String} {v : Value} {ty : FieldType} {M' : Mem} {ty0 : Nat → FieldType} (ho : (o, 0) ∈ idx) (hc : vwCl[kd o]? = some q) (hin : ∀ w ∈ u_ws q.1 q.2.1 q.2.2, w ∈ gW) (hty : ∀ k, k < q.2.2 → parseFieldDescriptor (q.2.1 k).2.2.1 = some (ty0 k)) (hnm : ∀ a, a < q.2.2 → ∀ b, b < q.2.2 → a ≠ b → (q.2.1 a).2.1 ≠ (q.2.1 b).2.1) (hk : k < q.2.2) (hlink : Cond.fieldLinkNest own index ref (q.2.1 k).2.1 (q.2.1 k).2.2.1 host ∈ nW) (href : ref = (q.2.1 k).1) (hfin : (q.2.1 k).2.2.2 = false) (hd' : parseFieldDescriptor (q.2.1 k).2.2.1 = some ty) (hn : narrow ty v = v) (hfit : fits ty v = true) (hlen : k < (flds g M o).length)
    (hM : ∀ a b : Nat, ¬ (a = o ∧ b = 0) → cel g M' a b = cel g M a b) (hf : flds g M' o = (flds g M o).set k v) (hd : decode cc pc = .ok (.putfield index, 3)) (kk : Kj g X nL (pc + 3) lv st M') : Kj g X nL pc lv (v :: .ref (ga g o 0) :: st) M := fun H locs ls hP hS hl => by
  obtain ⟨q0, hq0, he⟩ := wl_get (g := g) (M := M) ho
  subst href
  have hI := C.2.2.2.2.2.1.2.2.1
  refine va_putN C.1 C.2.1 C.2.2.2.2.1 hin ty0 hty hnm C.2.2.2.1 C.2.2.2.2.2.1.1 hP (wl_D hI) hS q0 he hc k hk (va_Nw.use rfl (C.2.2.2.2.2.1.2.1 _ hlink)) (fun _ h => h) hfin hd' hn hfit hlen hd (fun H1 locs1 hP1 _ hS1 => ?_)
  have e := wl_set (g := g) (M := M) (M' := M') hq0 hM
  have e2 : cel g M' o 0 = .inr (kd o, (flds g M o).set k v) := by simp only [cel, if_true, hf]
  rw [e2] at e
  rw [e] at hP1
  exact kk H1 locs1 ls hP1 hS1 hl
/-- an int array -/
def isI (o i : Nat) : Bool := i != 0 && o != 21 && o != 22 && !(o == 27 && i == 13)
theorem cel_I {o i : Nat} (h : isI o i = true) : cel g M o i = .inl (gcI g, ln o i, .inl (M.1 o i)) := by
  simp [isI] at h
  obtain ⟨⟨⟨h1, h2⟩, h3⟩, h4⟩ := h
  have h5 : ¬ (o = 27 ∧ i = 13) := fun e => h4.elim (fun q => q e.1) (fun q => q e.2)
  simp only [cel, if_neg h1, if_neg h2, if_neg h3, if_neg h5]
theorem kj_iald (C : Cx g X cc own nL d) {o i n : Nat} {x : Int32} (ho : (o, i) ∈ idx) (hi : isI o i = true) (hn : ln o i = n) (hin : ¬ (x < 0 ∨ n ≤ x.toNatClampNeg)) (hd : decode cc pc = .ok (.iaload, 1)) (kk : Kj g X nL (pc + 1) lv (.int (M.1 o i x.toNatClampNeg) :: st) M) : Kj g X nL pc lv (.int x :: .ref (ga g o i) :: st) M := fun H locs ls hP hS hl => by
  obtain ⟨q0, -, he⟩ := wl_get (g := g) (M := M) ho
  rw [cel_I hi, hn] at he
  exact va_iald C.1 C.2.1 C.2.2.2.2.2.1.1 hP q0 0 he rfl hin hd (kk H locs ls hP hS hl)
theorem kj_alen (C : Cx g X cc own nL d) {o i n : Nat} {v : Int32} (ho : (o, i) ∈ idx) (hi : isI o i = true) (hn : ln o i = n) (hv : Int32.ofNat n = v) (hd : decode cc pc = .ok (.arraylength, 1)) (kk : Kj g X nL (pc + 1) lv (.int v :: st) M) : Kj g X nL pc lv (.ref (ga g o i) :: st) M := fun H locs ls hP hS hl => by
  obtain ⟨q0, -, he⟩ := wl_get (g := g) (M := M) ho
  rw [cel_I hi, hn] at he
  exact va_alen C.1 C.2.1 C.2.2.2.2.2.1.1 hP q0 0 he rfl hv hd (kk H locs ls hP hS hl)
theorem kj_iast (C : Cx g X cc own nL d) {o i n : Nat} {x y : Int32} (ho : (o, i) ∈ idx) (hi : isI o i = true) (hn : ln o i = n) (hin : ¬ (x < 0 ∨ n ≤ x.toNatClampNeg)) (hd : decode cc pc = .ok (.iastore, 1)) (kk : Kj g X nL (pc + 1) lv st (sw M o i x.toNatClampNeg y)) : Kj g X nL pc lv (.int y :: .int x :: .ref (ga g o i) :: st) M := fun H locs ls hP hS hl => by
  obtain ⟨q0, hq0, he⟩ := wl_get (g := g) (M := M) ho
  have hI := C.2.2.2.2.2.1.2.2.1
  rw [cel_I hi, hn] at he
  refine va_iast C.1 C.2.1 C.2.2.2.2.2.1.1 hP (wl_D hI) hS q0 0 he rfl hin hd (fun H1 locs1 hP1 _ hS1 => ?_)
  have e := wl_set (g := g) (M := M) (M' := sw M o i x.toNatClampNeg y) hq0 cel_sr
  rw [cel_I hi, hn, show (sw M o i x.toNatClampNeg y).1 o i = upd (M.1 o i) x.toNatClampNeg y from if_pos ⟨rfl, rfl⟩] at e
  rw [e] at hP1
  exact kk H1 locs1 ls hP1 hS1 hl
theorem kj_zald (C : Cx g X cc own nL d) {x : Int32} (hin : ¬ (x < 0 ∨ 2 ≤ x.toNatClampNeg)) (hd : decode cc pc = .ok (.baload, 1)) (kk : Kj g X nL (pc + 1) lv (.int (M.1 27 13 x.toNatClampNeg) :: st) M) : Kj g X nL pc lv (.int x :: .ref (ga g 27 13) :: st) M := fun H locs ls hP hS hl => by
  obtain ⟨q0, -, he⟩ := wl_get (g := g) (M := M) (o := 27) (i := 13) (by decide +kernel)
  exact va_zald C.1 C.2.1 C.2.2.2.2.2.1.1 hP q0 1 he rfl hin hd (kk H locs ls hP hS hl)
theorem kj_zast (C : Cx g X cc own nL d) {x y : Int32} (hin : ¬ (x < 0 ∨ 2 ≤ x.toNatClampNeg)) (hy : vp_nar .boolean y = y) (hd : decode cc pc = .ok (.bastore, 1)) (kk : Kj g X nL (pc + 1) lv st (sw M 27 13 x.toNatClampNeg y)) : Kj g X nL pc lv (.int y :: .int x :: .ref (ga g 27 13) :: st) M := fun H locs ls hP hS hl => by
  obtain ⟨q0, hq0, he⟩ := wl_get (g := g) (M := M) (o := 27) (i := 13) (by decide +kernel)
  have hI := C.2.2.2.2.2.1.2.2.1
  refine va_zast C.1 C.2.1 C.2.2.2.2.2.1.1 hP (wl_D hI) hS q0 1 he rfl hin hd (fun H1 locs1 hP1 _ hS1 => ?_)
  have e := wl_set (g := g) (M := M) (M' := sw M 27 13 x.toNatClampNeg y) hq0 cel_sr
  have e2 : cel g (sw M 27 13 x.toNatClampNeg y) 27 13 = .inl (gcZ g, 2, .inl (upd (M.1 27 13) x.toNatClampNeg y)) := rfl
  rw [e2] at e
  rw [hy, e] at hP1
  exact kk H1 locs1 ls hP1 hS1 hl
theorem kj_aald21 (C : Cx g X cc own nL d) {x : Int32} (hin : ¬ (x < 0 ∨ 14 ≤ x.toNatClampNeg)) (hd : decode cc pc = .ok (.aaload, 1)) (kk : Kj g X nL (pc + 1) lv (.ref (ga g (2 + x.toNatClampNeg) 0) :: st) M) : Kj g X nL pc lv (.int x :: .ref (ga g 21 1) :: st) M := fun H locs ls hP hS hl => by
  obtain ⟨q0, -, he⟩ := wl_get (g := g) (M := M) (o := 21) (i := 1) (by decide +kernel)
  exact va_aldq C.1 C.2.1 C.2.2.2.2.2.1.1 hP q0 2 he rfl hin hd (kk H locs ls hP hS hl)
theorem kj_aald22 (C : Cx g X cc own nL d) {x : Int32} (hin : ¬ (x < 0 ∨ 2 ≤ x.toNatClampNeg)) (hd : decode cc pc = .ok (.aaload, 1)) (kk : Kj g X nL (pc + 1) lv (.ref (ga g (16 + x.toNatClampNeg) 0) :: st) M) : Kj g X nL pc lv (.int x :: .ref (ga g 22 1) :: st) M := fun H locs ls hP hS hl => by
  obtain ⟨q0, -, he⟩ := wl_get (g := g) (M := M) (o := 22) (i := 1) (by decide +kernel)
  exact va_aldq C.1 C.2.1 C.2.2.2.2.2.1.1 hP q0 2 he rfl hin hd (kk H locs ls hP hS hl)
theorem kj_facs (C : Cx g X cc own nL d) {index : Nat} (hlink : Cond.fieldLink own index "JealousChoir$Chances" "FACTORIALS" "[I" ∈ gW) (hd : decode cc pc = .ok (.getstatic index, 3)) (kk : Kj g X nL (pc + 3) lv (.ref (gft g) :: st) M) : Kj g X nL pc lv st M := fun H locs ls hP hS hl =>
  va_gets C.1 C.2.1 C.2.2.2.2.2.1.2.2.2.1 hS C.2.2.2.1 (C.2.2.2.2.1 _ hlink) (fun _ h => h) hd (kk H locs ls hP hS hl)
theorem kj_facld (C : Cx g X cc own nL d) {x : Int32} (hin : ¬ (x < 0 ∨ 7 ≤ x.toNatClampNeg)) (hd : decode cc pc = .ok (.iaload, 1)) (kk : Kj g X nL (pc + 1) lv (.int (facs x.toNatClampNeg) :: st) M) : Kj g X nL pc lv (.int x :: .ref (gft g) :: st) M := fun H locs ls hP hS hl =>
  va_ti C.1 C.2.1 C.2.2.2.2.2.1.2.2.2.2 hS hin rfl hd (kk H locs ls hP hS hl)
theorem kj_mmin (C : Cx g X cc own nL (d + 1)) {index : Nat} (hlink : Cond.methodLink own index Lib.Math.min.name ∈ gW) (h1 : Cond.static Lib.Math.min.name ∈ gW) (h2 : Cond.initialized "java/lang/Math" ∈ gW) (h3 : Cond.code Lib.Math.min.name Lib.Math.min.code 2 (some .int) ∈ gW) (hst : (st.map fun v => v.category).sum ≤ 8) {x y : Int32} (hd : decode cc pc = .ok (.invokestatic index, 3)) (kk : Kj g X nL (pc + 3) lv (.int (if y < x then y else x) :: st) M) : Kj g X nL pc lv (.int y :: .int x :: st) M := fun H locs ls hP hS hl => by
  obtain ⟨c1, c2, c3, c4, c5, c6, c7, c8, c9, c10, c11⟩ := C
  exact va_mmin c1 c2 (c3.trans hl.1.symm) c4 (c5 _ hlink) (c5 _ h1) (c5 _ h2) (c5 _ h3) (by omega) (by omega) c8 c9 hd (kk H locs ls hP hS hl)
theorem kj_mmax (C : Cx g X cc own nL (d + 1)) {index : Nat} (hlink : Cond.methodLink own index Lib.Math.max.name ∈ gW) (h1 : Cond.static Lib.Math.max.name ∈ gW) (h2 : Cond.initialized "java/lang/Math" ∈ gW) (h3 : Cond.code Lib.Math.max.name Lib.Math.max.code 2 (some .int) ∈ gW) (hst : (st.map fun v => v.category).sum ≤ 8) {x y : Int32} (hd : decode cc pc = .ok (.invokestatic index, 3)) (kk : Kj g X nL (pc + 3) lv (.int (if x < y then y else x) :: st) M) : Kj g X nL pc lv (.int y :: .int x :: st) M := fun H locs ls hP hS hl => by
  obtain ⟨c1, c2, c3, c4, c5, c6, c7, c8, c9, c10, c11⟩ := C
  exact va_mmax c1 c2 (c3.trans hl.1.symm) c4 (c5 _ hlink) (c5 _ h1) (c5 _ h2) (c5 _ h3) (by omega) (by omega) c8 c9 hd (kk H locs ls hP hS hl)
theorem kj_mabs (C : Cx g X cc own nL (d + 1)) {index : Nat} (hlink : Cond.methodLink own index Lib.Math.abs.name ∈ gW) (h1 : Cond.static Lib.Math.abs.name ∈ gW) (h2 : Cond.initialized "java/lang/Math" ∈ gW) (h3 : Cond.code Lib.Math.abs.name Lib.Math.abs.code 1 (some .int) ∈ gW) (hst : (st.map fun v => v.category).sum ≤ 8) {x : Int32} (hd : decode cc pc = .ok (.invokestatic index, 3)) (kk : Kj g X nL (pc + 3) lv (.int (if 0 ≤ x then x else 0 - x) :: st) M) : Kj g X nL pc lv (.int x :: st) M := fun H locs ls hP hS hl => by
  obtain ⟨c1, c2, c3, c4, c5, c6, c7, c8, c9, c10, c11⟩ := C
  exact va_mabs c1 c2 (c3.trans hl.1.symm) c4 (c5 _ hlink) (c5 _ h1) (c5 _ h2) (c5 _ h3) (by omega) (by omega) c8 c9 hd (kk H locs ls hP hS hl)
/-- System.arraycopy of a whole row of six -/
theorem kj_copy (C : Cx g X cc own nL (d + 2)) {index o i a b : Nat} (hlink : Cond.methodLink own index arraycopyName ∈ gW) (h1 : Cond.native arraycopyName ∈ gW) (h2 : Cond.static arraycopyName ∈ gW) (h3 : Cond.initialized "java/lang/System" ∈ gW) (hst : (st.map fun v => v.category).sum ≤ 8) (ho : (o, i) ∈ idx) (hi : isI o i = true) (hn : ln o i = 6) (ho2 : (a, b) ∈ idx) (hi2 : isI a b = true) (hn2 : ln a b = 6) (hd : decode cc pc = .ok (.invokestatic index, 3)) (kk : Kj g X nL (pc + 3) lv st (sr M a b (va_cpy (M.1 o i) (M.1 a b) 0 0 6))) : Kj g X nL pc lv (.int 6 :: .int 0 :: .ref (ga g a b) :: .int 0 :: .ref (ga g o i) :: st) M := fun H locs ls hP hS hl => by
  obtain ⟨c1, c2, c3, c4, c5, c6, c7, c8, c9, c10, c11⟩ := C
  obtain ⟨q0, -, he⟩ := wl_get (g := g) (M := M) ho
  obtain ⟨q1, hq1, he1⟩ := wl_get (g := g) (M := M) ho2
  rw [cel_I hi, hn] at he
  rw [cel_I hi2, hn2] at he1
  have hI := c6.2.2.1
  refine va_copyi c1 c2 (c3.trans hl.1.symm) c4 (c5 _ hlink) (c5 _ h1) (c5 _ h2) (c5 _ h3) c6.1 hP (wl_D hI) hS q0 q1 0 0 he he1 rfl rfl rfl (by decide) (by decide) (by decide) (by decide) (by decide) (fun i _ => rfl) (by omega) ?_ hd (fun H1 locs1 hP1 _ hS1 => ?_)
  · have : nativeFrameWords "java/lang/System" "arraycopy" 5 ≤ 60 := by decide +kernel
    omega
  · have e := wl_set (g := g) (M := M) (M' := sr M a b (va_cpy (M.1 o i) (M.1 a b) 0 0 6)) hq1 cel_sr
    rw [cel_I hi2, hn2, show (sr M a b (va_cpy (M.1 o i) (M.1 a b) 0 0 6)).1 a b = va_cpy (M.1 o i) (M.1 a b) 0 0 6 from if_pos ⟨rfl, rfl⟩] at e
    have e0 : (0 : Int32).toNatClampNeg = 0 := by decide
    have e6 : (6 : Int32).toNatClampNeg = 6 := by decide
    rw [e0, e6, e] at hP1
    exact kk H1 locs1 ls hP1 hS1 hl
/-! ends -/
theorem kj_iret (C : Cx g X cc own nL d) (hr : (xt X).sig.returnType = some .int) {v : Int32} (hQ : Rt g X (some (.int v)) M) (hd : decode cc pc = .ok (.ireturn, 1)) : Kj g X nL pc lv [.int v] M := fun H locs ls hP hS hl => by
  rw [hQ]
  exact W.iret C.1 C.2.1 hr (fun t ht hW => ⟨⟨rfl, by rw [ht]; exact hP, C.2.2.2.2.2.1.warm hW hS ht⟩, hS.F ht⟩) hS.2.2 hd C.2.2.2.2.2.2.1
theorem kj_zret (C : Cx g X cc own nL d) (hr : (xt X).sig.returnType = some .boolean) {v : Int32} (hv : v = 0 ∨ v = 1) (hQ : Rt g X (some (.int v)) M) (hd : decode cc pc = .ok (.ireturn, 1)) : Kj g X nL pc lv [.int v] M := fun H locs ls hP hS hl => by
  rw [hQ]
  exact W.zret C.1 C.2.1 hr (by rcases hv with rfl | rfl <;> rfl) (fun t ht hW => ⟨⟨rfl, by rw [ht]; exact hP, C.2.2.2.2.2.1.warm hW hS ht⟩, hS.F ht⟩) hS.2.2 hd C.2.2.2.2.2.2.1
theorem kj_lret (C : Cx g X cc own nL d) (hr : (xt X).sig.returnType = some .long) {v : Int64} (hQ : Rt g X (some (.long v)) M) (hd : decode cc pc = .ok (.lreturn, 1)) : Kj g X nL pc lv [.long v] M := fun H locs ls hP hS hl => by
  rw [hQ]
  exact W.lret C.1 C.2.1 hr (fun t ht hW => ⟨⟨rfl, by rw [ht]; exact hP, C.2.2.2.2.2.1.warm hW hS ht⟩, hS.F ht⟩) hS.2.2 hd C.2.2.2.2.2.2.1
theorem kj_vret (C : Cx g X cc own nL d) (hr : (xt X).sig.returnType = none) (hQ : Rt g X none M) (hd : decode cc pc = .ok (.return_, 1)) : Kj g X nL pc lv [] M := fun H locs ls hP hS hl => by
  rw [hQ]
  exact W.vret C.1 C.2.1 hr (fun t ht hW => ⟨⟨rfl, by rw [ht]; exact hP, C.2.2.2.2.2.1.warm hW hS ht⟩, hS.F ht⟩) hS.2.2 hd C.2.2.2.2.2.2.1
/-! calls -/
theorem kj_run {d' mxL : Nat} {as : List Value} {v : Option Value} {M' : Mem} {rest : List Value} {H : Heap} {locs : List Loc} {ls : Array Slot} (_ : mxL ≤ 22) (hS : va_S (gA g) (xs X).heap H locs) (hl : lh ls nL lv)
    (hr : va_Run (xp X) (xl X) (xe X) (xR X) (xs X) (xm X) (xa X) (xb X) (xt X) (xc X) H locs (xk X) (xn X) 0 0 (F0 (xm X) pc ls st) rest (Qr g v M' as.toArray) (gA g)) (kk : Kj g X nL (pc + 3) lv (v.toList ++ rest) M') : W (xp X) (xl X) (xe X) (xR X) (xs X) (xm X) (xa X) (xb X) (xt X) (xc X) H locs (xk X) (xn X) (xQ X) (F0 (xm X) pc ls st) := by
  intro T hT Y
  obtain ⟨v', st₀, t, T', L, h0, Y', hL, e1, e2, ⟨⟨hv, hPt, -⟩, hz, hk⟩, stp⟩ := hr T hT Y
  cases hv
  rw [h0] at hz hk
  rw [← e1] at hPt hz hk
  obtain ⟨t2, a1, b1⟩ := kk T'.heap (locs ++ L) ls hPt ⟨Nat.le_trans hS.1 hz, fun q h1 h2 => by rw [hk q (Nat.lt_of_lt_of_le h1 hS.1) h2]; exact hS.2.1 q h1 h2, fun q hq => by
      rcases List.mem_append.mp hq with h | h
      · exact hS.2.2 q h
      · exact hL q h⟩ hl T' rfl Y'
  exact ⟨t2, stp t2 a1, b1⟩
theorem kj_pre (C : Cx g X cc own nL d) {as : List Value} {H : Heap} {locs : List Loc} (hP : va_P g.1 vwCl (wl g M) H) (hS : va_S (gA g) (xs X).heap H locs) : PreS (xs X) H (va_Pc as (Wd g M)) as := ⟨Wd.blind, fun U hU hW => ⟨rfl, by rw [hU]; exact hP, C.2.2.2.2.2.1.warm hW hS hU⟩⟩
theorem kj_recv (C : Cx g X cc own nL d) {H : Heap} {o : Nat} {q : vw_C} (hP : va_P g.1 vwCl (wl g M) H) (ho : (o, 0) ∈ idx) (hq : vwCl[kd o]? = some q) : ∃ cellB : Cell, H[ga g o 0]? = some cellB ∧ cellB.vm.isStatics = false ∧ (xs X).vm.findClass q.1 = some cellB.cls := by
  obtain ⟨q0, -, he⟩ := wl_get (g := g) (M := M) ho
  exact va_recv C.2.2.2.2.2.1.1 hP hq he
theorem kj_cb (C : Cx g X cc own nL (d + 1)) {d' index mxL n : Nat} {y : MethodName} {bytes : ByteArray} {ret : Option FieldType} (hd : d' ≤ d) (mi : Mi y bytes mxL ret n) (hl : Cond.methodLink own index y ∈ gW) : CallB (xR X) (xs X) (xa X) own index y bytes mxL ret (.code y bytes mxL ret :: gW) (rmD d') 0 0 n := by
  obtain ⟨c1, c2, c3, c4, c5, c6, c7, c8, c9, c10, c11⟩ := C
  obtain ⟨m1, m2, m3, m4⟩ := mi
  exact callB_of n c5 (gW_GoodIn' m1) rfl rfl rfl (c5 _ m2) (c5 _ hl) m3 ⟨by simp only [rmD]; omega, by simp only [rmD]; omega⟩
theorem kj_cn (C : Cx g X cc own nL (d + 1)) {d' index mxL n : Nat} {y : MethodName} {host : String} {bytes : ByteArray} {ret : Option FieldType} (hd : d' ≤ d) (mi : Mi y bytes mxL ret n) (hl : Cond.methodLinkNest own index y host ∈ nW) : va_CN (xR X) (xs X) (xa X) own index y host bytes mxL ret (.code y bytes mxL ret :: gW) (rmD d') 0 0 n := by
  obtain ⟨c1, c2, c3, c4, c5, c6, c7, c8, c9, c10, c11⟩ := C
  obtain ⟨m1, m2, m3, m4⟩ := mi
  exact va_cnB n c5 (gW_GoodIn' m1) rfl rfl rfl (c6.2.1 _ hl) (c5 _ m2) m3 ⟨by simp only [rmD]; omega, by simp only [rmD]; omega⟩
theorem kj_callV (C : Cx g X cc own nL (d + 1)) {d' index mxL n o : Nat} {y : MethodName} {bytes : ByteArray} {ret : Option FieldType} {As rest : List Value} {v : Option Value} {M' : Mem} {q : vw_C} (hM : Ct g (xl X) d' y bytes mxL ret (.ref (ga g o 0) :: As) M v M') (hdd : d' ≤ d) (mi : Mv y bytes mxL ret n) (hlk : Cond.methodLink own index y ∈ gW) (ho : (o, 0) ∈ idx) (hq : vwCl[kd o]? = some q) (hq1 : q.1 = y.cls) (hn : As.length = n) (hst : st = As.reverse ++ .ref (ga g o 0) :: rest) (hcat : (rest.map fun v => v.category).sum ≤ 8) (hd : decode cc pc = .ok (.invokevirtual index, 3)) (kk : Kj g X nL (pc + 3) lv (v.toList ++ rest) M') : Kj g X nL pc lv st M := fun H locs ls hP hS hl => by
  have hre := kj_recv (q := q) C hP ho hq
  rw [hq1] at hre
  exact kj_run (as := .ref (ga g o 0) :: As) (d' := d') mi.1.2.2.2 hS hl (va_runV ⟨C.1, C.2.1, C.2.2.1, C.2.2.2.1, C.2.2.2.2.1⟩ hM ⟨kj_cb C hdd mi.1 hlk, C.2.2.2.2.1 _ mi.2.1, C.2.2.2.2.1 _ mi.2.2⟩ ⟨Wd.blind, hre, (kj_pre C hP hS).2⟩ rfl hn hl.1 hst (lv_room hcat) hd ⟨C.2.2.2.2.2.2.2.1, C.2.2.2.2.2.2.2.2.1⟩) kk
theorem kj_callVN (C : Cx g X cc own nL (d + 1)) {d' index mxL n o : Nat} {y : MethodName} {host : String} {bytes : ByteArray} {ret : Option FieldType} {As rest : List Value} {v : Option Value} {M' : Mem} {q : vw_C} (hM : Ct g (xl X) d' y bytes mxL ret (.ref (ga g o 0) :: As) M v M') (hdd : d' ≤ d) (mi : Mv y bytes mxL ret n) (hlk : Cond.methodLinkNest own index y host ∈ nW) (ho : (o, 0) ∈ idx) (hq : vwCl[kd o]? = some q) (hq1 : q.1 = y.cls) (hn : As.length = n) (hst : st = As.reverse ++ .ref (ga g o 0) :: rest) (hcat : (rest.map fun v => v.category).sum ≤ 8) (hd : decode cc pc = .ok (.invokevirtual index, 3)) (kk : Kj g X nL (pc + 3) lv (v.toList ++ rest) M') : Kj g X nL pc lv st M := fun H locs ls hP hS hl => by
  have hre := kj_recv (q := q) C hP ho hq
  rw [hq1] at hre
  exact kj_run (as := .ref (ga g o 0) :: As) (d' := d') mi.1.2.2.2 hS hl (va_runVN ⟨C.1, C.2.1, C.2.2.1, C.2.2.2.1, C.2.2.2.2.1⟩ hM ⟨kj_cn C hdd mi.1 hlk, C.2.2.2.2.1 _ mi.2.1, C.2.2.2.2.1 _ mi.2.2⟩ ⟨Wd.blind, hre, (kj_pre C hP hS).2⟩ rfl hn hl.1 hst (lv_room hcat) hd ⟨C.2.2.2.2.2.2.2.1, C.2.2.2.2.2.2.2.2.1⟩) kk
theorem kj_callS (C : Cx g X cc own nL (d + 1)) {d' index mxL n : Nat} {y : MethodName} {bytes : ByteArray} {ret : Option FieldType} {As rest : List Value} {v : Option Value} {M' : Mem} (hM : Ct g (xl X) d' y bytes mxL ret As M v M') (hdd : d' ≤ d) (mi : Ms y bytes mxL ret n) (hlk : Cond.methodLink own index y ∈ gW) (hn : As.length = n) (hst : st = As.reverse ++ rest) (hcat : (rest.map fun v => v.category).sum ≤ 8) (hd : decode cc pc = .ok (.invokestatic index, 3)) (kk : Kj g X nL (pc + 3) lv (v.toList ++ rest) M') : Kj g X nL pc lv st M := fun H locs ls hP hS hl =>
  kj_run (as := As) (d' := d') mi.1.2.2.2 hS hl (va_runS ⟨C.1, C.2.1, C.2.2.1, C.2.2.2.1, C.2.2.2.2.1⟩ hM ⟨kj_cb C hdd mi.1 hlk, C.2.2.2.2.1 _ mi.2⟩ (kj_pre C hP hS) rfl hn hl.1 hst (lv_room hcat) hd ⟨C.2.2.2.2.2.2.2.1, C.2.2.2.2.2.2.2.2.1⟩) kk
theorem kj_callSN (C : Cx g X cc own nL (d + 1)) {d' index mxL n : Nat} {y : MethodName} {host : String} {bytes : ByteArray} {ret : Option FieldType} {As rest : List Value} {v : Option Value} {M' : Mem} (hM : Ct g (xl X) d' y bytes mxL ret As M v M') (hdd : d' ≤ d) (mi : Ms y bytes mxL ret n) (hlk : Cond.methodLinkNest own index y host ∈ nW) (hn : As.length = n) (hst : st = As.reverse ++ rest) (hcat : (rest.map fun v => v.category).sum ≤ 8) (hd : decode cc pc = .ok (.invokestatic index, 3)) (kk : Kj g X nL (pc + 3) lv (v.toList ++ rest) M') : Kj g X nL pc lv st M := fun H locs ls hP hS hl =>
  kj_run (as := As) (d' := d') mi.1.2.2.2 hS hl (va_runSN ⟨C.1, C.2.1, C.2.2.1, C.2.2.2.1, C.2.2.2.2.1⟩ hM ⟨kj_cn C hdd mi.1 hlk, C.2.2.2.2.1 _ mi.2, trivial⟩ (kj_pre C hP hS) rfl hn hl.1 hst (lv_room hcat) hd ⟨C.2.2.2.2.2.2.2.1, C.2.2.2.2.2.2.2.2.1⟩) kk
end KJ
/-- a contract out of a walk -/
theorem ct_of {g : GT} {l : Launch} {d k maxL : Nat} {y : MethodName} {cc : ByteArray} {ret : Option FieldType} {as : List Value} {lv : List (Option Value)} {M : Mem} {v : Option Value} {M' : Mem} (hy : plainName y.cls = true) (hlen : (lg_sl as).length ≤ maxL) (hlv : ea as ++ List.replicate k none = lv)
    (h : ∀ X : XT, Cx g X cc y.cls maxL d → xl X = l → (xt X).sig.returnType = ret → Rt g X v M' → Kj g X maxL 0 lv [] M) : Ct g l d y cc maxL ret as M v M' := by
  refine Met.ofW (cc := cc) (maxL := maxL) (ret := ret) hy rfl ?_
  intro p e s m args below meth c s₁ B hml hv
  obtain ⟨rfl, hP, hK⟩ := hv
  have hts := atoms_spec (ws := .code y cc maxL ret :: gW) B.pre
  have hown : s.vm.findClass y.cls = some m.cls := findClass_of_methodNamed B.named
  have hl := lv_entry as (n := maxL) hlen
  rw [lg_entry_eq]
  exact h (p, l, e, rmD d, s, m, as.toArray, below, meth, c, 0, 0, MQ below (Qr g v M') as.toArray s 0 0 (gA g)) ⟨B.exec, B.bytes, hml, hown, fun w hw => hts w (List.mem_cons_of_mem _ hw), hK, B.notSynchronized, Nat.zero_le _, Nat.zero_le _, Nat.le_refl d, Nat.le_refl (41 * d)⟩ rfl B.returns rfl s.heap [] _ hP va_S.rf (lh_entry hl hlv)
/-! small words of the generated functions -/
def lt_ {α β : Type} (a : α) (f : α → β) : β := f a
theorem of_lt {α β : Type} {a : α} {f : α → β} {t : β} (h : lt_ a f = t) : ∃ x : α, x = a ∧ f x = t := ⟨a, rfl, h⟩
theorem of_pos {β : Type} {c : Prop} [Decidable c] {a b : β} {t : β} (hc : c) (h : (if c then a else b) = t) : a = t := by rw [if_pos hc] at h; exact h
theorem of_neg {β : Type} {c : Prop} [Decidable c] {a b : β} {t : β} (hc : ¬ c) (h : (if c then a else b) = t) : b = t := by rw [if_neg hc] at h; exact h
theorem of_npos {β : Type} {c : Prop} [Decidable c] {a b : β} {t : β} (hc : c) (h : (if ¬ c then a else b) = t) : b = t := by rw [if_neg (fun q => q hc)] at h; exact h
theorem of_nneg {β : Type} {c : Prop} [Decidable c] {a b : β} {t : β} (hc : ¬ c) (h : (if ¬ c then a else b) = t) : a = t := by rw [if_pos hc] at h; exact h
theorem of_gd {β : Type} {c : Prop} [Decidable c] {a : Option β} {t : β} (h : (if c then a else none) = some t) : c ∧ a = some t := by
  by_cases hc : c
  · rw [if_pos hc] at h; exact ⟨hc, h⟩
  · rw [if_neg hc] at h; cases h
theorem of_bind {α β : Type} {a : Option α} {f : α → Option β} {t : β} (h : a.bind f = some t) : ∃ x : α, a = some x ∧ f x = some t := by
  cases a with
  | none => cases h
  | some x => exact ⟨x, rfl, h⟩
theorem ar0 {b : Value} {r : List Value} : b :: r = ([] : List Value).reverse ++ b :: r := rfl
theorem ar1 {a b : Value} {r : List Value} : a :: b :: r = [a].reverse ++ b :: r := rfl
theorem ar2 {a1 a2 b : Value} {r : List Value} : a2 :: a1 :: b :: r = [a1, a2].reverse ++ b :: r := rfl
theorem ar3 {a1 a2 a3 b : Value} {r : List Value} : a3 :: a2 :: a1 :: b :: r = [a1, a2, a3].reverse ++ b :: r := rfl
theorem ar4 {a1 a2 a3 a4 b : Value} {r : List Value} : a4 :: a3 :: a2 :: a1 :: b :: r = [a1, a2, a3, a4].reverse ++ b :: r := rfl
theorem ar5 {a1 a2 a3 a4 a5 b : Value} {r : List Value} : a5 :: a4 :: a3 :: a2 :: a1 :: b :: r = [a1, a2, a3, a4, a5].reverse ++ b :: r := rfl
theorem as0 {r : List Value} : r = ([] : List Value).reverse ++ r := rfl
theorem as1 {a1 : Value} {r : List Value} : a1 :: r = [a1].reverse ++ r := rfl
theorem as2 {a1 a2 : Value} {r : List Value} : a2 :: a1 :: r = [a1, a2].reverse ++ r := rfl
theorem as3 {a1 a2 a3 : Value} {r : List Value} : a3 :: a2 :: a1 :: r = [a1, a2, a3].reverse ++ r := rfl
end
section
theorem gw_mk {i : Nat} {w : Cond} (h : lw_tbl[i]? = some w) (hg : goodWord w = true) : w ∈ gW := List.mem_filter.mpr ⟨List.mem_of_getElem? h, hg⟩
theorem nw_mk {i : Nat} {w : Cond} (h : lw_tbl[i]? = some w) (hg : isN w = true) : w ∈ nW := List.mem_filter.mpr ⟨List.mem_of_getElem? h, hg⟩
theorem ci_m1 : Int32.ofInt (-1) = (-1) := by decide
theorem ci_0 : Int32.ofInt (0) = 0 := by decide
theorem ci_1 : Int32.ofInt (1) = 1 := by decide
theorem ci_2 : Int32.ofInt (2) = 2 := by decide
theorem ci_3 : Int32.ofInt (3) = 3 := by decide
theorem ci_4 : Int32.ofInt (4) = 4 := by decide
theorem ci_5 : Int32.ofInt (5) = 5 := by decide
theorem cb_m9 : (Int8.ofInt (-9)).toInt32 = (-9) := by decide
theorem cb_m4 : (Int8.ofInt (-4)).toInt32 = (-4) := by decide
theorem cb_m3 : (Int8.ofInt (-3)).toInt32 = (-3) := by decide
theorem cb_m2 : (Int8.ofInt (-2)).toInt32 = (-2) := by decide
theorem cb_6 : (Int8.ofInt (6)).toInt32 = 6 := by decide
theorem cb_7 : (Int8.ofInt (7)).toInt32 = 7 := by decide
theorem cb_8 : (Int8.ofInt (8)).toInt32 = 8 := by decide
theorem cb_9 : (Int8.ofInt (9)).toInt32 = 9 := by decide
theorem cb_10 : (Int8.ofInt (10)).toInt32 = 10 := by decide
theorem cb_11 : (Int8.ofInt (11)).toInt32 = 11 := by decide
theorem cb_12 : (Int8.ofInt (12)).toInt32 = 12 := by decide
theorem cb_13 : (Int8.ofInt (13)).toInt32 = 13 := by decide
theorem cb_14 : (Int8.ofInt (14)).toInt32 = 14 := by decide
theorem cb_15 : (Int8.ofInt (15)).toInt32 = 15 := by decide
theorem cb_16 : (Int8.ofInt (16)).toInt32 = 16 := by decide
theorem cb_17 : (Int8.ofInt (17)).toInt32 = 17 := by decide
theorem cb_18 : (Int8.ofInt (18)).toInt32 = 18 := by decide
theorem cb_19 : (Int8.ofInt (19)).toInt32 = 19 := by decide
theorem cb_20 : (Int8.ofInt (20)).toInt32 = 20 := by decide
theorem cb_26 : (Int8.ofInt (26)).toInt32 = 26 := by decide
theorem cb_30 : (Int8.ofInt (30)).toInt32 = 30 := by decide
theorem cb_32 : (Int8.ofInt (32)).toInt32 = 32 := by decide
theorem cb_33 : (Int8.ofInt (33)).toInt32 = 33 := by decide
theorem cb_36 : (Int8.ofInt (36)).toInt32 = 36 := by decide
theorem cb_38 : (Int8.ofInt (38)).toInt32 = 38 := by decide
theorem cb_48 : (Int8.ofInt (48)).toInt32 = 48 := by decide
theorem cb_60 : (Int8.ofInt (60)).toInt32 = 60 := by decide
theorem cb_63 : (Int8.ofInt (63)).toInt32 = 63 := by decide
theorem cb_64 : (Int8.ofInt (64)).toInt32 = 64 := by decide
theorem cb_67 : (Int8.ofInt (67)).toInt32 = 67 := by decide
theorem cb_83 : (Int8.ofInt (83)).toInt32 = 83 := by decide
theorem cb_99 : (Int8.ofInt (99)).toInt32 = 99 := by decide
theorem cb_100 : (Int8.ofInt (100)).toInt32 = 100 := by decide
theorem cs_255 : (Int16.ofInt (255)).toInt32 = 255 := by decide
theorem cs_1023 : (Int16.ofInt (1023)).toInt32 = 1023 := by decide
theorem cl_0 : Int64.ofNat ((0 : Fin 2) : Nat) = 0 := by decide
theorem cl_1 : Int64.ofNat ((1 : Fin 2) : Nat) = 1 := by decide
theorem h18_0 : 0 < 18 := by decide
theorem h18_1 : 1 < 18 := by decide
theorem cn_J6_265 : Cond.constant RJ6 265 1431655765 ∈ gW := gw_mk (i := 484) (by decide +kernel) rfl
theorem cn_J6_266 : Cond.constant RJ6 266 858993459 ∈ gW := gw_mk (i := 485) (by decide +kernel) rfl
theorem cn_J6_267 : Cond.constant RJ6 267 252645135 ∈ gW := gw_mk (i := 486) (by decide +kernel) rfl
theorem cn_X10_57 : Cond.constantLong RX10 57 255 ∈ gW := gw_mk (i := 853) (by decide +kernel) rfl
theorem cn_X10_72 : Cond.constantLong RX10 72 9 ∈ gW := gw_mk (i := 877) (by decide +kernel) rfl
theorem cn_X10_102 : Cond.constantLong RX10 102 (-3) ∈ gW := gw_mk (i := 897) (by decide +kernel) rfl
theorem cn_X10_104 : Cond.constantLong RX10 104 3 ∈ gW := gw_mk (i := 898) (by decide +kernel) rfl
theorem cn_X10_123 : Cond.constantLong RX10 123 7 ∈ gW := gw_mk (i := 911) (by decide +kernel) rfl
theorem cn_X10_153 : Cond.constantLong RX10 153 60 ∈ gW := gw_mk (i := 975) (by decide +kernel) rfl
theorem cn_X10_175 : Cond.constantLong RX10 175 1000 ∈ gW := gw_mk (i := 1028) (by decide +kernel) rfl
theorem cn_X10_177 : Cond.constantLong RX10 177 4 ∈ gW := gw_mk (i := 1024) (by decide +kernel) rfl
theorem cn_X10_209 : Cond.constantLong RX10 209 10 ∈ gW := gw_mk (i := 1079) (by decide +kernel) rfl
theorem cn_X10_218 : Cond.constantLong RX10 218 30 ∈ gW := gw_mk (i := 1091) (by decide +kernel) rfl
theorem cn_X10_220 : Cond.constantLong RX10 220 6364136223846793005 ∈ gW := gw_mk (i := 1092) (by decide +kernel) rfl
theorem cn_X10_222 : Cond.constantLong RX10 222 1442695040888963407 ∈ gW := gw_mk (i := 1093) (by decide +kernel) rfl
theorem cn_X10_224 : Cond.constantLong RX10 224 28 ∈ gW := gw_mk (i := 1094) (by decide +kernel) rfl
theorem cn_X2_71 : Cond.constantLong RX2 71 1000 ∈ gW := gw_mk (i := 596) (by decide +kernel) rfl
theorem cn_X8_26 : Cond.constantLong RX8 26 6364136223846793005 ∈ gW := gw_mk (i := 717) (by decide +kernel) rfl
theorem cn_X8_28 : Cond.constantLong RX8 28 1442695040888963407 ∈ gW := gw_mk (i := 718) (by decide +kernel) rfl
theorem cn_X8_30 : Cond.constantLong RX8 30 28 ∈ gW := gw_mk (i := 719) (by decide +kernel) rfl
theorem cn_X9_249 : Cond.constantLong RX9 249 1000 ∈ gW := gw_mk (i := 590) (by decide +kernel) rfl
set_option maxRecDepth 20000 in
theorem ing_X0 : ∀ w ∈ u_ws RX0 TX0 3, w ∈ gW := fun w h => List.mem_filter.mpr ⟨inX0 w h, List.all_eq_true.mp (by decide +kernel : (u_ws RX0 TX0 3).all goodWord = true) w h⟩
set_option maxRecDepth 20000 in
theorem ing_X1 : ∀ w ∈ u_ws RX1 TX1 6, w ∈ gW := fun w h => List.mem_filter.mpr ⟨inX1 w h, List.all_eq_true.mp (by decide +kernel : (u_ws RX1 TX1 6).all goodWord = true) w h⟩
set_option maxRecDepth 20000 in
theorem ing_X2 : ∀ w ∈ u_ws RX2 TX2 4, w ∈ gW := fun w h => List.mem_filter.mpr ⟨inX2 w h, List.all_eq_true.mp (by decide +kernel : (u_ws RX2 TX2 4).all goodWord = true) w h⟩
set_option maxRecDepth 20000 in
theorem ing_X3 : ∀ w ∈ u_ws RX3 TX3 4, w ∈ gW := fun w h => List.mem_filter.mpr ⟨inX3 w h, List.all_eq_true.mp (by decide +kernel : (u_ws RX3 TX3 4).all goodWord = true) w h⟩
set_option maxRecDepth 20000 in
theorem ing_X4 : ∀ w ∈ u_ws RX4 TX4 4, w ∈ gW := fun w h => List.mem_filter.mpr ⟨inX4 w h, List.all_eq_true.mp (by decide +kernel : (u_ws RX4 TX4 4).all goodWord = true) w h⟩
set_option maxRecDepth 20000 in
theorem ing_X5 : ∀ w ∈ u_ws RX5 TX5 2, w ∈ gW := fun w h => List.mem_filter.mpr ⟨inX5 w h, List.all_eq_true.mp (by decide +kernel : (u_ws RX5 TX5 2).all goodWord = true) w h⟩
set_option maxRecDepth 20000 in
theorem ing_X6 : ∀ w ∈ u_ws RX6 TX6 2, w ∈ gW := fun w h => List.mem_filter.mpr ⟨inX6 w h, List.all_eq_true.mp (by decide +kernel : (u_ws RX6 TX6 2).all goodWord = true) w h⟩
set_option maxRecDepth 20000 in
theorem ing_X7 : ∀ w ∈ u_ws RX7 TX7 8, w ∈ gW := fun w h => List.mem_filter.mpr ⟨inX7 w h, List.all_eq_true.mp (by decide +kernel : (u_ws RX7 TX7 8).all goodWord = true) w h⟩
set_option maxRecDepth 20000 in
theorem ing_X8 : ∀ w ∈ u_ws RX8 TX8 3, w ∈ gW := fun w h => List.mem_filter.mpr ⟨inX8 w h, List.all_eq_true.mp (by decide +kernel : (u_ws RX8 TX8 3).all goodWord = true) w h⟩
set_option maxRecDepth 20000 in
theorem ing_X9 : ∀ w ∈ u_ws RX9 TX9 10, w ∈ gW := fun w h => List.mem_filter.mpr ⟨inX9 w h, List.all_eq_true.mp (by decide +kernel : (u_ws RX9 TX9 10).all goodWord = true) w h⟩
set_option maxRecDepth 20000 in
theorem ing_X10 : ∀ w ∈ u_ws RX10 TX10 25, w ∈ gW := fun w h => List.mem_filter.mpr ⟨inX10 w h, List.all_eq_true.mp (by decide +kernel : (u_ws RX10 TX10 25).all goodWord = true) w h⟩
theorem flds_st {g : GT} {M : Mem} {o : Nat} (h : o < 18) : flds g M o = [.ref (ga g 19 0), .ref (ga g o 1), .ref (ga g o 2), .ref (ga g o 3), .ref (ga g o 4), .int (M.1 o 0 5), .int (M.1 o 0 6), .int (M.1 o 0 7)] := if_pos h
theorem kd_st {o : Nat} (h : o < 18) : kd o = 7 := if_pos h
theorem rc_st {o : Nat} (h : o < 18) : (o, 0) ∈ idx ∧ vwCl[kd o]? = some (RX7, TX7, 8) := ⟨idx_st o h 0 (by decide), by rw [kd_st h]; rfl⟩
theorem rc_18 : (18, 0) ∈ idx ∧ vwCl[kd 18]? = some (RX5, TX5, 2) := ⟨by decide +kernel, rfl⟩
theorem rc_19 : (19, 0) ∈ idx ∧ vwCl[kd 19]? = some (RX4, TX4, 4) := ⟨by decide +kernel, rfl⟩
theorem rc_20 : (20, 0) ∈ idx ∧ vwCl[kd 20]? = some (RX9, TX9, 10) := ⟨by decide +kernel, rfl⟩
theorem rc_21 : (21, 0) ∈ idx ∧ vwCl[kd 21]? = some (RX0, TX0, 3) := ⟨by decide +kernel, rfl⟩
theorem rc_22 : (22, 0) ∈ idx ∧ vwCl[kd 22]? = some (RX6, TX6, 2) := ⟨by decide +kernel, rfl⟩
theorem rc_23 : (23, 0) ∈ idx ∧ vwCl[kd 23]? = some (RX3, TX3, 4) := ⟨by decide +kernel, rfl⟩
theorem rc_24 : (24, 0) ∈ idx ∧ vwCl[kd 24]? = some (RX2, TX2, 4) := ⟨by decide +kernel, rfl⟩
theorem rc_25 : (25, 0) ∈ idx ∧ vwCl[kd 25]? = some (RX1, TX1, 6) := ⟨by decide +kernel, rfl⟩
theorem rc_26 : (26, 0) ∈ idx ∧ vwCl[kd 26]? = some (RX8, TX8, 3) := ⟨by decide +kernel, rfl⟩
theorem rc_27 : (27, 0) ∈ idx ∧ vwCl[kd 27]? = some (RX10, TX10, 25) := ⟨by decide +kernel, rfl⟩
abbrev IA (o i n : Nat) : Prop := (o, i) ∈ idx ∧ isI o i = true ∧ ln o i = n
theorem ia_st {o i : Nat} (h : o < 18) (hi : 0 < i ∧ i < 5) : IA o i 6 := by
  refine ⟨idx_st o h i hi.2, ?_, if_pos h⟩
  have h1 : ¬ o = 21 := by omega
  have h2 : ¬ o = 22 := by omega
  have h3 : ¬ o = 27 := by omega
  have h4 : ¬ i = 0 := by omega
  simp [isI, h1, h2, h3, h4]
theorem ia_18_1 : IA 18 1 48 := by decide +kernel
theorem ia_19_1 : IA 19 1 6 := by decide +kernel
theorem ia_19_2 : IA 19 2 6 := by decide +kernel
theorem ia_19_3 : IA 19 3 6 := by decide +kernel
theorem ia_23_1 : IA 23 1 6 := by decide +kernel
theorem ia_23_2 : IA 23 2 6 := by decide +kernel
theorem ia_23_3 : IA 23 3 6 := by decide +kernel
theorem ia_24_1 : IA 24 1 61 := by decide +kernel
theorem ia_25_1 : IA 25 1 64 := by decide +kernel
theorem ia_25_2 : IA 25 2 36 := by decide +kernel
theorem ia_25_3 : IA 25 3 36 := by decide +kernel
theorem ia_27_4 : IA 27 4 40 := by decide +kernel
theorem ia_27_5 : IA 27 5 30 := by decide +kernel
theorem ia_27_6 : IA 27 6 48 := by decide +kernel
theorem ia_27_8 : IA 27 8 280 := by decide +kernel
theorem ia_27_9 : IA 27 9 61 := by decide +kernel
theorem ia_27_14 : IA 27 14 40 := by decide +kernel
theorem ia_27_1 : IA 27 1 6 := by decide +kernel
theorem ia_27_2 : IA 27 2 6 := by decide +kernel
theorem ia_27_3 : IA 27 3 6 := by decide +kernel
theorem ia_27_7 : IA 27 7 6 := by decide +kernel
theorem ia_27_10 : IA 27 10 6 := by decide +kernel
theorem ia_27_11 : IA 27 11 6 := by decide +kernel
theorem ia_27_12 : IA 27 12 6 := by decide +kernel
theorem sd_14 {x : Int32} (h : ¬ (x < 0 ∨ 14 ≤ x.toNatClampNeg)) : 2 + x.toNatClampNeg < 18 := by
  have : ¬ 14 ≤ x.toNatClampNeg := fun q => h (Or.inr q)
  omega
theorem sd_2 {x : Int32} (h : ¬ (x < 0 ∨ 2 ≤ x.toNatClampNeg)) : 16 + x.toNatClampNeg < 18 := by
  have : ¬ 2 ≤ x.toNatClampNeg := fun q => h (Or.inr q)
  omega
theorem sw_same {M : Mem} {o i k : Nat} {x : Int32} : (sw M o i k x).1 o i = upd (M.1 o i) k x := if_pos ⟨rfl, rfl⟩
theorem sr_same {M : Mem} {o i : Nat} {f : Nat → Int32} : (sr M o i f).1 o i = f := if_pos ⟨rfl, rfl⟩
theorem sw_2 {M : Mem} {o i k : Nat} {x : Int32} : (sw M o i k x).2 = M.2 := rfl
section KT
variable {g : GT} {X : XT} {cc : ByteArray} {own : String} {nL d pc : Nat} {lv : List (Option Value)} {st : List Value} {M : Mem}
theorem kj_ni2 {x e : Int32} {v : Value} (hx : x = e) (kk : Kj g X nL pc lv (v :: .int x :: st) M) : Kj g X nL pc lv (v :: .int e :: st) M := by subst hx; exact kk
theorem kj_iald2 (C : Cx g X cc own nL d) {o i n : Nat} {x : Int32} (ia : IA o i n) (hin : ¬ (x < 0 ∨ n ≤ x.toNatClampNeg)) (hd : decode cc pc = .ok (.iaload, 1)) (kk : Kj g X nL (pc + 1) lv (.int (M.1 o i x.toNatClampNeg) :: st) M) : Kj g X nL pc lv (.int x :: .ref (ga g o i) :: st) M := kj_iald C ia.1 ia.2.1 ia.2.2 hin hd kk
theorem kj_alen2 (C : Cx g X cc own nL d) {o i n : Nat} {v : Int32} (ia : IA o i n) (hv : Int32.ofNat n = v) (hd : decode cc pc = .ok (.arraylength, 1)) (kk : Kj g X nL (pc + 1) lv (.int v :: st) M) : Kj g X nL pc lv (.ref (ga g o i) :: st) M := kj_alen C ia.1 ia.2.1 ia.2.2 hv hd kk
theorem kj_iast2 (C : Cx g X cc own nL d) {o i n : Nat} {x y : Int32} (ia : IA o i n) (hin : ¬ (x < 0 ∨ n ≤ x.toNatClampNeg)) (hd : decode cc pc = .ok (.iastore, 1)) (kk : Kj g X nL (pc + 1) lv st (sw M o i x.toNatClampNeg y)) : Kj g X nL pc lv (.int y :: .int x :: .ref (ga g o i) :: st) M := kj_iast C ia.1 ia.2.1 ia.2.2 hin hd kk
theorem kj_faclen (C : Cx g X cc own nL d) (hd : decode cc pc = .ok (.arraylength, 1)) (kk : Kj g X nL (pc + 1) lv (.int 7 :: st) M) : Kj g X nL pc lv (.ref (gft g) :: st) M := fun H locs ls hP hS hl =>
  va_tlen C.1 C.2.1 C.2.2.2.2.2.1.2.2.2.2 hS (v := 7) rfl hd (kk H locs ls hP hS hl)
theorem jm_min : Cond.static Lib.Math.min.name ∈ gW ∧ Cond.initialized "java/lang/Math" ∈ gW ∧ Cond.code Lib.Math.min.name Lib.Math.min.code 2 (some .int) ∈ gW := ⟨gw_mk (i := 384) (by decide +kernel) rfl, gw_mk (i := 95) (by decide +kernel) rfl, gw_mk (i := 385) (by decide +kernel) rfl⟩
theorem jm_max : Cond.static Lib.Math.max.name ∈ gW ∧ Cond.initialized "java/lang/Math" ∈ gW ∧ Cond.code Lib.Math.max.name Lib.Math.max.code 2 (some .int) ∈ gW := ⟨gw_mk (i := 467) (by decide +kernel) rfl, gw_mk (i := 95) (by decide +kernel) rfl, gw_mk (i := 468) (by decide +kernel) rfl⟩
theorem jm_abs : Cond.static Lib.Math.abs.name ∈ gW ∧ Cond.initialized "java/lang/Math" ∈ gW ∧ Cond.code Lib.Math.abs.name Lib.Math.abs.code 1 (some .int) ∈ gW := ⟨gw_mk (i := 667) (by decide +kernel) rfl, gw_mk (i := 95) (by decide +kernel) rfl, gw_mk (i := 668) (by decide +kernel) rfl⟩
theorem jm_cpy : Cond.native arraycopyName ∈ gW ∧ Cond.static arraycopyName ∈ gW ∧ Cond.initialized "java/lang/System" ∈ gW := ⟨gw_mk (i := 396) (by decide +kernel) rfl, gw_mk (i := 395) (by decide +kernel) rfl, gw_mk (i := 96) (by decide +kernel) rfl⟩
theorem kj_mmin2 (C : Cx g X cc own nL (d + 1)) {index : Nat} (hlink : Cond.methodLink own index Lib.Math.min.name ∈ gW) (hst : (st.map fun v => v.category).sum ≤ 8) {x y : Int32} (hd : decode cc pc = .ok (.invokestatic index, 3)) (kk : Kj g X nL (pc + 3) lv (.int (if y < x then y else x) :: st) M) : Kj g X nL pc lv (.int y :: .int x :: st) M := kj_mmin C hlink jm_min.1 jm_min.2.1 jm_min.2.2 hst hd kk
theorem kj_mmax2 (C : Cx g X cc own nL (d + 1)) {index : Nat} (hlink : Cond.methodLink own index Lib.Math.max.name ∈ gW) (hst : (st.map fun v => v.category).sum ≤ 8) {x y : Int32} (hd : decode cc pc = .ok (.invokestatic index, 3)) (kk : Kj g X nL (pc + 3) lv (.int (if x < y then y else x) :: st) M) : Kj g X nL pc lv (.int y :: .int x :: st) M := kj_mmax C hlink jm_max.1 jm_max.2.1 jm_max.2.2 hst hd kk
theorem kj_mabs2 (C : Cx g X cc own nL (d + 1)) {index : Nat} (hlink : Cond.methodLink own index Lib.Math.abs.name ∈ gW) (hst : (st.map fun v => v.category).sum ≤ 8) {x : Int32} (hd : decode cc pc = .ok (.invokestatic index, 3)) (kk : Kj g X nL (pc + 3) lv (.int (if 0 ≤ x then x else 0 - x) :: st) M) : Kj g X nL pc lv (.int x :: st) M := kj_mabs C hlink jm_abs.1 jm_abs.2.1 jm_abs.2.2 hst hd kk
theorem kj_copy2 (C : Cx g X cc own nL (d + 2)) {index o i a b : Nat} (hlink : Cond.methodLink own index arraycopyName ∈ gW) (ia : IA o i 6) (ib : IA a b 6) (hst : (st.map fun v => v.category).sum ≤ 8) (hd : decode cc pc = .ok (.invokestatic index, 3)) (kk : Kj g X nL (pc + 3) lv st (sr M a b (va_cpy (M.1 o i) (M.1 a b) 0 0 6))) : Kj g X nL pc lv (.int 6 :: .int 0 :: .ref (ga g a b) :: .int 0 :: .ref (ga g o i) :: st) M := kj_copy C hlink jm_cpy.1 jm_cpy.2.1 jm_cpy.2.2 hst ia.1 ia.2.1 ia.2.2 ib.1 ib.2.1 ib.2.2 hd kk
theorem kj_callV1 (C : Cx g X cc own nL (d + 1)) {d' index mxL n o : Nat} {y : MethodName} {bytes : ByteArray} {ret : Option FieldType} {As rest : List Value} {w : Value} {M' : Mem} {q : vw_C} (hM : Ct g (xl X) d' y bytes mxL ret (.ref (ga g o 0) :: As) M (some w) M') (hdd : d' ≤ d) (mi : Mv y bytes mxL ret n) (hlk : Cond.methodLink own index y ∈ gW) (rc : (o, 0) ∈ idx ∧ vwCl[kd o]? = some q) (hq1 : q.1 = y.cls) (hn : As.length = n) (hst : st = As.reverse ++ .ref (ga g o 0) :: rest) (hcat : (rest.map fun v => v.category).sum ≤ 8) (hd : decode cc pc = .ok (.invokevirtual index, 3)) (kk : Kj g X nL (pc + 3) lv (w :: rest) M') : Kj g X nL pc lv st M := kj_callV C hM hdd mi hlk rc.1 rc.2 hq1 hn hst hcat hd kk
theorem kj_callV0 (C : Cx g X cc own nL (d + 1)) {d' index mxL n o : Nat} {y : MethodName} {bytes : ByteArray} {ret : Option FieldType} {As rest : List Value} {M' : Mem} {q : vw_C} (hM : Ct g (xl X) d' y bytes mxL ret (.ref (ga g o 0) :: As) M (none) M') (hdd : d' ≤ d) (mi : Mv y bytes mxL ret n) (hlk : Cond.methodLink own index y ∈ gW) (rc : (o, 0) ∈ idx ∧ vwCl[kd o]? = some q) (hq1 : q.1 = y.cls) (hn : As.length = n) (hst : st = As.reverse ++ .ref (ga g o 0) :: rest) (hcat : (rest.map fun v => v.category).sum ≤ 8) (hd : decode cc pc = .ok (.invokevirtual index, 3)) (kk : Kj g X nL (pc + 3) lv (rest) M') : Kj g X nL pc lv st M := kj_callV C hM hdd mi hlk rc.1 rc.2 hq1 hn hst hcat hd kk
theorem kj_callVN1 (C : Cx g X cc own nL (d + 1)) {d' index mxL n o : Nat} {y : MethodName} {host : String} {bytes : ByteArray} {ret : Option FieldType} {As rest : List Value} {w : Value} {M' : Mem} {q : vw_C} (hM : Ct g (xl X) d' y bytes mxL ret (.ref (ga g o 0) :: As) M (some w) M') (hdd : d' ≤ d) (mi : Mv y bytes mxL ret n) (hlk : Cond.methodLinkNest own index y host ∈ nW) (rc : (o, 0) ∈ idx ∧ vwCl[kd o]? = some q) (hq1 : q.1 = y.cls) (hn : As.length = n) (hst : st = As.reverse ++ .ref (ga g o 0) :: rest) (hcat : (rest.map fun v => v.category).sum ≤ 8) (hd : decode cc pc = .ok (.invokevirtual index, 3)) (kk : Kj g X nL (pc + 3) lv (w :: rest) M') : Kj g X nL pc lv st M := kj_callVN C hM hdd mi hlk rc.1 rc.2 hq1 hn hst hcat hd kk
theorem kj_callVN0 (C : Cx g X cc own nL (d + 1)) {d' index mxL n o : Nat} {y : MethodName} {host : String} {bytes : ByteArray} {ret : Option FieldType} {As rest : List Value} {M' : Mem} {q : vw_C} (hM : Ct g (xl X) d' y bytes mxL ret (.ref (ga g o 0) :: As) M (none) M') (hdd : d' ≤ d) (mi : Mv y bytes mxL ret n) (hlk : Cond.methodLinkNest own index y host ∈ nW) (rc : (o, 0) ∈ idx ∧ vwCl[kd o]? = some q) (hq1 : q.1 = y.cls) (hn : As.length = n) (hst : st = As.reverse ++ .ref (ga g o 0) :: rest) (hcat : (rest.map fun v => v.category).sum ≤ 8) (hd : decode cc pc = .ok (.invokevirtual index, 3)) (kk : Kj g X nL (pc + 3) lv (rest) M') : Kj g X nL pc lv st M := kj_callVN C hM hdd mi hlk rc.1 rc.2 hq1 hn hst hcat hd kk
theorem kj_callS1 (C : Cx g X cc own nL (d + 1)) {d' index mxL n : Nat} {y : MethodName} {bytes : ByteArray} {ret : Option FieldType} {As rest : List Value} {w : Value} {M' : Mem} (hM : Ct g (xl X) d' y bytes mxL ret As M (some w) M') (hdd : d' ≤ d) (mi : Ms y bytes mxL ret n) (hlk : Cond.methodLink own index y ∈ gW) (hn : As.length = n) (hst : st = As.reverse ++ rest) (hcat : (rest.map fun v => v.category).sum ≤ 8) (hd : decode cc pc = .ok (.invokestatic index, 3)) (kk : Kj g X nL (pc + 3) lv (w :: rest) M') : Kj g X nL pc lv st M := kj_callS C hM hdd mi hlk hn hst hcat hd kk
theorem kj_callS0 (C : Cx g X cc own nL (d + 1)) {d' index mxL n : Nat} {y : MethodName} {bytes : ByteArray} {ret : Option FieldType} {As rest : List Value} {M' : Mem} (hM : Ct g (xl X) d' y bytes mxL ret As M (none) M') (hdd : d' ≤ d) (mi : Ms y bytes mxL ret n) (hlk : Cond.methodLink own index y ∈ gW) (hn : As.length = n) (hst : st = As.reverse ++ rest) (hcat : (rest.map fun v => v.category).sum ≤ 8) (hd : decode cc pc = .ok (.invokestatic index, 3)) (kk : Kj g X nL (pc + 3) lv (rest) M') : Kj g X nL pc lv st M := kj_callS C hM hdd mi hlk hn hst hcat hd kk
theorem kj_callSN1 (C : Cx g X cc own nL (d + 1)) {d' index mxL n : Nat} {y : MethodName} {host : String} {bytes : ByteArray} {ret : Option FieldType} {As rest : List Value} {w : Value} {M' : Mem} (hM : Ct g (xl X) d' y bytes mxL ret As M (some w) M') (hdd : d' ≤ d) (mi : Ms y bytes mxL ret n) (hlk : Cond.methodLinkNest own index y host ∈ nW) (hn : As.length = n) (hst : st = As.reverse ++ rest) (hcat : (rest.map fun v => v.category).sum ≤ 8) (hd : decode cc pc = .ok (.invokestatic index, 3)) (kk : Kj g X nL (pc + 3) lv (w :: rest) M') : Kj g X nL pc lv st M := kj_callSN C hM hdd mi hlk hn hst hcat hd kk
theorem kj_callSN0 (C : Cx g X cc own nL (d + 1)) {d' index mxL n : Nat} {y : MethodName} {host : String} {bytes : ByteArray} {ret : Option FieldType} {As rest : List Value} {M' : Mem} (hM : Ct g (xl X) d' y bytes mxL ret As M (none) M') (hdd : d' ≤ d) (mi : Ms y bytes mxL ret n) (hlk : Cond.methodLinkNest own index y host ∈ nW) (hn : As.length = n) (hst : st = As.reverse ++ rest) (hcat : (rest.map fun v => v.category).sum ≤ 8) (hd : decode cc pc = .ok (.invokestatic index, 3)) (kk : Kj g X nL (pc + 3) lv (rest) M') : Kj g X nL pc lv st M := kj_callSN C hM hdd mi hlk hn hst hcat hd kk
theorem sn_1 {b1 : Option Value} {r : List (Option Value)} {j : Nat} {v : Value} (hj : (none :: r)[j]? = some (some v)) : (b1 :: r)[j]? = some (some v) := by
  match j, hj with
  | 0, hj => cases hj
  | j + 1, hj => exact hj
theorem sn_2 {a0 b1 : Option Value} {r : List (Option Value)} {j : Nat} {v : Value} (hj : (a0 :: none :: r)[j]? = some (some v)) : (a0 :: b1 :: r)[j]? = some (some v) := by
  match j, hj with
  | 0, hj => exact hj
  | 1, hj => cases hj
  | j + 2, hj => exact hj
theorem sn_3 {a0 a1 b1 : Option Value} {r : List (Option Value)} {j : Nat} {v : Value} (hj : (a0 :: a1 :: none :: r)[j]? = some (some v)) : (a0 :: a1 :: b1 :: r)[j]? = some (some v) := by
  match j, hj with
  | 0, hj => exact hj
  | 1, hj => exact hj
  | 2, hj => cases hj
  | j + 3, hj => exact hj
theorem sn_4 {a0 a1 a2 b1 : Option Value} {r : List (Option Value)} {j : Nat} {v : Value} (hj : (a0 :: a1 :: a2 :: none :: r)[j]? = some (some v)) : (a0 :: a1 :: a2 :: b1 :: r)[j]? = some (some v) := by
  match j, hj with
  | 0, hj => exact hj
  | 1, hj => exact hj
  | 2, hj => exact hj
  | 3, hj => cases hj
  | j + 4, hj => exact hj
theorem sn_5 {a0 a1 a2 a3 b1 : Option Value} {r : List (Option Value)} {j : Nat} {v : Value} (hj : (a0 :: a1 :: a2 :: a3 :: none :: r)[j]? = some (some v)) : (a0 :: a1 :: a2 :: a3 :: b1 :: r)[j]? = some (some v) := by
  match j, hj with
  | 0, hj => exact hj
  | 1, hj => exact hj
  | 2, hj => exact hj
  | 3, hj => exact hj
  | 4, hj => cases hj
  | j + 5, hj => exact hj
theorem sn_6 {a0 a1 a2 a3 a4 b1 : Option Value} {r : List (Option Value)} {j : Nat} {v : Value} (hj : (a0 :: a1 :: a2 :: a3 :: a4 :: none :: r)[j]? = some (some v)) : (a0 :: a1 :: a2 :: a3 :: a4 :: b1 :: r)[j]? = some (some v) := by
  match j, hj with
  | 0, hj => exact hj
  | 1, hj => exact hj
  | 2, hj => exact hj
  | 3, hj => exact hj
  | 4, hj => exact hj
  | 5, hj => cases hj
  | j + 6, hj => exact hj
theorem sn_7 {a0 a1 a2 a3 a4 a5 b1 : Option Value} {r : List (Option Value)} {j : Nat} {v : Value} (hj : (a0 :: a1 :: a2 :: a3 :: a4 :: a5 :: none :: r)[j]? = some (some v)) : (a0 :: a1 :: a2 :: a3 :: a4 :: a5 :: b1 :: r)[j]? = some (some v) := by
  match j, hj with
  | 0, hj => exact hj
  | 1, hj => exact hj
  | 2, hj => exact hj
  | 3, hj => exact hj
  | 4, hj => exact hj
  | 5, hj => exact hj
  | 6, hj => cases hj
  | j + 7, hj => exact hj
theorem sn_8 {a0 a1 a2 a3 a4 a5 a6 b1 : Option Value} {r : List (Option Value)} {j : Nat} {v : Value} (hj : (a0 :: a1 :: a2 :: a3 :: a4 :: a5 :: a6 :: none :: r)[j]? = some (some v)) : (a0 :: a1 :: a2 :: a3 :: a4 :: a5 :: a6 :: b1 :: r)[j]? = some (some v) := by
  match j, hj with
  | 0, hj => exact hj
  | 1, hj => exact hj
  | 2, hj => exact hj
  | 3, hj => exact hj
  | 4, hj => exact hj
  | 5, hj => exact hj
  | 6, hj => exact hj
  | 7, hj => cases hj
  | j + 8, hj => exact hj
theorem sn_9 {a0 a1 a2 a3 a4 a5 a6 a7 b1 : Option Value} {r : List (Option Value)} {j : Nat} {v : Value} (hj : (a0 :: a1 :: a2 :: a3 :: a4 :: a5 :: a6 :: a7 :: none :: r)[j]? = some (some v)) : (a0 :: a1 :: a2 :: a3 :: a4 :: a5 :: a6 :: a7 :: b1 :: r)[j]? = some (some v) := by
  match j, hj with
  | 0, hj => exact hj
  | 1, hj => exact hj
  | 2, hj => exact hj
  | 3, hj => exact hj
  | 4, hj => exact hj
  | 5, hj => exact hj
  | 6, hj => exact hj
  | 7, hj => exact hj
  | 8, hj => cases hj
  | j + 9, hj => exact hj
theorem sn_10 {a0 a1 a2 a3 a4 a5 a6 a7 a8 b1 : Option Value} {r : List (Option Value)} {j : Nat} {v : Value} (hj : (a0 :: a1 :: a2 :: a3 :: a4 :: a5 :: a6 :: a7 :: a8 :: none :: r)[j]? = some (some v)) : (a0 :: a1 :: a2 :: a3 :: a4 :: a5 :: a6 :: a7 :: a8 :: b1 :: r)[j]? = some (some v) := by
  match j, hj with
  | 0, hj => exact hj
  | 1, hj => exact hj
  | 2, hj => exact hj
  | 3, hj => exact hj
  | 4, hj => exact hj
  | 5, hj => exact hj
  | 6, hj => exact hj
  | 7, hj => exact hj
  | 8, hj => exact hj
  | 9, hj => cases hj
  | j + 10, hj => exact hj
theorem sn_11 {a0 a1 a2 a3 a4 a5 a6 a7 a8 a9 b1 : Option Value} {r : List (Option Value)} {j : Nat} {v : Value} (hj : (a0 :: a1 :: a2 :: a3 :: a4 :: a5 :: a6 :: a7 :: a8 :: a9 :: none :: r)[j]? = some (some v)) : (a0 :: a1 :: a2 :: a3 :: a4 :: a5 :: a6 :: a7 :: a8 :: a9 :: b1 :: r)[j]? = some (some v) := by
  match j, hj with
  | 0, hj => exact hj
  | 1, hj => exact hj
  | 2, hj => exact hj
  | 3, hj => exact hj
  | 4, hj => exact hj
  | 5, hj => exact hj
  | 6, hj => exact hj
  | 7, hj => exact hj
  | 8, hj => exact hj
  | 9, hj => exact hj
  | 10, hj => cases hj
  | j + 11, hj => exact hj
theorem sn_12 {a0 a1 a2 a3 a4 a5 a6 a7 a8 a9 a10 b1 : Option Value} {r : List (Option Value)} {j : Nat} {v : Value} (hj : (a0 :: a1 :: a2 :: a3 :: a4 :: a5 :: a6 :: a7 :: a8 :: a9 :: a10 :: none :: r)[j]? = some (some v)) : (a0 :: a1 :: a2 :: a3 :: a4 :: a5 :: a6 :: a7 :: a8 :: a9 :: a10 :: b1 :: r)[j]? = some (some v) := by
  match j, hj with
  | 0, hj => exact hj
  | 1, hj => exact hj
  | 2, hj => exact hj
  | 3, hj => exact hj
  | 4, hj => exact hj
  | 5, hj => exact hj
  | 6, hj => exact hj
  | 7, hj => exact hj
  | 8, hj => exact hj
  | 9, hj => exact hj
  | 10, hj => exact hj
  | 11, hj => cases hj
  | j + 12, hj => exact hj
theorem sn_13 {a0 a1 a2 a3 a4 a5 a6 a7 a8 a9 a10 a11 b1 : Option Value} {r : List (Option Value)} {j : Nat} {v : Value} (hj : (a0 :: a1 :: a2 :: a3 :: a4 :: a5 :: a6 :: a7 :: a8 :: a9 :: a10 :: a11 :: none :: r)[j]? = some (some v)) : (a0 :: a1 :: a2 :: a3 :: a4 :: a5 :: a6 :: a7 :: a8 :: a9 :: a10 :: a11 :: b1 :: r)[j]? = some (some v) := by
  match j, hj with
  | 0, hj => exact hj
  | 1, hj => exact hj
  | 2, hj => exact hj
  | 3, hj => exact hj
  | 4, hj => exact hj
  | 5, hj => exact hj
  | 6, hj => exact hj
  | 7, hj => exact hj
  | 8, hj => exact hj
  | 9, hj => exact hj
  | 10, hj => exact hj
  | 11, hj => exact hj
  | 12, hj => cases hj
  | j + 13, hj => exact hj
theorem sn_14 {a0 a1 a2 a3 a4 a5 a6 a7 a8 a9 a10 a11 a12 b1 : Option Value} {r : List (Option Value)} {j : Nat} {v : Value} (hj : (a0 :: a1 :: a2 :: a3 :: a4 :: a5 :: a6 :: a7 :: a8 :: a9 :: a10 :: a11 :: a12 :: none :: r)[j]? = some (some v)) : (a0 :: a1 :: a2 :: a3 :: a4 :: a5 :: a6 :: a7 :: a8 :: a9 :: a10 :: a11 :: a12 :: b1 :: r)[j]? = some (some v) := by
  match j, hj with
  | 0, hj => exact hj
  | 1, hj => exact hj
  | 2, hj => exact hj
  | 3, hj => exact hj
  | 4, hj => exact hj
  | 5, hj => exact hj
  | 6, hj => exact hj
  | 7, hj => exact hj
  | 8, hj => exact hj
  | 9, hj => exact hj
  | 10, hj => exact hj
  | 11, hj => exact hj
  | 12, hj => exact hj
  | 13, hj => cases hj
  | j + 14, hj => exact hj
theorem kj_ist1w (C : Cx g X cc own nL d) {b1 b0 : Option Value} {r : List (Option Value)} {x : Int32} (hd : decode cc pc = .ok (.istore_n 1, 1)) (hn : 1 < nL) (kk : Kj g X nL (pc + 1) (none :: some (.int x) :: r) st M) : Kj g X nL pc (b1 :: b0 :: r) (.int x :: st) M := by
  refine kj_lv (lv' := none :: b0 :: r) (fun j v hj => ?_) (kj_ist1 C hd hn rfl kk)
  exact sn_1 hj
theorem kj_ast1w (C : Cx g X cc own nL d) {b1 b0 : Option Value} {r : List (Option Value)} {x : Nat} (hd : decode cc pc = .ok (.astore_n 1, 1)) (hn : 1 < nL) (kk : Kj g X nL (pc + 1) (none :: some (.ref x) :: r) st M) : Kj g X nL pc (b1 :: b0 :: r) (.ref x :: st) M := by
  refine kj_lv (lv' := none :: b0 :: r) (fun j v hj => ?_) (kj_ast1 C hd hn rfl kk)
  exact sn_1 hj
theorem kj_ist2w (C : Cx g X cc own nL d) {a0 b1 b0 : Option Value} {r : List (Option Value)} {x : Int32} (hd : decode cc pc = .ok (.istore_n 2, 1)) (hn : 2 < nL) (kk : Kj g X nL (pc + 1) (a0 :: none :: some (.int x) :: r) st M) : Kj g X nL pc (a0 :: b1 :: b0 :: r) (.int x :: st) M := by
  refine kj_lv (lv' := a0 :: none :: b0 :: r) (fun j v hj => ?_) (kj_ist2 C hd hn rfl kk)
  exact sn_2 hj
theorem kj_ast2w (C : Cx g X cc own nL d) {a0 b1 b0 : Option Value} {r : List (Option Value)} {x : Nat} (hd : decode cc pc = .ok (.astore_n 2, 1)) (hn : 2 < nL) (kk : Kj g X nL (pc + 1) (a0 :: none :: some (.ref x) :: r) st M) : Kj g X nL pc (a0 :: b1 :: b0 :: r) (.ref x :: st) M := by
  refine kj_lv (lv' := a0 :: none :: b0 :: r) (fun j v hj => ?_) (kj_ast2 C hd hn rfl kk)
  exact sn_2 hj
theorem kj_ist3w (C : Cx g X cc own nL d) {a0 a1 b1 b0 : Option Value} {r : List (Option Value)} {x : Int32} (hd : decode cc pc = .ok (.istore_n 3, 1)) (hn : 3 < nL) (kk : Kj g X nL (pc + 1) (a0 :: a1 :: none :: some (.int x) :: r) st M) : Kj g X nL pc (a0 :: a1 :: b1 :: b0 :: r) (.int x :: st) M := by
  refine kj_lv (lv' := a0 :: a1 :: none :: b0 :: r) (fun j v hj => ?_) (kj_ist3 C hd hn rfl kk)
  exact sn_3 hj
theorem kj_ast3w (C : Cx g X cc own nL d) {a0 a1 b1 b0 : Option Value} {r : List (Option Value)} {x : Nat} (hd : decode cc pc = .ok (.astore_n 3, 1)) (hn : 3 < nL) (kk : Kj g X nL (pc + 1) (a0 :: a1 :: none :: some (.ref x) :: r) st M) : Kj g X nL pc (a0 :: a1 :: b1 :: b0 :: r) (.ref x :: st) M := by
  refine kj_lv (lv' := a0 :: a1 :: none :: b0 :: r) (fun j v hj => ?_) (kj_ast3 C hd hn rfl kk)
  exact sn_3 hj
theorem kj_ist4w (C : Cx g X cc own nL d) {a0 a1 a2 b1 b0 : Option Value} {r : List (Option Value)} {x : Int32} (hd : decode cc pc = .ok (.istore 4, 2)) (hn : 4 < nL) (kk : Kj g X nL (pc + 2) (a0 :: a1 :: a2 :: none :: some (.int x) :: r) st M) : Kj g X nL pc (a0 :: a1 :: a2 :: b1 :: b0 :: r) (.int x :: st) M := by
  refine kj_lv (lv' := a0 :: a1 :: a2 :: none :: b0 :: r) (fun j v hj => ?_) (kj_ist4 C hd hn rfl kk)
  exact sn_4 hj
theorem kj_ast4w (C : Cx g X cc own nL d) {a0 a1 a2 b1 b0 : Option Value} {r : List (Option Value)} {x : Nat} (hd : decode cc pc = .ok (.astore 4, 2)) (hn : 4 < nL) (kk : Kj g X nL (pc + 2) (a0 :: a1 :: a2 :: none :: some (.ref x) :: r) st M) : Kj g X nL pc (a0 :: a1 :: a2 :: b1 :: b0 :: r) (.ref x :: st) M := by
  refine kj_lv (lv' := a0 :: a1 :: a2 :: none :: b0 :: r) (fun j v hj => ?_) (kj_ast4 C hd hn rfl kk)
  exact sn_4 hj
theorem kj_ist5w (C : Cx g X cc own nL d) {a0 a1 a2 a3 b1 b0 : Option Value} {r : List (Option Value)} {x : Int32} (hd : decode cc pc = .ok (.istore 5, 2)) (hn : 5 < nL) (kk : Kj g X nL (pc + 2) (a0 :: a1 :: a2 :: a3 :: none :: some (.int x) :: r) st M) : Kj g X nL pc (a0 :: a1 :: a2 :: a3 :: b1 :: b0 :: r) (.int x :: st) M := by
  refine kj_lv (lv' := a0 :: a1 :: a2 :: a3 :: none :: b0 :: r) (fun j v hj => ?_) (kj_ist5 C hd hn rfl kk)
  exact sn_5 hj
theorem kj_ast5w (C : Cx g X cc own nL d) {a0 a1 a2 a3 b1 b0 : Option Value} {r : List (Option Value)} {x : Nat} (hd : decode cc pc = .ok (.astore 5, 2)) (hn : 5 < nL) (kk : Kj g X nL (pc + 2) (a0 :: a1 :: a2 :: a3 :: none :: some (.ref x) :: r) st M) : Kj g X nL pc (a0 :: a1 :: a2 :: a3 :: b1 :: b0 :: r) (.ref x :: st) M := by
  refine kj_lv (lv' := a0 :: a1 :: a2 :: a3 :: none :: b0 :: r) (fun j v hj => ?_) (kj_ast5 C hd hn rfl kk)
  exact sn_5 hj
theorem kj_ist6w (C : Cx g X cc own nL d) {a0 a1 a2 a3 a4 b1 b0 : Option Value} {r : List (Option Value)} {x : Int32} (hd : decode cc pc = .ok (.istore 6, 2)) (hn : 6 < nL) (kk : Kj g X nL (pc + 2) (a0 :: a1 :: a2 :: a3 :: a4 :: none :: some (.int x) :: r) st M) : Kj g X nL pc (a0 :: a1 :: a2 :: a3 :: a4 :: b1 :: b0 :: r) (.int x :: st) M := by
  refine kj_lv (lv' := a0 :: a1 :: a2 :: a3 :: a4 :: none :: b0 :: r) (fun j v hj => ?_) (kj_ist6 C hd hn rfl kk)
  exact sn_6 hj
theorem kj_ast6w (C : Cx g X cc own nL d) {a0 a1 a2 a3 a4 b1 b0 : Option Value} {r : List (Option Value)} {x : Nat} (hd : decode cc pc = .ok (.astore 6, 2)) (hn : 6 < nL) (kk : Kj g X nL (pc + 2) (a0 :: a1 :: a2 :: a3 :: a4 :: none :: some (.ref x) :: r) st M) : Kj g X nL pc (a0 :: a1 :: a2 :: a3 :: a4 :: b1 :: b0 :: r) (.ref x :: st) M := by
  refine kj_lv (lv' := a0 :: a1 :: a2 :: a3 :: a4 :: none :: b0 :: r) (fun j v hj => ?_) (kj_ast6 C hd hn rfl kk)
  exact sn_6 hj
theorem kj_ist7w (C : Cx g X cc own nL d) {a0 a1 a2 a3 a4 a5 b1 b0 : Option Value} {r : List (Option Value)} {x : Int32} (hd : decode cc pc = .ok (.istore 7, 2)) (hn : 7 < nL) (kk : Kj g X nL (pc + 2) (a0 :: a1 :: a2 :: a3 :: a4 :: a5 :: none :: some (.int x) :: r) st M) : Kj g X nL pc (a0 :: a1 :: a2 :: a3 :: a4 :: a5 :: b1 :: b0 :: r) (.int x :: st) M := by
  refine kj_lv (lv' := a0 :: a1 :: a2 :: a3 :: a4 :: a5 :: none :: b0 :: r) (fun j v hj => ?_) (kj_ist7 C hd hn rfl kk)
  exact sn_7 hj
theorem kj_ast7w (C : Cx g X cc own nL d) {a0 a1 a2 a3 a4 a5 b1 b0 : Option Value} {r : List (Option Value)} {x : Nat} (hd : decode cc pc = .ok (.astore 7, 2)) (hn : 7 < nL) (kk : Kj g X nL (pc + 2) (a0 :: a1 :: a2 :: a3 :: a4 :: a5 :: none :: some (.ref x) :: r) st M) : Kj g X nL pc (a0 :: a1 :: a2 :: a3 :: a4 :: a5 :: b1 :: b0 :: r) (.ref x :: st) M := by
  refine kj_lv (lv' := a0 :: a1 :: a2 :: a3 :: a4 :: a5 :: none :: b0 :: r) (fun j v hj => ?_) (kj_ast7 C hd hn rfl kk)
  exact sn_7 hj
theorem kj_ist8w (C : Cx g X cc own nL d) {a0 a1 a2 a3 a4 a5 a6 b1 b0 : Option Value} {r : List (Option Value)} {x : Int32} (hd : decode cc pc = .ok (.istore 8, 2)) (hn : 8 < nL) (kk : Kj g X nL (pc + 2) (a0 :: a1 :: a2 :: a3 :: a4 :: a5 :: a6 :: none :: some (.int x) :: r) st M) : Kj g X nL pc (a0 :: a1 :: a2 :: a3 :: a4 :: a5 :: a6 :: b1 :: b0 :: r) (.int x :: st) M := by
  refine kj_lv (lv' := a0 :: a1 :: a2 :: a3 :: a4 :: a5 :: a6 :: none :: b0 :: r) (fun j v hj => ?_) (kj_ist8 C hd hn rfl kk)
  exact sn_8 hj
theorem kj_ast8w (C : Cx g X cc own nL d) {a0 a1 a2 a3 a4 a5 a6 b1 b0 : Option Value} {r : List (Option Value)} {x : Nat} (hd : decode cc pc = .ok (.astore 8, 2)) (hn : 8 < nL) (kk : Kj g X nL (pc + 2) (a0 :: a1 :: a2 :: a3 :: a4 :: a5 :: a6 :: none :: some (.ref x) :: r) st M) : Kj g X nL pc (a0 :: a1 :: a2 :: a3 :: a4 :: a5 :: a6 :: b1 :: b0 :: r) (.ref x :: st) M := by
  refine kj_lv (lv' := a0 :: a1 :: a2 :: a3 :: a4 :: a5 :: a6 :: none :: b0 :: r) (fun j v hj => ?_) (kj_ast8 C hd hn rfl kk)
  exact sn_8 hj
theorem kj_ist9w (C : Cx g X cc own nL d) {a0 a1 a2 a3 a4 a5 a6 a7 b1 b0 : Option Value} {r : List (Option Value)} {x : Int32} (hd : decode cc pc = .ok (.istore 9, 2)) (hn : 9 < nL) (kk : Kj g X nL (pc + 2) (a0 :: a1 :: a2 :: a3 :: a4 :: a5 :: a6 :: a7 :: none :: some (.int x) :: r) st M) : Kj g X nL pc (a0 :: a1 :: a2 :: a3 :: a4 :: a5 :: a6 :: a7 :: b1 :: b0 :: r) (.int x :: st) M := by
  refine kj_lv (lv' := a0 :: a1 :: a2 :: a3 :: a4 :: a5 :: a6 :: a7 :: none :: b0 :: r) (fun j v hj => ?_) (kj_ist9 C hd hn rfl kk)
  exact sn_9 hj
theorem kj_ast9w (C : Cx g X cc own nL d) {a0 a1 a2 a3 a4 a5 a6 a7 b1 b0 : Option Value} {r : List (Option Value)} {x : Nat} (hd : decode cc pc = .ok (.astore 9, 2)) (hn : 9 < nL) (kk : Kj g X nL (pc + 2) (a0 :: a1 :: a2 :: a3 :: a4 :: a5 :: a6 :: a7 :: none :: some (.ref x) :: r) st M) : Kj g X nL pc (a0 :: a1 :: a2 :: a3 :: a4 :: a5 :: a6 :: a7 :: b1 :: b0 :: r) (.ref x :: st) M := by
  refine kj_lv (lv' := a0 :: a1 :: a2 :: a3 :: a4 :: a5 :: a6 :: a7 :: none :: b0 :: r) (fun j v hj => ?_) (kj_ast9 C hd hn rfl kk)
  exact sn_9 hj
theorem kj_ist10w (C : Cx g X cc own nL d) {a0 a1 a2 a3 a4 a5 a6 a7 a8 b1 b0 : Option Value} {r : List (Option Value)} {x : Int32} (hd : decode cc pc = .ok (.istore 10, 2)) (hn : 10 < nL) (kk : Kj g X nL (pc + 2) (a0 :: a1 :: a2 :: a3 :: a4 :: a5 :: a6 :: a7 :: a8 :: none :: some (.int x) :: r) st M) : Kj g X nL pc (a0 :: a1 :: a2 :: a3 :: a4 :: a5 :: a6 :: a7 :: a8 :: b1 :: b0 :: r) (.int x :: st) M := by
  refine kj_lv (lv' := a0 :: a1 :: a2 :: a3 :: a4 :: a5 :: a6 :: a7 :: a8 :: none :: b0 :: r) (fun j v hj => ?_) (kj_ist10 C hd hn rfl kk)
  exact sn_10 hj
theorem kj_ast10w (C : Cx g X cc own nL d) {a0 a1 a2 a3 a4 a5 a6 a7 a8 b1 b0 : Option Value} {r : List (Option Value)} {x : Nat} (hd : decode cc pc = .ok (.astore 10, 2)) (hn : 10 < nL) (kk : Kj g X nL (pc + 2) (a0 :: a1 :: a2 :: a3 :: a4 :: a5 :: a6 :: a7 :: a8 :: none :: some (.ref x) :: r) st M) : Kj g X nL pc (a0 :: a1 :: a2 :: a3 :: a4 :: a5 :: a6 :: a7 :: a8 :: b1 :: b0 :: r) (.ref x :: st) M := by
  refine kj_lv (lv' := a0 :: a1 :: a2 :: a3 :: a4 :: a5 :: a6 :: a7 :: a8 :: none :: b0 :: r) (fun j v hj => ?_) (kj_ast10 C hd hn rfl kk)
  exact sn_10 hj
theorem kj_ist11w (C : Cx g X cc own nL d) {a0 a1 a2 a3 a4 a5 a6 a7 a8 a9 b1 b0 : Option Value} {r : List (Option Value)} {x : Int32} (hd : decode cc pc = .ok (.istore 11, 2)) (hn : 11 < nL) (kk : Kj g X nL (pc + 2) (a0 :: a1 :: a2 :: a3 :: a4 :: a5 :: a6 :: a7 :: a8 :: a9 :: none :: some (.int x) :: r) st M) : Kj g X nL pc (a0 :: a1 :: a2 :: a3 :: a4 :: a5 :: a6 :: a7 :: a8 :: a9 :: b1 :: b0 :: r) (.int x :: st) M := by
  refine kj_lv (lv' := a0 :: a1 :: a2 :: a3 :: a4 :: a5 :: a6 :: a7 :: a8 :: a9 :: none :: b0 :: r) (fun j v hj => ?_) (kj_ist11 C hd hn rfl kk)
  exact sn_11 hj
theorem kj_ast11w (C : Cx g X cc own nL d) {a0 a1 a2 a3 a4 a5 a6 a7 a8 a9 b1 b0 : Option Value} {r : List (Option Value)} {x : Nat} (hd : decode cc pc = .ok (.astore 11, 2)) (hn : 11 < nL) (kk : Kj g X nL (pc + 2) (a0 :: a1 :: a2 :: a3 :: a4 :: a5 :: a6 :: a7 :: a8 :: a9 :: none :: some (.ref x) :: r) st M) : Kj g X nL pc (a0 :: a1 :: a2 :: a3 :: a4 :: a5 :: a6 :: a7 :: a8 :: a9 :: b1 :: b0 :: r) (.ref x :: st) M := by
  refine kj_lv (lv' := a0 :: a1 :: a2 :: a3 :: a4 :: a5 :: a6 :: a7 :: a8 :: a9 :: none :: b0 :: r) (fun j v hj => ?_) (kj_ast11 C hd hn rfl kk)
  exact sn_11 hj
theorem kj_ist12w (C : Cx g X cc own nL d) {a0 a1 a2 a3 a4 a5 a6 a7 a8 a9 a10 b1 b0 : Option Value} {r : List (Option Value)} {x : Int32} (hd : decode cc pc = .ok (.istore 12, 2)) (hn : 12 < nL) (kk : Kj g X nL (pc + 2) (a0 :: a1 :: a2 :: a3 :: a4 :: a5 :: a6 :: a7 :: a8 :: a9 :: a10 :: none :: some (.int x) :: r) st M) : Kj g X nL pc (a0 :: a1 :: a2 :: a3 :: a4 :: a5 :: a6 :: a7 :: a8 :: a9 :: a10 :: b1 :: b0 :: r) (.int x :: st) M := by
  refine kj_lv (lv' := a0 :: a1 :: a2 :: a3 :: a4 :: a5 :: a6 :: a7 :: a8 :: a9 :: a10 :: none :: b0 :: r) (fun j v hj => ?_) (kj_ist12 C hd hn rfl kk)
  exact sn_12 hj
theorem kj_ast12w (C : Cx g X cc own nL d) {a0 a1 a2 a3 a4 a5 a6 a7 a8 a9 a10 b1 b0 : Option Value} {r : List (Option Value)} {x : Nat} (hd : decode cc pc = .ok (.astore 12, 2)) (hn : 12 < nL) (kk : Kj g X nL (pc + 2) (a0 :: a1 :: a2 :: a3 :: a4 :: a5 :: a6 :: a7 :: a8 :: a9 :: a10 :: none :: some (.ref x) :: r) st M) : Kj g X nL pc (a0 :: a1 :: a2 :: a3 :: a4 :: a5 :: a6 :: a7 :: a8 :: a9 :: a10 :: b1 :: b0 :: r) (.ref x :: st) M := by
  refine kj_lv (lv' := a0 :: a1 :: a2 :: a3 :: a4 :: a5 :: a6 :: a7 :: a8 :: a9 :: a10 :: none :: b0 :: r) (fun j v hj => ?_) (kj_ast12 C hd hn rfl kk)
  exact sn_12 hj
theorem kj_ist13w (C : Cx g X cc own nL d) {a0 a1 a2 a3 a4 a5 a6 a7 a8 a9 a10 a11 b1 b0 : Option Value} {r : List (Option Value)} {x : Int32} (hd : decode cc pc = .ok (.istore 13, 2)) (hn : 13 < nL) (kk : Kj g X nL (pc + 2) (a0 :: a1 :: a2 :: a3 :: a4 :: a5 :: a6 :: a7 :: a8 :: a9 :: a10 :: a11 :: none :: some (.int x) :: r) st M) : Kj g X nL pc (a0 :: a1 :: a2 :: a3 :: a4 :: a5 :: a6 :: a7 :: a8 :: a9 :: a10 :: a11 :: b1 :: b0 :: r) (.int x :: st) M := by
  refine kj_lv (lv' := a0 :: a1 :: a2 :: a3 :: a4 :: a5 :: a6 :: a7 :: a8 :: a9 :: a10 :: a11 :: none :: b0 :: r) (fun j v hj => ?_) (kj_ist13 C hd hn rfl kk)
  exact sn_13 hj
theorem kj_ast13w (C : Cx g X cc own nL d) {a0 a1 a2 a3 a4 a5 a6 a7 a8 a9 a10 a11 b1 b0 : Option Value} {r : List (Option Value)} {x : Nat} (hd : decode cc pc = .ok (.astore 13, 2)) (hn : 13 < nL) (kk : Kj g X nL (pc + 2) (a0 :: a1 :: a2 :: a3 :: a4 :: a5 :: a6 :: a7 :: a8 :: a9 :: a10 :: a11 :: none :: some (.ref x) :: r) st M) : Kj g X nL pc (a0 :: a1 :: a2 :: a3 :: a4 :: a5 :: a6 :: a7 :: a8 :: a9 :: a10 :: a11 :: b1 :: b0 :: r) (.ref x :: st) M := by
  refine kj_lv (lv' := a0 :: a1 :: a2 :: a3 :: a4 :: a5 :: a6 :: a7 :: a8 :: a9 :: a10 :: a11 :: none :: b0 :: r) (fun j v hj => ?_) (kj_ast13 C hd hn rfl kk)
  exact sn_13 hj
theorem kj_ist14w (C : Cx g X cc own nL d) {a0 a1 a2 a3 a4 a5 a6 a7 a8 a9 a10 a11 a12 b1 b0 : Option Value} {r : List (Option Value)} {x : Int32} (hd : decode cc pc = .ok (.istore 14, 2)) (hn : 14 < nL) (kk : Kj g X nL (pc + 2) (a0 :: a1 :: a2 :: a3 :: a4 :: a5 :: a6 :: a7 :: a8 :: a9 :: a10 :: a11 :: a12 :: none :: some (.int x) :: r) st M) : Kj g X nL pc (a0 :: a1 :: a2 :: a3 :: a4 :: a5 :: a6 :: a7 :: a8 :: a9 :: a10 :: a11 :: a12 :: b1 :: b0 :: r) (.int x :: st) M := by
  refine kj_lv (lv' := a0 :: a1 :: a2 :: a3 :: a4 :: a5 :: a6 :: a7 :: a8 :: a9 :: a10 :: a11 :: a12 :: none :: b0 :: r) (fun j v hj => ?_) (kj_ist14 C hd hn rfl kk)
  exact sn_14 hj
theorem kj_ast14w (C : Cx g X cc own nL d) {a0 a1 a2 a3 a4 a5 a6 a7 a8 a9 a10 a11 a12 b1 b0 : Option Value} {r : List (Option Value)} {x : Nat} (hd : decode cc pc = .ok (.astore 14, 2)) (hn : 14 < nL) (kk : Kj g X nL (pc + 2) (a0 :: a1 :: a2 :: a3 :: a4 :: a5 :: a6 :: a7 :: a8 :: a9 :: a10 :: a11 :: a12 :: none :: some (.ref x) :: r) st M) : Kj g X nL pc (a0 :: a1 :: a2 :: a3 :: a4 :: a5 :: a6 :: a7 :: a8 :: a9 :: a10 :: a11 :: a12 :: b1 :: b0 :: r) (.ref x :: st) M := by
  refine kj_lv (lv' := a0 :: a1 :: a2 :: a3 :: a4 :: a5 :: a6 :: a7 :: a8 :: a9 :: a10 :: a11 :: a12 :: none :: b0 :: r) (fun j v hj => ?_) (kj_ast14 C hd hn rfl kk)
  exact sn_14 hj
theorem fl_X1_78 : Cond.fieldLink RX1 78 "JealousChoir$Chances" "FACTORIALS" "[I" ∈ gW := gw_mk (i := 661) (by decide +kernel) rfl
theorem fl_X0_11 : Cond.fieldLink RX0 11 "JealousChoir$ActRow" (TX0 0).2.1 (TX0 0).2.2.1 ∈ gW := gw_mk (i := 208) (by decide +kernel) rfl
theorem gf_X0_11 (C : Cx g X cc RX0 nL d) (hd : decode cc pc = .ok (.getfield 11, 3)) (kk : Kj g X nL (pc + 3) lv (.ref (ga g 21 1) :: st) M) : Kj g X nL pc lv (.ref (ga g 21 0) :: st) M := kj_get C rc_21.1 rc_21.2 ing_X0 (k := 0) (by decide) fl_X0_11 (by decide) (rfl) hd kk
theorem fl_X0_17 : Cond.fieldLink RX0 17 "JealousChoir$ActRow" (TX0 1).2.1 (TX0 1).2.2.1 ∈ gW := gw_mk (i := 209) (by decide +kernel) rfl
theorem gf_X0_17 (C : Cx g X cc RX0 nL d) (hd : decode cc pc = .ok (.getfield 17, 3)) (kk : Kj g X nL (pc + 3) lv (.int (M.1 21 0 1) :: st) M) : Kj g X nL pc lv (.ref (ga g 21 0) :: st) M := kj_get C rc_21.1 rc_21.2 ing_X0 (k := 1) (by decide) fl_X0_17 (by decide) (rfl) hd kk
theorem pf_X0_17 (C : Cx g X cc RX0 nL d) {x : Int32} (hd : decode cc pc = .ok (.putfield 17, 3)) (kk : Kj g X nL (pc + 3) lv st (sw M 21 0 1 x)) : Kj g X nL pc lv (.int x :: .ref (ga g 21 0) :: st) M := kj_put C rc_21.1 rc_21.2 ing_X0 tyX0_ok nmX0 (k := 1) (by decide) fl_X0_17 (by decide) (by decide) (ty := .int) (by decide +kernel) rfl rfl (Nat.le_of_ble_eq_true rfl) cel_sr (rfl) hd kk
theorem fl_X0_21 : Cond.fieldLink RX0 21 "JealousChoir$ActRow" (TX0 2).2.1 (TX0 2).2.2.1 ∈ gW := gw_mk (i := 210) (by decide +kernel) rfl
theorem gf_X0_21 (C : Cx g X cc RX0 nL d) (hd : decode cc pc = .ok (.getfield 21, 3)) (kk : Kj g X nL (pc + 3) lv (.int (M.1 21 0 2) :: st) M) : Kj g X nL pc lv (.ref (ga g 21 0) :: st) M := kj_get C rc_21.1 rc_21.2 ing_X0 (k := 2) (by decide) fl_X0_21 (by decide) (rfl) hd kk
theorem pf_X0_21 (C : Cx g X cc RX0 nL d) {x : Int32} (hd : decode cc pc = .ok (.putfield 21, 3)) (kk : Kj g X nL (pc + 3) lv st (sw M 21 0 2 x)) : Kj g X nL pc lv (.int x :: .ref (ga g 21 0) :: st) M := kj_put C rc_21.1 rc_21.2 ing_X0 tyX0_ok nmX0 (k := 2) (by decide) fl_X0_21 (by decide) (by decide) (ty := .int) (by decide +kernel) rfl rfl (Nat.le_of_ble_eq_true rfl) cel_sr (rfl) hd kk
theorem fl_X1_9 : Cond.fieldLink RX1 9 "JealousChoir$Chances" (TX1 3).2.1 (TX1 3).2.2.1 ∈ gW := gw_mk (i := 282) (by decide +kernel) rfl
theorem gf_X1_9 (C : Cx g X cc RX1 nL d) (hd : decode cc pc = .ok (.getfield 9, 3)) (kk : Kj g X nL (pc + 3) lv (.ref (ga g 25 1) :: st) M) : Kj g X nL pc lv (.ref (ga g 25 0) :: st) M := kj_get C rc_25.1 rc_25.2 ing_X1 (k := 3) (by decide) fl_X1_9 (by decide) (rfl) hd kk
theorem fl_X1_15 : Cond.fieldLink RX1 15 "JealousChoir$Chances" (TX1 4).2.1 (TX1 4).2.2.1 ∈ gW := gw_mk (i := 283) (by decide +kernel) rfl
theorem gf_X1_15 (C : Cx g X cc RX1 nL d) (hd : decode cc pc = .ok (.getfield 15, 3)) (kk : Kj g X nL (pc + 3) lv (.ref (ga g 25 2) :: st) M) : Kj g X nL pc lv (.ref (ga g 25 0) :: st) M := kj_get C rc_25.1 rc_25.2 ing_X1 (k := 4) (by decide) fl_X1_15 (by decide) (rfl) hd kk
theorem fl_X1_18 : Cond.fieldLink RX1 18 "JealousChoir$Chances" (TX1 5).2.1 (TX1 5).2.2.1 ∈ gW := gw_mk (i := 284) (by decide +kernel) rfl
theorem gf_X1_18 (C : Cx g X cc RX1 nL d) (hd : decode cc pc = .ok (.getfield 18, 3)) (kk : Kj g X nL (pc + 3) lv (.ref (ga g 25 3) :: st) M) : Kj g X nL pc lv (.ref (ga g 25 0) :: st) M := kj_get C rc_25.1 rc_25.2 ing_X1 (k := 5) (by decide) fl_X1_18 (by decide) (rfl) hd kk
theorem fl_X1_21 : Cond.fieldLink RX1 21 "JealousChoir$Chances" (TX1 0).2.1 (TX1 0).2.2.1 ∈ gW := gw_mk (i := 279) (by decide +kernel) rfl
theorem gf_X1_21 (C : Cx g X cc RX1 nL d) (hd : decode cc pc = .ok (.getfield 21, 3)) (kk : Kj g X nL (pc + 3) lv (.ref (ga g 19 0) :: st) M) : Kj g X nL pc lv (.ref (ga g 25 0) :: st) M := kj_get C rc_25.1 rc_25.2 ing_X1 (k := 0) (by decide) fl_X1_21 (by decide) (rfl) hd kk
theorem fl_X1_25 : Cond.fieldLink RX1 25 "JealousChoir$Chances" (TX1 1).2.1 (TX1 1).2.2.1 ∈ gW := gw_mk (i := 280) (by decide +kernel) rfl
theorem gf_X1_25 (C : Cx g X cc RX1 nL d) (hd : decode cc pc = .ok (.getfield 25, 3)) (kk : Kj g X nL (pc + 3) lv (.ref (ga g 0 0) :: st) M) : Kj g X nL pc lv (.ref (ga g 25 0) :: st) M := kj_get C rc_25.1 rc_25.2 ing_X1 (k := 1) (by decide) fl_X1_25 (by decide) (rfl) hd kk
theorem fl_X1_29 : Cond.fieldLink RX1 29 "JealousChoir$Chances" (TX1 2).2.1 (TX1 2).2.2.1 ∈ gW := gw_mk (i := 281) (by decide +kernel) rfl
theorem gf_X1_29 (C : Cx g X cc RX1 nL d) (hd : decode cc pc = .ok (.getfield 29, 3)) (kk : Kj g X nL (pc + 3) lv (.ref (ga g 1 0) :: st) M) : Kj g X nL pc lv (.ref (ga g 25 0) :: st) M := kj_get C rc_25.1 rc_25.2 ing_X1 (k := 2) (by decide) fl_X1_29 (by decide) (rfl) hd kk
theorem fl_X1_38 : Cond.fieldLinkNest RX1 38 "JealousChoir$Stand" (TX7 5).2.1 (TX7 5).2.2.1 "JealousChoir" ∈ nW := nw_mk (i := 174) (by decide +kernel) rfl
theorem pf_X1_38 (C : Cx g X cc RX1 nL d) {o : Nat} (ho : o < 18) {x : Int32} (hd : decode cc pc = .ok (.putfield 38, 3)) (kk : Kj g X nL (pc + 3) lv st (sw M o 0 5 x)) : Kj g X nL pc lv (.int x :: .ref (ga g o 0) :: st) M := kj_putN C (rc_st ho).1 (rc_st ho).2 ing_X7 tyX7_ok nmX7 (k := 5) (by decide) fl_X1_38 (by decide) (by decide) (ty := .int) (by decide +kernel) rfl rfl (by rw [flds_st ho]; exact Nat.le_of_ble_eq_true rfl) cel_sr (by rw [flds_st ho, flds_st ho, sr_same]; rfl) hd kk
theorem fl_X1_68 : Cond.fieldLinkNest RX1 68 "JealousChoir$Roll" (TX4 3).2.1 (TX4 3).2.2.1 "JealousChoir" ∈ nW := nw_mk (i := 141) (by decide +kernel) rfl
theorem gf_X1_68 (C : Cx g X cc RX1 nL d) (hd : decode cc pc = .ok (.getfield 68, 3)) (kk : Kj g X nL (pc + 3) lv (.int (M.1 19 0 3) :: st) M) : Kj g X nL pc lv (.ref (ga g 19 0) :: st) M := kj_getN C rc_19.1 rc_19.2 ing_X4 (k := 3) (by decide) fl_X1_68 (by decide) (rfl) hd kk
theorem fl_X1_93 : Cond.fieldLinkNest RX1 93 "JealousChoir$Roll" (TX4 0).2.1 (TX4 0).2.2.1 "JealousChoir" ∈ nW := nw_mk (i := 130) (by decide +kernel) rfl
theorem gf_X1_93 (C : Cx g X cc RX1 nL d) (hd : decode cc pc = .ok (.getfield 93, 3)) (kk : Kj g X nL (pc + 3) lv (.ref (ga g 19 1) :: st) M) : Kj g X nL pc lv (.ref (ga g 19 0) :: st) M := kj_getN C rc_19.1 rc_19.2 ing_X4 (k := 0) (by decide) fl_X1_93 (by decide) (rfl) hd kk
theorem fl_X10_7 : Cond.fieldLink RX10 7 "JealousChoirModel" (TX10 1).2.1 (TX10 1).2.2.1 ∈ gW := gw_mk (i := 773) (by decide +kernel) rfl
theorem gf_X10_7 (C : Cx g X cc RX10 nL d) (hd : decode cc pc = .ok (.getfield 7, 3)) (kk : Kj g X nL (pc + 3) lv (.ref (ga g 27 1) :: st) M) : Kj g X nL pc lv (.ref (ga g 27 0) :: st) M := kj_get C rc_27.1 rc_27.2 ing_X10 (k := 1) (by decide) fl_X10_7 (by decide) (rfl) hd kk
theorem fl_X10_13 : Cond.fieldLink RX10 13 "JealousChoirModel" (TX10 2).2.1 (TX10 2).2.2.1 ∈ gW := gw_mk (i := 774) (by decide +kernel) rfl
theorem gf_X10_13 (C : Cx g X cc RX10 nL d) (hd : decode cc pc = .ok (.getfield 13, 3)) (kk : Kj g X nL (pc + 3) lv (.ref (ga g 27 2) :: st) M) : Kj g X nL pc lv (.ref (ga g 27 0) :: st) M := kj_get C rc_27.1 rc_27.2 ing_X10 (k := 2) (by decide) fl_X10_13 (by decide) (rfl) hd kk
theorem fl_X10_16 : Cond.fieldLink RX10 16 "JealousChoirModel" (TX10 3).2.1 (TX10 3).2.2.1 ∈ gW := gw_mk (i := 775) (by decide +kernel) rfl
theorem gf_X10_16 (C : Cx g X cc RX10 nL d) (hd : decode cc pc = .ok (.getfield 16, 3)) (kk : Kj g X nL (pc + 3) lv (.ref (ga g 27 3) :: st) M) : Kj g X nL pc lv (.ref (ga g 27 0) :: st) M := kj_get C rc_27.1 rc_27.2 ing_X10 (k := 3) (by decide) fl_X10_16 (by decide) (rfl) hd kk
theorem fl_X10_19 : Cond.fieldLink RX10 19 "JealousChoirModel" (TX10 4).2.1 (TX10 4).2.2.1 ∈ gW := gw_mk (i := 776) (by decide +kernel) rfl
theorem gf_X10_19 (C : Cx g X cc RX10 nL d) (hd : decode cc pc = .ok (.getfield 19, 3)) (kk : Kj g X nL (pc + 3) lv (.ref (ga g 27 4) :: st) M) : Kj g X nL pc lv (.ref (ga g 27 0) :: st) M := kj_get C rc_27.1 rc_27.2 ing_X10 (k := 4) (by decide) fl_X10_19 (by decide) (rfl) hd kk
theorem fl_X10_22 : Cond.fieldLink RX10 22 "JealousChoirModel" (TX10 5).2.1 (TX10 5).2.2.1 ∈ gW := gw_mk (i := 777) (by decide +kernel) rfl
theorem gf_X10_22 (C : Cx g X cc RX10 nL d) (hd : decode cc pc = .ok (.getfield 22, 3)) (kk : Kj g X nL (pc + 3) lv (.ref (ga g 27 5) :: st) M) : Kj g X nL pc lv (.ref (ga g 27 0) :: st) M := kj_get C rc_27.1 rc_27.2 ing_X10 (k := 5) (by decide) fl_X10_22 (by decide) (rfl) hd kk
theorem fl_X10_25 : Cond.fieldLink RX10 25 "JealousChoirModel" (TX10 8).2.1 (TX10 8).2.2.1 ∈ gW := gw_mk (i := 780) (by decide +kernel) rfl
theorem gf_X10_25 (C : Cx g X cc RX10 nL d) (hd : decode cc pc = .ok (.getfield 25, 3)) (kk : Kj g X nL (pc + 3) lv (.ref (ga g 27 6) :: st) M) : Kj g X nL pc lv (.ref (ga g 27 0) :: st) M := kj_get C rc_27.1 rc_27.2 ing_X10 (k := 8) (by decide) fl_X10_25 (by decide) (rfl) hd kk
theorem fl_X10_28 : Cond.fieldLink RX10 28 "JealousChoirModel" (TX10 12).2.1 (TX10 12).2.2.1 ∈ gW := gw_mk (i := 784) (by decide +kernel) rfl
theorem gf_X10_28 (C : Cx g X cc RX10 nL d) (hd : decode cc pc = .ok (.getfield 28, 3)) (kk : Kj g X nL (pc + 3) lv (.int (M.1 27 0 12) :: st) M) : Kj g X nL pc lv (.ref (ga g 27 0) :: st) M := kj_get C rc_27.1 rc_27.2 ing_X10 (k := 12) (by decide) fl_X10_28 (by decide) (rfl) hd kk
theorem pf_X10_28 (C : Cx g X cc RX10 nL d) {x : Int32} (hd : decode cc pc = .ok (.putfield 28, 3)) (kk : Kj g X nL (pc + 3) lv st (sw M 27 0 12 x)) : Kj g X nL pc lv (.int x :: .ref (ga g 27 0) :: st) M := kj_put C rc_27.1 rc_27.2 ing_X10 tyX10_ok nmX10 (k := 12) (by decide) fl_X10_28 (by decide) (by decide) (ty := .int) (by decide +kernel) rfl rfl (Nat.le_of_ble_eq_true rfl) cel_sr (rfl) hd kk
theorem fl_X10_32 : Cond.fieldLink RX10 32 "JealousChoirModel" (TX10 13).2.1 (TX10 13).2.2.1 ∈ gW := gw_mk (i := 785) (by decide +kernel) rfl
theorem gf_X10_32 (C : Cx g X cc RX10 nL d) (hd : decode cc pc = .ok (.getfield 32, 3)) (kk : Kj g X nL (pc + 3) lv (.ref (ga g 27 7) :: st) M) : Kj g X nL pc lv (.ref (ga g 27 0) :: st) M := kj_get C rc_27.1 rc_27.2 ing_X10 (k := 13) (by decide) fl_X10_32 (by decide) (rfl) hd kk
theorem fl_X10_35 : Cond.fieldLink RX10 35 "JealousChoirModel" (TX10 16).2.1 (TX10 16).2.2.1 ∈ gW := gw_mk (i := 788) (by decide +kernel) rfl
theorem gf_X10_35 (C : Cx g X cc RX10 nL d) (hd : decode cc pc = .ok (.getfield 35, 3)) (kk : Kj g X nL (pc + 3) lv (.ref (ga g 27 8) :: st) M) : Kj g X nL pc lv (.ref (ga g 27 0) :: st) M := kj_get C rc_27.1 rc_27.2 ing_X10 (k := 16) (by decide) fl_X10_35 (by decide) (rfl) hd kk
theorem fl_X10_38 : Cond.fieldLink RX10 38 "JealousChoirModel" (TX10 17).2.1 (TX10 17).2.2.1 ∈ gW := gw_mk (i := 789) (by decide +kernel) rfl
theorem gf_X10_38 (C : Cx g X cc RX10 nL d) (hd : decode cc pc = .ok (.getfield 38, 3)) (kk : Kj g X nL (pc + 3) lv (.ref (ga g 27 9) :: st) M) : Kj g X nL pc lv (.ref (ga g 27 0) :: st) M := kj_get C rc_27.1 rc_27.2 ing_X10 (k := 17) (by decide) fl_X10_38 (by decide) (rfl) hd kk
theorem fl_X10_41 : Cond.fieldLink RX10 41 "JealousChoirModel" (TX10 19).2.1 (TX10 19).2.2.1 ∈ gW := gw_mk (i := 791) (by decide +kernel) rfl
theorem gf_X10_41 (C : Cx g X cc RX10 nL d) (hd : decode cc pc = .ok (.getfield 41, 3)) (kk : Kj g X nL (pc + 3) lv (.ref (ga g 27 10) :: st) M) : Kj g X nL pc lv (.ref (ga g 27 0) :: st) M := kj_get C rc_27.1 rc_27.2 ing_X10 (k := 19) (by decide) fl_X10_41 (by decide) (rfl) hd kk
theorem fl_X10_44 : Cond.fieldLink RX10 44 "JealousChoirModel" (TX10 20).2.1 (TX10 20).2.2.1 ∈ gW := gw_mk (i := 792) (by decide +kernel) rfl
theorem gf_X10_44 (C : Cx g X cc RX10 nL d) (hd : decode cc pc = .ok (.getfield 44, 3)) (kk : Kj g X nL (pc + 3) lv (.ref (ga g 27 11) :: st) M) : Kj g X nL pc lv (.ref (ga g 27 0) :: st) M := kj_get C rc_27.1 rc_27.2 ing_X10 (k := 20) (by decide) fl_X10_44 (by decide) (rfl) hd kk
theorem fl_X10_47 : Cond.fieldLink RX10 47 "JealousChoirModel" (TX10 21).2.1 (TX10 21).2.2.1 ∈ gW := gw_mk (i := 793) (by decide +kernel) rfl
theorem gf_X10_47 (C : Cx g X cc RX10 nL d) (hd : decode cc pc = .ok (.getfield 47, 3)) (kk : Kj g X nL (pc + 3) lv (.ref (ga g 27 12) :: st) M) : Kj g X nL pc lv (.ref (ga g 27 0) :: st) M := kj_get C rc_27.1 rc_27.2 ing_X10 (k := 21) (by decide) fl_X10_47 (by decide) (rfl) hd kk
theorem fl_X10_50 : Cond.fieldLink RX10 50 "JealousChoirModel" (TX10 23).2.1 (TX10 23).2.2.1 ∈ gW := gw_mk (i := 795) (by decide +kernel) rfl
theorem gf_X10_50 (C : Cx g X cc RX10 nL d) (hd : decode cc pc = .ok (.getfield 50, 3)) (kk : Kj g X nL (pc + 3) lv (.ref (ga g 27 13) :: st) M) : Kj g X nL pc lv (.ref (ga g 27 0) :: st) M := kj_get C rc_27.1 rc_27.2 ing_X10 (k := 23) (by decide) fl_X10_50 (by decide) (rfl) hd kk
theorem fl_X10_54 : Cond.fieldLink RX10 54 "JealousChoirModel" (TX10 24).2.1 (TX10 24).2.2.1 ∈ gW := gw_mk (i := 796) (by decide +kernel) rfl
theorem gf_X10_54 (C : Cx g X cc RX10 nL d) (hd : decode cc pc = .ok (.getfield 54, 3)) (kk : Kj g X nL (pc + 3) lv (.ref (ga g 27 14) :: st) M) : Kj g X nL pc lv (.ref (ga g 27 0) :: st) M := kj_get C rc_27.1 rc_27.2 ing_X10 (k := 24) (by decide) fl_X10_54 (by decide) (rfl) hd kk
theorem fl_X10_63 : Cond.fieldLink RX10 63 "JealousChoirModel" (TX10 9).2.1 (TX10 9).2.2.1 ∈ gW := gw_mk (i := 781) (by decide +kernel) rfl
theorem gf_X10_63 (C : Cx g X cc RX10 nL d) (hd : decode cc pc = .ok (.getfield 63, 3)) (kk : Kj g X nL (pc + 3) lv (.int (M.1 27 0 9) :: st) M) : Kj g X nL pc lv (.ref (ga g 27 0) :: st) M := kj_get C rc_27.1 rc_27.2 ing_X10 (k := 9) (by decide) fl_X10_63 (by decide) (rfl) hd kk
theorem pf_X10_63 (C : Cx g X cc RX10 nL d) {x : Int32} (hd : decode cc pc = .ok (.putfield 63, 3)) (kk : Kj g X nL (pc + 3) lv st (sw M 27 0 9 x)) : Kj g X nL pc lv (.int x :: .ref (ga g 27 0) :: st) M := kj_put C rc_27.1 rc_27.2 ing_X10 tyX10_ok nmX10 (k := 9) (by decide) fl_X10_63 (by decide) (by decide) (ty := .int) (by decide +kernel) rfl rfl (Nat.le_of_ble_eq_true rfl) cel_sr (rfl) hd kk
theorem fl_X10_66 : Cond.fieldLink RX10 66 "JealousChoirModel" (TX10 11).2.1 (TX10 11).2.2.1 ∈ gW := gw_mk (i := 783) (by decide +kernel) rfl
theorem gf_X10_66 (C : Cx g X cc RX10 nL d) (hd : decode cc pc = .ok (.getfield 66, 3)) (kk : Kj g X nL (pc + 3) lv (.int (M.1 27 0 11) :: st) M) : Kj g X nL pc lv (.ref (ga g 27 0) :: st) M := kj_get C rc_27.1 rc_27.2 ing_X10 (k := 11) (by decide) fl_X10_66 (by decide) (rfl) hd kk
theorem pf_X10_66 (C : Cx g X cc RX10 nL d) {x : Int32} (hd : decode cc pc = .ok (.putfield 66, 3)) (kk : Kj g X nL (pc + 3) lv st (sw M 27 0 11 x)) : Kj g X nL pc lv (.int x :: .ref (ga g 27 0) :: st) M := kj_put C rc_27.1 rc_27.2 ing_X10 tyX10_ok nmX10 (k := 11) (by decide) fl_X10_66 (by decide) (by decide) (ty := .int) (by decide +kernel) rfl rfl (Nat.le_of_ble_eq_true rfl) cel_sr (rfl) hd kk
theorem fl_X10_69 : Cond.fieldLink RX10 69 "JealousChoirModel" (TX10 10).2.1 (TX10 10).2.2.1 ∈ gW := gw_mk (i := 782) (by decide +kernel) rfl
theorem gf_X10_69 (C : Cx g X cc RX10 nL d) (hd : decode cc pc = .ok (.getfield 69, 3)) (kk : Kj g X nL (pc + 3) lv (.int (M.1 27 0 10) :: st) M) : Kj g X nL pc lv (.ref (ga g 27 0) :: st) M := kj_get C rc_27.1 rc_27.2 ing_X10 (k := 10) (by decide) fl_X10_69 (by decide) (rfl) hd kk
theorem pf_X10_69 (C : Cx g X cc RX10 nL d) {x : Int32} (hd : decode cc pc = .ok (.putfield 69, 3)) (kk : Kj g X nL (pc + 3) lv st (sw M 27 0 10 x)) : Kj g X nL pc lv (.int x :: .ref (ga g 27 0) :: st) M := kj_put C rc_27.1 rc_27.2 ing_X10 tyX10_ok nmX10 (k := 10) (by decide) fl_X10_69 (by decide) (by decide) (ty := .int) (by decide +kernel) rfl rfl (Nat.le_of_ble_eq_true rfl) cel_sr (rfl) hd kk
theorem fl_X10_78 : Cond.fieldLink RX10 78 "JealousChoirModel" (TX10 6).2.1 (TX10 6).2.2.1 ∈ gW := gw_mk (i := 778) (by decide +kernel) rfl
theorem gf_X10_78 (C : Cx g X cc RX10 nL d) (hd : decode cc pc = .ok (.getfield 78, 3)) (kk : Kj g X nL (pc + 3) lv (.int (M.1 27 0 6) :: st) M) : Kj g X nL pc lv (.ref (ga g 27 0) :: st) M := kj_get C rc_27.1 rc_27.2 ing_X10 (k := 6) (by decide) fl_X10_78 (by decide) (rfl) hd kk
theorem pf_X10_78 (C : Cx g X cc RX10 nL d) {x : Int32} (hd : decode cc pc = .ok (.putfield 78, 3)) (kk : Kj g X nL (pc + 3) lv st (sw M 27 0 6 x)) : Kj g X nL pc lv (.int x :: .ref (ga g 27 0) :: st) M := kj_put C rc_27.1 rc_27.2 ing_X10 tyX10_ok nmX10 (k := 6) (by decide) fl_X10_78 (by decide) (by decide) (ty := .int) (by decide +kernel) rfl rfl (Nat.le_of_ble_eq_true rfl) cel_sr (rfl) hd kk
theorem fl_X10_81 : Cond.fieldLink RX10 81 "JealousChoirModel" (TX10 7).2.1 (TX10 7).2.2.1 ∈ gW := gw_mk (i := 779) (by decide +kernel) rfl
theorem gf_X10_81 (C : Cx g X cc RX10 nL d) (hd : decode cc pc = .ok (.getfield 81, 3)) (kk : Kj g X nL (pc + 3) lv (.int (M.1 27 0 7) :: st) M) : Kj g X nL pc lv (.ref (ga g 27 0) :: st) M := kj_get C rc_27.1 rc_27.2 ing_X10 (k := 7) (by decide) fl_X10_81 (by decide) (rfl) hd kk
theorem pf_X10_81 (C : Cx g X cc RX10 nL d) {x : Int32} (hd : decode cc pc = .ok (.putfield 81, 3)) (kk : Kj g X nL (pc + 3) lv st (sw M 27 0 7 x)) : Kj g X nL pc lv (.int x :: .ref (ga g 27 0) :: st) M := kj_put C rc_27.1 rc_27.2 ing_X10 tyX10_ok nmX10 (k := 7) (by decide) fl_X10_81 (by decide) (by decide) (ty := .int) (by decide +kernel) rfl rfl (Nat.le_of_ble_eq_true rfl) cel_sr (rfl) hd kk
theorem fl_X10_96 : Cond.fieldLink RX10 96 "JealousChoirModel" (TX10 0).2.1 (TX10 0).2.2.1 ∈ gW := gw_mk (i := 772) (by decide +kernel) rfl
theorem gf_X10_96 (C : Cx g X cc RX10 nL d) (hd : decode cc pc = .ok (.getfield 96, 3)) (kk : Kj g X nL (pc + 3) lv (.int (M.1 27 0 0) :: st) M) : Kj g X nL pc lv (.ref (ga g 27 0) :: st) M := kj_get C rc_27.1 rc_27.2 ing_X10 (k := 0) (by decide) fl_X10_96 (by decide) (rfl) hd kk
theorem pf_X10_96 (C : Cx g X cc RX10 nL d) {x : Int32} (hd : decode cc pc = .ok (.putfield 96, 3)) (kk : Kj g X nL (pc + 3) lv st (sw M 27 0 0 x)) : Kj g X nL pc lv (.int x :: .ref (ga g 27 0) :: st) M := kj_put C rc_27.1 rc_27.2 ing_X10 tyX10_ok nmX10 (k := 0) (by decide) fl_X10_96 (by decide) (by decide) (ty := .int) (by decide +kernel) rfl rfl (Nat.le_of_ble_eq_true rfl) cel_sr (rfl) hd kk
theorem fl_X10_99 : Cond.fieldLink RX10 99 "JealousChoirModel" (TX10 14).2.1 (TX10 14).2.2.1 ∈ gW := gw_mk (i := 786) (by decide +kernel) rfl
theorem gf_X10_99 (C : Cx g X cc RX10 nL d) (hd : decode cc pc = .ok (.getfield 99, 3)) (kk : Kj g X nL (pc + 3) lv (.int (M.1 27 0 14) :: st) M) : Kj g X nL pc lv (.ref (ga g 27 0) :: st) M := kj_get C rc_27.1 rc_27.2 ing_X10 (k := 14) (by decide) fl_X10_99 (by decide) (rfl) hd kk
theorem pf_X10_99 (C : Cx g X cc RX10 nL d) {x : Int32} (hd : decode cc pc = .ok (.putfield 99, 3)) (kk : Kj g X nL (pc + 3) lv st (sw M 27 0 14 x)) : Kj g X nL pc lv (.int x :: .ref (ga g 27 0) :: st) M := kj_put C rc_27.1 rc_27.2 ing_X10 tyX10_ok nmX10 (k := 14) (by decide) fl_X10_99 (by decide) (by decide) (ty := .int) (by decide +kernel) rfl rfl (Nat.le_of_ble_eq_true rfl) cel_sr (rfl) hd kk
theorem fl_X10_128 : Cond.fieldLink RX10 128 "JealousChoirModel" (TX10 15).2.1 (TX10 15).2.2.1 ∈ gW := gw_mk (i := 787) (by decide +kernel) rfl
theorem gf_X10_128 (C : Cx g X cc RX10 nL d) (hd : decode cc pc = .ok (.getfield 128, 3)) (kk : Kj g X nL (pc + 3) lv (.int (M.1 27 0 15) :: st) M) : Kj g X nL pc lv (.ref (ga g 27 0) :: st) M := kj_get C rc_27.1 rc_27.2 ing_X10 (k := 15) (by decide) fl_X10_128 (by decide) (rfl) hd kk
theorem pf_X10_128 (C : Cx g X cc RX10 nL d) {x : Int32} (hd : decode cc pc = .ok (.putfield 128, 3)) (kk : Kj g X nL (pc + 3) lv st (sw M 27 0 15 x)) : Kj g X nL pc lv (.int x :: .ref (ga g 27 0) :: st) M := kj_put C rc_27.1 rc_27.2 ing_X10 tyX10_ok nmX10 (k := 15) (by decide) fl_X10_128 (by decide) (by decide) (ty := .int) (by decide +kernel) rfl rfl (Nat.le_of_ble_eq_true rfl) cel_sr (rfl) hd kk
theorem fl_X10_187 : Cond.fieldLink RX10 187 "JealousChoirModel" (TX10 18).2.1 (TX10 18).2.2.1 ∈ gW := gw_mk (i := 790) (by decide +kernel) rfl
theorem gf_X10_187 (C : Cx g X cc RX10 nL d) (hd : decode cc pc = .ok (.getfield 187, 3)) (kk : Kj g X nL (pc + 3) lv (.int (M.1 27 0 18) :: st) M) : Kj g X nL pc lv (.ref (ga g 27 0) :: st) M := kj_get C rc_27.1 rc_27.2 ing_X10 (k := 18) (by decide) fl_X10_187 (by decide) (rfl) hd kk
theorem pf_X10_187 (C : Cx g X cc RX10 nL d) {x : Int32} (hd : decode cc pc = .ok (.putfield 187, 3)) (kk : Kj g X nL (pc + 3) lv st (sw M 27 0 18 x)) : Kj g X nL pc lv (.int x :: .ref (ga g 27 0) :: st) M := kj_put C rc_27.1 rc_27.2 ing_X10 tyX10_ok nmX10 (k := 18) (by decide) fl_X10_187 (by decide) (by decide) (ty := .int) (by decide +kernel) rfl rfl (Nat.le_of_ble_eq_true rfl) cel_sr (rfl) hd kk
theorem fl_X10_214 : Cond.fieldLink RX10 214 "JealousChoirModel" (TX10 22).2.1 (TX10 22).2.2.1 ∈ gW := gw_mk (i := 794) (by decide +kernel) rfl
theorem gf_X10_214 (C : Cx g X cc RX10 nL d) (hd : decode cc pc = .ok (.getfield 214, 3)) (kk : Kj g X nL (pc + 3) lv (.long (M.2 27) :: st) M) : Kj g X nL pc lv (.ref (ga g 27 0) :: st) M := kj_get C rc_27.1 rc_27.2 ing_X10 (k := 22) (by decide) fl_X10_214 (by decide) (rfl) hd kk
theorem pf_X10_214 (C : Cx g X cc RX10 nL d) {x : Int64} (hd : decode cc pc = .ok (.putfield 214, 3)) (kk : Kj g X nL (pc + 3) lv st (sl M 27 x)) : Kj g X nL pc lv (.long x :: .ref (ga g 27 0) :: st) M := kj_put C rc_27.1 rc_27.2 ing_X10 tyX10_ok nmX10 (k := 22) (by decide) fl_X10_214 (by decide) (by decide) (ty := .long) (by decide +kernel) rfl rfl (Nat.le_of_ble_eq_true rfl) cel_sl (rfl) hd kk
theorem fl_X2_9 : Cond.fieldLink RX2 9 "JealousChoir$Forecast" (TX2 3).2.1 (TX2 3).2.2.1 ∈ gW := gw_mk (i := 263) (by decide +kernel) rfl
theorem gf_X2_9 (C : Cx g X cc RX2 nL d) (hd : decode cc pc = .ok (.getfield 9, 3)) (kk : Kj g X nL (pc + 3) lv (.ref (ga g 24 1) :: st) M) : Kj g X nL pc lv (.ref (ga g 24 0) :: st) M := kj_get C rc_24.1 rc_24.2 ing_X2 (k := 3) (by decide) fl_X2_9 (by decide) (rfl) hd kk
theorem fl_X2_15 : Cond.fieldLink RX2 15 "JealousChoir$Forecast" (TX2 0).2.1 (TX2 0).2.2.1 ∈ gW := gw_mk (i := 260) (by decide +kernel) rfl
theorem gf_X2_15 (C : Cx g X cc RX2 nL d) (hd : decode cc pc = .ok (.getfield 15, 3)) (kk : Kj g X nL (pc + 3) lv (.ref (ga g 19 0) :: st) M) : Kj g X nL pc lv (.ref (ga g 24 0) :: st) M := kj_get C rc_24.1 rc_24.2 ing_X2 (k := 0) (by decide) fl_X2_15 (by decide) (rfl) hd kk
theorem fl_X2_19 : Cond.fieldLink RX2 19 "JealousChoir$Forecast" (TX2 1).2.1 (TX2 1).2.2.1 ∈ gW := gw_mk (i := 261) (by decide +kernel) rfl
theorem gf_X2_19 (C : Cx g X cc RX2 nL d) (hd : decode cc pc = .ok (.getfield 19, 3)) (kk : Kj g X nL (pc + 3) lv (.ref (ga g 0 0) :: st) M) : Kj g X nL pc lv (.ref (ga g 24 0) :: st) M := kj_get C rc_24.1 rc_24.2 ing_X2 (k := 1) (by decide) fl_X2_19 (by decide) (rfl) hd kk
theorem fl_X2_23 : Cond.fieldLink RX2 23 "JealousChoir$Forecast" (TX2 2).2.1 (TX2 2).2.2.1 ∈ gW := gw_mk (i := 262) (by decide +kernel) rfl
theorem gf_X2_23 (C : Cx g X cc RX2 nL d) (hd : decode cc pc = .ok (.getfield 23, 3)) (kk : Kj g X nL (pc + 3) lv (.ref (ga g 1 0) :: st) M) : Kj g X nL pc lv (.ref (ga g 24 0) :: st) M := kj_get C rc_24.1 rc_24.2 ing_X2 (k := 2) (by decide) fl_X2_23 (by decide) (rfl) hd kk
theorem fl_X2_36 : Cond.fieldLinkNest RX2 36 "JealousChoir$Stand" (TX7 3).2.1 (TX7 3).2.2.1 "JealousChoir" ∈ nW := nw_mk (i := 169) (by decide +kernel) rfl
theorem gf_X2_36 (C : Cx g X cc RX2 nL d) {o : Nat} (ho : o < 18) (hd : decode cc pc = .ok (.getfield 36, 3)) (kk : Kj g X nL (pc + 3) lv (.ref (ga g o 3) :: st) M) : Kj g X nL pc lv (.ref (ga g o 0) :: st) M := kj_getN C (rc_st ho).1 (rc_st ho).2 ing_X7 (k := 3) (by decide) fl_X2_36 (by decide) (by rw [flds_st ho]; rfl) hd kk
theorem fl_X2_50 : Cond.fieldLinkNest RX2 50 "JealousChoir$Roll" (TX4 3).2.1 (TX4 3).2.2.1 "JealousChoir" ∈ nW := nw_mk (i := 144) (by decide +kernel) rfl
theorem gf_X2_50 (C : Cx g X cc RX2 nL d) (hd : decode cc pc = .ok (.getfield 50, 3)) (kk : Kj g X nL (pc + 3) lv (.int (M.1 19 0 3) :: st) M) : Kj g X nL pc lv (.ref (ga g 19 0) :: st) M := kj_getN C rc_19.1 rc_19.2 ing_X4 (k := 3) (by decide) fl_X2_50 (by decide) (rfl) hd kk
theorem fl_X2_91 : Cond.fieldLinkNest RX2 91 "JealousChoir$Stand" (TX7 2).2.1 (TX7 2).2.2.1 "JealousChoir" ∈ nW := nw_mk (i := 167) (by decide +kernel) rfl
theorem gf_X2_91 (C : Cx g X cc RX2 nL d) {o : Nat} (ho : o < 18) (hd : decode cc pc = .ok (.getfield 91, 3)) (kk : Kj g X nL (pc + 3) lv (.ref (ga g o 2) :: st) M) : Kj g X nL pc lv (.ref (ga g o 0) :: st) M := kj_getN C (rc_st ho).1 (rc_st ho).2 ing_X7 (k := 2) (by decide) fl_X2_91 (by decide) (by rw [flds_st ho]; rfl) hd kk
theorem fl_X3_9 : Cond.fieldLink RX3 9 "JealousChoir$Hearsay" (TX3 0).2.1 (TX3 0).2.2.1 ∈ gW := gw_mk (i := 240) (by decide +kernel) rfl
theorem gf_X3_9 (C : Cx g X cc RX3 nL d) (hd : decode cc pc = .ok (.getfield 9, 3)) (kk : Kj g X nL (pc + 3) lv (.ref (ga g 23 1) :: st) M) : Kj g X nL pc lv (.ref (ga g 23 0) :: st) M := kj_get C rc_23.1 rc_23.2 ing_X3 (k := 0) (by decide) fl_X3_9 (by decide) (rfl) hd kk
theorem fl_X3_15 : Cond.fieldLink RX3 15 "JealousChoir$Hearsay" (TX3 1).2.1 (TX3 1).2.2.1 ∈ gW := gw_mk (i := 241) (by decide +kernel) rfl
theorem gf_X3_15 (C : Cx g X cc RX3 nL d) (hd : decode cc pc = .ok (.getfield 15, 3)) (kk : Kj g X nL (pc + 3) lv (.ref (ga g 23 2) :: st) M) : Kj g X nL pc lv (.ref (ga g 23 0) :: st) M := kj_get C rc_23.1 rc_23.2 ing_X3 (k := 1) (by decide) fl_X3_15 (by decide) (rfl) hd kk
theorem fl_X3_18 : Cond.fieldLink RX3 18 "JealousChoir$Hearsay" (TX3 2).2.1 (TX3 2).2.2.1 ∈ gW := gw_mk (i := 242) (by decide +kernel) rfl
theorem gf_X3_18 (C : Cx g X cc RX3 nL d) (hd : decode cc pc = .ok (.getfield 18, 3)) (kk : Kj g X nL (pc + 3) lv (.ref (ga g 23 3) :: st) M) : Kj g X nL pc lv (.ref (ga g 23 0) :: st) M := kj_get C rc_23.1 rc_23.2 ing_X3 (k := 2) (by decide) fl_X3_18 (by decide) (rfl) hd kk
theorem fl_X3_21 : Cond.fieldLink RX3 21 "JealousChoir$Hearsay" (TX3 3).2.1 (TX3 3).2.2.1 ∈ gW := gw_mk (i := 243) (by decide +kernel) rfl
theorem gf_X3_21 (C : Cx g X cc RX3 nL d) (hd : decode cc pc = .ok (.getfield 21, 3)) (kk : Kj g X nL (pc + 3) lv (.int (M.1 23 0 3) :: st) M) : Kj g X nL pc lv (.ref (ga g 23 0) :: st) M := kj_get C rc_23.1 rc_23.2 ing_X3 (k := 3) (by decide) fl_X3_21 (by decide) (rfl) hd kk
theorem pf_X3_21 (C : Cx g X cc RX3 nL d) {x : Int32} (hd : decode cc pc = .ok (.putfield 21, 3)) (kk : Kj g X nL (pc + 3) lv st (sw M 23 0 3 x)) : Kj g X nL pc lv (.int x :: .ref (ga g 23 0) :: st) M := kj_put C rc_23.1 rc_23.2 ing_X3 tyX3_ok nmX3 (k := 3) (by decide) fl_X3_21 (by decide) (by decide) (ty := .int) (by decide +kernel) rfl rfl (Nat.le_of_ble_eq_true rfl) cel_sr (rfl) hd kk
theorem fl_X3_31 : Cond.fieldLinkNest RX3 31 "JealousChoir$Stand" (TX7 3).2.1 (TX7 3).2.2.1 "JealousChoir" ∈ nW := nw_mk (i := 170) (by decide +kernel) rfl
theorem gf_X3_31 (C : Cx g X cc RX3 nL d) {o : Nat} (ho : o < 18) (hd : decode cc pc = .ok (.getfield 31, 3)) (kk : Kj g X nL (pc + 3) lv (.ref (ga g o 3) :: st) M) : Kj g X nL pc lv (.ref (ga g o 0) :: st) M := kj_getN C (rc_st ho).1 (rc_st ho).2 ing_X7 (k := 3) (by decide) fl_X3_31 (by decide) (by rw [flds_st ho]; rfl) hd kk
theorem fl_X4_21 : Cond.fieldLink RX4 21 "JealousChoir$Roll" (TX4 3).2.1 (TX4 3).2.2.1 ∈ gW := gw_mk (i := 140) (by decide +kernel) rfl
theorem gf_X4_21 (C : Cx g X cc RX4 nL d) (hd : decode cc pc = .ok (.getfield 21, 3)) (kk : Kj g X nL (pc + 3) lv (.int (M.1 19 0 3) :: st) M) : Kj g X nL pc lv (.ref (ga g 19 0) :: st) M := kj_get C rc_19.1 rc_19.2 ing_X4 (k := 3) (by decide) fl_X4_21 (by decide) (rfl) hd kk
theorem fl_X5_9 : Cond.fieldLink RX5 9 "JealousChoir$Script" (TX5 0).2.1 (TX5 0).2.2.1 ∈ gW := gw_mk (i := 112) (by decide +kernel) rfl
theorem gf_X5_9 (C : Cx g X cc RX5 nL d) (hd : decode cc pc = .ok (.getfield 9, 3)) (kk : Kj g X nL (pc + 3) lv (.ref (ga g 18 1) :: st) M) : Kj g X nL pc lv (.ref (ga g 18 0) :: st) M := kj_get C rc_18.1 rc_18.2 ing_X5 (k := 0) (by decide) fl_X5_9 (by decide) (rfl) hd kk
theorem fl_X5_15 : Cond.fieldLink RX5 15 "JealousChoir$Script" (TX5 1).2.1 (TX5 1).2.2.1 ∈ gW := gw_mk (i := 113) (by decide +kernel) rfl
theorem gf_X5_15 (C : Cx g X cc RX5 nL d) (hd : decode cc pc = .ok (.getfield 15, 3)) (kk : Kj g X nL (pc + 3) lv (.int (M.1 18 0 1) :: st) M) : Kj g X nL pc lv (.ref (ga g 18 0) :: st) M := kj_get C rc_18.1 rc_18.2 ing_X5 (k := 1) (by decide) fl_X5_15 (by decide) (rfl) hd kk
theorem pf_X5_15 (C : Cx g X cc RX5 nL d) {x : Int32} (hd : decode cc pc = .ok (.putfield 15, 3)) (kk : Kj g X nL (pc + 3) lv st (sw M 18 0 1 x)) : Kj g X nL pc lv (.int x :: .ref (ga g 18 0) :: st) M := kj_put C rc_18.1 rc_18.2 ing_X5 tyX5_ok nmX5 (k := 1) (by decide) fl_X5_15 (by decide) (by decide) (ty := .int) (by decide +kernel) rfl rfl (Nat.le_of_ble_eq_true rfl) cel_sr (rfl) hd kk
theorem fl_X5_36 : Cond.fieldLinkNest RX5 36 "JealousChoir$Roll" (TX4 3).2.1 (TX4 3).2.2.1 "JealousChoir" ∈ nW := nw_mk (i := 143) (by decide +kernel) rfl
theorem gf_X5_36 (C : Cx g X cc RX5 nL d) (hd : decode cc pc = .ok (.getfield 36, 3)) (kk : Kj g X nL (pc + 3) lv (.int (M.1 19 0 3) :: st) M) : Kj g X nL pc lv (.ref (ga g 19 0) :: st) M := kj_getN C rc_19.1 rc_19.2 ing_X4 (k := 3) (by decide) fl_X5_36 (by decide) (rfl) hd kk
theorem pf_X5_36 (C : Cx g X cc RX5 nL d) {x : Int32} (hd : decode cc pc = .ok (.putfield 36, 3)) (kk : Kj g X nL (pc + 3) lv st (sw M 19 0 3 x)) : Kj g X nL pc lv (.int x :: .ref (ga g 19 0) :: st) M := kj_putN C rc_19.1 rc_19.2 ing_X4 tyX4_ok nmX4 (k := 3) (by decide) fl_X5_36 (by decide) (by decide) (ty := .int) (by decide +kernel) rfl rfl (Nat.le_of_ble_eq_true rfl) cel_sr (rfl) hd kk
theorem fl_X5_41 : Cond.fieldLinkNest RX5 41 "JealousChoir$Stand" (TX7 1).2.1 (TX7 1).2.2.1 "JealousChoir" ∈ nW := nw_mk (i := 162) (by decide +kernel) rfl
theorem gf_X5_41 (C : Cx g X cc RX5 nL d) {o : Nat} (ho : o < 18) (hd : decode cc pc = .ok (.getfield 41, 3)) (kk : Kj g X nL (pc + 3) lv (.ref (ga g o 1) :: st) M) : Kj g X nL pc lv (.ref (ga g o 0) :: st) M := kj_getN C (rc_st ho).1 (rc_st ho).2 ing_X7 (k := 1) (by decide) fl_X5_41 (by decide) (by rw [flds_st ho]; rfl) hd kk
theorem fl_X5_46 : Cond.fieldLinkNest RX5 46 "JealousChoir$Roll" (TX4 0).2.1 (TX4 0).2.2.1 "JealousChoir" ∈ nW := nw_mk (i := 128) (by decide +kernel) rfl
theorem gf_X5_46 (C : Cx g X cc RX5 nL d) (hd : decode cc pc = .ok (.getfield 46, 3)) (kk : Kj g X nL (pc + 3) lv (.ref (ga g 19 1) :: st) M) : Kj g X nL pc lv (.ref (ga g 19 0) :: st) M := kj_getN C rc_19.1 rc_19.2 ing_X4 (k := 0) (by decide) fl_X5_46 (by decide) (rfl) hd kk
theorem fl_X5_49 : Cond.fieldLinkNest RX5 49 "JealousChoir$Roll" (TX4 1).2.1 (TX4 1).2.2.1 "JealousChoir" ∈ nW := nw_mk (i := 133) (by decide +kernel) rfl
theorem gf_X5_49 (C : Cx g X cc RX5 nL d) (hd : decode cc pc = .ok (.getfield 49, 3)) (kk : Kj g X nL (pc + 3) lv (.ref (ga g 19 2) :: st) M) : Kj g X nL pc lv (.ref (ga g 19 0) :: st) M := kj_getN C rc_19.1 rc_19.2 ing_X4 (k := 1) (by decide) fl_X5_49 (by decide) (rfl) hd kk
theorem fl_X5_52 : Cond.fieldLinkNest RX5 52 "JealousChoir$Stand" (TX7 2).2.1 (TX7 2).2.2.1 "JealousChoir" ∈ nW := nw_mk (i := 165) (by decide +kernel) rfl
theorem gf_X5_52 (C : Cx g X cc RX5 nL d) {o : Nat} (ho : o < 18) (hd : decode cc pc = .ok (.getfield 52, 3)) (kk : Kj g X nL (pc + 3) lv (.ref (ga g o 2) :: st) M) : Kj g X nL pc lv (.ref (ga g o 0) :: st) M := kj_getN C (rc_st ho).1 (rc_st ho).2 ing_X7 (k := 2) (by decide) fl_X5_52 (by decide) (by rw [flds_st ho]; rfl) hd kk
theorem fl_X5_55 : Cond.fieldLinkNest RX5 55 "JealousChoir$Roll" (TX4 2).2.1 (TX4 2).2.2.1 "JealousChoir" ∈ nW := nw_mk (i := 139) (by decide +kernel) rfl
theorem gf_X5_55 (C : Cx g X cc RX5 nL d) (hd : decode cc pc = .ok (.getfield 55, 3)) (kk : Kj g X nL (pc + 3) lv (.ref (ga g 19 3) :: st) M) : Kj g X nL pc lv (.ref (ga g 19 0) :: st) M := kj_getN C rc_19.1 rc_19.2 ing_X4 (k := 2) (by decide) fl_X5_55 (by decide) (rfl) hd kk
theorem fl_X5_62 : Cond.fieldLinkNest RX5 62 "JealousChoir$Stand" (TX7 5).2.1 (TX7 5).2.2.1 "JealousChoir" ∈ nW := nw_mk (i := 175) (by decide +kernel) rfl
theorem pf_X5_62 (C : Cx g X cc RX5 nL d) {o : Nat} (ho : o < 18) {x : Int32} (hd : decode cc pc = .ok (.putfield 62, 3)) (kk : Kj g X nL (pc + 3) lv st (sw M o 0 5 x)) : Kj g X nL pc lv (.int x :: .ref (ga g o 0) :: st) M := kj_putN C (rc_st ho).1 (rc_st ho).2 ing_X7 tyX7_ok nmX7 (k := 5) (by decide) fl_X5_62 (by decide) (by decide) (ty := .int) (by decide +kernel) rfl rfl (by rw [flds_st ho]; exact Nat.le_of_ble_eq_true rfl) cel_sr (by rw [flds_st ho, flds_st ho, sr_same]; rfl) hd kk
theorem fl_X5_65 : Cond.fieldLinkNest RX5 65 "JealousChoir$Stand" (TX7 6).2.1 (TX7 6).2.2.1 "JealousChoir" ∈ nW := nw_mk (i := 177) (by decide +kernel) rfl
theorem pf_X5_65 (C : Cx g X cc RX5 nL d) {o : Nat} (ho : o < 18) {x : Int32} (hd : decode cc pc = .ok (.putfield 65, 3)) (kk : Kj g X nL (pc + 3) lv st (sw M o 0 6 x)) : Kj g X nL pc lv (.int x :: .ref (ga g o 0) :: st) M := kj_putN C (rc_st ho).1 (rc_st ho).2 ing_X7 tyX7_ok nmX7 (k := 6) (by decide) fl_X5_65 (by decide) (by decide) (ty := .int) (by decide +kernel) rfl rfl (by rw [flds_st ho]; exact Nat.le_of_ble_eq_true rfl) cel_sr (by rw [flds_st ho, flds_st ho, sr_same]; rfl) hd kk
theorem fl_X5_68 : Cond.fieldLinkNest RX5 68 "JealousChoir$Stand" (TX7 7).2.1 (TX7 7).2.2.1 "JealousChoir" ∈ nW := nw_mk (i := 180) (by decide +kernel) rfl
theorem pf_X5_68 (C : Cx g X cc RX5 nL d) {o : Nat} (ho : o < 18) {x : Int32} (hd : decode cc pc = .ok (.putfield 68, 3)) (kk : Kj g X nL (pc + 3) lv st (sw M o 0 7 x)) : Kj g X nL pc lv (.int x :: .ref (ga g o 0) :: st) M := kj_putN C (rc_st ho).1 (rc_st ho).2 ing_X7 tyX7_ok nmX7 (k := 7) (by decide) fl_X5_68 (by decide) (by decide) (ty := .int) (by decide +kernel) rfl rfl (by rw [flds_st ho]; exact Nat.le_of_ble_eq_true rfl) cel_sr (by rw [flds_st ho, flds_st ho, sr_same]; rfl) hd kk
theorem fl_X6_11 : Cond.fieldLink RX6 11 "JealousChoir$Shelf" (TX6 0).2.1 (TX6 0).2.2.1 ∈ gW := gw_mk (i := 227) (by decide +kernel) rfl
theorem gf_X6_11 (C : Cx g X cc RX6 nL d) (hd : decode cc pc = .ok (.getfield 11, 3)) (kk : Kj g X nL (pc + 3) lv (.ref (ga g 22 1) :: st) M) : Kj g X nL pc lv (.ref (ga g 22 0) :: st) M := kj_get C rc_22.1 rc_22.2 ing_X6 (k := 0) (by decide) fl_X6_11 (by decide) (rfl) hd kk
theorem fl_X6_17 : Cond.fieldLink RX6 17 "JealousChoir$Shelf" (TX6 1).2.1 (TX6 1).2.2.1 ∈ gW := gw_mk (i := 228) (by decide +kernel) rfl
theorem gf_X6_17 (C : Cx g X cc RX6 nL d) (hd : decode cc pc = .ok (.getfield 17, 3)) (kk : Kj g X nL (pc + 3) lv (.int (M.1 22 0 1) :: st) M) : Kj g X nL pc lv (.ref (ga g 22 0) :: st) M := kj_get C rc_22.1 rc_22.2 ing_X6 (k := 1) (by decide) fl_X6_17 (by decide) (rfl) hd kk
theorem pf_X6_17 (C : Cx g X cc RX6 nL d) {x : Int32} (hd : decode cc pc = .ok (.putfield 17, 3)) (kk : Kj g X nL (pc + 3) lv st (sw M 22 0 1 x)) : Kj g X nL pc lv (.int x :: .ref (ga g 22 0) :: st) M := kj_put C rc_22.1 rc_22.2 ing_X6 tyX6_ok nmX6 (k := 1) (by decide) fl_X6_17 (by decide) (by decide) (ty := .int) (by decide +kernel) rfl rfl (Nat.le_of_ble_eq_true rfl) cel_sr (rfl) hd kk
theorem fl_X7_9 : Cond.fieldLink RX7 9 "JealousChoir$Stand" (TX7 1).2.1 (TX7 1).2.2.1 ∈ gW := gw_mk (i := 161) (by decide +kernel) rfl
theorem gf_X7_9 (C : Cx g X cc RX7 nL d) {o : Nat} (ho : o < 18) (hd : decode cc pc = .ok (.getfield 9, 3)) (kk : Kj g X nL (pc + 3) lv (.ref (ga g o 1) :: st) M) : Kj g X nL pc lv (.ref (ga g o 0) :: st) M := kj_get C (rc_st ho).1 (rc_st ho).2 ing_X7 (k := 1) (by decide) fl_X7_9 (by decide) (by rw [flds_st ho]; rfl) hd kk
theorem fl_X7_15 : Cond.fieldLink RX7 15 "JealousChoir$Stand" (TX7 2).2.1 (TX7 2).2.2.1 ∈ gW := gw_mk (i := 164) (by decide +kernel) rfl
theorem gf_X7_15 (C : Cx g X cc RX7 nL d) {o : Nat} (ho : o < 18) (hd : decode cc pc = .ok (.getfield 15, 3)) (kk : Kj g X nL (pc + 3) lv (.ref (ga g o 2) :: st) M) : Kj g X nL pc lv (.ref (ga g o 0) :: st) M := kj_get C (rc_st ho).1 (rc_st ho).2 ing_X7 (k := 2) (by decide) fl_X7_15 (by decide) (by rw [flds_st ho]; rfl) hd kk
theorem fl_X7_18 : Cond.fieldLink RX7 18 "JealousChoir$Stand" (TX7 3).2.1 (TX7 3).2.2.1 ∈ gW := gw_mk (i := 168) (by decide +kernel) rfl
theorem gf_X7_18 (C : Cx g X cc RX7 nL d) {o : Nat} (ho : o < 18) (hd : decode cc pc = .ok (.getfield 18, 3)) (kk : Kj g X nL (pc + 3) lv (.ref (ga g o 3) :: st) M) : Kj g X nL pc lv (.ref (ga g o 0) :: st) M := kj_get C (rc_st ho).1 (rc_st ho).2 ing_X7 (k := 3) (by decide) fl_X7_18 (by decide) (by rw [flds_st ho]; rfl) hd kk
theorem fl_X7_21 : Cond.fieldLink RX7 21 "JealousChoir$Stand" (TX7 4).2.1 (TX7 4).2.2.1 ∈ gW := gw_mk (i := 172) (by decide +kernel) rfl
theorem gf_X7_21 (C : Cx g X cc RX7 nL d) {o : Nat} (ho : o < 18) (hd : decode cc pc = .ok (.getfield 21, 3)) (kk : Kj g X nL (pc + 3) lv (.ref (ga g o 4) :: st) M) : Kj g X nL pc lv (.ref (ga g o 0) :: st) M := kj_get C (rc_st ho).1 (rc_st ho).2 ing_X7 (k := 4) (by decide) fl_X7_21 (by decide) (by rw [flds_st ho]; rfl) hd kk
theorem fl_X7_24 : Cond.fieldLink RX7 24 "JealousChoir$Stand" (TX7 5).2.1 (TX7 5).2.2.1 ∈ gW := gw_mk (i := 173) (by decide +kernel) rfl
theorem gf_X7_24 (C : Cx g X cc RX7 nL d) {o : Nat} (ho : o < 18) (hd : decode cc pc = .ok (.getfield 24, 3)) (kk : Kj g X nL (pc + 3) lv (.int (M.1 o 0 5) :: st) M) : Kj g X nL pc lv (.ref (ga g o 0) :: st) M := kj_get C (rc_st ho).1 (rc_st ho).2 ing_X7 (k := 5) (by decide) fl_X7_24 (by decide) (by rw [flds_st ho]; rfl) hd kk
theorem pf_X7_24 (C : Cx g X cc RX7 nL d) {o : Nat} (ho : o < 18) {x : Int32} (hd : decode cc pc = .ok (.putfield 24, 3)) (kk : Kj g X nL (pc + 3) lv st (sw M o 0 5 x)) : Kj g X nL pc lv (.int x :: .ref (ga g o 0) :: st) M := kj_put C (rc_st ho).1 (rc_st ho).2 ing_X7 tyX7_ok nmX7 (k := 5) (by decide) fl_X7_24 (by decide) (by decide) (ty := .int) (by decide +kernel) rfl rfl (by rw [flds_st ho]; exact Nat.le_of_ble_eq_true rfl) cel_sr (by rw [flds_st ho, flds_st ho, sr_same]; rfl) hd kk
theorem fl_X7_28 : Cond.fieldLink RX7 28 "JealousChoir$Stand" (TX7 6).2.1 (TX7 6).2.2.1 ∈ gW := gw_mk (i := 176) (by decide +kernel) rfl
theorem gf_X7_28 (C : Cx g X cc RX7 nL d) {o : Nat} (ho : o < 18) (hd : decode cc pc = .ok (.getfield 28, 3)) (kk : Kj g X nL (pc + 3) lv (.int (M.1 o 0 6) :: st) M) : Kj g X nL pc lv (.ref (ga g o 0) :: st) M := kj_get C (rc_st ho).1 (rc_st ho).2 ing_X7 (k := 6) (by decide) fl_X7_28 (by decide) (by rw [flds_st ho]; rfl) hd kk
theorem pf_X7_28 (C : Cx g X cc RX7 nL d) {o : Nat} (ho : o < 18) {x : Int32} (hd : decode cc pc = .ok (.putfield 28, 3)) (kk : Kj g X nL (pc + 3) lv st (sw M o 0 6 x)) : Kj g X nL pc lv (.int x :: .ref (ga g o 0) :: st) M := kj_put C (rc_st ho).1 (rc_st ho).2 ing_X7 tyX7_ok nmX7 (k := 6) (by decide) fl_X7_28 (by decide) (by decide) (ty := .int) (by decide +kernel) rfl rfl (by rw [flds_st ho]; exact Nat.le_of_ble_eq_true rfl) cel_sr (by rw [flds_st ho, flds_st ho, sr_same]; rfl) hd kk
theorem fl_X7_31 : Cond.fieldLink RX7 31 "JealousChoir$Stand" (TX7 7).2.1 (TX7 7).2.2.1 ∈ gW := gw_mk (i := 179) (by decide +kernel) rfl
theorem gf_X7_31 (C : Cx g X cc RX7 nL d) {o : Nat} (ho : o < 18) (hd : decode cc pc = .ok (.getfield 31, 3)) (kk : Kj g X nL (pc + 3) lv (.int (M.1 o 0 7) :: st) M) : Kj g X nL pc lv (.ref (ga g o 0) :: st) M := kj_get C (rc_st ho).1 (rc_st ho).2 ing_X7 (k := 7) (by decide) fl_X7_31 (by decide) (by rw [flds_st ho]; rfl) hd kk
theorem pf_X7_31 (C : Cx g X cc RX7 nL d) {o : Nat} (ho : o < 18) {x : Int32} (hd : decode cc pc = .ok (.putfield 31, 3)) (kk : Kj g X nL (pc + 3) lv st (sw M o 0 7 x)) : Kj g X nL pc lv (.int x :: .ref (ga g o 0) :: st) M := kj_put C (rc_st ho).1 (rc_st ho).2 ing_X7 tyX7_ok nmX7 (k := 7) (by decide) fl_X7_31 (by decide) (by decide) (ty := .int) (by decide +kernel) rfl rfl (by rw [flds_st ho]; exact Nat.le_of_ble_eq_true rfl) cel_sr (by rw [flds_st ho, flds_st ho, sr_same]; rfl) hd kk
theorem fl_X7_34 : Cond.fieldLink RX7 34 "JealousChoir$Stand" (TX7 0).2.1 (TX7 0).2.2.1 ∈ gW := gw_mk (i := 160) (by decide +kernel) rfl
theorem gf_X7_34 (C : Cx g X cc RX7 nL d) {o : Nat} (ho : o < 18) (hd : decode cc pc = .ok (.getfield 34, 3)) (kk : Kj g X nL (pc + 3) lv (.ref (ga g 19 0) :: st) M) : Kj g X nL pc lv (.ref (ga g o 0) :: st) M := kj_get C (rc_st ho).1 (rc_st ho).2 ing_X7 (k := 0) (by decide) fl_X7_34 (by decide) (by rw [flds_st ho]; rfl) hd kk
theorem fl_X7_44 : Cond.fieldLinkNest RX7 44 "JealousChoir$Roll" (TX4 2).2.1 (TX4 2).2.2.1 "JealousChoir" ∈ nW := nw_mk (i := 137) (by decide +kernel) rfl
theorem gf_X7_44 (C : Cx g X cc RX7 nL d) (hd : decode cc pc = .ok (.getfield 44, 3)) (kk : Kj g X nL (pc + 3) lv (.ref (ga g 19 3) :: st) M) : Kj g X nL pc lv (.ref (ga g 19 0) :: st) M := kj_getN C rc_19.1 rc_19.2 ing_X4 (k := 2) (by decide) fl_X7_44 (by decide) (rfl) hd kk
theorem fl_X7_61 : Cond.fieldLinkNest RX7 61 "JealousChoir$Roll" (TX4 0).2.1 (TX4 0).2.2.1 "JealousChoir" ∈ nW := nw_mk (i := 131) (by decide +kernel) rfl
theorem gf_X7_61 (C : Cx g X cc RX7 nL d) (hd : decode cc pc = .ok (.getfield 61, 3)) (kk : Kj g X nL (pc + 3) lv (.ref (ga g 19 1) :: st) M) : Kj g X nL pc lv (.ref (ga g 19 0) :: st) M := kj_getN C rc_19.1 rc_19.2 ing_X4 (k := 0) (by decide) fl_X7_61 (by decide) (rfl) hd kk
theorem fl_X7_64 : Cond.fieldLinkNest RX7 64 "JealousChoir$Roll" (TX4 1).2.1 (TX4 1).2.2.1 "JealousChoir" ∈ nW := nw_mk (i := 135) (by decide +kernel) rfl
theorem gf_X7_64 (C : Cx g X cc RX7 nL d) (hd : decode cc pc = .ok (.getfield 64, 3)) (kk : Kj g X nL (pc + 3) lv (.ref (ga g 19 2) :: st) M) : Kj g X nL pc lv (.ref (ga g 19 0) :: st) M := kj_getN C rc_19.1 rc_19.2 ing_X4 (k := 1) (by decide) fl_X7_64 (by decide) (rfl) hd kk
theorem fl_X8_7 : Cond.fieldLink RX8 7 "JealousChoir$Years" (TX8 2).2.1 (TX8 2).2.2.1 ∈ gW := gw_mk (i := 306) (by decide +kernel) rfl
theorem gf_X8_7 (C : Cx g X cc RX8 nL d) (hd : decode cc pc = .ok (.getfield 7, 3)) (kk : Kj g X nL (pc + 3) lv (.long (M.2 26) :: st) M) : Kj g X nL pc lv (.ref (ga g 26 0) :: st) M := kj_get C rc_26.1 rc_26.2 ing_X8 (k := 2) (by decide) fl_X8_7 (by decide) (rfl) hd kk
theorem pf_X8_7 (C : Cx g X cc RX8 nL d) {x : Int64} (hd : decode cc pc = .ok (.putfield 7, 3)) (kk : Kj g X nL (pc + 3) lv st (sl M 26 x)) : Kj g X nL pc lv (.long x :: .ref (ga g 26 0) :: st) M := kj_put C rc_26.1 rc_26.2 ing_X8 tyX8_ok nmX8 (k := 2) (by decide) fl_X8_7 (by decide) (by decide) (ty := .long) (by decide +kernel) rfl rfl (Nat.le_of_ble_eq_true rfl) cel_sl (rfl) hd kk
theorem fl_X8_13 : Cond.fieldLink RX8 13 "JealousChoir$Years" (TX8 0).2.1 (TX8 0).2.2.1 ∈ gW := gw_mk (i := 304) (by decide +kernel) rfl
theorem gf_X8_13 (C : Cx g X cc RX8 nL d) (hd : decode cc pc = .ok (.getfield 13, 3)) (kk : Kj g X nL (pc + 3) lv (.ref (ga g 0 0) :: st) M) : Kj g X nL pc lv (.ref (ga g 26 0) :: st) M := kj_get C rc_26.1 rc_26.2 ing_X8 (k := 0) (by decide) fl_X8_13 (by decide) (rfl) hd kk
theorem fl_X8_17 : Cond.fieldLink RX8 17 "JealousChoir$Years" (TX8 1).2.1 (TX8 1).2.2.1 ∈ gW := gw_mk (i := 305) (by decide +kernel) rfl
theorem gf_X8_17 (C : Cx g X cc RX8 nL d) (hd : decode cc pc = .ok (.getfield 17, 3)) (kk : Kj g X nL (pc + 3) lv (.ref (ga g 1 0) :: st) M) : Kj g X nL pc lv (.ref (ga g 26 0) :: st) M := kj_get C rc_26.1 rc_26.2 ing_X8 (k := 1) (by decide) fl_X8_17 (by decide) (rfl) hd kk
theorem fl_X9_10 : Cond.fieldLink RX9 10 "JealousChoir" (TX9 0).2.1 (TX9 0).2.2.1 ∈ gW := gw_mk (i := 315) (by decide +kernel) rfl
theorem gf_X9_10 (C : Cx g X cc RX9 nL d) (hd : decode cc pc = .ok (.getfield 10, 3)) (kk : Kj g X nL (pc + 3) lv (.ref (ga g 18 0) :: st) M) : Kj g X nL pc lv (.ref (ga g 20 0) :: st) M := kj_get C rc_20.1 rc_20.2 ing_X9 (k := 0) (by decide) fl_X9_10 (by decide) (rfl) hd kk
theorem fl_X9_19 : Cond.fieldLink RX9 19 "JealousChoir" (TX9 1).2.1 (TX9 1).2.2.1 ∈ gW := gw_mk (i := 316) (by decide +kernel) rfl
theorem gf_X9_19 (C : Cx g X cc RX9 nL d) (hd : decode cc pc = .ok (.getfield 19, 3)) (kk : Kj g X nL (pc + 3) lv (.ref (ga g 19 0) :: st) M) : Kj g X nL pc lv (.ref (ga g 20 0) :: st) M := kj_get C rc_20.1 rc_20.2 ing_X9 (k := 1) (by decide) fl_X9_19 (by decide) (rfl) hd kk
theorem fl_X9_28 : Cond.fieldLink RX9 28 "JealousChoir" (TX9 2).2.1 (TX9 2).2.2.1 ∈ gW := gw_mk (i := 317) (by decide +kernel) rfl
theorem gf_X9_28 (C : Cx g X cc RX9 nL d) (hd : decode cc pc = .ok (.getfield 28, 3)) (kk : Kj g X nL (pc + 3) lv (.ref (ga g 0 0) :: st) M) : Kj g X nL pc lv (.ref (ga g 20 0) :: st) M := kj_get C rc_20.1 rc_20.2 ing_X9 (k := 2) (by decide) fl_X9_28 (by decide) (rfl) hd kk
theorem fl_X9_38 : Cond.fieldLink RX9 38 "JealousChoir" (TX9 4).2.1 (TX9 4).2.2.1 ∈ gW := gw_mk (i := 319) (by decide +kernel) rfl
theorem gf_X9_38 (C : Cx g X cc RX9 nL d) (hd : decode cc pc = .ok (.getfield 38, 3)) (kk : Kj g X nL (pc + 3) lv (.ref (ga g 21 0) :: st) M) : Kj g X nL pc lv (.ref (ga g 20 0) :: st) M := kj_get C rc_20.1 rc_20.2 ing_X9 (k := 4) (by decide) fl_X9_38 (by decide) (rfl) hd kk
theorem fl_X9_45 : Cond.fieldLink RX9 45 "JealousChoir" (TX9 5).2.1 (TX9 5).2.2.1 ∈ gW := gw_mk (i := 320) (by decide +kernel) rfl
theorem gf_X9_45 (C : Cx g X cc RX9 nL d) (hd : decode cc pc = .ok (.getfield 45, 3)) (kk : Kj g X nL (pc + 3) lv (.ref (ga g 22 0) :: st) M) : Kj g X nL pc lv (.ref (ga g 20 0) :: st) M := kj_get C rc_20.1 rc_20.2 ing_X9 (k := 5) (by decide) fl_X9_45 (by decide) (rfl) hd kk
theorem fl_X9_52 : Cond.fieldLink RX9 52 "JealousChoir" (TX9 6).2.1 (TX9 6).2.2.1 ∈ gW := gw_mk (i := 321) (by decide +kernel) rfl
theorem gf_X9_52 (C : Cx g X cc RX9 nL d) (hd : decode cc pc = .ok (.getfield 52, 3)) (kk : Kj g X nL (pc + 3) lv (.ref (ga g 23 0) :: st) M) : Kj g X nL pc lv (.ref (ga g 20 0) :: st) M := kj_get C rc_20.1 rc_20.2 ing_X9 (k := 6) (by decide) fl_X9_52 (by decide) (rfl) hd kk
theorem fl_X9_61 : Cond.fieldLink RX9 61 "JealousChoir" (TX9 7).2.1 (TX9 7).2.2.1 ∈ gW := gw_mk (i := 322) (by decide +kernel) rfl
theorem gf_X9_61 (C : Cx g X cc RX9 nL d) (hd : decode cc pc = .ok (.getfield 61, 3)) (kk : Kj g X nL (pc + 3) lv (.ref (ga g 24 0) :: st) M) : Kj g X nL pc lv (.ref (ga g 20 0) :: st) M := kj_get C rc_20.1 rc_20.2 ing_X9 (k := 7) (by decide) fl_X9_61 (by decide) (rfl) hd kk
theorem fl_X9_68 : Cond.fieldLink RX9 68 "JealousChoir" (TX9 8).2.1 (TX9 8).2.2.1 ∈ gW := gw_mk (i := 323) (by decide +kernel) rfl
theorem gf_X9_68 (C : Cx g X cc RX9 nL d) (hd : decode cc pc = .ok (.getfield 68, 3)) (kk : Kj g X nL (pc + 3) lv (.ref (ga g 25 0) :: st) M) : Kj g X nL pc lv (.ref (ga g 20 0) :: st) M := kj_get C rc_20.1 rc_20.2 ing_X9 (k := 8) (by decide) fl_X9_68 (by decide) (rfl) hd kk
theorem fl_X9_77 : Cond.fieldLink RX9 77 "JealousChoir" (TX9 9).2.1 (TX9 9).2.2.1 ∈ gW := gw_mk (i := 324) (by decide +kernel) rfl
theorem gf_X9_77 (C : Cx g X cc RX9 nL d) (hd : decode cc pc = .ok (.getfield 77, 3)) (kk : Kj g X nL (pc + 3) lv (.ref (ga g 26 0) :: st) M) : Kj g X nL pc lv (.ref (ga g 20 0) :: st) M := kj_get C rc_20.1 rc_20.2 ing_X9 (k := 9) (by decide) fl_X9_77 (by decide) (rfl) hd kk
theorem fl_X9_85 : Cond.fieldLinkNest RX9 85 "JealousChoir$Script" (TX5 1).2.1 (TX5 1).2.2.1 "JealousChoir" ∈ nW := nw_mk (i := 114) (by decide +kernel) rfl
theorem gf_X9_85 (C : Cx g X cc RX9 nL d) (hd : decode cc pc = .ok (.getfield 85, 3)) (kk : Kj g X nL (pc + 3) lv (.int (M.1 18 0 1) :: st) M) : Kj g X nL pc lv (.ref (ga g 18 0) :: st) M := kj_getN C rc_18.1 rc_18.2 ing_X5 (k := 1) (by decide) fl_X9_85 (by decide) (rfl) hd kk
theorem pf_X9_85 (C : Cx g X cc RX9 nL d) {x : Int32} (hd : decode cc pc = .ok (.putfield 85, 3)) (kk : Kj g X nL (pc + 3) lv st (sw M 18 0 1 x)) : Kj g X nL pc lv (.int x :: .ref (ga g 18 0) :: st) M := kj_putN C rc_18.1 rc_18.2 ing_X5 tyX5_ok nmX5 (k := 1) (by decide) fl_X9_85 (by decide) (by decide) (ty := .int) (by decide +kernel) rfl rfl (Nat.le_of_ble_eq_true rfl) cel_sr (rfl) hd kk
theorem fl_X9_101 : Cond.fieldLinkNest RX9 101 "JealousChoir$Roll" (TX4 3).2.1 (TX4 3).2.2.1 "JealousChoir" ∈ nW := nw_mk (i := 142) (by decide +kernel) rfl
theorem gf_X9_101 (C : Cx g X cc RX9 nL d) (hd : decode cc pc = .ok (.getfield 101, 3)) (kk : Kj g X nL (pc + 3) lv (.int (M.1 19 0 3) :: st) M) : Kj g X nL pc lv (.ref (ga g 19 0) :: st) M := kj_getN C rc_19.1 rc_19.2 ing_X4 (k := 3) (by decide) fl_X9_101 (by decide) (rfl) hd kk
theorem fl_X9_107 : Cond.fieldLinkNest RX9 107 "JealousChoir$Stand" (TX7 1).2.1 (TX7 1).2.2.1 "JealousChoir" ∈ nW := nw_mk (i := 163) (by decide +kernel) rfl
theorem gf_X9_107 (C : Cx g X cc RX9 nL d) {o : Nat} (ho : o < 18) (hd : decode cc pc = .ok (.getfield 107, 3)) (kk : Kj g X nL (pc + 3) lv (.ref (ga g o 1) :: st) M) : Kj g X nL pc lv (.ref (ga g o 0) :: st) M := kj_getN C (rc_st ho).1 (rc_st ho).2 ing_X7 (k := 1) (by decide) fl_X9_107 (by decide) (by rw [flds_st ho]; rfl) hd kk
theorem fl_X9_111 : Cond.fieldLinkNest RX9 111 "JealousChoir$Roll" (TX4 0).2.1 (TX4 0).2.2.1 "JealousChoir" ∈ nW := nw_mk (i := 129) (by decide +kernel) rfl
theorem gf_X9_111 (C : Cx g X cc RX9 nL d) (hd : decode cc pc = .ok (.getfield 111, 3)) (kk : Kj g X nL (pc + 3) lv (.ref (ga g 19 1) :: st) M) : Kj g X nL pc lv (.ref (ga g 19 0) :: st) M := kj_getN C rc_19.1 rc_19.2 ing_X4 (k := 0) (by decide) fl_X9_111 (by decide) (rfl) hd kk
theorem fl_X9_114 : Cond.fieldLinkNest RX9 114 "JealousChoir$Roll" (TX4 1).2.1 (TX4 1).2.2.1 "JealousChoir" ∈ nW := nw_mk (i := 134) (by decide +kernel) rfl
theorem gf_X9_114 (C : Cx g X cc RX9 nL d) (hd : decode cc pc = .ok (.getfield 114, 3)) (kk : Kj g X nL (pc + 3) lv (.ref (ga g 19 2) :: st) M) : Kj g X nL pc lv (.ref (ga g 19 0) :: st) M := kj_getN C rc_19.1 rc_19.2 ing_X4 (k := 1) (by decide) fl_X9_114 (by decide) (rfl) hd kk
theorem fl_X9_117 : Cond.fieldLinkNest RX9 117 "JealousChoir$Stand" (TX7 2).2.1 (TX7 2).2.2.1 "JealousChoir" ∈ nW := nw_mk (i := 166) (by decide +kernel) rfl
theorem gf_X9_117 (C : Cx g X cc RX9 nL d) {o : Nat} (ho : o < 18) (hd : decode cc pc = .ok (.getfield 117, 3)) (kk : Kj g X nL (pc + 3) lv (.ref (ga g o 2) :: st) M) : Kj g X nL pc lv (.ref (ga g o 0) :: st) M := kj_getN C (rc_st ho).1 (rc_st ho).2 ing_X7 (k := 2) (by decide) fl_X9_117 (by decide) (by rw [flds_st ho]; rfl) hd kk
theorem fl_X9_120 : Cond.fieldLinkNest RX9 120 "JealousChoir$Roll" (TX4 2).2.1 (TX4 2).2.2.1 "JealousChoir" ∈ nW := nw_mk (i := 138) (by decide +kernel) rfl
theorem gf_X9_120 (C : Cx g X cc RX9 nL d) (hd : decode cc pc = .ok (.getfield 120, 3)) (kk : Kj g X nL (pc + 3) lv (.ref (ga g 19 3) :: st) M) : Kj g X nL pc lv (.ref (ga g 19 0) :: st) M := kj_getN C rc_19.1 rc_19.2 ing_X4 (k := 2) (by decide) fl_X9_120 (by decide) (rfl) hd kk
theorem fl_X9_123 : Cond.fieldLinkNest RX9 123 "JealousChoir$Stand" (TX7 3).2.1 (TX7 3).2.2.1 "JealousChoir" ∈ nW := nw_mk (i := 171) (by decide +kernel) rfl
theorem gf_X9_123 (C : Cx g X cc RX9 nL d) {o : Nat} (ho : o < 18) (hd : decode cc pc = .ok (.getfield 123, 3)) (kk : Kj g X nL (pc + 3) lv (.ref (ga g o 3) :: st) M) : Kj g X nL pc lv (.ref (ga g o 0) :: st) M := kj_getN C (rc_st ho).1 (rc_st ho).2 ing_X7 (k := 3) (by decide) fl_X9_123 (by decide) (by rw [flds_st ho]; rfl) hd kk
theorem fl_X9_151 : Cond.fieldLinkNest RX9 151 "JealousChoir$Stand" (TX7 7).2.1 (TX7 7).2.2.1 "JealousChoir" ∈ nW := nw_mk (i := 181) (by decide +kernel) rfl
theorem gf_X9_151 (C : Cx g X cc RX9 nL d) {o : Nat} (ho : o < 18) (hd : decode cc pc = .ok (.getfield 151, 3)) (kk : Kj g X nL (pc + 3) lv (.int (M.1 o 0 7) :: st) M) : Kj g X nL pc lv (.ref (ga g o 0) :: st) M := kj_getN C (rc_st ho).1 (rc_st ho).2 ing_X7 (k := 7) (by decide) fl_X9_151 (by decide) (by rw [flds_st ho]; rfl) hd kk
theorem pf_X9_151 (C : Cx g X cc RX9 nL d) {o : Nat} (ho : o < 18) {x : Int32} (hd : decode cc pc = .ok (.putfield 151, 3)) (kk : Kj g X nL (pc + 3) lv st (sw M o 0 7 x)) : Kj g X nL pc lv (.int x :: .ref (ga g o 0) :: st) M := kj_putN C (rc_st ho).1 (rc_st ho).2 ing_X7 tyX7_ok nmX7 (k := 7) (by decide) fl_X9_151 (by decide) (by decide) (ty := .int) (by decide +kernel) rfl rfl (by rw [flds_st ho]; exact Nat.le_of_ble_eq_true rfl) cel_sr (by rw [flds_st ho, flds_st ho, sr_same]; rfl) hd kk
theorem fl_X9_174 : Cond.fieldLinkNest RX9 174 "JealousChoir$ActRow" (TX0 2).2.1 (TX0 2).2.2.1 "JealousChoir" ∈ nW := nw_mk (i := 211) (by decide +kernel) rfl
theorem gf_X9_174 (C : Cx g X cc RX9 nL d) (hd : decode cc pc = .ok (.getfield 174, 3)) (kk : Kj g X nL (pc + 3) lv (.int (M.1 21 0 2) :: st) M) : Kj g X nL pc lv (.ref (ga g 21 0) :: st) M := kj_getN C rc_21.1 rc_21.2 ing_X0 (k := 2) (by decide) fl_X9_174 (by decide) (rfl) hd kk
theorem fl_X9_207 : Cond.fieldLinkNest RX9 207 "JealousChoir$Hearsay" (TX3 3).2.1 (TX3 3).2.2.1 "JealousChoir" ∈ nW := nw_mk (i := 244) (by decide +kernel) rfl
theorem gf_X9_207 (C : Cx g X cc RX9 nL d) (hd : decode cc pc = .ok (.getfield 207, 3)) (kk : Kj g X nL (pc + 3) lv (.int (M.1 23 0 3) :: st) M) : Kj g X nL pc lv (.ref (ga g 23 0) :: st) M := kj_getN C rc_23.1 rc_23.2 ing_X3 (k := 3) (by decide) fl_X9_207 (by decide) (rfl) hd kk
theorem pf_X9_207 (C : Cx g X cc RX9 nL d) {x : Int32} (hd : decode cc pc = .ok (.putfield 207, 3)) (kk : Kj g X nL (pc + 3) lv st (sw M 23 0 3 x)) : Kj g X nL pc lv (.int x :: .ref (ga g 23 0) :: st) M := kj_putN C rc_23.1 rc_23.2 ing_X3 tyX3_ok nmX3 (k := 3) (by decide) fl_X9_207 (by decide) (by decide) (ty := .int) (by decide +kernel) rfl rfl (Nat.le_of_ble_eq_true rfl) cel_sr (rfl) hd kk
theorem fl_X9_222 : Cond.fieldLinkNest RX9 222 "JealousChoir$Years" (TX8 2).2.1 (TX8 2).2.2.1 "JealousChoir" ∈ nW := nw_mk (i := 307) (by decide +kernel) rfl
theorem gf_X9_222 (C : Cx g X cc RX9 nL d) (hd : decode cc pc = .ok (.getfield 222, 3)) (kk : Kj g X nL (pc + 3) lv (.long (M.2 26) :: st) M) : Kj g X nL pc lv (.ref (ga g 26 0) :: st) M := kj_getN C rc_26.1 rc_26.2 ing_X8 (k := 2) (by decide) fl_X9_222 (by decide) (rfl) hd kk
theorem pf_X9_222 (C : Cx g X cc RX9 nL d) {x : Int64} (hd : decode cc pc = .ok (.putfield 222, 3)) (kk : Kj g X nL (pc + 3) lv st (sl M 26 x)) : Kj g X nL pc lv (.long x :: .ref (ga g 26 0) :: st) M := kj_putN C rc_26.1 rc_26.2 ing_X8 tyX8_ok nmX8 (k := 2) (by decide) fl_X9_222 (by decide) (by decide) (ty := .long) (by decide +kernel) rfl rfl (Nat.le_of_ble_eq_true rfl) cel_sl (rfl) hd kk
theorem fl_X9_246 : Cond.fieldLinkNest RX9 246 "JealousChoir$Stand" (TX7 6).2.1 (TX7 6).2.2.1 "JealousChoir" ∈ nW := nw_mk (i := 178) (by decide +kernel) rfl
theorem gf_X9_246 (C : Cx g X cc RX9 nL d) {o : Nat} (ho : o < 18) (hd : decode cc pc = .ok (.getfield 246, 3)) (kk : Kj g X nL (pc + 3) lv (.int (M.1 o 0 6) :: st) M) : Kj g X nL pc lv (.ref (ga g o 0) :: st) M := kj_getN C (rc_st ho).1 (rc_st ho).2 ing_X7 (k := 6) (by decide) fl_X9_246 (by decide) (by rw [flds_st ho]; rfl) hd kk
end KT
theorem ml_X0_27 : Cond.methodLinkNest RX0 27 yX7_copyFrom "JealousChoir" ∈ nW := nw_mk (i := 451) (by decide +kernel) rfl
theorem ml_X0_31 : Cond.methodLink RX0 31 Lib.Math.min.name ∈ gW := gw_mk (i := 455) (by decide +kernel) rfl
theorem ml_X1_32 : Cond.methodLinkNest RX1 32 yX7_copyFrom "JealousChoir" ∈ nW := nw_mk (i := 650) (by decide +kernel) rfl
theorem ml_X1_42 : Cond.methodLinkNest RX1 42 yX7_goOn "JealousChoir" ∈ nW := nw_mk (i := 651) (by decide +kernel) rfl
theorem ml_X1_46 : Cond.methodLinkNest RX1 46 yX7_richness "JealousChoir" ∈ nW := nw_mk (i := 652) (by decide +kernel) rfl
theorem ml_X1_50 : Cond.methodLinkNest RX1 50 yX4_everybody "JealousChoir" ∈ nW := nw_mk (i := 645) (by decide +kernel) rfl
theorem ml_X1_55 : Cond.methodLink RX1 55 yX1_richnessOfSome ∈ gW := gw_mk (i := 646) (by decide +kernel) rfl
theorem ml_X1_59 : Cond.methodLink RX1 59 yJ6_bitCount_0f7a4 ∈ gW := gw_mk (i := 653) (by decide +kernel) rfl
theorem ml_X1_65 : Cond.methodLink RX1 65 yX1_ordersOf ∈ gW := gw_mk (i := 654) (by decide +kernel) rfl
theorem ml_X1_71 : Cond.methodLink RX1 71 yX1_factorial ∈ gW := gw_mk (i := 658) (by decide +kernel) rfl
theorem ml_X1_74 : Cond.methodLinkNest RX1 74 yX9_sideOfFraction "JealousChoir" ∈ nW := nw_mk (i := 663) (by decide +kernel) rfl
theorem ml_X1_81 : Cond.methodLink RX1 81 yX1_giveAndCount ∈ gW := gw_mk (i := 680) (by decide +kernel) rfl
theorem ml_X1_85 : Cond.methodLink RX1 85 yX1_isAtRest ∈ gW := gw_mk (i := 689) (by decide +kernel) rfl
theorem ml_X1_89 : Cond.methodLinkNest RX1 89 yX7_give "JealousChoir" ∈ nW := nw_mk (i := 684) (by decide +kernel) rfl
theorem ml_X1_96 : Cond.methodLinkNest RX1 96 yX7_howManySing "JealousChoir" ∈ nW := nw_mk (i := 685) (by decide +kernel) rfl
theorem ml_X1_99 : Cond.methodLinkNest RX1 99 yX9_power "JealousChoir" ∈ nW := nw_mk (i := 701) (by decide +kernel) rfl
theorem ml_X10_59 : Cond.methodLink RX10 59 yX10_in ∈ gW := gw_mk (i := 854) (by decide +kernel) rfl
theorem ml_X10_74 : Cond.methodLink RX10 74 yX10_has ∈ gW := gw_mk (i := 878) (by decide +kernel) rfl
theorem ml_X10_84 : Cond.methodLink RX10 84 yX10_readPart ∈ gW := gw_mk (i := 869) (by decide +kernel) rfl
theorem ml_X10_88 : Cond.methodLink RX10 88 yX10_figureOf ∈ gW := gw_mk (i := 873) (by decide +kernel) rfl
theorem ml_X10_92 : Cond.methodLink RX10 92 yX10_readText ∈ gW := gw_mk (i := 865) (by decide +kernel) rfl
theorem ml_X10_106 : Cond.methodLink RX10 106 yX10_kindNow ∈ gW := gw_mk (i := 903) (by decide +kernel) rfl
theorem ml_X10_110 : Cond.methodLink RX10 110 yX10_seesOf ∈ gW := gw_mk (i := 893) (by decide +kernel) rfl
theorem ml_X10_113 : Cond.methodLink RX10 113 yX10_enviesOf ∈ gW := gw_mk (i := 899) (by decide +kernel) rfl
theorem ml_X10_116 : Cond.methodLink RX10 116 yX10_noteThen ∈ gW := gw_mk (i := 928) (by decide +kernel) rfl
theorem ml_X10_119 : Cond.methodLink RX10 119 yX10_isSinger ∈ gW := gw_mk (i := 889) (by decide +kernel) rfl
theorem ml_X10_125 : Cond.methodLink RX10 125 yX10_whoAt ∈ gW := gw_mk (i := 912) (by decide +kernel) rfl
theorem ml_X10_131 : Cond.methodLink RX10 131 yX10_keepAct ∈ gW := gw_mk (i := 920) (by decide +kernel) rfl
theorem ml_X10_134 : Cond.methodLink RX10 134 yX10_passOn ∈ gW := gw_mk (i := 924) (by decide +kernel) rfl
theorem ml_X10_137 : Cond.methodLink RX10 137 yX10_notesOn ∈ gW := gw_mk (i := 932) (by decide +kernel) rfl
theorem ml_X10_140 : Cond.methodLink RX10 140 yX10_ones ∈ gW := gw_mk (i := 936) (by decide +kernel) rfl
theorem ml_X10_143 : Cond.methodLink RX10 143 yX10_giveOn ∈ gW := gw_mk (i := 943) (by decide +kernel) rfl
theorem ml_X10_147 : Cond.methodLink RX10 147 yX10_changeOn ∈ gW := gw_mk (i := 951) (by decide +kernel) rfl
theorem ml_X10_150 : Cond.methodLink RX10 150 yX10_pitchOn ∈ gW := gw_mk (i := 959) (by decide +kernel) rfl
theorem ml_X10_155 : Cond.methodLink RX10 155 yX10_layTrial ∈ gW := gw_mk (i := 976) (by decide +kernel) rfl
theorem ml_X10_158 : Cond.methodLink RX10 158 yX10_goOn ∈ gW := gw_mk (i := 980) (by decide +kernel) rfl
theorem ml_X10_161 : Cond.methodLink RX10 161 yX10_singAll ∈ gW := gw_mk (i := 992) (by decide +kernel) rfl
theorem ml_X10_164 : Cond.methodLink RX10 164 yX10_isSung ∈ gW := gw_mk (i := 1008) (by decide +kernel) rfl
theorem ml_X10_168 : Cond.methodLink RX10 168 yX10_leastGift ∈ gW := gw_mk (i := 1004) (by decide +kernel) rfl
theorem ml_X10_172 : Cond.methodLink RX10 172 yX10_notesBy ∈ gW := gw_mk (i := 1016) (by decide +kernel) rfl
theorem ml_X10_179 : Cond.methodLink RX10 179 yX10_thousandTo ∈ gW := gw_mk (i := 1025) (by decide +kernel) rfl
theorem ml_X10_183 : Cond.methodLink RX10 183 yX10_tryThing ∈ gW := gw_mk (i := 1029) (by decide +kernel) rfl
theorem ml_X10_190 : Cond.methodLink RX10 190 yX10_mayHave ∈ gW := gw_mk (i := 1045) (by decide +kernel) rfl
theorem ml_X10_193 : Cond.methodLink RX10 193 yX10_factorial ∈ gW := gw_mk (i := 1053) (by decide +kernel) rfl
theorem ml_X10_196 : Cond.methodLink RX10 196 yX10_notesOf ∈ gW := gw_mk (i := 1056) (by decide +kernel) rfl
theorem ml_X10_199 : Cond.methodLink RX10 199 yX10_common ∈ gW := gw_mk (i := 1060) (by decide +kernel) rfl
theorem ml_X10_202 : Cond.methodLink RX10 202 yX10_gain ∈ gW := gw_mk (i := 1071) (by decide +kernel) rfl
theorem ml_X10_205 : Cond.methodLink RX10 205 yX10_isRest ∈ gW := gw_mk (i := 1067) (by decide +kernel) rfl
theorem ml_X10_211 : Cond.methodLink RX10 211 yX10_power ∈ gW := gw_mk (i := 1080) (by decide +kernel) rfl
theorem ml_X10_226 : Cond.methodLink RX10 226 yX10_takenSeats ∈ gW := gw_mk (i := 1107) (by decide +kernel) rfl
theorem ml_X10_229 : Cond.methodLink RX10 229 yX10_goodsOfAll ∈ gW := gw_mk (i := 1111) (by decide +kernel) rfl
theorem ml_X10_232 : Cond.methodLink RX10 232 yX10_jealous ∈ gW := gw_mk (i := 1115) (by decide +kernel) rfl
theorem ml_X2_26 : Cond.methodLinkNest RX2 26 yX7_copyFrom "JealousChoir" ∈ nW := nw_mk (i := 532) (by decide +kernel) rfl
theorem ml_X2_32 : Cond.methodLinkNest RX2 32 yX7_goOn "JealousChoir" ∈ nW := nw_mk (i := 533) (by decide +kernel) rfl
theorem ml_X2_39 : Cond.methodLinkNest RX2 39 yX7_richness "JealousChoir" ∈ nW := nw_mk (i := 542) (by decide +kernel) rfl
theorem ml_X2_43 : Cond.methodLinkNest RX2 43 yX7_notesAsNumber "JealousChoir" ∈ nW := nw_mk (i := 551) (by decide +kernel) rfl
theorem ml_X2_46 : Cond.methodLink RX2 46 yX2_noteBehind ∈ gW := gw_mk (i := 571) (by decide +kernel) rfl
theorem ml_X2_56 : Cond.methodLinkNest RX2 56 yX7_give "JealousChoir" ∈ nW := nw_mk (i := 572) (by decide +kernel) rfl
theorem ml_X2_60 : Cond.methodLink RX2 60 yX2_richnessBehind ∈ gW := gw_mk (i := 581) (by decide +kernel) rfl
theorem ml_X2_64 : Cond.methodLinkNest RX2 64 yX7_swapSeats "JealousChoir" ∈ nW := nw_mk (i := 582) (by decide +kernel) rfl
theorem ml_X2_67 : Cond.methodLinkNest RX2 67 yX9_withoutDoings "JealousChoir" ∈ nW := nw_mk (i := 595) (by decide +kernel) rfl
theorem ml_X2_73 : Cond.methodLink RX2 73 yX2_canBe ∈ gW := gw_mk (i := 597) (by decide +kernel) rfl
theorem ml_X2_77 : Cond.methodLink RX2 77 yX2_happen ∈ gW := gw_mk (i := 603) (by decide +kernel) rfl
theorem ml_X2_81 : Cond.methodLinkNest RX2 81 yX7_isThere "JealousChoir" ∈ nW := nw_mk (i := 601) (by decide +kernel) rfl
theorem ml_X2_85 : Cond.methodLinkNest RX2 85 yX7_enviedBy "JealousChoir" ∈ nW := nw_mk (i := 602) (by decide +kernel) rfl
theorem ml_X2_88 : Cond.methodLinkNest RX2 88 yX7_takeVoices "JealousChoir" ∈ nW := nw_mk (i := 607) (by decide +kernel) rfl
theorem ml_X2_94 : Cond.methodLink RX2 94 yX2_isAllHeard ∈ gW := gw_mk (i := 628) (by decide +kernel) rfl
theorem ml_X2_98 : Cond.methodLinkNest RX2 98 yX3_allowsAt "JealousChoir" ∈ nW := nw_mk (i := 632) (by decide +kernel) rfl
theorem ml_X3_25 : Cond.methodLinkNest RX3 25 yX7_isThere "JealousChoir" ∈ nW := nw_mk (i := 636) (by decide +kernel) rfl
theorem ml_X5_19 : Cond.methodLink RX5 19 yX5_canStand ∈ gW := gw_mk (i := 366) (by decide +kernel) rfl
theorem ml_X5_23 : Cond.methodLink RX5 23 yX5_part ∈ gW := gw_mk (i := 369) (by decide +kernel) rfl
theorem ml_X5_27 : Cond.methodLinkNest RX5 27 yX9_isWithin "JealousChoir" ∈ nW := nw_mk (i := 372) (by decide +kernel) rfl
theorem ml_X5_30 : Cond.methodLink RX5 30 Lib.Math.min.name ∈ gW := gw_mk (i := 383) (by decide +kernel) rfl
theorem ml_X5_58 : Cond.methodLinkNest RX5 58 yX4_everybody "JealousChoir" ∈ nW := nw_mk (i := 386) (by decide +kernel) rfl
theorem ml_X5_71 : Cond.methodLinkNest RX5 71 yX7_takeVoices "JealousChoir" ∈ nW := nw_mk (i := 390) (by decide +kernel) rfl
theorem ml_X6_24 : Cond.methodLinkNest RX6 24 yX9_isWithin "JealousChoir" ∈ nW := nw_mk (i := 739) (by decide +kernel) rfl
theorem ml_X6_28 : Cond.methodLinkNest RX6 28 yX7_copyFrom "JealousChoir" ∈ nW := nw_mk (i := 740) (by decide +kernel) rfl
theorem ml_X7_38 : Cond.methodLink RX7 38 arraycopyName ∈ gW := gw_mk (i := 394) (by decide +kernel) rfl
theorem ml_X7_49 : Cond.methodLink RX7 49 yX7_isSeen ∈ gW := gw_mk (i := 417) (by decide +kernel) rfl
theorem ml_X7_53 : Cond.methodLink RX7 53 yX7_isHeld ∈ gW := gw_mk (i := 425) (by decide +kernel) rfl
theorem ml_X7_57 : Cond.methodLink RX7 57 yX7_enviedBy ∈ gW := gw_mk (i := 464) (by decide +kernel) rfl
theorem ml_X7_67 : Cond.methodLink RX7 67 Lib.Math.min.name ∈ gW := gw_mk (i := 465) (by decide +kernel) rfl
theorem ml_X7_73 : Cond.methodLink RX7 73 Lib.Math.max.name ∈ gW := gw_mk (i := 466) (by decide +kernel) rfl
theorem ml_X7_76 : Cond.methodLink RX7 76 yX7_isThere ∈ gW := gw_mk (i := 442) (by decide +kernel) rfl
theorem ml_X7_79 : Cond.methodLink RX7 79 yX7_nextNoteOf ∈ gW := gw_mk (i := 460) (by decide +kernel) rfl
theorem ml_X7_82 : Cond.methodLink RX7 82 yX7_bitsOf ∈ gW := gw_mk (i := 477) (by decide +kernel) rfl
theorem ml_X7_86 : Cond.methodLink RX7 86 yX7_notesSung ∈ gW := gw_mk (i := 473) (by decide +kernel) rfl
theorem ml_X7_90 : Cond.methodLink RX7 90 yJ6_bitCount_0f7a4 ∈ gW := gw_mk (i := 481) (by decide +kernel) rfl
theorem ml_X8_20 : Cond.methodLinkNest RX8 20 yX7_copyFrom "JealousChoir" ∈ nW := nw_mk (i := 716) (by decide +kernel) rfl
theorem ml_X8_32 : Cond.methodLink RX8 32 yX8_happen ∈ gW := gw_mk (i := 720) (by decide +kernel) rfl
theorem ml_X8_36 : Cond.methodLinkNest RX8 36 yX7_richness "JealousChoir" ∈ nW := nw_mk (i := 730) (by decide +kernel) rfl
theorem ml_X8_40 : Cond.methodLinkNest RX8 40 yX7_isThere "JealousChoir" ∈ nW := nw_mk (i := 724) (by decide +kernel) rfl
theorem ml_X8_44 : Cond.methodLinkNest RX8 44 yX7_give "JealousChoir" ∈ nW := nw_mk (i := 725) (by decide +kernel) rfl
theorem ml_X8_48 : Cond.methodLinkNest RX8 48 yX7_turnHeldOn "JealousChoir" ∈ nW := nw_mk (i := 726) (by decide +kernel) rfl
theorem ml_X8_51 : Cond.methodLinkNest RX8 51 yX7_swapSeats "JealousChoir" ∈ nW := nw_mk (i := 727) (by decide +kernel) rfl
theorem ml_X8_54 : Cond.methodLinkNest RX8 54 yX7_takeVoices "JealousChoir" ∈ nW := nw_mk (i := 728) (by decide +kernel) rfl
theorem ml_X8_57 : Cond.methodLinkNest RX8 57 yX7_goOn "JealousChoir" ∈ nW := nw_mk (i := 729) (by decide +kernel) rfl
theorem ml_X9_81 : Cond.methodLinkNest RX9 81 yX5_put "JealousChoir" ∈ nW := nw_mk (i := 350) (by decide +kernel) rfl
theorem ml_X9_89 : Cond.methodLinkNest RX9 89 yX5_firstFault "JealousChoir" ∈ nW := nw_mk (i := 362) (by decide +kernel) rfl
theorem ml_X9_93 : Cond.methodLinkNest RX9 93 yX5_tellTo "JealousChoir" ∈ nW := nw_mk (i := 379) (by decide +kernel) rfl
theorem ml_X9_97 : Cond.methodLinkNest RX9 97 yX0_forgetAll "JealousChoir" ∈ nW := nw_mk (i := 397) (by decide +kernel) rfl
theorem ml_X9_100 : Cond.methodLinkNest RX9 100 yX6_forgetAll "JealousChoir" ∈ nW := nw_mk (i := 401) (by decide +kernel) rfl
theorem ml_X9_104 : Cond.methodLinkNest RX9 104 yX7_isThere "JealousChoir" ∈ nW := nw_mk (i := 409) (by decide +kernel) rfl
theorem ml_X9_126 : Cond.methodLinkNest RX9 126 yX7_seenBy "JealousChoir" ∈ nW := nw_mk (i := 413) (by decide +kernel) rfl
theorem ml_X9_130 : Cond.methodLinkNest RX9 130 yX7_enviedBy "JealousChoir" ∈ nW := nw_mk (i := 421) (by decide +kernel) rfl
theorem ml_X9_133 : Cond.methodLinkNest RX9 133 yX7_isHeldOn "JealousChoir" ∈ nW := nw_mk (i := 429) (by decide +kernel) rfl
theorem ml_X9_136 : Cond.methodLink RX9 136 yX9_isWithin ∈ gW := gw_mk (i := 437) (by decide +kernel) rfl
theorem ml_X9_140 : Cond.methodLinkNest RX9 140 yX7_whoIsAt "JealousChoir" ∈ nW := nw_mk (i := 438) (by decide +kernel) rfl
theorem ml_X9_143 : Cond.methodLinkNest RX9 143 yX0_remember "JealousChoir" ∈ nW := nw_mk (i := 447) (by decide +kernel) rfl
theorem ml_X9_147 : Cond.methodLinkNest RX9 147 yX7_goOn "JealousChoir" ∈ nW := nw_mk (i := 456) (by decide +kernel) rfl
theorem ml_X9_154 : Cond.methodLinkNest RX9 154 yX7_richness "JealousChoir" ∈ nW := nw_mk (i := 469) (by decide +kernel) rfl
theorem ml_X9_157 : Cond.methodLinkNest RX9 157 yX7_give "JealousChoir" ∈ nW := nw_mk (i := 491) (by decide +kernel) rfl
theorem ml_X9_161 : Cond.methodLinkNest RX9 161 yX7_swapSeats "JealousChoir" ∈ nW := nw_mk (i := 499) (by decide +kernel) rfl
theorem ml_X9_164 : Cond.methodLinkNest RX9 164 yX7_takeVoices "JealousChoir" ∈ nW := nw_mk (i := 507) (by decide +kernel) rfl
theorem ml_X9_167 : Cond.methodLinkNest RX9 167 yX7_turnHeldOn "JealousChoir" ∈ nW := nw_mk (i := 512) (by decide +kernel) rfl
theorem ml_X9_170 : Cond.methodLinkNest RX9 170 yX0_giveBack "JealousChoir" ∈ nW := nw_mk (i := 520) (by decide +kernel) rfl
theorem ml_X9_175 : Cond.methodLinkNest RX9 175 yX2_noteBehind "JealousChoir" ∈ nW := nw_mk (i := 528) (by decide +kernel) rfl
theorem ml_X9_179 : Cond.methodLinkNest RX9 179 yX2_richnessBehind "JealousChoir" ∈ nW := nw_mk (i := 538) (by decide +kernel) rfl
theorem ml_X9_182 : Cond.methodLinkNest RX9 182 yX2_firstReturn "JealousChoir" ∈ nW := nw_mk (i := 547) (by decide +kernel) rfl
theorem ml_X9_186 : Cond.methodLinkNest RX9 186 yX2_firstOneNote "JealousChoir" ∈ nW := nw_mk (i := 559) (by decide +kernel) rfl
theorem ml_X9_189 : Cond.methodLinkNest RX9 189 yX2_leastGift "JealousChoir" ∈ nW := nw_mk (i := 567) (by decide +kernel) rfl
theorem ml_X9_193 : Cond.methodLinkNest RX9 193 yX2_richestChange "JealousChoir" ∈ nW := nw_mk (i := 577) (by decide +kernel) rfl
theorem ml_X9_197 : Cond.methodLink RX9 197 yX9_withoutDoings ∈ gW := gw_mk (i := 587) (by decide +kernel) rfl
theorem ml_X9_201 : Cond.methodLinkNest RX9 201 yX2_firstWrongDoing "JealousChoir" ∈ nW := nw_mk (i := 591) (by decide +kernel) rfl
theorem ml_X9_205 : Cond.methodLinkNest RX9 205 yX3_put "JealousChoir" ∈ nW := nw_mk (i := 612) (by decide +kernel) rfl
theorem ml_X9_208 : Cond.methodLinkNest RX9 208 yX2_goodsThatFit "JealousChoir" ∈ nW := nw_mk (i := 624) (by decide +kernel) rfl
theorem ml_X9_212 : Cond.methodLinkNest RX9 212 yX1_meanGain "JealousChoir" ∈ nW := nw_mk (i := 641) (by decide +kernel) rfl
theorem ml_X9_215 : Cond.methodLinkNest RX9 215 yX1_restingPairs "JealousChoir" ∈ nW := nw_mk (i := 676) (by decide +kernel) rfl
theorem ml_X9_219 : Cond.methodLinkNest RX9 219 yX1_chanceOfOneNote "JealousChoir" ∈ nW := nw_mk (i := 697) (by decide +kernel) rfl
theorem ml_X9_226 : Cond.methodLinkNest RX9 226 yX8_goThrough "JealousChoir" ∈ nW := nw_mk (i := 712) (by decide +kernel) rfl
theorem ml_X9_229 : Cond.methodLinkNest RX9 229 yX6_put "JealousChoir" ∈ nW := nw_mk (i := 735) (by decide +kernel) rfl
theorem ml_X9_232 : Cond.methodLinkNest RX9 232 yX6_giveBack "JealousChoir" ∈ nW := nw_mk (i := 745) (by decide +kernel) rfl
theorem ml_X9_234 : Cond.methodLinkNest RX9 234 yX7_seatsTaken "JealousChoir" ∈ nW := nw_mk (i := 753) (by decide +kernel) rfl
theorem ml_X9_237 : Cond.methodLinkNest RX9 237 yX7_notesSung "JealousChoir" ∈ nW := nw_mk (i := 757) (by decide +kernel) rfl
theorem ml_X9_240 : Cond.methodLinkNest RX9 240 yX7_goodsOfAll "JealousChoir" ∈ nW := nw_mk (i := 758) (by decide +kernel) rfl
theorem ml_X9_243 : Cond.methodLinkNest RX9 243 yX7_envious "JealousChoir" ∈ nW := nw_mk (i := 762) (by decide +kernel) rfl
theorem ml_X9_251 : Cond.methodLink RX9 251 Lib.Math.abs.name ∈ gW := gw_mk (i := 666) (by decide +kernel) rfl
theorem ml_X9_256 : Cond.methodLink RX9 256 yX9_greatestDivisor ∈ gW := gw_mk (i := 669) (by decide +kernel) rfl
set_option maxRecDepth 20000 in
theorem mi_J6_bitCount_0f7a4 : Ms yJ6_bitCount_0f7a4 cJ6_bitCount_0f7a4 1 (some .int) 1 := ⟨⟨gw_mk (i := 483) (by decide +kernel) rfl, gw_mk (i := 97) (by decide +kernel) rfl, by decide +kernel, by decide⟩, gw_mk (i := 482) (by decide +kernel) rfl⟩
set_option maxRecDepth 20000 in
theorem mi_X0_forgetAll : Mv yX0_forgetAll cX0_forgetAll 1 (none) 0 := ⟨⟨gw_mk (i := 400) (by decide +kernel) rfl, gw_mk (i := 88) (by decide +kernel) rfl, by decide +kernel, by decide⟩, gw_mk (i := 399) (by decide +kernel) rfl, gw_mk (i := 5) (by decide +kernel) rfl⟩
set_option maxRecDepth 20000 in
theorem mi_X0_giveBack : Mv yX0_giveBack cX0_giveBack 2 (some .boolean) 1 := ⟨⟨gw_mk (i := 523) (by decide +kernel) rfl, gw_mk (i := 88) (by decide +kernel) rfl, by decide +kernel, by decide⟩, gw_mk (i := 522) (by decide +kernel) rfl, gw_mk (i := 24) (by decide +kernel) rfl⟩
set_option maxRecDepth 20000 in
theorem mi_X0_remember : Mv yX0_remember cX0_remember 2 (none) 1 := ⟨⟨gw_mk (i := 450) (by decide +kernel) rfl, gw_mk (i := 88) (by decide +kernel) rfl, by decide +kernel, by decide⟩, gw_mk (i := 449) (by decide +kernel) rfl, gw_mk (i := 14) (by decide +kernel) rfl⟩
set_option maxRecDepth 20000 in
theorem mi_X10_again : Mv yX10_again cX10_again 3 (some .int) 1 := ⟨⟨gw_mk (i := 1102) (by decide +kernel) rfl, gw_mk (i := 94) (by decide +kernel) rfl, by decide +kernel, by decide⟩, gw_mk (i := 1100) (by decide +kernel) rfl, gw_mk (i := 1101) (by decide +kernel) rfl⟩
set_option maxRecDepth 20000 in
theorem mi_X10_bar : Mv yX10_bar cX10_bar 1 (some .int) 0 := ⟨⟨gw_mk (i := 919) (by decide +kernel) rfl, gw_mk (i := 94) (by decide +kernel) rfl, by decide +kernel, by decide⟩, gw_mk (i := 917) (by decide +kernel) rfl, gw_mk (i := 918) (by decide +kernel) rfl⟩
set_option maxRecDepth 20000 in
theorem mi_X10_best : Mv yX10_best cX10_best 9 (some .int) 2 := ⟨⟨gw_mk (i := 1015) (by decide +kernel) rfl, gw_mk (i := 94) (by decide +kernel) rfl, by decide +kernel, by decide⟩, gw_mk (i := 1013) (by decide +kernel) rfl, gw_mk (i := 1014) (by decide +kernel) rfl⟩
set_option maxRecDepth 20000 in
theorem mi_X10_change : Mv yX10_change cX10_change 3 (some .int) 2 := ⟨⟨gw_mk (i := 950) (by decide +kernel) rfl, gw_mk (i := 94) (by decide +kernel) rfl, by decide +kernel, by decide⟩, gw_mk (i := 948) (by decide +kernel) rfl, gw_mk (i := 949) (by decide +kernel) rfl⟩
set_option maxRecDepth 20000 in
theorem mi_X10_changeOn : Mv yX10_changeOn cX10_changeOn 5 (none) 3 := ⟨⟨gw_mk (i := 954) (by decide +kernel) rfl, gw_mk (i := 94) (by decide +kernel) rfl, by decide +kernel, by decide⟩, gw_mk (i := 953) (by decide +kernel) rfl, gw_mk (i := 67) (by decide +kernel) rfl⟩
set_option maxRecDepth 20000 in
theorem mi_X10_choir : Mv yX10_choir cX10_choir 2 (some .int) 0 := ⟨⟨gw_mk (i := 884) (by decide +kernel) rfl, gw_mk (i := 94) (by decide +kernel) rfl, by decide +kernel, by decide⟩, gw_mk (i := 882) (by decide +kernel) rfl, gw_mk (i := 883) (by decide +kernel) rfl⟩
set_option maxRecDepth 20000 in
theorem mi_X10_common : Ms yX10_common cX10_common 5 (some .int) 2 := ⟨⟨gw_mk (i := 1062) (by decide +kernel) rfl, gw_mk (i := 94) (by decide +kernel) rfl, by decide +kernel, by decide⟩, gw_mk (i := 1061) (by decide +kernel) rfl⟩
set_option maxRecDepth 20000 in
theorem mi_X10_count : Mv yX10_count cX10_count 2 (some .int) 1 := ⟨⟨gw_mk (i := 1106) (by decide +kernel) rfl, gw_mk (i := 94) (by decide +kernel) rfl, by decide +kernel, by decide⟩, gw_mk (i := 1104) (by decide +kernel) rfl, gw_mk (i := 1105) (by decide +kernel) rfl⟩
set_option maxRecDepth 20000 in
theorem mi_X10_enviesOf : Mv yX10_enviesOf cX10_enviesOf 9 (some .int) 2 := ⟨⟨gw_mk (i := 902) (by decide +kernel) rfl, gw_mk (i := 94) (by decide +kernel) rfl, by decide +kernel, by decide⟩, gw_mk (i := 901) (by decide +kernel) rfl, gw_mk (i := 59) (by decide +kernel) rfl⟩
set_option maxRecDepth 20000 in
theorem mi_X10_factorial : Ms yX10_factorial cX10_factorial 3 (some .int) 1 := ⟨⟨gw_mk (i := 1055) (by decide +kernel) rfl, gw_mk (i := 94) (by decide +kernel) rfl, by decide +kernel, by decide⟩, gw_mk (i := 1054) (by decide +kernel) rfl⟩
set_option maxRecDepth 20000 in
theorem mi_X10_fault : Mv yX10_fault cX10_fault 1 (some .int) 0 := ⟨⟨gw_mk (i := 864) (by decide +kernel) rfl, gw_mk (i := 94) (by decide +kernel) rfl, by decide +kernel, by decide⟩, gw_mk (i := 862) (by decide +kernel) rfl, gw_mk (i := 863) (by decide +kernel) rfl⟩
set_option maxRecDepth 20000 in
theorem mi_X10_figureOf : Mv yX10_figureOf cX10_figureOf 4 (some .int) 1 := ⟨⟨gw_mk (i := 876) (by decide +kernel) rfl, gw_mk (i := 94) (by decide +kernel) rfl, by decide +kernel, by decide⟩, gw_mk (i := 875) (by decide +kernel) rfl, gw_mk (i := 56) (by decide +kernel) rfl⟩
set_option maxRecDepth 20000 in
theorem mi_X10_gain : Mv yX10_gain cX10_gain 6 (some .int) 3 := ⟨⟨gw_mk (i := 1074) (by decide +kernel) rfl, gw_mk (i := 94) (by decide +kernel) rfl, by decide +kernel, by decide⟩, gw_mk (i := 1073) (by decide +kernel) rfl, gw_mk (i := 79) (by decide +kernel) rfl⟩
set_option maxRecDepth 20000 in
theorem mi_X10_gets : Mv yX10_gets cX10_gets 6 (some .int) 4 := ⟨⟨gw_mk (i := 1003) (by decide +kernel) rfl, gw_mk (i := 94) (by decide +kernel) rfl, by decide +kernel, by decide⟩, gw_mk (i := 1001) (by decide +kernel) rfl, gw_mk (i := 1002) (by decide +kernel) rfl⟩
set_option maxRecDepth 20000 in
theorem mi_X10_gift : Mv yX10_gift cX10_gift 3 (some .int) 2 := ⟨⟨gw_mk (i := 942) (by decide +kernel) rfl, gw_mk (i := 94) (by decide +kernel) rfl, by decide +kernel, by decide⟩, gw_mk (i := 940) (by decide +kernel) rfl, gw_mk (i := 941) (by decide +kernel) rfl⟩
set_option maxRecDepth 20000 in
theorem mi_X10_giveOn : Mv yX10_giveOn cX10_giveOn 5 (none) 3 := ⟨⟨gw_mk (i := 946) (by decide +kernel) rfl, gw_mk (i := 94) (by decide +kernel) rfl, by decide +kernel, by decide⟩, gw_mk (i := 945) (by decide +kernel) rfl, gw_mk (i := 66) (by decide +kernel) rfl⟩
set_option maxRecDepth 20000 in
theorem mi_X10_goOn : Mv yX10_goOn cX10_goOn 3 (none) 1 := ⟨⟨gw_mk (i := 983) (by decide +kernel) rfl, gw_mk (i := 94) (by decide +kernel) rfl, by decide +kernel, by decide⟩, gw_mk (i := 982) (by decide +kernel) rfl, gw_mk (i := 70) (by decide +kernel) rfl⟩
set_option maxRecDepth 20000 in
theorem mi_X10_goodsOfAll : Mv yX10_goodsOfAll cX10_goodsOfAll 3 (some .int) 0 := ⟨⟨gw_mk (i := 1114) (by decide +kernel) rfl, gw_mk (i := 94) (by decide +kernel) rfl, by decide +kernel, by decide⟩, gw_mk (i := 1113) (by decide +kernel) rfl, gw_mk (i := 81) (by decide +kernel) rfl⟩
set_option maxRecDepth 20000 in
theorem mi_X10_had : Mv yX10_had cX10_had 4 (some .int) 1 := ⟨⟨gw_mk (i := 1044) (by decide +kernel) rfl, gw_mk (i := 94) (by decide +kernel) rfl, by decide +kernel, by decide⟩, gw_mk (i := 1042) (by decide +kernel) rfl, gw_mk (i := 1043) (by decide +kernel) rfl⟩
set_option maxRecDepth 20000 in
theorem mi_X10_has : Ms yX10_has cX10_has 2 (some .boolean) 2 := ⟨⟨gw_mk (i := 880) (by decide +kernel) rfl, gw_mk (i := 94) (by decide +kernel) rfl, by decide +kernel, by decide⟩, gw_mk (i := 879) (by decide +kernel) rfl⟩
set_option maxRecDepth 20000 in
theorem mi_X10_hear : Mv yX10_hear cX10_hear 4 (some .int) 3 := ⟨⟨gw_mk (i := 1036) (by decide +kernel) rfl, gw_mk (i := 94) (by decide +kernel) rfl, by decide +kernel, by decide⟩, gw_mk (i := 1034) (by decide +kernel) rfl, gw_mk (i := 1035) (by decide +kernel) rfl⟩
set_option maxRecDepth 20000 in
theorem mi_X10_hoarse : Mv yX10_hoarse cX10_hoarse 8 (some .int) 3 := ⟨⟨gw_mk (i := 1078) (by decide +kernel) rfl, gw_mk (i := 94) (by decide +kernel) rfl, by decide +kernel, by decide⟩, gw_mk (i := 1076) (by decide +kernel) rfl, gw_mk (i := 1077) (by decide +kernel) rfl⟩
set_option maxRecDepth 20000 in
theorem mi_X10_hold : Mv yX10_hold cX10_hold 2 (some .int) 1 := ⟨⟨gw_mk (i := 966) (by decide +kernel) rfl, gw_mk (i := 94) (by decide +kernel) rfl, by decide +kernel, by decide⟩, gw_mk (i := 964) (by decide +kernel) rfl, gw_mk (i := 965) (by decide +kernel) rfl⟩
set_option maxRecDepth 20000 in
theorem mi_X10_in : Ms yX10_in cX10_in 6 (some .boolean) 3 := ⟨⟨gw_mk (i := 856) (by decide +kernel) rfl, gw_mk (i := 94) (by decide +kernel) rfl, by decide +kernel, by decide⟩, gw_mk (i := 855) (by decide +kernel) rfl⟩
set_option maxRecDepth 20000 in
theorem mi_X10_isRest : Mv yX10_isRest cX10_isRest 7 (some .boolean) 4 := ⟨⟨gw_mk (i := 1070) (by decide +kernel) rfl, gw_mk (i := 94) (by decide +kernel) rfl, by decide +kernel, by decide⟩, gw_mk (i := 1069) (by decide +kernel) rfl, gw_mk (i := 78) (by decide +kernel) rfl⟩
set_option maxRecDepth 20000 in
theorem mi_X10_isSinger : Mv yX10_isSinger cX10_isSinger 2 (some .boolean) 1 := ⟨⟨gw_mk (i := 892) (by decide +kernel) rfl, gw_mk (i := 94) (by decide +kernel) rfl, by decide +kernel, by decide⟩, gw_mk (i := 891) (by decide +kernel) rfl, gw_mk (i := 57) (by decide +kernel) rfl⟩
set_option maxRecDepth 20000 in
theorem mi_X10_isSung : Mv yX10_isSung cX10_isSung 6 (some .boolean) 5 := ⟨⟨gw_mk (i := 1011) (by decide +kernel) rfl, gw_mk (i := 94) (by decide +kernel) rfl, by decide +kernel, by decide⟩, gw_mk (i := 1010) (by decide +kernel) rfl, gw_mk (i := 73) (by decide +kernel) rfl⟩
set_option maxRecDepth 20000 in
theorem mi_X10_jealous : Mv yX10_jealous cX10_jealous 3 (some .int) 0 := ⟨⟨gw_mk (i := 1118) (by decide +kernel) rfl, gw_mk (i := 94) (by decide +kernel) rfl, by decide +kernel, by decide⟩, gw_mk (i := 1117) (by decide +kernel) rfl, gw_mk (i := 82) (by decide +kernel) rfl⟩
set_option maxRecDepth 20000 in
theorem mi_X10_judge : Mv yX10_judge cX10_judge 6 (some .int) 2 := ⟨⟨gw_mk (i := 1023) (by decide +kernel) rfl, gw_mk (i := 94) (by decide +kernel) rfl, by decide +kernel, by decide⟩, gw_mk (i := 1021) (by decide +kernel) rfl, gw_mk (i := 1022) (by decide +kernel) rfl⟩
set_option maxRecDepth 20000 in
theorem mi_X10_keep : Mv yX10_keep cX10_keep 3 (some .int) 1 := ⟨⟨gw_mk (i := 1098) (by decide +kernel) rfl, gw_mk (i := 94) (by decide +kernel) rfl, by decide +kernel, by decide⟩, gw_mk (i := 1096) (by decide +kernel) rfl, gw_mk (i := 1097) (by decide +kernel) rfl⟩
set_option maxRecDepth 20000 in
theorem mi_X10_keepAct : Mv yX10_keepAct cX10_keepAct 2 (none) 0 := ⟨⟨gw_mk (i := 923) (by decide +kernel) rfl, gw_mk (i := 94) (by decide +kernel) rfl, by decide +kernel, by decide⟩, gw_mk (i := 922) (by decide +kernel) rfl, gw_mk (i := 62) (by decide +kernel) rfl⟩
set_option maxRecDepth 20000 in
theorem mi_X10_kindNow : Mv yX10_kindNow cX10_kindNow 3 (some .int) 2 := ⟨⟨gw_mk (i := 906) (by decide +kernel) rfl, gw_mk (i := 94) (by decide +kernel) rfl, by decide +kernel, by decide⟩, gw_mk (i := 905) (by decide +kernel) rfl, gw_mk (i := 60) (by decide +kernel) rfl⟩
set_option maxRecDepth 20000 in
theorem mi_X10_layTrial : Mv yX10_layTrial cX10_layTrial 2 (none) 0 := ⟨⟨gw_mk (i := 979) (by decide +kernel) rfl, gw_mk (i := 94) (by decide +kernel) rfl, by decide +kernel, by decide⟩, gw_mk (i := 978) (by decide +kernel) rfl, gw_mk (i := 69) (by decide +kernel) rfl⟩
set_option maxRecDepth 20000 in
theorem mi_X10_leastGift : Mv yX10_leastGift cX10_leastGift 6 (some .int) 3 := ⟨⟨gw_mk (i := 1007) (by decide +kernel) rfl, gw_mk (i := 94) (by decide +kernel) rfl, by decide +kernel, by decide⟩, gw_mk (i := 1006) (by decide +kernel) rfl, gw_mk (i := 72) (by decide +kernel) rfl⟩
set_option maxRecDepth 20000 in
theorem mi_X10_mayHave : Mv yX10_mayHave cX10_mayHave 5 (some .boolean) 2 := ⟨⟨gw_mk (i := 1048) (by decide +kernel) rfl, gw_mk (i := 94) (by decide +kernel) rfl, by decide +kernel, by decide⟩, gw_mk (i := 1047) (by decide +kernel) rfl, gw_mk (i := 76) (by decide +kernel) rfl⟩
set_option maxRecDepth 20000 in
theorem mi_X10_noteThen : Mv yX10_noteThen cX10_noteThen 7 (some .int) 2 := ⟨⟨gw_mk (i := 931) (by decide +kernel) rfl, gw_mk (i := 94) (by decide +kernel) rfl, by decide +kernel, by decide⟩, gw_mk (i := 930) (by decide +kernel) rfl, gw_mk (i := 64) (by decide +kernel) rfl⟩
set_option maxRecDepth 20000 in
theorem mi_X10_notes : Mv yX10_notes cX10_notes 2 (some .int) 1 := ⟨⟨gw_mk (i := 987) (by decide +kernel) rfl, gw_mk (i := 94) (by decide +kernel) rfl, by decide +kernel, by decide⟩, gw_mk (i := 985) (by decide +kernel) rfl, gw_mk (i := 986) (by decide +kernel) rfl⟩
set_option maxRecDepth 20000 in
theorem mi_X10_notesBy : Mv yX10_notesBy cX10_notesBy 4 (some .int) 3 := ⟨⟨gw_mk (i := 1019) (by decide +kernel) rfl, gw_mk (i := 94) (by decide +kernel) rfl, by decide +kernel, by decide⟩, gw_mk (i := 1018) (by decide +kernel) rfl, gw_mk (i := 74) (by decide +kernel) rfl⟩
set_option maxRecDepth 20000 in
theorem mi_X10_notesOf : Mv yX10_notesOf cX10_notesOf 4 (some .int) 2 := ⟨⟨gw_mk (i := 1059) (by decide +kernel) rfl, gw_mk (i := 94) (by decide +kernel) rfl, by decide +kernel, by decide⟩, gw_mk (i := 1058) (by decide +kernel) rfl, gw_mk (i := 77) (by decide +kernel) rfl⟩
set_option maxRecDepth 20000 in
theorem mi_X10_notesOn : Mv yX10_notesOn cX10_notesOn 4 (some .int) 1 := ⟨⟨gw_mk (i := 935) (by decide +kernel) rfl, gw_mk (i := 94) (by decide +kernel) rfl, by decide +kernel, by decide⟩, gw_mk (i := 934) (by decide +kernel) rfl, gw_mk (i := 65) (by decide +kernel) rfl⟩
set_option maxRecDepth 20000 in
theorem mi_X10_ones : Ms yX10_ones cX10_ones 3 (some .int) 1 := ⟨⟨gw_mk (i := 938) (by decide +kernel) rfl, gw_mk (i := 94) (by decide +kernel) rfl, by decide +kernel, by decide⟩, gw_mk (i := 937) (by decide +kernel) rfl⟩
set_option maxRecDepth 20000 in
theorem mi_X10_passOn : Mv yX10_passOn cX10_passOn 3 (none) 1 := ⟨⟨gw_mk (i := 927) (by decide +kernel) rfl, gw_mk (i := 94) (by decide +kernel) rfl, by decide +kernel, by decide⟩, gw_mk (i := 926) (by decide +kernel) rfl, gw_mk (i := 63) (by decide +kernel) rfl⟩
set_option maxRecDepth 20000 in
theorem mi_X10_pitch : Mv yX10_pitch cX10_pitch 1 (some .int) 0 := ⟨⟨gw_mk (i := 958) (by decide +kernel) rfl, gw_mk (i := 94) (by decide +kernel) rfl, by decide +kernel, by decide⟩, gw_mk (i := 956) (by decide +kernel) rfl, gw_mk (i := 957) (by decide +kernel) rfl⟩
set_option maxRecDepth 20000 in
theorem mi_X10_pitchOn : Mv yX10_pitchOn cX10_pitchOn 3 (none) 1 := ⟨⟨gw_mk (i := 962) (by decide +kernel) rfl, gw_mk (i := 94) (by decide +kernel) rfl, by decide +kernel, by decide⟩, gw_mk (i := 961) (by decide +kernel) rfl, gw_mk (i := 68) (by decide +kernel) rfl⟩
set_option maxRecDepth 20000 in
theorem mi_X10_power : Ms yX10_power cX10_power 4 (some .int) 2 := ⟨⟨gw_mk (i := 1082) (by decide +kernel) rfl, gw_mk (i := 94) (by decide +kernel) rfl, by decide +kernel, by decide⟩, gw_mk (i := 1081) (by decide +kernel) rfl⟩
set_option maxRecDepth 20000 in
theorem mi_X10_readPart : Mv yX10_readPart cX10_readPart 4 (none) 1 := ⟨⟨gw_mk (i := 872) (by decide +kernel) rfl, gw_mk (i := 94) (by decide +kernel) rfl, by decide +kernel, by decide⟩, gw_mk (i := 871) (by decide +kernel) rfl, gw_mk (i := 55) (by decide +kernel) rfl⟩
set_option maxRecDepth 20000 in
theorem mi_X10_readText : Mv yX10_readText cX10_readText 1 (some .int) 0 := ⟨⟨gw_mk (i := 868) (by decide +kernel) rfl, gw_mk (i := 94) (by decide +kernel) rfl, by decide +kernel, by decide⟩, gw_mk (i := 867) (by decide +kernel) rfl, gw_mk (i := 54) (by decide +kernel) rfl⟩
set_option maxRecDepth 20000 in
theorem mi_X10_rests : Mv yX10_rests cX10_rests 7 (some .int) 3 := ⟨⟨gw_mk (i := 1066) (by decide +kernel) rfl, gw_mk (i := 94) (by decide +kernel) rfl, by decide +kernel, by decide⟩, gw_mk (i := 1064) (by decide +kernel) rfl, gw_mk (i := 1065) (by decide +kernel) rfl⟩
set_option maxRecDepth 20000 in
theorem mi_X10_round : Mv yX10_round cX10_round 4 (some .int) 1 := ⟨⟨gw_mk (i := 991) (by decide +kernel) rfl, gw_mk (i := 94) (by decide +kernel) rfl, by decide +kernel, by decide⟩, gw_mk (i := 989) (by decide +kernel) rfl, gw_mk (i := 990) (by decide +kernel) rfl⟩
set_option maxRecDepth 20000 in
theorem mi_X10_seat : Mv yX10_seat cX10_seat 2 (some .int) 1 := ⟨⟨gw_mk (i := 910) (by decide +kernel) rfl, gw_mk (i := 94) (by decide +kernel) rfl, by decide +kernel, by decide⟩, gw_mk (i := 908) (by decide +kernel) rfl, gw_mk (i := 909) (by decide +kernel) rfl⟩
set_option maxRecDepth 20000 in
theorem mi_X10_seed : Mv yX10_seed cX10_seed 5 (some .long) 1 := ⟨⟨gw_mk (i := 1086) (by decide +kernel) rfl, gw_mk (i := 94) (by decide +kernel) rfl, by decide +kernel, by decide⟩, gw_mk (i := 1084) (by decide +kernel) rfl, gw_mk (i := 1085) (by decide +kernel) rfl⟩
set_option maxRecDepth 20000 in
theorem mi_X10_seesOf : Mv yX10_seesOf cX10_seesOf 6 (some .int) 2 := ⟨⟨gw_mk (i := 896) (by decide +kernel) rfl, gw_mk (i := 94) (by decide +kernel) rfl, by decide +kernel, by decide⟩, gw_mk (i := 895) (by decide +kernel) rfl, gw_mk (i := 58) (by decide +kernel) rfl⟩
set_option maxRecDepth 20000 in
theorem mi_X10_share : Mv yX10_share cX10_share 6 (some .int) 2 := ⟨⟨gw_mk (i := 1052) (by decide +kernel) rfl, gw_mk (i := 94) (by decide +kernel) rfl, by decide +kernel, by decide⟩, gw_mk (i := 1050) (by decide +kernel) rfl, gw_mk (i := 1051) (by decide +kernel) rfl⟩
set_option maxRecDepth 20000 in
theorem mi_X10_singAll : Mv yX10_singAll cX10_singAll 3 (none) 0 := ⟨⟨gw_mk (i := 995) (by decide +kernel) rfl, gw_mk (i := 94) (by decide +kernel) rfl, by decide +kernel, by decide⟩, gw_mk (i := 994) (by decide +kernel) rfl, gw_mk (i := 71) (by decide +kernel) rfl⟩
set_option maxRecDepth 20000 in
theorem mi_X10_singer : Mv yX10_singer cX10_singer 3 (some .int) 2 := ⟨⟨gw_mk (i := 888) (by decide +kernel) rfl, gw_mk (i := 94) (by decide +kernel) rfl, by decide +kernel, by decide⟩, gw_mk (i := 886) (by decide +kernel) rfl, gw_mk (i := 887) (by decide +kernel) rfl⟩
set_option maxRecDepth 20000 in
theorem mi_X10_sings : Mv yX10_sings cX10_sings 3 (some .int) 2 := ⟨⟨gw_mk (i := 974) (by decide +kernel) rfl, gw_mk (i := 94) (by decide +kernel) rfl, by decide +kernel, by decide⟩, gw_mk (i := 972) (by decide +kernel) rfl, gw_mk (i := 973) (by decide +kernel) rfl⟩
set_option maxRecDepth 20000 in
theorem mi_X10_takenSeats : Mv yX10_takenSeats cX10_takenSeats 3 (some .int) 0 := ⟨⟨gw_mk (i := 1110) (by decide +kernel) rfl, gw_mk (i := 94) (by decide +kernel) rfl, by decide +kernel, by decide⟩, gw_mk (i := 1109) (by decide +kernel) rfl, gw_mk (i := 80) (by decide +kernel) rfl⟩
set_option maxRecDepth 20000 in
theorem mi_X10_thousandTo : Ms yX10_thousandTo cX10_thousandTo 4 (some .long) 1 := ⟨⟨gw_mk (i := 1027) (by decide +kernel) rfl, gw_mk (i := 94) (by decide +kernel) rfl, by decide +kernel, by decide⟩, gw_mk (i := 1026) (by decide +kernel) rfl⟩
set_option maxRecDepth 20000 in
theorem mi_X10_tryThing : Mv yX10_tryThing cX10_tryThing 6 (some .boolean) 3 := ⟨⟨gw_mk (i := 1032) (by decide +kernel) rfl, gw_mk (i := 94) (by decide +kernel) rfl, by decide +kernel, by decide⟩, gw_mk (i := 1031) (by decide +kernel) rfl, gw_mk (i := 75) (by decide +kernel) rfl⟩
set_option maxRecDepth 20000 in
theorem mi_X10_undo : Mv yX10_undo cX10_undo 2 (some .int) 0 := ⟨⟨gw_mk (i := 970) (by decide +kernel) rfl, gw_mk (i := 94) (by decide +kernel) rfl, by decide +kernel, by decide⟩, gw_mk (i := 968) (by decide +kernel) rfl, gw_mk (i := 969) (by decide +kernel) rfl⟩
set_option maxRecDepth 20000 in
theorem mi_X10_unhear : Mv yX10_unhear cX10_unhear 2 (some .int) 0 := ⟨⟨gw_mk (i := 1040) (by decide +kernel) rfl, gw_mk (i := 94) (by decide +kernel) rfl, by decide +kernel, by decide⟩, gw_mk (i := 1038) (by decide +kernel) rfl, gw_mk (i := 1039) (by decide +kernel) rfl⟩
set_option maxRecDepth 20000 in
theorem mi_X10_unison : Mv yX10_unison cX10_unison 2 (some .int) 0 := ⟨⟨gw_mk (i := 999) (by decide +kernel) rfl, gw_mk (i := 94) (by decide +kernel) rfl, by decide +kernel, by decide⟩, gw_mk (i := 997) (by decide +kernel) rfl, gw_mk (i := 998) (by decide +kernel) rfl⟩
set_option maxRecDepth 20000 in
theorem mi_X10_whoAt : Mv yX10_whoAt cX10_whoAt 3 (some .int) 1 := ⟨⟨gw_mk (i := 915) (by decide +kernel) rfl, gw_mk (i := 94) (by decide +kernel) rfl, by decide +kernel, by decide⟩, gw_mk (i := 914) (by decide +kernel) rfl, gw_mk (i := 61) (by decide +kernel) rfl⟩
set_option maxRecDepth 20000 in
theorem mi_X10_wipe : Mv yX10_wipe cX10_wipe 2 (some .int) 0 := ⟨⟨gw_mk (i := 860) (by decide +kernel) rfl, gw_mk (i := 94) (by decide +kernel) rfl, by decide +kernel, by decide⟩, gw_mk (i := 858) (by decide +kernel) rfl, gw_mk (i := 859) (by decide +kernel) rfl⟩
set_option maxRecDepth 20000 in
theorem mi_X10_write : Mv yX10_write cX10_write 2 (some .int) 1 := ⟨⟨gw_mk (i := 852) (by decide +kernel) rfl, gw_mk (i := 94) (by decide +kernel) rfl, by decide +kernel, by decide⟩, gw_mk (i := 850) (by decide +kernel) rfl, gw_mk (i := 851) (by decide +kernel) rfl⟩
set_option maxRecDepth 20000 in
theorem mi_X10_years : Mv yX10_years cX10_years 5 (some .int) 1 := ⟨⟨gw_mk (i := 1090) (by decide +kernel) rfl, gw_mk (i := 94) (by decide +kernel) rfl, by decide +kernel, by decide⟩, gw_mk (i := 1088) (by decide +kernel) rfl, gw_mk (i := 1089) (by decide +kernel) rfl⟩
set_option maxRecDepth 20000 in
theorem mi_X1_chanceOfOneNote : Mv yX1_chanceOfOneNote cX1_chanceOfOneNote 9 (some .int) 3 := ⟨⟨gw_mk (i := 700) (by decide +kernel) rfl, gw_mk (i := 92) (by decide +kernel) rfl, by decide +kernel, by decide⟩, gw_mk (i := 699) (by decide +kernel) rfl, gw_mk (i := 46) (by decide +kernel) rfl⟩
set_option maxRecDepth 20000 in
theorem mi_X1_factorial : Ms yX1_factorial cX1_factorial 1 (some .int) 1 := ⟨⟨gw_mk (i := 660) (by decide +kernel) rfl, gw_mk (i := 92) (by decide +kernel) rfl, by decide +kernel, by decide⟩, gw_mk (i := 659) (by decide +kernel) rfl⟩
set_option maxRecDepth 20000 in
theorem mi_X1_giveAndCount : Mv yX1_giveAndCount cX1_giveAndCount 5 (none) 4 := ⟨⟨gw_mk (i := 683) (by decide +kernel) rfl, gw_mk (i := 92) (by decide +kernel) rfl, by decide +kernel, by decide⟩, gw_mk (i := 682) (by decide +kernel) rfl, gw_mk (i := 43) (by decide +kernel) rfl⟩
set_option maxRecDepth 20000 in
theorem mi_X1_isAtRest : Mv yX1_isAtRest cX1_isAtRest 5 (some .boolean) 2 := ⟨⟨gw_mk (i := 692) (by decide +kernel) rfl, gw_mk (i := 92) (by decide +kernel) rfl, by decide +kernel, by decide⟩, gw_mk (i := 691) (by decide +kernel) rfl, gw_mk (i := 45) (by decide +kernel) rfl⟩
set_option maxRecDepth 20000 in
theorem mi_X1_meanGain : Mv yX1_meanGain cX1_meanGain 7 (some .int) 2 := ⟨⟨gw_mk (i := 644) (by decide +kernel) rfl, gw_mk (i := 92) (by decide +kernel) rfl, by decide +kernel, by decide⟩, gw_mk (i := 643) (by decide +kernel) rfl, gw_mk (i := 39) (by decide +kernel) rfl⟩
set_option maxRecDepth 20000 in
theorem mi_X1_ordersOf : Mv yX1_ordersOf cX1_ordersOf 2 (some .int) 1 := ⟨⟨gw_mk (i := 657) (by decide +kernel) rfl, gw_mk (i := 92) (by decide +kernel) rfl, by decide +kernel, by decide⟩, gw_mk (i := 656) (by decide +kernel) rfl, gw_mk (i := 41) (by decide +kernel) rfl⟩
set_option maxRecDepth 20000 in
theorem mi_X1_restingPairs : Mv yX1_restingPairs cX1_restingPairs 8 (some .int) 3 := ⟨⟨gw_mk (i := 679) (by decide +kernel) rfl, gw_mk (i := 92) (by decide +kernel) rfl, by decide +kernel, by decide⟩, gw_mk (i := 678) (by decide +kernel) rfl, gw_mk (i := 42) (by decide +kernel) rfl⟩
set_option maxRecDepth 20000 in
theorem mi_X1_richnessOfSome : Mv yX1_richnessOfSome cX1_richnessOfSome 3 (some .int) 2 := ⟨⟨gw_mk (i := 649) (by decide +kernel) rfl, gw_mk (i := 92) (by decide +kernel) rfl, by decide +kernel, by decide⟩, gw_mk (i := 648) (by decide +kernel) rfl, gw_mk (i := 40) (by decide +kernel) rfl⟩
set_option maxRecDepth 20000 in
theorem mi_X2_canBe : Mv yX2_canBe cX2_canBe 4 (some .boolean) 3 := ⟨⟨gw_mk (i := 600) (by decide +kernel) rfl, gw_mk (i := 91) (by decide +kernel) rfl, by decide +kernel, by decide⟩, gw_mk (i := 599) (by decide +kernel) rfl, gw_mk (i := 33) (by decide +kernel) rfl⟩
set_option maxRecDepth 20000 in
theorem mi_X2_firstOneNote : Mv yX2_firstOneNote cX2_firstOneNote 2 (some .int) 0 := ⟨⟨gw_mk (i := 562) (by decide +kernel) rfl, gw_mk (i := 91) (by decide +kernel) rfl, by decide +kernel, by decide⟩, gw_mk (i := 561) (by decide +kernel) rfl, gw_mk (i := 29) (by decide +kernel) rfl⟩
set_option maxRecDepth 20000 in
theorem mi_X2_firstReturn : Mv yX2_firstReturn cX2_firstReturn 4 (some .int) 1 := ⟨⟨gw_mk (i := 550) (by decide +kernel) rfl, gw_mk (i := 91) (by decide +kernel) rfl, by decide +kernel, by decide⟩, gw_mk (i := 549) (by decide +kernel) rfl, gw_mk (i := 27) (by decide +kernel) rfl⟩
set_option maxRecDepth 20000 in
theorem mi_X2_firstWrongDoing : Mv yX2_firstWrongDoing cX2_firstWrongDoing 9 (some .int) 2 := ⟨⟨gw_mk (i := 594) (by decide +kernel) rfl, gw_mk (i := 91) (by decide +kernel) rfl, by decide +kernel, by decide⟩, gw_mk (i := 593) (by decide +kernel) rfl, gw_mk (i := 32) (by decide +kernel) rfl⟩
set_option maxRecDepth 20000 in
theorem mi_X2_goodsThatFit : Mv yX2_goodsThatFit cX2_goodsThatFit 5 (some .int) 2 := ⟨⟨gw_mk (i := 627) (by decide +kernel) rfl, gw_mk (i := 91) (by decide +kernel) rfl, by decide +kernel, by decide⟩, gw_mk (i := 626) (by decide +kernel) rfl, gw_mk (i := 36) (by decide +kernel) rfl⟩
set_option maxRecDepth 20000 in
theorem mi_X2_happen : Mv yX2_happen cX2_happen 4 (none) 3 := ⟨⟨gw_mk (i := 606) (by decide +kernel) rfl, gw_mk (i := 91) (by decide +kernel) rfl, by decide +kernel, by decide⟩, gw_mk (i := 605) (by decide +kernel) rfl, gw_mk (i := 34) (by decide +kernel) rfl⟩
set_option maxRecDepth 20000 in
theorem mi_X2_isAllHeard : Mv yX2_isAllHeard cX2_isAllHeard 3 (some .boolean) 1 := ⟨⟨gw_mk (i := 631) (by decide +kernel) rfl, gw_mk (i := 91) (by decide +kernel) rfl, by decide +kernel, by decide⟩, gw_mk (i := 630) (by decide +kernel) rfl, gw_mk (i := 37) (by decide +kernel) rfl⟩
set_option maxRecDepth 20000 in
theorem mi_X2_leastGift : Mv yX2_leastGift cX2_leastGift 7 (some .int) 4 := ⟨⟨gw_mk (i := 570) (by decide +kernel) rfl, gw_mk (i := 91) (by decide +kernel) rfl, by decide +kernel, by decide⟩, gw_mk (i := 569) (by decide +kernel) rfl, gw_mk (i := 30) (by decide +kernel) rfl⟩
set_option maxRecDepth 20000 in
theorem mi_X2_noteBehind : Mv yX2_noteBehind cX2_noteBehind 3 (some .int) 2 := ⟨⟨gw_mk (i := 531) (by decide +kernel) rfl, gw_mk (i := 91) (by decide +kernel) rfl, by decide +kernel, by decide⟩, gw_mk (i := 530) (by decide +kernel) rfl, gw_mk (i := 25) (by decide +kernel) rfl⟩
set_option maxRecDepth 20000 in
theorem mi_X2_richestChange : Mv yX2_richestChange cX2_richestChange 8 (some .int) 2 := ⟨⟨gw_mk (i := 580) (by decide +kernel) rfl, gw_mk (i := 91) (by decide +kernel) rfl, by decide +kernel, by decide⟩, gw_mk (i := 579) (by decide +kernel) rfl, gw_mk (i := 31) (by decide +kernel) rfl⟩
set_option maxRecDepth 20000 in
theorem mi_X2_richnessBehind : Mv yX2_richnessBehind cX2_richnessBehind 2 (some .int) 1 := ⟨⟨gw_mk (i := 541) (by decide +kernel) rfl, gw_mk (i := 91) (by decide +kernel) rfl, by decide +kernel, by decide⟩, gw_mk (i := 540) (by decide +kernel) rfl, gw_mk (i := 26) (by decide +kernel) rfl⟩
set_option maxRecDepth 20000 in
theorem mi_X3_allowsAt : Mv yX3_allowsAt cX3_allowsAt 5 (some .boolean) 2 := ⟨⟨gw_mk (i := 635) (by decide +kernel) rfl, gw_mk (i := 90) (by decide +kernel) rfl, by decide +kernel, by decide⟩, gw_mk (i := 634) (by decide +kernel) rfl, gw_mk (i := 38) (by decide +kernel) rfl⟩
set_option maxRecDepth 20000 in
theorem mi_X3_put : Mv yX3_put cX3_put 4 (some .boolean) 3 := ⟨⟨gw_mk (i := 615) (by decide +kernel) rfl, gw_mk (i := 90) (by decide +kernel) rfl, by decide +kernel, by decide⟩, gw_mk (i := 614) (by decide +kernel) rfl, gw_mk (i := 35) (by decide +kernel) rfl⟩
set_option maxRecDepth 20000 in
theorem mi_X4_everybody : Mv yX4_everybody cX4_everybody 1 (some .int) 0 := ⟨⟨gw_mk (i := 389) (by decide +kernel) rfl, gw_mk (i := 86) (by decide +kernel) rfl, by decide +kernel, by decide⟩, gw_mk (i := 388) (by decide +kernel) rfl, gw_mk (i := 3) (by decide +kernel) rfl⟩
set_option maxRecDepth 20000 in
theorem mi_X5_canStand : Ms yX5_canStand cX5_canStand 4 (some .boolean) 3 := ⟨⟨gw_mk (i := 368) (by decide +kernel) rfl, gw_mk (i := 85) (by decide +kernel) rfl, by decide +kernel, by decide⟩, gw_mk (i := 367) (by decide +kernel) rfl⟩
set_option maxRecDepth 20000 in
theorem mi_X5_firstFault : Mv yX5_firstFault cX5_firstFault 3 (some .int) 0 := ⟨⟨gw_mk (i := 365) (by decide +kernel) rfl, gw_mk (i := 85) (by decide +kernel) rfl, by decide +kernel, by decide⟩, gw_mk (i := 364) (by decide +kernel) rfl, gw_mk (i := 1) (by decide +kernel) rfl⟩
set_option maxRecDepth 20000 in
theorem mi_X5_part : Ms yX5_part cX5_part 1 (some .int) 1 := ⟨⟨gw_mk (i := 371) (by decide +kernel) rfl, gw_mk (i := 85) (by decide +kernel) rfl, by decide +kernel, by decide⟩, gw_mk (i := 370) (by decide +kernel) rfl⟩
set_option maxRecDepth 20000 in
theorem mi_X5_put : Mv yX5_put cX5_put 2 (some .boolean) 1 := ⟨⟨gw_mk (i := 353) (by decide +kernel) rfl, gw_mk (i := 85) (by decide +kernel) rfl, by decide +kernel, by decide⟩, gw_mk (i := 352) (by decide +kernel) rfl, gw_mk (i := 0) (by decide +kernel) rfl⟩
set_option maxRecDepth 20000 in
theorem mi_X5_tellTo : Mv yX5_tellTo cX5_tellTo 5 (none) 2 := ⟨⟨gw_mk (i := 382) (by decide +kernel) rfl, gw_mk (i := 85) (by decide +kernel) rfl, by decide +kernel, by decide⟩, gw_mk (i := 381) (by decide +kernel) rfl, gw_mk (i := 2) (by decide +kernel) rfl⟩
set_option maxRecDepth 20000 in
theorem mi_X6_forgetAll : Mv yX6_forgetAll cX6_forgetAll 1 (none) 0 := ⟨⟨gw_mk (i := 404) (by decide +kernel) rfl, gw_mk (i := 89) (by decide +kernel) rfl, by decide +kernel, by decide⟩, gw_mk (i := 403) (by decide +kernel) rfl, gw_mk (i := 6) (by decide +kernel) rfl⟩
set_option maxRecDepth 20000 in
theorem mi_X6_giveBack : Mv yX6_giveBack cX6_giveBack 3 (some .boolean) 2 := ⟨⟨gw_mk (i := 748) (by decide +kernel) rfl, gw_mk (i := 89) (by decide +kernel) rfl, by decide +kernel, by decide⟩, gw_mk (i := 747) (by decide +kernel) rfl, gw_mk (i := 50) (by decide +kernel) rfl⟩
set_option maxRecDepth 20000 in
theorem mi_X6_put : Mv yX6_put cX6_put 3 (some .boolean) 2 := ⟨⟨gw_mk (i := 738) (by decide +kernel) rfl, gw_mk (i := 89) (by decide +kernel) rfl, by decide +kernel, by decide⟩, gw_mk (i := 737) (by decide +kernel) rfl, gw_mk (i := 49) (by decide +kernel) rfl⟩
set_option maxRecDepth 20000 in
theorem mi_X7_bitsOf : Mv yX7_bitsOf cX7_bitsOf 4 (some .int) 1 := ⟨⟨gw_mk (i := 480) (by decide +kernel) rfl, gw_mk (i := 87) (by decide +kernel) rfl, by decide +kernel, by decide⟩, gw_mk (i := 479) (by decide +kernel) rfl, gw_mk (i := 20) (by decide +kernel) rfl⟩
set_option maxRecDepth 20000 in
theorem mi_X7_copyFrom : Mv yX7_copyFrom cX7_copyFrom 2 (none) 1 := ⟨⟨gw_mk (i := 454) (by decide +kernel) rfl, gw_mk (i := 87) (by decide +kernel) rfl, by decide +kernel, by decide⟩, gw_mk (i := 453) (by decide +kernel) rfl, gw_mk (i := 15) (by decide +kernel) rfl⟩
set_option maxRecDepth 20000 in
theorem mi_X7_enviedBy : Mv yX7_enviedBy cX7_enviedBy 7 (some .int) 1 := ⟨⟨gw_mk (i := 424) (by decide +kernel) rfl, gw_mk (i := 87) (by decide +kernel) rfl, by decide +kernel, by decide⟩, gw_mk (i := 423) (by decide +kernel) rfl, gw_mk (i := 10) (by decide +kernel) rfl⟩
set_option maxRecDepth 20000 in
theorem mi_X7_envious : Mv yX7_envious cX7_envious 3 (some .int) 0 := ⟨⟨gw_mk (i := 765) (by decide +kernel) rfl, gw_mk (i := 87) (by decide +kernel) rfl, by decide +kernel, by decide⟩, gw_mk (i := 764) (by decide +kernel) rfl, gw_mk (i := 53) (by decide +kernel) rfl⟩
set_option maxRecDepth 20000 in
theorem mi_X7_give : Mv yX7_give cX7_give 3 (none) 2 := ⟨⟨gw_mk (i := 494) (by decide +kernel) rfl, gw_mk (i := 87) (by decide +kernel) rfl, by decide +kernel, by decide⟩, gw_mk (i := 493) (by decide +kernel) rfl, gw_mk (i := 21) (by decide +kernel) rfl⟩
set_option maxRecDepth 20000 in
theorem mi_X7_goOn : Mv yX7_goOn cX7_goOn 5 (none) 1 := ⟨⟨gw_mk (i := 459) (by decide +kernel) rfl, gw_mk (i := 87) (by decide +kernel) rfl, by decide +kernel, by decide⟩, gw_mk (i := 458) (by decide +kernel) rfl, gw_mk (i := 16) (by decide +kernel) rfl⟩
set_option maxRecDepth 20000 in
theorem mi_X7_goodsOfAll : Mv yX7_goodsOfAll cX7_goodsOfAll 3 (some .int) 0 := ⟨⟨gw_mk (i := 761) (by decide +kernel) rfl, gw_mk (i := 87) (by decide +kernel) rfl, by decide +kernel, by decide⟩, gw_mk (i := 760) (by decide +kernel) rfl, gw_mk (i := 52) (by decide +kernel) rfl⟩
set_option maxRecDepth 20000 in
theorem mi_X7_howManySing : Mv yX7_howManySing cX7_howManySing 4 (some .int) 1 := ⟨⟨gw_mk (i := 688) (by decide +kernel) rfl, gw_mk (i := 87) (by decide +kernel) rfl, by decide +kernel, by decide⟩, gw_mk (i := 687) (by decide +kernel) rfl, gw_mk (i := 44) (by decide +kernel) rfl⟩
set_option maxRecDepth 20000 in
theorem mi_X7_isHeld : Mv yX7_isHeld cX7_isHeld 2 (some .boolean) 1 := ⟨⟨gw_mk (i := 428) (by decide +kernel) rfl, gw_mk (i := 87) (by decide +kernel) rfl, by decide +kernel, by decide⟩, gw_mk (i := 427) (by decide +kernel) rfl, gw_mk (i := 11) (by decide +kernel) rfl⟩
set_option maxRecDepth 20000 in
theorem mi_X7_isHeldOn : Mv yX7_isHeldOn cX7_isHeldOn 2 (some .boolean) 1 := ⟨⟨gw_mk (i := 432) (by decide +kernel) rfl, gw_mk (i := 87) (by decide +kernel) rfl, by decide +kernel, by decide⟩, gw_mk (i := 431) (by decide +kernel) rfl, gw_mk (i := 12) (by decide +kernel) rfl⟩
set_option maxRecDepth 20000 in
theorem mi_X7_isSeen : Mv yX7_isSeen cX7_isSeen 4 (some .boolean) 2 := ⟨⟨gw_mk (i := 420) (by decide +kernel) rfl, gw_mk (i := 87) (by decide +kernel) rfl, by decide +kernel, by decide⟩, gw_mk (i := 419) (by decide +kernel) rfl, gw_mk (i := 9) (by decide +kernel) rfl⟩
set_option maxRecDepth 20000 in
theorem mi_X7_isThere : Mv yX7_isThere cX7_isThere 2 (some .boolean) 1 := ⟨⟨gw_mk (i := 412) (by decide +kernel) rfl, gw_mk (i := 87) (by decide +kernel) rfl, by decide +kernel, by decide⟩, gw_mk (i := 411) (by decide +kernel) rfl, gw_mk (i := 7) (by decide +kernel) rfl⟩
set_option maxRecDepth 20000 in
theorem mi_X7_nextNoteOf : Mv yX7_nextNoteOf cX7_nextNoteOf 5 (some .int) 1 := ⟨⟨gw_mk (i := 463) (by decide +kernel) rfl, gw_mk (i := 87) (by decide +kernel) rfl, by decide +kernel, by decide⟩, gw_mk (i := 462) (by decide +kernel) rfl, gw_mk (i := 17) (by decide +kernel) rfl⟩
set_option maxRecDepth 20000 in
theorem mi_X7_notesAsNumber : Mv yX7_notesAsNumber cX7_notesAsNumber 3 (some .int) 0 := ⟨⟨gw_mk (i := 554) (by decide +kernel) rfl, gw_mk (i := 87) (by decide +kernel) rfl, by decide +kernel, by decide⟩, gw_mk (i := 553) (by decide +kernel) rfl, gw_mk (i := 28) (by decide +kernel) rfl⟩
set_option maxRecDepth 20000 in
theorem mi_X7_notesSung : Mv yX7_notesSung cX7_notesSung 1 (some .int) 0 := ⟨⟨gw_mk (i := 476) (by decide +kernel) rfl, gw_mk (i := 87) (by decide +kernel) rfl, by decide +kernel, by decide⟩, gw_mk (i := 475) (by decide +kernel) rfl, gw_mk (i := 19) (by decide +kernel) rfl⟩
set_option maxRecDepth 20000 in
theorem mi_X7_richness : Mv yX7_richness cX7_richness 1 (some .int) 0 := ⟨⟨gw_mk (i := 472) (by decide +kernel) rfl, gw_mk (i := 87) (by decide +kernel) rfl, by decide +kernel, by decide⟩, gw_mk (i := 471) (by decide +kernel) rfl, gw_mk (i := 18) (by decide +kernel) rfl⟩
set_option maxRecDepth 20000 in
theorem mi_X7_seatsTaken : Mv yX7_seatsTaken cX7_seatsTaken 1 (some .int) 0 := ⟨⟨gw_mk (i := 756) (by decide +kernel) rfl, gw_mk (i := 87) (by decide +kernel) rfl, by decide +kernel, by decide⟩, gw_mk (i := 755) (by decide +kernel) rfl, gw_mk (i := 51) (by decide +kernel) rfl⟩
set_option maxRecDepth 20000 in
theorem mi_X7_seenBy : Mv yX7_seenBy cX7_seenBy 4 (some .int) 1 := ⟨⟨gw_mk (i := 416) (by decide +kernel) rfl, gw_mk (i := 87) (by decide +kernel) rfl, by decide +kernel, by decide⟩, gw_mk (i := 415) (by decide +kernel) rfl, gw_mk (i := 8) (by decide +kernel) rfl⟩
set_option maxRecDepth 20000 in
theorem mi_X7_swapSeats : Mv yX7_swapSeats cX7_swapSeats 4 (none) 2 := ⟨⟨gw_mk (i := 502) (by decide +kernel) rfl, gw_mk (i := 87) (by decide +kernel) rfl, by decide +kernel, by decide⟩, gw_mk (i := 501) (by decide +kernel) rfl, gw_mk (i := 22) (by decide +kernel) rfl⟩
set_option maxRecDepth 20000 in
theorem mi_X7_takeVoices : Mv yX7_takeVoices cX7_takeVoices 1 (none) 0 := ⟨⟨gw_mk (i := 393) (by decide +kernel) rfl, gw_mk (i := 87) (by decide +kernel) rfl, by decide +kernel, by decide⟩, gw_mk (i := 392) (by decide +kernel) rfl, gw_mk (i := 4) (by decide +kernel) rfl⟩
set_option maxRecDepth 20000 in
theorem mi_X7_turnHeldOn : Mv yX7_turnHeldOn cX7_turnHeldOn 2 (none) 1 := ⟨⟨gw_mk (i := 515) (by decide +kernel) rfl, gw_mk (i := 87) (by decide +kernel) rfl, by decide +kernel, by decide⟩, gw_mk (i := 514) (by decide +kernel) rfl, gw_mk (i := 23) (by decide +kernel) rfl⟩
set_option maxRecDepth 20000 in
theorem mi_X7_whoIsAt : Mv yX7_whoIsAt cX7_whoIsAt 3 (some .int) 1 := ⟨⟨gw_mk (i := 441) (by decide +kernel) rfl, gw_mk (i := 87) (by decide +kernel) rfl, by decide +kernel, by decide⟩, gw_mk (i := 440) (by decide +kernel) rfl, gw_mk (i := 13) (by decide +kernel) rfl⟩
set_option maxRecDepth 20000 in
theorem mi_X8_goThrough : Mv yX8_goThrough cX8_goThrough 4 (some .int) 1 := ⟨⟨gw_mk (i := 715) (by decide +kernel) rfl, gw_mk (i := 93) (by decide +kernel) rfl, by decide +kernel, by decide⟩, gw_mk (i := 714) (by decide +kernel) rfl, gw_mk (i := 47) (by decide +kernel) rfl⟩
set_option maxRecDepth 20000 in
theorem mi_X8_happen : Mv yX8_happen cX8_happen 2 (none) 1 := ⟨⟨gw_mk (i := 723) (by decide +kernel) rfl, gw_mk (i := 93) (by decide +kernel) rfl, by decide +kernel, by decide⟩, gw_mk (i := 722) (by decide +kernel) rfl, gw_mk (i := 48) (by decide +kernel) rfl⟩
set_option maxRecDepth 20000 in
theorem mi_X9_again : Mv yX9_again cX9_again 2 (some .int) 1 := ⟨⟨gw_mk (i := 744) (by decide +kernel) rfl, gw_mk (i := 84) (by decide +kernel) rfl, by decide +kernel, by decide⟩, gw_mk (i := 742) (by decide +kernel) rfl, gw_mk (i := 743) (by decide +kernel) rfl⟩
set_option maxRecDepth 20000 in
theorem mi_X9_bar : Mv yX9_bar cX9_bar 1 (some .int) 0 := ⟨⟨gw_mk (i := 446) (by decide +kernel) rfl, gw_mk (i := 84) (by decide +kernel) rfl, by decide +kernel, by decide⟩, gw_mk (i := 444) (by decide +kernel) rfl, gw_mk (i := 445) (by decide +kernel) rfl⟩
set_option maxRecDepth 20000 in
theorem mi_X9_best : Mv yX9_best cX9_best 3 (some .int) 2 := ⟨⟨gw_mk (i := 576) (by decide +kernel) rfl, gw_mk (i := 84) (by decide +kernel) rfl, by decide +kernel, by decide⟩, gw_mk (i := 574) (by decide +kernel) rfl, gw_mk (i := 575) (by decide +kernel) rfl⟩
set_option maxRecDepth 20000 in
theorem mi_X9_change : Mv yX9_change cX9_change 3 (some .int) 2 := ⟨⟨gw_mk (i := 498) (by decide +kernel) rfl, gw_mk (i := 84) (by decide +kernel) rfl, by decide +kernel, by decide⟩, gw_mk (i := 496) (by decide +kernel) rfl, gw_mk (i := 497) (by decide +kernel) rfl⟩
set_option maxRecDepth 20000 in
theorem mi_X9_choir : Mv yX9_choir cX9_choir 1 (some .int) 0 := ⟨⟨gw_mk (i := 378) (by decide +kernel) rfl, gw_mk (i := 84) (by decide +kernel) rfl, by decide +kernel, by decide⟩, gw_mk (i := 376) (by decide +kernel) rfl, gw_mk (i := 377) (by decide +kernel) rfl⟩
set_option maxRecDepth 20000 in
theorem mi_X9_count : Mv yX9_count cX9_count 2 (some .int) 1 := ⟨⟨gw_mk (i := 752) (by decide +kernel) rfl, gw_mk (i := 84) (by decide +kernel) rfl, by decide +kernel, by decide⟩, gw_mk (i := 750) (by decide +kernel) rfl, gw_mk (i := 751) (by decide +kernel) rfl⟩
set_option maxRecDepth 20000 in
theorem mi_X9_fault : Mv yX9_fault cX9_fault 1 (some .int) 0 := ⟨⟨gw_mk (i := 361) (by decide +kernel) rfl, gw_mk (i := 84) (by decide +kernel) rfl, by decide +kernel, by decide⟩, gw_mk (i := 359) (by decide +kernel) rfl, gw_mk (i := 360) (by decide +kernel) rfl⟩
set_option maxRecDepth 20000 in
theorem mi_X9_gets : Mv yX9_gets cX9_gets 5 (some .int) 4 := ⟨⟨gw_mk (i := 566) (by decide +kernel) rfl, gw_mk (i := 84) (by decide +kernel) rfl, by decide +kernel, by decide⟩, gw_mk (i := 564) (by decide +kernel) rfl, gw_mk (i := 565) (by decide +kernel) rfl⟩
set_option maxRecDepth 20000 in
theorem mi_X9_gift : Mv yX9_gift cX9_gift 3 (some .int) 2 := ⟨⟨gw_mk (i := 490) (by decide +kernel) rfl, gw_mk (i := 84) (by decide +kernel) rfl, by decide +kernel, by decide⟩, gw_mk (i := 488) (by decide +kernel) rfl, gw_mk (i := 489) (by decide +kernel) rfl⟩
set_option maxRecDepth 20000 in
theorem mi_X9_greatestDivisor : Ms yX9_greatestDivisor cX9_greatestDivisor 6 (some .int) 2 := ⟨⟨gw_mk (i := 671) (by decide +kernel) rfl, gw_mk (i := 84) (by decide +kernel) rfl, by decide +kernel, by decide⟩, gw_mk (i := 670) (by decide +kernel) rfl⟩
set_option maxRecDepth 20000 in
theorem mi_X9_had : Mv yX9_had cX9_had 2 (some .int) 1 := ⟨⟨gw_mk (i := 623) (by decide +kernel) rfl, gw_mk (i := 84) (by decide +kernel) rfl, by decide +kernel, by decide⟩, gw_mk (i := 621) (by decide +kernel) rfl, gw_mk (i := 622) (by decide +kernel) rfl⟩
set_option maxRecDepth 20000 in
theorem mi_X9_hear : Mv yX9_hear cX9_hear 4 (some .int) 3 := ⟨⟨gw_mk (i := 611) (by decide +kernel) rfl, gw_mk (i := 84) (by decide +kernel) rfl, by decide +kernel, by decide⟩, gw_mk (i := 609) (by decide +kernel) rfl, gw_mk (i := 610) (by decide +kernel) rfl⟩
set_option maxRecDepth 20000 in
theorem mi_X9_hoarse : Mv yX9_hoarse cX9_hoarse 4 (some .int) 3 := ⟨⟨gw_mk (i := 696) (by decide +kernel) rfl, gw_mk (i := 84) (by decide +kernel) rfl, by decide +kernel, by decide⟩, gw_mk (i := 694) (by decide +kernel) rfl, gw_mk (i := 695) (by decide +kernel) rfl⟩
set_option maxRecDepth 20000 in
theorem mi_X9_hold : Mv yX9_hold cX9_hold 2 (some .int) 1 := ⟨⟨gw_mk (i := 511) (by decide +kernel) rfl, gw_mk (i := 84) (by decide +kernel) rfl, by decide +kernel, by decide⟩, gw_mk (i := 509) (by decide +kernel) rfl, gw_mk (i := 510) (by decide +kernel) rfl⟩
set_option maxRecDepth 20000 in
theorem mi_X9_isWithin : Ms yX9_isWithin cX9_isWithin 3 (some .boolean) 3 := ⟨⟨gw_mk (i := 374) (by decide +kernel) rfl, gw_mk (i := 84) (by decide +kernel) rfl, by decide +kernel, by decide⟩, gw_mk (i := 373) (by decide +kernel) rfl⟩
set_option maxRecDepth 20000 in
theorem mi_X9_judge : Mv yX9_judge cX9_judge 4 (some .int) 2 := ⟨⟨gw_mk (i := 586) (by decide +kernel) rfl, gw_mk (i := 84) (by decide +kernel) rfl, by decide +kernel, by decide⟩, gw_mk (i := 584) (by decide +kernel) rfl, gw_mk (i := 585) (by decide +kernel) rfl⟩
set_option maxRecDepth 20000 in
theorem mi_X9_keep : Mv yX9_keep cX9_keep 2 (some .int) 1 := ⟨⟨gw_mk (i := 734) (by decide +kernel) rfl, gw_mk (i := 84) (by decide +kernel) rfl, by decide +kernel, by decide⟩, gw_mk (i := 732) (by decide +kernel) rfl, gw_mk (i := 733) (by decide +kernel) rfl⟩
set_option maxRecDepth 20000 in
theorem mi_X9_notes : Mv yX9_notes cX9_notes 2 (some .int) 1 := ⟨⟨gw_mk (i := 537) (by decide +kernel) rfl, gw_mk (i := 84) (by decide +kernel) rfl, by decide +kernel, by decide⟩, gw_mk (i := 535) (by decide +kernel) rfl, gw_mk (i := 536) (by decide +kernel) rfl⟩
set_option maxRecDepth 20000 in
theorem mi_X9_pitch : Mv yX9_pitch cX9_pitch 1 (some .int) 0 := ⟨⟨gw_mk (i := 506) (by decide +kernel) rfl, gw_mk (i := 84) (by decide +kernel) rfl, by decide +kernel, by decide⟩, gw_mk (i := 504) (by decide +kernel) rfl, gw_mk (i := 505) (by decide +kernel) rfl⟩
set_option maxRecDepth 20000 in
theorem mi_X9_power : Ms yX9_power cX9_power 4 (some .int) 2 := ⟨⟨gw_mk (i := 703) (by decide +kernel) rfl, gw_mk (i := 84) (by decide +kernel) rfl, by decide +kernel, by decide⟩, gw_mk (i := 702) (by decide +kernel) rfl⟩
set_option maxRecDepth 20000 in
theorem mi_X9_rests : Mv yX9_rests cX9_rests 4 (some .int) 3 := ⟨⟨gw_mk (i := 675) (by decide +kernel) rfl, gw_mk (i := 84) (by decide +kernel) rfl, by decide +kernel, by decide⟩, gw_mk (i := 673) (by decide +kernel) rfl, gw_mk (i := 674) (by decide +kernel) rfl⟩
set_option maxRecDepth 20000 in
theorem mi_X9_round : Mv yX9_round cX9_round 2 (some .int) 1 := ⟨⟨gw_mk (i := 546) (by decide +kernel) rfl, gw_mk (i := 84) (by decide +kernel) rfl, by decide +kernel, by decide⟩, gw_mk (i := 544) (by decide +kernel) rfl, gw_mk (i := 545) (by decide +kernel) rfl⟩
set_option maxRecDepth 20000 in
theorem mi_X9_seat : Mv yX9_seat cX9_seat 2 (some .int) 1 := ⟨⟨gw_mk (i := 436) (by decide +kernel) rfl, gw_mk (i := 84) (by decide +kernel) rfl, by decide +kernel, by decide⟩, gw_mk (i := 434) (by decide +kernel) rfl, gw_mk (i := 435) (by decide +kernel) rfl⟩
set_option maxRecDepth 20000 in
theorem mi_X9_seed : Mv yX9_seed cX9_seed 5 (some .long) 1 := ⟨⟨gw_mk (i := 707) (by decide +kernel) rfl, gw_mk (i := 84) (by decide +kernel) rfl, by decide +kernel, by decide⟩, gw_mk (i := 705) (by decide +kernel) rfl, gw_mk (i := 706) (by decide +kernel) rfl⟩
set_option maxRecDepth 20000 in
theorem mi_X9_share : Mv yX9_share cX9_share 3 (some .int) 2 := ⟨⟨gw_mk (i := 640) (by decide +kernel) rfl, gw_mk (i := 84) (by decide +kernel) rfl, by decide +kernel, by decide⟩, gw_mk (i := 638) (by decide +kernel) rfl, gw_mk (i := 639) (by decide +kernel) rfl⟩
set_option maxRecDepth 20000 in
theorem mi_X9_sideOfFraction : Ms yX9_sideOfFraction cX9_sideOfFraction 4 (some .int) 3 := ⟨⟨gw_mk (i := 665) (by decide +kernel) rfl, gw_mk (i := 84) (by decide +kernel) rfl, by decide +kernel, by decide⟩, gw_mk (i := 664) (by decide +kernel) rfl⟩
set_option maxRecDepth 20000 in
theorem mi_X9_singer : Mv yX9_singer cX9_singer 3 (some .int) 2 := ⟨⟨gw_mk (i := 408) (by decide +kernel) rfl, gw_mk (i := 84) (by decide +kernel) rfl, by decide +kernel, by decide⟩, gw_mk (i := 406) (by decide +kernel) rfl, gw_mk (i := 407) (by decide +kernel) rfl⟩
set_option maxRecDepth 20000 in
theorem mi_X9_sings : Mv yX9_sings cX9_sings 3 (some .int) 2 := ⟨⟨gw_mk (i := 527) (by decide +kernel) rfl, gw_mk (i := 84) (by decide +kernel) rfl, by decide +kernel, by decide⟩, gw_mk (i := 525) (by decide +kernel) rfl, gw_mk (i := 526) (by decide +kernel) rfl⟩
set_option maxRecDepth 20000 in
theorem mi_X9_undo : Mv yX9_undo cX9_undo 1 (some .int) 0 := ⟨⟨gw_mk (i := 519) (by decide +kernel) rfl, gw_mk (i := 84) (by decide +kernel) rfl, by decide +kernel, by decide⟩, gw_mk (i := 517) (by decide +kernel) rfl, gw_mk (i := 518) (by decide +kernel) rfl⟩
set_option maxRecDepth 20000 in
theorem mi_X9_unhear : Mv yX9_unhear cX9_unhear 2 (some .int) 0 := ⟨⟨gw_mk (i := 619) (by decide +kernel) rfl, gw_mk (i := 84) (by decide +kernel) rfl, by decide +kernel, by decide⟩, gw_mk (i := 617) (by decide +kernel) rfl, gw_mk (i := 618) (by decide +kernel) rfl⟩
set_option maxRecDepth 20000 in
theorem mi_X9_unison : Mv yX9_unison cX9_unison 1 (some .int) 0 := ⟨⟨gw_mk (i := 558) (by decide +kernel) rfl, gw_mk (i := 84) (by decide +kernel) rfl, by decide +kernel, by decide⟩, gw_mk (i := 556) (by decide +kernel) rfl, gw_mk (i := 557) (by decide +kernel) rfl⟩
set_option maxRecDepth 20000 in
theorem mi_X9_wipe : Mv yX9_wipe cX9_wipe 2 (some .int) 0 := ⟨⟨gw_mk (i := 357) (by decide +kernel) rfl, gw_mk (i := 84) (by decide +kernel) rfl, by decide +kernel, by decide⟩, gw_mk (i := 355) (by decide +kernel) rfl, gw_mk (i := 356) (by decide +kernel) rfl⟩
set_option maxRecDepth 20000 in
theorem mi_X9_withoutDoings : Ms yX9_withoutDoings cX9_withoutDoings 6 (some .long) 2 := ⟨⟨gw_mk (i := 589) (by decide +kernel) rfl, gw_mk (i := 84) (by decide +kernel) rfl, by decide +kernel, by decide⟩, gw_mk (i := 588) (by decide +kernel) rfl⟩
set_option maxRecDepth 20000 in
theorem mi_X9_write : Mv yX9_write cX9_write 2 (some .int) 1 := ⟨⟨gw_mk (i := 349) (by decide +kernel) rfl, gw_mk (i := 84) (by decide +kernel) rfl, by decide +kernel, by decide⟩, gw_mk (i := 347) (by decide +kernel) rfl, gw_mk (i := 348) (by decide +kernel) rfl⟩
set_option maxRecDepth 20000 in
theorem mi_X9_years : Mv yX9_years cX9_years 2 (some .int) 1 := ⟨⟨gw_mk (i := 711) (by decide +kernel) rfl, gw_mk (i := 84) (by decide +kernel) rfl, by decide +kernel, by decide⟩, gw_mk (i := 709) (by decide +kernel) rfl, gw_mk (i := 710) (by decide +kernel) rfl⟩
theorem ts_out3 {x : Int32} (c0 : ¬ x = 0) (c1 : ¬ x = 1) (c2 : ¬ x = 2) (c3 : ¬ x = 3) : x.toInt < 0 ∨ 3 < x.toInt := by
  by_cases h : x.toInt < 0 ∨ 3 < x.toInt
  · exact h
  · exfalso
    have h1 : 0 ≤ x.toInt ∧ x.toInt ≤ 3 := by omega
    have h2 : x = Int32.ofInt x.toInt := (Int32.ofInt_toInt x).symm
    rcases (show x.toInt = 0 ∨ x.toInt = 1 ∨ x.toInt = 2 ∨ x.toInt = 3 by omega) with e | e | e | e
    · exact c0 (by rw [h2, e]; decide)
    · exact c1 (by rw [h2, e]; decide)
    · exact c2 (by rw [h2, e]; decide)
    · exact c3 (by rw [h2, e]; decide)
theorem ts_out5 {x : Int32} (c0 : ¬ x = 0) (c1 : ¬ x = 1) (c2 : ¬ x = 2) (c3 : ¬ x = 3) (c4 : ¬ x = 4) (c5 : ¬ x = 5) : x.toInt < 0 ∨ 5 < x.toInt := by
  by_cases h : x.toInt < 0 ∨ 5 < x.toInt
  · exact h
  · exfalso
    have h1 : 0 ≤ x.toInt ∧ x.toInt ≤ 5 := by omega
    have h2 : x = Int32.ofInt x.toInt := (Int32.ofInt_toInt x).symm
    rcases (show x.toInt = 0 ∨ x.toInt = 1 ∨ x.toInt = 2 ∨ x.toInt = 3 ∨ x.toInt = 4 ∨ x.toInt = 5 by omega) with e | e | e | e | e | e
    · exact c0 (by rw [h2, e]; decide)
    · exact c1 (by rw [h2, e]; decide)
    · exact c2 (by rw [h2, e]; decide)
    · exact c3 (by rw [h2, e]; decide)
    · exact c4 (by rw [h2, e]; decide)
    · exact c5 (by rw [h2, e]; decide)
theorem ts_out8 {x : Int32} (c0 : ¬ x = 0) (c1 : ¬ x = 1) (c2 : ¬ x = 2) (c3 : ¬ x = 3) (c4 : ¬ x = 4) (c5 : ¬ x = 5) (c6 : ¬ x = 6) (c7 : ¬ x = 7) (c8 : ¬ x = 8) : x.toInt < 0 ∨ 8 < x.toInt := by
  by_cases h : x.toInt < 0 ∨ 8 < x.toInt
  · exact h
  · exfalso
    have h1 : 0 ≤ x.toInt ∧ x.toInt ≤ 8 := by omega
    have h2 : x = Int32.ofInt x.toInt := (Int32.ofInt_toInt x).symm
    rcases (show x.toInt = 0 ∨ x.toInt = 1 ∨ x.toInt = 2 ∨ x.toInt = 3 ∨ x.toInt = 4 ∨ x.toInt = 5 ∨ x.toInt = 6 ∨ x.toInt = 7 ∨ x.toInt = 8 by omega) with e | e | e | e | e | e | e | e | e
    · exact c0 (by rw [h2, e]; decide)
    · exact c1 (by rw [h2, e]; decide)
    · exact c2 (by rw [h2, e]; decide)
    · exact c3 (by rw [h2, e]; decide)
    · exact c4 (by rw [h2, e]; decide)
    · exact c5 (by rw [h2, e]; decide)
    · exact c6 (by rw [h2, e]; decide)
    · exact c7 (by rw [h2, e]; decide)
    · exact c8 (by rw [h2, e]; decide)
theorem ts_out9 {x : Int32} (c0 : ¬ x = 0) (c1 : ¬ x = 1) (c2 : ¬ x = 2) (c3 : ¬ x = 3) (c4 : ¬ x = 4) (c5 : ¬ x = 5) (c6 : ¬ x = 6) (c7 : ¬ x = 7) (c8 : ¬ x = 8) (c9 : ¬ x = 9) : x.toInt < 0 ∨ 9 < x.toInt := by
  by_cases h : x.toInt < 0 ∨ 9 < x.toInt
  · exact h
  · exfalso
    have h1 : 0 ≤ x.toInt ∧ x.toInt ≤ 9 := by omega
    have h2 : x = Int32.ofInt x.toInt := (Int32.ofInt_toInt x).symm
    rcases (show x.toInt = 0 ∨ x.toInt = 1 ∨ x.toInt = 2 ∨ x.toInt = 3 ∨ x.toInt = 4 ∨ x.toInt = 5 ∨ x.toInt = 6 ∨ x.toInt = 7 ∨ x.toInt = 8 ∨ x.toInt = 9 by omega) with e | e | e | e | e | e | e | e | e | e
    · exact c0 (by rw [h2, e]; decide)
    · exact c1 (by rw [h2, e]; decide)
    · exact c2 (by rw [h2, e]; decide)
    · exact c3 (by rw [h2, e]; decide)
    · exact c4 (by rw [h2, e]; decide)
    · exact c5 (by rw [h2, e]; decide)
    · exact c6 (by rw [h2, e]; decide)
    · exact c7 (by rw [h2, e]; decide)
    · exact c8 (by rw [h2, e]; decide)
    · exact c9 (by rw [h2, e]; decide)
theorem lo_X5_canStand {x : Int32} (c0 : ¬ x = 0) (c1 : ¬ x = 1) (c5 : ¬ x = 5) : Op.lookupswitch.offset (#[(0, 35), (1, 47), (5, 71)] : Array (Int × Int)).toList 78 x.toInt = 78 := by
  have h2 : x = Int32.ofInt x.toInt := (Int32.ofInt_toInt x).symm
  have e0 : ¬ x.toInt = 0 := fun e => c0 (by rw [h2, e]; decide)
  have e1 : ¬ x.toInt = 1 := fun e => c1 (by rw [h2, e]; decide)
  have e5 : ¬ x.toInt = 5 := fun e => c5 (by rw [h2, e]; decide)
  simp [Op.lookupswitch.offset, e0, e1, e5, Ne.symm e0, Ne.symm e1, Ne.symm e5, eq_comm]
end
section
def f_X0_forgetAll (M : Mem) : Option (Mem) := lt_ (sw M 21 0 2 0) (fun M1 => some M1)
set_option maxHeartbeats 4000000 in
set_option maxRecDepth 100000 in
theorem ct_X0_forgetAll {g : GT} {l : Launch} {M : Mem} {t : Mem} (h : f_X0_forgetAll M = some t) : Ct g l 0 yX0_forgetAll cX0_forgetAll 1 (none) [.ref (ga g 21 0)] M (none) t := by
  refine ct_of (k := 0) (by decide) (Nat.le_of_ble_eq_true rfl) rfl (fun X C hl hr hR => ?_)
  subst hl
  have C : Cx g X cX0_forgetAll RX0 1 0 := C
  unfold f_X0_forgetAll at h
  refine kj_ald0 (pc := 0) C dX0_forgetAll_0 ?_
  refine kj_iconst (pc := 1) C (v := 0) dX0_forgetAll_1 ci_0 ?_
  obtain ⟨M1, eM1, h⟩ := of_lt h
  refine pf_X0_21 (pc := 2) C dX0_forgetAll_2 ?_
  refine kj_nM eM1 ?_
  cases h
  exact kj_vret (pc := 5) C hr hR dX0_forgetAll_5
def f_X7_copyFrom (o : Nat) (o1 : Nat) (M : Mem) : Option (Mem) := lt_ (sr M o 1 (va_cpy (M.1 o1 1) (M.1 o 1) 0 0 6)) (fun M1 => lt_ (sr M1 o 2 (va_cpy (M1.1 o1 2) (M1.1 o 2) 0 0 6)) (fun M2 => lt_ (sr M2 o 3 (va_cpy (M2.1 o1 3) (M2.1 o 3) 0 0 6)) (fun M3 => lt_ (sw M3 o 0 5 (M3.1 o1 0 5)) (fun M4 => lt_ (sw M4 o 0 6 (M4.1 o1 0 6)) (fun M5 => lt_ (sw M5 o 0 7 (M5.1 o1 0 7)) (fun M6 => some M6))))))
set_option maxHeartbeats 4000000 in
set_option maxRecDepth 100000 in
theorem ct_X7_copyFrom {g : GT} {l : Launch} {o : Nat} {o1 : Nat} {M : Mem} {t : Mem} (ho : o < 18) (ho1 : o1 < 18) (h : f_X7_copyFrom o o1 M = some t) : Ct g l 2 yX7_copyFrom cX7_copyFrom 2 (none) [.ref (ga g o 0), .ref (ga g o1 0)] M (none) t := by
  refine ct_of (k := 0) (by decide) (Nat.le_of_ble_eq_true rfl) rfl (fun X C hl hr hR => ?_)
  subst hl
  have C : Cx g X cX7_copyFrom RX7 2 2 := C
  unfold f_X7_copyFrom at h
  refine kj_ald1 (pc := 0) C dX7_copyFrom_0 ?_
  refine gf_X7_9 (pc := 1) C ho1 dX7_copyFrom_1 ?_
  refine kj_iconst (pc := 4) C (v := 0) dX7_copyFrom_4 ci_0 ?_
  refine kj_ald0 (pc := 5) C dX7_copyFrom_5 ?_
  refine gf_X7_9 (pc := 6) C ho dX7_copyFrom_6 ?_
  refine kj_iconst (pc := 9) C (v := 0) dX7_copyFrom_9 ci_0 ?_
  refine kj_bipush (pc := 10) C (v := 6) dX7_copyFrom_10 cb_6 ?_
  obtain ⟨M1, eM1, h⟩ := of_lt h
  refine kj_copy2 (pc := 12) C ml_X7_38 (ia_st ho1 ⟨by decide, by decide⟩) (ia_st ho ⟨by decide, by decide⟩) (Nat.le_of_ble_eq_true rfl) dX7_copyFrom_12 ?_
  refine kj_nM eM1 ?_
  refine kj_ald1 (pc := 15) C dX7_copyFrom_15 ?_
  refine gf_X7_15 (pc := 16) C ho1 dX7_copyFrom_16 ?_
  refine kj_iconst (pc := 19) C (v := 0) dX7_copyFrom_19 ci_0 ?_
  refine kj_ald0 (pc := 20) C dX7_copyFrom_20 ?_
  refine gf_X7_15 (pc := 21) C ho dX7_copyFrom_21 ?_
  refine kj_iconst (pc := 24) C (v := 0) dX7_copyFrom_24 ci_0 ?_
  refine kj_bipush (pc := 25) C (v := 6) dX7_copyFrom_25 cb_6 ?_
  obtain ⟨M2, eM2, h⟩ := of_lt h
  refine kj_copy2 (pc := 27) C ml_X7_38 (ia_st ho1 ⟨by decide, by decide⟩) (ia_st ho ⟨by decide, by decide⟩) (Nat.le_of_ble_eq_true rfl) dX7_copyFrom_27 ?_
  refine kj_nM eM2 ?_
  refine kj_ald1 (pc := 30) C dX7_copyFrom_30 ?_
  refine gf_X7_18 (pc := 31) C ho1 dX7_copyFrom_31 ?_
  refine kj_iconst (pc := 34) C (v := 0) dX7_copyFrom_34 ci_0 ?_
  refine kj_ald0 (pc := 35) C dX7_copyFrom_35 ?_
  refine gf_X7_18 (pc := 36) C ho dX7_copyFrom_36 ?_
  refine kj_iconst (pc := 39) C (v := 0) dX7_copyFrom_39 ci_0 ?_
  refine kj_bipush (pc := 40) C (v := 6) dX7_copyFrom_40 cb_6 ?_
  obtain ⟨M3, eM3, h⟩ := of_lt h
  refine kj_copy2 (pc := 42) C ml_X7_38 (ia_st ho1 ⟨by decide, by decide⟩) (ia_st ho ⟨by decide, by decide⟩) (Nat.le_of_ble_eq_true rfl) dX7_copyFrom_42 ?_
  refine kj_nM eM3 ?_
  refine kj_ald0 (pc := 45) C dX7_copyFrom_45 ?_
  refine kj_ald1 (pc := 46) C dX7_copyFrom_46 ?_
  refine gf_X7_24 (pc := 47) C ho1 dX7_copyFrom_47 ?_
  obtain ⟨M4, eM4, h⟩ := of_lt h
  refine pf_X7_24 (pc := 50) C ho dX7_copyFrom_50 ?_
  refine kj_nM eM4 ?_
  refine kj_ald0 (pc := 53) C dX7_copyFrom_53 ?_
  refine kj_ald1 (pc := 54) C dX7_copyFrom_54 ?_
  refine gf_X7_28 (pc := 55) C ho1 dX7_copyFrom_55 ?_
  obtain ⟨M5, eM5, h⟩ := of_lt h
  refine pf_X7_28 (pc := 58) C ho dX7_copyFrom_58 ?_
  refine kj_nM eM5 ?_
  refine kj_ald0 (pc := 61) C dX7_copyFrom_61 ?_
  refine kj_ald1 (pc := 62) C dX7_copyFrom_62 ?_
  refine gf_X7_31 (pc := 63) C ho1 dX7_copyFrom_63 ?_
  obtain ⟨M6, eM6, h⟩ := of_lt h
  refine pf_X7_31 (pc := 66) C ho dX7_copyFrom_66 ?_
  refine kj_nM eM6 ?_
  cases h
  exact kj_vret (pc := 69) C hr hR dX7_copyFrom_69
def f_X0_remember_35 (o1 : Nat) (s1 : Int32) (M : Mem) : Option (Mem) := lt_ (sw M 21 0 1 s1) (fun M1 => lt_ (if 14 < ((M1.1 21 0 2) + (1 : Int32)) then 14 else ((M1.1 21 0 2) + (1 : Int32))) (fun x2 => lt_ (sw M1 21 0 2 x2) (fun M3 => some M3)))
set_option maxHeartbeats 4000000 in
set_option maxRecDepth 100000 in
theorem k_X0_remember_35 {g : GT} {X : XT} {o1 : Nat} {t : Mem} (C : Cx g X cX0_remember RX0 2 3) (hr : (xt X).sig.returnType = none) (hR : Rt g X none t) (ho1 : o1 < 18) : ∀ (s1 : Int32) (M : Mem) (w1 : Option Value), f_X0_remember_35 o1 s1 M = some t → Kj g X 2 35 [some (.ref (ga g 21 0)), w1] [.int s1, .ref (ga g 21 0)] M := by
  intro s1 M w1 h
  unfold f_X0_remember_35 at h
  obtain ⟨M1, eM1, h⟩ := of_lt h
  refine pf_X0_17 (pc := 35) C dX0_remember_35 ?_
  refine kj_nM eM1 ?_
  refine kj_ald0 (pc := 38) C dX0_remember_38 ?_
  refine kj_ald0 (pc := 39) C dX0_remember_39 ?_
  refine gf_X0_21 (pc := 40) C dX0_remember_40 ?_
  refine kj_iconst (pc := 43) C (v := 1) dX0_remember_43 ci_1 ?_
  refine kj_iadd (pc := 44) C dX0_remember_44 ?_
  refine kj_bipush (pc := 45) C (v := 14) dX0_remember_45 cb_14 ?_
  obtain ⟨x2, ex2, h⟩ := of_lt h
  refine kj_mmin2 (pc := 47) C ml_X0_31 (Nat.le_of_ble_eq_true rfl) dX0_remember_47 ?_
  refine kj_ni ex2 ?_
  obtain ⟨M3, eM3, h⟩ := of_lt h
  refine pf_X0_21 (pc := 50) C dX0_remember_50 ?_
  refine kj_nM eM3 ?_
  cases h
  exact kj_vret (pc := 53) C hr hR dX0_remember_53
def f_X0_remember (o1 : Nat) (M : Mem) : Option (Mem) := lt_ (M.1 21 0 1) (fun x2 => if ¬ (x2 < 0 ∨ 14 ≤ x2.toNatClampNeg) then (f_X7_copyFrom (2 + x2.toNatClampNeg) o1 M).bind (fun q3 => if 14 ≤ ((q3.1 21 0 1) + (1 : Int32)) then f_X0_remember_35 o1 0 q3 else f_X0_remember_35 o1 ((q3.1 21 0 1) + (1 : Int32)) q3) else none)
set_option maxHeartbeats 4000000 in
set_option maxRecDepth 100000 in
theorem ct_X0_remember {g : GT} {l : Launch} {o1 : Nat} {M : Mem} {t : Mem} (ho1 : o1 < 18) (h : f_X0_remember o1 M = some t) : Ct g l 3 yX0_remember cX0_remember 2 (none) [.ref (ga g 21 0), .ref (ga g o1 0)] M (none) t := by
  refine ct_of (k := 0) (by decide) (Nat.le_of_ble_eq_true rfl) rfl (fun X C hl hr hR => ?_)
  subst hl
  have C : Cx g X cX0_remember RX0 2 3 := C
  unfold f_X0_remember at h
  refine kj_ald0 (pc := 0) C dX0_remember_0 ?_
  refine gf_X0_11 (pc := 1) C dX0_remember_1 ?_
  refine kj_ald0 (pc := 4) C dX0_remember_4 ?_
  refine gf_X0_17 (pc := 5) C dX0_remember_5 ?_
  obtain ⟨x2, ex2, h⟩ := of_lt h
  refine kj_ni ex2 ?_
  obtain ⟨c1, h⟩ := of_gd h
  refine kj_aald21 (pc := 8) C c1 dX0_remember_8 ?_
  refine kj_ald1 (pc := 9) C dX0_remember_9 ?_
  obtain ⟨q3, eq3, h⟩ := of_bind h
  refine kj_callVN0 (pc := 10) C (ct_X7_copyFrom (sd_14 c1) ho1 eq3) (Nat.le_of_ble_eq_true rfl) mi_X7_copyFrom ml_X0_27 (rc_st (sd_14 c1)) rfl rfl ar1 (Nat.le_of_ble_eq_true rfl) dX0_remember_10 ?_
  refine kj_ald0 (pc := 13) C dX0_remember_13 ?_
  refine kj_ald0 (pc := 14) C dX0_remember_14 ?_
  refine gf_X0_17 (pc := 15) C dX0_remember_15 ?_
  refine kj_iconst (pc := 18) C (v := 1) dX0_remember_18 ci_1 ?_
  refine kj_iadd (pc := 19) C dX0_remember_19 ?_
  refine kj_bipush (pc := 20) C (v := 14) dX0_remember_20 cb_14 ?_
  refine kj_icmp_ge (pc := 22) C dX0_remember_22 (tgt := 34) (by decide) (fun c4 => ?_) (fun c4 => ?_)
  · have h := of_pos c4 h
    refine kj_iconst (pc := 34) C (v := 0) dX0_remember_34 ci_0 ?_
    exact k_X0_remember_35 C hr hR ho1 _ _ _ h
  · have h := of_neg c4 h
    refine kj_ald0 (pc := 25) C dX0_remember_25 ?_
    refine gf_X0_17 (pc := 26) C dX0_remember_26 ?_
    refine kj_iconst (pc := 29) C (v := 1) dX0_remember_29 ci_1 ?_
    refine kj_iadd (pc := 30) C dX0_remember_30 ?_
    refine kj_goto (pc := 31) C dX0_remember_31 (tgt := 35) (by decide) ?_
    exact k_X0_remember_35 C hr hR ho1 _ _ _ h
def f_X0_giveBack_28 (o1 : Nat) (s1 : Int32) (M : Mem) : Option (Int32 × Mem) := lt_ (sw M 21 0 1 s1) (fun M1 => lt_ (sw M1 21 0 2 ((M1.1 21 0 2) - (1 : Int32))) (fun M2 => lt_ (M2.1 21 0 1) (fun x4 => if ¬ (x4 < 0 ∨ 14 ≤ x4.toNatClampNeg) then (f_X7_copyFrom o1 (2 + x4.toNatClampNeg) M2).bind (fun q5 => some ((1 : Int32), q5)) else none)))
set_option maxHeartbeats 4000000 in
set_option maxRecDepth 100000 in
theorem k_X0_giveBack_28 {g : GT} {X : XT} {o1 : Nat} {t : Int32 × Mem} (C : Cx g X cX0_giveBack RX0 2 3) (hr : (xt X).sig.returnType = some .boolean) (hR : Rt g X (some (.int t.1)) t.2) (ho1 : o1 < 18) : ∀ (s1 : Int32) (M : Mem), f_X0_giveBack_28 o1 s1 M = some t → Kj g X 2 28 [some (.ref (ga g 21 0)), some (.ref (ga g o1 0))] [.int s1, .ref (ga g 21 0)] M := by
  intro s1 M h
  unfold f_X0_giveBack_28 at h
  obtain ⟨M1, eM1, h⟩ := of_lt h
  refine pf_X0_17 (pc := 28) C dX0_giveBack_28 ?_
  refine kj_nM eM1 ?_
  refine kj_ald0 (pc := 31) C dX0_giveBack_31 ?_
  refine kj_dup (pc := 32) C dX0_giveBack_32 rfl ?_
  refine gf_X0_21 (pc := 33) C dX0_giveBack_33 ?_
  refine kj_iconst (pc := 36) C (v := 1) dX0_giveBack_36 ci_1 ?_
  refine kj_isub (pc := 37) C dX0_giveBack_37 ?_
  obtain ⟨M2, eM2, h⟩ := of_lt h
  refine pf_X0_21 (pc := 38) C dX0_giveBack_38 ?_
  refine kj_nM eM2 ?_
  refine kj_ald1 (pc := 41) C dX0_giveBack_41 ?_
  refine kj_ald0 (pc := 42) C dX0_giveBack_42 ?_
  refine gf_X0_11 (pc := 43) C dX0_giveBack_43 ?_
  refine kj_ald0 (pc := 46) C dX0_giveBack_46 ?_
  refine gf_X0_17 (pc := 47) C dX0_giveBack_47 ?_
  obtain ⟨x4, ex4, h⟩ := of_lt h
  refine kj_ni ex4 ?_
  obtain ⟨c3, h⟩ := of_gd h
  refine kj_aald21 (pc := 50) C c3 dX0_giveBack_50 ?_
  obtain ⟨q5, eq5, h⟩ := of_bind h
  refine kj_callVN0 (pc := 51) C (ct_X7_copyFrom ho1 (sd_14 c3) eq5) (Nat.le_of_ble_eq_true rfl) mi_X7_copyFrom ml_X0_27 (rc_st ho1) rfl rfl ar1 (Nat.le_of_ble_eq_true rfl) dX0_giveBack_51 ?_
  refine kj_iconst (pc := 54) C (v := 1) dX0_giveBack_54 ci_1 ?_
  cases h
  exact kj_zret (pc := 55) C hr (by decide) hR dX0_giveBack_55
def f_X0_giveBack (o1 : Nat) (M : Mem) : Option (Int32 × Mem) := if (M.1 21 0 2) = 0 then some ((0 : Int32), M) else if (M.1 21 0 1) ≤ 0 then f_X0_giveBack_28 o1 13 M else f_X0_giveBack_28 o1 ((M.1 21 0 1) - (1 : Int32)) M
set_option maxHeartbeats 4000000 in
set_option maxRecDepth 100000 in
theorem ct_X0_giveBack {g : GT} {l : Launch} {o1 : Nat} {M : Mem} {t : Int32 × Mem} (ho1 : o1 < 18) (h : f_X0_giveBack o1 M = some t) : Ct g l 3 yX0_giveBack cX0_giveBack 2 (some .boolean) [.ref (ga g 21 0), .ref (ga g o1 0)] M (some (.int t.1)) t.2 := by
  refine ct_of (k := 0) (by decide) (Nat.le_of_ble_eq_true rfl) rfl (fun X C hl hr hR => ?_)
  subst hl
  have C : Cx g X cX0_giveBack RX0 2 3 := C
  unfold f_X0_giveBack at h
  refine kj_ald0 (pc := 0) C dX0_giveBack_0 ?_
  refine gf_X0_21 (pc := 1) C dX0_giveBack_1 ?_
  refine kj_if_ne (pc := 4) C dX0_giveBack_4 (tgt := 9) (by decide) (fun c1 => ?_) (fun c1 => ?_)
  · have h := of_neg c1 h
    refine kj_ald0 (pc := 9) C dX0_giveBack_9 ?_
    refine kj_ald0 (pc := 10) C dX0_giveBack_10 ?_
    refine gf_X0_17 (pc := 11) C dX0_giveBack_11 ?_
    refine kj_if_le (pc := 14) C dX0_giveBack_14 (tgt := 26) (by decide) (fun c2 => ?_) (fun c2 => ?_)
    · have h := of_pos c2 h
      refine kj_bipush (pc := 26) C (v := 13) dX0_giveBack_26 cb_13 ?_
      exact k_X0_giveBack_28 C hr hR ho1 _ _ h
    · have h := of_neg c2 h
      refine kj_ald0 (pc := 17) C dX0_giveBack_17 ?_
      refine gf_X0_17 (pc := 18) C dX0_giveBack_18 ?_
      refine kj_iconst (pc := 21) C (v := 1) dX0_giveBack_21 ci_1 ?_
      refine kj_isub (pc := 22) C dX0_giveBack_22 ?_
      refine kj_goto (pc := 23) C dX0_giveBack_23 (tgt := 28) (by decide) ?_
      exact k_X0_giveBack_28 C hr hR ho1 _ _ h
  · have h := of_pos c1 h
    refine kj_iconst (pc := 7) C (v := 0) dX0_giveBack_7 ci_0 ?_
    cases h
    exact kj_zret (pc := 8) C hr (by decide) hR dX0_giveBack_8
def f_X7_isThere_27 (o : Nat) (M : Mem) (s0 : Int32) : Option (Int32) := if s0 = 0 ∨ s0 = 1 then some s0 else none
set_option maxHeartbeats 4000000 in
set_option maxRecDepth 100000 in
theorem k_X7_isThere_27 {g : GT} {X : XT} {o : Nat} {M : Mem} {t : Int32} (C : Cx g X cX7_isThere RX7 2 0) (hr : (xt X).sig.returnType = some .boolean) (hR : Rt g X (some (.int t)) M) (ho : o < 18) : ∀ (s0 : Int32) (w0 w1 : Option Value), f_X7_isThere_27 o M s0 = some t → Kj g X 2 27 [w0, w1] [.int s0] M := by
  intro s0 w0 w1 h
  unfold f_X7_isThere_27 at h
  obtain ⟨c1, h⟩ := of_gd h
  cases h
  exact kj_zret (pc := 27) C hr c1 hR dX7_isThere_27
def f_X7_isThere_26 (o : Nat) (M : Mem) : Option (Int32) := f_X7_isThere_27 o M 0
set_option maxHeartbeats 4000000 in
set_option maxRecDepth 100000 in
theorem k_X7_isThere_26 {g : GT} {X : XT} {o : Nat} {M : Mem} {t : Int32} (C : Cx g X cX7_isThere RX7 2 0) (hr : (xt X).sig.returnType = some .boolean) (hR : Rt g X (some (.int t)) M) (ho : o < 18) : ∀ (w0 w1 : Option Value), f_X7_isThere_26 o M = some t → Kj g X 2 26 [w0, w1] [] M := by
  intro w0 w1 h
  unfold f_X7_isThere_26 at h
  refine kj_iconst (pc := 26) C (v := 0) dX7_isThere_26 ci_0 ?_
  exact k_X7_isThere_27 C hr hR ho _ _ _ h
def f_X7_isThere (o : Nat) (v1 : Int32) (M : Mem) : Option (Int32) := if v1 < 0 then f_X7_isThere_26 o M else if 6 ≤ v1 then f_X7_isThere_26 o M else if (((M.1 o 0 5) >>> (v1 &&& 31)) &&& (1 : Int32)) = 1 then f_X7_isThere_27 o M 1 else f_X7_isThere_26 o M
set_option maxHeartbeats 4000000 in
set_option maxRecDepth 100000 in
theorem ct_X7_isThere {g : GT} {l : Launch} {o : Nat} {v1 : Int32} {M : Mem} {t : Int32} (ho : o < 18) (h : f_X7_isThere o v1 M = some t) : Ct g l 0 yX7_isThere cX7_isThere 2 (some .boolean) [.ref (ga g o 0), .int v1] M (some (.int t)) M := by
  refine ct_of (k := 0) (by decide) (Nat.le_of_ble_eq_true rfl) rfl (fun X C hl hr hR => ?_)
  subst hl
  have C : Cx g X cX7_isThere RX7 2 0 := C
  unfold f_X7_isThere at h
  refine kj_ild1 (pc := 0) C dX7_isThere_0 ?_
  refine kj_if_lt (pc := 1) C dX7_isThere_1 (tgt := 26) (by decide) (fun c1 => ?_) (fun c1 => ?_)
  · have h := of_pos c1 h
    exact k_X7_isThere_26 C hr hR ho  _ _ h
  · have h := of_neg c1 h
    refine kj_ild1 (pc := 4) C dX7_isThere_4 ?_
    refine kj_bipush (pc := 5) C (v := 6) dX7_isThere_5 cb_6 ?_
    refine kj_icmp_ge (pc := 7) C dX7_isThere_7 (tgt := 26) (by decide) (fun c2 => ?_) (fun c2 => ?_)
    · have h := of_pos c2 h
      exact k_X7_isThere_26 C hr hR ho  _ _ h
    · have h := of_neg c2 h
      refine kj_ald0 (pc := 10) C dX7_isThere_10 ?_
      refine gf_X7_24 (pc := 11) C ho dX7_isThere_11 ?_
      refine kj_ild1 (pc := 14) C dX7_isThere_14 ?_
      refine kj_ishr (pc := 15) C dX7_isThere_15 ?_
      refine kj_iconst (pc := 16) C (v := 1) dX7_isThere_16 ci_1 ?_
      refine kj_iand (pc := 17) C dX7_isThere_17 ?_
      refine kj_iconst (pc := 18) C (v := 1) dX7_isThere_18 ci_1 ?_
      refine kj_icmp_ne (pc := 19) C dX7_isThere_19 (tgt := 26) (by decide) (fun c3 => ?_) (fun c3 => ?_)
      · have h := of_neg c3 h
        exact k_X7_isThere_26 C hr hR ho  _ _ h
      · have h := of_pos c3 h
        refine kj_iconst (pc := 22) C (v := 1) dX7_isThere_22 ci_1 ?_
        refine kj_goto (pc := 23) C dX7_isThere_23 (tgt := 27) (by decide) ?_
        exact k_X7_isThere_27 C hr hR ho _ _ _ h
def f_X7_isHeld_30 (o : Nat) (M : Mem) (s0 : Int32) : Option (Int32) := if s0 = 0 ∨ s0 = 1 then some s0 else none
set_option maxHeartbeats 4000000 in
set_option maxRecDepth 100000 in
theorem k_X7_isHeld_30 {g : GT} {X : XT} {o : Nat} {M : Mem} {t : Int32} (C : Cx g X cX7_isHeld RX7 2 0) (hr : (xt X).sig.returnType = some .boolean) (hR : Rt g X (some (.int t)) M) (ho : o < 18) : ∀ (s0 : Int32) (w0 w1 : Option Value), f_X7_isHeld_30 o M s0 = some t → Kj g X 2 30 [w0, w1] [.int s0] M := by
  intro s0 w0 w1 h
  unfold f_X7_isHeld_30 at h
  obtain ⟨c1, h⟩ := of_gd h
  cases h
  exact kj_zret (pc := 30) C hr c1 hR dX7_isHeld_30
def f_X7_isHeld_25 (o : Nat) (M : Mem) : Option (Int32) := f_X7_isHeld_30 o M 1
set_option maxHeartbeats 4000000 in
set_option maxRecDepth 100000 in
theorem k_X7_isHeld_25 {g : GT} {X : XT} {o : Nat} {M : Mem} {t : Int32} (C : Cx g X cX7_isHeld RX7 2 0) (hr : (xt X).sig.returnType = some .boolean) (hR : Rt g X (some (.int t)) M) (ho : o < 18) : ∀ (w0 w1 : Option Value), f_X7_isHeld_25 o M = some t → Kj g X 2 25 [w0, w1] [] M := by
  intro w0 w1 h
  unfold f_X7_isHeld_25 at h
  refine kj_iconst (pc := 25) C (v := 1) dX7_isHeld_25 ci_1 ?_
  refine kj_goto (pc := 26) C dX7_isHeld_26 (tgt := 30) (by decide) ?_
  exact k_X7_isHeld_30 C hr hR ho _ _ _ h
def f_X7_isHeld (o : Nat) (v1 : Int32) (M : Mem) : Option (Int32) := if ¬ (v1 < 0 ∨ 6 ≤ v1.toNatClampNeg) then if (M.1 19 3 v1.toNatClampNeg) = 1 then f_X7_isHeld_25 o M else if (((M.1 o 0 6) >>> (v1 &&& 31)) &&& (1 : Int32)) = 1 then f_X7_isHeld_25 o M else f_X7_isHeld_30 o M 0 else none
set_option maxHeartbeats 4000000 in
set_option maxRecDepth 100000 in
theorem ct_X7_isHeld {g : GT} {l : Launch} {o : Nat} {v1 : Int32} {M : Mem} {t : Int32} (ho : o < 18) (h : f_X7_isHeld o v1 M = some t) : Ct g l 0 yX7_isHeld cX7_isHeld 2 (some .boolean) [.ref (ga g o 0), .int v1] M (some (.int t)) M := by
  refine ct_of (k := 0) (by decide) (Nat.le_of_ble_eq_true rfl) rfl (fun X C hl hr hR => ?_)
  subst hl
  have C : Cx g X cX7_isHeld RX7 2 0 := C
  unfold f_X7_isHeld at h
  refine kj_ald0 (pc := 0) C dX7_isHeld_0 ?_
  refine gf_X7_34 (pc := 1) C ho dX7_isHeld_1 ?_
  refine gf_X7_44 (pc := 4) C dX7_isHeld_4 ?_
  refine kj_ild1 (pc := 7) C dX7_isHeld_7 ?_
  obtain ⟨c1, h⟩ := of_gd h
  refine kj_iald2 (pc := 8) C ia_19_3 c1 dX7_isHeld_8 ?_
  refine kj_iconst (pc := 9) C (v := 1) dX7_isHeld_9 ci_1 ?_
  refine kj_icmp_eq (pc := 10) C dX7_isHeld_10 (tgt := 25) (by decide) (fun c2 => ?_) (fun c2 => ?_)
  · have h := of_pos c2 h
    exact k_X7_isHeld_25 C hr hR ho  _ _ h
  · have h := of_neg c2 h
    refine kj_ald0 (pc := 13) C dX7_isHeld_13 ?_
    refine gf_X7_28 (pc := 14) C ho dX7_isHeld_14 ?_
    refine kj_ild1 (pc := 17) C dX7_isHeld_17 ?_
    refine kj_ishr (pc := 18) C dX7_isHeld_18 ?_
    refine kj_iconst (pc := 19) C (v := 1) dX7_isHeld_19 ci_1 ?_
    refine kj_iand (pc := 20) C dX7_isHeld_20 ?_
    refine kj_iconst (pc := 21) C (v := 1) dX7_isHeld_21 ci_1 ?_
    refine kj_icmp_ne (pc := 22) C dX7_isHeld_22 (tgt := 29) (by decide) (fun c3 => ?_) (fun c3 => ?_)
    · have h := of_neg c3 h
      refine kj_iconst (pc := 29) C (v := 0) dX7_isHeld_29 ci_0 ?_
      exact k_X7_isHeld_30 C hr hR ho _ _ _ h
    · have h := of_pos c3 h
      exact k_X7_isHeld_25 C hr hR ho  _ _ h
def f_X7_isSeen_47 (o : Nat) (M : Mem) (s0 : Int32) : Option (Int32) := if s0 = 0 ∨ s0 = 1 then some s0 else none
set_option maxHeartbeats 4000000 in
set_option maxRecDepth 100000 in
theorem k_X7_isSeen_47 {g : GT} {X : XT} {o : Nat} {M : Mem} {t : Int32} (C : Cx g X cX7_isSeen RX7 4 0) (hr : (xt X).sig.returnType = some .boolean) (hR : Rt g X (some (.int t)) M) (ho : o < 18) : ∀ (s0 : Int32) (w0 w1 w2 w3 : Option Value), f_X7_isSeen_47 o M s0 = some t → Kj g X 4 47 [w0, w1, w2, w3] [.int s0] M := by
  intro s0 w0 w1 w2 w3 h
  unfold f_X7_isSeen_47 at h
  obtain ⟨c1, h⟩ := of_gd h
  cases h
  exact kj_zret (pc := 47) C hr c1 hR dX7_isSeen_47
def f_X7_isSeen_46 (o : Nat) (M : Mem) : Option (Int32) := f_X7_isSeen_47 o M 0
set_option maxHeartbeats 4000000 in
set_option maxRecDepth 100000 in
theorem k_X7_isSeen_46 {g : GT} {X : XT} {o : Nat} {M : Mem} {t : Int32} (C : Cx g X cX7_isSeen RX7 4 0) (hr : (xt X).sig.returnType = some .boolean) (hR : Rt g X (some (.int t)) M) (ho : o < 18) : ∀ (w0 w1 w2 w3 : Option Value), f_X7_isSeen_46 o M = some t → Kj g X 4 46 [w0, w1, w2, w3] [] M := by
  intro w0 w1 w2 w3 h
  unfold f_X7_isSeen_46 at h
  refine kj_iconst (pc := 46) C (v := 0) dX7_isSeen_46 ci_0 ?_
  exact k_X7_isSeen_47 C hr hR ho _ _ _ _ _ h
def f_X7_isSeen (o : Nat) (v1 : Int32) (v2 : Int32) (M : Mem) : Option (Int32) := if ¬ (v1 < 0 ∨ 6 ≤ v1.toNatClampNeg) then if ¬ (v2 < 0 ∨ 6 ≤ v2.toNatClampNeg) then lt_ ((M.1 o 1 v1.toNatClampNeg) - (M.1 o 1 v2.toNatClampNeg)) (fun x3 => if v1 = v2 then f_X7_isSeen_46 o M else if (((M.1 o 0 5) >>> (v2 &&& 31)) &&& (1 : Int32)) = 1 then if 3 < x3 then f_X7_isSeen_46 o M else if x3 < (-3) then f_X7_isSeen_46 o M else f_X7_isSeen_47 o M 1 else f_X7_isSeen_46 o M) else none else none
set_option maxHeartbeats 4000000 in
set_option maxRecDepth 100000 in
theorem ct_X7_isSeen {g : GT} {l : Launch} {o : Nat} {v1 : Int32} {v2 : Int32} {M : Mem} {t : Int32} (ho : o < 18) (h : f_X7_isSeen o v1 v2 M = some t) : Ct g l 0 yX7_isSeen cX7_isSeen 4 (some .boolean) [.ref (ga g o 0), .int v1, .int v2] M (some (.int t)) M := by
  refine ct_of (k := 1) (by decide) (Nat.le_of_ble_eq_true rfl) rfl (fun X C hl hr hR => ?_)
  subst hl
  have C : Cx g X cX7_isSeen RX7 4 0 := C
  unfold f_X7_isSeen at h
  refine kj_ald0 (pc := 0) C dX7_isSeen_0 ?_
  refine gf_X7_9 (pc := 1) C ho dX7_isSeen_1 ?_
  refine kj_ild1 (pc := 4) C dX7_isSeen_4 ?_
  obtain ⟨c1, h⟩ := of_gd h
  refine kj_iald2 (pc := 5) C (ia_st ho ⟨by decide, by decide⟩) c1 dX7_isSeen_5 ?_
  refine kj_ald0 (pc := 6) C dX7_isSeen_6 ?_
  refine gf_X7_9 (pc := 7) C ho dX7_isSeen_7 ?_
  refine kj_ild2 (pc := 10) C dX7_isSeen_10 ?_
  obtain ⟨c2, h⟩ := of_gd h
  refine kj_iald2 (pc := 11) C (ia_st ho ⟨by decide, by decide⟩) c2 dX7_isSeen_11 ?_
  refine kj_isub (pc := 12) C dX7_isSeen_12 ?_
  obtain ⟨x3, ex3, h⟩ := of_lt h
  refine kj_ni ex3 ?_
  refine kj_ist3 (pc := 13) C dX7_isSeen_13 (Nat.le_of_ble_eq_true rfl) rfl ?_
  refine kj_ild1 (pc := 14) C dX7_isSeen_14 ?_
  refine kj_ild2 (pc := 15) C dX7_isSeen_15 ?_
  refine kj_icmp_eq (pc := 16) C dX7_isSeen_16 (tgt := 46) (by decide) (fun c4 => ?_) (fun c4 => ?_)
  · have h := of_pos c4 h
    exact k_X7_isSeen_46 C hr hR ho  _ _ _ _ h
  · have h := of_neg c4 h
    refine kj_ald0 (pc := 19) C dX7_isSeen_19 ?_
    refine gf_X7_24 (pc := 20) C ho dX7_isSeen_20 ?_
    refine kj_ild2 (pc := 23) C dX7_isSeen_23 ?_
    refine kj_ishr (pc := 24) C dX7_isSeen_24 ?_
    refine kj_iconst (pc := 25) C (v := 1) dX7_isSeen_25 ci_1 ?_
    refine kj_iand (pc := 26) C dX7_isSeen_26 ?_
    refine kj_iconst (pc := 27) C (v := 1) dX7_isSeen_27 ci_1 ?_
    refine kj_icmp_ne (pc := 28) C dX7_isSeen_28 (tgt := 46) (by decide) (fun c5 => ?_) (fun c5 => ?_)
    · have h := of_neg c5 h
      exact k_X7_isSeen_46 C hr hR ho  _ _ _ _ h
    · have h := of_pos c5 h
      refine kj_ild3 (pc := 31) C dX7_isSeen_31 ?_
      refine kj_iconst (pc := 32) C (v := 3) dX7_isSeen_32 ci_3 ?_
      refine kj_icmp_gt (pc := 33) C dX7_isSeen_33 (tgt := 46) (by decide) (fun c6 => ?_) (fun c6 => ?_)
      · have h := of_pos c6 h
        exact k_X7_isSeen_46 C hr hR ho  _ _ _ _ h
      · have h := of_neg c6 h
        refine kj_ild3 (pc := 36) C dX7_isSeen_36 ?_
        refine kj_bipush (pc := 37) C (v := (-3)) dX7_isSeen_37 cb_m3 ?_
        refine kj_icmp_lt (pc := 39) C dX7_isSeen_39 (tgt := 46) (by decide) (fun c7 => ?_) (fun c7 => ?_)
        · have h := of_pos c7 h
          exact k_X7_isSeen_46 C hr hR ho  _ _ _ _ h
        · have h := of_neg c7 h
          refine kj_iconst (pc := 42) C (v := 1) dX7_isSeen_42 ci_1 ?_
          refine kj_goto (pc := 43) C dX7_isSeen_43 (tgt := 47) (by decide) ?_
          exact k_X7_isSeen_47 C hr hR ho _ _ _ _ _ h
def f_X7_enviedBy_94 (o : Nat) (M : Mem) (k58 : Int32 → Nat → Int32 → Int32 → Int32 → Option (Int32)) (v1 : Int32) (r3 : Nat) (v4 : Int32) (v5 : Int32) (v6 : Int32) : Option (Int32) := lt_ (v6 + 1) (fun x1 => k58 v1 r3 v4 v5 x1)
set_option maxHeartbeats 4000000 in
set_option maxRecDepth 100000 in
theorem k_X7_enviedBy_94 {g : GT} {X : XT} {o : Nat} {M : Mem} {k58 : Int32 → Nat → Int32 → Int32 → Int32 → Option (Int32)} {t : Int32} (C : Cx g X cX7_enviedBy RX7 7 1) (hr : (xt X).sig.returnType = some .int) (hR : Rt g X (some (.int t)) M) (ho : o < 18) (hk58 : ∀ (v1 : Int32) (r3 : Nat) (v4 : Int32) (v5 : Int32) (v6 : Int32) (w2 : Option Value) (hr3 : 0 < r3 ∧ r3 < 5), k58 v1 r3 v4 v5 v6 = some t → Kj g X 7 58 [some (.ref (ga g o 0)), some (.int v1), w2, some (.ref (ga g o r3)), some (.int v4), some (.int v5), some (.int v6)] [] M) : ∀ (v1 : Int32) (r3 : Nat) (v4 : Int32) (v5 : Int32) (v6 : Int32) (w2 : Option Value) (hr3 : 0 < r3 ∧ r3 < 5), f_X7_enviedBy_94 o M k58 v1 r3 v4 v5 v6 = some t → Kj g X 7 94 [some (.ref (ga g o 0)), some (.int v1), w2, some (.ref (ga g o r3)), some (.int v4), some (.int v5), some (.int v6)] [] M := by
  intro v1 r3 v4 v5 v6 w2 hr3 h
  unfold f_X7_enviedBy_94 at h
  obtain ⟨x1, ex1, h⟩ := of_lt h
  refine kj_iinc6 (pc := 94) C (v := x1) dX7_enviedBy_94 (Nat.le_of_ble_eq_true rfl) rfl (by rw [ex1, ci_1]) ?_
  refine kj_goto (pc := 97) C dX7_enviedBy_97 (tgt := 58) (by decide) ?_
  exact hk58 _ _ _ _ _ _ hr3 h
def f_X7_enviedBy_58 (o : Nat) (M : Mem) (n : Nat) (v1 : Int32) (r3 : Nat) (v4 : Int32) (v5 : Int32) (v6 : Int32) : Option (Int32) := match n with
  | 0 => none
  | n + 1 => if 6 ≤ v6 then some v5 else if ¬ (v6 < 0 ∨ 6 ≤ v6.toNatClampNeg) then if (M.1 o r3 v6.toNatClampNeg) ≤ v4 then f_X7_enviedBy_94 o M (f_X7_enviedBy_58 o M n) v1 r3 v4 v5 v6 else (f_X7_isSeen o v1 v6 M).bind (fun q4 => if q4 = 0 then f_X7_enviedBy_94 o M (f_X7_enviedBy_58 o M n) v1 r3 v4 v5 v6 else if ¬ (v6 < 0 ∨ 6 ≤ v6.toNatClampNeg) then lt_ (M.1 o r3 v6.toNatClampNeg) (fun x7 => f_X7_enviedBy_94 o M (f_X7_enviedBy_58 o M n) v1 r3 x7 v6 v6) else none) else none
set_option maxHeartbeats 4000000 in
set_option maxRecDepth 100000 in
theorem k_X7_enviedBy_58 {g : GT} {X : XT} {o : Nat} {M : Mem} {t : Int32} (C : Cx g X cX7_enviedBy RX7 7 1) (hr : (xt X).sig.returnType = some .int) (hR : Rt g X (some (.int t)) M) (ho : o < 18) (n : Nat) : ∀ (v1 : Int32) (r3 : Nat) (v4 : Int32) (v5 : Int32) (v6 : Int32) (w2 : Option Value) (hr3 : 0 < r3 ∧ r3 < 5), f_X7_enviedBy_58 o M n v1 r3 v4 v5 v6 = some t → Kj g X 7 58 [some (.ref (ga g o 0)), some (.int v1), w2, some (.ref (ga g o r3)), some (.int v4), some (.int v5), some (.int v6)] [] M := by
  induction n with
  | zero => intro v1 r3 v4 v5 v6 w2 hr3 h; rw [f_X7_enviedBy_58] at h; cases h
  | succ n ih =>
    intro v1 r3 v4 v5 v6 w2 hr3 h
    rw [f_X7_enviedBy_58] at h
    refine kj_ild6 (pc := 58) C dX7_enviedBy_58 ?_
    refine kj_bipush (pc := 60) C (v := 6) dX7_enviedBy_60 cb_6 ?_
    refine kj_icmp_ge (pc := 62) C dX7_enviedBy_62 (tgt := 100) (by decide) (fun c1 => ?_) (fun c1 => ?_)
    · have h := of_pos c1 h
      refine kj_ild5 (pc := 100) C dX7_enviedBy_100 ?_
      cases h
      exact kj_iret (pc := 102) C hr hR dX7_enviedBy_102
    · have h := of_neg c1 h
      refine kj_ald3 (pc := 65) C dX7_enviedBy_65 ?_
      refine kj_ild6 (pc := 66) C dX7_enviedBy_66 ?_
      obtain ⟨c2, h⟩ := of_gd h
      refine kj_iald2 (pc := 68) C (ia_st ho hr3) c2 dX7_enviedBy_68 ?_
      refine kj_ild4 (pc := 69) C dX7_enviedBy_69 ?_
      refine kj_icmp_le (pc := 71) C dX7_enviedBy_71 (tgt := 94) (by decide) (fun c3 => ?_) (fun c3 => ?_)
      · have h := of_pos c3 h
        exact k_X7_enviedBy_94 C hr hR ho ih _ _ _ _ _ _ hr3 h
      · have h := of_neg c3 h
        refine kj_ald0 (pc := 74) C dX7_enviedBy_74 ?_
        refine kj_ild1 (pc := 75) C dX7_enviedBy_75 ?_
        refine kj_ild6 (pc := 76) C dX7_enviedBy_76 ?_
        obtain ⟨q4, eq4, h⟩ := of_bind h
        refine kj_callV1 (pc := 78) C (ct_X7_isSeen ho eq4) (Nat.le_of_ble_eq_true rfl) mi_X7_isSeen ml_X7_49 (rc_st ho) rfl rfl ar2 (Nat.le_of_ble_eq_true rfl) dX7_enviedBy_78 ?_
        refine kj_if_eq (pc := 81) C dX7_enviedBy_81 (tgt := 94) (by decide) (fun c5 => ?_) (fun c5 => ?_)
        · have h := of_pos c5 h
          exact k_X7_enviedBy_94 C hr hR ho ih _ _ _ _ _ _ hr3 h
        · have h := of_neg c5 h
          refine kj_ald3 (pc := 84) C dX7_enviedBy_84 ?_
          refine kj_ild6 (pc := 85) C dX7_enviedBy_85 ?_
          obtain ⟨c6, h⟩ := of_gd h
          refine kj_iald2 (pc := 87) C (ia_st ho hr3) c6 dX7_enviedBy_87 ?_
          obtain ⟨x7, ex7, h⟩ := of_lt h
          refine kj_ni ex7 ?_
          refine kj_ist4 (pc := 88) C dX7_enviedBy_88 (Nat.le_of_ble_eq_true rfl) rfl ?_
          refine kj_ild6 (pc := 90) C dX7_enviedBy_90 ?_
          refine kj_ist5 (pc := 92) C dX7_enviedBy_92 (Nat.le_of_ble_eq_true rfl) rfl ?_
          exact k_X7_enviedBy_94 C hr hR ho ih _ _ _ _ _ _ hr3 h
def f_X7_enviedBy_45 (o : Nat) (M : Mem) (v1 : Int32) (t0 : Nat) : Option (Int32) := if ¬ (v1 < 0 ∨ 6 ≤ v1.toNatClampNeg) then lt_ (M.1 o t0 v1.toNatClampNeg) (fun x2 => f_X7_enviedBy_58 o M 100 v1 t0 x2 (-9) 0) else none
set_option maxHeartbeats 4000000 in
set_option maxRecDepth 100000 in
theorem k_X7_enviedBy_45 {g : GT} {X : XT} {o : Nat} {M : Mem} {t : Int32} (C : Cx g X cX7_enviedBy RX7 7 1) (hr : (xt X).sig.returnType = some .int) (hR : Rt g X (some (.int t)) M) (ho : o < 18) : ∀ (v1 : Int32) (t0 : Nat) (w2 w3 w4 w5 w6 : Option Value) (ht0 : 0 < t0 ∧ t0 < 5), f_X7_enviedBy_45 o M v1 t0 = some t → Kj g X 7 45 [some (.ref (ga g o 0)), some (.int v1), w2, w3, w4, w5, w6] [.ref (ga g o t0)] M := by
  intro v1 t0 w2 w3 w4 w5 w6 ht0 h
  unfold f_X7_enviedBy_45 at h
  refine kj_ast3w (pc := 45) C dX7_enviedBy_45 (Nat.le_of_ble_eq_true rfl) ?_
  refine kj_ald3 (pc := 46) C dX7_enviedBy_46 ?_
  refine kj_ild1 (pc := 47) C dX7_enviedBy_47 ?_
  obtain ⟨c1, h⟩ := of_gd h
  refine kj_iald2 (pc := 48) C (ia_st ho ht0) c1 dX7_enviedBy_48 ?_
  obtain ⟨x2, ex2, h⟩ := of_lt h
  refine kj_ni ex2 ?_
  refine kj_ist4 (pc := 49) C dX7_enviedBy_49 (Nat.le_of_ble_eq_true rfl) rfl ?_
  refine kj_bipush (pc := 51) C (v := (-9)) dX7_enviedBy_51 cb_m9 ?_
  refine kj_ist5 (pc := 53) C dX7_enviedBy_53 (Nat.le_of_ble_eq_true rfl) rfl ?_
  refine kj_iconst (pc := 55) C (v := 0) dX7_enviedBy_55 ci_0 ?_
  refine kj_ist6 (pc := 56) C dX7_enviedBy_56 (Nat.le_of_ble_eq_true rfl) rfl ?_
  exact k_X7_enviedBy_58 C hr hR ho 100 _ _ _ _ _ _ ht0 h
def f_X7_enviedBy_30 (o : Nat) (M : Mem) (v1 : Int32) (v2 : Int32) : Option (Int32) := if v2 = 0 then f_X7_enviedBy_45 o M v1 2 else f_X7_enviedBy_45 o M v1 3
set_option maxHeartbeats 4000000 in
set_option maxRecDepth 100000 in
theorem k_X7_enviedBy_30 {g : GT} {X : XT} {o : Nat} {M : Mem} {t : Int32} (C : Cx g X cX7_enviedBy RX7 7 1) (hr : (xt X).sig.returnType = some .int) (hR : Rt g X (some (.int t)) M) (ho : o < 18) : ∀ (v1 : Int32) (v2 : Int32) (w3 w4 w5 w6 : Option Value), f_X7_enviedBy_30 o M v1 v2 = some t → Kj g X 7 30 [some (.ref (ga g o 0)), some (.int v1), some (.int v2), w3, w4, w5, w6] [] M := by
  intro v1 v2 w3 w4 w5 w6 h
  unfold f_X7_enviedBy_30 at h
  refine kj_ild2 (pc := 30) C dX7_enviedBy_30 ?_
  refine kj_if_ne (pc := 31) C dX7_enviedBy_31 (tgt := 41) (by decide) (fun c1 => ?_) (fun c1 => ?_)
  · have h := of_neg c1 h
    refine kj_ald0 (pc := 41) C dX7_enviedBy_41 ?_
    refine gf_X7_18 (pc := 42) C ho dX7_enviedBy_42 ?_
    exact k_X7_enviedBy_45 C hr hR ho _ _ _ _ _ _ _ ⟨by decide, by decide⟩ h
  · have h := of_pos c1 h
    refine kj_ald0 (pc := 34) C dX7_enviedBy_34 ?_
    refine gf_X7_15 (pc := 35) C ho dX7_enviedBy_35 ?_
    refine kj_goto (pc := 38) C dX7_enviedBy_38 (tgt := 45) (by decide) ?_
    exact k_X7_enviedBy_45 C hr hR ho _ _ _ _ _ _ _ ⟨by decide, by decide⟩ h
def f_X7_enviedBy_27 (o : Nat) (M : Mem) : Option (Int32) := some ((-9) : Int32)
set_option maxHeartbeats 4000000 in
set_option maxRecDepth 100000 in
theorem k_X7_enviedBy_27 {g : GT} {X : XT} {o : Nat} {M : Mem} {t : Int32} (C : Cx g X cX7_enviedBy RX7 7 1) (hr : (xt X).sig.returnType = some .int) (hR : Rt g X (some (.int t)) M) (ho : o < 18) : ∀ (w0 w1 w2 w3 w4 w5 w6 : Option Value), f_X7_enviedBy_27 o M = some t → Kj g X 7 27 [w0, w1, w2, w3, w4, w5, w6] [] M := by
  intro w0 w1 w2 w3 w4 w5 w6 h
  unfold f_X7_enviedBy_27 at h
  refine kj_bipush (pc := 27) C (v := (-9)) dX7_enviedBy_27 cb_m9 ?_
  cases h
  exact kj_iret (pc := 29) C hr hR dX7_enviedBy_29
def f_X7_enviedBy (o : Nat) (v1 : Int32) (M : Mem) : Option (Int32) := if ¬ (v1 < 0 ∨ 6 ≤ v1.toNatClampNeg) then lt_ (M.1 19 3 v1.toNatClampNeg) (fun x2 => (f_X7_isHeld o v1 M).bind (fun q3 => if q3 = 0 then if x2 = 0 then f_X7_enviedBy_30 o M v1 x2 else if x2 = 3 then f_X7_enviedBy_30 o M v1 x2 else f_X7_enviedBy_27 o M else f_X7_enviedBy_27 o M)) else none
set_option maxHeartbeats 4000000 in
set_option maxRecDepth 100000 in
theorem ct_X7_enviedBy {g : GT} {l : Launch} {o : Nat} {v1 : Int32} {M : Mem} {t : Int32} (ho : o < 18) (h : f_X7_enviedBy o v1 M = some t) : Ct g l 1 yX7_enviedBy cX7_enviedBy 7 (some .int) [.ref (ga g o 0), .int v1] M (some (.int t)) M := by
  refine ct_of (k := 5) (by decide) (Nat.le_of_ble_eq_true rfl) rfl (fun X C hl hr hR => ?_)
  subst hl
  have C : Cx g X cX7_enviedBy RX7 7 1 := C
  unfold f_X7_enviedBy at h
  refine kj_ald0 (pc := 0) C dX7_enviedBy_0 ?_
  refine gf_X7_34 (pc := 1) C ho dX7_enviedBy_1 ?_
  refine gf_X7_44 (pc := 4) C dX7_enviedBy_4 ?_
  refine kj_ild1 (pc := 7) C dX7_enviedBy_7 ?_
  obtain ⟨c1, h⟩ := of_gd h
  refine kj_iald2 (pc := 8) C ia_19_3 c1 dX7_enviedBy_8 ?_
  obtain ⟨x2, ex2, h⟩ := of_lt h
  refine kj_ni ex2 ?_
  refine kj_ist2 (pc := 9) C dX7_enviedBy_9 (Nat.le_of_ble_eq_true rfl) rfl ?_
  refine kj_ald0 (pc := 10) C dX7_enviedBy_10 ?_
  refine kj_ild1 (pc := 11) C dX7_enviedBy_11 ?_
  obtain ⟨q3, eq3, h⟩ := of_bind h
  refine kj_callV1 (pc := 12) C (ct_X7_isHeld ho eq3) (Nat.le_of_ble_eq_true rfl) mi_X7_isHeld ml_X7_53 (rc_st ho) rfl rfl ar1 (Nat.le_of_ble_eq_true rfl) dX7_enviedBy_12 ?_
  refine kj_if_ne (pc := 15) C dX7_enviedBy_15 (tgt := 27) (by decide) (fun c4 => ?_) (fun c4 => ?_)
  · have h := of_neg c4 h
    exact k_X7_enviedBy_27 C hr hR ho  _ _ _ _ _ _ _ h
  · have h := of_pos c4 h
    refine kj_ild2 (pc := 18) C dX7_enviedBy_18 ?_
    refine kj_if_eq (pc := 19) C dX7_enviedBy_19 (tgt := 30) (by decide) (fun c5 => ?_) (fun c5 => ?_)
    · have h := of_pos c5 h
      exact k_X7_enviedBy_30 C hr hR ho _ _ _ _ _ _ h
    · have h := of_neg c5 h
      refine kj_ild2 (pc := 22) C dX7_enviedBy_22 ?_
      refine kj_iconst (pc := 23) C (v := 3) dX7_enviedBy_23 ci_3 ?_
      refine kj_icmp_eq (pc := 24) C dX7_enviedBy_24 (tgt := 30) (by decide) (fun c6 => ?_) (fun c6 => ?_)
      · have h := of_pos c6 h
        exact k_X7_enviedBy_30 C hr hR ho _ _ _ _ _ _ h
      · have h := of_neg c6 h
        exact k_X7_enviedBy_27 C hr hR ho  _ _ _ _ _ _ _ h
def f_X7_nextNoteOf_41 (o : Nat) (M : Mem) (v3 : Int32) : Option (Int32) := some v3
set_option maxHeartbeats 4000000 in
set_option maxRecDepth 100000 in
theorem k_X7_nextNoteOf_41 {g : GT} {X : XT} {o : Nat} {M : Mem} {t : Int32} (C : Cx g X cX7_nextNoteOf RX7 5 2) (hr : (xt X).sig.returnType = some .int) (hR : Rt g X (some (.int t)) M) (ho : o < 18) : ∀ (v3 : Int32) (w0 w1 w2 w4 : Option Value), f_X7_nextNoteOf_41 o M v3 = some t → Kj g X 5 41 [w0, w1, w2, some (.int v3), w4] [] M := by
  intro v3 w0 w1 w2 w4 h
  unfold f_X7_nextNoteOf_41 at h
  refine kj_ild3 (pc := 41) C dX7_nextNoteOf_41 ?_
  cases h
  exact kj_iret (pc := 42) C hr hR dX7_nextNoteOf_42
def f_X7_nextNoteOf (o : Nat) (v1 : Int32) (M : Mem) : Option (Int32) := (f_X7_isHeld o v1 M).bind (fun q1 => if q1 = 0 then (f_X7_enviedBy o v1 M).bind (fun q3 => if ¬ (v1 < 0 ∨ 6 ≤ v1.toNatClampNeg) then lt_ (M.1 19 1 v1.toNatClampNeg) (fun x5 => if q3 < 0 then f_X7_nextNoteOf_41 o M x5 else if q3 < 6 then if ¬ (v1 < 0 ∨ 6 ≤ v1.toNatClampNeg) then lt_ (M.1 19 2 v1.toNatClampNeg) (fun x9 => if ¬ (q3 < 0 ∨ 6 ≤ q3.toNatClampNeg) then lt_ (if (x5 + x9) < (M.1 o 3 q3.toNatClampNeg) then (x5 + x9) else (M.1 o 3 q3.toNatClampNeg)) (fun x11 => lt_ (if x11 < (x5 - x9) then (x5 - x9) else x11) (fun x12 => some x12)) else none) else none else f_X7_nextNoteOf_41 o M x5) else none) else if ¬ (v1 < 0 ∨ 6 ≤ v1.toNatClampNeg) then some (M.1 o 3 v1.toNatClampNeg) else none)
set_option maxHeartbeats 4000000 in
set_option maxRecDepth 100000 in
theorem ct_X7_nextNoteOf {g : GT} {l : Launch} {o : Nat} {v1 : Int32} {M : Mem} {t : Int32} (ho : o < 18) (h : f_X7_nextNoteOf o v1 M = some t) : Ct g l 2 yX7_nextNoteOf cX7_nextNoteOf 5 (some .int) [.ref (ga g o 0), .int v1] M (some (.int t)) M := by
  refine ct_of (k := 3) (by decide) (Nat.le_of_ble_eq_true rfl) rfl (fun X C hl hr hR => ?_)
  subst hl
  have C : Cx g X cX7_nextNoteOf RX7 5 2 := C
  unfold f_X7_nextNoteOf at h
  refine kj_ald0 (pc := 0) C dX7_nextNoteOf_0 ?_
  refine kj_ild1 (pc := 1) C dX7_nextNoteOf_1 ?_
  obtain ⟨q1, eq1, h⟩ := of_bind h
  refine kj_callV1 (pc := 2) C (ct_X7_isHeld ho eq1) (Nat.le_of_ble_eq_true rfl) mi_X7_isHeld ml_X7_53 (rc_st ho) rfl rfl ar1 (Nat.le_of_ble_eq_true rfl) dX7_nextNoteOf_2 ?_
  refine kj_if_eq (pc := 5) C dX7_nextNoteOf_5 (tgt := 15) (by decide) (fun c2 => ?_) (fun c2 => ?_)
  · have h := of_pos c2 h
    refine kj_ald0 (pc := 15) C dX7_nextNoteOf_15 ?_
    refine kj_ild1 (pc := 16) C dX7_nextNoteOf_16 ?_
    obtain ⟨q3, eq3, h⟩ := of_bind h
    refine kj_callV1 (pc := 17) C (ct_X7_enviedBy ho eq3) (Nat.le_of_ble_eq_true rfl) mi_X7_enviedBy ml_X7_57 (rc_st ho) rfl rfl ar1 (Nat.le_of_ble_eq_true rfl) dX7_nextNoteOf_17 ?_
    refine kj_ist2 (pc := 20) C dX7_nextNoteOf_20 (Nat.le_of_ble_eq_true rfl) rfl ?_
    refine kj_ald0 (pc := 21) C dX7_nextNoteOf_21 ?_
    refine gf_X7_34 (pc := 22) C ho dX7_nextNoteOf_22 ?_
    refine gf_X7_61 (pc := 25) C dX7_nextNoteOf_25 ?_
    refine kj_ild1 (pc := 28) C dX7_nextNoteOf_28 ?_
    obtain ⟨c4, h⟩ := of_gd h
    refine kj_iald2 (pc := 29) C ia_19_1 c4 dX7_nextNoteOf_29 ?_
    obtain ⟨x5, ex5, h⟩ := of_lt h
    refine kj_ni ex5 ?_
    refine kj_ist3 (pc := 30) C dX7_nextNoteOf_30 (Nat.le_of_ble_eq_true rfl) rfl ?_
    refine kj_ild2 (pc := 31) C dX7_nextNoteOf_31 ?_
    refine kj_if_lt (pc := 32) C dX7_nextNoteOf_32 (tgt := 41) (by decide) (fun c6 => ?_) (fun c6 => ?_)
    · have h := of_pos c6 h
      exact k_X7_nextNoteOf_41 C hr hR ho _ _ _ _ _ h
    · have h := of_neg c6 h
      refine kj_ild2 (pc := 35) C dX7_nextNoteOf_35 ?_
      refine kj_bipush (pc := 36) C (v := 6) dX7_nextNoteOf_36 cb_6 ?_
      refine kj_icmp_lt (pc := 38) C dX7_nextNoteOf_38 (tgt := 43) (by decide) (fun c7 => ?_) (fun c7 => ?_)
      · have h := of_pos c7 h
        refine kj_ald0 (pc := 43) C dX7_nextNoteOf_43 ?_
        refine gf_X7_34 (pc := 44) C ho dX7_nextNoteOf_44 ?_
        refine gf_X7_64 (pc := 47) C dX7_nextNoteOf_47 ?_
        refine kj_ild1 (pc := 50) C dX7_nextNoteOf_50 ?_
        obtain ⟨c8, h⟩ := of_gd h
        refine kj_iald2 (pc := 51) C ia_19_2 c8 dX7_nextNoteOf_51 ?_
        obtain ⟨x9, ex9, h⟩ := of_lt h
        refine kj_ni ex9 ?_
        refine kj_ist4 (pc := 52) C dX7_nextNoteOf_52 (Nat.le_of_ble_eq_true rfl) rfl ?_
        refine kj_ald0 (pc := 54) C dX7_nextNoteOf_54 ?_
        refine gf_X7_18 (pc := 55) C ho dX7_nextNoteOf_55 ?_
        refine kj_ild2 (pc := 58) C dX7_nextNoteOf_58 ?_
        obtain ⟨c10, h⟩ := of_gd h
        refine kj_iald2 (pc := 59) C (ia_st ho ⟨by decide, by decide⟩) c10 dX7_nextNoteOf_59 ?_
        refine kj_ild3 (pc := 60) C dX7_nextNoteOf_60 ?_
        refine kj_ild4 (pc := 61) C dX7_nextNoteOf_61 ?_
        refine kj_iadd (pc := 63) C dX7_nextNoteOf_63 ?_
        obtain ⟨x11, ex11, h⟩ := of_lt h
        refine kj_mmin2 (pc := 64) C ml_X7_67 (Nat.le_of_ble_eq_true rfl) dX7_nextNoteOf_64 ?_
        refine kj_ni ex11 ?_
        refine kj_ild3 (pc := 67) C dX7_nextNoteOf_67 ?_
        refine kj_ild4 (pc := 68) C dX7_nextNoteOf_68 ?_
        refine kj_isub (pc := 70) C dX7_nextNoteOf_70 ?_
        obtain ⟨x12, ex12, h⟩ := of_lt h
        refine kj_mmax2 (pc := 71) C ml_X7_73 (Nat.le_of_ble_eq_true rfl) dX7_nextNoteOf_71 ?_
        refine kj_ni ex12 ?_
        cases h
        exact kj_iret (pc := 74) C hr hR dX7_nextNoteOf_74
      · have h := of_neg c7 h
        exact k_X7_nextNoteOf_41 C hr hR ho _ _ _ _ _ h
  · have h := of_neg c2 h
    refine kj_ald0 (pc := 8) C dX7_nextNoteOf_8 ?_
    refine gf_X7_18 (pc := 9) C ho dX7_nextNoteOf_9 ?_
    refine kj_ild1 (pc := 12) C dX7_nextNoteOf_12 ?_
    obtain ⟨c13, h⟩ := of_gd h
    refine kj_iald2 (pc := 13) C (ia_st ho ⟨by decide, by decide⟩) c13 dX7_nextNoteOf_13 ?_
    cases h
    exact kj_iret (pc := 14) C hr hR dX7_nextNoteOf_14
def f_X7_goOn_112 (o : Nat) (M : Mem) : Option (Mem) := some M
set_option maxHeartbeats 4000000 in
set_option maxRecDepth 100000 in
theorem k_X7_goOn_112 {g : GT} {X : XT} {o : Nat} {t : Mem} (C : Cx g X cX7_goOn RX7 5 3) (hr : (xt X).sig.returnType = none) (hR : Rt g X none t) (ho : o < 18) : ∀ (M : Mem) (w0 w1 w2 w3 w4 : Option Value), f_X7_goOn_112 o M = some t → Kj g X 5 112 [w0, w1, w2, w3, w4] [] M := by
  intro M w0 w1 w2 w3 w4 h
  unfold f_X7_goOn_112 at h
  cases h
  exact kj_vret (pc := 112) C hr hR dX7_goOn_112
def f_X7_goOn_77 (o : Nat) (k2 : Int32 → Int32 → Mem → Option (Mem)) (k12 : Int32 → Int32 → Int32 → Int32 → Mem → Option (Mem)) (v1 : Int32) (v2 : Int32) (v4 : Int32) (s0 : Int32) (M : Mem) : Option (Mem) := lt_ (v4 + 1) (fun x1 => k12 v1 v2 s0 x1 M)
set_option maxHeartbeats 4000000 in
set_option maxRecDepth 100000 in
theorem k_X7_goOn_77 {g : GT} {X : XT} {o : Nat} {k2 : Int32 → Int32 → Mem → Option (Mem)} {k12 : Int32 → Int32 → Int32 → Int32 → Mem → Option (Mem)} {t : Mem} (C : Cx g X cX7_goOn RX7 5 3) (hr : (xt X).sig.returnType = none) (hR : Rt g X none t) (ho : o < 18) (hk2 : ∀ (v1 : Int32) (v2 : Int32) (M : Mem) (w3 w4 : Option Value), k2 v1 v2 M = some t → Kj g X 5 2 [some (.ref (ga g o 0)), some (.int v1), some (.int v2), w3, w4] [] M) (hk12 : ∀ (v1 : Int32) (v2 : Int32) (v3 : Int32) (v4 : Int32) (M : Mem), k12 v1 v2 v3 v4 M = some t → Kj g X 5 12 [some (.ref (ga g o 0)), some (.int v1), some (.int v2), some (.int v3), some (.int v4)] [] M) : ∀ (v1 : Int32) (v2 : Int32) (v4 : Int32) (s0 : Int32) (M : Mem) (w3 : Option Value), f_X7_goOn_77 o k2 k12 v1 v2 v4 s0 M = some t → Kj g X 5 77 [some (.ref (ga g o 0)), some (.int v1), some (.int v2), w3, some (.int v4)] [.int s0] M := by
  intro v1 v2 v4 s0 M w3 h
  unfold f_X7_goOn_77 at h
  refine kj_ist3 (pc := 77) C dX7_goOn_77 (Nat.le_of_ble_eq_true rfl) rfl ?_
  obtain ⟨x1, ex1, h⟩ := of_lt h
  refine kj_iinc4 (pc := 78) C (v := x1) dX7_goOn_78 (Nat.le_of_ble_eq_true rfl) rfl (by rw [ex1, ci_1]) ?_
  refine kj_goto (pc := 81) C dX7_goOn_81 (tgt := 12) (by decide) ?_
  exact hk12 _ _ _ _ _ h
def f_X7_goOn_72 (o : Nat) (k2 : Int32 → Int32 → Mem → Option (Mem)) (k12 : Int32 → Int32 → Int32 → Int32 → Mem → Option (Mem)) (v1 : Int32) (v2 : Int32) (v4 : Int32) (M : Mem) : Option (Mem) := f_X7_goOn_77 o k2 k12 v1 v2 v4 1 M
set_option maxHeartbeats 4000000 in
set_option maxRecDepth 100000 in
theorem k_X7_goOn_72 {g : GT} {X : XT} {o : Nat} {k2 : Int32 → Int32 → Mem → Option (Mem)} {k12 : Int32 → Int32 → Int32 → Int32 → Mem → Option (Mem)} {t : Mem} (C : Cx g X cX7_goOn RX7 5 3) (hr : (xt X).sig.returnType = none) (hR : Rt g X none t) (ho : o < 18) (hk2 : ∀ (v1 : Int32) (v2 : Int32) (M : Mem) (w3 w4 : Option Value), k2 v1 v2 M = some t → Kj g X 5 2 [some (.ref (ga g o 0)), some (.int v1), some (.int v2), w3, w4] [] M) (hk12 : ∀ (v1 : Int32) (v2 : Int32) (v3 : Int32) (v4 : Int32) (M : Mem), k12 v1 v2 v3 v4 M = some t → Kj g X 5 12 [some (.ref (ga g o 0)), some (.int v1), some (.int v2), some (.int v3), some (.int v4)] [] M) : ∀ (v1 : Int32) (v2 : Int32) (v4 : Int32) (M : Mem) (w3 : Option Value), f_X7_goOn_72 o k2 k12 v1 v2 v4 M = some t → Kj g X 5 72 [some (.ref (ga g o 0)), some (.int v1), some (.int v2), w3, some (.int v4)] [] M := by
  intro v1 v2 v4 M w3 h
  unfold f_X7_goOn_72 at h
  refine kj_iconst (pc := 72) C (v := 1) dX7_goOn_72 ci_1 ?_
  refine kj_goto (pc := 73) C dX7_goOn_73 (tgt := 77) (by decide) ?_
  exact k_X7_goOn_77 C hr hR ho hk2 hk12 _ _ _ _ _ _ h
def f_X7_goOn_50 (o : Nat) (k2 : Int32 → Int32 → Mem → Option (Mem)) (k12 : Int32 → Int32 → Int32 → Int32 → Mem → Option (Mem)) (v1 : Int32) (v2 : Int32) (v3 : Int32) (v4 : Int32) (s1 : Int32) (s2 : Int32) (M : Mem) : Option (Mem) := if ¬ (s1 < 0 ∨ 6 ≤ s1.toNatClampNeg) then lt_ (sw M o 4 s1.toNatClampNeg s2) (fun M2 => if v3 = 0 then if ¬ (v4 < 0 ∨ 6 ≤ v4.toNatClampNeg) then if ¬ (v4 < 0 ∨ 6 ≤ v4.toNatClampNeg) then if (M2.1 o 4 v4.toNatClampNeg) = (M2.1 o 3 v4.toNatClampNeg) then f_X7_goOn_77 o k2 k12 v1 v2 v4 0 M2 else f_X7_goOn_72 o k2 k12 v1 v2 v4 M2 else none else none else f_X7_goOn_72 o k2 k12 v1 v2 v4 M2) else none
set_option maxHeartbeats 4000000 in
set_option maxRecDepth 100000 in
theorem k_X7_goOn_50 {g : GT} {X : XT} {o : Nat} {k2 : Int32 → Int32 → Mem → Option (Mem)} {k12 : Int32 → Int32 → Int32 → Int32 → Mem → Option (Mem)} {t : Mem} (C : Cx g X cX7_goOn RX7 5 3) (hr : (xt X).sig.returnType = none) (hR : Rt g X none t) (ho : o < 18) (hk2 : ∀ (v1 : Int32) (v2 : Int32) (M : Mem) (w3 w4 : Option Value), k2 v1 v2 M = some t → Kj g X 5 2 [some (.ref (ga g o 0)), some (.int v1), some (.int v2), w3, w4] [] M) (hk12 : ∀ (v1 : Int32) (v2 : Int32) (v3 : Int32) (v4 : Int32) (M : Mem), k12 v1 v2 v3 v4 M = some t → Kj g X 5 12 [some (.ref (ga g o 0)), some (.int v1), some (.int v2), some (.int v3), some (.int v4)] [] M) : ∀ (v1 : Int32) (v2 : Int32) (v3 : Int32) (v4 : Int32) (s1 : Int32) (s2 : Int32) (M : Mem), f_X7_goOn_50 o k2 k12 v1 v2 v3 v4 s1 s2 M = some t → Kj g X 5 50 [some (.ref (ga g o 0)), some (.int v1), some (.int v2), some (.int v3), some (.int v4)] [.int s2, .int s1, .ref (ga g o 4)] M := by
  intro v1 v2 v3 v4 s1 s2 M h
  unfold f_X7_goOn_50 at h
  obtain ⟨c1, h⟩ := of_gd h
  obtain ⟨M2, eM2, h⟩ := of_lt h
  refine kj_iast2 (pc := 50) C (ia_st ho ⟨by decide, by decide⟩) c1 dX7_goOn_50 ?_
  refine kj_nM eM2 ?_
  refine kj_ild3 (pc := 51) C dX7_goOn_51 ?_
  refine kj_if_ne (pc := 52) C dX7_goOn_52 (tgt := 72) (by decide) (fun c3 => ?_) (fun c3 => ?_)
  · have h := of_neg c3 h
    exact k_X7_goOn_72 C hr hR ho hk2 hk12 _ _ _ _ _ h
  · have h := of_pos c3 h
    refine kj_ald0 (pc := 55) C dX7_goOn_55 ?_
    refine gf_X7_21 (pc := 56) C ho dX7_goOn_56 ?_
    refine kj_ild4 (pc := 59) C dX7_goOn_59 ?_
    obtain ⟨c4, h⟩ := of_gd h
    refine kj_iald2 (pc := 61) C (ia_st ho ⟨by decide, by decide⟩) c4 dX7_goOn_61 ?_
    refine kj_ald0 (pc := 62) C dX7_goOn_62 ?_
    refine gf_X7_18 (pc := 63) C ho dX7_goOn_63 ?_
    refine kj_ild4 (pc := 66) C dX7_goOn_66 ?_
    obtain ⟨c5, h⟩ := of_gd h
    refine kj_iald2 (pc := 68) C (ia_st ho ⟨by decide, by decide⟩) c5 dX7_goOn_68 ?_
    refine kj_icmp_eq (pc := 69) C dX7_goOn_69 (tgt := 76) (by decide) (fun c6 => ?_) (fun c6 => ?_)
    · have h := of_pos c6 h
      refine kj_iconst (pc := 76) C (v := 0) dX7_goOn_76 ci_0 ?_
      exact k_X7_goOn_77 C hr hR ho hk2 hk12 _ _ _ _ _ _ h
    · have h := of_neg c6 h
      exact k_X7_goOn_72 C hr hR ho hk2 hk12 _ _ _ _ _ h
def f_X7_goOn_12 (o : Nat) (k2 : Int32 → Int32 → Mem → Option (Mem)) (n : Nat) (v1 : Int32) (v2 : Int32) (v3 : Int32) (v4 : Int32) (M : Mem) : Option (Mem) := match n with
  | 0 => none
  | n + 1 => if 6 ≤ v4 then if v3 = 0 then f_X7_goOn_112 o M else lt_ (sr M o 3 (va_cpy (M.1 o 4) (M.1 o 3) 0 0 6)) (fun M3 => lt_ (v2 + 1) (fun x4 => k2 v1 x4 M3)) else (f_X7_isThere o v4 M).bind (fun q5 => if q5 = 0 then if ¬ (v4 < 0 ∨ 6 ≤ v4.toNatClampNeg) then f_X7_goOn_50 o k2 (f_X7_goOn_12 o k2 n) v1 v2 v3 v4 v4 (M.1 o 3 v4.toNatClampNeg) M else none else (f_X7_nextNoteOf o v4 M).bind (fun q8 => f_X7_goOn_50 o k2 (f_X7_goOn_12 o k2 n) v1 v2 v3 v4 v4 q8 M))
set_option maxHeartbeats 4000000 in
set_option maxRecDepth 100000 in
theorem k_X7_goOn_12 {g : GT} {X : XT} {o : Nat} {k2 : Int32 → Int32 → Mem → Option (Mem)} {t : Mem} (C : Cx g X cX7_goOn RX7 5 3) (hr : (xt X).sig.returnType = none) (hR : Rt g X none t) (ho : o < 18) (hk2 : ∀ (v1 : Int32) (v2 : Int32) (M : Mem) (w3 w4 : Option Value), k2 v1 v2 M = some t → Kj g X 5 2 [some (.ref (ga g o 0)), some (.int v1), some (.int v2), w3, w4] [] M) (n : Nat) : ∀ (v1 : Int32) (v2 : Int32) (v3 : Int32) (v4 : Int32) (M : Mem), f_X7_goOn_12 o k2 n v1 v2 v3 v4 M = some t → Kj g X 5 12 [some (.ref (ga g o 0)), some (.int v1), some (.int v2), some (.int v3), some (.int v4)] [] M := by
  induction n with
  | zero => intro v1 v2 v3 v4 M h; rw [f_X7_goOn_12] at h; cases h
  | succ n ih =>
    intro v1 v2 v3 v4 M h
    rw [f_X7_goOn_12] at h
    refine kj_ild4 (pc := 12) C dX7_goOn_12 ?_
    refine kj_bipush (pc := 14) C (v := 6) dX7_goOn_14 cb_6 ?_
    refine kj_icmp_ge (pc := 16) C dX7_goOn_16 (tgt := 84) (by decide) (fun c1 => ?_) (fun c1 => ?_)
    · have h := of_pos c1 h
      refine kj_ild3 (pc := 84) C dX7_goOn_84 ?_
      refine kj_if_ne (pc := 85) C dX7_goOn_85 (tgt := 91) (by decide) (fun c2 => ?_) (fun c2 => ?_)
      · have h := of_neg c2 h
        refine kj_ald0 (pc := 91) C dX7_goOn_91 ?_
        refine gf_X7_21 (pc := 92) C ho dX7_goOn_92 ?_
        refine kj_iconst (pc := 95) C (v := 0) dX7_goOn_95 ci_0 ?_
        refine kj_ald0 (pc := 96) C dX7_goOn_96 ?_
        refine gf_X7_18 (pc := 97) C ho dX7_goOn_97 ?_
        refine kj_iconst (pc := 100) C (v := 0) dX7_goOn_100 ci_0 ?_
        refine kj_bipush (pc := 101) C (v := 6) dX7_goOn_101 cb_6 ?_
        obtain ⟨M3, eM3, h⟩ := of_lt h
        refine kj_copy2 (pc := 103) C ml_X7_38 (ia_st ho ⟨by decide, by decide⟩) (ia_st ho ⟨by decide, by decide⟩) (Nat.le_of_ble_eq_true rfl) dX7_goOn_103 ?_
        refine kj_nM eM3 ?_
        obtain ⟨x4, ex4, h⟩ := of_lt h
        refine kj_iinc2 (pc := 106) C (v := x4) dX7_goOn_106 (Nat.le_of_ble_eq_true rfl) rfl (by rw [ex4, ci_1]) ?_
        refine kj_goto (pc := 109) C dX7_goOn_109 (tgt := 2) (by decide) ?_
        exact hk2 _ _ _ _ _ h
      · have h := of_pos c2 h
        refine kj_goto (pc := 88) C dX7_goOn_88 (tgt := 112) (by decide) ?_
        exact k_X7_goOn_112 C hr hR ho  _ _ _ _ _ _ h
    · have h := of_neg c1 h
      refine kj_ald0 (pc := 19) C dX7_goOn_19 ?_
      refine gf_X7_21 (pc := 20) C ho dX7_goOn_20 ?_
      refine kj_ild4 (pc := 23) C dX7_goOn_23 ?_
      refine kj_ald0 (pc := 25) C dX7_goOn_25 ?_
      refine kj_ild4 (pc := 26) C dX7_goOn_26 ?_
      obtain ⟨q5, eq5, h⟩ := of_bind h
      refine kj_callV1 (pc := 28) C (ct_X7_isThere ho eq5) (Nat.le_of_ble_eq_true rfl) mi_X7_isThere ml_X7_76 (rc_st ho) rfl rfl ar1 (Nat.le_of_ble_eq_true rfl) dX7_goOn_28 ?_
      refine kj_if_eq (pc := 31) C dX7_goOn_31 (tgt := 43) (by decide) (fun c6 => ?_) (fun c6 => ?_)
      · have h := of_pos c6 h
        refine kj_ald0 (pc := 43) C dX7_goOn_43 ?_
        refine gf_X7_18 (pc := 44) C ho dX7_goOn_44 ?_
        refine kj_ild4 (pc := 47) C dX7_goOn_47 ?_
        obtain ⟨c7, h⟩ := of_gd h
        refine kj_iald2 (pc := 49) C (ia_st ho ⟨by decide, by decide⟩) c7 dX7_goOn_49 ?_
        exact k_X7_goOn_50 C hr hR ho hk2 ih _ _ _ _ _ _ _ h
      · have h := of_neg c6 h
        refine kj_ald0 (pc := 34) C dX7_goOn_34 ?_
        refine kj_ild4 (pc := 35) C dX7_goOn_35 ?_
        obtain ⟨q8, eq8, h⟩ := of_bind h
        refine kj_callV1 (pc := 37) C (ct_X7_nextNoteOf ho eq8) (Nat.le_of_ble_eq_true rfl) mi_X7_nextNoteOf ml_X7_79 (rc_st ho) rfl rfl ar1 (Nat.le_of_ble_eq_true rfl) dX7_goOn_37 ?_
        refine kj_goto (pc := 40) C dX7_goOn_40 (tgt := 50) (by decide) ?_
        exact k_X7_goOn_50 C hr hR ho hk2 ih _ _ _ _ _ _ _ h
def f_X7_goOn_2 (o : Nat) (n : Nat) (v1 : Int32) (v2 : Int32) (M : Mem) : Option (Mem) := match n with
  | 0 => none
  | n + 1 => if v1 ≤ v2 then f_X7_goOn_112 o M else f_X7_goOn_12 o (f_X7_goOn_2 o n) 100 v1 v2 0 0 M
set_option maxHeartbeats 4000000 in
set_option maxRecDepth 100000 in
theorem k_X7_goOn_2 {g : GT} {X : XT} {o : Nat} {t : Mem} (C : Cx g X cX7_goOn RX7 5 3) (hr : (xt X).sig.returnType = none) (hR : Rt g X none t) (ho : o < 18) (n : Nat) : ∀ (v1 : Int32) (v2 : Int32) (M : Mem) (w3 w4 : Option Value), f_X7_goOn_2 o n v1 v2 M = some t → Kj g X 5 2 [some (.ref (ga g o 0)), some (.int v1), some (.int v2), w3, w4] [] M := by
  induction n with
  | zero => intro v1 v2 M w3 w4 h; rw [f_X7_goOn_2] at h; cases h
  | succ n ih =>
    intro v1 v2 M w3 w4 h
    rw [f_X7_goOn_2] at h
    refine kj_ild2 (pc := 2) C dX7_goOn_2 ?_
    refine kj_ild1 (pc := 3) C dX7_goOn_3 ?_
    refine kj_icmp_ge (pc := 4) C dX7_goOn_4 (tgt := 112) (by decide) (fun c1 => ?_) (fun c1 => ?_)
    · have h := of_pos c1 h
      exact k_X7_goOn_112 C hr hR ho  _ _ _ _ _ _ h
    · have h := of_neg c1 h
      refine kj_iconst (pc := 7) C (v := 0) dX7_goOn_7 ci_0 ?_
      refine kj_ist3 (pc := 8) C dX7_goOn_8 (Nat.le_of_ble_eq_true rfl) rfl ?_
      refine kj_iconst (pc := 9) C (v := 0) dX7_goOn_9 ci_0 ?_
      refine kj_ist4 (pc := 10) C dX7_goOn_10 (Nat.le_of_ble_eq_true rfl) rfl ?_
      exact k_X7_goOn_12 C hr hR ho ih 100 _ _ _ _ _ h
def f_X7_goOn (o : Nat) (v1 : Int32) (M : Mem) : Option (Mem) := f_X7_goOn_2 o 100 v1 0 M
set_option maxHeartbeats 4000000 in
set_option maxRecDepth 100000 in
theorem ct_X7_goOn {g : GT} {l : Launch} {o : Nat} {v1 : Int32} {M : Mem} {t : Mem} (ho : o < 18) (h : f_X7_goOn o v1 M = some t) : Ct g l 3 yX7_goOn cX7_goOn 5 (none) [.ref (ga g o 0), .int v1] M (none) t := by
  refine ct_of (k := 3) (by decide) (Nat.le_of_ble_eq_true rfl) rfl (fun X C hl hr hR => ?_)
  subst hl
  have C : Cx g X cX7_goOn RX7 5 3 := C
  unfold f_X7_goOn at h
  refine kj_iconst (pc := 0) C (v := 0) dX7_goOn_0 ci_0 ?_
  refine kj_ist2 (pc := 1) C dX7_goOn_1 (Nat.le_of_ble_eq_true rfl) rfl ?_
  exact k_X7_goOn_2 C hr hR ho 100 _ _ _ _ _ h
def f_J6_bitCount_0f7a4 (v0 : Int32) (M : Mem) : Option (Int32) := lt_ (v0 - (((v0.toUInt32 >>> ((1 : Int32).toUInt32 &&& Int32.toUInt32 31)).toInt32) &&& (1431655765 : Int32))) (fun x1 => lt_ ((x1 &&& (858993459 : Int32)) + (((x1.toUInt32 >>> ((2 : Int32).toUInt32 &&& Int32.toUInt32 31)).toInt32) &&& (858993459 : Int32))) (fun x2 => lt_ ((x2 + ((x2.toUInt32 >>> ((4 : Int32).toUInt32 &&& Int32.toUInt32 31)).toInt32)) &&& (252645135 : Int32)) (fun x3 => lt_ (x3 + ((x3.toUInt32 >>> ((8 : Int32).toUInt32 &&& Int32.toUInt32 31)).toInt32)) (fun x4 => lt_ (x4 + ((x4.toUInt32 >>> ((16 : Int32).toUInt32 &&& Int32.toUInt32 31)).toInt32)) (fun x5 => some (x5 &&& (63 : Int32)))))))
set_option maxHeartbeats 4000000 in
set_option maxRecDepth 100000 in
theorem ct_J6_bitCount_0f7a4 {g : GT} {l : Launch} {v0 : Int32} {M : Mem} {t : Int32} (h : f_J6_bitCount_0f7a4 v0 M = some t) : Ct g l 0 yJ6_bitCount_0f7a4 cJ6_bitCount_0f7a4 1 (some .int) [.int v0] M (some (.int t)) M := by
  refine ct_of (k := 0) (by decide) (Nat.le_of_ble_eq_true rfl) rfl (fun X C hl hr hR => ?_)
  subst hl
  have C : Cx g X cJ6_bitCount_0f7a4 RJ6 1 0 := C
  unfold f_J6_bitCount_0f7a4 at h
  refine kj_ild0 (pc := 0) C dJ6_bitCount_0f7a4_0 ?_
  refine kj_ild0 (pc := 1) C dJ6_bitCount_0f7a4_1 ?_
  refine kj_iconst (pc := 2) C (v := 1) dJ6_bitCount_0f7a4_2 ci_1 ?_
  refine kj_iushr (pc := 3) C dJ6_bitCount_0f7a4_3 ?_
  refine kj_ldcw (pc := 4) C cn_J6_265 dJ6_bitCount_0f7a4_4 ?_
  refine kj_iand (pc := 7) C dJ6_bitCount_0f7a4_7 ?_
  refine kj_isub (pc := 8) C dJ6_bitCount_0f7a4_8 ?_
  obtain ⟨x1, ex1, h⟩ := of_lt h
  refine kj_ni ex1 ?_
  refine kj_ist0 (pc := 9) C dJ6_bitCount_0f7a4_9 (Nat.le_of_ble_eq_true rfl) ?_
  refine kj_ild0 (pc := 10) C dJ6_bitCount_0f7a4_10 ?_
  refine kj_ldcw (pc := 11) C cn_J6_266 dJ6_bitCount_0f7a4_11 ?_
  refine kj_iand (pc := 14) C dJ6_bitCount_0f7a4_14 ?_
  refine kj_ild0 (pc := 15) C dJ6_bitCount_0f7a4_15 ?_
  refine kj_iconst (pc := 16) C (v := 2) dJ6_bitCount_0f7a4_16 ci_2 ?_
  refine kj_iushr (pc := 17) C dJ6_bitCount_0f7a4_17 ?_
  refine kj_ldcw (pc := 18) C cn_J6_266 dJ6_bitCount_0f7a4_18 ?_
  refine kj_iand (pc := 21) C dJ6_bitCount_0f7a4_21 ?_
  refine kj_iadd (pc := 22) C dJ6_bitCount_0f7a4_22 ?_
  obtain ⟨x2, ex2, h⟩ := of_lt h
  refine kj_ni ex2 ?_
  refine kj_ist0 (pc := 23) C dJ6_bitCount_0f7a4_23 (Nat.le_of_ble_eq_true rfl) ?_
  refine kj_ild0 (pc := 24) C dJ6_bitCount_0f7a4_24 ?_
  refine kj_ild0 (pc := 25) C dJ6_bitCount_0f7a4_25 ?_
  refine kj_iconst (pc := 26) C (v := 4) dJ6_bitCount_0f7a4_26 ci_4 ?_
  refine kj_iushr (pc := 27) C dJ6_bitCount_0f7a4_27 ?_
  refine kj_iadd (pc := 28) C dJ6_bitCount_0f7a4_28 ?_
  refine kj_ldcw (pc := 29) C cn_J6_267 dJ6_bitCount_0f7a4_29 ?_
  refine kj_iand (pc := 32) C dJ6_bitCount_0f7a4_32 ?_
  obtain ⟨x3, ex3, h⟩ := of_lt h
  refine kj_ni ex3 ?_
  refine kj_ist0 (pc := 33) C dJ6_bitCount_0f7a4_33 (Nat.le_of_ble_eq_true rfl) ?_
  refine kj_ild0 (pc := 34) C dJ6_bitCount_0f7a4_34 ?_
  refine kj_ild0 (pc := 35) C dJ6_bitCount_0f7a4_35 ?_
  refine kj_bipush (pc := 36) C (v := 8) dJ6_bitCount_0f7a4_36 cb_8 ?_
  refine kj_iushr (pc := 38) C dJ6_bitCount_0f7a4_38 ?_
  refine kj_iadd (pc := 39) C dJ6_bitCount_0f7a4_39 ?_
  obtain ⟨x4, ex4, h⟩ := of_lt h
  refine kj_ni ex4 ?_
  refine kj_ist0 (pc := 40) C dJ6_bitCount_0f7a4_40 (Nat.le_of_ble_eq_true rfl) ?_
  refine kj_ild0 (pc := 41) C dJ6_bitCount_0f7a4_41 ?_
  refine kj_ild0 (pc := 42) C dJ6_bitCount_0f7a4_42 ?_
  refine kj_bipush (pc := 43) C (v := 16) dJ6_bitCount_0f7a4_43 cb_16 ?_
  refine kj_iushr (pc := 45) C dJ6_bitCount_0f7a4_45 ?_
  refine kj_iadd (pc := 46) C dJ6_bitCount_0f7a4_46 ?_
  obtain ⟨x5, ex5, h⟩ := of_lt h
  refine kj_ni ex5 ?_
  refine kj_ist0 (pc := 47) C dJ6_bitCount_0f7a4_47 (Nat.le_of_ble_eq_true rfl) ?_
  refine kj_ild0 (pc := 48) C dJ6_bitCount_0f7a4_48 ?_
  refine kj_bipush (pc := 49) C (v := 63) dJ6_bitCount_0f7a4_49 cb_63 ?_
  refine kj_iand (pc := 51) C dJ6_bitCount_0f7a4_51 ?_
  cases h
  exact kj_iret (pc := 52) C hr hR dJ6_bitCount_0f7a4_52
def f_X7_bitsOf_26 (o : Nat) (r1 : Nat) (M : Mem) (k4 : Int32 → Int32 → Option (Int32)) (v2 : Int32) (v3 : Int32) : Option (Int32) := lt_ (v3 + 1) (fun x1 => k4 v2 x1)
set_option maxHeartbeats 4000000 in
set_option maxRecDepth 100000 in
theorem k_X7_bitsOf_26 {g : GT} {X : XT} {o : Nat} {r1 : Nat} {M : Mem} {k4 : Int32 → Int32 → Option (Int32)} {t : Int32} (C : Cx g X cX7_bitsOf RX7 4 1) (hr : (xt X).sig.returnType = some .int) (hR : Rt g X (some (.int t)) M) (ho : o < 18) (hr1 : 0 < r1 ∧ r1 < 5) (hk4 : ∀ (v2 : Int32) (v3 : Int32), k4 v2 v3 = some t → Kj g X 4 4 [some (.ref (ga g o 0)), some (.ref (ga g o r1)), some (.int v2), some (.int v3)] [] M) : ∀ (v2 : Int32) (v3 : Int32), f_X7_bitsOf_26 o r1 M k4 v2 v3 = some t → Kj g X 4 26 [some (.ref (ga g o 0)), some (.ref (ga g o r1)), some (.int v2), some (.int v3)] [] M := by
  intro v2 v3 h
  unfold f_X7_bitsOf_26 at h
  obtain ⟨x1, ex1, h⟩ := of_lt h
  refine kj_iinc3 (pc := 26) C (v := x1) dX7_bitsOf_26 (Nat.le_of_ble_eq_true rfl) rfl (by rw [ex1, ci_1]) ?_
  refine kj_goto (pc := 29) C dX7_bitsOf_29 (tgt := 4) (by decide) ?_
  exact hk4 _ _ h
def f_X7_bitsOf_4 (o : Nat) (r1 : Nat) (M : Mem) (n : Nat) (v2 : Int32) (v3 : Int32) : Option (Int32) := match n with
  | 0 => none
  | n + 1 => if 6 ≤ v3 then some v2 else (f_X7_isThere o v3 M).bind (fun q2 => if q2 = 0 then f_X7_bitsOf_26 o r1 M (f_X7_bitsOf_4 o r1 M n) v2 v3 else if ¬ (v3 < 0 ∨ 6 ≤ v3.toNatClampNeg) then lt_ (v2 ||| ((1 : Int32) <<< ((M.1 o r1 v3.toNatClampNeg) &&& 31))) (fun x5 => f_X7_bitsOf_26 o r1 M (f_X7_bitsOf_4 o r1 M n) x5 v3) else none)
set_option maxHeartbeats 4000000 in
set_option maxRecDepth 100000 in
theorem k_X7_bitsOf_4 {g : GT} {X : XT} {o : Nat} {r1 : Nat} {M : Mem} {t : Int32} (C : Cx g X cX7_bitsOf RX7 4 1) (hr : (xt X).sig.returnType = some .int) (hR : Rt g X (some (.int t)) M) (ho : o < 18) (hr1 : 0 < r1 ∧ r1 < 5) (n : Nat) : ∀ (v2 : Int32) (v3 : Int32), f_X7_bitsOf_4 o r1 M n v2 v3 = some t → Kj g X 4 4 [some (.ref (ga g o 0)), some (.ref (ga g o r1)), some (.int v2), some (.int v3)] [] M := by
  induction n with
  | zero => intro v2 v3 h; rw [f_X7_bitsOf_4] at h; cases h
  | succ n ih =>
    intro v2 v3 h
    rw [f_X7_bitsOf_4] at h
    refine kj_ild3 (pc := 4) C dX7_bitsOf_4 ?_
    refine kj_bipush (pc := 5) C (v := 6) dX7_bitsOf_5 cb_6 ?_
    refine kj_icmp_ge (pc := 7) C dX7_bitsOf_7 (tgt := 32) (by decide) (fun c1 => ?_) (fun c1 => ?_)
    · have h := of_pos c1 h
      refine kj_ild2 (pc := 32) C dX7_bitsOf_32 ?_
      cases h
      exact kj_iret (pc := 33) C hr hR dX7_bitsOf_33
    · have h := of_neg c1 h
      refine kj_ald0 (pc := 10) C dX7_bitsOf_10 ?_
      refine kj_ild3 (pc := 11) C dX7_bitsOf_11 ?_
      obtain ⟨q2, eq2, h⟩ := of_bind h
      refine kj_callV1 (pc := 12) C (ct_X7_isThere ho eq2) (Nat.le_of_ble_eq_true rfl) mi_X7_isThere ml_X7_76 (rc_st ho) rfl rfl ar1 (Nat.le_of_ble_eq_true rfl) dX7_bitsOf_12 ?_
      refine kj_if_eq (pc := 15) C dX7_bitsOf_15 (tgt := 26) (by decide) (fun c3 => ?_) (fun c3 => ?_)
      · have h := of_pos c3 h
        exact k_X7_bitsOf_26 C hr hR ho hr1 ih _ _ h
      · have h := of_neg c3 h
        refine kj_ild2 (pc := 18) C dX7_bitsOf_18 ?_
        refine kj_iconst (pc := 19) C (v := 1) dX7_bitsOf_19 ci_1 ?_
        refine kj_ald1 (pc := 20) C dX7_bitsOf_20 ?_
        refine kj_ild3 (pc := 21) C dX7_bitsOf_21 ?_
        obtain ⟨c4, h⟩ := of_gd h
        refine kj_iald2 (pc := 22) C (ia_st ho hr1) c4 dX7_bitsOf_22 ?_
        refine kj_ishl (pc := 23) C dX7_bitsOf_23 ?_
        refine kj_ior (pc := 24) C dX7_bitsOf_24 ?_
        obtain ⟨x5, ex5, h⟩ := of_lt h
        refine kj_ni ex5 ?_
        refine kj_ist2 (pc := 25) C dX7_bitsOf_25 (Nat.le_of_ble_eq_true rfl) rfl ?_
        exact k_X7_bitsOf_26 C hr hR ho hr1 ih _ _ h
def f_X7_bitsOf (o : Nat) (r1 : Nat) (M : Mem) : Option (Int32) := f_X7_bitsOf_4 o r1 M 100 0 0
set_option maxHeartbeats 4000000 in
set_option maxRecDepth 100000 in
theorem ct_X7_bitsOf {g : GT} {l : Launch} {o : Nat} {r1 : Nat} {M : Mem} {t : Int32} (ho : o < 18) (hr1 : 0 < r1 ∧ r1 < 5) (h : f_X7_bitsOf o r1 M = some t) : Ct g l 1 yX7_bitsOf cX7_bitsOf 4 (some .int) [.ref (ga g o 0), .ref (ga g o r1)] M (some (.int t)) M := by
  refine ct_of (k := 2) (by decide) (Nat.le_of_ble_eq_true rfl) rfl (fun X C hl hr hR => ?_)
  subst hl
  have C : Cx g X cX7_bitsOf RX7 4 1 := C
  unfold f_X7_bitsOf at h
  refine kj_iconst (pc := 0) C (v := 0) dX7_bitsOf_0 ci_0 ?_
  refine kj_ist2 (pc := 1) C dX7_bitsOf_1 (Nat.le_of_ble_eq_true rfl) rfl ?_
  refine kj_iconst (pc := 2) C (v := 0) dX7_bitsOf_2 ci_0 ?_
  refine kj_ist3 (pc := 3) C dX7_bitsOf_3 (Nat.le_of_ble_eq_true rfl) rfl ?_
  exact k_X7_bitsOf_4 C hr hR ho hr1 100 _ _ h
def f_X7_notesSung (o : Nat) (M : Mem) : Option (Int32) := (f_X7_bitsOf o 3 M).bind (fun q1 => some q1)
set_option maxHeartbeats 4000000 in
set_option maxRecDepth 100000 in
theorem ct_X7_notesSung {g : GT} {l : Launch} {o : Nat} {M : Mem} {t : Int32} (ho : o < 18) (h : f_X7_notesSung o M = some t) : Ct g l 2 yX7_notesSung cX7_notesSung 1 (some .int) [.ref (ga g o 0)] M (some (.int t)) M := by
  refine ct_of (k := 0) (by decide) (Nat.le_of_ble_eq_true rfl) rfl (fun X C hl hr hR => ?_)
  subst hl
  have C : Cx g X cX7_notesSung RX7 1 2 := C
  unfold f_X7_notesSung at h
  refine kj_ald0 (pc := 0) C dX7_notesSung_0 ?_
  refine kj_ald0 (pc := 1) C dX7_notesSung_1 ?_
  refine gf_X7_18 (pc := 2) C ho dX7_notesSung_2 ?_
  obtain ⟨q1, eq1, h⟩ := of_bind h
  refine kj_callV1 (pc := 5) C (ct_X7_bitsOf ho ⟨by decide, by decide⟩ eq1) (Nat.le_of_ble_eq_true rfl) mi_X7_bitsOf ml_X7_82 (rc_st ho) rfl rfl ar1 (Nat.le_of_ble_eq_true rfl) dX7_notesSung_5 ?_
  cases h
  exact kj_iret (pc := 8) C hr hR dX7_notesSung_8
def f_X7_richness (o : Nat) (M : Mem) : Option (Int32) := (f_X7_notesSung o M).bind (fun q1 => (f_J6_bitCount_0f7a4 q1 M).bind (fun q2 => some q2))
set_option maxHeartbeats 4000000 in
set_option maxRecDepth 100000 in
theorem ct_X7_richness {g : GT} {l : Launch} {o : Nat} {M : Mem} {t : Int32} (ho : o < 18) (h : f_X7_richness o M = some t) : Ct g l 3 yX7_richness cX7_richness 1 (some .int) [.ref (ga g o 0)] M (some (.int t)) M := by
  refine ct_of (k := 0) (by decide) (Nat.le_of_ble_eq_true rfl) rfl (fun X C hl hr hR => ?_)
  subst hl
  have C : Cx g X cX7_richness RX7 1 3 := C
  unfold f_X7_richness at h
  refine kj_ald0 (pc := 0) C dX7_richness_0 ?_
  obtain ⟨q1, eq1, h⟩ := of_bind h
  refine kj_callV1 (pc := 1) C (ct_X7_notesSung ho eq1) (Nat.le_of_ble_eq_true rfl) mi_X7_notesSung ml_X7_86 (rc_st ho) rfl rfl ar0 (Nat.le_of_ble_eq_true rfl) dX7_richness_1 ?_
  obtain ⟨q2, eq2, h⟩ := of_bind h
  refine kj_callS1 (pc := 4) C (ct_J6_bitCount_0f7a4 eq2) (Nat.le_of_ble_eq_true rfl) mi_J6_bitCount_0f7a4 ml_X7_90 rfl as1 (Nat.le_of_ble_eq_true rfl) dX7_richness_4 ?_
  cases h
  exact kj_iret (pc := 7) C hr hR dX7_richness_7
def f_X1_richnessOfSome (v1 : Int32) (v2 : Int32) (M : Mem) : Option (Int32 × Mem) := (f_X7_copyFrom 1 0 M).bind (fun q1 => lt_ (sw q1 1 0 5 v1) (fun M2 => (f_X7_goOn 1 v2 M2).bind (fun q3 => (f_X7_richness 1 q3).bind (fun q4 => some (q4, q3)))))
set_option maxHeartbeats 4000000 in
set_option maxRecDepth 100000 in
theorem ct_X1_richnessOfSome {g : GT} {l : Launch} {v1 : Int32} {v2 : Int32} {M : Mem} {t : Int32 × Mem} (h : f_X1_richnessOfSome v1 v2 M = some t) : Ct g l 4 yX1_richnessOfSome cX1_richnessOfSome 3 (some .int) [.ref (ga g 25 0), .int v1, .int v2] M (some (.int t.1)) t.2 := by
  refine ct_of (k := 0) (by decide) (Nat.le_of_ble_eq_true rfl) rfl (fun X C hl hr hR => ?_)
  subst hl
  have C : Cx g X cX1_richnessOfSome RX1 3 4 := C
  unfold f_X1_richnessOfSome at h
  refine kj_ald0 (pc := 0) C dX1_richnessOfSome_0 ?_
  refine gf_X1_29 (pc := 1) C dX1_richnessOfSome_1 ?_
  refine kj_ald0 (pc := 4) C dX1_richnessOfSome_4 ?_
  refine gf_X1_25 (pc := 5) C dX1_richnessOfSome_5 ?_
  obtain ⟨q1, eq1, h⟩ := of_bind h
  refine kj_callVN0 (pc := 8) C (ct_X7_copyFrom h18_1 h18_0 eq1) (Nat.le_of_ble_eq_true rfl) mi_X7_copyFrom ml_X1_32 (rc_st h18_1) rfl rfl ar1 (Nat.le_of_ble_eq_true rfl) dX1_richnessOfSome_8 ?_
  refine kj_ald0 (pc := 11) C dX1_richnessOfSome_11 ?_
  refine gf_X1_29 (pc := 12) C dX1_richnessOfSome_12 ?_
  refine kj_ild1 (pc := 15) C dX1_richnessOfSome_15 ?_
  obtain ⟨M2, eM2, h⟩ := of_lt h
  refine pf_X1_38 (pc := 16) C h18_1 dX1_richnessOfSome_16 ?_
  refine kj_nM eM2 ?_
  refine kj_ald0 (pc := 19) C dX1_richnessOfSome_19 ?_
  refine gf_X1_29 (pc := 20) C dX1_richnessOfSome_20 ?_
  refine kj_ild2 (pc := 23) C dX1_richnessOfSome_23 ?_
  obtain ⟨q3, eq3, h⟩ := of_bind h
  refine kj_callVN0 (pc := 24) C (ct_X7_goOn h18_1 eq3) (Nat.le_of_ble_eq_true rfl) mi_X7_goOn ml_X1_42 (rc_st h18_1) rfl rfl ar1 (Nat.le_of_ble_eq_true rfl) dX1_richnessOfSome_24 ?_
  refine kj_ald0 (pc := 27) C dX1_richnessOfSome_27 ?_
  refine gf_X1_29 (pc := 28) C dX1_richnessOfSome_28 ?_
  obtain ⟨q4, eq4, h⟩ := of_bind h
  refine kj_callVN1 (pc := 31) C (ct_X7_richness h18_1 eq4) (Nat.le_of_ble_eq_true rfl) mi_X7_richness ml_X1_46 (rc_st h18_1) rfl rfl ar0 (Nat.le_of_ble_eq_true rfl) dX1_richnessOfSome_31 ?_
  cases h
  exact kj_iret (pc := 34) C hr hR dX1_richnessOfSome_34
def f_X1_factorial_21 (M : Mem) (s0 : Int32) : Option (Int32) := some s0
set_option maxHeartbeats 4000000 in
set_option maxRecDepth 100000 in
theorem k_X1_factorial_21 {g : GT} {X : XT} {M : Mem} {t : Int32} (C : Cx g X cX1_factorial RX1 1 0) (hr : (xt X).sig.returnType = some .int) (hR : Rt g X (some (.int t)) M) : ∀ (s0 : Int32) (w0 : Option Value), f_X1_factorial_21 M s0 = some t → Kj g X 1 21 [w0] [.int s0] M := by
  intro s0 w0 h
  unfold f_X1_factorial_21 at h
  cases h
  exact kj_iret (pc := 21) C hr hR dX1_factorial_21
def f_X1_factorial_20 (M : Mem) : Option (Int32) := f_X1_factorial_21 M 1
set_option maxHeartbeats 4000000 in
set_option maxRecDepth 100000 in
theorem k_X1_factorial_20 {g : GT} {X : XT} {M : Mem} {t : Int32} (C : Cx g X cX1_factorial RX1 1 0) (hr : (xt X).sig.returnType = some .int) (hR : Rt g X (some (.int t)) M) : ∀ (w0 : Option Value), f_X1_factorial_20 M = some t → Kj g X 1 20 [w0] [] M := by
  intro w0 h
  unfold f_X1_factorial_20 at h
  refine kj_iconst (pc := 20) C (v := 1) dX1_factorial_20 ci_1 ?_
  exact k_X1_factorial_21 C hr hR _ _ h
def f_X1_factorial (v0 : Int32) (M : Mem) : Option (Int32) := if v0 < 0 then f_X1_factorial_20 M else if 7 ≤ v0 then f_X1_factorial_20 M else if ¬ (v0 < 0 ∨ 7 ≤ v0.toNatClampNeg) then f_X1_factorial_21 M (facs v0.toNatClampNeg) else none
set_option maxHeartbeats 4000000 in
set_option maxRecDepth 100000 in
theorem ct_X1_factorial {g : GT} {l : Launch} {v0 : Int32} {M : Mem} {t : Int32} (h : f_X1_factorial v0 M = some t) : Ct g l 0 yX1_factorial cX1_factorial 1 (some .int) [.int v0] M (some (.int t)) M := by
  refine ct_of (k := 0) (by decide) (Nat.le_of_ble_eq_true rfl) rfl (fun X C hl hr hR => ?_)
  subst hl
  have C : Cx g X cX1_factorial RX1 1 0 := C
  unfold f_X1_factorial at h
  refine kj_ild0 (pc := 0) C dX1_factorial_0 ?_
  refine kj_if_lt (pc := 1) C dX1_factorial_1 (tgt := 20) (by decide) (fun c1 => ?_) (fun c1 => ?_)
  · have h := of_pos c1 h
    exact k_X1_factorial_20 C hr hR  _ h
  · have h := of_neg c1 h
    refine kj_ild0 (pc := 4) C dX1_factorial_4 ?_
    refine kj_facs (pc := 5) C fl_X1_78 dX1_factorial_5 ?_
    refine kj_faclen (pc := 8) C dX1_factorial_8 ?_
    refine kj_icmp_ge (pc := 9) C dX1_factorial_9 (tgt := 20) (by decide) (fun c2 => ?_) (fun c2 => ?_)
    · have h := of_pos c2 h
      exact k_X1_factorial_20 C hr hR  _ h
    · have h := of_neg c2 h
      refine kj_facs (pc := 12) C fl_X1_78 dX1_factorial_12 ?_
      refine kj_ild0 (pc := 15) C dX1_factorial_15 ?_
      obtain ⟨c3, h⟩ := of_gd h
      refine kj_facld (pc := 16) C c3 dX1_factorial_16 ?_
      refine kj_goto (pc := 17) C dX1_factorial_17 (tgt := 21) (by decide) ?_
      exact k_X1_factorial_21 C hr hR _ _ h
def f_X1_ordersOf (v1 : Int32) (M : Mem) : Option (Int32) := (f_X1_factorial (v1 - (1 : Int32)) M).bind (fun q1 => (f_X1_factorial ((M.1 19 0 3) - v1) M).bind (fun q2 => some (q1 * q2)))
set_option maxHeartbeats 4000000 in
set_option maxRecDepth 100000 in
theorem ct_X1_ordersOf {g : GT} {l : Launch} {v1 : Int32} {M : Mem} {t : Int32} (h : f_X1_ordersOf v1 M = some t) : Ct g l 1 yX1_ordersOf cX1_ordersOf 2 (some .int) [.ref (ga g 25 0), .int v1] M (some (.int t)) M := by
  refine ct_of (k := 0) (by decide) (Nat.le_of_ble_eq_true rfl) rfl (fun X C hl hr hR => ?_)
  subst hl
  have C : Cx g X cX1_ordersOf RX1 2 1 := C
  unfold f_X1_ordersOf at h
  refine kj_ild1 (pc := 0) C dX1_ordersOf_0 ?_
  refine kj_iconst (pc := 1) C (v := 1) dX1_ordersOf_1 ci_1 ?_
  refine kj_isub (pc := 2) C dX1_ordersOf_2 ?_
  obtain ⟨q1, eq1, h⟩ := of_bind h
  refine kj_callS1 (pc := 3) C (ct_X1_factorial eq1) (Nat.le_of_ble_eq_true rfl) mi_X1_factorial ml_X1_71 rfl as1 (Nat.le_of_ble_eq_true rfl) dX1_ordersOf_3 ?_
  refine kj_ald0 (pc := 6) C dX1_ordersOf_6 ?_
  refine gf_X1_21 (pc := 7) C dX1_ordersOf_7 ?_
  refine gf_X1_68 (pc := 10) C dX1_ordersOf_10 ?_
  refine kj_ild1 (pc := 13) C dX1_ordersOf_13 ?_
  refine kj_isub (pc := 14) C dX1_ordersOf_14 ?_
  obtain ⟨q2, eq2, h⟩ := of_bind h
  refine kj_callS1 (pc := 15) C (ct_X1_factorial eq2) (Nat.le_of_ble_eq_true rfl) mi_X1_factorial ml_X1_71 rfl as1 (Nat.le_of_ble_eq_true rfl) dX1_ordersOf_15 ?_
  refine kj_imul (pc := 18) C dX1_ordersOf_18 ?_
  cases h
  exact kj_iret (pc := 19) C hr hR dX1_ordersOf_19
def f_X4_everybody (M : Mem) : Option (Int32) := some (((1 : Int32) <<< ((M.1 19 0 3) &&& 31)) - (1 : Int32))
set_option maxHeartbeats 4000000 in
set_option maxRecDepth 100000 in
theorem ct_X4_everybody {g : GT} {l : Launch} {M : Mem} {t : Int32} (h : f_X4_everybody M = some t) : Ct g l 0 yX4_everybody cX4_everybody 1 (some .int) [.ref (ga g 19 0)] M (some (.int t)) M := by
  refine ct_of (k := 0) (by decide) (Nat.le_of_ble_eq_true rfl) rfl (fun X C hl hr hR => ?_)
  subst hl
  have C : Cx g X cX4_everybody RX4 1 0 := C
  unfold f_X4_everybody at h
  refine kj_iconst (pc := 0) C (v := 1) dX4_everybody_0 ci_1 ?_
  refine kj_ald0 (pc := 1) C dX4_everybody_1 ?_
  refine gf_X4_21 (pc := 2) C dX4_everybody_2 ?_
  refine kj_ishl (pc := 5) C dX4_everybody_5 ?_
  refine kj_iconst (pc := 6) C (v := 1) dX4_everybody_6 ci_1 ?_
  refine kj_isub (pc := 7) C dX4_everybody_7 ?_
  cases h
  exact kj_iret (pc := 8) C hr hR dX4_everybody_8
def f_X9_greatestDivisor_34 (M : Mem) (v2 : Int32) : Option (Int32) := some v2
set_option maxHeartbeats 4000000 in
set_option maxRecDepth 100000 in
theorem k_X9_greatestDivisor_34 {g : GT} {X : XT} {M : Mem} {t : Int32} (C : Cx g X cX9_greatestDivisor RX9 6 0) (hr : (xt X).sig.returnType = some .int) (hR : Rt g X (some (.int t)) M) : ∀ (v2 : Int32) (w0 w1 w3 w4 w5 : Option Value), f_X9_greatestDivisor_34 M v2 = some t → Kj g X 6 34 [w0, w1, some (.int v2), w3, w4, w5] [] M := by
  intro v2 w0 w1 w3 w4 w5 h
  unfold f_X9_greatestDivisor_34 at h
  refine kj_ild2 (pc := 34) C dX9_greatestDivisor_34 ?_
  cases h
  exact kj_iret (pc := 35) C hr hR dX9_greatestDivisor_35
def f_X9_greatestDivisor_7 (M : Mem) (n : Nat) (v2 : Int32) (v3 : Int32) (v4 : Int32) : Option (Int32) := match n with
  | 0 => none
  | n + 1 => if 64 ≤ v4 then f_X9_greatestDivisor_34 M v2 else if v3 = 0 then f_X9_greatestDivisor_34 M v2 else if ¬ v3 = 0 then lt_ (v2 - v2 / v3 * v3) (fun x4 => lt_ (v4 + 1) (fun x5 => f_X9_greatestDivisor_7 M n v3 x4 x5)) else none
set_option maxHeartbeats 4000000 in
set_option maxRecDepth 100000 in
theorem k_X9_greatestDivisor_7 {g : GT} {X : XT} {M : Mem} {t : Int32} (C : Cx g X cX9_greatestDivisor RX9 6 0) (hr : (xt X).sig.returnType = some .int) (hR : Rt g X (some (.int t)) M) (n : Nat) : ∀ (v2 : Int32) (v3 : Int32) (v4 : Int32) (w0 w1 w5 : Option Value), f_X9_greatestDivisor_7 M n v2 v3 v4 = some t → Kj g X 6 7 [w0, w1, some (.int v2), some (.int v3), some (.int v4), w5] [] M := by
  induction n with
  | zero => intro v2 v3 v4 w0 w1 w5 h; rw [f_X9_greatestDivisor_7] at h; cases h
  | succ n ih =>
    intro v2 v3 v4 w0 w1 w5 h
    rw [f_X9_greatestDivisor_7] at h
    refine kj_ild4 (pc := 7) C dX9_greatestDivisor_7 ?_
    refine kj_bipush (pc := 9) C (v := 64) dX9_greatestDivisor_9 cb_64 ?_
    refine kj_icmp_ge (pc := 11) C dX9_greatestDivisor_11 (tgt := 34) (by decide) (fun c1 => ?_) (fun c1 => ?_)
    · have h := of_pos c1 h
      exact k_X9_greatestDivisor_34 C hr hR _ _ _ _ _ _ h
    · have h := of_neg c1 h
      refine kj_ild3 (pc := 14) C dX9_greatestDivisor_14 ?_
      refine kj_if_eq (pc := 15) C dX9_greatestDivisor_15 (tgt := 34) (by decide) (fun c2 => ?_) (fun c2 => ?_)
      · have h := of_pos c2 h
        exact k_X9_greatestDivisor_34 C hr hR _ _ _ _ _ _ h
      · have h := of_neg c2 h
        refine kj_ild2 (pc := 18) C dX9_greatestDivisor_18 ?_
        refine kj_ild3 (pc := 19) C dX9_greatestDivisor_19 ?_
        obtain ⟨c3, h⟩ := of_gd h
        refine kj_irem (pc := 20) C dX9_greatestDivisor_20 c3 ?_
        obtain ⟨x4, ex4, h⟩ := of_lt h
        refine kj_ni ex4 ?_
        refine kj_ist5 (pc := 21) C dX9_greatestDivisor_21 (Nat.le_of_ble_eq_true rfl) rfl ?_
        refine kj_ild3 (pc := 23) C dX9_greatestDivisor_23 ?_
        refine kj_ist2w (pc := 24) C dX9_greatestDivisor_24 (Nat.le_of_ble_eq_true rfl) ?_
        refine kj_ild5 (pc := 25) C dX9_greatestDivisor_25 ?_
        refine kj_ist3 (pc := 27) C dX9_greatestDivisor_27 (Nat.le_of_ble_eq_true rfl) rfl ?_
        obtain ⟨x5, ex5, h⟩ := of_lt h
        refine kj_iinc4 (pc := 28) C (v := x5) dX9_greatestDivisor_28 (Nat.le_of_ble_eq_true rfl) rfl (by rw [ex5, ci_1]) ?_
        refine kj_goto (pc := 31) C dX9_greatestDivisor_31 (tgt := 7) (by decide) ?_
        exact ih _ _ _ _ _ _ h
def f_X9_greatestDivisor (v0 : Int32) (v1 : Int32) (M : Mem) : Option (Int32) := f_X9_greatestDivisor_7 M 100 v0 v1 0
set_option maxHeartbeats 4000000 in
set_option maxRecDepth 100000 in
theorem ct_X9_greatestDivisor {g : GT} {l : Launch} {v0 : Int32} {v1 : Int32} {M : Mem} {t : Int32} (h : f_X9_greatestDivisor v0 v1 M = some t) : Ct g l 0 yX9_greatestDivisor cX9_greatestDivisor 6 (some .int) [.int v0, .int v1] M (some (.int t)) M := by
  refine ct_of (k := 4) (by decide) (Nat.le_of_ble_eq_true rfl) rfl (fun X C hl hr hR => ?_)
  subst hl
  have C : Cx g X cX9_greatestDivisor RX9 6 0 := C
  unfold f_X9_greatestDivisor at h
  refine kj_ild0 (pc := 0) C dX9_greatestDivisor_0 ?_
  refine kj_ist2 (pc := 1) C dX9_greatestDivisor_1 (Nat.le_of_ble_eq_true rfl) rfl ?_
  refine kj_ild1 (pc := 2) C dX9_greatestDivisor_2 ?_
  refine kj_ist3 (pc := 3) C dX9_greatestDivisor_3 (Nat.le_of_ble_eq_true rfl) rfl ?_
  refine kj_iconst (pc := 4) C (v := 0) dX9_greatestDivisor_4 ci_0 ?_
  refine kj_ist4 (pc := 5) C dX9_greatestDivisor_5 (Nat.le_of_ble_eq_true rfl) rfl ?_
  exact k_X9_greatestDivisor_7 C hr hR 100 _ _ _ _ _ _ h
def f_X9_sideOfFraction_28 (M : Mem) (s0 : Int32) : Option (Int32) := some s0
set_option maxHeartbeats 4000000 in
set_option maxRecDepth 100000 in
theorem k_X9_sideOfFraction_28 {g : GT} {X : XT} {M : Mem} {t : Int32} (C : Cx g X cX9_sideOfFraction RX9 4 1) (hr : (xt X).sig.returnType = some .int) (hR : Rt g X (some (.int t)) M) : ∀ (s0 : Int32) (w0 w1 w2 w3 : Option Value), f_X9_sideOfFraction_28 M s0 = some t → Kj g X 4 28 [w0, w1, w2, w3] [.int s0] M := by
  intro s0 w0 w1 w2 w3 h
  unfold f_X9_sideOfFraction_28 at h
  cases h
  exact kj_iret (pc := 28) C hr hR dX9_sideOfFraction_28
def f_X9_sideOfFraction (v0 : Int32) (v1 : Int32) (v2 : Int32) (M : Mem) : Option (Int32) := lt_ (if 0 ≤ v0 then v0 else 0 - v0) (fun x1 => (f_X9_greatestDivisor x1 v1 M).bind (fun q2 => if q2 = 0 then some (0 : Int32) else if v2 = 0 then if ¬ q2 = 0 then f_X9_sideOfFraction_28 M (v1 / q2) else none else if ¬ q2 = 0 then f_X9_sideOfFraction_28 M (v0 / q2) else none))
set_option maxHeartbeats 4000000 in
set_option maxRecDepth 100000 in
theorem ct_X9_sideOfFraction {g : GT} {l : Launch} {v0 : Int32} {v1 : Int32} {v2 : Int32} {M : Mem} {t : Int32} (h : f_X9_sideOfFraction v0 v1 v2 M = some t) : Ct g l 1 yX9_sideOfFraction cX9_sideOfFraction 4 (some .int) [.int v0, .int v1, .int v2] M (some (.int t)) M := by
  refine ct_of (k := 1) (by decide) (Nat.le_of_ble_eq_true rfl) rfl (fun X C hl hr hR => ?_)
  subst hl
  have C : Cx g X cX9_sideOfFraction RX9 4 1 := C
  unfold f_X9_sideOfFraction at h
  refine kj_ild0 (pc := 0) C dX9_sideOfFraction_0 ?_
  obtain ⟨x1, ex1, h⟩ := of_lt h
  refine kj_mabs2 (pc := 1) C ml_X9_251 (Nat.le_of_ble_eq_true rfl) dX9_sideOfFraction_1 ?_
  refine kj_ni ex1 ?_
  refine kj_ild1 (pc := 4) C dX9_sideOfFraction_4 ?_
  obtain ⟨q2, eq2, h⟩ := of_bind h
  refine kj_callS1 (pc := 5) C (ct_X9_greatestDivisor eq2) (Nat.le_of_ble_eq_true rfl) mi_X9_greatestDivisor ml_X9_256 rfl as2 (Nat.le_of_ble_eq_true rfl) dX9_sideOfFraction_5 ?_
  refine kj_ist3 (pc := 8) C dX9_sideOfFraction_8 (Nat.le_of_ble_eq_true rfl) rfl ?_
  refine kj_ild3 (pc := 9) C dX9_sideOfFraction_9 ?_
  refine kj_if_ne (pc := 10) C dX9_sideOfFraction_10 (tgt := 15) (by decide) (fun c3 => ?_) (fun c3 => ?_)
  · have h := of_neg c3 h
    refine kj_ild2 (pc := 15) C dX9_sideOfFraction_15 ?_
    refine kj_if_eq (pc := 16) C dX9_sideOfFraction_16 (tgt := 25) (by decide) (fun c4 => ?_) (fun c4 => ?_)
    · have h := of_pos c4 h
      refine kj_ild1 (pc := 25) C dX9_sideOfFraction_25 ?_
      refine kj_ild3 (pc := 26) C dX9_sideOfFraction_26 ?_
      obtain ⟨c5, h⟩ := of_gd h
      refine kj_idiv (pc := 27) C dX9_sideOfFraction_27 c5 ?_
      exact k_X9_sideOfFraction_28 C hr hR _ _ _ _ _ h
    · have h := of_neg c4 h
      refine kj_ild0 (pc := 19) C dX9_sideOfFraction_19 ?_
      refine kj_ild3 (pc := 20) C dX9_sideOfFraction_20 ?_
      obtain ⟨c6, h⟩ := of_gd h
      refine kj_idiv (pc := 21) C dX9_sideOfFraction_21 c6 ?_
      refine kj_goto (pc := 22) C dX9_sideOfFraction_22 (tgt := 28) (by decide) ?_
      exact k_X9_sideOfFraction_28 C hr hR _ _ _ _ _ h
  · have h := of_pos c3 h
    refine kj_iconst (pc := 13) C (v := 0) dX9_sideOfFraction_13 ci_0 ?_
    cases h
    exact kj_iret (pc := 14) C hr hR dX9_sideOfFraction_14
end
