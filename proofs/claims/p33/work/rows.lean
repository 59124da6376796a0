section
-- ===== PART A: goes FIRST, ahead of the names: the tables' words, and 'selects' of the private methods out of them =====
/-- a private method of a class that the tables say can be made, by its rows of tables_1 -/
def lw_okq (q : MethodName × Nat) : Prop := (q.1.cls ≠ "java/lang/invoke/MethodHandle" ∧ q.1.cls ≠ "java/lang/invoke/VarHandle") ∧ Cond.instantiable q.1.cls q.2 ∈ tables_1 ∧ Cond.privateMethod q.1 ∈ tables_1 ∧ Cond.instanceMethod q.1 ∈ tables_1
theorem lw_p0 : lw_okq (⟨"java/lang/Throwable", "fillInStackTrace", "(I)Ljava/lang/Throwable;"⟩, 6) := ⟨⟨by decide +kernel, by decide +kernel⟩, List.mem_of_getElem? (i := 104) (by decide +kernel), List.mem_of_getElem? (i := 102) (by decide +kernel), List.mem_of_getElem? (i := 103) (by decide +kernel)⟩
theorem lw_p1 : lw_okq (⟨"BookplateHall", "knownNameOrNull", "(I)LBookplateHall$Name;"⟩, 9) := ⟨⟨by decide +kernel, by decide +kernel⟩, List.mem_of_getElem? (i := 18) (by decide +kernel), List.mem_of_getElem? (i := 151) (by decide +kernel), List.mem_of_getElem? (i := 152) (by decide +kernel)⟩
theorem lw_p2 : lw_okq (⟨"BookplateHall", "knownName", "(I)LBookplateHall$Name;"⟩, 9) := ⟨⟨by decide +kernel, by decide +kernel⟩, List.mem_of_getElem? (i := 18) (by decide +kernel), List.mem_of_getElem? (i := 155) (by decide +kernel), List.mem_of_getElem? (i := 156) (by decide +kernel)⟩
theorem lw_p3 : lw_okq (⟨"BookplateHall", "total", "(I)I"⟩, 9) := ⟨⟨by decide +kernel, by decide +kernel⟩, List.mem_of_getElem? (i := 18) (by decide +kernel), List.mem_of_getElem? (i := 270) (by decide +kernel), List.mem_of_getElem? (i := 271) (by decide +kernel)⟩
theorem lw_p4 : lw_okq (⟨"BookplateHall", "liveRecords", "()I"⟩, 9) := ⟨⟨by decide +kernel, by decide +kernel⟩, List.mem_of_getElem? (i := 18) (by decide +kernel), List.mem_of_getElem? (i := 274) (by decide +kernel), List.mem_of_getElem? (i := 275) (by decide +kernel)⟩
theorem lw_p5 : lw_okq (⟨"BookplateHall", "owedByAll", "()I"⟩, 9) := ⟨⟨by decide +kernel, by decide +kernel⟩, List.mem_of_getElem? (i := 18) (by decide +kernel), List.mem_of_getElem? (i := 282) (by decide +kernel), List.mem_of_getElem? (i := 283) (by decide +kernel)⟩
theorem lw_p6 : lw_okq (⟨"BookplateHall", "copiesAt", "(I)I"⟩, 9) := ⟨⟨by decide +kernel, by decide +kernel⟩, List.mem_of_getElem? (i := 18) (by decide +kernel), List.mem_of_getElem? (i := 286) (by decide +kernel), List.mem_of_getElem? (i := 287) (by decide +kernel)⟩
theorem lw_p7 : lw_okq (⟨"BookplateHall", "digestedRecord", "(JLBookplateHall$BookRecord;)J"⟩, 9) := ⟨⟨by decide +kernel, by decide +kernel⟩, List.mem_of_getElem? (i := 18) (by decide +kernel), List.mem_of_getElem? (i := 303) (by decide +kernel), List.mem_of_getElem? (i := 304) (by decide +kernel)⟩
theorem lw_p8 : lw_okq (⟨"BookplateHall", "factOfRecord", "(LBookplateHall$BookRecord;I)I"⟩, 9) := ⟨⟨by decide +kernel, by decide +kernel⟩, List.mem_of_getElem? (i := 18) (by decide +kernel), List.mem_of_getElem? (i := 307) (by decide +kernel), List.mem_of_getElem? (i := 308) (by decide +kernel)⟩
theorem lw_p9 : lw_okq (⟨"BookplateHall", "copiesNotLost", "(LBookplateHall$BookRecord;)I"⟩, 9) := ⟨⟨by decide +kernel, by decide +kernel⟩, List.mem_of_getElem? (i := 18) (by decide +kernel), List.mem_of_getElem? (i := 315) (by decide +kernel), List.mem_of_getElem? (i := 316) (by decide +kernel)⟩
theorem lw_p10 : lw_okq (⟨"BookplateHall", "digestedCopy", "(JLBookplateHall$Copy;)J"⟩, 9) := ⟨⟨by decide +kernel, by decide +kernel⟩, List.mem_of_getElem? (i := 18) (by decide +kernel), List.mem_of_getElem? (i := 319) (by decide +kernel), List.mem_of_getElem? (i := 320) (by decide +kernel)⟩
theorem lw_p11 : lw_okq (⟨"BookplateHall", "factOfCopy", "(LBookplateHall$Copy;I)I"⟩, 9) := ⟨⟨by decide +kernel, by decide +kernel⟩, List.mem_of_getElem? (i := 18) (by decide +kernel), List.mem_of_getElem? (i := 323) (by decide +kernel), List.mem_of_getElem? (i := 324) (by decide +kernel)⟩
theorem lw_p12 : lw_okq (⟨"BookplateHall", "digestedReader", "(JLBookplateHall$Reader;)J"⟩, 9) := ⟨⟨by decide +kernel, by decide +kernel⟩, List.mem_of_getElem? (i := 18) (by decide +kernel), List.mem_of_getElem? (i := 331) (by decide +kernel), List.mem_of_getElem? (i := 332) (by decide +kernel)⟩
theorem lw_p13 : lw_okq (⟨"BookplateHall", "factOfReader", "(LBookplateHall$Reader;I)I"⟩, 9) := ⟨⟨by decide +kernel, by decide +kernel⟩, List.mem_of_getElem? (i := 18) (by decide +kernel), List.mem_of_getElem? (i := 335) (by decide +kernel), List.mem_of_getElem? (i := 336) (by decide +kernel)⟩
theorem lw_p14 : lw_okq (⟨"BookplateHall", "copiesOf", "(LBookplateHall$Reader;I)I"⟩, 9) := ⟨⟨by decide +kernel, by decide +kernel⟩, List.mem_of_getElem? (i := 18) (by decide +kernel), List.mem_of_getElem? (i := 339) (by decide +kernel), List.mem_of_getElem? (i := 340) (by decide +kernel)⟩
theorem lw_p15 : lw_okq (⟨"BookplateHall", "waitsOf", "(LBookplateHall$Reader;)I"⟩, 9) := ⟨⟨by decide +kernel, by decide +kernel⟩, List.mem_of_getElem? (i := 18) (by decide +kernel), List.mem_of_getElem? (i := 343) (by decide +kernel), List.mem_of_getElem? (i := 344) (by decide +kernel)⟩
def lw_privs_1 : List (MethodName × Nat) := [(⟨"java/lang/Throwable", "fillInStackTrace", "(I)Ljava/lang/Throwable;"⟩, 6), (⟨"BookplateHall", "knownNameOrNull", "(I)LBookplateHall$Name;"⟩, 9), (⟨"BookplateHall", "knownName", "(I)LBookplateHall$Name;"⟩, 9), (⟨"BookplateHall", "total", "(I)I"⟩, 9), (⟨"BookplateHall", "liveRecords", "()I"⟩, 9), (⟨"BookplateHall", "owedByAll", "()I"⟩, 9), (⟨"BookplateHall", "copiesAt", "(I)I"⟩, 9), (⟨"BookplateHall", "digestedRecord", "(JLBookplateHall$BookRecord;)J"⟩, 9), (⟨"BookplateHall", "factOfRecord", "(LBookplateHall$BookRecord;I)I"⟩, 9), (⟨"BookplateHall", "copiesNotLost", "(LBookplateHall$BookRecord;)I"⟩, 9), (⟨"BookplateHall", "digestedCopy", "(JLBookplateHall$Copy;)J"⟩, 9), (⟨"BookplateHall", "factOfCopy", "(LBookplateHall$Copy;I)I"⟩, 9), (⟨"BookplateHall", "digestedReader", "(JLBookplateHall$Reader;)J"⟩, 9), (⟨"BookplateHall", "factOfReader", "(LBookplateHall$Reader;I)I"⟩, 9), (⟨"BookplateHall", "copiesOf", "(LBookplateHall$Reader;I)I"⟩, 9), (⟨"BookplateHall", "waitsOf", "(LBookplateHall$Reader;)I"⟩, 9)]
theorem lw_r1 : ∀ q ∈ lw_privs_1, lw_okq q := List.forall_mem_cons.mpr ⟨lw_p0, List.forall_mem_cons.mpr ⟨lw_p1, List.forall_mem_cons.mpr ⟨lw_p2, List.forall_mem_cons.mpr ⟨lw_p3, List.forall_mem_cons.mpr ⟨lw_p4, List.forall_mem_cons.mpr ⟨lw_p5, List.forall_mem_cons.mpr ⟨lw_p6, List.forall_mem_cons.mpr ⟨lw_p7, List.forall_mem_cons.mpr ⟨lw_p8, List.forall_mem_cons.mpr ⟨lw_p9, List.forall_mem_cons.mpr ⟨lw_p10, List.forall_mem_cons.mpr ⟨lw_p11, List.forall_mem_cons.mpr ⟨lw_p12, List.forall_mem_cons.mpr ⟨lw_p13, List.forall_mem_cons.mpr ⟨lw_p14, List.forall_mem_cons.mpr ⟨lw_p15, fun _ h => absurd h List.not_mem_nil⟩⟩⟩⟩⟩⟩⟩⟩⟩⟩⟩⟩⟩⟩⟩⟩
theorem lw_p16 : lw_okq (⟨"BookplateHall", "lateCopiesOf", "(LBookplateHall$Reader;)I"⟩, 9) := ⟨⟨by decide +kernel, by decide +kernel⟩, List.mem_of_getElem? (i := 18) (by decide +kernel), List.mem_of_getElem? (i := 351) (by decide +kernel), List.mem_of_getElem? (i := 352) (by decide +kernel)⟩
theorem lw_p17 : lw_okq (⟨"BookplateHall", "finesOf", "(LBookplateHall$Reader;)I"⟩, 9) := ⟨⟨by decide +kernel, by decide +kernel⟩, List.mem_of_getElem? (i := 18) (by decide +kernel), List.mem_of_getElem? (i := 355) (by decide +kernel), List.mem_of_getElem? (i := 356) (by decide +kernel)⟩
theorem lw_p18 : lw_okq (⟨"BookplateHall", "borrowable", "(LBookplateHall$Reader;)I"⟩, 9) := ⟨⟨by decide +kernel, by decide +kernel⟩, List.mem_of_getElem? (i := 18) (by decide +kernel), List.mem_of_getElem? (i := 367) (by decide +kernel), List.mem_of_getElem? (i := 368) (by decide +kernel)⟩
theorem lw_p19 : lw_okq (⟨"BookplateHall", "reasonAgainst", "(LBookplateHall$Reader;LBookplateHall$Copy;)I"⟩, 9) := ⟨⟨by decide +kernel, by decide +kernel⟩, List.mem_of_getElem? (i := 18) (by decide +kernel), List.mem_of_getElem? (i := 371) (by decide +kernel), List.mem_of_getElem? (i := 372) (by decide +kernel)⟩
theorem lw_p20 : lw_okq (⟨"BookplateHall", "lostWithin", "(I)I"⟩, 9) := ⟨⟨by decide +kernel, by decide +kernel⟩, List.mem_of_getElem? (i := 18) (by decide +kernel), List.mem_of_getElem? (i := 383) (by decide +kernel), List.mem_of_getElem? (i := 384) (by decide +kernel)⟩
theorem lw_p21 : lw_okq (⟨"BookplateHall", "knownRecord", "(I)LBookplateHall$BookRecord;"⟩, 9) := ⟨⟨by decide +kernel, by decide +kernel⟩, List.mem_of_getElem? (i := 18) (by decide +kernel), List.mem_of_getElem? (i := 412) (by decide +kernel), List.mem_of_getElem? (i := 413) (by decide +kernel)⟩
theorem lw_p22 : lw_okq (⟨"BookplateHall", "free", "(LBookplateHall$Copy;)V"⟩, 9) := ⟨⟨by decide +kernel, by decide +kernel⟩, List.mem_of_getElem? (i := 18) (by decide +kernel), List.mem_of_getElem? (i := 455) (by decide +kernel), List.mem_of_getElem? (i := 456) (by decide +kernel)⟩
theorem lw_p23 : lw_okq (⟨"BookplateHall", "firstWithNoneAside", "(LBookplateHall$BookRecord;)LBookplateHall$Reader;"⟩, 9) := ⟨⟨by decide +kernel, by decide +kernel⟩, List.mem_of_getElem? (i := 18) (by decide +kernel), List.mem_of_getElem? (i := 463) (by decide +kernel), List.mem_of_getElem? (i := 464) (by decide +kernel)⟩
theorem lw_p24 : lw_okq (⟨"BookplateHall", "firstAside", "(LBookplateHall$Reader;LBookplateHall$BookRecord;)LBookplateHall$Copy;"⟩, 9) := ⟨⟨by decide +kernel, by decide +kernel⟩, List.mem_of_getElem? (i := 18) (by decide +kernel), List.mem_of_getElem? (i := 467) (by decide +kernel), List.mem_of_getElem? (i := 468) (by decide +kernel)⟩
theorem lw_p25 : lw_okq (⟨"BookplateHall", "knownReader", "(I)LBookplateHall$Reader;"⟩, 9) := ⟨⟨by decide +kernel, by decide +kernel⟩, List.mem_of_getElem? (i := 18) (by decide +kernel), List.mem_of_getElem? (i := 475) (by decide +kernel), List.mem_of_getElem? (i := 476) (by decide +kernel)⟩
theorem lw_p26 : lw_okq (⟨"BookplateHall", "knownCopy", "(I)LBookplateHall$Copy;"⟩, 9) := ⟨⟨by decide +kernel, by decide +kernel⟩, List.mem_of_getElem? (i := 18) (by decide +kernel), List.mem_of_getElem? (i := 480) (by decide +kernel), List.mem_of_getElem? (i := 481) (by decide +kernel)⟩
theorem lw_p27 : lw_okq (⟨"BookplateHall", "endWait", "(LBookplateHall$Reader;LBookplateHall$BookRecord;)V"⟩, 9) := ⟨⟨by decide +kernel, by decide +kernel⟩, List.mem_of_getElem? (i := 18) (by decide +kernel), List.mem_of_getElem? (i := 490) (by decide +kernel), List.mem_of_getElem? (i := 491) (by decide +kernel)⟩
theorem lw_p28 : lw_okq (⟨"BookplateHall", "mayBeRenewed", "(LBookplateHall$Copy;)Z"⟩, 9) := ⟨⟨by decide +kernel, by decide +kernel⟩, List.mem_of_getElem? (i := 18) (by decide +kernel), List.mem_of_getElem? (i := 506) (by decide +kernel), List.mem_of_getElem? (i := 507) (by decide +kernel)⟩
theorem lw_p29 : lw_okq (⟨"BookplateHall", "hasCopyOf", "(LBookplateHall$Reader;LBookplateHall$BookRecord;)Z"⟩, 9) := ⟨⟨by decide +kernel, by decide +kernel⟩, List.mem_of_getElem? (i := 18) (by decide +kernel), List.mem_of_getElem? (i := 528) (by decide +kernel), List.mem_of_getElem? (i := 529) (by decide +kernel)⟩
theorem lw_p30 : lw_okq (⟨"BookplateHall", "firstIn", "(LBookplateHall$BookRecord;)LBookplateHall$Copy;"⟩, 9) := ⟨⟨by decide +kernel, by decide +kernel⟩, List.mem_of_getElem? (i := 18) (by decide +kernel), List.mem_of_getElem? (i := 537) (by decide +kernel), List.mem_of_getElem? (i := 538) (by decide +kernel)⟩
theorem lw_p31 : lw_okq (⟨"BookplateHall", "daysUntilServed", "(LBookplateHall$Reader;LBookplateHall$BookRecord;)I"⟩, 9) := ⟨⟨by decide +kernel, by decide +kernel⟩, List.mem_of_getElem? (i := 18) (by decide +kernel), List.mem_of_getElem? (i := 546) (by decide +kernel), List.mem_of_getElem? (i := 547) (by decide +kernel)⟩
def lw_privs_2 : List (MethodName × Nat) := [(⟨"BookplateHall", "lateCopiesOf", "(LBookplateHall$Reader;)I"⟩, 9), (⟨"BookplateHall", "finesOf", "(LBookplateHall$Reader;)I"⟩, 9), (⟨"BookplateHall", "borrowable", "(LBookplateHall$Reader;)I"⟩, 9), (⟨"BookplateHall", "reasonAgainst", "(LBookplateHall$Reader;LBookplateHall$Copy;)I"⟩, 9), (⟨"BookplateHall", "lostWithin", "(I)I"⟩, 9), (⟨"BookplateHall", "knownRecord", "(I)LBookplateHall$BookRecord;"⟩, 9), (⟨"BookplateHall", "free", "(LBookplateHall$Copy;)V"⟩, 9), (⟨"BookplateHall", "firstWithNoneAside", "(LBookplateHall$BookRecord;)LBookplateHall$Reader;"⟩, 9), (⟨"BookplateHall", "firstAside", "(LBookplateHall$Reader;LBookplateHall$BookRecord;)LBookplateHall$Copy;"⟩, 9), (⟨"BookplateHall", "knownReader", "(I)LBookplateHall$Reader;"⟩, 9), (⟨"BookplateHall", "knownCopy", "(I)LBookplateHall$Copy;"⟩, 9), (⟨"BookplateHall", "endWait", "(LBookplateHall$Reader;LBookplateHall$BookRecord;)V"⟩, 9), (⟨"BookplateHall", "mayBeRenewed", "(LBookplateHall$Copy;)Z"⟩, 9), (⟨"BookplateHall", "hasCopyOf", "(LBookplateHall$Reader;LBookplateHall$BookRecord;)Z"⟩, 9), (⟨"BookplateHall", "firstIn", "(LBookplateHall$BookRecord;)LBookplateHall$Copy;"⟩, 9), (⟨"BookplateHall", "daysUntilServed", "(LBookplateHall$Reader;LBookplateHall$BookRecord;)I"⟩, 9)]
theorem lw_r2 : ∀ q ∈ lw_privs_2, lw_okq q := List.forall_mem_cons.mpr ⟨lw_p16, List.forall_mem_cons.mpr ⟨lw_p17, List.forall_mem_cons.mpr ⟨lw_p18, List.forall_mem_cons.mpr ⟨lw_p19, List.forall_mem_cons.mpr ⟨lw_p20, List.forall_mem_cons.mpr ⟨lw_p21, List.forall_mem_cons.mpr ⟨lw_p22, List.forall_mem_cons.mpr ⟨lw_p23, List.forall_mem_cons.mpr ⟨lw_p24, List.forall_mem_cons.mpr ⟨lw_p25, List.forall_mem_cons.mpr ⟨lw_p26, List.forall_mem_cons.mpr ⟨lw_p27, List.forall_mem_cons.mpr ⟨lw_p28, List.forall_mem_cons.mpr ⟨lw_p29, List.forall_mem_cons.mpr ⟨lw_p30, List.forall_mem_cons.mpr ⟨lw_p31, fun _ h => absurd h List.not_mem_nil⟩⟩⟩⟩⟩⟩⟩⟩⟩⟩⟩⟩⟩⟩⟩⟩
theorem lw_p32 : lw_okq (⟨"BookplateHall", "reckonWhenThere", "(LBookplateHall$BookRecord;)V"⟩, 9) := ⟨⟨by decide +kernel, by decide +kernel⟩, List.mem_of_getElem? (i := 18) (by decide +kernel), List.mem_of_getElem? (i := 550) (by decide +kernel), List.mem_of_getElem? (i := 551) (by decide +kernel)⟩
theorem lw_p33 : lw_okq (⟨"BookplateHall", "firstThere", "(LBookplateHall$BookRecord;)LBookplateHall$Copy;"⟩, 9) := ⟨⟨by decide +kernel, by decide +kernel⟩, List.mem_of_getElem? (i := 18) (by decide +kernel), List.mem_of_getElem? (i := 560) (by decide +kernel), List.mem_of_getElem? (i := 561) (by decide +kernel)⟩
theorem lw_p34 : lw_okq (⟨"BookplateHall", "passOneDay", "()I"⟩, 9) := ⟨⟨by decide +kernel, by decide +kernel⟩, List.mem_of_getElem? (i := 18) (by decide +kernel), List.mem_of_getElem? (i := 580) (by decide +kernel), List.mem_of_getElem? (i := 581) (by decide +kernel)⟩
theorem lw_p35 : lw_okq (⟨"BookplateHall", "lose", "(LBookplateHall$Copy;)V"⟩, 9) := ⟨⟨by decide +kernel, by decide +kernel⟩, List.mem_of_getElem? (i := 18) (by decide +kernel), List.mem_of_getElem? (i := 584) (by decide +kernel), List.mem_of_getElem? (i := 585) (by decide +kernel)⟩
theorem lw_p36 : lw_okq (⟨"BookplateHall", "moveCopies", "(LBookplateHall$BookRecord;LBookplateHall$BookRecord;)V"⟩, 9) := ⟨⟨by decide +kernel, by decide +kernel⟩, List.mem_of_getElem? (i := 18) (by decide +kernel), List.mem_of_getElem? (i := 607) (by decide +kernel), List.mem_of_getElem? (i := 608) (by decide +kernel)⟩
theorem lw_p37 : lw_okq (⟨"BookplateHall", "moveWaiters", "(LBookplateHall$BookRecord;LBookplateHall$BookRecord;)V"⟩, 9) := ⟨⟨by decide +kernel, by decide +kernel⟩, List.mem_of_getElem? (i := 18) (by decide +kernel), List.mem_of_getElem? (i := 611) (by decide +kernel), List.mem_of_getElem? (i := 612) (by decide +kernel)⟩
theorem lw_p38 : lw_okq (⟨"BookplateHall", "freeThoseWronglyAside", "()V"⟩, 9) := ⟨⟨by decide +kernel, by decide +kernel⟩, List.mem_of_getElem? (i := 18) (by decide +kernel), List.mem_of_getElem? (i := 619) (by decide +kernel), List.mem_of_getElem? (i := 620) (by decide +kernel)⟩
theorem lw_p39 : lw_okq (⟨"BookplateHall", "isRightlyAside", "(LBookplateHall$Copy;)Z"⟩, 9) := ⟨⟨by decide +kernel, by decide +kernel⟩, List.mem_of_getElem? (i := 18) (by decide +kernel), List.mem_of_getElem? (i := 623) (by decide +kernel), List.mem_of_getElem? (i := 624) (by decide +kernel)⟩
theorem lw_p40 : lw_okq (⟨"BookplateHall", "freeThoseIn", "()V"⟩, 9) := ⟨⟨by decide +kernel, by decide +kernel⟩, List.mem_of_getElem? (i := 18) (by decide +kernel), List.mem_of_getElem? (i := 627) (by decide +kernel), List.mem_of_getElem? (i := 628) (by decide +kernel)⟩
theorem lw_p41 : lw_okq (⟨"BookplateHall$BookRecord", "likenessOfAuthors", "(LBookplateHall$BookRecord;)I"⟩, 7) := ⟨⟨by decide +kernel, by decide +kernel⟩, List.mem_of_getElem? (i := 194) (by decide +kernel), List.mem_of_getElem? (i := 655) (by decide +kernel), List.mem_of_getElem? (i := 656) (by decide +kernel)⟩
theorem lw_p42 : lw_okq (⟨"BookplateHall$BookRecord", "likenessOfTitles", "(LBookplateHall$BookRecord;)I"⟩, 7) := ⟨⟨by decide +kernel, by decide +kernel⟩, List.mem_of_getElem? (i := 194) (by decide +kernel), List.mem_of_getElem? (i := 664) (by decide +kernel), List.mem_of_getElem? (i := 665) (by decide +kernel)⟩
theorem lw_p43 : lw_okq (⟨"BookplateHall$BookRecord", "likenessOfYears", "(LBookplateHall$BookRecord;)I"⟩, 7) := ⟨⟨by decide +kernel, by decide +kernel⟩, List.mem_of_getElem? (i := 194) (by decide +kernel), List.mem_of_getElem? (i := 674) (by decide +kernel), List.mem_of_getElem? (i := 675) (by decide +kernel)⟩
def lw_privs_3 : List (MethodName × Nat) := [(⟨"BookplateHall", "reckonWhenThere", "(LBookplateHall$BookRecord;)V"⟩, 9), (⟨"BookplateHall", "firstThere", "(LBookplateHall$BookRecord;)LBookplateHall$Copy;"⟩, 9), (⟨"BookplateHall", "passOneDay", "()I"⟩, 9), (⟨"BookplateHall", "lose", "(LBookplateHall$Copy;)V"⟩, 9), (⟨"BookplateHall", "moveCopies", "(LBookplateHall$BookRecord;LBookplateHall$BookRecord;)V"⟩, 9), (⟨"BookplateHall", "moveWaiters", "(LBookplateHall$BookRecord;LBookplateHall$BookRecord;)V"⟩, 9), (⟨"BookplateHall", "freeThoseWronglyAside", "()V"⟩, 9), (⟨"BookplateHall", "isRightlyAside", "(LBookplateHall$Copy;)Z"⟩, 9), (⟨"BookplateHall", "freeThoseIn", "()V"⟩, 9), (⟨"BookplateHall$BookRecord", "likenessOfAuthors", "(LBookplateHall$BookRecord;)I"⟩, 7), (⟨"BookplateHall$BookRecord", "likenessOfTitles", "(LBookplateHall$BookRecord;)I"⟩, 7), (⟨"BookplateHall$BookRecord", "likenessOfYears", "(LBookplateHall$BookRecord;)I"⟩, 7)]
theorem lw_r3 : ∀ q ∈ lw_privs_3, lw_okq q := List.forall_mem_cons.mpr ⟨lw_p32, List.forall_mem_cons.mpr ⟨lw_p33, List.forall_mem_cons.mpr ⟨lw_p34, List.forall_mem_cons.mpr ⟨lw_p35, List.forall_mem_cons.mpr ⟨lw_p36, List.forall_mem_cons.mpr ⟨lw_p37, List.forall_mem_cons.mpr ⟨lw_p38, List.forall_mem_cons.mpr ⟨lw_p39, List.forall_mem_cons.mpr ⟨lw_p40, List.forall_mem_cons.mpr ⟨lw_p41, List.forall_mem_cons.mpr ⟨lw_p42, List.forall_mem_cons.mpr ⟨lw_p43, fun _ h => absurd h List.not_mem_nil⟩⟩⟩⟩⟩⟩⟩⟩⟩⟩⟩⟩
def lw_privs : List (MethodName × Nat) := lw_privs_1 ++ (lw_privs_2 ++ (lw_privs_3))
def lw_tbl : List Cond := k2_sels lw_privs ++ tables_1
theorem lw_privs_ok : ∀ q ∈ lw_privs, lw_okq q := by
  show ∀ q ∈ lw_privs_1 ++ (lw_privs_2 ++ (lw_privs_3)), lw_okq q
  exact List.forall_mem_append.mpr ⟨lw_r1, List.forall_mem_append.mpr ⟨lw_r2, lw_r3⟩⟩
/-- the streams that the claim lets the run draw from -/
abbrev lw_cs : List Choice := [Jvm.Choice.named "NaN.bits", Jvm.Choice.named "NaN.copy"]
theorem lw_bits : nanBits ∈ lw_cs := by first | decide | exact List.mem_cons_self | simp [lw_cs, nanBits]
end
section
/-! ===== BEGIN words of one list among another's, by their places ===== -/
theorem goodIn_r {big : List Cond} (ws : List Cond) (ps : List Nat) (hp : ws = ps.filterMap (fun i => big[i]?)) (h : ws.all goodWord = true) : GoodIn big ws := by
  intro w hw
  have h1 := List.all_eq_true.mp h w hw
  rw [hp] at hw
  obtain ⟨i, -, hi⟩ := List.mem_filterMap.mp hw
  have hm : w ∈ big := by first | exact List.mem_of_getElem? hi | exact List.getElem?_mem hi
  exact ⟨hm, good_of_word h1⟩
theorem goodIn_app {big a b : List Cond} (ha : GoodIn big a) (hb : GoodIn big b) : GoodIn big (a ++ b) := fun w h => (List.mem_append.mp h).elim (ha w) (hb w)
theorem goodIn_ca {big a b : List Cond} {c : Cond} (ha : GoodIn big (c :: a)) (hb : GoodIn big b) : GoodIn big (c :: (a ++ b)) := fun w h => (List.mem_cons.mp h).elim (fun e => ha w (List.mem_cons.mpr (Or.inl e))) (fun h => (List.mem_append.mp h).elim (fun h => ha w (List.mem_cons.mpr (Or.inr h))) (hb w))
theorem goodIn_sub {big ws : List Cond} (hm : ∀ w ∈ ws, w ∈ big) (h : ws.all goodWord = true) : GoodIn big ws := fun w hw => ⟨hm w hw, good_of_word (List.all_eq_true.mp h w hw)⟩
/-! ===== END ===== -/

/-! ===== BEGIN exceptions that leave a method, and their catching by the caller (launches without stack traces) ===== -/
section VXA
/-! The laws vx_back, vx_callV, vx_callS, vx_callSW, vx_throw0, vx_throwS follow proofs of the library, with one case more: JvmDerived/Free/Laws.lean (Back.of_free), Shelf42/LK1.lean (callV, callS), Shelf/KitTraced.lean (throwNew0V, throwNewS). -/
/-- where a method has thrown q: the class by its name, the cell, what was written, the world -/
def vx_T (XC : String → State → State → Prop) (st : State) (q : Addr) (t : State) (mc ms : Nat) (free : Addr → Prop) : Prop :=
  ∃ (E : String) (ce : Cell) (L : List Loc), XC E st t ∧ t.heap[q]? = some ce ∧ ce.vm = .none ∧ st.vm.findClass E = some ce.cls ∧ st.WarmedH t.vm ∧ st.sameButNew ({ t with vm := st.vm } : State) L mc ms ∧ ∀ z ∈ L, free z.base
def vx_Q (Qc : Array Value → State → Outcome → State → Prop) (XC : String → State → State → Prop) (mc ms : Nat) (free : Addr → Prop) : Array Value → State → Outcome → State → Prop := fun a st o t =>
  (Qc a st o t ∧ ∃ L, FrameEnd st o t L mc ms ∧ ∀ q ∈ L, free q.base) ∨ ∃ q, o = .threw q ∧ vx_T XC st q t mc ms free
/-- a callee that returns or throws -/
def vx_Met (l : Launch) (y : MethodName) (ws : List Cond) (rm : Room) (Pc : Array Value → State → Prop) (Qc : Array Value → State → Outcome → State → Prop) (XC : String → State → State → Prop) (mc ms : Nat) (free : Addr → Prop) : Prop :=
  MetFree l y (headSpec ws rm) Pc (fun _ _ _ _ _ => True) (vx_Q Qc XC mc ms free)
def vx_Post (XC : String → State → State → Prop) (mc ms : Nat) (free : Addr → Prop) : Pt → Array Value → Addr → Pt → Prop := fun A a q B =>
  ∃ (g : JFrame) (mk : MethodId) (t : State) (L : List Loc) (E : String) (ce : Cell), B.U.heap = t.heap ∧ B.U.vm = t.vm ∧ XC E (A.U.calling g mk a) t ∧ t.heap[q]? = some ce ∧ ce.vm = .none ∧ A.U.vm.findClass E = some ce.cls ∧ B.locs = A.locs ++ L ∧ (∀ z ∈ L, free z.base) ∧ B.cells = A.cells + mc ∧ B.slots = A.slots + ms
def vx_Back (l : Launch) (R : Room) (p : Program) (e : Env) (below : List Frame) (s : State) (sargs : Array Value) (y : MethodName) (len W9 : Nat)
    (Pre : Pt → Array Value → Prop) (Post : Pt → Array Value → Option Value → Pt → Prop) (PostX : Pt → Array Value → Addr → Pt → Prop) : Prop :=
  ∀ (m : MethodId) (meth : Method) (c : Code) (A : Pt) (g : JFrame) (ig : Instr) (mk : MethodId) (a : Array Value),
    Stand p l e R s m sargs below meth c A.U A.locs A.cells A.slots → g.method = m → g.locals.size = c.maxLocals → decode c.code g.pc = .ok (ig, len) →
    2 * g.monitorRoom + (g.stack.map fun v => v.category).sum ≤ W9 → A.U.methodNamed? y = some mk → Pre A a →
    (∃ (v : Option Value) (B : Pt), Stand p l e R s m sargs below meth c B.U B.locs B.cells B.slots ∧ Post A a v B ∧
      Steps p.tables e below (doInvoke e (A.U.setTop g) [] mk a).1 (B.U.setTop { g with pc := g.pc + len, stack := v.toList ++ g.stack })) ∨
    (∃ (q : Addr) (B : Pt), Stand p l e R s m sargs below meth c B.U B.locs B.cells B.slots ∧ PostX A a q B ∧
      Steps p.tables e below (doInvoke e (A.U.setTop g) [] mk a).1 ((B.U.setTop g).pushFrame (.throwing q)))
section Payer
variable {l : Launch} {R : Room} {p : Program} {e : Env} {below : List Frame} {s : State} {sargs : Array Value} {y : MethodName} {len W9 : Nat}
theorem vx_back {ws : List Cond} {rm : Room} {Pc : Array Value → State → Prop} {Qc : Array Value → State → Outcome → State → Prop} {XC : String → State → State → Prop} {mc ms : Nat} {free : Addr → Prop} {bytes : ByteArray} {maxL : Nat} {ret : Option FieldType}
    (hM : vx_Met l y ws rm Pc Qc XC mc ms free) (hblind : FrameBlind Pc) (hrc : rm.cells = mc) (hrs : rm.slots = ms)
    (hframes : rm.frames + 1 ≤ R.frames) (hlocals : W9 + (maxL + 11) + rm.locals ≤ R.locals)
    (hws : ∀ w ∈ ws, ∀ a' U, s.WarmedH U.vm → w.before a' U = true) (hcode : Cond.code y bytes maxL ret ∈ ws) (hinit : ∀ a' U, s.WarmedH U.vm → (Cond.initialized y.cls).before a' U = true) :
    vx_Back l R p e below s sargs y len W9 (PreOf R mc ms Pc) (PostOf Qc mc ms free) (vx_Post XC mc ms free) := by
  intro m meth c A g ig mk a X hg hsize hdg hW hn hp
  have h1 : (headSpec ws rm).pre.before a A.U = true := atoms_intro fun w hw => hws w hw _ _ X.warmed
  have h2 : (Cond.code y bytes maxL ret).before a A.U = true := hws _ hcode _ _ X.warmed
  have h3 : (Cond.initialized y.cls).before a A.U = true := hinit _ _ X.warmed
  have h4 : A.cells + (headSpec ws rm).room.cells ≤ R.cells := by rw [show (headSpec ws rm).room.cells = mc from hrc]; exact hp.1
  have h5 : A.slots + (headSpec ws rm).room.slots ≤ R.slots := by rw [show (headSpec ws rm).room.slots = ms from hrs]; exact hp.2.1
  have hPc : Pc a (A.U.calling g mk a) := hblind _ _ _ _ hp.2.2
  obtain ⟨U, Ls, c0, s0⟩ := A
  dsimp only [Pt.U, Pt.locs, Pt.cells, Pt.slots] at h1 h2 h3 h4 h5 X hn hPc ⊢
  obtain ⟨methY, cY, hmY, hcY, -, hlY, -, -, -, -⟩ := Cond.code_spec hn h2
  obtain ⟨kY, hkY, -⟩ := className_of_methodNamed hn
  have hinitY : kY.init = .initialized := Cond.initialized_spec (findClass_of_methodNamed hn) hkY h3
  have h : At U g.method c below := by rw [hg]; exact X.here
  have hlocals9 : W9 + (maxL + 11) + (headSpec ws rm).room.locals ≤ R.locals := hlocals
  have happ : (headSpec ws rm).appliesLoose y e.platform (U.calling g mk a) = true :=
    Spec.appliesLoose_calling (g := g) h hdg hn hkY hinitY
      (X.room_calling (g := g) (R' := (headSpec ws rm).room) hsize hmY hcY hframes (by rw [hlY]; omega) h4 h5) h1
  obtain ⟨mid, hmid⟩ := h.above
  have hfr : (U.setTop g).frames = (.java g :: mid) ++ below := by rw [State.frames_setTop' g h.top, hmid]; rfl
  obtain ⟨o, s₂, hsteps, -, hend, hq⟩ := Steps.callFree hM p X.admits X.cas X.clock (acts := []) hfr happ hPc trivial
  have hq' : vx_Q Qc XC mc ms free a (U.calling g mk a) o s₂ := hq
  rw [State.frames_setTop' g h.top] at hend
  obtain ⟨g₀, hg0⟩ := Option.isSome_iff_exists.mp h.top
  obtain ⟨r, hr⟩ := State.topJava?_eq_some.mp hg0
  have hr' : (({ U with heap := s₂.heap, slotsUsed := s₂.slotsUsed } : State).setVm s₂.vm).frames = .java g₀ :: r := hr
  rcases hq' with ⟨hqc, L, hfe, hL⟩ | ⟨q, rfl, E, ce, L, hx, hce, hcv, hcl, hW₂, hsm, hL⟩
  · obtain ⟨⟨v, rfl⟩, hW₂, e2, q2, q3, q4, q5, q6⟩ := id hfe
    have e3 : s₂ = ({ (U.calling g mk a).setFrames s₂.frames with heap := s₂.heap, slotsUsed := s₂.slotsUsed } : State).setVm s₂.vm := by
      have : s₂ = ({ s₂ with vm := (U.calling g mk a).vm } : State).setVm s₂.vm := rfl
      rw [e2] at this
      exact this
    obtain ⟨c₂, i₂, len₂, hc₂, hd₂, hf₂⟩ := hend
    have hW' : U.WarmedH s₂.vm := hW₂
    have hcc : c₂ = c := by
      have h1 : s₂.code? g.method = U.code? g.method := by
        rw [State.code?_eq, State.code?_eq, hW'.alike.method?]
      exact Option.some.inj (hc₂.symm.trans (h1.trans h.code))
    subst hcc
    have hlen : len₂ = len := by rw [hdg] at hd₂; cases hd₂; rfl
    subst hlen
    have hs₂ : s₂ = (({ U with heap := s₂.heap, slotsUsed := s₂.slotsUsed } : State).setVm s₂.vm).setTop { g with pc := g.pc + len₂, stack := v.toList ++ g.stack } := by
      refine e3.trans ?_
      rw [hf₂, State.calling_eq h.top, State.setFrames_setFrames, State.setTop_of_frames _ hr', hr]
      rfl
    have hsame : U.sameButNew ({ U with heap := s₂.heap, slotsUsed := s₂.slotsUsed } : State) L mc ms := by
      refine ⟨?_, q2, q3, q4, q5, q6⟩
      obtain ⟨t, ht, -⟩ := State.frames_cons hr
      show ({ U with heap := s₂.heap, slotsUsed := s₂.slotsUsed } : State) = { U.setFrames U.frames with heap := s₂.heap, slotsUsed := s₂.slotsUsed }
      rw [State.setFrames_self ht]
    subst hg
    refine Or.inl ⟨v, ⟨(({ U with heap := s₂.heap, slotsUsed := s₂.slotsUsed } : State).setVm s₂.vm), Ls ++ L, c0 + mc, s0 + ms⟩,
      ⟨X.admits, X.cas, X.clock, X.frames, X.room, X.hears, X.method, X.code, (X.here.setHeapUsed s₂.heap s₂.slotsUsed).setVm hW'.alike, X.tail, State.WarmedH.trans X.warmed hW', X.limits, X.bytes, X.same.trans (hsame.setVm s.vm)⟩,
      ⟨g, mk, s₂, L, rfl, rfl, hqc, rfl, hL, rfl, rfl⟩, ?_⟩
    show Steps p.tables e below _ ((({ U with heap := s₂.heap, slotsUsed := s₂.slotsUsed } : State).setVm s₂.vm).setTop { g with pc := g.pc + len₂, stack := v.toList ++ g.stack })
    rw [← hs₂]
    exact hsteps
  · obtain ⟨e2, q2, q3, q4, q5, q6⟩ := id hsm
    have e3 : s₂ = ({ (U.calling g mk a).setFrames s₂.frames with heap := s₂.heap, slotsUsed := s₂.slotsUsed } : State).setVm s₂.vm := by
      have : s₂ = ({ s₂ with vm := (U.calling g mk a).vm } : State).setVm s₂.vm := rfl
      rw [e2] at this
      exact this
    have hf₂ : s₂.frames = .throwing q :: .java g :: U.frames.tail := hend
    have hW' : U.WarmedH s₂.vm := hW₂
    have hs₂ : s₂ = ((({ U with heap := s₂.heap, slotsUsed := s₂.slotsUsed } : State).setVm s₂.vm).setTop g).pushFrame (.throwing q) := by
      refine e3.trans ?_
      rw [hf₂, State.calling_eq h.top, State.setFrames_setFrames, State.pushFrame, State.frames_setTop _ hr', State.setTop_of_frames _ hr', State.setFrames_setFrames, hr]
      rfl
    have hsame : U.sameButNew ({ U with heap := s₂.heap, slotsUsed := s₂.slotsUsed } : State) L mc ms := by
      refine ⟨?_, q2, q3, q4, q5, q6⟩
      obtain ⟨t, ht, -⟩ := State.frames_cons hr
      show ({ U with heap := s₂.heap, slotsUsed := s₂.slotsUsed } : State) = { U.setFrames U.frames with heap := s₂.heap, slotsUsed := s₂.slotsUsed }
      rw [State.setFrames_self ht]
    subst hg
    refine Or.inr ⟨q, ⟨(({ U with heap := s₂.heap, slotsUsed := s₂.slotsUsed } : State).setVm s₂.vm), Ls ++ L, c0 + mc, s0 + ms⟩,
      ⟨X.admits, X.cas, X.clock, X.frames, X.room, X.hears, X.method, X.code, (X.here.setHeapUsed s₂.heap s₂.slotsUsed).setVm hW'.alike, X.tail, State.WarmedH.trans X.warmed hW', X.limits, X.bytes, X.same.trans (hsame.setVm s.vm)⟩,
      ⟨g, mk, s₂, L, E, ce, rfl, rfl, hx, hce, hcv, hcl, rfl, hL, rfl, rfl⟩, ?_⟩
    show Steps p.tables e below _ (((({ U with heap := s₂.heap, slotsUsed := s₂.slotsUsed } : State).setVm s₂.vm).setTop g).pushFrame (.throwing q))
    rw [← hs₂]
    exact hsteps
end Payer
section Calls
variable {p : Program} {l : Launch} {e : Env} {R : Room} {s : State} {m : MethodId} {args : Array Value} {below : List Frame} {meth : Method} {c : Code} {T : State} {locs : List Loc} {cells slots : Nat}
theorem vx_callV (X : Stand p l e R s m args below meth c T locs cells slots) (hexec : p.tables.exec = Jvm.exec) {own C : String} {index : Nat} {y : MethodName} {bytes : ByteArray} {maxL : Nat} {ret : Option FieldType}
    (hown : s.vm.findClass own = some m.cls) (hlink : (Cond.methodLink own index y).before args s = true) (hinst : (Cond.instanceMethod y).before args s = true) (hsel : (Cond.selects C y y).before args s = true)
    (hcode : (Cond.code y bytes maxL ret).before args s = true) (hy : y.cls ≠ "java/lang/invoke/MethodHandle" ∧ y.cls ≠ "java/lang/invoke/VarHandle")
    {W9 : Nat} {Pre : Pt → Array Value → Prop} {Post : Pt → Array Value → Option Value → Pt → Prop} {PostX : Pt → Array Value → Addr → Pt → Prop} (hK : vx_Back l R p e below s args y 3 W9 Pre Post PostX)
    {b : Addr} {cellB : Cell} (hcell : T.heap[b]? = some cellB) (hobj : cellB.vm.isStatics = false) (hcls : s.vm.findClass C = some cellB.cls)
    {g : JFrame} (hg : g.method = m) (hsize : g.locals.size = c.maxLocals) {argsL rest : List Value} (hlen : ∀ sig, parseMethodDescriptor y.desc = some sig → argsL.length = sig.parameters.length)
    (hstack : g.stack = argsL.reverse ++ .ref b :: rest) (hW : 2 * g.monitorRoom + (rest.map fun v => v.category).sum ≤ W9) (hdg : decode c.code g.pc = .ok (.invokevirtual index, 3))
    (hpre : ∀ vm₁, s.WarmedH vm₁ → Pre ⟨T.setVm vm₁, locs, cells, slots⟩ (Value.ref b :: argsL).toArray) :
    (∃ (v : Option Value) (vm₁ : Vm) (B : Pt), s.WarmedH vm₁ ∧ Stand p l e R s m args below meth c B.U B.locs B.cells B.slots ∧ Post ⟨T.setVm vm₁, locs, cells, slots⟩ (Value.ref b :: argsL).toArray v B ∧
      ∀ target, Steps p.tables e below (B.U.setTop { g with pc := g.pc + 3, stack := v.toList ++ rest }) target → Steps p.tables e below (T.setTop g) target) ∨
    (∃ (q : Addr) (vm₁ : Vm) (B : Pt), s.WarmedH vm₁ ∧ Stand p l e R s m args below meth c B.U B.locs B.cells B.slots ∧ PostX ⟨T.setVm vm₁, locs, cells, slots⟩ (Value.ref b :: argsL).toArray q B ∧
      Steps p.tables e below (T.setTop g) ((B.U.setTop { g with stack := rest }).pushFrame (.throwing q))) := by
  obtain ⟨mk, methM, hnamed, hmethM, hstM, habM⟩ := Cond.instanceMethod_spec hinst
  obtain ⟨methM', cM, hmethM', -, -, -, -, -, -, hsigM⟩ := Cond.code_spec hnamed hcode
  cases hmethM.symm.trans hmethM'
  obtain ⟨c2, r2, m2, q1, q2, q3, q4, kP, hkP, hkPi⟩ := Cond.selects_spec hsel
  cases hcls.symm.trans q1
  cases (State.methodFound?_of_named hnamed hy).symm.trans q2
  cases hnamed.symm.trans q3
  have hselP : selectMethod e.platform s.vm cellB.cls mk = .method mk := by rw [Launch.admits_selectMethod X.admits]; exact q4
  obtain ⟨vm₁, X₁, hstep₁⟩ := X.invokevirtual hexec hown hlink hnamed hmethM hstM hkP hkPi hy (a := b) (cell := cellB) hcell
    (fun z h => by rw [h] at hobj; cases hobj) hselP hmethM habM hkP hkPi (g := g) hg (argsL := argsL) (rest := rest) (hlen _ hsigM) hstack hdg
  rcases hK m meth c ⟨T.setVm vm₁, locs, cells, slots⟩ { g with stack := rest } (.invokevirtual index) mk (Value.ref b :: argsL).toArray X₁ hg hsize hdg hW (X₁.named hnamed) (hpre vm₁ X₁.warmed) with ⟨v, B, X', hpost, hsteps⟩ | ⟨q, B, X', hpost, hsteps⟩
  · exact Or.inl ⟨v, vm₁, B, X₁.warmed, X', hpost, fun target h => hstep₁ _ fun acts => by rw [doInvoke_state]; exact hsteps.trans h⟩
  · exact Or.inr ⟨q, vm₁, B, X₁.warmed, X', hpost, hstep₁ _ fun acts => by rw [doInvoke_state]; exact hsteps⟩
theorem vx_callS (X : Stand p l e R s m args below meth c T locs cells slots) (hexec : p.tables.exec = Jvm.exec) {own : String} {index : Nat} {y : MethodName} {bytes : ByteArray} {maxL : Nat} {ret : Option FieldType}
    (hown : s.vm.findClass own = some m.cls) (hlink : (Cond.methodLink own index y).before args s = true) (hstat : (Cond.static y).before args s = true) (hinit : (Cond.initialized y.cls).before args s = true)
    (hcode : (Cond.code y bytes maxL ret).before args s = true) (hy : y.cls ≠ "java/lang/invoke/MethodHandle" ∧ y.cls ≠ "java/lang/invoke/VarHandle")
    {W9 : Nat} {Pre : Pt → Array Value → Prop} {Post : Pt → Array Value → Option Value → Pt → Prop} {PostX : Pt → Array Value → Addr → Pt → Prop} (hK : vx_Back l R p e below s args y 3 W9 Pre Post PostX)
    {g : JFrame} (hg : g.method = m) (hsize : g.locals.size = c.maxLocals) {argsL rest : List Value} (hlen : ∀ sig, parseMethodDescriptor y.desc = some sig → argsL.length = sig.parameters.length)
    (hstack : g.stack = argsL.reverse ++ rest) (hW : 2 * g.monitorRoom + (rest.map fun v => v.category).sum ≤ W9) (hdg : decode c.code g.pc = .ok (.invokestatic index, 3))
    (hpre : ∀ vm₁, s.WarmedH vm₁ → Pre ⟨T.setVm vm₁, locs, cells, slots⟩ argsL.toArray) :
    (∃ (v : Option Value) (vm₁ : Vm) (B : Pt), s.WarmedH vm₁ ∧ Stand p l e R s m args below meth c B.U B.locs B.cells B.slots ∧ Post ⟨T.setVm vm₁, locs, cells, slots⟩ argsL.toArray v B ∧
      ∀ target, Steps p.tables e below (B.U.setTop { g with pc := g.pc + 3, stack := v.toList ++ rest }) target → Steps p.tables e below (T.setTop g) target) ∨
    (∃ (q : Addr) (vm₁ : Vm) (B : Pt), s.WarmedH vm₁ ∧ Stand p l e R s m args below meth c B.U B.locs B.cells B.slots ∧ PostX ⟨T.setVm vm₁, locs, cells, slots⟩ argsL.toArray q B ∧
      Steps p.tables e below (T.setTop g) ((B.U.setTop { g with stack := rest }).pushFrame (.throwing q))) := by
  obtain ⟨mk, hnamed⟩ := Cond.code_named hcode
  obtain ⟨methM, cM, hmethM, -, -, -, -, -, -, hsigM⟩ := Cond.code_spec hnamed hcode
  have hstatic : methM.isStatic = true := Cond.static_spec hnamed hmethM hstat
  obtain ⟨kP, hkP, -⟩ := className_of_methodNamed hnamed
  have hinitP : kP.init = .initialized := Cond.initialized_spec (findClass_of_methodNamed hnamed) hkP hinit
  obtain ⟨vm₁, X₁, hstep₁⟩ := X.invokestatic hexec hown hlink hnamed hmethM hstatic hkP hinitP hy (g := g) hg (argsL := argsL) (rest := rest) (hlen _ hsigM) hstack hdg
  rcases hK m meth c ⟨T.setVm vm₁, locs, cells, slots⟩ { g with stack := rest } (.invokestatic index) mk argsL.toArray X₁ hg hsize hdg hW (X₁.named hnamed) (hpre vm₁ X₁.warmed) with ⟨v, B, X', hpost, hsteps⟩ | ⟨q, B, X', hpost, hsteps⟩
  · exact Or.inl ⟨v, vm₁, B, X₁.warmed, X', hpost, fun target h => hstep₁ _ fun acts => by rw [doInvoke_state]; exact hsteps.trans h⟩
  · exact Or.inr ⟨q, vm₁, B, X₁.warmed, X', hpost, hstep₁ _ fun acts => by rw [doInvoke_state]; exact hsteps⟩
end Calls
theorem vx_cls {s : State} {T : State} {vm₁ : Vm} {E : String} {k : ClassId} (hW : s.WarmedH vm₁) (h : (T.setVm vm₁).vm.findClass E = some k) : s.vm.findClass E = some k := by
  have h1 : vm₁.findClass E = some k := h
  rw [hW.alike.findClass] at h1
  exact h1
/-- the method's frame g, with q thrown over it -/
def vx_W (p : Program) (l : Launch) (e : Env) (R : Room) (s : State) (m : MethodId) (args : Array Value) (below : List Frame) (meth : Method) (c : Code) (H : Heap) (locs : List Loc) (cells slots : Nat) (Q : State → Prop) (g : JFrame) (q : Addr) : Prop :=
  ∀ T : State, T.heap = H → Stand p l e R s m args below meth c T locs cells slots → ∃ t, Steps p.tables e below ((T.setTop g).pushFrame (.throwing q)) t ∧ Q t
def vx_Run (p : Program) (l : Launch) (e : Env) (R : Room) (s : State) (m : MethodId) (args : Array Value) (below : List Frame) (meth : Method) (c : Code) (H : Heap) (locs : List Loc) (cells slots mc ms : Nat) (g : JFrame) (rest : List Value) (Qa : State → Outcome → State → Prop) (XC : String → State → State → Prop) (free : Addr → Prop) : Prop :=
  ∀ T : State, T.heap = H → Stand p l e R s m args below meth c T locs cells slots →
    (∃ (v : Option Value) (st₀ t T' : State) (L : List Loc), st₀.heap = H ∧ Stand p l e R s m args below meth c T' (locs ++ L) (cells + mc) (slots + ms) ∧ (∀ q ∈ L, free q.base) ∧ T'.heap = t.heap ∧ T'.vm = t.vm ∧ Qa st₀ (.returned v) t ∧
      Goes p e below T g T' { g with pc := g.pc + 3, stack := v.toList ++ rest }) ∨
    (∃ (q : Addr) (st₀ t T' : State) (L : List Loc) (E : String) (ce : Cell), st₀.heap = H ∧ Stand p l e R s m args below meth c T' (locs ++ L) (cells + mc) (slots + ms) ∧ (∀ z ∈ L, free z.base) ∧ T'.heap = t.heap ∧ T'.vm = t.vm ∧ XC E st₀ t ∧ t.heap[q]? = some ce ∧ ce.vm = .none ∧ s.vm.findClass E = some ce.cls ∧
      Steps p.tables e below (T.setTop g) ((T'.setTop { g with stack := rest }).pushFrame (.throwing q)))
def vx_X {S : Type} (px : S → Prop) (B : String → S → State → Prop) (A : Nat → Prop) : String → State → State → Prop := fun E st t => ∃ u : S, px u ∧ B E u t ∧ va_F A st t
section Runs
variable {p : Program} {l : Launch} {e : Env} {R : Room} {s : State} {m : MethodId} {args : Array Value} {below : List Frame} {meth : Method} {c : Code} {H : Heap} {locs : List Loc} {cells slots : Nat}
variable {y : MethodName} {bytes cc : ByteArray} {maxL nL mc ms n index : Nat} {ret : Option FieldType} {ws : List Cond} {rm : Room} {Pc : Array Value → State → Prop} {Qc : Array Value → State → Outcome → State → Prop} {XC : String → State → State → Prop} {free : Addr → Prop} {Ts : List Cond} {own C : String} {b : Addr} {As rest : List Value} {g : JFrame}
theorem vx_callBack (cb : CallB R s args own index y bytes maxL ret ws rm mc ms n) (hM : vx_Met l y ws rm Pc Qc XC mc ms free) (hbl : FrameBlind Pc) : vx_Back l R p e below s args y 3 8 (PreOf R mc ms Pc) (PostOf Qc mc ms free) (vx_Post XC mc ms free) := by
  obtain ⟨hrc, hrs, hfr, hlo, hws, hcw, -, hini, -⟩ := cb
  exact vx_back (bytes := bytes) (maxL := maxL) (ret := ret) hM hbl hrc hrs hfr hlo hws hcw (fun a' U hW => word_at hW (Or.inl (by first | rfl | simp [Cond.onTables, Cond.keeps, Cond.steady])) hini)
theorem vx_runV (S : CallFix p m c cc nL s args Ts own) (hM : vx_Met l y ws rm Pc Qc XC mc ms free) (cw : CallW R s args own C index y bytes maxL ret ws rm mc ms n) (hp : PreV s H C b Pc As)
    (hg : g.method = m) (hn : As.length = n) (hsize : g.locals.size = nL) (hstack : g.stack = As.reverse ++ .ref b :: rest) (hW : 2 * g.monitorRoom + (rest.map fun v => v.category).sum ≤ 8) (hdg : decode cc g.pc = .ok (.invokevirtual index, 3)) (hf : cells + mc ≤ R.cells ∧ slots + ms ≤ R.slots) :
    vx_Run p l e R s m args below meth c H locs cells slots mc ms g rest (Qc (Value.ref b :: As).toArray) XC free := by
  have hK : vx_Back l R p e below s args y 3 8 (PreOf R mc ms Pc) (PostOf Qc mc ms free) (vx_Post XC mc ms free) := vx_callBack cw.1 hM hp.1
  obtain ⟨⟨-, -, -, -, -, -, hcode, -, hy, hlen, hl⟩, hin, hse⟩ := cw
  obtain ⟨hx, hb, hml, ho, -⟩ := S
  obtain ⟨-, ⟨cellB, hcB, hoB, hclB⟩, hPc⟩ := hp
  intro T hT X
  rcases vx_callV X hx (C := C) (bytes := bytes) (maxL := maxL) (ret := ret) ho hl hin hse hcode hy hK (by rw [hT]; exact hcB) hoB hclB hg (hsize.trans hml.symm) (argsL := As) (rest := rest) (fun sig h => hn.trans (hlen sig h)) hstack hW (by rw [hb]; exact hdg)
    (fun vm₁ hW₁ => ⟨hf.1, hf.2, hPc (T.setVm vm₁) hT hW₁⟩) with ⟨v, vm₁, ⟨U', l2, c2, s2⟩, hW₁, X', ⟨g', mk, t, L, e1, e2, hq, h1, hL, h2, h3⟩, st⟩ | ⟨q, vm₁, ⟨U', l2, c2, s2⟩, hW₁, X', ⟨g', mk, t, L, E, ce, e1, e2, hq, hce, hcv, hcl, h1, hL, h2, h3⟩, st⟩
  · dsimp only [Pt.U, Pt.locs, Pt.cells, Pt.slots] at X' e1 e2 h1 h2 h3 st
    subst h1; subst h2; subst h3
    exact Or.inl ⟨v, (T.setVm vm₁).calling g' mk (Value.ref b :: As).toArray, t, U', L, hT, X', hL, e1, e2, hq, st⟩
  · dsimp only [Pt.U, Pt.locs, Pt.cells, Pt.slots] at X' e1 e2 h1 h2 h3 st hcl
    subst h1; subst h2; subst h3
    exact Or.inr ⟨q, (T.setVm vm₁).calling g' mk (Value.ref b :: As).toArray, t, U', L, E, ce, hT, X', hL, e1, e2, hq, hce, hcv, vx_cls hW₁ hcl, st⟩
theorem vx_runS (S : CallFix p m c cc nL s args Ts own) (hM : vx_Met l y ws rm Pc Qc XC mc ms free) (cw : CallB R s args own index y bytes maxL ret ws rm mc ms n ∧ (Cond.static y).before args s = true) (hp : PreS s H Pc As)
    (hg : g.method = m) (hn : As.length = n) (hsize : g.locals.size = nL) (hstack : g.stack = As.reverse ++ rest) (hW : 2 * g.monitorRoom + (rest.map fun v => v.category).sum ≤ 8) (hdg : decode cc g.pc = .ok (.invokestatic index, 3)) (hf : cells + mc ≤ R.cells ∧ slots + ms ≤ R.slots) :
    vx_Run p l e R s m args below meth c H locs cells slots mc ms g rest (Qc As.toArray) XC free := by
  have hK : vx_Back l R p e below s args y 3 8 (PreOf R mc ms Pc) (PostOf Qc mc ms free) (vx_Post XC mc ms free) := vx_callBack cw.1 hM hp.1
  obtain ⟨⟨-, -, -, -, -, -, hcode, hini, hy, hlen, hl⟩, hstt⟩ := cw
  obtain ⟨hx, hb, hml, ho, -⟩ := S
  intro T hT X
  rcases vx_callS X hx (bytes := bytes) (maxL := maxL) (ret := ret) ho hl hstt hini hcode hy hK hg (hsize.trans hml.symm) (argsL := As) (rest := rest) (fun sig h => hn.trans (hlen sig h)) hstack hW (by rw [hb]; exact hdg)
    (fun vm₁ hW₁ => ⟨hf.1, hf.2, hp.2 (T.setVm vm₁) hT hW₁⟩) with ⟨v, vm₁, ⟨U', l2, c2, s2⟩, hW₁, X', ⟨g', mk, t, L, e1, e2, hq, h1, hL, h2, h3⟩, st⟩ | ⟨q, vm₁, ⟨U', l2, c2, s2⟩, hW₁, X', ⟨g', mk, t, L, E, ce, e1, e2, hq, hce, hcv, hcl, h1, hL, h2, h3⟩, st⟩
  · dsimp only [Pt.U, Pt.locs, Pt.cells, Pt.slots] at X' e1 e2 h1 h2 h3 st
    subst h1; subst h2; subst h3
    exact Or.inl ⟨v, (T.setVm vm₁).calling g' mk As.toArray, t, U', L, hT, X', hL, e1, e2, hq, st⟩
  · dsimp only [Pt.U, Pt.locs, Pt.cells, Pt.slots] at X' e1 e2 h1 h2 h3 st hcl
    subst h1; subst h2; subst h3
    exact Or.inr ⟨q, (T.setVm vm₁).calling g' mk As.toArray, t, U', L, E, ce, hT, X', hL, e1, e2, hq, hce, hcv, vx_cls hW₁ hcl, st⟩
end Runs
section Rows
variable {p : Program} {l : Launch} {e : Env} {R : Room} {s : State} {m : MethodId} {args : Array Value} {below : List Frame} {meth : Method} {c : Code} {H : Heap} {locs : List Loc} {cells slots : Nat} {Q : State → Prop}
variable {mc ms : Nat} {free : Addr → Prop} {A0 A1 : Nat → Prop} {H0 : Heap} {a : Array Value} {pc : Nat} {ls : Array Slot} {st0 rest : List Value}
theorem vx_keep {st₀ t T' : State} {L : List Loc} (h0 : st₀.heap = H) (e1 : T'.heap = t.heap) (hS : va_S A0 H0 H locs) (hA : ∀ q, q < H.size → A1 q → A0 q) (hf : ∀ q, free q → A0 q) (hL : ∀ q ∈ L, free q.base) (hF : va_F A1 st₀ t) :
    H.size ≤ T'.heap.size ∧ (∀ q : Nat, q < H.size → ¬ A1 q → T'.heap[q]? = H[q]?) ∧ va_S A0 H0 T'.heap (locs ++ L) := by
  obtain ⟨hz, hk⟩ := hF
  rw [h0] at hz hk
  exact ⟨by rw [e1]; exact hz, fun q h1 h2 => by rw [e1]; exact hk q h1 h2,
    ⟨Nat.le_trans hS.1 (by rw [e1]; exact hz), fun q h1 h2 => by rw [e1, hk q (Nat.lt_of_lt_of_le h1 hS.1) (fun z => h2 (hA q (Nat.lt_of_lt_of_le h1 hS.1) z))]; exact hS.2.1 q h1 h2, fun q hq => by
      rcases List.mem_append.mp hq with h | h
      · exact hS.2.2 q h
      · exact hf _ (hL q h)⟩⟩
theorem vx_calli {S SX : Type} {post : Int32 → S → Prop} {px : SX → Prop} {B : S → State → Prop} {BX : String → SX → State → Prop} {AX : Nat → Prop} (hr : vx_Run p l e R s m args below meth c H locs cells slots mc ms (F0 m pc ls st0) rest (va_Qi post B A1 a) (vx_X px BX AX) free) (hS : va_S A0 H0 H locs) (hA : ∀ q, q < H.size → A1 q → A0 q) (hf : ∀ q, free q → A0 q) (hAX : ∀ q, q < H.size → AX q → A0 q)
    (kx : ∀ (E : String) (ce : Cell) (q9 : Addr) (u : SX) (t : State) (H1 : Heap) (locs1 : List Loc), t.heap = H1 → s.vm.Alike t.vm → px u → BX E u t → H.size ≤ H1.size → (∀ q : Nat, q < H.size → ¬ AX q → H1[q]? = H[q]?) → va_S A0 H0 H1 locs1 → H1[q9]? = some ce → ce.vm = .none → s.vm.findClass E = some ce.cls → vx_W p l e R s m args below meth c H1 locs1 (cells + mc) (slots + ms) Q (F0 m pc ls rest) q9)
    (kk : ∀ (r : Int32) (u : S) (t : State) (H1 : Heap) (locs1 : List Loc), t.heap = H1 → s.vm.Alike t.vm → post r u → B u t → H.size ≤ H1.size → (∀ q : Nat, q < H.size → ¬ A1 q → H1[q]? = H[q]?) → va_S A0 H0 H1 locs1 → W p l e R s m args below meth c H1 locs1 (cells + mc) (slots + ms) Q (F0 m (pc + 3) ls (.int r :: rest))) : W p l e R s m args below meth c H locs cells slots Q (F0 m pc ls st0) := by
  intro T hT X
  rcases hr T hT X with ⟨v, st₀, t, T', L, h0, X', hL, e1, e2, ⟨⟨r, u, hv, hp, hb⟩, hF⟩, st⟩ | ⟨q, st₀, t, T', L, E, ce, h0, X', hL, e1, e2, ⟨u, hp, hb, hF⟩, hce, hcv, hcl, st⟩
  · cases hv
    obtain ⟨k1, k2, k3⟩ := vx_keep h0 e1 hS hA hf hL hF
    obtain ⟨t2, a1, b1⟩ := kk r u t T'.heap (locs ++ L) e1.symm (by rw [← e2]; exact X'.warmed.alike) hp hb k1 k2 k3 T' rfl X'
    exact ⟨t2, st t2 a1, b1⟩
  · obtain ⟨k1, k2, k3⟩ := vx_keep h0 e1 hS hAX hf hL hF
    obtain ⟨t2, a1, b1⟩ := kx E ce q u t T'.heap (locs ++ L) e1.symm (by rw [← e2]; exact X'.warmed.alike) hp hb k1 k2 k3 (by rw [e1]; exact hce) hcv hcl T' rfl X'
    exact ⟨t2, st.trans a1, b1⟩
theorem vx_calll {S SX : Type} {post : Int64 → S → Prop} {px : SX → Prop} {B : S → State → Prop} {BX : String → SX → State → Prop} {AX : Nat → Prop} (hr : vx_Run p l e R s m args below meth c H locs cells slots mc ms (F0 m pc ls st0) rest (va_Ql post B A1 a) (vx_X px BX AX) free) (hS : va_S A0 H0 H locs) (hA : ∀ q, q < H.size → A1 q → A0 q) (hf : ∀ q, free q → A0 q) (hAX : ∀ q, q < H.size → AX q → A0 q)
    (kx : ∀ (E : String) (ce : Cell) (q9 : Addr) (u : SX) (t : State) (H1 : Heap) (locs1 : List Loc), t.heap = H1 → s.vm.Alike t.vm → px u → BX E u t → H.size ≤ H1.size → (∀ q : Nat, q < H.size → ¬ AX q → H1[q]? = H[q]?) → va_S A0 H0 H1 locs1 → H1[q9]? = some ce → ce.vm = .none → s.vm.findClass E = some ce.cls → vx_W p l e R s m args below meth c H1 locs1 (cells + mc) (slots + ms) Q (F0 m pc ls rest) q9)
    (kk : ∀ (r : Int64) (u : S) (t : State) (H1 : Heap) (locs1 : List Loc), t.heap = H1 → s.vm.Alike t.vm → post r u → B u t → H.size ≤ H1.size → (∀ q : Nat, q < H.size → ¬ A1 q → H1[q]? = H[q]?) → va_S A0 H0 H1 locs1 → W p l e R s m args below meth c H1 locs1 (cells + mc) (slots + ms) Q (F0 m (pc + 3) ls (.long r :: rest))) : W p l e R s m args below meth c H locs cells slots Q (F0 m pc ls st0) := by
  intro T hT X
  rcases hr T hT X with ⟨v, st₀, t, T', L, h0, X', hL, e1, e2, ⟨⟨r, u, hv, hp, hb⟩, hF⟩, st⟩ | ⟨q, st₀, t, T', L, E, ce, h0, X', hL, e1, e2, ⟨u, hp, hb, hF⟩, hce, hcv, hcl, st⟩
  · cases hv
    obtain ⟨k1, k2, k3⟩ := vx_keep h0 e1 hS hA hf hL hF
    obtain ⟨t2, a1, b1⟩ := kk r u t T'.heap (locs ++ L) e1.symm (by rw [← e2]; exact X'.warmed.alike) hp hb k1 k2 k3 T' rfl X'
    exact ⟨t2, st t2 a1, b1⟩
  · obtain ⟨k1, k2, k3⟩ := vx_keep h0 e1 hS hAX hf hL hF
    obtain ⟨t2, a1, b1⟩ := kx E ce q u t T'.heap (locs ++ L) e1.symm (by rw [← e2]; exact X'.warmed.alike) hp hb k1 k2 k3 (by rw [e1]; exact hce) hcv hcl T' rfl X'
    exact ⟨t2, st.trans a1, b1⟩
theorem vx_callf {S SX : Type} {post : UInt32 → S → Prop} {px : SX → Prop} {B : S → State → Prop} {BX : String → SX → State → Prop} {AX : Nat → Prop} (hr : vx_Run p l e R s m args below meth c H locs cells slots mc ms (F0 m pc ls st0) rest (va_Qf post B A1 a) (vx_X px BX AX) free) (hS : va_S A0 H0 H locs) (hA : ∀ q, q < H.size → A1 q → A0 q) (hf : ∀ q, free q → A0 q) (hAX : ∀ q, q < H.size → AX q → A0 q)
    (kx : ∀ (E : String) (ce : Cell) (q9 : Addr) (u : SX) (t : State) (H1 : Heap) (locs1 : List Loc), t.heap = H1 → s.vm.Alike t.vm → px u → BX E u t → H.size ≤ H1.size → (∀ q : Nat, q < H.size → ¬ AX q → H1[q]? = H[q]?) → va_S A0 H0 H1 locs1 → H1[q9]? = some ce → ce.vm = .none → s.vm.findClass E = some ce.cls → vx_W p l e R s m args below meth c H1 locs1 (cells + mc) (slots + ms) Q (F0 m pc ls rest) q9)
    (kk : ∀ (r : UInt32) (u : S) (t : State) (H1 : Heap) (locs1 : List Loc), t.heap = H1 → s.vm.Alike t.vm → post r u → B u t → H.size ≤ H1.size → (∀ q : Nat, q < H.size → ¬ A1 q → H1[q]? = H[q]?) → va_S A0 H0 H1 locs1 → W p l e R s m args below meth c H1 locs1 (cells + mc) (slots + ms) Q (F0 m (pc + 3) ls (.float r :: rest))) : W p l e R s m args below meth c H locs cells slots Q (F0 m pc ls st0) := by
  intro T hT X
  rcases hr T hT X with ⟨v, st₀, t, T', L, h0, X', hL, e1, e2, ⟨⟨r, u, hv, hp, hb⟩, hF⟩, st⟩ | ⟨q, st₀, t, T', L, E, ce, h0, X', hL, e1, e2, ⟨u, hp, hb, hF⟩, hce, hcv, hcl, st⟩
  · cases hv
    obtain ⟨k1, k2, k3⟩ := vx_keep h0 e1 hS hA hf hL hF
    obtain ⟨t2, a1, b1⟩ := kk r u t T'.heap (locs ++ L) e1.symm (by rw [← e2]; exact X'.warmed.alike) hp hb k1 k2 k3 T' rfl X'
    exact ⟨t2, st t2 a1, b1⟩
  · obtain ⟨k1, k2, k3⟩ := vx_keep h0 e1 hS hAX hf hL hF
    obtain ⟨t2, a1, b1⟩ := kx E ce q u t T'.heap (locs ++ L) e1.symm (by rw [← e2]; exact X'.warmed.alike) hp hb k1 k2 k3 (by rw [e1]; exact hce) hcv hcl T' rfl X'
    exact ⟨t2, st.trans a1, b1⟩
theorem vx_calld {S SX : Type} {post : UInt64 → S → Prop} {px : SX → Prop} {B : S → State → Prop} {BX : String → SX → State → Prop} {AX : Nat → Prop} (hr : vx_Run p l e R s m args below meth c H locs cells slots mc ms (F0 m pc ls st0) rest (va_Qd post B A1 a) (vx_X px BX AX) free) (hS : va_S A0 H0 H locs) (hA : ∀ q, q < H.size → A1 q → A0 q) (hf : ∀ q, free q → A0 q) (hAX : ∀ q, q < H.size → AX q → A0 q)
    (kx : ∀ (E : String) (ce : Cell) (q9 : Addr) (u : SX) (t : State) (H1 : Heap) (locs1 : List Loc), t.heap = H1 → s.vm.Alike t.vm → px u → BX E u t → H.size ≤ H1.size → (∀ q : Nat, q < H.size → ¬ AX q → H1[q]? = H[q]?) → va_S A0 H0 H1 locs1 → H1[q9]? = some ce → ce.vm = .none → s.vm.findClass E = some ce.cls → vx_W p l e R s m args below meth c H1 locs1 (cells + mc) (slots + ms) Q (F0 m pc ls rest) q9)
    (kk : ∀ (r : UInt64) (u : S) (t : State) (H1 : Heap) (locs1 : List Loc), t.heap = H1 → s.vm.Alike t.vm → post r u → B u t → H.size ≤ H1.size → (∀ q : Nat, q < H.size → ¬ A1 q → H1[q]? = H[q]?) → va_S A0 H0 H1 locs1 → W p l e R s m args below meth c H1 locs1 (cells + mc) (slots + ms) Q (F0 m (pc + 3) ls (.double r :: rest))) : W p l e R s m args below meth c H locs cells slots Q (F0 m pc ls st0) := by
  intro T hT X
  rcases hr T hT X with ⟨v, st₀, t, T', L, h0, X', hL, e1, e2, ⟨⟨r, u, hv, hp, hb⟩, hF⟩, st⟩ | ⟨q, st₀, t, T', L, E, ce, h0, X', hL, e1, e2, ⟨u, hp, hb, hF⟩, hce, hcv, hcl, st⟩
  · cases hv
    obtain ⟨k1, k2, k3⟩ := vx_keep h0 e1 hS hA hf hL hF
    obtain ⟨t2, a1, b1⟩ := kk r u t T'.heap (locs ++ L) e1.symm (by rw [← e2]; exact X'.warmed.alike) hp hb k1 k2 k3 T' rfl X'
    exact ⟨t2, st t2 a1, b1⟩
  · obtain ⟨k1, k2, k3⟩ := vx_keep h0 e1 hS hAX hf hL hF
    obtain ⟨t2, a1, b1⟩ := kx E ce q u t T'.heap (locs ++ L) e1.symm (by rw [← e2]; exact X'.warmed.alike) hp hb k1 k2 k3 (by rw [e1]; exact hce) hcv hcl T' rfl X'
    exact ⟨t2, st.trans a1, b1⟩
theorem vx_callv {S SX : Type} {post : S → Prop} {px : SX → Prop} {B : S → State → Prop} {BX : String → SX → State → Prop} {AX : Nat → Prop} (hr : vx_Run p l e R s m args below meth c H locs cells slots mc ms (F0 m pc ls st0) rest (va_Qv post B A1 a) (vx_X px BX AX) free) (hS : va_S A0 H0 H locs) (hA : ∀ q, q < H.size → A1 q → A0 q) (hf : ∀ q, free q → A0 q) (hAX : ∀ q, q < H.size → AX q → A0 q)
    (kx : ∀ (E : String) (ce : Cell) (q9 : Addr) (u : SX) (t : State) (H1 : Heap) (locs1 : List Loc), t.heap = H1 → s.vm.Alike t.vm → px u → BX E u t → H.size ≤ H1.size → (∀ q : Nat, q < H.size → ¬ AX q → H1[q]? = H[q]?) → va_S A0 H0 H1 locs1 → H1[q9]? = some ce → ce.vm = .none → s.vm.findClass E = some ce.cls → vx_W p l e R s m args below meth c H1 locs1 (cells + mc) (slots + ms) Q (F0 m pc ls rest) q9)
    (kk : ∀ (u : S) (t : State) (H1 : Heap) (locs1 : List Loc), t.heap = H1 → s.vm.Alike t.vm → post u → B u t → H.size ≤ H1.size → (∀ q : Nat, q < H.size → ¬ A1 q → H1[q]? = H[q]?) → va_S A0 H0 H1 locs1 → W p l e R s m args below meth c H1 locs1 (cells + mc) (slots + ms) Q (F0 m (pc + 3) ls (rest))) : W p l e R s m args below meth c H locs cells slots Q (F0 m pc ls st0) := by
  intro T hT X
  rcases hr T hT X with ⟨v, st₀, t, T', L, h0, X', hL, e1, e2, ⟨⟨u, hv, hp, hb⟩, hF⟩, st⟩ | ⟨q, st₀, t, T', L, E, ce, h0, X', hL, e1, e2, ⟨u, hp, hb, hF⟩, hce, hcv, hcl, st⟩
  · cases hv
    obtain ⟨k1, k2, k3⟩ := vx_keep h0 e1 hS hA hf hL hF
    obtain ⟨t2, a1, b1⟩ := kk u t T'.heap (locs ++ L) e1.symm (by rw [← e2]; exact X'.warmed.alike) hp hb k1 k2 k3 T' rfl X'
    exact ⟨t2, st t2 a1, b1⟩
  · obtain ⟨k1, k2, k3⟩ := vx_keep h0 e1 hS hAX hf hL hF
    obtain ⟨t2, a1, b1⟩ := kx E ce q u t T'.heap (locs ++ L) e1.symm (by rw [← e2]; exact X'.warmed.alike) hp hb k1 k2 k3 (by rw [e1]; exact hce) hcv hcl T' rfl X'
    exact ⟨t2, st.trans a1, b1⟩
/-- caught by the row x of this method's table; the rows ahead don't take it -/
theorem vx_catch {own name : String} {E : String} {ce : Cell} {q : Addr} (hown : s.vm.findClass own = some m.cls) (pre : List ExceptionTableEntry) (x : ExceptionTableEntry) (suf : List ExceptionTableEntry) (hsplit : c.exceptionTable.toList = pre ++ x :: suf)
    (hpass : ∀ z ∈ pre, covers z pc = false ∨ (z.catchType ≠ 0 ∧ ∃ nm : String, (Cond.classLink own z.catchType nm).before args s = true ∧ va_Nc E nm s)) (hx : covers x pc = true) (h0 : x.catchType ≠ 0)
    (hlink : (Cond.classLink own x.catchType name).before args s = true) (hcast : (Cond.castable E name).before args s = true) (hcell : H[q]? = some ce) (hv : ce.vm = .none) (hcl : s.vm.findClass E = some ce.cls)
    (kk : W p l e R s m args below meth c H locs cells slots Q (F0 m x.handlerPc ls [.ref q])) : vx_W p l e R s m args below meth c H locs cells slots Q (F0 m pc ls rest) q := by
  intro T hT X
  have hpl : e.platform.magicAccessors = ({} : Platform).magicAccessors := by rw [X.admits.platform]
  obtain ⟨c3, c4, hc3, hc4, hasg⟩ := Cond.castable_spec hcast
  cases Option.some.inj (hc3.symm.trans hcl)
  obtain ⟨c5, hc5, hcl5⟩ := Cond.classLink_spec hown hlink e.platform hpl
  cases Option.some.inj (hc4.symm.trans hc5)
  obtain ⟨vm', X', st⟩ := X.thenCaughtThrough q (g := F0 m pc ls rest) rfl (Steps.refl _) (by rw [hT]; exact hcell) (by rw [hv]; rfl) (by obtain ⟨k9, h9, -⟩ := Vm.findClass_spec hcl; exact ⟨k9, h9⟩) pre x suf hsplit
    (fun z hz => by
      rcases hpass z hz with h | ⟨hz0, nm, hl1, hn1⟩
      · exact Or.inl h
      · obtain ⟨c6, hc6, hcl6⟩ := Cond.classLink_spec hown hl1 e.platform hpl
        obtain ⟨a8, b8, h1, h2, h3⟩ := hn1
        cases Option.some.inj (h1.symm.trans hcl)
        cases Option.some.inj (h2.symm.trans hc6)
        exact Or.inr ⟨hz0, _, hcl6, h3⟩) hx (Or.inr ⟨h0, c4, hcl5, hasg⟩)
  obtain ⟨t, a1, b1⟩ := kk (T.setVm vm') hT X'
  exact ⟨t, st.trans a1, b1⟩
end Rows
section Ends
variable {p : Program} {l : Launch} {e : Env} {R : Room} {s : State} {m : MethodId} {args : Array Value} {below : List Frame} {meth : Method} {c : Code} {H : Heap} {locs : List Loc} {cells slots : Nat} {Q : State → Prop}
variable {mc ms : Nat} {free : Addr → Prop} {A0 A1 : Nat → Prop} {H0 : Heap} {a : Array Value} {ls : Array Slot} {st0 rest : List Value}
variable {Qc : Array Value → State → Outcome → State → Prop} {XC : String → State → State → Prop}
/-- what a body that may throw owes at its end -/
def vx_MQ (below : List Frame) (Qc : Array Value → State → Outcome → State → Prop) (XC : String → State → State → Prop) (a : Array Value) (s : State) (mc ms : Nat) (free : Addr → Prop) : State → Prop := fun t =>
  ∃ o, t.status = .running ∧ Ended t below o ∧ vx_Q Qc XC mc ms free a s o t
theorem vx_ret {g : JFrame} {mc ms : Nat} (k : W p l e R s m args below meth c H locs cells slots (MQ below Qc args s mc ms free) g) : W p l e R s m args below meth c H locs cells slots (vx_MQ below Qc XC args s mc ms free) g := by
  intro T hT X
  obtain ⟨t, a1, o, b1, b2, b3, b4⟩ := k T hT X
  exact ⟨t, a1, o, b1, b2, Or.inl ⟨b3, b4⟩⟩
/-- not caught here: it goes on to the caller -/
theorem vx_widen {g : JFrame} {q : Addr} {k n : Nat} (h1 : cells ≤ k) (h2 : slots ≤ n) (kk : vx_W p l e R s m args below meth c H locs k n Q g q) : vx_W p l e R s m args below meth c H locs cells slots Q g q := fun T hT X => kk T hT (stand_widen X h1 h2)
theorem vx_out {pc : Nat} {E : String} {ce : Cell} {q : Addr} {mc ms : Nat} (hout : ∀ x ∈ c.exceptionTable.toList, covers x pc = false) (hlocks : meth.locks = false) (hcell : H[q]? = some ce) (hv : ce.vm = .none) (hcl : s.vm.findClass E = some ce.cls)
    (hx : ∀ t : State, t.heap = H → s.vm.Alike t.vm → XC E s t) (hf : ∀ z ∈ locs, free z.base) (hc : cells ≤ mc) (hs : slots ≤ ms) :
    vx_W p l e R s m args below meth c H locs cells slots (vx_MQ below Qc XC args s mc ms free) (F0 m pc ls rest) q := by
  intro T hT X
  obtain ⟨st1, hrun, hend, hW, hsm⟩ := X.leaveThrown q (g := F0 m pc ls rest) rfl rfl rfl hout hlocks
  have hcell9 : (T.setFrames (.throwing q :: below)).heap[q]? = some ce := by
    show T.heap[q]? = some ce
    rw [hT]; exact hcell
  exact ⟨_, st1, .threw q, hrun, hend, Or.inr ⟨q, rfl, E, ce, locs, hx _ hT hW.alike, hcell9, hv, hcl, hW, hsm.mono hc hs, hf⟩⟩
theorem vx_frame {U : State} {k n : Nat} (h : s.sameButNew ({ U with vm := s.vm } : State) locs k n) : s.heap.size ≤ U.heap.size ∧ ∀ q : Nat, q < s.heap.size → (∀ z ∈ locs, z.base ≠ q) → U.heap[q]? = s.heap[q]? := by
  obtain ⟨-, h2, -, -, -, h6⟩ := h
  refine ⟨h2, fun q hq hz => ?_⟩
  obtain ⟨c9, e1, e2, e3, e4⟩ := h6 q _ (Array.getElem?_eq_getElem hq)
  have hs : c9.slots = (s.heap[q]).slots := Array.ext_getElem? fun i => e4 i fun hm => hz _ hm rfl
  have h9 : c9 = s.heap[q] := by
    rw [hs] at e2
    exact e2
  have e5 : U.heap[q]? = some c9 := e1
  rw [e5, h9, Array.getElem?_eq_getElem hq]
/-- the words of a throw but the four that speak of the heap -/
def vx_no (w : Cond) : Bool := decide (w ≠ .isRef (.static Bundle.tN "UNASSIGNED_STACK" Bundle.steD)) && decide (w ≠ .isRef (.static Bundle.tN "SUPPRESSED_SENTINEL" Bundle.listD)) && decide (w ≠ .laysStatic Bundle.tN "UNASSIGNED_STACK" Bundle.steD) && decide (w ≠ .laysStatic Bundle.tN "SUPPRESSED_SENTINEL" Bundle.listD)
def vx_at0 (own : String) (ic : Nat) (X : String) (names : List String) : List Cond := (Bundle.ownAtoms0 own ic X names).filter vx_no
def vx_atS (own : String) (ic : Nat) (X : String) (names : List String) : List Cond := (Bundle.ownAtoms own ic X names).filter vx_no
/-- a word that the tables alone decide, or a good one -/
def vx_ot (w : Cond) : Bool := w.onTables || goodWord w
theorem vx_ot_at {args a' : Array Value} {s U : State} {w : Cond} (hW : s.WarmedH U.vm) (hvm : s.vm = U.vm) (hg : vx_ot w = true) (h : w.before args s = true) : w.before a' U = true := by
  simp only [vx_ot, Bool.or_eq_true] at hg
  rcases hg with hg | hg
  · exact va_tabs hg hvm h
  · exact word_at hW (good_of_word hg) h
/-- a list's words: the good ones out of the method's own list, the others by premises of their own -/
theorem vx_hat {args : Array Value} {s : State} {L B : List Cond} (h1 : ∀ w ∈ L.filter goodWord, w.before args s = true) (h2 : ∀ w ∈ L.filter (fun w => !goodWord w), w ∈ B) (h3 : ∀ w ∈ B, w.before args s = true) : ∀ w ∈ L, w.before args s = true := by
  intro w hw
  by_cases g : goodWord w = true
  · exact h1 w (List.mem_filter.mpr ⟨hw, g⟩)
  · refine h3 w (h2 w (List.mem_filter.mpr ⟨hw, ?_⟩))
    show (!goodWord w) = true
    cases hgw : goodWord w
    · rfl
    · exact absurd hgw g
theorem vx_c {args : Array Value} {s : State} {w : Cond} {B : List Cond} (h : w.before args s = true) (t : ∀ w ∈ B, w.before args s = true) : ∀ w' ∈ w :: B, w'.before args s = true := fun w' h' => (List.mem_cons.mp h').elim (fun e => by rw [e]; exact h) (t w')
theorem vx_n {args : Array Value} {s : State} : ∀ w ∈ ([] : List Cond), w.before args s = true := fun _ h => nomatch h
theorem vx_own {args : Array Value} {s : State} {L : List Cond} (h1 : ∀ w ∈ L.filter vx_no, w.before args s = true)
    (hU : (Cond.isRef (.static Bundle.tN "UNASSIGNED_STACK" Bundle.steD)).before args s = true) (hN : (Cond.isRef (.static Bundle.tN "SUPPRESSED_SENTINEL" Bundle.listD)).before args s = true)
    (lU : (Cond.laysStatic Bundle.tN "UNASSIGNED_STACK" Bundle.steD).before args s = true) (lN : (Cond.laysStatic Bundle.tN "SUPPRESSED_SENTINEL" Bundle.listD).before args s = true) : ∀ w ∈ L, w.before args s = true := by
  intro w hw
  by_cases e1 : w = .isRef (.static Bundle.tN "UNASSIGNED_STACK" Bundle.steD)
  · rw [e1]; exact hU
  · by_cases e2 : w = .isRef (.static Bundle.tN "SUPPRESSED_SENTINEL" Bundle.listD)
    · rw [e2]; exact hN
    · by_cases e3 : w = .laysStatic Bundle.tN "UNASSIGNED_STACK" Bundle.steD
      · rw [e3]; exact lU
      · by_cases e4 : w = .laysStatic Bundle.tN "SUPPRESSED_SENTINEL" Bundle.listD
        · rw [e4]; exact lN
        · exact h1 w (List.mem_filter.mpr ⟨hw, by unfold vx_no; rw [decide_eq_true e1, decide_eq_true e2, decide_eq_true e3, decide_eq_true e4]; rfl⟩)
/-- where a static field lies, its class's statics cell in H -/
def vx_L (C n d : String) (A : Nat → Prop) (U : State) (H : Heap) : Prop := ∃ (c : ClassId) (k : Class) (i : Nat) (f : Field) (a : Nat) (cell : Cell), U.vm.findClass C = some c ∧ U.fieldFound? C n d = some (c, k, i, f) ∧ f.isStatic = true ∧ k.statics = some a ∧ H[a]? = some cell ∧ cell.vm.isStatics = true ∧ cell.cls = c ∧ f.slot < cell.slots.size ∧ k.staticTypes[f.slot]? = some f.type ∧ ¬ A a
theorem vx_L.moved {C n d : String} {A : Nat → Prop} {u U : State} {H : Heap} (hvm : u.vm.Alike U.vm) (h : vx_L C n d A u H) : vx_L C n d A U H := by
  obtain ⟨c, k, i, f, a, cell, h1, h2, h3, h4, h5, h6, h7, h8, h9, h10⟩ := h
  obtain ⟨k', hi', he⟩ := State.fieldFound?_setVm hvm h2
  exact ⟨c, k', i, f, a, cell, by rw [hvm.findClass]; exact h1, hi', h3, by rw [he]; exact h4, h5, h6, h7, h8, by rw [he]; exact h9, h10⟩
theorem vx_L.kept {C n d : String} {A : Nat → Prop} {U : State} {H H1 : Heap} (h : vx_L C n d A U H) (hq : ∀ a : Nat, a < H.size → ¬ A a → H1[a]? = H[a]?) : vx_L C n d A U H1 := by
  obtain ⟨c, k, i, f, a, cell, h1, h2, h3, h4, h5, h6, h7, h8, h9, h10⟩ := h
  exact ⟨c, k, i, f, a, cell, h1, h2, h3, h4, by rw [hq a (Array.getElem?_eq_some_iff.mp h5).1 h10]; exact h5, h6, h7, h8, h9, h10⟩
theorem vx_L.narrow {C n d : String} {A B : Nat → Prop} {U : State} {H : Heap} (h : vx_L C n d A U H) (hAB : ∀ q, B q → A q) : vx_L C n d B U H := by
  obtain ⟨c, k, i, f, a, cell, h1, h2, h3, h4, h5, h6, h7, h8, h9, h10⟩ := h
  exact ⟨c, k, i, f, a, cell, h1, h2, h3, h4, h5, h6, h7, h8, h9, fun z => h10 (hAB _ z)⟩
theorem vx_L.word {C n d : String} {A : Nat → Prop} {s : State} {args : Array Value} (h : vx_L C n d A s s.heap) : (Cond.laysStatic C n d).before args s = true := by
  obtain ⟨c, k, i, f, a, cell, h1, h2, h3, h4, h5, h6, h7, h8, h9, -⟩ := h
  show (Cond.laysStatic C n d).holds args s none s [] = true
  exact Cond.laysStatic_of h1 h2 h3 h4 h5 h6 h7 h8 h9
/-- .. and what it holds: null or some reference -/
def vx_Zq (C n d : String) (A : Nat → Prop) (U : State) (H : Heap) : Prop := va_Zq C n d A U H ∧ vx_L C n d A U H
theorem vx_Zq.moved {C n d : String} {A : Nat → Prop} {u U : State} {H : Heap} (hvm : u.vm.Alike U.vm) (h : vx_Zq C n d A u H) : vx_Zq C n d A U H := ⟨va_Zq.moved hvm h.1, vx_L.moved hvm h.2⟩
theorem vx_Zq.kept {C n d : String} {A : Nat → Prop} {U : State} {H H1 : Heap} (h : vx_Zq C n d A U H) (hq : ∀ a : Nat, a < H.size → ¬ A a → H1[a]? = H[a]?) : vx_Zq C n d A U H1 := ⟨va_Zq.kept h.1 hq, vx_L.kept h.2 hq⟩
theorem vx_Zq.narrow {C n d : String} {A B : Nat → Prop} {U : State} {H : Heap} (h : vx_Zq C n d A U H) (hAB : ∀ q, B q → A q) : vx_Zq C n d B U H := ⟨va_Zq.narrow h.1 hAB, vx_L.narrow h.2 hAB⟩
theorem vx_Zqof {args : Array Value} {s : State} {C n d : String} {A : Nat → Prop} (hl : (Cond.laysStatic C n d).before args s = true) (hini : (Cond.initialized C).before args s = true) (h : (Cond.isRef (.static C n d)).before args s = true) (hA : ∀ a : Nat, a < s.heap.size → ¬ A a) : vx_Zq C n d A s s.heap := by
  refine ⟨va_Zqof hl hini h hA, ?_⟩
  obtain ⟨c, k, i, f, a, cell, h1, h2, h3, h4, h5, h6, h7, h8, h9⟩ := Cond.laysStatic_spec hl
  exact ⟨c, k, i, f, a, cell, h1, h2, h3, h4, h5, h6, h7, h8, h9, hA a (Array.getElem?_eq_some_iff.mp h5).1⟩
theorem vx_isRef {C n d : String} {v : Value} {A : Nat → Prop} {s : State} {args : Array Value} (h : va_Z C n d v A s s.heap) (hv : v.isRef = true) : (Cond.isRef (.static C n d)).before args s = true := by
  obtain ⟨cf, kf, fi, f, a, cell, h1, h2, h3, h4, h5, h6, h7, -⟩ := h
  have he : (Term.static C n d).eval args s none [] s = some v := by
    simp [Term.eval, State.fieldNamed?, h1, h2, h4, h5, h6, h7]
  simp only [Cond.before, Cond.holds, Cond.value, he]
  cases v <;> simp_all [Value.isRef]
theorem vx_isRefq {C n d : String} {A : Nat → Prop} {s : State} {args : Array Value} (h : va_Zq C n d A s s.heap) : (Cond.isRef (.static C n d)).before args s = true := by
  rcases h with h | ⟨t, h⟩
  · exact vx_isRef h rfl
  · exact vx_isRef h rfl
/-- the same frame, seen from here: as if the method were called anew in this heap -/
theorem vx_rebase {T : State} (X : Stand p l e R s m args below meth c T locs cells slots) {R' : Room} (hf : R'.frames ≤ R.frames) (hl : R'.locals ≤ R.locals) (hc : cells + R'.cells ≤ R.cells) (hs : slots + R'.slots ≤ R.slots) :
    Stand p l e R' ((T.setVm s.vm).setFrames (.invoking m args :: below)) m args below meth c T [] 0 0 := by
  have htop : (T.setVm s.vm).topJava?.isSome := X.here.top
  have hF : ((T.setVm s.vm).setFrames (.invoking m args :: below)).frames = .invoking m args :: below := State.frames_setFrames _ (State.cur_lt_of_top htop)
  obtain ⟨g₀, hg0⟩ := Option.isSome_iff_exists.mp htop
  obtain ⟨r, hr⟩ := State.topJava?_eq_some.mp hg0
  have hl9 : e.platform.stackLimits (T.setVm s.vm).me = e.platform.stackLimits s.me := X.limits
  have hb9 : (T.setVm s.vm).me.stackBytes = s.me.stackBytes := X.bytes
  refine ⟨X.admits, X.cas, X.clock, hF, ?_, X.hears, X.method, X.code, X.here, X.tail, X.warmed, ?_, ?_, ?_⟩
  · have h := X.room
    have hU : ((T.setVm s.vm).setFrames (.invoking m args :: below)).localsInUse = s.localsInUse := by
      rw [State.localsInUse_invoking hF (meth := meth) (c := c) X.method X.code, State.localsInUse_invoking X.frames X.method X.code]
    simp only [State.hasRoom, Bool.and_eq_true, decide_eq_true_eq] at h ⊢
    obtain ⟨⟨⟨⟨h1, h2, h3, h4, h5, h6⟩, h7⟩, h8⟩, h9⟩ := h
    rw [X.frames, List.length_cons] at h2 h3
    have q1 := X.heapSize
    have q2 := X.used
    simp only [hF, hU, List.length_cons, State.stackLimits_setFrames, State.stackBytes_setFrames, hl9, hb9]
    refine ⟨⟨⟨⟨by omega, by omega, by omega, by omega, by omega, h6⟩, ?_⟩, ?_⟩, X.book⟩
    · show T.heap.size + R'.cells ≤ e.platform.maxCells
      omega
    · show T.slotsUsed + R'.slots ≤ e.platform.maxSlots
      omega
  · rw [State.stackLimits_setFrames]; rfl
  · rw [State.stackBytes_setFrames]; rfl
  · refine ⟨?_, Nat.le_refl _, Nat.le_refl _, ?_, ?_, fun a c9 h9 => ⟨c9, h9, rfl, rfl, fun _ _ => rfl⟩⟩
    · obtain ⟨t, ht, -⟩ := State.frames_cons hr
      show T.setVm s.vm = { ((T.setVm s.vm).setFrames (.invoking m args :: below)).setFrames (T.setVm s.vm).frames with heap := T.heap, slotsUsed := T.slotsUsed }
      rw [State.setFrames_setFrames, State.setFrames_self ht]
      rfl
    · show T.slotsUsed = T.slotsUsed + ((T.heap.toList.drop T.heap.size).map (·.slots.size)).sum
      rw [List.drop_eq_nil_of_le (Nat.le_of_eq Array.length_toList)]
      rfl
    · show ((T.heap.toList.drop T.heap.size).map (·.slots.size)).sum ≤ 0
      rw [List.drop_eq_nil_of_le (Nat.le_of_eq Array.length_toList)]
      exact Nat.le_refl _
/-- 'throw new E()': new; dup; invokespecial; athrow -/
theorem vx_throw0 {cc : ByteArray} {pc : Nat} (hexec : p.tables.exec = Jvm.exec) (hb : c.code = cc) (hl : l.stackTraces = false) {own cls : String} {names : List String} {ik ic mc ms : Nat} {A : Nat → Prop}
    (hown : s.vm.findClass own = some m.cls) (hcls : Bundle.fit cls = true) (hnames : ∀ n ∈ names, Bundle.fit n = true)
    (hk : (Cond.classLink own ik cls).before args s = true) (hini : (Cond.initialized cls).before args s = true) (hat : ∀ w ∈ vx_at0 own ic cls names, w.before args s = true)
    (hgood : ∀ w ∈ Cond.classLink own ik cls :: Cond.initialized cls :: vx_at0 own ic cls names, vx_ot w = true)
    (hU : vx_Zq Bundle.tN "UNASSIGNED_STACK" Bundle.steD A s s.heap) (hN : vx_Zq Bundle.tN "SUPPRESSED_SENTINEL" Bundle.listD A s s.heap) (hS : va_S A s.heap H locs) (hsize : ls.size = c.maxLocals)
    (d0 : decode cc pc = .ok (.new ik, 3)) (d3 : decode cc (pc + 3) = .ok (.dup, 1)) (d4 : decode cc (pc + 4) = .ok (.invokespecial ic, 3)) (d7 : decode cc (pc + 7) = .ok (.athrow, 1))
    (hout : ∀ x ∈ c.exceptionTable.toList, covers x (pc + 7) = false)
    (hRframes : names.length + 3 < R.frames) (hRlocals : (rest.map fun v => v.category).sum + (13 * (names.length + 1) + 42) ≤ R.locals) (hRcells : cells + 1 ≤ R.cells) (hRslots : slots + 6 ≤ R.slots) (hlocks : meth.locks = false)
    (hx : ∀ t : State, s.vm.Alike t.vm → H.size ≤ t.heap.size → (∀ q : Nat, q < H.size → t.heap[q]? = H[q]?) → XC cls s t)
    (hf : ∀ z ∈ locs, free z.base) (hc : cells + 1 ≤ mc) (hs : slots + 6 ≤ ms) :
    W p l e R s m args below meth c H locs cells slots (vx_MQ below Qc XC args s mc ms free) (F0 m pc ls rest) := by
  intro T hT X
  have htr : e.platform.stackTraces = false := (show e.platform.stackTraces = l.stackTraces by rw [X.admits.platform]).trans hl
  have Y := vx_rebase X (R' := { frames := R.frames, locals := R.locals, cells := 1, slots := 6 }) (Nat.le_refl _) (Nat.le_refl _) hRcells hRslots
  obtain ⟨s', hA⟩ : ∃ z, z = (T.setVm s.vm).setFrames (.invoking m args :: below) := ⟨_, rfl⟩
  rw [← hA] at Y
  have hvm : s'.vm = s.vm := by rw [hA]; rfl
  have hhp : s'.heap = H := by rw [hA]; exact hT
  have hW0 : s.WarmedH s'.vm := by rw [hvm]; exact State.WarmedH.refl s
  have hat' : ∀ w ∈ vx_at0 own ic cls names, w.before args s' = true := fun w hw => vx_ot_at hW0 hvm.symm (hgood w (List.mem_cons_of_mem _ (List.mem_cons_of_mem _ hw))) (hat w hw)
  have hk' : (Cond.classLink own ik cls).before args s' = true := vx_ot_at hW0 hvm.symm (hgood _ List.mem_cons_self) hk
  have hini' : (Cond.initialized cls).before args s' = true := vx_ot_at hW0 hvm.symm (hgood _ (List.mem_cons_of_mem _ List.mem_cons_self)) hini
  have hU' : vx_Zq Bundle.tN "UNASSIGNED_STACK" Bundle.steD A s' s'.heap := by rw [hhp]; exact vx_Zq.moved hW0.alike (hU.kept hS.2.1)
  have hN' : vx_Zq Bundle.tN "SUPPRESSED_SENTINEL" Bundle.listD A s' s'.heap := by rw [hhp]; exact vx_Zq.moved hW0.alike (hN.kept hS.2.1)
  have h : ∀ w ∈ Bundle.ownAtoms0 own ic cls names, w.before args s' = true := vx_own hat' (vx_isRefq hU'.1) (vx_isRefq hN'.1) hU'.2.word hN'.2.word
  have hown' : s'.vm.findClass own = some m.cls := by rw [hvm]; exact hown
  have hins : (Cond.instantiable cls 6).before args s' = true := h _ (by simp [Bundle.ownAtoms0])
  obtain ⟨vm₁, cX, kX, hfX, hkX, -, -, X₁, st1⟩ := Y.newCold hexec (own := own) (C := cls) (index := ik) (n := 6) hown' hk' hins hini'
    (g := F0 m pc ls rest) rfl (by rw [hb]; exact d0) (Nat.le_refl _) (Nat.le_refl _)
  generalize hT1 : (T.setVm vm₁).pushCell { cls := cX, slots := kX.instanceTypes.map defaultValue, vm := .none } = T1 at X₁ st1
  have hcat : (Value.ref T.heap.size).category = 1 := rfl
  have hcellA : T1.heap[T.heap.size]? = some (freshCell cX kX) := by rw [← hT1]; exact State.heap_pushCell_size _ _
  have d3' : decode c.code (pc + 3) = .ok (.dup, 1) := by rw [hb]; exact d3
  obtain ⟨U, hsteps, hrun, hend, hW, hsame, ce, hce, hO⟩ := X₁.ctorThrow0 hexec htr (own := own) (cls := cls) (names := names) (ic := ic) hown' hcls hnames h (fun x hx => nomatch hx) hfX hkX hcellA (by rw [hhp, hT]; exact Nat.le_refl _)
    (g := { method := m, pc := pc + 4, locals := ls, stack := .ref T.heap.size :: .ref T.heap.size :: rest, locked := none }) rfl hsize rfl rfl (rest := rest) rfl
    (by rw [hb]; exact d4) (by rw [hb]; exact d7) hout hRframes (by simp only [List.map_cons, List.sum_cons, hcat]; omega) hlocks
  obtain ⟨f1, f2⟩ := vx_frame hsame
  rw [hhp] at f1 f2
  have hWs : s.WarmedH U.vm := State.WarmedH.trans hW0 hW
  have hcl : s.vm.findClass cls = some ce.cls := by
    have h9 := hO.cls
    rw [hvm] at h9
    exact h9
  have hall : s.sameButNew ({ U with vm := s.vm } : State) locs mc ms := by
    subst hA
    obtain ⟨e1, e2⟩ := hsame
    rw [State.setFrames_setFrames] at e1
    have h2 : (T.setVm s.vm).sameButNew ({ U with vm := s.vm } : State) [] (0 + 1) (0 + 6) := ⟨e1, e2⟩
    have h3 := X.same.trans h2
    rw [List.append_nil] at h3
    exact h3.mono hc hs
  refine ⟨U, ?_, .threw T.heap.size, hrun, hend, Or.inr ⟨T.heap.size, rfl, cls, ce, locs, hx U hWs.alike f1 (fun q hq => f2 q hq (fun z hz => nomatch hz)), hce, hO.vm, hcl, hWs, hall, hf⟩⟩
  refine st1 _ ?_
  show Steps p.tables e below (T1.setTop { method := m, pc := pc + 3, locals := ls, stack := .ref T.heap.size :: rest, locked := none }) _
  jvm_step X₁.here [X₁.here.top, hexec, d3', Value.category]
  exact hsteps
/-- 'throw new E("text")': new; dup; ldc; invokespecial; athrow -/
theorem vx_throwS {cc : ByteArray} {pc : Nat} (hexec : p.tables.exec = Jvm.exec) (hb : c.code = cc) (hl : l.stackTraces = false) {own cls text : String} {names : List String} {ik is ic mc ms sa : Nat} {A : Nat → Prop}
    (hown : s.vm.findClass own = some m.cls) (hcls : Bundle.fit cls = true) (hnames : ∀ n ∈ names, Bundle.fit n = true)
    (hk : (Cond.classLink own ik cls).before args s = true) (hini : (Cond.initialized cls).before args s = true) (hstr : vk_R own is text sa s) (hat : ∀ w ∈ vx_atS own ic cls names, w.before args s = true)
    (hgood : ∀ w ∈ Cond.classLink own ik cls :: Cond.initialized cls :: vx_atS own ic cls names, vx_ot w = true)
    (hU : vx_Zq Bundle.tN "UNASSIGNED_STACK" Bundle.steD A s s.heap) (hN : vx_Zq Bundle.tN "SUPPRESSED_SENTINEL" Bundle.listD A s s.heap) (hS : va_S A s.heap H locs) (hsize : ls.size = c.maxLocals)
    (d0 : decode cc pc = .ok (.new ik, 3)) (d3 : decode cc (pc + 3) = .ok (.dup, 1)) (d4 : decode cc (pc + 4) = .ok (.ldc is, 2)) (d6 : decode cc (pc + 6) = .ok (.invokespecial ic, 3)) (d9 : decode cc (pc + 9) = .ok (.athrow, 1))
    (hout : ∀ x ∈ c.exceptionTable.toList, covers x (pc + 9) = false)
    (hRframes : names.length + 3 < R.frames) (hRlocals : (rest.map fun v => v.category).sum + (13 * (names.length + 1) + 43) ≤ R.locals) (hRcells : cells + 1 ≤ R.cells) (hRslots : slots + 6 ≤ R.slots) (hlocks : meth.locks = false)
    (hx : ∀ t : State, s.vm.Alike t.vm → H.size ≤ t.heap.size → (∀ q : Nat, q < H.size → t.heap[q]? = H[q]?) → XC cls s t)
    (hf : ∀ z ∈ locs, free z.base) (hc : cells + 1 ≤ mc) (hs : slots + 6 ≤ ms) :
    W p l e R s m args below meth c H locs cells slots (vx_MQ below Qc XC args s mc ms free) (F0 m pc ls rest) := by
  intro T hT X
  have htr : e.platform.stackTraces = false := (show e.platform.stackTraces = l.stackTraces by rw [X.admits.platform]).trans hl
  have Y := vx_rebase X (R' := { frames := R.frames, locals := R.locals, cells := 1, slots := 6 }) (Nat.le_refl _) (Nat.le_refl _) hRcells hRslots
  obtain ⟨s', hA⟩ : ∃ z, z = (T.setVm s.vm).setFrames (.invoking m args :: below) := ⟨_, rfl⟩
  rw [← hA] at Y
  have hvm : s'.vm = s.vm := by rw [hA]; rfl
  have hhp : s'.heap = H := by rw [hA]; exact hT
  have hW0 : s.WarmedH s'.vm := by rw [hvm]; exact State.WarmedH.refl s
  have hat' : ∀ w ∈ vx_atS own ic cls names, w.before args s' = true := fun w hw => vx_ot_at hW0 hvm.symm (hgood w (List.mem_cons_of_mem _ (List.mem_cons_of_mem _ hw))) (hat w hw)
  have hk' : (Cond.classLink own ik cls).before args s' = true := vx_ot_at hW0 hvm.symm (hgood _ List.mem_cons_self) hk
  have hini' : (Cond.initialized cls).before args s' = true := vx_ot_at hW0 hvm.symm (hgood _ (List.mem_cons_of_mem _ List.mem_cons_self)) hini
  have hU' : vx_Zq Bundle.tN "UNASSIGNED_STACK" Bundle.steD A s' s'.heap := by rw [hhp]; exact vx_Zq.moved hW0.alike (hU.kept hS.2.1)
  have hN' : vx_Zq Bundle.tN "SUPPRESSED_SENTINEL" Bundle.listD A s' s'.heap := by rw [hhp]; exact vx_Zq.moved hW0.alike (hN.kept hS.2.1)
  have h : ∀ w ∈ Bundle.ownAtoms own ic cls names, w.before args s' = true := vx_own hat' (vx_isRefq hU'.1) (vx_isRefq hN'.1) hU'.2.word hN'.2.word
  have hown' : s'.vm.findClass own = some m.cls := by rw [hvm]; exact hown
  have hins : (Cond.instantiable cls 6).before args s' = true := h _ (by simp [Bundle.ownAtoms])
  obtain ⟨vm₁, cX, kX, hfX, hkX, -, -, X₁, st1⟩ := Y.newCold hexec (own := own) (C := cls) (index := ik) (n := 6) hown' hk' hins hini'
    (g := F0 m pc ls rest) rfl (by rw [hb]; exact d0) (Nat.le_refl _) (Nat.le_refl _)
  generalize hT1 : (T.setVm vm₁).pushCell { cls := cX, slots := kX.instanceTypes.map defaultValue, vm := .none } = T1 at X₁ st1
  have hcat : (Value.ref T.heap.size).category = 1 := rfl
  have hcellA : T1.heap[T.heap.size]? = some (freshCell cX kX) := by rw [← hT1]; exact State.heap_pushCell_size _ _
  have d3' : decode c.code (pc + 3) = .ok (.dup, 1) := by rw [hb]; exact d3
  have d4' : decode c.code (pc + 4) = .ok (.ldc is, 2) := by rw [hb]; exact d4
  have hstr' : vk_R own is text sa s' := vk_R.warm hW0 hstr
  obtain ⟨U, hsteps, hrun, hend, hW, hsame, ce, hce, hO⟩ := X₁.ctorThrowS hexec htr (own := own) (cls := cls) (names := names) (ic := ic) hown' hcls hnames h (fun x hx => nomatch hx) hfX hkX hcellA (by rw [hhp, hT]; exact Nat.le_refl _) (msg := .ref sa) rfl
    (g := { method := m, pc := pc + 6, locals := ls, stack := .ref sa :: .ref T.heap.size :: .ref T.heap.size :: rest, locked := none }) rfl hsize rfl rfl (rest := rest) rfl
    (by rw [hb]; exact d6) (by rw [hb]; exact d9) hout hRframes (by simp only [List.map_cons, List.sum_cons, hcat]; omega) hlocks
  obtain ⟨f1, f2⟩ := vx_frame hsame
  rw [hhp] at f1 f2
  have hWs : s.WarmedH U.vm := State.WarmedH.trans hW0 hW
  have hcl : s.vm.findClass cls = some ce.cls := by
    have h9 := hO.cls
    rw [hvm] at h9
    exact h9
  have hall : s.sameButNew ({ U with vm := s.vm } : State) locs mc ms := by
    subst hA
    obtain ⟨e1, e2⟩ := hsame
    rw [State.setFrames_setFrames] at e1
    have h2 : (T.setVm s.vm).sameButNew ({ U with vm := s.vm } : State) [] (0 + 1) (0 + 6) := ⟨e1, e2⟩
    have h3 := X.same.trans h2
    rw [List.append_nil] at h3
    exact h3.mono hc hs
  refine ⟨U, ?_, .threw T.heap.size, hrun, hend, Or.inr ⟨T.heap.size, rfl, cls, ce, locs, hx U hWs.alike f1 (fun q hq => f2 q hq (fun z hz => nomatch hz)), hce, hO.vm, hcl, hWs, hall, hf⟩⟩
  refine st1 _ ?_
  show Steps p.tables e below (T1.setTop { method := m, pc := pc + 3, locals := ls, stack := .ref T.heap.size :: rest, locked := none }) _
  jvm_step X₁.here [X₁.here.top, hexec, d3', Value.category]
  exact X₁.ldcString hexec (own := own) (text := text) (index := is) (a := sa) hown' hstr'.1 hstr'.2
    (g := { method := m, pc := pc + 4, locals := ls, stack := .ref T.heap.size :: .ref T.heap.size :: rest, locked := none }) rfl d4' _ hsteps
/-- 'throw new E("text")', the text by a wide index -/
theorem vx_throwSW {cc : ByteArray} {pc : Nat} (hexec : p.tables.exec = Jvm.exec) (hb : c.code = cc) (hl : l.stackTraces = false) {own cls text : String} {names : List String} {ik is ic mc ms sa : Nat} {A : Nat → Prop}
    (hown : s.vm.findClass own = some m.cls) (hcls : Bundle.fit cls = true) (hnames : ∀ n ∈ names, Bundle.fit n = true)
    (hk : (Cond.classLink own ik cls).before args s = true) (hini : (Cond.initialized cls).before args s = true) (hstr : vk_R own is text sa s) (hat : ∀ w ∈ vx_atS own ic cls names, w.before args s = true)
    (hgood : ∀ w ∈ Cond.classLink own ik cls :: Cond.initialized cls :: vx_atS own ic cls names, vx_ot w = true)
    (hU : vx_Zq Bundle.tN "UNASSIGNED_STACK" Bundle.steD A s s.heap) (hN : vx_Zq Bundle.tN "SUPPRESSED_SENTINEL" Bundle.listD A s s.heap) (hS : va_S A s.heap H locs) (hsize : ls.size = c.maxLocals)
    (d0 : decode cc pc = .ok (.new ik, 3)) (d3 : decode cc (pc + 3) = .ok (.dup, 1)) (d4 : decode cc (pc + 4) = .ok (.ldc_w is, 3)) (d7 : decode cc (pc + 7) = .ok (.invokespecial ic, 3)) (d10 : decode cc (pc + 10) = .ok (.athrow, 1))
    (hout : ∀ x ∈ c.exceptionTable.toList, covers x (pc + 10) = false)
    (hRframes : names.length + 3 < R.frames) (hRlocals : (rest.map fun v => v.category).sum + (13 * (names.length + 1) + 43) ≤ R.locals) (hRcells : cells + 1 ≤ R.cells) (hRslots : slots + 6 ≤ R.slots) (hlocks : meth.locks = false)
    (hx : ∀ t : State, s.vm.Alike t.vm → H.size ≤ t.heap.size → (∀ q : Nat, q < H.size → t.heap[q]? = H[q]?) → XC cls s t)
    (hf : ∀ z ∈ locs, free z.base) (hc : cells + 1 ≤ mc) (hs : slots + 6 ≤ ms) :
    W p l e R s m args below meth c H locs cells slots (vx_MQ below Qc XC args s mc ms free) (F0 m pc ls rest) := by
  intro T hT X
  have htr : e.platform.stackTraces = false := (show e.platform.stackTraces = l.stackTraces by rw [X.admits.platform]).trans hl
  have Y := vx_rebase X (R' := { frames := R.frames, locals := R.locals, cells := 1, slots := 6 }) (Nat.le_refl _) (Nat.le_refl _) hRcells hRslots
  obtain ⟨s', hA⟩ : ∃ z, z = (T.setVm s.vm).setFrames (.invoking m args :: below) := ⟨_, rfl⟩
  rw [← hA] at Y
  have hvm : s'.vm = s.vm := by rw [hA]; rfl
  have hhp : s'.heap = H := by rw [hA]; exact hT
  have hW0 : s.WarmedH s'.vm := by rw [hvm]; exact State.WarmedH.refl s
  have hat' : ∀ w ∈ vx_atS own ic cls names, w.before args s' = true := fun w hw => vx_ot_at hW0 hvm.symm (hgood w (List.mem_cons_of_mem _ (List.mem_cons_of_mem _ hw))) (hat w hw)
  have hk' : (Cond.classLink own ik cls).before args s' = true := vx_ot_at hW0 hvm.symm (hgood _ List.mem_cons_self) hk
  have hini' : (Cond.initialized cls).before args s' = true := vx_ot_at hW0 hvm.symm (hgood _ (List.mem_cons_of_mem _ List.mem_cons_self)) hini
  have hU' : vx_Zq Bundle.tN "UNASSIGNED_STACK" Bundle.steD A s' s'.heap := by rw [hhp]; exact vx_Zq.moved hW0.alike (hU.kept hS.2.1)
  have hN' : vx_Zq Bundle.tN "SUPPRESSED_SENTINEL" Bundle.listD A s' s'.heap := by rw [hhp]; exact vx_Zq.moved hW0.alike (hN.kept hS.2.1)
  have h : ∀ w ∈ Bundle.ownAtoms own ic cls names, w.before args s' = true := vx_own hat' (vx_isRefq hU'.1) (vx_isRefq hN'.1) hU'.2.word hN'.2.word
  have hown' : s'.vm.findClass own = some m.cls := by rw [hvm]; exact hown
  have hins : (Cond.instantiable cls 6).before args s' = true := h _ (by simp [Bundle.ownAtoms])
  obtain ⟨vm₁, cX, kX, hfX, hkX, -, -, X₁, st1⟩ := Y.newCold hexec (own := own) (C := cls) (index := ik) (n := 6) hown' hk' hins hini'
    (g := F0 m pc ls rest) rfl (by rw [hb]; exact d0) (Nat.le_refl _) (Nat.le_refl _)
  generalize hT1 : (T.setVm vm₁).pushCell { cls := cX, slots := kX.instanceTypes.map defaultValue, vm := .none } = T1 at X₁ st1
  have hcat : (Value.ref T.heap.size).category = 1 := rfl
  have hcellA : T1.heap[T.heap.size]? = some (freshCell cX kX) := by rw [← hT1]; exact State.heap_pushCell_size _ _
  have d3' : decode c.code (pc + 3) = .ok (.dup, 1) := by rw [hb]; exact d3
  have d4' : decode c.code (pc + 4) = .ok (.ldc_w is, 3) := by rw [hb]; exact d4
  have hstr' : vk_R own is text sa s' := vk_R.warm hW0 hstr
  obtain ⟨U, hsteps, hrun, hend, hW, hsame, ce, hce, hO⟩ := X₁.ctorThrowS hexec htr (own := own) (cls := cls) (names := names) (ic := ic) hown' hcls hnames h (fun x hx => nomatch hx) hfX hkX hcellA (by rw [hhp, hT]; exact Nat.le_refl _) (msg := .ref sa) rfl
    (g := { method := m, pc := pc + 7, locals := ls, stack := .ref sa :: .ref T.heap.size :: .ref T.heap.size :: rest, locked := none }) rfl hsize rfl rfl (rest := rest) rfl
    (by rw [hb]; exact d7) (by rw [hb]; exact d10) hout hRframes (by simp only [List.map_cons, List.sum_cons, hcat]; omega) hlocks
  obtain ⟨f1, f2⟩ := vx_frame hsame
  rw [hhp] at f1 f2
  have hWs : s.WarmedH U.vm := State.WarmedH.trans hW0 hW
  have hcl : s.vm.findClass cls = some ce.cls := by
    have h9 := hO.cls
    rw [hvm] at h9
    exact h9
  have hall : s.sameButNew ({ U with vm := s.vm } : State) locs mc ms := by
    subst hA
    obtain ⟨e1, e2⟩ := hsame
    rw [State.setFrames_setFrames] at e1
    have h2 : (T.setVm s.vm).sameButNew ({ U with vm := s.vm } : State) [] (0 + 1) (0 + 6) := ⟨e1, e2⟩
    have h3 := X.same.trans h2
    rw [List.append_nil] at h3
    exact h3.mono hc hs
  refine ⟨U, ?_, .threw T.heap.size, hrun, hend, Or.inr ⟨T.heap.size, rfl, cls, ce, locs, hx U hWs.alike f1 (fun q hq => f2 q hq (fun z hz => nomatch hz)), hce, hO.vm, hcl, hWs, hall, hf⟩⟩
  refine st1 _ ?_
  show Steps p.tables e below (T1.setTop { method := m, pc := pc + 3, locals := ls, stack := .ref T.heap.size :: rest, locked := none }) _
  jvm_step X₁.here [X₁.here.top, hexec, d3', Value.category]
  exact X₁.ldcStringW hexec (own := own) (text := text) (index := is) (a := sa) hown' hstr'.1 hstr'.2
    (g := { method := m, pc := pc + 4, locals := ls, stack := .ref T.heap.size :: .ref T.heap.size :: rest, locked := none }) rfl d4' _ hsteps
end Ends
section Bodies
variable {l : Launch}
theorem vx_ofW {y : MethodName} {ws ws' : List Cond} {rm : Room} {Pc : Array Value → State → Prop} {Qc : Array Value → State → Outcome → State → Prop} {XC : String → State → State → Prop} {mc ms : Nat} {free : Addr → Prop} {cc : ByteArray} {maxL : Nat} {ret : Option FieldType}
    (hy : plainName y.cls = true) (hw : ws = Cond.code y cc maxL ret :: ws')
    (body : ∀ p e s m args below meth c s₁, BodyLoose p l y (headSpec ws rm) cc maxL ret e s m args below meth c s₁ → c.maxLocals = maxL → (∀ x ∈ c.exceptionTable.toList, False) → Pc args s →
      W p l e (headSpec ws rm).room s m args below meth c s.heap [] 0 0 (vx_MQ below Qc XC args s mc ms free) (entryFrame m args maxL)) : vx_Met l y ws rm Pc Qc XC mc ms free := by
  refine MetFree.of_bodyS (code := cc) (maxLocals := maxL) (ret := ret) hy ?_ ?_
  · intro args s m h hn
    obtain ⟨meth, c, h1, h2, h3, h4, h5, h6, -, -⟩ := Cond.code_spec hn (atoms_spec (ws := ws) h _ (by rw [hw]; exact List.mem_cons_self))
    exact ⟨meth, c, h1, h2, h3, h4, h5, h6⟩
  · intro p e s m args below meth c s₁ B hml hP _
    have hh0 : s₁.heap = s.heap := by rw [B.state]; rfl
    have ht : ∀ x ∈ c.exceptionTable.toList, False := by
      obtain ⟨meth9, c9, h1, h2, -, -, -, -, h7, -⟩ := Cond.code_spec B.named (atoms_spec (ws := ws) B.pre _ (by rw [hw]; exact List.mem_cons_self))
      cases Option.some.inj (h1.symm.trans B.method)
      cases Option.some.inj (h2.symm.trans (Stand.of_body B).code)
      intro x hx
      rw [Array.isEmpty_iff.mp h7] at hx
      cases hx
    obtain ⟨t, a1, o, b1, b2, b3⟩ := body p e s m args below meth c s₁ B hml ht hP s₁ hh0 (Stand.of_body B)
    exact ⟨t, o, a1, b1, b2, b3⟩
/-- the table of a body with handlers -/
theorem vx_table {p : Program} {x y : MethodName} {S : Spec} {cc bytes : ByteArray} {maxL maxL' : Nat} {ret ret' : Option FieldType} {e : Env} {s s₁ : State} {m : MethodId} {args : Array Value} {below : List Frame} {meth : Method} {c : Code} {hh : List (Nat × Nat × Nat × Nat)}
    (B : BodyLoose p l y S cc maxL ret e s m args below meth c s₁) (h : (Cond.codeWith y bytes maxL' ret' hh).before args s = true) : c.exceptionTable.toList = tableOf hh := by
  obtain ⟨m9, meth9, c9, hn9, h1, h2, -, -, h6, -⟩ := Cond.codeWith_spec h
  cases Option.some.inj (hn9.symm.trans B.named)
  cases Option.some.inj (h1.symm.trans B.method)
  cases Option.some.inj (h2.symm.trans (Stand.of_body B).code)
  rw [← h6, table_eq]
end Bodies
end VXA
/-! ===== END ===== -/
/-! ===== BEGIN a static call of a method with an exception table ===== -/
section VXS
variable {p : Program} {l : Launch} {e : Env} {R : Room} {s : State} {m : MethodId} {args : Array Value} {below : List Frame} {meth : Method} {c : Code} {T : State} {H : Heap} {locs : List Loc} {cells slots : Nat}
abbrev vx_CSW (R : Room) (s : State) (args : Array Value) (own : String) (index : Nat) (y : MethodName) (bytes : ByteArray) (maxL : Nat) (ret : Option FieldType) (hh : List (Nat × Nat × Nat × Nat)) (ws : List Cond) (rm : Room) (mc ms n : Nat) : Prop :=
  (rm.cells = mc ∧ rm.slots = ms ∧ rm.frames + 1 ≤ R.frames ∧ 8 + (maxL + 11) + rm.locals ≤ R.locals ∧ (∀ w ∈ ws, ∀ (a' : Array Value) (U : State), s.WarmedH U.vm → w.before a' U = true) ∧ Cond.codeWith y bytes maxL ret hh ∈ ws) ∧
  (Cond.codeWith y bytes maxL ret hh).before args s = true ∧ (Cond.initialized y.cls).before args s = true ∧ (y.cls ≠ "java/lang/invoke/MethodHandle" ∧ y.cls ≠ "java/lang/invoke/VarHandle") ∧
  (∀ sig, parseMethodDescriptor y.desc = some sig → n = sig.parameters.length) ∧ (Cond.methodLink own index y).before args s = true ∧ (Cond.static y).before args s = true
theorem vx_cwSW {own : String} {index maxL mc ms : Nat} {y : MethodName} {bytes : ByteArray} {ret : Option FieldType} {hh : List (Nat × Nat × Nat × Nat)} {Ts ws ws' : List Cond} {rm : Room} (n : Nat) (ht : ∀ w ∈ Ts, w.before args s = true) (hT : GoodIn Ts (va_wsS own index y ws)) (hw : ws = Cond.codeWith y bytes maxL ret hh :: ws') (hrc : rm.cells = mc) (hrs : rm.slots = ms)
    (hd : y.cls ≠ "java/lang/invoke/MethodHandle" ∧ y.cls ≠ "java/lang/invoke/VarHandle" ∧ (parseMethodDescriptor y.desc).map (fun d => d.parameters.length) = some n) (hR : rm.frames + 1 ≤ R.frames ∧ 8 + (maxL + 11) + rm.locals ≤ R.locals) :
    vx_CSW R s args own index y bytes maxL ret hh ws rm mc ms n := by
  have ok : ∀ w ∈ va_wsS own index y ws, w.before args s = true := fun w h => ht w (hT w h).1
  have hG : GoodIn Ts ws := fun w h => hT w (by unfold va_wsS; exact List.mem_append_right _ h)
  have hc : Cond.codeWith y bytes maxL ret hh ∈ ws := by rw [hw]; exact List.mem_cons_self
  refine ⟨⟨hrc, hrs, hR.1, hR.2, pay_in ht hG, hc⟩, ht _ (hG _ hc).1, ok _ (by simp [va_wsS]), ⟨hd.1, hd.2.1⟩, fun sig h => ?_, ok _ (by simp [va_wsS]), ok _ (by simp [va_wsS])⟩
  have h2 := hd.2.2
  rw [h] at h2
  exact (Option.some.inj h2).symm
theorem vx_callSW (X : Stand p l e R s m args below meth c T locs cells slots) (hexec : p.tables.exec = Jvm.exec) {own : String} {index : Nat} {y : MethodName} {bytes : ByteArray} {maxL : Nat} {ret : Option FieldType} {hh : List (Nat × Nat × Nat × Nat)}
    (hown : s.vm.findClass own = some m.cls) (hlink : (Cond.methodLink own index y).before args s = true) (hstat : (Cond.static y).before args s = true) (hinit : (Cond.initialized y.cls).before args s = true)
    (hcode : (Cond.codeWith y bytes maxL ret hh).before args s = true) (hy : y.cls ≠ "java/lang/invoke/MethodHandle" ∧ y.cls ≠ "java/lang/invoke/VarHandle")
    {W9 : Nat} {Pre : Pt → Array Value → Prop} {Post : Pt → Array Value → Option Value → Pt → Prop} (hK : Back l R p e below s args y 3 W9 Pre Post)
    {g : JFrame} (hg : g.method = m) (hsize : g.locals.size = c.maxLocals) {argsL rest : List Value} (hlen : ∀ sig, parseMethodDescriptor y.desc = some sig → argsL.length = sig.parameters.length)
    (hstack : g.stack = argsL.reverse ++ rest) (hW : 2 * g.monitorRoom + (rest.map fun v => v.category).sum ≤ W9) (hdg : decode c.code g.pc = .ok (.invokestatic index, 3))
    (hpre : ∀ vm₁, s.WarmedH vm₁ → Pre ⟨T.setVm vm₁, locs, cells, slots⟩ argsL.toArray) :
    ∃ (v : Option Value) (vm₁ : Vm) (B : Pt), s.WarmedH vm₁ ∧ Stand p l e R s m args below meth c B.U B.locs B.cells B.slots ∧ Post ⟨T.setVm vm₁, locs, cells, slots⟩ argsL.toArray v B ∧
      ∀ target, Steps p.tables e below (B.U.setTop { g with pc := g.pc + 3, stack := v.toList ++ rest }) target → Steps p.tables e below (T.setTop g) target := by
  obtain ⟨mk, methM, cM, hnamed, hmethM, -, -, -, -, -, -, hsigM⟩ := Cond.codeWith_spec hcode
  have hstatic : methM.isStatic = true := Cond.static_spec hnamed hmethM hstat
  obtain ⟨kP, hkP, -⟩ := className_of_methodNamed hnamed
  have hinitP : kP.init = .initialized := Cond.initialized_spec (findClass_of_methodNamed hnamed) hkP hinit
  obtain ⟨vm₁, X₁, hstep₁⟩ := X.invokestatic hexec hown hlink hnamed hmethM hstatic hkP hinitP hy (g := g) hg (argsL := argsL) (rest := rest) (hlen _ hsigM) hstack hdg
  obtain ⟨v, B, X', hpost, hsteps⟩ := hK m meth c ⟨T.setVm vm₁, locs, cells, slots⟩ { g with stack := rest } (.invokestatic index) mk argsL.toArray X₁ hg hsize hdg hW (X₁.named hnamed) (hpre vm₁ X₁.warmed)
  exact ⟨v, vm₁, B, X₁.warmed, X', hpost, fun target h => hstep₁ _ fun acts => by rw [doInvoke_state]; exact hsteps.trans h⟩
theorem vx_runSW {y : MethodName} {bytes cc : ByteArray} {maxL nL mc ms n index : Nat} {ret : Option FieldType} {hh : List (Nat × Nat × Nat × Nat)} {ws : List Cond} {rm : Room} {Pc : Array Value → State → Prop} {Qc : Array Value → State → Outcome → State → Prop} {free : Addr → Prop} {Ts : List Cond} {own : String} {As rest : List Value} {g : JFrame}
    (S : CallFix p m c cc nL s args Ts own) (hM : Met l y ws rm Pc Qc mc ms free) (cw : vx_CSW R s args own index y bytes maxL ret hh ws rm mc ms n) (hp : PreS s H Pc As)
    (hg : g.method = m) (hn : As.length = n) (hsize : g.locals.size = nL) (hstack : g.stack = As.reverse ++ rest) (hW : 2 * g.monitorRoom + (rest.map fun v => v.category).sum ≤ 8) (hdg : decode cc g.pc = .ok (.invokestatic index, 3)) (hf : cells + mc ≤ R.cells ∧ slots + ms ≤ R.slots) :
    va_Run p l e R s m args below meth c H locs cells slots mc ms g rest (Qc As.toArray) (free) := by
  obtain ⟨⟨hrc, hrs, hfr, hlo, hws, hcw⟩, hcode, hini, hy, hlen, hl, hstt⟩ := cw
  have hK : Back l R p e below s args y 3 8 (PreOf R mc ms Pc) (PostOf Qc mc ms free) := va_backW (hh := hh) (bytes := bytes) (maxL := maxL) (ret := ret) hM hp.1 hrc hrs hfr hlo hws hcw (fun a' U hW => word_at hW (Or.inl (by first | rfl | simp [Cond.onTables, Cond.keeps, Cond.steady])) hini)
  obtain ⟨hx, hb, hml, ho, -⟩ := S
  intro T hT X
  obtain ⟨v, vm₁, ⟨U', l2, c2, s2⟩, hW₁, X', ⟨g', mk, t, L, e1, e2, hq, h1, hL, h2, h3⟩, st⟩ := vx_callSW X hx (hh := hh) (bytes := bytes) (maxL := maxL) (ret := ret) ho hl hstt hini hcode hy hK hg (hsize.trans hml.symm) (argsL := As) (rest := rest) (fun sig h => hn.trans (hlen sig h)) hstack hW (by rw [hb]; exact hdg)
    (fun vm₁ hW₁ => ⟨hf.1, hf.2, hp.2 (T.setVm vm₁) hT hW₁⟩)
  dsimp only [Pt.U, Pt.locs, Pt.cells, Pt.slots] at X' e1 e2 h1 h2 h3 st
  subst h1; subst h2; subst h3
  exact ⟨v, (T.setVm vm₁).calling g' mk As.toArray, t, U', L, hT, X', hL, e1, e2, hq, st⟩
/-- not caught here, past rows that name other classes: it goes on to the caller -/
theorem vx_outP {p : Program} {l : Launch} {e : Env} {R : Room} {s : State} {m : MethodId} {args : Array Value} {below : List Frame} {meth : Method} {c : Code} {H : Heap} {locs : List Loc} {cells slots : Nat} {free : Addr → Prop} {ls : Array Slot} {rest : List Value} {Qc : Array Value → State → Outcome → State → Prop} {XC : String → State → State → Prop}
    {pc : Nat} {own E : String} {ce : Cell} {q : Addr} {mc ms : Nat} (hown : s.vm.findClass own = some m.cls) (hlocks : meth.locks = false)
    (hpass : ∀ z ∈ c.exceptionTable.toList, covers z pc = false ∨ (z.catchType ≠ 0 ∧ ∃ nm : String, (Cond.classLink own z.catchType nm).before args s = true ∧ va_Nc E nm s)) (hcell : H[q]? = some ce) (hv : ce.vm = .none) (hcl : s.vm.findClass E = some ce.cls)
    (hx : ∀ t : State, t.heap = H → s.vm.Alike t.vm → XC E s t) (hf : ∀ z ∈ locs, free z.base) (hc : cells ≤ mc) (hs : slots ≤ ms) :
    vx_W p l e R s m args below meth c H locs cells slots (vx_MQ below Qc XC args s mc ms free) (F0 m pc ls rest) q := by
  intro T hT X
  have hpl : e.platform.magicAccessors = ({} : Platform).magicAccessors := by rw [X.admits.platform]
  obtain ⟨vm', hW', X', st⟩ := X.outThrough hlocks q (g := F0 m pc ls rest) rfl rfl rfl (cell := ce) (by rw [hT]; exact hcell) (by rw [hv]; rfl)
    (by obtain ⟨k9, h9, -⟩ := Vm.findClass_spec hcl; exact ⟨k9, h9⟩) (fun z hz => by
      rcases hpass z hz with h | ⟨hz0, nm, hl1, hn1⟩
      · exact Or.inl h
      · obtain ⟨c6, hc6, hcl6⟩ := Cond.classLink_spec hown hl1 e.platform hpl
        obtain ⟨a8, b8, h1, h2, h3⟩ := hn1
        cases Option.some.inj (h1.symm.trans hcl)
        cases Option.some.inj (h2.symm.trans hc6)
        exact Or.inr ⟨hz0, _, hcl6, h3⟩)
  obtain ⟨g₀, hfr⟩ := X'.frames_eq
  have hcell9 : ((T.setVm vm').setFrames (.throwing q :: below)).heap[q]? = some ce := by
    show T.heap[q]? = some ce
    rw [hT]; exact hcell
  have hend : Ended ((T.setVm vm').setFrames (.throwing q :: below)) below (.threw q) := State.frames_setFrames _ (State.cur_lt_of_frames hfr)
  refine ⟨(T.setVm vm').setFrames (.throwing q :: below), ?_, .threw q, X'.here.running, hend, Or.inr ⟨q, rfl, E, ce, locs, hx _ hT (X'.ends _).1.alike, hcell9, hv, hcl, (X'.ends _).1, (X'.ends _).2.mono hc hs, hf⟩⟩
  rw [X.pushThrowing_eq]
  exact st
/-- a thing of a world lies in the heap -/
theorem vx_lt {D : va_G} {cl : List vw_C} {ws : va_W} {H1 : Heap} (h : va_P D cl ws H1) {k : Nat} {q : Nat × va_E} (hk : ws[k]? = some q) : q.1 < H1.size := (h k q hk).lt
end VXS
/-! ===== END ===== -/
/-! ===== BEGIN methods with a table of their own: called by a name, returning or throwing ===== -/
section VXH
/-! vx_backW, vx_callVX, vx_callSX, vx_callVW, vx_runVW, vx_runVX, vx_runSX, vx_ofWH follow the same proofs as their sisters above (Free/Laws.lean, Shelf42/LK1.lean); vx_outP calls Shelf42/NT130.lean (outThrough). -/
section
variable {l : Launch} {R : Room} {p : Program} {e : Env} {below : List Frame} {s : State} {sargs : Array Value} {y : MethodName} {len W9 : Nat}
theorem vx_backW {ws : List Cond} {rm : Room} {Pc : Array Value → State → Prop} {Qc : Array Value → State → Outcome → State → Prop} {XC : String → State → State → Prop} {mc ms : Nat} {free : Addr → Prop} {bytes : ByteArray} {maxL : Nat} {ret : Option FieldType} {hh : List (Nat × Nat × Nat × Nat)}
    (hM : vx_Met l y ws rm Pc Qc XC mc ms free) (hblind : FrameBlind Pc) (hrc : rm.cells = mc) (hrs : rm.slots = ms)
    (hframes : rm.frames + 1 ≤ R.frames) (hlocals : W9 + (maxL + 11) + rm.locals ≤ R.locals)
    (hws : ∀ w ∈ ws, ∀ a' U, s.WarmedH U.vm → w.before a' U = true) (hcode : Cond.codeWith y bytes maxL ret hh ∈ ws) (hinit : ∀ a' U, s.WarmedH U.vm → (Cond.initialized y.cls).before a' U = true) :
    vx_Back l R p e below s sargs y len W9 (PreOf R mc ms Pc) (PostOf Qc mc ms free) (vx_Post XC mc ms free) := by
  intro m meth c A g ig mk a X hg hsize hdg hW hn hp
  have h1 : (headSpec ws rm).pre.before a A.U = true := atoms_intro fun w hw => hws w hw _ _ X.warmed
  have h2 : (Cond.codeWith y bytes maxL ret hh).before a A.U = true := hws _ hcode _ _ X.warmed
  have h3 : (Cond.initialized y.cls).before a A.U = true := hinit _ _ X.warmed
  have h4 : A.cells + (headSpec ws rm).room.cells ≤ R.cells := by rw [show (headSpec ws rm).room.cells = mc from hrc]; exact hp.1
  have h5 : A.slots + (headSpec ws rm).room.slots ≤ R.slots := by rw [show (headSpec ws rm).room.slots = ms from hrs]; exact hp.2.1
  have hPc : Pc a (A.U.calling g mk a) := hblind _ _ _ _ hp.2.2
  obtain ⟨U, Ls, c0, s0⟩ := A
  dsimp only [Pt.U, Pt.locs, Pt.cells, Pt.slots] at h1 h2 h3 h4 h5 X hn hPc ⊢
  obtain ⟨m9, methY, cY, hn9, hmY, hcY, -, hlY, -⟩ := Cond.codeWith_spec h2
  cases Option.some.inj (hn9.symm.trans hn)
  obtain ⟨kY, hkY, -⟩ := className_of_methodNamed hn
  have hinitY : kY.init = .initialized := Cond.initialized_spec (findClass_of_methodNamed hn) hkY h3
  have h : At U g.method c below := by rw [hg]; exact X.here
  have hlocals9 : W9 + (maxL + 11) + (headSpec ws rm).room.locals ≤ R.locals := hlocals
  have happ : (headSpec ws rm).appliesLoose y e.platform (U.calling g mk a) = true :=
    Spec.appliesLoose_calling (g := g) h hdg hn hkY hinitY
      (X.room_calling (g := g) (R' := (headSpec ws rm).room) hsize hmY hcY hframes (by rw [hlY]; omega) h4 h5) h1
  obtain ⟨mid, hmid⟩ := h.above
  have hfr : (U.setTop g).frames = (.java g :: mid) ++ below := by rw [State.frames_setTop' g h.top, hmid]; rfl
  obtain ⟨o, s₂, hsteps, -, hend, hq⟩ := Steps.callFree hM p X.admits X.cas X.clock (acts := []) hfr happ hPc trivial
  have hq' : vx_Q Qc XC mc ms free a (U.calling g mk a) o s₂ := hq
  rw [State.frames_setTop' g h.top] at hend
  obtain ⟨g₀, hg0⟩ := Option.isSome_iff_exists.mp h.top
  obtain ⟨r, hr⟩ := State.topJava?_eq_some.mp hg0
  have hr' : (({ U with heap := s₂.heap, slotsUsed := s₂.slotsUsed } : State).setVm s₂.vm).frames = .java g₀ :: r := hr
  rcases hq' with ⟨hqc, L, hfe, hL⟩ | ⟨q, rfl, E, ce, L, hx, hce, hcv, hcl, hW₂, hsm, hL⟩
  · obtain ⟨⟨v, rfl⟩, hW₂, e2, q2, q3, q4, q5, q6⟩ := id hfe
    have e3 : s₂ = ({ (U.calling g mk a).setFrames s₂.frames with heap := s₂.heap, slotsUsed := s₂.slotsUsed } : State).setVm s₂.vm := by
      have : s₂ = ({ s₂ with vm := (U.calling g mk a).vm } : State).setVm s₂.vm := rfl
      rw [e2] at this
      exact this
    obtain ⟨c₂, i₂, len₂, hc₂, hd₂, hf₂⟩ := hend
    have hW' : U.WarmedH s₂.vm := hW₂
    have hcc : c₂ = c := by
      have h1 : s₂.code? g.method = U.code? g.method := by
        rw [State.code?_eq, State.code?_eq, hW'.alike.method?]
      exact Option.some.inj (hc₂.symm.trans (h1.trans h.code))
    subst hcc
    have hlen : len₂ = len := by rw [hdg] at hd₂; cases hd₂; rfl
    subst hlen
    have hs₂ : s₂ = (({ U with heap := s₂.heap, slotsUsed := s₂.slotsUsed } : State).setVm s₂.vm).setTop { g with pc := g.pc + len₂, stack := v.toList ++ g.stack } := by
      refine e3.trans ?_
      rw [hf₂, State.calling_eq h.top, State.setFrames_setFrames, State.setTop_of_frames _ hr', hr]
      rfl
    have hsame : U.sameButNew ({ U with heap := s₂.heap, slotsUsed := s₂.slotsUsed } : State) L mc ms := by
      refine ⟨?_, q2, q3, q4, q5, q6⟩
      obtain ⟨t, ht, -⟩ := State.frames_cons hr
      show ({ U with heap := s₂.heap, slotsUsed := s₂.slotsUsed } : State) = { U.setFrames U.frames with heap := s₂.heap, slotsUsed := s₂.slotsUsed }
      rw [State.setFrames_self ht]
    subst hg
    refine Or.inl ⟨v, ⟨(({ U with heap := s₂.heap, slotsUsed := s₂.slotsUsed } : State).setVm s₂.vm), Ls ++ L, c0 + mc, s0 + ms⟩,
      ⟨X.admits, X.cas, X.clock, X.frames, X.room, X.hears, X.method, X.code, (X.here.setHeapUsed s₂.heap s₂.slotsUsed).setVm hW'.alike, X.tail, State.WarmedH.trans X.warmed hW', X.limits, X.bytes, X.same.trans (hsame.setVm s.vm)⟩,
      ⟨g, mk, s₂, L, rfl, rfl, hqc, rfl, hL, rfl, rfl⟩, ?_⟩
    show Steps p.tables e below _ ((({ U with heap := s₂.heap, slotsUsed := s₂.slotsUsed } : State).setVm s₂.vm).setTop { g with pc := g.pc + len₂, stack := v.toList ++ g.stack })
    rw [← hs₂]
    exact hsteps
  · obtain ⟨e2, q2, q3, q4, q5, q6⟩ := id hsm
    have e3 : s₂ = ({ (U.calling g mk a).setFrames s₂.frames with heap := s₂.heap, slotsUsed := s₂.slotsUsed } : State).setVm s₂.vm := by
      have : s₂ = ({ s₂ with vm := (U.calling g mk a).vm } : State).setVm s₂.vm := rfl
      rw [e2] at this
      exact this
    have hf₂ : s₂.frames = .throwing q :: .java g :: U.frames.tail := hend
    have hW' : U.WarmedH s₂.vm := hW₂
    have hs₂ : s₂ = ((({ U with heap := s₂.heap, slotsUsed := s₂.slotsUsed } : State).setVm s₂.vm).setTop g).pushFrame (.throwing q) := by
      refine e3.trans ?_
      rw [hf₂, State.calling_eq h.top, State.setFrames_setFrames, State.pushFrame, State.frames_setTop _ hr', State.setTop_of_frames _ hr', State.setFrames_setFrames, hr]
      rfl
    have hsame : U.sameButNew ({ U with heap := s₂.heap, slotsUsed := s₂.slotsUsed } : State) L mc ms := by
      refine ⟨?_, q2, q3, q4, q5, q6⟩
      obtain ⟨t, ht, -⟩ := State.frames_cons hr
      show ({ U with heap := s₂.heap, slotsUsed := s₂.slotsUsed } : State) = { U.setFrames U.frames with heap := s₂.heap, slotsUsed := s₂.slotsUsed }
      rw [State.setFrames_self ht]
    subst hg
    refine Or.inr ⟨q, ⟨(({ U with heap := s₂.heap, slotsUsed := s₂.slotsUsed } : State).setVm s₂.vm), Ls ++ L, c0 + mc, s0 + ms⟩,
      ⟨X.admits, X.cas, X.clock, X.frames, X.room, X.hears, X.method, X.code, (X.here.setHeapUsed s₂.heap s₂.slotsUsed).setVm hW'.alike, X.tail, State.WarmedH.trans X.warmed hW', X.limits, X.bytes, X.same.trans (hsame.setVm s.vm)⟩,
      ⟨g, mk, s₂, L, E, ce, rfl, rfl, hx, hce, hcv, hcl, rfl, hL, rfl, rfl⟩, ?_⟩
    show Steps p.tables e below _ (((({ U with heap := s₂.heap, slotsUsed := s₂.slotsUsed } : State).setVm s₂.vm).setTop g).pushFrame (.throwing q))
    rw [← hs₂]
    exact hsteps
end
variable {p : Program} {l : Launch} {e : Env} {R : Room} {s : State} {m : MethodId} {args : Array Value} {below : List Frame} {meth : Method} {c : Code} {T : State} {H : Heap} {locs : List Loc} {cells slots : Nat}
theorem vx_callVX (X : Stand p l e R s m args below meth c T locs cells slots) (hexec : p.tables.exec = Jvm.exec) {own C : String} {index : Nat} {y : MethodName} {bytes : ByteArray} {maxL : Nat} {ret : Option FieldType} {hh : List (Nat × Nat × Nat × Nat)}
    (hown : s.vm.findClass own = some m.cls) (hlink : (Cond.methodLink own index y).before args s = true) (hinst : (Cond.instanceMethod y).before args s = true) (hsel : (Cond.selects C y y).before args s = true)
    (hcode : (Cond.codeWith y bytes maxL ret hh).before args s = true) (hy : y.cls ≠ "java/lang/invoke/MethodHandle" ∧ y.cls ≠ "java/lang/invoke/VarHandle")
    {W9 : Nat} {Pre : Pt → Array Value → Prop} {Post : Pt → Array Value → Option Value → Pt → Prop} {PostX : Pt → Array Value → Addr → Pt → Prop} (hK : vx_Back l R p e below s args y 3 W9 Pre Post PostX)
    {b : Addr} {cellB : Cell} (hcell : T.heap[b]? = some cellB) (hobj : cellB.vm.isStatics = false) (hcls : s.vm.findClass C = some cellB.cls)
    {g : JFrame} (hg : g.method = m) (hsize : g.locals.size = c.maxLocals) {argsL rest : List Value} (hlen : ∀ sig, parseMethodDescriptor y.desc = some sig → argsL.length = sig.parameters.length)
    (hstack : g.stack = argsL.reverse ++ .ref b :: rest) (hW : 2 * g.monitorRoom + (rest.map fun v => v.category).sum ≤ W9) (hdg : decode c.code g.pc = .ok (.invokevirtual index, 3))
    (hpre : ∀ vm₁, s.WarmedH vm₁ → Pre ⟨T.setVm vm₁, locs, cells, slots⟩ (Value.ref b :: argsL).toArray) :
    (∃ (v : Option Value) (vm₁ : Vm) (B : Pt), s.WarmedH vm₁ ∧ Stand p l e R s m args below meth c B.U B.locs B.cells B.slots ∧ Post ⟨T.setVm vm₁, locs, cells, slots⟩ (Value.ref b :: argsL).toArray v B ∧
      ∀ target, Steps p.tables e below (B.U.setTop { g with pc := g.pc + 3, stack := v.toList ++ rest }) target → Steps p.tables e below (T.setTop g) target) ∨
    (∃ (q : Addr) (vm₁ : Vm) (B : Pt), s.WarmedH vm₁ ∧ Stand p l e R s m args below meth c B.U B.locs B.cells B.slots ∧ PostX ⟨T.setVm vm₁, locs, cells, slots⟩ (Value.ref b :: argsL).toArray q B ∧
      Steps p.tables e below (T.setTop g) ((B.U.setTop { g with stack := rest }).pushFrame (.throwing q))) := by
  obtain ⟨mk, methM, hnamed, hmethM, hstM, habM⟩ := Cond.instanceMethod_spec hinst
  obtain ⟨m8, methM', cM, hn8, hmethM', -, -, -, -, -, -, hsigM⟩ := Cond.codeWith_spec hcode
  cases Option.some.inj (hn8.symm.trans hnamed)
  cases hmethM.symm.trans hmethM'
  obtain ⟨c2, r2, m2, q1, q2, q3, q4, kP, hkP, hkPi⟩ := Cond.selects_spec hsel
  cases hcls.symm.trans q1
  cases (State.methodFound?_of_named hnamed hy).symm.trans q2
  cases hnamed.symm.trans q3
  have hselP : selectMethod e.platform s.vm cellB.cls mk = .method mk := by rw [Launch.admits_selectMethod X.admits]; exact q4
  obtain ⟨vm₁, X₁, hstep₁⟩ := X.invokevirtual hexec hown hlink hnamed hmethM hstM hkP hkPi hy (a := b) (cell := cellB) hcell
    (fun z h => by rw [h] at hobj; cases hobj) hselP hmethM habM hkP hkPi (g := g) hg (argsL := argsL) (rest := rest) (hlen _ hsigM) hstack hdg
  rcases hK m meth c ⟨T.setVm vm₁, locs, cells, slots⟩ { g with stack := rest } (.invokevirtual index) mk (Value.ref b :: argsL).toArray X₁ hg hsize hdg hW (X₁.named hnamed) (hpre vm₁ X₁.warmed) with ⟨v, B, X', hpost, hsteps⟩ | ⟨q, B, X', hpost, hsteps⟩
  · exact Or.inl ⟨v, vm₁, B, X₁.warmed, X', hpost, fun target h => hstep₁ _ fun acts => by rw [doInvoke_state]; exact hsteps.trans h⟩
  · exact Or.inr ⟨q, vm₁, B, X₁.warmed, X', hpost, hstep₁ _ fun acts => by rw [doInvoke_state]; exact hsteps⟩
theorem vx_callSX (X : Stand p l e R s m args below meth c T locs cells slots) (hexec : p.tables.exec = Jvm.exec) {own : String} {index : Nat} {y : MethodName} {bytes : ByteArray} {maxL : Nat} {ret : Option FieldType} {hh : List (Nat × Nat × Nat × Nat)}
    (hown : s.vm.findClass own = some m.cls) (hlink : (Cond.methodLink own index y).before args s = true) (hstat : (Cond.static y).before args s = true) (hinit : (Cond.initialized y.cls).before args s = true)
    (hcode : (Cond.codeWith y bytes maxL ret hh).before args s = true) (hy : y.cls ≠ "java/lang/invoke/MethodHandle" ∧ y.cls ≠ "java/lang/invoke/VarHandle")
    {W9 : Nat} {Pre : Pt → Array Value → Prop} {Post : Pt → Array Value → Option Value → Pt → Prop} {PostX : Pt → Array Value → Addr → Pt → Prop} (hK : vx_Back l R p e below s args y 3 W9 Pre Post PostX)
    {g : JFrame} (hg : g.method = m) (hsize : g.locals.size = c.maxLocals) {argsL rest : List Value} (hlen : ∀ sig, parseMethodDescriptor y.desc = some sig → argsL.length = sig.parameters.length)
    (hstack : g.stack = argsL.reverse ++ rest) (hW : 2 * g.monitorRoom + (rest.map fun v => v.category).sum ≤ W9) (hdg : decode c.code g.pc = .ok (.invokestatic index, 3))
    (hpre : ∀ vm₁, s.WarmedH vm₁ → Pre ⟨T.setVm vm₁, locs, cells, slots⟩ argsL.toArray) :
    (∃ (v : Option Value) (vm₁ : Vm) (B : Pt), s.WarmedH vm₁ ∧ Stand p l e R s m args below meth c B.U B.locs B.cells B.slots ∧ Post ⟨T.setVm vm₁, locs, cells, slots⟩ argsL.toArray v B ∧
      ∀ target, Steps p.tables e below (B.U.setTop { g with pc := g.pc + 3, stack := v.toList ++ rest }) target → Steps p.tables e below (T.setTop g) target) ∨
    (∃ (q : Addr) (vm₁ : Vm) (B : Pt), s.WarmedH vm₁ ∧ Stand p l e R s m args below meth c B.U B.locs B.cells B.slots ∧ PostX ⟨T.setVm vm₁, locs, cells, slots⟩ argsL.toArray q B ∧
      Steps p.tables e below (T.setTop g) ((B.U.setTop { g with stack := rest }).pushFrame (.throwing q))) := by
  obtain ⟨mk, methM, cM, hnamed, hmethM, -, -, -, -, -, -, hsigM⟩ := Cond.codeWith_spec hcode
  have hstatic : methM.isStatic = true := Cond.static_spec hnamed hmethM hstat
  obtain ⟨kP, hkP, -⟩ := className_of_methodNamed hnamed
  have hinitP : kP.init = .initialized := Cond.initialized_spec (findClass_of_methodNamed hnamed) hkP hinit
  obtain ⟨vm₁, X₁, hstep₁⟩ := X.invokestatic hexec hown hlink hnamed hmethM hstatic hkP hinitP hy (g := g) hg (argsL := argsL) (rest := rest) (hlen _ hsigM) hstack hdg
  rcases hK m meth c ⟨T.setVm vm₁, locs, cells, slots⟩ { g with stack := rest } (.invokestatic index) mk argsL.toArray X₁ hg hsize hdg hW (X₁.named hnamed) (hpre vm₁ X₁.warmed) with ⟨v, B, X', hpost, hsteps⟩ | ⟨q, B, X', hpost, hsteps⟩
  · exact Or.inl ⟨v, vm₁, B, X₁.warmed, X', hpost, fun target h => hstep₁ _ fun acts => by rw [doInvoke_state]; exact hsteps.trans h⟩
  · exact Or.inr ⟨q, vm₁, B, X₁.warmed, X', hpost, hstep₁ _ fun acts => by rw [doInvoke_state]; exact hsteps⟩
theorem vx_callVW (X : Stand p l e R s m args below meth c T locs cells slots) (hexec : p.tables.exec = Jvm.exec) {own C : String} {index : Nat} {y : MethodName} {bytes : ByteArray} {maxL : Nat} {ret : Option FieldType} {hh : List (Nat × Nat × Nat × Nat)}
    (hown : s.vm.findClass own = some m.cls) (hlink : (Cond.methodLink own index y).before args s = true) (hinst : (Cond.instanceMethod y).before args s = true) (hsel : (Cond.selects C y y).before args s = true)
    (hcode : (Cond.codeWith y bytes maxL ret hh).before args s = true) (hy : y.cls ≠ "java/lang/invoke/MethodHandle" ∧ y.cls ≠ "java/lang/invoke/VarHandle")
    {W9 : Nat} {Pre : Pt → Array Value → Prop} {Post : Pt → Array Value → Option Value → Pt → Prop} (hK : Back l R p e below s args y 3 W9 Pre Post)
    {b : Addr} {cellB : Cell} (hcell : T.heap[b]? = some cellB) (hobj : cellB.vm.isStatics = false) (hcls : s.vm.findClass C = some cellB.cls)
    {g : JFrame} (hg : g.method = m) (hsize : g.locals.size = c.maxLocals) {argsL rest : List Value} (hlen : ∀ sig, parseMethodDescriptor y.desc = some sig → argsL.length = sig.parameters.length)
    (hstack : g.stack = argsL.reverse ++ .ref b :: rest) (hW : 2 * g.monitorRoom + (rest.map fun v => v.category).sum ≤ W9) (hdg : decode c.code g.pc = .ok (.invokevirtual index, 3))
    (hpre : ∀ vm₁, s.WarmedH vm₁ → Pre ⟨T.setVm vm₁, locs, cells, slots⟩ (Value.ref b :: argsL).toArray) :
    ∃ (v : Option Value) (vm₁ : Vm) (B : Pt), s.WarmedH vm₁ ∧ Stand p l e R s m args below meth c B.U B.locs B.cells B.slots ∧ Post ⟨T.setVm vm₁, locs, cells, slots⟩ (Value.ref b :: argsL).toArray v B ∧
      ∀ target, Steps p.tables e below (B.U.setTop { g with pc := g.pc + 3, stack := v.toList ++ rest }) target → Steps p.tables e below (T.setTop g) target := by
  obtain ⟨mk, methM, hnamed, hmethM, hstM, habM⟩ := Cond.instanceMethod_spec hinst
  obtain ⟨m8, methM', cM, hn8, hmethM', -, -, -, -, -, -, hsigM⟩ := Cond.codeWith_spec hcode
  cases Option.some.inj (hn8.symm.trans hnamed)
  cases hmethM.symm.trans hmethM'
  obtain ⟨c2, r2, m2, q1, q2, q3, q4, kP, hkP, hkPi⟩ := Cond.selects_spec hsel
  cases hcls.symm.trans q1
  cases (State.methodFound?_of_named hnamed hy).symm.trans q2
  cases hnamed.symm.trans q3
  have hselP : selectMethod e.platform s.vm cellB.cls mk = .method mk := by rw [Launch.admits_selectMethod X.admits]; exact q4
  obtain ⟨vm₁, X₁, hstep₁⟩ := X.invokevirtual hexec hown hlink hnamed hmethM hstM hkP hkPi hy (a := b) (cell := cellB) hcell
    (fun z h => by rw [h] at hobj; cases hobj) hselP hmethM habM hkP hkPi (g := g) hg (argsL := argsL) (rest := rest) (hlen _ hsigM) hstack hdg
  obtain ⟨v, B, X', hpost, hsteps⟩ := hK m meth c ⟨T.setVm vm₁, locs, cells, slots⟩ { g with stack := rest } (.invokevirtual index) mk (Value.ref b :: argsL).toArray X₁ hg hsize hdg hW (X₁.named hnamed) (hpre vm₁ X₁.warmed)
  exact ⟨v, vm₁, B, X₁.warmed, X', hpost, fun target h => hstep₁ _ fun acts => by rw [doInvoke_state]; exact hsteps.trans h⟩
abbrev vx_CVW (R : Room) (s : State) (args : Array Value) (own C : String) (index : Nat) (y : MethodName) (bytes : ByteArray) (maxL : Nat) (ret : Option FieldType) (hh : List (Nat × Nat × Nat × Nat)) (ws : List Cond) (rm : Room) (mc ms n : Nat) : Prop :=
  (rm.cells = mc ∧ rm.slots = ms ∧ rm.frames + 1 ≤ R.frames ∧ 8 + (maxL + 11) + rm.locals ≤ R.locals ∧ (∀ w ∈ ws, ∀ (a' : Array Value) (U : State), s.WarmedH U.vm → w.before a' U = true) ∧ Cond.codeWith y bytes maxL ret hh ∈ ws) ∧
  (Cond.codeWith y bytes maxL ret hh).before args s = true ∧ (Cond.initialized y.cls).before args s = true ∧ (y.cls ≠ "java/lang/invoke/MethodHandle" ∧ y.cls ≠ "java/lang/invoke/VarHandle") ∧
  (∀ sig, parseMethodDescriptor y.desc = some sig → n = sig.parameters.length) ∧ (Cond.methodLink own index y).before args s = true ∧ (Cond.instanceMethod y).before args s = true ∧ (Cond.selects C y y).before args s = true
theorem vx_cwVW {own C : String} {index maxL mc ms : Nat} {y : MethodName} {bytes : ByteArray} {ret : Option FieldType} {hh : List (Nat × Nat × Nat × Nat)} {Ts ws ws' : List Cond} {rm : Room} (n : Nat) (ht : ∀ w ∈ Ts, w.before args s = true) (hT : GoodIn Ts (wsV own index C y ws)) (hw : ws = Cond.codeWith y bytes maxL ret hh :: ws') (hrc : rm.cells = mc) (hrs : rm.slots = ms)
    (hd : y.cls = C ∧ y.cls ≠ "java/lang/invoke/MethodHandle" ∧ y.cls ≠ "java/lang/invoke/VarHandle" ∧ (parseMethodDescriptor y.desc).map (fun d => d.parameters.length) = some n) (hR : rm.frames + 1 ≤ R.frames ∧ 8 + (maxL + 11) + rm.locals ≤ R.locals) :
    vx_CVW R s args own C index y bytes maxL ret hh ws rm mc ms n := by
  obtain ⟨hC, hd⟩ := hd
  subst hC
  have ok : ∀ w ∈ wsV own index y.cls y ws, w.before args s = true := fun w h => ht w (hT w h).1
  have hG : GoodIn Ts ws := fun w h => hT w (by unfold wsV; exact List.mem_append_right _ h)
  have hc : Cond.codeWith y bytes maxL ret hh ∈ ws := by rw [hw]; exact List.mem_cons_self
  refine ⟨⟨hrc, hrs, hR.1, hR.2, pay_in ht hG, hc⟩, ht _ (hG _ hc).1, ok _ (by simp [wsV]), ⟨hd.1, hd.2.1⟩, fun sig h => ?_, ok _ (by simp [wsV]), ok _ (by simp [wsV]), ok _ (by simp [wsV])⟩
  have h2 := hd.2.2
  rw [h] at h2
  exact (Option.some.inj h2).symm
theorem vx_runVW {y : MethodName} {bytes cc : ByteArray} {maxL nL mc ms n index : Nat} {ret : Option FieldType} {hh : List (Nat × Nat × Nat × Nat)} {ws : List Cond} {rm : Room} {Pc : Array Value → State → Prop} {Qc : Array Value → State → Outcome → State → Prop} {free : Addr → Prop} {Ts : List Cond} {own C : String} {b : Addr} {As rest : List Value} {g : JFrame}
    (S : CallFix p m c cc nL s args Ts own) (hM : Met l y ws rm Pc Qc mc ms free) (cw : vx_CVW R s args own C index y bytes maxL ret hh ws rm mc ms n) (hp : PreV s H C b Pc As)
    (hg : g.method = m) (hn : As.length = n) (hsize : g.locals.size = nL) (hstack : g.stack = As.reverse ++ .ref b :: rest) (hW : 2 * g.monitorRoom + (rest.map fun v => v.category).sum ≤ 8) (hdg : decode cc g.pc = .ok (.invokevirtual index, 3)) (hf : cells + mc ≤ R.cells ∧ slots + ms ≤ R.slots) :
    va_Run p l e R s m args below meth c H locs cells slots mc ms g rest (Qc (Value.ref b :: As).toArray) free := by
  obtain ⟨⟨hrc, hrs, hfr, hlo, hws, hcw⟩, hcode, hini, hy, hlen, hl, hin, hse⟩ := cw
  have hK : Back l R p e below s args y 3 8 (PreOf R mc ms Pc) (PostOf Qc mc ms free) := va_backW (hh := hh) (bytes := bytes) (maxL := maxL) (ret := ret) hM hp.1 hrc hrs hfr hlo hws hcw (fun a' U hW => word_at hW (Or.inl (by first | rfl | simp [Cond.onTables, Cond.keeps, Cond.steady])) hini)
  obtain ⟨hx, hb, hml, ho, -⟩ := S
  obtain ⟨-, ⟨cellB, hcB, hoB, hclB⟩, hPc⟩ := hp
  intro T hT X
  obtain ⟨v, vm₁, ⟨U', l2, c2, s2⟩, hW₁, X', ⟨g', mk, t, L, e1, e2, hq, h1, hL, h2, h3⟩, st⟩ := vx_callVW X hx (C := C) (hh := hh) (bytes := bytes) (maxL := maxL) (ret := ret) ho hl hin hse hcode hy hK (by rw [hT]; exact hcB) hoB hclB hg (hsize.trans hml.symm) (argsL := As) (rest := rest) (fun sig h => hn.trans (hlen sig h)) hstack hW (by rw [hb]; exact hdg)
    (fun vm₁ hW₁ => ⟨hf.1, hf.2, hPc (T.setVm vm₁) hT hW₁⟩)
  dsimp only [Pt.U, Pt.locs, Pt.cells, Pt.slots] at X' e1 e2 h1 h2 h3 st
  subst h1; subst h2; subst h3
  exact ⟨v, (T.setVm vm₁).calling g' mk (Value.ref b :: As).toArray, t, U', L, hT, X', hL, e1, e2, hq, st⟩
section
variable {y : MethodName} {bytes cc : ByteArray} {maxL nL mc ms n index : Nat} {ret : Option FieldType} {ws : List Cond} {rm : Room} {Pc : Array Value → State → Prop} {Qc : Array Value → State → Outcome → State → Prop} {XC : String → State → State → Prop} {free : Addr → Prop} {Ts : List Cond} {own C : String} {b : Addr} {As rest : List Value} {g : JFrame}
theorem vx_runVX {hh : List (Nat × Nat × Nat × Nat)} (S : CallFix p m c cc nL s args Ts own) (hM : vx_Met l y ws rm Pc Qc XC mc ms free) (cw : vx_CVW R s args own C index y bytes maxL ret hh ws rm mc ms n) (hp : PreV s H C b Pc As)
    (hg : g.method = m) (hn : As.length = n) (hsize : g.locals.size = nL) (hstack : g.stack = As.reverse ++ .ref b :: rest) (hW : 2 * g.monitorRoom + (rest.map fun v => v.category).sum ≤ 8) (hdg : decode cc g.pc = .ok (.invokevirtual index, 3)) (hf : cells + mc ≤ R.cells ∧ slots + ms ≤ R.slots) :
    vx_Run p l e R s m args below meth c H locs cells slots mc ms g rest (Qc (Value.ref b :: As).toArray) XC free := by
  obtain ⟨⟨hrc, hrs, hfr, hlo, hws, hcw⟩, hcode, hini, hy, hlen, hl, hin, hse⟩ := cw
  have hK : vx_Back l R p e below s args y 3 8 (PreOf R mc ms Pc) (PostOf Qc mc ms free) (vx_Post XC mc ms free) := vx_backW (hh := hh) (bytes := bytes) (maxL := maxL) (ret := ret) hM hp.1 hrc hrs hfr hlo hws hcw (fun a' U hW => word_at hW (Or.inl (by first | rfl | simp [Cond.onTables, Cond.keeps, Cond.steady])) hini)
  obtain ⟨hx, hb, hml, ho, -⟩ := S
  obtain ⟨-, ⟨cellB, hcB, hoB, hclB⟩, hPc⟩ := hp
  intro T hT X
  rcases vx_callVX X hx (C := C) (hh := hh) (bytes := bytes) (maxL := maxL) (ret := ret) ho hl hin hse hcode hy hK (by rw [hT]; exact hcB) hoB hclB hg (hsize.trans hml.symm) (argsL := As) (rest := rest) (fun sig h => hn.trans (hlen sig h)) hstack hW (by rw [hb]; exact hdg)
    (fun vm₁ hW₁ => ⟨hf.1, hf.2, hPc (T.setVm vm₁) hT hW₁⟩) with ⟨v, vm₁, ⟨U', l2, c2, s2⟩, hW₁, X', ⟨g', mk, t, L, e1, e2, hq, h1, hL, h2, h3⟩, st⟩ | ⟨q, vm₁, ⟨U', l2, c2, s2⟩, hW₁, X', ⟨g', mk, t, L, E, ce, e1, e2, hq, hce, hcv, hcl, h1, hL, h2, h3⟩, st⟩
  · dsimp only [Pt.U, Pt.locs, Pt.cells, Pt.slots] at X' e1 e2 h1 h2 h3 st
    subst h1; subst h2; subst h3
    exact Or.inl ⟨v, (T.setVm vm₁).calling g' mk (Value.ref b :: As).toArray, t, U', L, hT, X', hL, e1, e2, hq, st⟩
  · dsimp only [Pt.U, Pt.locs, Pt.cells, Pt.slots] at X' e1 e2 h1 h2 h3 st hcl
    subst h1; subst h2; subst h3
    exact Or.inr ⟨q, (T.setVm vm₁).calling g' mk (Value.ref b :: As).toArray, t, U', L, E, ce, hT, X', hL, e1, e2, hq, hce, hcv, vx_cls hW₁ hcl, st⟩
theorem vx_runSX {hh : List (Nat × Nat × Nat × Nat)} (S : CallFix p m c cc nL s args Ts own) (hM : vx_Met l y ws rm Pc Qc XC mc ms free) (cw : vx_CSW R s args own index y bytes maxL ret hh ws rm mc ms n) (hp : PreS s H Pc As)
    (hg : g.method = m) (hn : As.length = n) (hsize : g.locals.size = nL) (hstack : g.stack = As.reverse ++ rest) (hW : 2 * g.monitorRoom + (rest.map fun v => v.category).sum ≤ 8) (hdg : decode cc g.pc = .ok (.invokestatic index, 3)) (hf : cells + mc ≤ R.cells ∧ slots + ms ≤ R.slots) :
    vx_Run p l e R s m args below meth c H locs cells slots mc ms g rest (Qc As.toArray) XC free := by
  obtain ⟨⟨hrc, hrs, hfr, hlo, hws, hcw⟩, hcode, hini, hy, hlen, hl, hstt⟩ := cw
  have hK : vx_Back l R p e below s args y 3 8 (PreOf R mc ms Pc) (PostOf Qc mc ms free) (vx_Post XC mc ms free) := vx_backW (hh := hh) (bytes := bytes) (maxL := maxL) (ret := ret) hM hp.1 hrc hrs hfr hlo hws hcw (fun a' U hW => word_at hW (Or.inl (by first | rfl | simp [Cond.onTables, Cond.keeps, Cond.steady])) hini)
  obtain ⟨hx, hb, hml, ho, -⟩ := S
  intro T hT X
  rcases vx_callSX X hx (hh := hh) (bytes := bytes) (maxL := maxL) (ret := ret) ho hl hstt hini hcode hy hK hg (hsize.trans hml.symm) (argsL := As) (rest := rest) (fun sig h => hn.trans (hlen sig h)) hstack hW (by rw [hb]; exact hdg)
    (fun vm₁ hW₁ => ⟨hf.1, hf.2, hp.2 (T.setVm vm₁) hT hW₁⟩) with ⟨v, vm₁, ⟨U', l2, c2, s2⟩, hW₁, X', ⟨g', mk, t, L, e1, e2, hq, h1, hL, h2, h3⟩, st⟩ | ⟨q, vm₁, ⟨U', l2, c2, s2⟩, hW₁, X', ⟨g', mk, t, L, E, ce, e1, e2, hq, hce, hcv, hcl, h1, hL, h2, h3⟩, st⟩
  · dsimp only [Pt.U, Pt.locs, Pt.cells, Pt.slots] at X' e1 e2 h1 h2 h3 st
    subst h1; subst h2; subst h3
    exact Or.inl ⟨v, (T.setVm vm₁).calling g' mk As.toArray, t, U', L, hT, X', hL, e1, e2, hq, st⟩
  · dsimp only [Pt.U, Pt.locs, Pt.cells, Pt.slots] at X' e1 e2 h1 h2 h3 st hcl
    subst h1; subst h2; subst h3
    exact Or.inr ⟨q, (T.setVm vm₁).calling g' mk As.toArray, t, U', L, E, ce, hT, X', hL, e1, e2, hq, hce, hcv, vx_cls hW₁ hcl, st⟩
end
end VXH
theorem vx_ofWH {l : Launch} {y : MethodName} {ws ws' : List Cond} {rm : Room} {Pc : Array Value → State → Prop} {Qc : Array Value → State → Outcome → State → Prop} {XC : String → State → State → Prop} {mc ms : Nat} {free : Addr → Prop} {cc : ByteArray} {maxL : Nat} {ret : Option FieldType} {hh : List (Nat × Nat × Nat × Nat)}
    (hy : plainName y.cls = true) (hw : ws = Cond.codeWith y cc maxL ret hh :: ws')
    (body : ∀ p e s m args below meth c s₁, BodyLoose p l y (headSpec ws rm) cc maxL ret e s m args below meth c s₁ → c.maxLocals = maxL → Pc args s →
      W p l e (headSpec ws rm).room s m args below meth c s.heap [] 0 0 (vx_MQ below Qc XC args s mc ms free) (entryFrame m args maxL)) : vx_Met l y ws rm Pc Qc XC mc ms free := by
  refine MetFree.of_bodyS (code := cc) (maxLocals := maxL) (ret := ret) hy ?_ ?_
  · intro args s m h hn
    obtain ⟨m9, meth, c, hn9, h1, h2, h3, h4, -, h5, h6, -⟩ := Cond.codeWith_spec (atoms_spec (ws := ws) h _ (by rw [hw]; exact List.mem_cons_self))
    cases hn.symm.trans hn9
    exact ⟨meth, c, h1, h2, h3, h4, h5, h6⟩
  · intro p e s m args below meth c s₁ B hml hP _
    have hh0 : s₁.heap = s.heap := by rw [B.state]; rfl
    obtain ⟨t, a1, o, b1, b2, b3⟩ := body p e s m args below meth c s₁ B hml hP s₁ hh0 (Stand.of_body B)
    exact ⟨t, o, a1, b1, b2, b3⟩
/-! ===== END ===== -/

/-! ===== BEGIN a constructor that throws (launches without stack traces) ===== -/
section VXIA
variable {p : Program} {l : Launch} {e : Env} {R : Room} {s : State} {m : MethodId} {args : Array Value} {below : List Frame} {meth : Method} {c : Code} {T : State} {locs : List Loc} {cells slots : Nat}
theorem vx_callI (X : Stand p l e R s m args below meth c T locs cells slots) (hexec : p.tables.exec = Jvm.exec) {own : String} {index : Nat} {y : MethodName} {bytes : ByteArray} {maxL : Nat}
    (hown : s.vm.findClass own = some m.cls) (hy1 : y.name = "<init>") (hlink : (Cond.methodLink own index y).before args s = true) (hinst : (Cond.instanceMethod y).before args s = true)
    (hcode : (Cond.code y bytes maxL none).before args s = true) (hy : y.cls ≠ "java/lang/invoke/MethodHandle" ∧ y.cls ≠ "java/lang/invoke/VarHandle")
    {W9 : Nat} {Pre : Pt → Array Value → Prop} {Post : Pt → Array Value → Option Value → Pt → Prop} {PostX : Pt → Array Value → Addr → Pt → Prop} (hK : vx_Back l R p e below s args y 3 W9 Pre Post PostX)
    {g : JFrame} (hg : g.method = m) (hsize : g.locals.size = c.maxLocals) {a : Addr} {argsL rest : List Value} (hlen : ∀ sig, parseMethodDescriptor y.desc = some sig → argsL.length = sig.parameters.length)
    (hstack : g.stack = argsL.reverse ++ .ref a :: rest) (hW : 2 * g.monitorRoom + (rest.map fun v => v.category).sum ≤ W9) (hdg : decode c.code g.pc = .ok (.invokespecial index, 3))
    (hpre : ∀ vm₁, s.WarmedH vm₁ → Pre ⟨T.setVm vm₁, locs, cells, slots⟩ (Value.ref a :: argsL).toArray) :
    (∃ (v : Option Value) (vm₁ : Vm) (B : Pt), s.WarmedH vm₁ ∧ Stand p l e R s m args below meth c B.U B.locs B.cells B.slots ∧ Post ⟨T.setVm vm₁, locs, cells, slots⟩ (Value.ref a :: argsL).toArray v B ∧
      ∀ target, Steps p.tables e below (B.U.setTop { g with pc := g.pc + 3, stack := v.toList ++ rest }) target → Steps p.tables e below (T.setTop g) target) ∨
    (∃ (q : Addr) (vm₁ : Vm) (B : Pt), s.WarmedH vm₁ ∧ Stand p l e R s m args below meth c B.U B.locs B.cells B.slots ∧ PostX ⟨T.setVm vm₁, locs, cells, slots⟩ (Value.ref a :: argsL).toArray q B ∧
      Steps p.tables e below (T.setTop g) ((B.U.setTop { g with stack := rest }).pushFrame (.throwing q))) := by
  subst hg
  have hpl : e.platform.magicAccessors = ({} : Platform).magicAccessors := by rw [X.admits.platform]
  obtain ⟨mk, methM, cM, kP, vm₁, hnamed, hmethM, hcodeM, -, hlocalsM, -, hkP, -, hW₁, hstep₁⟩ := Steps.initColdArgs (e := e) X.here hexec X.warmed hpl hown hy1 hy hlink hinst hcode (f := g) rfl hlen hstack hdg
  have X₁ := X.noted hW₁
  rcases hK g.method meth c ⟨T.setVm vm₁, locs, cells, slots⟩ { g with stack := rest } (.invokespecial index) mk (Value.ref a :: argsL).toArray X₁ rfl hsize hdg hW (X₁.named hnamed) (hpre vm₁ X₁.warmed) with ⟨v, B, X', hpost, hsteps⟩ | ⟨q, B, X', hpost, hsteps⟩
  · exact Or.inl ⟨v, vm₁, B, X₁.warmed, X', hpost, fun target h => hstep₁ _ fun acts => by rw [doInvoke_state]; exact hsteps.trans h⟩
  · exact Or.inr ⟨q, vm₁, B, X₁.warmed, X', hpost, hstep₁ _ fun acts => by rw [doInvoke_state]; exact hsteps⟩
end VXIA
section VXIB
variable {p : Program} {l : Launch} {e : Env} {R : Room} {s : State} {m : MethodId} {args : Array Value} {below : List Frame} {meth : Method} {c : Code} {H : Heap} {locs : List Loc} {cells slots : Nat}
variable {y : MethodName} {bytes cc : ByteArray} {maxL nL mc ms n index : Nat} {ret : Option FieldType} {ws : List Cond} {rm : Room} {Pc : Array Value → State → Prop} {Qc : Array Value → State → Outcome → State → Prop} {XC : String → State → State → Prop} {free : Addr → Prop} {Ts : List Cond} {own C : String} {b : Addr} {As rest : List Value} {g : JFrame}
theorem vx_runI (S : CallFix p m c cc nL s args Ts own) (hM : vx_Met l y ws rm Pc Qc XC mc ms free) (cw : CallB R s args own index y bytes maxL none ws rm mc ms n ∧ y.name = "<init>" ∧ (Cond.instanceMethod y).before args s = true) (hp : PreS s H Pc (.ref b :: As))
    (hg : g.method = m) (hn : As.length = n) (hsize : g.locals.size = nL) (hstack : g.stack = As.reverse ++ .ref b :: rest) (hW : 2 * g.monitorRoom + (rest.map fun v => v.category).sum ≤ 8) (hdg : decode cc g.pc = .ok (.invokespecial index, 3)) (hf : cells + mc ≤ R.cells ∧ slots + ms ≤ R.slots) :
    vx_Run p l e R s m args below meth c H locs cells slots mc ms g rest (Qc (Value.ref b :: As).toArray) XC free := by
  have hK : vx_Back l R p e below s args y 3 8 (PreOf R mc ms Pc) (PostOf Qc mc ms free) (vx_Post XC mc ms free) := vx_callBack cw.1 hM hp.1
  obtain ⟨⟨-, -, -, -, -, -, hcode, -, hy, hlen, hl⟩, hy1, hin⟩ := cw
  obtain ⟨hx, hb, hml, ho, -⟩ := S
  have hPc := hp.2
  intro T hT X
  rcases vx_callI X hx (bytes := bytes) (maxL := maxL) ho hy1 hl hin hcode hy hK hg (hsize.trans hml.symm) (a := b) (argsL := As) (rest := rest) (fun sig h => hn.trans (hlen sig h)) hstack hW (by rw [hb]; exact hdg)
    (fun vm₁ hW₁ => ⟨hf.1, hf.2, hPc (T.setVm vm₁) hT hW₁⟩) with ⟨v, vm₁, ⟨U', l2, c2, s2⟩, hW₁, X', ⟨g', mk, t, L, e1, e2, hq, h1, hL, h2, h3⟩, st⟩ | ⟨q, vm₁, ⟨U', l2, c2, s2⟩, hW₁, X', ⟨g', mk, t, L, E, ce, e1, e2, hq, hce, hcv, hcl, h1, hL, h2, h3⟩, st⟩
  · dsimp only [Pt.U, Pt.locs, Pt.cells, Pt.slots] at X' e1 e2 h1 h2 h3 st
    subst h1; subst h2; subst h3
    exact Or.inl ⟨v, (T.setVm vm₁).calling g' mk (Value.ref b :: As).toArray, t, U', L, hT, X', hL, e1, e2, hq, st⟩
  · dsimp only [Pt.U, Pt.locs, Pt.cells, Pt.slots] at X' e1 e2 h1 h2 h3 st hcl
    subst h1; subst h2; subst h3
    exact Or.inr ⟨q, (T.setVm vm₁).calling g' mk (Value.ref b :: As).toArray, t, U', L, E, ce, hT, X', hL, e1, e2, hq, hce, hcv, vx_cls hW₁ hcl, st⟩
end VXIB
/-! ===== END ===== -/
/-! ===== BEGIN a private constructor of a nest mate that throws ===== -/
section VXIC
variable {p : Program} {l : Launch} {e : Env} {R : Room} {s : State} {m : MethodId} {args : Array Value} {below : List Frame} {meth : Method} {c : Code} {T : State} {locs : List Loc} {cells slots : Nat}
theorem vx_callIN (X : Stand p l e R s m args below meth c T locs cells slots) (hexec : p.tables.exec = Jvm.exec) {own : String} {index : Nat} {host : String} {y : MethodName} {bytes : ByteArray} {maxL : Nat}
    (hown : s.vm.findClass own = some m.cls) (hy1 : y.name = "<init>") (hlink : (Cond.methodLinkNest own index y host).before args s = true) (hinst : (Cond.instanceMethod y).before args s = true)
    (hcode : (Cond.code y bytes maxL none).before args s = true) (hy : y.cls ≠ "java/lang/invoke/MethodHandle" ∧ y.cls ≠ "java/lang/invoke/VarHandle")
    {W9 : Nat} {Pre : Pt → Array Value → Prop} {Post : Pt → Array Value → Option Value → Pt → Prop} {PostX : Pt → Array Value → Addr → Pt → Prop} (hK : vx_Back l R p e below s args y 3 W9 Pre Post PostX)
    {g : JFrame} (hg : g.method = m) (hsize : g.locals.size = c.maxLocals) {a : Addr} {argsL rest : List Value} (hlen : ∀ sig, parseMethodDescriptor y.desc = some sig → argsL.length = sig.parameters.length)
    (hstack : g.stack = argsL.reverse ++ .ref a :: rest) (hW : 2 * g.monitorRoom + (rest.map fun v => v.category).sum ≤ W9) (hdg : decode c.code g.pc = .ok (.invokespecial index, 3))
    (hpre : ∀ vm₁, s.WarmedH vm₁ → Pre ⟨T.setVm vm₁, locs, cells, slots⟩ (Value.ref a :: argsL).toArray) :
    (∃ (v : Option Value) (vm₁ : Vm) (B : Pt), s.WarmedH vm₁ ∧ Stand p l e R s m args below meth c B.U B.locs B.cells B.slots ∧ Post ⟨T.setVm vm₁, locs, cells, slots⟩ (Value.ref a :: argsL).toArray v B ∧
      ∀ target, Steps p.tables e below (B.U.setTop { g with pc := g.pc + 3, stack := v.toList ++ rest }) target → Steps p.tables e below (T.setTop g) target) ∨
    (∃ (q : Addr) (vm₁ : Vm) (B : Pt), s.WarmedH vm₁ ∧ Stand p l e R s m args below meth c B.U B.locs B.cells B.slots ∧ PostX ⟨T.setVm vm₁, locs, cells, slots⟩ (Value.ref a :: argsL).toArray q B ∧
      Steps p.tables e below (T.setTop g) ((B.U.setTop { g with stack := rest }).pushFrame (.throwing q))) := by
  subst hg
  have hpl : e.platform.magicAccessors = ({} : Platform).magicAccessors := by rw [X.admits.platform]
  obtain ⟨mk, methM, cM, kP, vm₁, hnamed, hmethM, hcodeM, -, hlocalsM, -, hkP, -, hW₁, hstep₁⟩ := Steps.initColdArgsNest (e := e) X.here hexec X.warmed hpl hown hy1 hy hlink hinst hcode (f := g) rfl hlen hstack hdg
  have X₁ := X.noted hW₁
  rcases hK g.method meth c ⟨T.setVm vm₁, locs, cells, slots⟩ { g with stack := rest } (.invokespecial index) mk (Value.ref a :: argsL).toArray X₁ rfl hsize hdg hW (X₁.named hnamed) (hpre vm₁ X₁.warmed) with ⟨v, B, X', hpost, hsteps⟩ | ⟨q, B, X', hpost, hsteps⟩
  · exact Or.inl ⟨v, vm₁, B, X₁.warmed, X', hpost, fun target h => hstep₁ _ fun acts => by rw [doInvoke_state]; exact hsteps.trans h⟩
  · exact Or.inr ⟨q, vm₁, B, X₁.warmed, X', hpost, hstep₁ _ fun acts => by rw [doInvoke_state]; exact hsteps⟩
end VXIC
section VXID
variable {p : Program} {l : Launch} {e : Env} {R : Room} {s : State} {m : MethodId} {args : Array Value} {below : List Frame} {meth : Method} {c : Code} {H : Heap} {locs : List Loc} {cells slots : Nat}
theorem vx_runIN {y : MethodName} {bytes cc : ByteArray} {maxL nL mc ms n index : Nat} {ws : List Cond} {rm : Room} {Pc : Array Value → State → Prop} {Qc : Array Value → State → Outcome → State → Prop} {XC : String → State → State → Prop} {free : Addr → Prop} {Ts : List Cond} {own host : String} {b : Addr} {As rest : List Value} {g : JFrame}
    (S : CallFix p m c cc nL s args Ts own) (hM : vx_Met l y ws rm Pc Qc XC mc ms free) (cw : va_CN R s args own index y host bytes maxL none ws rm mc ms n ∧ y.name = "<init>" ∧ (Cond.instanceMethod y).before args s = true) (hp : PreS s H Pc (.ref b :: As))
    (hg : g.method = m) (hn : As.length = n) (hsize : g.locals.size = nL) (hstack : g.stack = As.reverse ++ .ref b :: rest) (hW : 2 * g.monitorRoom + (rest.map fun v => v.category).sum ≤ 8) (hdg : decode cc g.pc = .ok (.invokespecial index, 3)) (hf : cells + mc ≤ R.cells ∧ slots + ms ≤ R.slots) :
    vx_Run p l e R s m args below meth c H locs cells slots mc ms g rest (Qc (Value.ref b :: As).toArray) XC free := by
  obtain ⟨⟨⟨hrc, hrs, hfr, hlo, hws, hcw⟩, hcode, hini, hy, hlen, hl⟩, hx1, hx2⟩ := cw
  have hK : vx_Back l R p e below s args y 3 8 (PreOf R mc ms Pc) (PostOf Qc mc ms free) (vx_Post XC mc ms free) := vx_back (bytes := bytes) (maxL := maxL) (ret := none) hM hp.1 hrc hrs hfr hlo hws hcw (fun a' U hW => word_at hW (Or.inl (by first | rfl | simp [Cond.onTables, Cond.keeps, Cond.steady])) hini)
  obtain ⟨hx, hb, hml, ho, -⟩ := S
  have hPc := hp.2
  intro T hT X
  rcases vx_callIN X hx (bytes := bytes) (maxL := maxL) ho hx1 hl hx2 hcode hy hK hg (hsize.trans hml.symm) (a := b) (argsL := As) (rest := rest) (fun sig h => hn.trans (hlen sig h)) hstack hW (by rw [hb]; exact hdg)
    (fun vm₁ hW₁ => ⟨hf.1, hf.2, hPc (T.setVm vm₁) hT hW₁⟩) with ⟨v, vm₁, ⟨U', l2, c2, s2⟩, hW₁, X', ⟨g', mk, t, L, e1, e2, hq, h1, hL, h2, h3⟩, st⟩ | ⟨q, vm₁, ⟨U', l2, c2, s2⟩, hW₁, X', ⟨g', mk, t, L, E, ce, e1, e2, hq, hce, hcv, hcl, h1, hL, h2, h3⟩, st⟩
  · dsimp only [Pt.U, Pt.locs, Pt.cells, Pt.slots] at X' e1 e2 h1 h2 h3 st
    subst h1; subst h2; subst h3
    exact Or.inl ⟨v, (T.setVm vm₁).calling g' mk (Value.ref b :: As).toArray, t, U', L, hT, X', hL, e1, e2, hq, st⟩
  · dsimp only [Pt.U, Pt.locs, Pt.cells, Pt.slots] at X' e1 e2 h1 h2 h3 st hcl
    subst h1; subst h2; subst h3
    exact Or.inr ⟨q, (T.setVm vm₁).calling g' mk (Value.ref b :: As).toArray, t, U', L, E, ce, hT, X', hL, e1, e2, hq, hce, hcv, vx_cls hW₁ hcl, st⟩
end VXID
/-! ===== END ===== -/
end
section
def RX0 : String := "BookplateHall$BookRecord"
def TX0 : u_T := fun k => match k with
  | 0 => ("BookplateHall$BookRecord", "number", "I", true)
  | 1 => ("BookplateHall$BookRecord", "author", "LBookplateHall$Name;", true)
  | 2 => ("BookplateHall$BookRecord", "title", "I", true)
  | 3 => ("BookplateHall$BookRecord", "year", "I", true)
  | 4 => ("BookplateHall$BookRecord", "line", "LBookplateHall$WaitingLine;", true)
  | 5 => ("BookplateHall$BookRecord", "wentInto", "LBookplateHall$BookRecord;", false)
  | _ => ("BookplateHall$BookRecord", "timesLent", "I", false)
def tyX0 : Nat → FieldType := fun k => match k with
  | 0 => .int
  | 1 => .object "BookplateHall$Name"
  | 2 => .int
  | 3 => .int
  | 4 => .object "BookplateHall$WaitingLine"
  | 5 => .object "BookplateHall$BookRecord"
  | _ => .int
abbrev wsX00 : List Cond := u_ws RX0 TX0 7
theorem nmX0 : ∀ a, a < 7 → ∀ b, b < 7 → a ≠ b → (TX0 a).2.1 ≠ (TX0 b).2.1 := by decide +kernel
theorem tyX0_ok : ∀ k, k < 7 → parseFieldDescriptor (TX0 k).2.2.1 = some (tyX0 k) := by decide +kernel
abbrev cX0_init : ByteArray := prog_2_method_1_code
def yX0_init : MethodName := ⟨RX0, "<init>", "(ILBookplateHall$Name;II)V"⟩
abbrev cX0_isLive : ByteArray := prog_2_method_2_code
def yX0_isLive : MethodName := ⟨RX0, "isLive", "()Z"⟩
abbrev cX0_liveOne : ByteArray := prog_2_method_3_code
def yX0_liveOne : MethodName := ⟨RX0, "liveOne", "()LBookplateHall$BookRecord;"⟩
abbrev cX0_isBy : ByteArray := prog_2_method_5_code
def yX0_isBy : MethodName := ⟨RX0, "isBy", "(LBookplateHall$Name;)Z"⟩
abbrev cX0_likenessTo : ByteArray := prog_2_method_6_code
def yX0_likenessTo : MethodName := ⟨RX0, "likenessTo", "(LBookplateHall$BookRecord;)I"⟩
abbrev cX0_likenessOfAuthors : ByteArray := prog_2_method_7_code
def yX0_likenessOfAuthors : MethodName := ⟨RX0, "likenessOfAuthors", "(LBookplateHall$BookRecord;)I"⟩
abbrev cX0_likenessOfTitles : ByteArray := prog_2_method_8_code
def yX0_likenessOfTitles : MethodName := ⟨RX0, "likenessOfTitles", "(LBookplateHall$BookRecord;)I"⟩
abbrev cX0_likenessOfYears : ByteArray := prog_2_method_9_code
def yX0_likenessOfYears : MethodName := ⟨RX0, "likenessOfYears", "(LBookplateHall$BookRecord;)I"⟩
def RX1 : String := "BookplateHall$Copy"
def TX1 : u_T := fun k => match k with
  | 0 => ("BookplateHall$Copy", "number", "I", true)
  | 1 => ("BookplateHall$Copy", "price", "I", true)
  | 2 => ("BookplateHall$Copy", "record", "LBookplateHall$BookRecord;", false)
  | 3 => ("BookplateHall$Copy", "place", "I", false)
  | 4 => ("BookplateHall$Copy", "reader", "LBookplateHall$Reader;", false)
  | 5 => ("BookplateHall$Copy", "day", "I", false)
  | 6 => ("BookplateHall$Copy", "timesRenewed", "I", false)
  | _ => ("BookplateHall$Copy", "thereIn", "I", false)
def tyX1 : Nat → FieldType := fun k => match k with
  | 0 => .int
  | 1 => .int
  | 2 => .object "BookplateHall$BookRecord"
  | 3 => .int
  | 4 => .object "BookplateHall$Reader"
  | 5 => .int
  | 6 => .int
  | _ => .int
abbrev wsX10 : List Cond := u_ws RX1 TX1 8
theorem nmX1 : ∀ a, a < 8 → ∀ b, b < 8 → a ≠ b → (TX1 a).2.1 ≠ (TX1 b).2.1 := by decide +kernel
theorem tyX1_ok : ∀ k, k < 8 → parseFieldDescriptor (TX1 k).2.2.1 = some (tyX1 k) := by decide +kernel
abbrev cX1_init : ByteArray := prog_3_method_1_code
def yX1_init : MethodName := ⟨RX1, "<init>", "(ILBookplateHall$BookRecord;I)V"⟩
abbrev cX1_put : ByteArray := prog_3_method_2_code
def yX1_put : MethodName := ⟨RX1, "put", "(ILBookplateHall$Reader;I)V"⟩
abbrev cX1_isAsideFor : ByteArray := prog_3_method_3_code
def yX1_isAsideFor : MethodName := ⟨RX1, "isAsideFor", "(LBookplateHall$Reader;LBookplateHall$BookRecord;)Z"⟩
abbrev cX1_daysLateOn : ByteArray := prog_3_method_4_code
def yX1_daysLateOn : MethodName := ⟨RX1, "daysLateOn", "(I)I"⟩
abbrev cX1_isLostOn : ByteArray := prog_3_method_5_code
def yX1_isLostOn : MethodName := ⟨RX1, "isLostOn", "(I)Z"⟩
abbrev cX1_fineOn : ByteArray := prog_3_method_6_code
def yX1_fineOn : MethodName := ⟨RX1, "fineOn", "(I)I"⟩
abbrev cX1_feeWhenLost : ByteArray := prog_3_method_7_code
def yX1_feeWhenLost : MethodName := ⟨RX1, "feeWhenLost", "()I"⟩
abbrev cX1_daysUntilThere : ByteArray := prog_3_method_8_code
def yX1_daysUntilThere : MethodName := ⟨RX1, "daysUntilThere", "(I)I"⟩
def RX2 : String := "BookplateHall$Name"
def TX2 : u_T := fun k => match k with
  | 0 => ("BookplateHall$Name", "number", "I", true)
  | _ => ("BookplateHall$Name", "variantOf", "LBookplateHall$Name;", false)
def tyX2 : Nat → FieldType := fun k => match k with
  | 0 => .int
  | _ => .object "BookplateHall$Name"
abbrev wsX20 : List Cond := u_ws RX2 TX2 2
theorem nmX2 : ∀ a, a < 2 → ∀ b, b < 2 → a ≠ b → (TX2 a).2.1 ≠ (TX2 b).2.1 := by decide +kernel
theorem tyX2_ok : ∀ k, k < 2 → parseFieldDescriptor (TX2 k).2.2.1 = some (tyX2 k) := by decide +kernel
abbrev cX2_init : ByteArray := prog_4_method_1_code
def yX2_init : MethodName := ⟨RX2, "<init>", "(I)V"⟩
abbrev cX2_stoodFor : ByteArray := prog_4_method_2_code
def yX2_stoodFor : MethodName := ⟨RX2, "stoodFor", "()LBookplateHall$Name;"⟩
def RX3 : String := "BookplateHall$Reader"
def TX3 : u_T := fun k => match k with
  | 0 => ("BookplateHall$Reader", "number", "I", true)
  | 1 => ("BookplateHall$Reader", "kind", "I", true)
  | _ => ("BookplateHall$Reader", "owes", "I", false)
def tyX3 : Nat → FieldType := fun k => match k with
  | 0 => .int
  | 1 => .int
  | _ => .int
abbrev wsX30 : List Cond := u_ws RX3 TX3 3
theorem nmX3 : ∀ a, a < 3 → ∀ b, b < 3 → a ≠ b → (TX3 a).2.1 ≠ (TX3 b).2.1 := by decide +kernel
theorem tyX3_ok : ∀ k, k < 3 → parseFieldDescriptor (TX3 k).2.2.1 = some (tyX3 k) := by decide +kernel
abbrev cX3_init : ByteArray := prog_5_method_1_code
def yX3_init : MethodName := ⟨RX3, "<init>", "(II)V"⟩
abbrev cX3_mostCopies : ByteArray := prog_5_method_2_code
def yX3_mostCopies : MethodName := ⟨RX3, "mostCopies", "()I"⟩
abbrev cX3_daysOfALoan : ByteArray := prog_5_method_3_code
def yX3_daysOfALoan : MethodName := ⟨RX3, "daysOfALoan", "()I"⟩
def RX4 : String := "BookplateHall$WaitingLine"
def TX4 : u_T := fun k => match k with
  | 0 => ("BookplateHall$WaitingLine", "readers", "[LBookplateHall$Reader;", true)
  | _ => ("BookplateHall$WaitingLine", "length", "I", false)
def tyX4 : Nat → FieldType := fun k => match k with
  | 0 => .array (.object "BookplateHall$Reader")
  | _ => .int
abbrev wsX40 : List Cond := u_ws RX4 TX4 2
theorem nmX4 : ∀ a, a < 2 → ∀ b, b < 2 → a ≠ b → (TX4 a).2.1 ≠ (TX4 b).2.1 := by decide +kernel
theorem tyX4_ok : ∀ k, k < 2 → parseFieldDescriptor (TX4 k).2.2.1 = some (tyX4 k) := by decide +kernel
abbrev cX4_init : ByteArray := prog_6_method_1_code
def yX4_init : MethodName := ⟨RX4, "<init>", "()V"⟩
abbrev cX4_holds : ByteArray := prog_6_method_2_code
def yX4_holds : MethodName := ⟨RX4, "holds", "(LBookplateHall$Reader;)Z"⟩
abbrev cX4_at : ByteArray := prog_6_method_3_code
def yX4_at : MethodName := ⟨RX4, "at", "(I)LBookplateHall$Reader;"⟩
abbrev cX4_join : ByteArray := prog_6_method_4_code
def yX4_join : MethodName := ⟨RX4, "join", "(LBookplateHall$Reader;)V"⟩
abbrev cX4_drop : ByteArray := prog_6_method_5_code
def yX4_drop : MethodName := ⟨RX4, "drop", "(LBookplateHall$Reader;)V"⟩
abbrev cX4_clear : ByteArray := prog_6_method_6_code
def yX4_clear : MethodName := ⟨RX4, "clear", "()V"⟩
def RX5 : String := "BookplateHall"
def TX5 : u_T := fun k => match k with
  | 0 => ("BookplateHall", "names", "[LBookplateHall$Name;", true)
  | 1 => ("BookplateHall", "records", "[LBookplateHall$BookRecord;", true)
  | 2 => ("BookplateHall", "copies", "[LBookplateHall$Copy;", true)
  | 3 => ("BookplateHall", "readers", "[LBookplateHall$Reader;", true)
  | 4 => ("BookplateHall", "nameCount", "I", false)
  | 5 => ("BookplateHall", "recordCount", "I", false)
  | 6 => ("BookplateHall", "copyCount", "I", false)
  | 7 => ("BookplateHall", "readerCount", "I", false)
  | _ => ("BookplateHall", "today", "I", false)
def tyX5 : Nat → FieldType := fun k => match k with
  | 0 => .array (.object "BookplateHall$Name")
  | 1 => .array (.object "BookplateHall$BookRecord")
  | 2 => .array (.object "BookplateHall$Copy")
  | 3 => .array (.object "BookplateHall$Reader")
  | 4 => .int
  | 5 => .int
  | 6 => .int
  | 7 => .int
  | _ => .int
abbrev wsX50 : List Cond := u_ws RX5 TX5 9
theorem nmX5 : ∀ a, a < 9 → ∀ b, b < 9 → a ≠ b → (TX5 a).2.1 ≠ (TX5 b).2.1 := by decide +kernel
theorem tyX5_ok : ∀ k, k < 9 → parseFieldDescriptor (TX5 k).2.2.1 = some (tyX5 k) := by decide +kernel
abbrev cX5_init : ByteArray := prog_1_method_1_code
def yX5_init : MethodName := ⟨RX5, "<init>", "()V"⟩
abbrev cX5_name : ByteArray := prog_1_method_2_code
def yX5_name : MethodName := ⟨RX5, "name", "()I"⟩
abbrev cX5_record : ByteArray := prog_1_method_5_code
def yX5_record : MethodName := ⟨RX5, "record", "(III)I"⟩
abbrev cX5_ofRecord : ByteArray := prog_1_method_6_code
def yX5_ofRecord : MethodName := ⟨RX5, "ofRecord", "(II)I"⟩
abbrev cX5_likeness : ByteArray := prog_1_method_7_code
def yX5_likeness : MethodName := ⟨RX5, "likeness", "(II)I"⟩
abbrev cX5_twin : ByteArray := prog_1_method_8_code
def yX5_twin : MethodName := ⟨RX5, "twin", "(II)I"⟩
abbrev cX5_lay : ByteArray := prog_1_method_9_code
def yX5_lay : MethodName := ⟨RX5, "lay", "(II)I"⟩
abbrev cX5_copy : ByteArray := prog_1_method_11_code
def yX5_copy : MethodName := ⟨RX5, "copy", "(II)I"⟩
abbrev cX5_ofCopy : ByteArray := prog_1_method_12_code
def yX5_ofCopy : MethodName := ⟨RX5, "ofCopy", "(II)I"⟩
abbrev cX5_reader : ByteArray := prog_1_method_13_code
def yX5_reader : MethodName := ⟨RX5, "reader", "(I)I"⟩
abbrev cX5_ofReader : ByteArray := prog_1_method_14_code
def yX5_ofReader : MethodName := ⟨RX5, "ofReader", "(II)I"⟩
abbrev cX5_pay : ByteArray := prog_1_method_15_code
def yX5_pay : MethodName := ⟨RX5, "pay", "(II)I"⟩
abbrev cX5_lend : ByteArray := prog_1_method_17_code
def yX5_lend : MethodName := ⟨RX5, "lend", "(II)I"⟩
abbrev cX5_renew : ByteArray := prog_1_method_18_code
def yX5_renew : MethodName := ⟨RX5, "renew", "(I)I"⟩
abbrev cX5_back : ByteArray := prog_1_method_19_code
def yX5_back : MethodName := ⟨RX5, "back", "(I)I"⟩
abbrev cX5_find : ByteArray := prog_1_method_20_code
def yX5_find : MethodName := ⟨RX5, "find", "(I)I"⟩
abbrev cX5_await : ByteArray := prog_1_method_21_code
def yX5_await : MethodName := ⟨RX5, "await", "(II)I"⟩
abbrev cX5_leave : ByteArray := prog_1_method_22_code
def yX5_leave : MethodName := ⟨RX5, "leave", "(II)I"⟩
abbrev cX5_waiter : ByteArray := prog_1_method_23_code
def yX5_waiter : MethodName := ⟨RX5, "waiter", "(II)I"⟩
abbrev cX5_pass : ByteArray := prog_1_method_24_code
def yX5_pass : MethodName := ⟨RX5, "pass", "(I)I"⟩
abbrev cX5_many : ByteArray := prog_1_method_25_code
def yX5_many : MethodName := ⟨RX5, "many", "(I)I"⟩
abbrev cX5_meanWaits : ByteArray := prog_1_method_26_code
def yX5_meanWaits : MethodName := ⟨RX5, "meanWaits", "()D"⟩
abbrev cX5_fineIn : ByteArray := prog_1_method_27_code
def yX5_fineIn : MethodName := ⟨RX5, "fineIn", "(II)I"⟩
abbrev cX5_soon : ByteArray := prog_1_method_28_code
def yX5_soon : MethodName := ⟨RX5, "soon", "(II)I"⟩
abbrev cX5_mayBorrow : ByteArray := prog_1_method_29_code
def yX5_mayBorrow : MethodName := ⟨RX5, "mayBorrow", "(I)I"⟩
abbrev cX5_lostIn : ByteArray := prog_1_method_30_code
def yX5_lostIn : MethodName := ⟨RX5, "lostIn", "(I)I"⟩
abbrev cX5_digest : ByteArray := prog_1_method_31_code
def yX5_digest : MethodName := ⟨RX5, "digest", "()J"⟩
abbrev cX5_knownName : ByteArray := prog_1_method_32_code
def yX5_knownName : MethodName := ⟨RX5, "knownName", "(I)LBookplateHall$Name;"⟩
abbrev cX5_knownNameOrNull : ByteArray := prog_1_method_33_code
def yX5_knownNameOrNull : MethodName := ⟨RX5, "knownNameOrNull", "(I)LBookplateHall$Name;"⟩
abbrev cX5_knownRecord : ByteArray := prog_1_method_34_code
def yX5_knownRecord : MethodName := ⟨RX5, "knownRecord", "(I)LBookplateHall$BookRecord;"⟩
abbrev cX5_knownCopy : ByteArray := prog_1_method_35_code
def yX5_knownCopy : MethodName := ⟨RX5, "knownCopy", "(I)LBookplateHall$Copy;"⟩
abbrev cX5_knownReader : ByteArray := prog_1_method_36_code
def yX5_knownReader : MethodName := ⟨RX5, "knownReader", "(I)LBookplateHall$Reader;"⟩
abbrev cX5_requireBetween : ByteArray := prog_1_method_37_code
def yX5_requireBetween : MethodName := ⟨RX5, "requireBetween", "(III)V"⟩
abbrev cX5_factOfRecord : ByteArray := prog_1_method_38_code
def yX5_factOfRecord : MethodName := ⟨RX5, "factOfRecord", "(LBookplateHall$BookRecord;I)I"⟩
abbrev cX5_factOfCopy : ByteArray := prog_1_method_39_code
def yX5_factOfCopy : MethodName := ⟨RX5, "factOfCopy", "(LBookplateHall$Copy;I)I"⟩
abbrev cX5_factOfReader : ByteArray := prog_1_method_40_code
def yX5_factOfReader : MethodName := ⟨RX5, "factOfReader", "(LBookplateHall$Reader;I)I"⟩
abbrev cX5_total : ByteArray := prog_1_method_41_code
def yX5_total : MethodName := ⟨RX5, "total", "(I)I"⟩
abbrev cX5_copiesNotLost : ByteArray := prog_1_method_42_code
def yX5_copiesNotLost : MethodName := ⟨RX5, "copiesNotLost", "(LBookplateHall$BookRecord;)I"⟩
abbrev cX5_copiesOf : ByteArray := prog_1_method_43_code
def yX5_copiesOf : MethodName := ⟨RX5, "copiesOf", "(LBookplateHall$Reader;I)I"⟩
abbrev cX5_lateCopiesOf : ByteArray := prog_1_method_44_code
def yX5_lateCopiesOf : MethodName := ⟨RX5, "lateCopiesOf", "(LBookplateHall$Reader;)I"⟩
abbrev cX5_finesOf : ByteArray := prog_1_method_45_code
def yX5_finesOf : MethodName := ⟨RX5, "finesOf", "(LBookplateHall$Reader;)I"⟩
abbrev cX5_waitsOf : ByteArray := prog_1_method_46_code
def yX5_waitsOf : MethodName := ⟨RX5, "waitsOf", "(LBookplateHall$Reader;)I"⟩
abbrev cX5_liveRecords : ByteArray := prog_1_method_47_code
def yX5_liveRecords : MethodName := ⟨RX5, "liveRecords", "()I"⟩
abbrev cX5_copiesAt : ByteArray := prog_1_method_48_code
def yX5_copiesAt : MethodName := ⟨RX5, "copiesAt", "(I)I"⟩
abbrev cX5_owedByAll : ByteArray := prog_1_method_49_code
def yX5_owedByAll : MethodName := ⟨RX5, "owedByAll", "()I"⟩
abbrev cX5_reasonAgainst : ByteArray := prog_1_method_50_code
def yX5_reasonAgainst : MethodName := ⟨RX5, "reasonAgainst", "(LBookplateHall$Reader;LBookplateHall$Copy;)I"⟩
abbrev cX5_borrowable : ByteArray := prog_1_method_51_code
def yX5_borrowable : MethodName := ⟨RX5, "borrowable", "(LBookplateHall$Reader;)I"⟩
abbrev cX5_mayBeRenewed : ByteArray := prog_1_method_52_code
def yX5_mayBeRenewed : MethodName := ⟨RX5, "mayBeRenewed", "(LBookplateHall$Copy;)Z"⟩
abbrev cX5_hasCopyOf : ByteArray := prog_1_method_53_code
def yX5_hasCopyOf : MethodName := ⟨RX5, "hasCopyOf", "(LBookplateHall$Reader;LBookplateHall$BookRecord;)Z"⟩
abbrev cX5_firstAside : ByteArray := prog_1_method_54_code
def yX5_firstAside : MethodName := ⟨RX5, "firstAside", "(LBookplateHall$Reader;LBookplateHall$BookRecord;)LBookplateHall$Copy;"⟩
abbrev cX5_firstIn : ByteArray := prog_1_method_55_code
def yX5_firstIn : MethodName := ⟨RX5, "firstIn", "(LBookplateHall$BookRecord;)LBookplateHall$Copy;"⟩
abbrev cX5_firstWithNoneAside : ByteArray := prog_1_method_56_code
def yX5_firstWithNoneAside : MethodName := ⟨RX5, "firstWithNoneAside", "(LBookplateHall$BookRecord;)LBookplateHall$Reader;"⟩
abbrev cX5_free : ByteArray := prog_1_method_57_code
def yX5_free : MethodName := ⟨RX5, "free", "(LBookplateHall$Copy;)V"⟩
abbrev cX5_endWait : ByteArray := prog_1_method_58_code
def yX5_endWait : MethodName := ⟨RX5, "endWait", "(LBookplateHall$Reader;LBookplateHall$BookRecord;)V"⟩
abbrev cX5_moveCopies : ByteArray := prog_1_method_59_code
def yX5_moveCopies : MethodName := ⟨RX5, "moveCopies", "(LBookplateHall$BookRecord;LBookplateHall$BookRecord;)V"⟩
abbrev cX5_moveWaiters : ByteArray := prog_1_method_60_code
def yX5_moveWaiters : MethodName := ⟨RX5, "moveWaiters", "(LBookplateHall$BookRecord;LBookplateHall$BookRecord;)V"⟩
abbrev cX5_freeThoseWronglyAside : ByteArray := prog_1_method_61_code
def yX5_freeThoseWronglyAside : MethodName := ⟨RX5, "freeThoseWronglyAside", "()V"⟩
abbrev cX5_isRightlyAside : ByteArray := prog_1_method_62_code
def yX5_isRightlyAside : MethodName := ⟨RX5, "isRightlyAside", "(LBookplateHall$Copy;)Z"⟩
abbrev cX5_freeThoseIn : ByteArray := prog_1_method_63_code
def yX5_freeThoseIn : MethodName := ⟨RX5, "freeThoseIn", "()V"⟩
abbrev cX5_passOneDay : ByteArray := prog_1_method_64_code
def yX5_passOneDay : MethodName := ⟨RX5, "passOneDay", "()I"⟩
abbrev cX5_lose : ByteArray := prog_1_method_65_code
def yX5_lose : MethodName := ⟨RX5, "lose", "(LBookplateHall$Copy;)V"⟩
abbrev cX5_lostWithin : ByteArray := prog_1_method_66_code
def yX5_lostWithin : MethodName := ⟨RX5, "lostWithin", "(I)I"⟩
abbrev cX5_daysUntilServed : ByteArray := prog_1_method_67_code
def yX5_daysUntilServed : MethodName := ⟨RX5, "daysUntilServed", "(LBookplateHall$Reader;LBookplateHall$BookRecord;)I"⟩
abbrev cX5_reckonWhenThere : ByteArray := prog_1_method_68_code
def yX5_reckonWhenThere : MethodName := ⟨RX5, "reckonWhenThere", "(LBookplateHall$BookRecord;)V"⟩
abbrev cX5_firstThere : ByteArray := prog_1_method_69_code
def yX5_firstThere : MethodName := ⟨RX5, "firstThere", "(LBookplateHall$BookRecord;)LBookplateHall$Copy;"⟩
abbrev cX5_digested : ByteArray := prog_1_method_70_code
def yX5_digested : MethodName := ⟨RX5, "digested", "(JI)J"⟩
abbrev cX5_digestedRecord : ByteArray := prog_1_method_71_code
def yX5_digestedRecord : MethodName := ⟨RX5, "digestedRecord", "(JLBookplateHall$BookRecord;)J"⟩
abbrev cX5_digestedCopy : ByteArray := prog_1_method_72_code
def yX5_digestedCopy : MethodName := ⟨RX5, "digestedCopy", "(JLBookplateHall$Copy;)J"⟩
abbrev cX5_digestedReader : ByteArray := prog_1_method_73_code
def yX5_digestedReader : MethodName := ⟨RX5, "digestedReader", "(JLBookplateHall$Reader;)J"⟩
def RX6 : String := "BookplateHallModel$Copy"
def TX6 : u_T := fun k => match k with
  | _ => ("", "", "", false)
def tyX6 : Nat → FieldType := fun k => match k with
  | _ => .int
abbrev wsX60 : List Cond := u_ws RX6 TX6 0
theorem nmX6 : ∀ a, a < 0 → ∀ b, b < 0 → a ≠ b → (TX6 a).2.1 ≠ (TX6 b).2.1 := by decide +kernel
theorem tyX6_ok : ∀ k, k < 0 → parseFieldDescriptor (TX6 k).2.2.1 = some (tyX6 k) := by decide +kernel
def RX7 : String := "BookplateHallModel$Hall"
def TX7 : u_T := fun k => match k with
  | _ => ("", "", "", false)
def tyX7 : Nat → FieldType := fun k => match k with
  | _ => .int
abbrev wsX70 : List Cond := u_ws RX7 TX7 0
theorem nmX7 : ∀ a, a < 0 → ∀ b, b < 0 → a ≠ b → (TX7 a).2.1 ≠ (TX7 b).2.1 := by decide +kernel
theorem tyX7_ok : ∀ k, k < 0 → parseFieldDescriptor (TX7 k).2.2.1 = some (tyX7 k) := by decide +kernel
def RX8 : String := "BookplateHallModel$Reader"
def TX8 : u_T := fun k => match k with
  | _ => ("", "", "", false)
def tyX8 : Nat → FieldType := fun k => match k with
  | _ => .int
abbrev wsX80 : List Cond := u_ws RX8 TX8 0
theorem nmX8 : ∀ a, a < 0 → ∀ b, b < 0 → a ≠ b → (TX8 a).2.1 ≠ (TX8 b).2.1 := by decide +kernel
theorem tyX8_ok : ∀ k, k < 0 → parseFieldDescriptor (TX8 k).2.2.1 = some (tyX8 k) := by decide +kernel
def RX9 : String := "BookplateHallModel$Record"
def TX9 : u_T := fun k => match k with
  | _ => ("", "", "", false)
def tyX9 : Nat → FieldType := fun k => match k with
  | _ => .int
abbrev wsX90 : List Cond := u_ws RX9 TX9 0
theorem nmX9 : ∀ a, a < 0 → ∀ b, b < 0 → a ≠ b → (TX9 a).2.1 ≠ (TX9 b).2.1 := by decide +kernel
theorem tyX9_ok : ∀ k, k < 0 → parseFieldDescriptor (TX9 k).2.2.1 = some (tyX9 k) := by decide +kernel
def RX10 : String := "BookplateHallModel"
def TX10 : u_T := fun k => match k with
  | _ => ("", "", "", false)
def tyX10 : Nat → FieldType := fun k => match k with
  | _ => .int
abbrev wsX100 : List Cond := u_ws RX10 TX10 0
theorem nmX10 : ∀ a, a < 0 → ∀ b, b < 0 → a ≠ b → (TX10 a).2.1 ≠ (TX10 b).2.1 := by decide +kernel
theorem tyX10_ok : ∀ k, k < 0 → parseFieldDescriptor (TX10 k).2.2.1 = some (tyX10 k) := by decide +kernel
def RJx145de : String := "java/io/Serializable"
def TJx145de : u_T := fun k => match k with
  | _ => ("", "", "", false)
def tyJx145de : Nat → FieldType := fun k => match k with
  | _ => .int
abbrev wsJx145de0 : List Cond := u_ws RJx145de TJx145de 0
theorem nmJx145de : ∀ a, a < 0 → ∀ b, b < 0 → a ≠ b → (TJx145de a).2.1 ≠ (TJx145de b).2.1 := by decide +kernel
theorem tyJx145de_ok : ∀ k, k < 0 → parseFieldDescriptor (TJx145de k).2.2.1 = some (tyJx145de k) := by decide +kernel
def RJxb160c : String := "java/lang/Comparable"
def TJxb160c : u_T := fun k => match k with
  | _ => ("", "", "", false)
def tyJxb160c : Nat → FieldType := fun k => match k with
  | _ => .int
abbrev wsJxb160c0 : List Cond := u_ws RJxb160c TJxb160c 0
theorem nmJxb160c : ∀ a, a < 0 → ∀ b, b < 0 → a ≠ b → (TJxb160c a).2.1 ≠ (TJxb160c b).2.1 := by decide +kernel
theorem tyJxb160c_ok : ∀ k, k < 0 → parseFieldDescriptor (TJxb160c k).2.2.1 = some (tyJxb160c k) := by decide +kernel
def RJxe99ae : String := "java/lang/Double"
def TJxe99ae : u_T := fun k => match k with
  | _ => ("", "", "", false)
def tyJxe99ae : Nat → FieldType := fun k => match k with
  | _ => .int
abbrev wsJxe99ae0 : List Cond := u_ws RJxe99ae TJxe99ae 0
theorem nmJxe99ae : ∀ a, a < 0 → ∀ b, b < 0 → a ≠ b → (TJxe99ae a).2.1 ≠ (TJxe99ae b).2.1 := by decide +kernel
theorem tyJxe99ae_ok : ∀ k, k < 0 → parseFieldDescriptor (TJxe99ae k).2.2.1 = some (tyJxe99ae k) := by decide +kernel
def RJ6 : String := "java/lang/Integer"
def TJ6 : u_T := fun k => match k with
  | _ => ("", "", "", false)
def tyJ6 : Nat → FieldType := fun k => match k with
  | _ => .int
abbrev wsJ60 : List Cond := u_ws RJ6 TJ6 0
theorem nmJ6 : ∀ a, a < 0 → ∀ b, b < 0 → a ≠ b → (TJ6 a).2.1 ≠ (TJ6 b).2.1 := by decide +kernel
theorem tyJ6_ok : ∀ k, k < 0 → parseFieldDescriptor (TJ6 k).2.2.1 = some (tyJ6 k) := by decide +kernel
abbrev cJ6_bitCount_0f7a4 : ByteArray := prog_18_method_49_code
def yJ6_bitCount_0f7a4 : MethodName := ⟨RJ6, "bitCount", "(I)I"⟩
def RJ9 : String := "java/lang/Math"
def TJ9 : u_T := fun k => match k with
  | _ => ("", "", "", false)
def tyJ9 : Nat → FieldType := fun k => match k with
  | _ => .int
abbrev wsJ90 : List Cond := u_ws RJ9 TJ9 0
theorem nmJ9 : ∀ a, a < 0 → ∀ b, b < 0 → a ≠ b → (TJ9 a).2.1 ≠ (TJ9 b).2.1 := by decide +kernel
theorem tyJ9_ok : ∀ k, k < 0 → parseFieldDescriptor (TJ9 k).2.2.1 = some (tyJ9 k) := by decide +kernel
abbrev cJ9_abs_0f7a4 : ByteArray := prog_19_method_59_code
def yJ9_abs_0f7a4 : MethodName := ⟨RJ9, "abs", "(I)I"⟩
abbrev cJ9_abs_294c1 : ByteArray := prog_19_method_64_code
def yJ9_abs_294c1 : MethodName := ⟨RJ9, "abs", "(D)D"⟩
abbrev cJ9_max_7cf53 : ByteArray := prog_19_method_65_code
def yJ9_max_7cf53 : MethodName := ⟨RJ9, "max", "(II)I"⟩
abbrev cJ9_min_7cf53 : ByteArray := prog_19_method_69_code
def yJ9_min_7cf53 : MethodName := ⟨RJ9, "min", "(II)I"⟩
def RJxd2413 : String := "java/lang/Number"
def TJxd2413 : u_T := fun k => match k with
  | _ => ("", "", "", false)
def tyJxd2413 : Nat → FieldType := fun k => match k with
  | _ => .int
abbrev wsJxd24130 : List Cond := u_ws RJxd2413 TJxd2413 0
theorem nmJxd2413 : ∀ a, a < 0 → ∀ b, b < 0 → a ≠ b → (TJxd2413 a).2.1 ≠ (TJxd2413 b).2.1 := by decide +kernel
theorem tyJxd2413_ok : ∀ k, k < 0 → parseFieldDescriptor (TJxd2413 k).2.2.1 = some (tyJxd2413 k) := by decide +kernel
def RJ0 : String := "java/lang/String"
def TJ0 : u_T := fun k => match k with
  | _ => ("", "", "", false)
def tyJ0 : Nat → FieldType := fun k => match k with
  | _ => .int
abbrev wsJ00 : List Cond := u_ws RJ0 TJ0 0
theorem nmJ0 : ∀ a, a < 0 → ∀ b, b < 0 → a ≠ b → (TJ0 a).2.1 ≠ (TJ0 b).2.1 := by decide +kernel
theorem tyJ0_ok : ∀ k, k < 0 → parseFieldDescriptor (TJ0 k).2.2.1 = some (tyJ0 k) := by decide +kernel
def RJxfd54e : String := "java/lang/constant/Constable"
def TJxfd54e : u_T := fun k => match k with
  | _ => ("", "", "", false)
def tyJxfd54e : Nat → FieldType := fun k => match k with
  | _ => .int
abbrev wsJxfd54e0 : List Cond := u_ws RJxfd54e TJxfd54e 0
theorem nmJxfd54e : ∀ a, a < 0 → ∀ b, b < 0 → a ≠ b → (TJxfd54e a).2.1 ≠ (TJxfd54e b).2.1 := by decide +kernel
theorem tyJxfd54e_ok : ∀ k, k < 0 → parseFieldDescriptor (TJxfd54e k).2.2.1 = some (tyJxfd54e k) := by decide +kernel
def RJx3cf43 : String := "java/lang/constant/ConstantDesc"
def TJx3cf43 : u_T := fun k => match k with
  | _ => ("", "", "", false)
def tyJx3cf43 : Nat → FieldType := fun k => match k with
  | _ => .int
abbrev wsJx3cf430 : List Cond := u_ws RJx3cf43 TJx3cf43 0
theorem nmJx3cf43 : ∀ a, a < 0 → ∀ b, b < 0 → a ≠ b → (TJx3cf43 a).2.1 ≠ (TJx3cf43 b).2.1 := by decide +kernel
theorem tyJx3cf43_ok : ∀ k, k < 0 → parseFieldDescriptor (TJx3cf43 k).2.2.1 = some (tyJx3cf43 k) := by decide +kernel
def RL : String := "BookplateHallLaw"
abbrev cL_below : ByteArray := method_2_code
def yL_below : MethodName := ⟨RL, "below", "(II)I"⟩
abbrev cL_cell : ByteArray := method_3_code
def yL_cell : MethodName := ⟨RL, "cell", "([II)I"⟩
abbrev cL_law : ByteArray := code
def yL_law : MethodName := ⟨RL, "law", "([I)Z"⟩
abbrev cL_act : ByteArray := method_5_code
def yL_act : MethodName := ⟨RL, "act", "(LBookplateHall;I)Z"⟩
abbrev cL_areCopiesRight : ByteArray := method_6_code
def yL_areCopiesRight : MethodName := ⟨RL, "areCopiesRight", "(LBookplateHall;)Z"⟩
abbrev cL_areRecordsRight : ByteArray := method_7_code
def yL_areRecordsRight : MethodName := ⟨RL, "areRecordsRight", "(LBookplateHall;)Z"⟩
abbrev cL_areReadersRight : ByteArray := method_8_code
def yL_areReadersRight : MethodName := ⟨RL, "areReadersRight", "(LBookplateHall;)Z"⟩
abbrev vwCl : List vw_C := [(RX0, TX0, 7), (RX1, TX1, 8), (RX2, TX2, 2), (RX3, TX3, 3), (RX4, TX4, 2), (RX5, TX5, 9)]
end
section
theorem dX0_init_0 : decode cX0_init 0 = .ok (.aload_n 0, 1) := by decide +kernel
theorem dX0_init_1 : decode cX0_init 1 = .ok (.invokespecial 3, 3) := by decide +kernel
theorem dX0_init_4 : decode cX0_init 4 = .ok (.aload_n 0, 1) := by decide +kernel
theorem dX0_init_5 : decode cX0_init 5 = .ok (.new 9, 3) := by decide +kernel
theorem dX0_init_8 : decode cX0_init 8 = .ok (.dup, 1) := by decide +kernel
theorem dX0_init_9 : decode cX0_init 9 = .ok (.invokespecial 11, 3) := by decide +kernel
theorem dX0_init_12 : decode cX0_init 12 = .ok (.putfield 12, 3) := by decide +kernel
theorem dX0_init_15 : decode cX0_init 15 = .ok (.aload_n 0, 1) := by decide +kernel
theorem dX0_init_16 : decode cX0_init 16 = .ok (.iload_n 1, 1) := by decide +kernel
theorem dX0_init_17 : decode cX0_init 17 = .ok (.putfield 18, 3) := by decide +kernel
theorem dX0_init_20 : decode cX0_init 20 = .ok (.aload_n 0, 1) := by decide +kernel
theorem dX0_init_21 : decode cX0_init 21 = .ok (.aload_n 2, 1) := by decide +kernel
theorem dX0_init_22 : decode cX0_init 22 = .ok (.putfield 22, 3) := by decide +kernel
theorem dX0_init_25 : decode cX0_init 25 = .ok (.aload_n 0, 1) := by decide +kernel
theorem dX0_init_26 : decode cX0_init 26 = .ok (.iload_n 3, 1) := by decide +kernel
theorem dX0_init_27 : decode cX0_init 27 = .ok (.putfield 26, 3) := by decide +kernel
theorem dX0_init_30 : decode cX0_init 30 = .ok (.aload_n 0, 1) := by decide +kernel
theorem dX0_init_31 : decode cX0_init 31 = .ok (.iload 4, 2) := by decide +kernel
theorem dX0_init_33 : decode cX0_init 33 = .ok (.putfield 29, 3) := by decide +kernel
theorem dX0_init_36 : decode cX0_init 36 = .ok (.return_, 1) := by decide +kernel
theorem dX0_isLive_0 : decode cX0_isLive 0 = .ok (.aload_n 0, 1) := by decide +kernel
theorem dX0_isLive_1 : decode cX0_isLive 1 = .ok (.getfield 32, 3) := by decide +kernel
theorem dX0_isLive_4 : decode cX0_isLive 4 = .ok (.ifnonnull 7, 3) := by decide +kernel
theorem dX0_isLive_7 : decode cX0_isLive 7 = .ok (.iconst 1, 1) := by decide +kernel
theorem dX0_isLive_8 : decode cX0_isLive 8 = .ok (.goto 4, 3) := by decide +kernel
theorem dX0_isLive_11 : decode cX0_isLive 11 = .ok (.iconst 0, 1) := by decide +kernel
theorem dX0_isLive_12 : decode cX0_isLive 12 = .ok (.ireturn, 1) := by decide +kernel
theorem dX0_liveOne_0 : decode cX0_liveOne 0 = .ok (.aload_n 0, 1) := by decide +kernel
theorem dX0_liveOne_1 : decode cX0_liveOne 1 = .ok (.astore_n 1, 1) := by decide +kernel
theorem dX0_liveOne_2 : decode cX0_liveOne 2 = .ok (.iconst 0, 1) := by decide +kernel
theorem dX0_liveOne_3 : decode cX0_liveOne 3 = .ok (.istore_n 2, 1) := by decide +kernel
theorem dX0_liveOne_4 : decode cX0_liveOne 4 = .ok (.iload_n 2, 1) := by decide +kernel
theorem dX0_liveOne_5 : decode cX0_liveOne 5 = .ok (.bipush 20, 2) := by decide +kernel
theorem dX0_liveOne_7 : decode cX0_liveOne 7 = .ok (.if_icmp .ge 21, 3) := by decide +kernel
theorem dX0_liveOne_10 : decode cX0_liveOne 10 = .ok (.aload_n 1, 1) := by decide +kernel
theorem dX0_liveOne_11 : decode cX0_liveOne 11 = .ok (.getfield 32, 3) := by decide +kernel
theorem dX0_liveOne_14 : decode cX0_liveOne 14 = .ok (.ifnull 14, 3) := by decide +kernel
theorem dX0_liveOne_17 : decode cX0_liveOne 17 = .ok (.aload_n 1, 1) := by decide +kernel
theorem dX0_liveOne_18 : decode cX0_liveOne 18 = .ok (.getfield 32, 3) := by decide +kernel
theorem dX0_liveOne_21 : decode cX0_liveOne 21 = .ok (.astore_n 1, 1) := by decide +kernel
theorem dX0_liveOne_22 : decode cX0_liveOne 22 = .ok (.iinc 2 1, 3) := by decide +kernel
theorem dX0_liveOne_25 : decode cX0_liveOne 25 = .ok (.goto (-21), 3) := by decide +kernel
theorem dX0_liveOne_28 : decode cX0_liveOne 28 = .ok (.aload_n 1, 1) := by decide +kernel
theorem dX0_liveOne_29 : decode cX0_liveOne 29 = .ok (.areturn, 1) := by decide +kernel
theorem dX0_isBy_0 : decode cX0_isBy 0 = .ok (.aload_n 0, 1) := by decide +kernel
theorem dX0_isBy_1 : decode cX0_isBy 1 = .ok (.getfield 22, 3) := by decide +kernel
theorem dX0_isBy_4 : decode cX0_isBy 4 = .ok (.ifnull 25, 3) := by decide +kernel
theorem dX0_isBy_7 : decode cX0_isBy 7 = .ok (.aload_n 1, 1) := by decide +kernel
theorem dX0_isBy_8 : decode cX0_isBy 8 = .ok (.ifnull 21, 3) := by decide +kernel
theorem dX0_isBy_11 : decode cX0_isBy 11 = .ok (.aload_n 0, 1) := by decide +kernel
theorem dX0_isBy_12 : decode cX0_isBy 12 = .ok (.getfield 22, 3) := by decide +kernel
theorem dX0_isBy_15 : decode cX0_isBy 15 = .ok (.invokevirtual 36, 3) := by decide +kernel
theorem dX0_isBy_18 : decode cX0_isBy 18 = .ok (.aload_n 1, 1) := by decide +kernel
theorem dX0_isBy_19 : decode cX0_isBy 19 = .ok (.invokevirtual 36, 3) := by decide +kernel
theorem dX0_isBy_22 : decode cX0_isBy 22 = .ok (.if_acmp .ne 7, 3) := by decide +kernel
theorem dX0_isBy_25 : decode cX0_isBy 25 = .ok (.iconst 1, 1) := by decide +kernel
theorem dX0_isBy_26 : decode cX0_isBy 26 = .ok (.goto 4, 3) := by decide +kernel
theorem dX0_isBy_29 : decode cX0_isBy 29 = .ok (.iconst 0, 1) := by decide +kernel
theorem dX0_isBy_30 : decode cX0_isBy 30 = .ok (.ireturn, 1) := by decide +kernel
theorem dX0_likenessTo_0 : decode cX0_likenessTo 0 = .ok (.aload_n 0, 1) := by decide +kernel
theorem dX0_likenessTo_1 : decode cX0_likenessTo 1 = .ok (.aload_n 1, 1) := by decide +kernel
theorem dX0_likenessTo_2 : decode cX0_likenessTo 2 = .ok (.invokevirtual 42, 3) := by decide +kernel
theorem dX0_likenessTo_5 : decode cX0_likenessTo 5 = .ok (.aload_n 0, 1) := by decide +kernel
theorem dX0_likenessTo_6 : decode cX0_likenessTo 6 = .ok (.aload_n 1, 1) := by decide +kernel
theorem dX0_likenessTo_7 : decode cX0_likenessTo 7 = .ok (.invokevirtual 46, 3) := by decide +kernel
theorem dX0_likenessTo_10 : decode cX0_likenessTo 10 = .ok (.iadd, 1) := by decide +kernel
theorem dX0_likenessTo_11 : decode cX0_likenessTo 11 = .ok (.aload_n 0, 1) := by decide +kernel
theorem dX0_likenessTo_12 : decode cX0_likenessTo 12 = .ok (.aload_n 1, 1) := by decide +kernel
theorem dX0_likenessTo_13 : decode cX0_likenessTo 13 = .ok (.invokevirtual 49, 3) := by decide +kernel
theorem dX0_likenessTo_16 : decode cX0_likenessTo 16 = .ok (.iadd, 1) := by decide +kernel
theorem dX0_likenessTo_17 : decode cX0_likenessTo 17 = .ok (.ireturn, 1) := by decide +kernel
theorem dX0_likenessOfAuthors_0 : decode cX0_likenessOfAuthors 0 = .ok (.aload_n 0, 1) := by decide +kernel
theorem dX0_likenessOfAuthors_1 : decode cX0_likenessOfAuthors 1 = .ok (.getfield 22, 3) := by decide +kernel
theorem dX0_likenessOfAuthors_4 : decode cX0_likenessOfAuthors 4 = .ok (.ifnonnull 14, 3) := by decide +kernel
theorem dX0_likenessOfAuthors_7 : decode cX0_likenessOfAuthors 7 = .ok (.aload_n 1, 1) := by decide +kernel
theorem dX0_likenessOfAuthors_8 : decode cX0_likenessOfAuthors 8 = .ok (.getfield 22, 3) := by decide +kernel
theorem dX0_likenessOfAuthors_11 : decode cX0_likenessOfAuthors 11 = .ok (.ifnonnull 7, 3) := by decide +kernel
theorem dX0_likenessOfAuthors_14 : decode cX0_likenessOfAuthors 14 = .ok (.iconst 1, 1) := by decide +kernel
theorem dX0_likenessOfAuthors_15 : decode cX0_likenessOfAuthors 15 = .ok (.goto 4, 3) := by decide +kernel
theorem dX0_likenessOfAuthors_18 : decode cX0_likenessOfAuthors 18 = .ok (.iconst 0, 1) := by decide +kernel
theorem dX0_likenessOfAuthors_19 : decode cX0_likenessOfAuthors 19 = .ok (.istore_n 2, 1) := by decide +kernel
theorem dX0_likenessOfAuthors_20 : decode cX0_likenessOfAuthors 20 = .ok (.iload_n 2, 1) := by decide +kernel
theorem dX0_likenessOfAuthors_21 : decode cX0_likenessOfAuthors 21 = .ok (.ifCond .ne 14, 3) := by decide +kernel
theorem dX0_likenessOfAuthors_24 : decode cX0_likenessOfAuthors 24 = .ok (.aload_n 0, 1) := by decide +kernel
theorem dX0_likenessOfAuthors_25 : decode cX0_likenessOfAuthors 25 = .ok (.aload_n 1, 1) := by decide +kernel
theorem dX0_likenessOfAuthors_26 : decode cX0_likenessOfAuthors 26 = .ok (.getfield 22, 3) := by decide +kernel
theorem dX0_likenessOfAuthors_29 : decode cX0_likenessOfAuthors 29 = .ok (.invokevirtual 52, 3) := by decide +kernel
theorem dX0_likenessOfAuthors_32 : decode cX0_likenessOfAuthors 32 = .ok (.ifCond .eq 8, 3) := by decide +kernel
theorem dX0_likenessOfAuthors_35 : decode cX0_likenessOfAuthors 35 = .ok (.bipush 30, 2) := by decide +kernel
theorem dX0_likenessOfAuthors_37 : decode cX0_likenessOfAuthors 37 = .ok (.goto 4, 3) := by decide +kernel
theorem dX0_likenessOfAuthors_40 : decode cX0_likenessOfAuthors 40 = .ok (.iconst 0, 1) := by decide +kernel
theorem dX0_likenessOfAuthors_41 : decode cX0_likenessOfAuthors 41 = .ok (.ireturn, 1) := by decide +kernel
theorem dX0_likenessOfTitles_0 : decode cX0_likenessOfTitles 0 = .ok (.aload_n 0, 1) := by decide +kernel
theorem dX0_likenessOfTitles_1 : decode cX0_likenessOfTitles 1 = .ok (.getfield 26, 3) := by decide +kernel
theorem dX0_likenessOfTitles_4 : decode cX0_likenessOfTitles 4 = .ok (.aload_n 1, 1) := by decide +kernel
theorem dX0_likenessOfTitles_5 : decode cX0_likenessOfTitles 5 = .ok (.getfield 26, 3) := by decide +kernel
theorem dX0_likenessOfTitles_8 : decode cX0_likenessOfTitles 8 = .ok (.iand, 1) := by decide +kernel
theorem dX0_likenessOfTitles_9 : decode cX0_likenessOfTitles 9 = .ok (.invokestatic 56, 3) := by decide +kernel
theorem dX0_likenessOfTitles_12 : decode cX0_likenessOfTitles 12 = .ok (.istore_n 2, 1) := by decide +kernel
theorem dX0_likenessOfTitles_13 : decode cX0_likenessOfTitles 13 = .ok (.aload_n 0, 1) := by decide +kernel
theorem dX0_likenessOfTitles_14 : decode cX0_likenessOfTitles 14 = .ok (.getfield 26, 3) := by decide +kernel
theorem dX0_likenessOfTitles_17 : decode cX0_likenessOfTitles 17 = .ok (.aload_n 1, 1) := by decide +kernel
theorem dX0_likenessOfTitles_18 : decode cX0_likenessOfTitles 18 = .ok (.getfield 26, 3) := by decide +kernel
theorem dX0_likenessOfTitles_21 : decode cX0_likenessOfTitles 21 = .ok (.ior, 1) := by decide +kernel
theorem dX0_likenessOfTitles_22 : decode cX0_likenessOfTitles 22 = .ok (.invokestatic 56, 3) := by decide +kernel
theorem dX0_likenessOfTitles_25 : decode cX0_likenessOfTitles 25 = .ok (.istore_n 3, 1) := by decide +kernel
theorem dX0_likenessOfTitles_26 : decode cX0_likenessOfTitles 26 = .ok (.iload_n 3, 1) := by decide +kernel
theorem dX0_likenessOfTitles_27 : decode cX0_likenessOfTitles 27 = .ok (.ifCond .ne 7, 3) := by decide +kernel
theorem dX0_likenessOfTitles_30 : decode cX0_likenessOfTitles 30 = .ok (.iconst 0, 1) := by decide +kernel
theorem dX0_likenessOfTitles_31 : decode cX0_likenessOfTitles 31 = .ok (.goto 9, 3) := by decide +kernel
theorem dX0_likenessOfTitles_34 : decode cX0_likenessOfTitles 34 = .ok (.bipush 50, 2) := by decide +kernel
theorem dX0_likenessOfTitles_36 : decode cX0_likenessOfTitles 36 = .ok (.iload_n 2, 1) := by decide +kernel
theorem dX0_likenessOfTitles_37 : decode cX0_likenessOfTitles 37 = .ok (.imul, 1) := by decide +kernel
theorem dX0_likenessOfTitles_38 : decode cX0_likenessOfTitles 38 = .ok (.iload_n 3, 1) := by decide +kernel
theorem dX0_likenessOfTitles_39 : decode cX0_likenessOfTitles 39 = .ok (.idiv, 1) := by decide +kernel
theorem dX0_likenessOfTitles_40 : decode cX0_likenessOfTitles 40 = .ok (.ireturn, 1) := by decide +kernel
theorem dX0_likenessOfYears_0 : decode cX0_likenessOfYears 0 = .ok (.iconst 0, 1) := by decide +kernel
theorem dX0_likenessOfYears_1 : decode cX0_likenessOfYears 1 = .ok (.bipush 20, 2) := by decide +kernel
theorem dX0_likenessOfYears_3 : decode cX0_likenessOfYears 3 = .ok (.iconst 4, 1) := by decide +kernel
theorem dX0_likenessOfYears_4 : decode cX0_likenessOfYears 4 = .ok (.aload_n 0, 1) := by decide +kernel
theorem dX0_likenessOfYears_5 : decode cX0_likenessOfYears 5 = .ok (.getfield 29, 3) := by decide +kernel
theorem dX0_likenessOfYears_8 : decode cX0_likenessOfYears 8 = .ok (.aload_n 1, 1) := by decide +kernel
theorem dX0_likenessOfYears_9 : decode cX0_likenessOfYears 9 = .ok (.getfield 29, 3) := by decide +kernel
theorem dX0_likenessOfYears_12 : decode cX0_likenessOfYears 12 = .ok (.isub, 1) := by decide +kernel
theorem dX0_likenessOfYears_13 : decode cX0_likenessOfYears 13 = .ok (.invokestatic 62, 3) := by decide +kernel
theorem dX0_likenessOfYears_16 : decode cX0_likenessOfYears 16 = .ok (.imul, 1) := by decide +kernel
theorem dX0_likenessOfYears_17 : decode cX0_likenessOfYears 17 = .ok (.isub, 1) := by decide +kernel
theorem dX0_likenessOfYears_18 : decode cX0_likenessOfYears 18 = .ok (.invokestatic 67, 3) := by decide +kernel
theorem dX0_likenessOfYears_21 : decode cX0_likenessOfYears 21 = .ok (.ireturn, 1) := by decide +kernel
theorem dX1_init_0 : decode cX1_init 0 = .ok (.aload_n 0, 1) := by decide +kernel
theorem dX1_init_1 : decode cX1_init 1 = .ok (.invokespecial 3, 3) := by decide +kernel
theorem dX1_init_4 : decode cX1_init 4 = .ok (.aload_n 0, 1) := by decide +kernel
theorem dX1_init_5 : decode cX1_init 5 = .ok (.iconst 0, 1) := by decide +kernel
theorem dX1_init_6 : decode cX1_init 6 = .ok (.putfield 9, 3) := by decide +kernel
theorem dX1_init_9 : decode cX1_init 9 = .ok (.aload_n 0, 1) := by decide +kernel
theorem dX1_init_10 : decode cX1_init 10 = .ok (.iconst (-1), 1) := by decide +kernel
theorem dX1_init_11 : decode cX1_init 11 = .ok (.putfield 15, 3) := by decide +kernel
theorem dX1_init_14 : decode cX1_init 14 = .ok (.aload_n 0, 1) := by decide +kernel
theorem dX1_init_15 : decode cX1_init 15 = .ok (.iload_n 1, 1) := by decide +kernel
theorem dX1_init_16 : decode cX1_init 16 = .ok (.putfield 18, 3) := by decide +kernel
theorem dX1_init_19 : decode cX1_init 19 = .ok (.aload_n 0, 1) := by decide +kernel
theorem dX1_init_20 : decode cX1_init 20 = .ok (.aload_n 2, 1) := by decide +kernel
theorem dX1_init_21 : decode cX1_init 21 = .ok (.putfield 21, 3) := by decide +kernel
theorem dX1_init_24 : decode cX1_init 24 = .ok (.aload_n 0, 1) := by decide +kernel
theorem dX1_init_25 : decode cX1_init 25 = .ok (.iload_n 3, 1) := by decide +kernel
theorem dX1_init_26 : decode cX1_init 26 = .ok (.putfield 25, 3) := by decide +kernel
theorem dX1_init_29 : decode cX1_init 29 = .ok (.return_, 1) := by decide +kernel
theorem dX1_put_0 : decode cX1_put 0 = .ok (.aload_n 0, 1) := by decide +kernel
theorem dX1_put_1 : decode cX1_put 1 = .ok (.iload_n 1, 1) := by decide +kernel
theorem dX1_put_2 : decode cX1_put 2 = .ok (.putfield 9, 3) := by decide +kernel
theorem dX1_put_5 : decode cX1_put 5 = .ok (.aload_n 0, 1) := by decide +kernel
theorem dX1_put_6 : decode cX1_put 6 = .ok (.aload_n 2, 1) := by decide +kernel
theorem dX1_put_7 : decode cX1_put 7 = .ok (.putfield 28, 3) := by decide +kernel
theorem dX1_put_10 : decode cX1_put 10 = .ok (.aload_n 0, 1) := by decide +kernel
theorem dX1_put_11 : decode cX1_put 11 = .ok (.iload_n 3, 1) := by decide +kernel
theorem dX1_put_12 : decode cX1_put 12 = .ok (.putfield 15, 3) := by decide +kernel
theorem dX1_put_15 : decode cX1_put 15 = .ok (.aload_n 0, 1) := by decide +kernel
theorem dX1_put_16 : decode cX1_put 16 = .ok (.iconst 0, 1) := by decide +kernel
theorem dX1_put_17 : decode cX1_put 17 = .ok (.putfield 32, 3) := by decide +kernel
theorem dX1_put_20 : decode cX1_put 20 = .ok (.return_, 1) := by decide +kernel
theorem dX1_isAsideFor_0 : decode cX1_isAsideFor 0 = .ok (.aload_n 0, 1) := by decide +kernel
theorem dX1_isAsideFor_1 : decode cX1_isAsideFor 1 = .ok (.getfield 9, 3) := by decide +kernel
theorem dX1_isAsideFor_4 : decode cX1_isAsideFor 4 = .ok (.iconst 2, 1) := by decide +kernel
theorem dX1_isAsideFor_5 : decode cX1_isAsideFor 5 = .ok (.if_icmp .ne 23, 3) := by decide +kernel
theorem dX1_isAsideFor_8 : decode cX1_isAsideFor 8 = .ok (.aload_n 0, 1) := by decide +kernel
theorem dX1_isAsideFor_9 : decode cX1_isAsideFor 9 = .ok (.getfield 28, 3) := by decide +kernel
theorem dX1_isAsideFor_12 : decode cX1_isAsideFor 12 = .ok (.aload_n 1, 1) := by decide +kernel
theorem dX1_isAsideFor_13 : decode cX1_isAsideFor 13 = .ok (.if_acmp .ne 15, 3) := by decide +kernel
theorem dX1_isAsideFor_16 : decode cX1_isAsideFor 16 = .ok (.aload_n 0, 1) := by decide +kernel
theorem dX1_isAsideFor_17 : decode cX1_isAsideFor 17 = .ok (.getfield 21, 3) := by decide +kernel
theorem dX1_isAsideFor_20 : decode cX1_isAsideFor 20 = .ok (.aload_n 2, 1) := by decide +kernel
theorem dX1_isAsideFor_21 : decode cX1_isAsideFor 21 = .ok (.if_acmp .ne 7, 3) := by decide +kernel
theorem dX1_isAsideFor_24 : decode cX1_isAsideFor 24 = .ok (.iconst 1, 1) := by decide +kernel
theorem dX1_isAsideFor_25 : decode cX1_isAsideFor 25 = .ok (.goto 4, 3) := by decide +kernel
theorem dX1_isAsideFor_28 : decode cX1_isAsideFor 28 = .ok (.iconst 0, 1) := by decide +kernel
theorem dX1_isAsideFor_29 : decode cX1_isAsideFor 29 = .ok (.ireturn, 1) := by decide +kernel
theorem dX1_daysLateOn_0 : decode cX1_daysLateOn 0 = .ok (.aload_n 0, 1) := by decide +kernel
theorem dX1_daysLateOn_1 : decode cX1_daysLateOn 1 = .ok (.getfield 9, 3) := by decide +kernel
theorem dX1_daysLateOn_4 : decode cX1_daysLateOn 4 = .ok (.iconst 1, 1) := by decide +kernel
theorem dX1_daysLateOn_5 : decode cX1_daysLateOn 5 = .ok (.if_icmp .ne 20, 3) := by decide +kernel
theorem dX1_daysLateOn_8 : decode cX1_daysLateOn 8 = .ok (.iload_n 1, 1) := by decide +kernel
theorem dX1_daysLateOn_9 : decode cX1_daysLateOn 9 = .ok (.aload_n 0, 1) := by decide +kernel
theorem dX1_daysLateOn_10 : decode cX1_daysLateOn 10 = .ok (.getfield 15, 3) := by decide +kernel
theorem dX1_daysLateOn_13 : decode cX1_daysLateOn 13 = .ok (.if_icmp .le 12, 3) := by decide +kernel
theorem dX1_daysLateOn_16 : decode cX1_daysLateOn 16 = .ok (.iload_n 1, 1) := by decide +kernel
theorem dX1_daysLateOn_17 : decode cX1_daysLateOn 17 = .ok (.aload_n 0, 1) := by decide +kernel
theorem dX1_daysLateOn_18 : decode cX1_daysLateOn 18 = .ok (.getfield 15, 3) := by decide +kernel
theorem dX1_daysLateOn_21 : decode cX1_daysLateOn 21 = .ok (.isub, 1) := by decide +kernel
theorem dX1_daysLateOn_22 : decode cX1_daysLateOn 22 = .ok (.goto 4, 3) := by decide +kernel
theorem dX1_daysLateOn_25 : decode cX1_daysLateOn 25 = .ok (.iconst 0, 1) := by decide +kernel
theorem dX1_daysLateOn_26 : decode cX1_daysLateOn 26 = .ok (.ireturn, 1) := by decide +kernel
theorem dX1_isLostOn_0 : decode cX1_isLostOn 0 = .ok (.aload_n 0, 1) := by decide +kernel
theorem dX1_isLostOn_1 : decode cX1_isLostOn 1 = .ok (.iload_n 1, 1) := by decide +kernel
theorem dX1_isLostOn_2 : decode cX1_isLostOn 2 = .ok (.invokevirtual 35, 3) := by decide +kernel
theorem dX1_isLostOn_5 : decode cX1_isLostOn 5 = .ok (.bipush 30, 2) := by decide +kernel
theorem dX1_isLostOn_7 : decode cX1_isLostOn 7 = .ok (.if_icmp .lt 7, 3) := by decide +kernel
theorem dX1_isLostOn_10 : decode cX1_isLostOn 10 = .ok (.iconst 1, 1) := by decide +kernel
theorem dX1_isLostOn_11 : decode cX1_isLostOn 11 = .ok (.goto 4, 3) := by decide +kernel
theorem dX1_isLostOn_14 : decode cX1_isLostOn 14 = .ok (.iconst 0, 1) := by decide +kernel
theorem dX1_isLostOn_15 : decode cX1_isLostOn 15 = .ok (.ireturn, 1) := by decide +kernel
theorem dX1_fineOn_0 : decode cX1_fineOn 0 = .ok (.bipush 40, 2) := by decide +kernel
theorem dX1_fineOn_2 : decode cX1_fineOn 2 = .ok (.iconst 2, 1) := by decide +kernel
theorem dX1_fineOn_3 : decode cX1_fineOn 3 = .ok (.aload_n 0, 1) := by decide +kernel
theorem dX1_fineOn_4 : decode cX1_fineOn 4 = .ok (.iload_n 1, 1) := by decide +kernel
theorem dX1_fineOn_5 : decode cX1_fineOn 5 = .ok (.invokevirtual 35, 3) := by decide +kernel
theorem dX1_fineOn_8 : decode cX1_fineOn 8 = .ok (.imul, 1) := by decide +kernel
theorem dX1_fineOn_9 : decode cX1_fineOn 9 = .ok (.invokestatic 39, 3) := by decide +kernel
theorem dX1_fineOn_12 : decode cX1_fineOn 12 = .ok (.ireturn, 1) := by decide +kernel
theorem dX1_feeWhenLost_0 : decode cX1_feeWhenLost 0 = .ok (.aload_n 0, 1) := by decide +kernel
theorem dX1_feeWhenLost_1 : decode cX1_feeWhenLost 1 = .ok (.getfield 25, 3) := by decide +kernel
theorem dX1_feeWhenLost_4 : decode cX1_feeWhenLost 4 = .ok (.bipush 40, 2) := by decide +kernel
theorem dX1_feeWhenLost_6 : decode cX1_feeWhenLost 6 = .ok (.iadd, 1) := by decide +kernel
theorem dX1_feeWhenLost_7 : decode cX1_feeWhenLost 7 = .ok (.ireturn, 1) := by decide +kernel
theorem dX1_daysUntilThere_0 : decode cX1_daysUntilThere 0 = .ok (.aload_n 0, 1) := by decide +kernel
theorem dX1_daysUntilThere_1 : decode cX1_daysUntilThere 1 = .ok (.getfield 9, 3) := by decide +kernel
theorem dX1_daysUntilThere_4 : decode cX1_daysUntilThere 4 = .ok (.iconst 1, 1) := by decide +kernel
theorem dX1_daysUntilThere_5 : decode cX1_daysUntilThere 5 = .ok (.if_icmp .ne 14, 3) := by decide +kernel
theorem dX1_daysUntilThere_8 : decode cX1_daysUntilThere 8 = .ok (.iconst 0, 1) := by decide +kernel
theorem dX1_daysUntilThere_9 : decode cX1_daysUntilThere 9 = .ok (.aload_n 0, 1) := by decide +kernel
theorem dX1_daysUntilThere_10 : decode cX1_daysUntilThere 10 = .ok (.getfield 15, 3) := by decide +kernel
theorem dX1_daysUntilThere_13 : decode cX1_daysUntilThere 13 = .ok (.iload_n 1, 1) := by decide +kernel
theorem dX1_daysUntilThere_14 : decode cX1_daysUntilThere 14 = .ok (.isub, 1) := by decide +kernel
theorem dX1_daysUntilThere_15 : decode cX1_daysUntilThere 15 = .ok (.invokestatic 45, 3) := by decide +kernel
theorem dX1_daysUntilThere_18 : decode cX1_daysUntilThere 18 = .ok (.ireturn, 1) := by decide +kernel
theorem dX1_daysUntilThere_19 : decode cX1_daysUntilThere 19 = .ok (.aload_n 0, 1) := by decide +kernel
theorem dX1_daysUntilThere_20 : decode cX1_daysUntilThere 20 = .ok (.getfield 9, 3) := by decide +kernel
theorem dX1_daysUntilThere_23 : decode cX1_daysUntilThere 23 = .ok (.iconst 2, 1) := by decide +kernel
theorem dX1_daysUntilThere_24 : decode cX1_daysUntilThere 24 = .ok (.if_icmp .ne 20, 3) := by decide +kernel
theorem dX1_daysUntilThere_27 : decode cX1_daysUntilThere 27 = .ok (.aload_n 0, 1) := by decide +kernel
theorem dX1_daysUntilThere_28 : decode cX1_daysUntilThere 28 = .ok (.getfield 28, 3) := by decide +kernel
theorem dX1_daysUntilThere_31 : decode cX1_daysUntilThere 31 = .ok (.ifnull 13, 3) := by decide +kernel
theorem dX1_daysUntilThere_34 : decode cX1_daysUntilThere 34 = .ok (.aload_n 0, 1) := by decide +kernel
theorem dX1_daysUntilThere_35 : decode cX1_daysUntilThere 35 = .ok (.getfield 28, 3) := by decide +kernel
theorem dX1_daysUntilThere_38 : decode cX1_daysUntilThere 38 = .ok (.invokevirtual 48, 3) := by decide +kernel
theorem dX1_daysUntilThere_41 : decode cX1_daysUntilThere 41 = .ok (.goto 4, 3) := by decide +kernel
theorem dX1_daysUntilThere_44 : decode cX1_daysUntilThere 44 = .ok (.iconst 0, 1) := by decide +kernel
theorem dX1_daysUntilThere_45 : decode cX1_daysUntilThere 45 = .ok (.ireturn, 1) := by decide +kernel
theorem dX2_init_0 : decode cX2_init 0 = .ok (.aload_n 0, 1) := by decide +kernel
theorem dX2_init_1 : decode cX2_init 1 = .ok (.invokespecial 3, 3) := by decide +kernel
theorem dX2_init_4 : decode cX2_init 4 = .ok (.aload_n 0, 1) := by decide +kernel
theorem dX2_init_5 : decode cX2_init 5 = .ok (.iload_n 1, 1) := by decide +kernel
theorem dX2_init_6 : decode cX2_init 6 = .ok (.putfield 9, 3) := by decide +kernel
theorem dX2_init_9 : decode cX2_init 9 = .ok (.return_, 1) := by decide +kernel
theorem dX2_stoodFor_0 : decode cX2_stoodFor 0 = .ok (.aload_n 0, 1) := by decide +kernel
theorem dX2_stoodFor_1 : decode cX2_stoodFor 1 = .ok (.astore_n 1, 1) := by decide +kernel
theorem dX2_stoodFor_2 : decode cX2_stoodFor 2 = .ok (.iconst 0, 1) := by decide +kernel
theorem dX2_stoodFor_3 : decode cX2_stoodFor 3 = .ok (.istore_n 2, 1) := by decide +kernel
theorem dX2_stoodFor_4 : decode cX2_stoodFor 4 = .ok (.iload_n 2, 1) := by decide +kernel
theorem dX2_stoodFor_5 : decode cX2_stoodFor 5 = .ok (.bipush 16, 2) := by decide +kernel
theorem dX2_stoodFor_7 : decode cX2_stoodFor 7 = .ok (.if_icmp .ge 21, 3) := by decide +kernel
theorem dX2_stoodFor_10 : decode cX2_stoodFor 10 = .ok (.aload_n 1, 1) := by decide +kernel
theorem dX2_stoodFor_11 : decode cX2_stoodFor 11 = .ok (.getfield 15, 3) := by decide +kernel
theorem dX2_stoodFor_14 : decode cX2_stoodFor 14 = .ok (.ifnull 14, 3) := by decide +kernel
theorem dX2_stoodFor_17 : decode cX2_stoodFor 17 = .ok (.aload_n 1, 1) := by decide +kernel
theorem dX2_stoodFor_18 : decode cX2_stoodFor 18 = .ok (.getfield 15, 3) := by decide +kernel
theorem dX2_stoodFor_21 : decode cX2_stoodFor 21 = .ok (.astore_n 1, 1) := by decide +kernel
theorem dX2_stoodFor_22 : decode cX2_stoodFor 22 = .ok (.iinc 2 1, 3) := by decide +kernel
theorem dX2_stoodFor_25 : decode cX2_stoodFor 25 = .ok (.goto (-21), 3) := by decide +kernel
theorem dX2_stoodFor_28 : decode cX2_stoodFor 28 = .ok (.aload_n 1, 1) := by decide +kernel
theorem dX2_stoodFor_29 : decode cX2_stoodFor 29 = .ok (.areturn, 1) := by decide +kernel
theorem dX3_init_0 : decode cX3_init 0 = .ok (.aload_n 0, 1) := by decide +kernel
theorem dX3_init_1 : decode cX3_init 1 = .ok (.invokespecial 1, 3) := by decide +kernel
theorem dX3_init_4 : decode cX3_init 4 = .ok (.aload_n 0, 1) := by decide +kernel
theorem dX3_init_5 : decode cX3_init 5 = .ok (.iload_n 1, 1) := by decide +kernel
theorem dX3_init_6 : decode cX3_init 6 = .ok (.putfield 7, 3) := by decide +kernel
theorem dX3_init_9 : decode cX3_init 9 = .ok (.aload_n 0, 1) := by decide +kernel
theorem dX3_init_10 : decode cX3_init 10 = .ok (.iload_n 2, 1) := by decide +kernel
theorem dX3_init_11 : decode cX3_init 11 = .ok (.putfield 13, 3) := by decide +kernel
theorem dX3_init_14 : decode cX3_init 14 = .ok (.return_, 1) := by decide +kernel
theorem dX3_mostCopies_0 : decode cX3_mostCopies 0 = .ok (.aload_n 0, 1) := by decide +kernel
theorem dX3_mostCopies_1 : decode cX3_mostCopies 1 = .ok (.getfield 13, 3) := by decide +kernel
theorem dX3_mostCopies_4 : decode cX3_mostCopies 4 = .ok (.ifCond .ne 7, 3) := by decide +kernel
theorem dX3_mostCopies_7 : decode cX3_mostCopies 7 = .ok (.iconst 2, 1) := by decide +kernel
theorem dX3_mostCopies_8 : decode cX3_mostCopies 8 = .ok (.goto 4, 3) := by decide +kernel
theorem dX3_mostCopies_11 : decode cX3_mostCopies 11 = .ok (.iconst 4, 1) := by decide +kernel
theorem dX3_mostCopies_12 : decode cX3_mostCopies 12 = .ok (.ireturn, 1) := by decide +kernel
theorem dX3_daysOfALoan_0 : decode cX3_daysOfALoan 0 = .ok (.aload_n 0, 1) := by decide +kernel
theorem dX3_daysOfALoan_1 : decode cX3_daysOfALoan 1 = .ok (.getfield 13, 3) := by decide +kernel
theorem dX3_daysOfALoan_4 : decode cX3_daysOfALoan 4 = .ok (.ifCond .ne 8, 3) := by decide +kernel
theorem dX3_daysOfALoan_7 : decode cX3_daysOfALoan 7 = .ok (.bipush 14, 2) := by decide +kernel
theorem dX3_daysOfALoan_9 : decode cX3_daysOfALoan 9 = .ok (.goto 5, 3) := by decide +kernel
theorem dX3_daysOfALoan_12 : decode cX3_daysOfALoan 12 = .ok (.bipush 28, 2) := by decide +kernel
theorem dX3_daysOfALoan_14 : decode cX3_daysOfALoan 14 = .ok (.ireturn, 1) := by decide +kernel
theorem dX4_init_0 : decode cX4_init 0 = .ok (.aload_n 0, 1) := by decide +kernel
theorem dX4_init_1 : decode cX4_init 1 = .ok (.invokespecial 3, 3) := by decide +kernel
theorem dX4_init_4 : decode cX4_init 4 = .ok (.aload_n 0, 1) := by decide +kernel
theorem dX4_init_5 : decode cX4_init 5 = .ok (.bipush 8, 2) := by decide +kernel
theorem dX4_init_7 : decode cX4_init 7 = .ok (.anewarray 9, 3) := by decide +kernel
theorem dX4_init_10 : decode cX4_init 10 = .ok (.putfield 11, 3) := by decide +kernel
theorem dX4_init_13 : decode cX4_init 13 = .ok (.return_, 1) := by decide +kernel
theorem dX4_holds_0 : decode cX4_holds 0 = .ok (.aload_n 0, 1) := by decide +kernel
theorem dX4_holds_1 : decode cX4_holds 1 = .ok (.getfield 11, 3) := by decide +kernel
theorem dX4_holds_4 : decode cX4_holds 4 = .ok (.astore_n 2, 1) := by decide +kernel
theorem dX4_holds_5 : decode cX4_holds 5 = .ok (.aload_n 2, 1) := by decide +kernel
theorem dX4_holds_6 : decode cX4_holds 6 = .ok (.arraylength, 1) := by decide +kernel
theorem dX4_holds_7 : decode cX4_holds 7 = .ok (.istore_n 3, 1) := by decide +kernel
theorem dX4_holds_8 : decode cX4_holds 8 = .ok (.iconst 0, 1) := by decide +kernel
theorem dX4_holds_9 : decode cX4_holds 9 = .ok (.istore 4, 2) := by decide +kernel
theorem dX4_holds_11 : decode cX4_holds 11 = .ok (.iload 4, 2) := by decide +kernel
theorem dX4_holds_13 : decode cX4_holds 13 = .ok (.iload_n 3, 1) := by decide +kernel
theorem dX4_holds_14 : decode cX4_holds 14 = .ok (.if_icmp .ge 28, 3) := by decide +kernel
theorem dX4_holds_17 : decode cX4_holds 17 = .ok (.aload_n 2, 1) := by decide +kernel
theorem dX4_holds_18 : decode cX4_holds 18 = .ok (.iload 4, 2) := by decide +kernel
theorem dX4_holds_20 : decode cX4_holds 20 = .ok (.aaload, 1) := by decide +kernel
theorem dX4_holds_21 : decode cX4_holds 21 = .ok (.astore 5, 2) := by decide +kernel
theorem dX4_holds_23 : decode cX4_holds 23 = .ok (.aload 5, 2) := by decide +kernel
theorem dX4_holds_25 : decode cX4_holds 25 = .ok (.ifnull 11, 3) := by decide +kernel
theorem dX4_holds_28 : decode cX4_holds 28 = .ok (.aload 5, 2) := by decide +kernel
theorem dX4_holds_30 : decode cX4_holds 30 = .ok (.aload_n 1, 1) := by decide +kernel
theorem dX4_holds_31 : decode cX4_holds 31 = .ok (.if_acmp .ne 5, 3) := by decide +kernel
theorem dX4_holds_34 : decode cX4_holds 34 = .ok (.iconst 1, 1) := by decide +kernel
theorem dX4_holds_35 : decode cX4_holds 35 = .ok (.ireturn, 1) := by decide +kernel
theorem dX4_holds_36 : decode cX4_holds 36 = .ok (.iinc 4 1, 3) := by decide +kernel
theorem dX4_holds_39 : decode cX4_holds 39 = .ok (.goto (-28), 3) := by decide +kernel
theorem dX4_holds_42 : decode cX4_holds 42 = .ok (.iconst 0, 1) := by decide +kernel
theorem dX4_holds_43 : decode cX4_holds 43 = .ok (.ireturn, 1) := by decide +kernel
theorem dX4_at_0 : decode cX4_at 0 = .ok (.iload_n 1, 1) := by decide +kernel
theorem dX4_at_1 : decode cX4_at 1 = .ok (.ifCond .lt 21, 3) := by decide +kernel
theorem dX4_at_4 : decode cX4_at 4 = .ok (.iload_n 1, 1) := by decide +kernel
theorem dX4_at_5 : decode cX4_at 5 = .ok (.aload_n 0, 1) := by decide +kernel
theorem dX4_at_6 : decode cX4_at 6 = .ok (.getfield 11, 3) := by decide +kernel
theorem dX4_at_9 : decode cX4_at 9 = .ok (.arraylength, 1) := by decide +kernel
theorem dX4_at_10 : decode cX4_at 10 = .ok (.if_icmp .ge 12, 3) := by decide +kernel
theorem dX4_at_13 : decode cX4_at 13 = .ok (.aload_n 0, 1) := by decide +kernel
theorem dX4_at_14 : decode cX4_at 14 = .ok (.getfield 11, 3) := by decide +kernel
theorem dX4_at_17 : decode cX4_at 17 = .ok (.iload_n 1, 1) := by decide +kernel
theorem dX4_at_18 : decode cX4_at 18 = .ok (.aaload, 1) := by decide +kernel
theorem dX4_at_19 : decode cX4_at 19 = .ok (.goto 4, 3) := by decide +kernel
theorem dX4_at_22 : decode cX4_at 22 = .ok (.aconst_null, 1) := by decide +kernel
theorem dX4_at_23 : decode cX4_at 23 = .ok (.areturn, 1) := by decide +kernel
theorem dX4_join_0 : decode cX4_join 0 = .ok (.aload_n 0, 1) := by decide +kernel
theorem dX4_join_1 : decode cX4_join 1 = .ok (.getfield 17, 3) := by decide +kernel
theorem dX4_join_4 : decode cX4_join 4 = .ok (.ifCond .lt 35, 3) := by decide +kernel
theorem dX4_join_7 : decode cX4_join 7 = .ok (.aload_n 0, 1) := by decide +kernel
theorem dX4_join_8 : decode cX4_join 8 = .ok (.getfield 17, 3) := by decide +kernel
theorem dX4_join_11 : decode cX4_join 11 = .ok (.aload_n 0, 1) := by decide +kernel
theorem dX4_join_12 : decode cX4_join 12 = .ok (.getfield 11, 3) := by decide +kernel
theorem dX4_join_15 : decode cX4_join 15 = .ok (.arraylength, 1) := by decide +kernel
theorem dX4_join_16 : decode cX4_join 16 = .ok (.if_icmp .ge 23, 3) := by decide +kernel
theorem dX4_join_19 : decode cX4_join 19 = .ok (.aload_n 0, 1) := by decide +kernel
theorem dX4_join_20 : decode cX4_join 20 = .ok (.getfield 11, 3) := by decide +kernel
theorem dX4_join_23 : decode cX4_join 23 = .ok (.aload_n 0, 1) := by decide +kernel
theorem dX4_join_24 : decode cX4_join 24 = .ok (.getfield 17, 3) := by decide +kernel
theorem dX4_join_27 : decode cX4_join 27 = .ok (.aload_n 1, 1) := by decide +kernel
theorem dX4_join_28 : decode cX4_join 28 = .ok (.aastore, 1) := by decide +kernel
theorem dX4_join_29 : decode cX4_join 29 = .ok (.aload_n 0, 1) := by decide +kernel
theorem dX4_join_30 : decode cX4_join 30 = .ok (.dup, 1) := by decide +kernel
theorem dX4_join_31 : decode cX4_join 31 = .ok (.getfield 17, 3) := by decide +kernel
theorem dX4_join_34 : decode cX4_join 34 = .ok (.iconst 1, 1) := by decide +kernel
theorem dX4_join_35 : decode cX4_join 35 = .ok (.iadd, 1) := by decide +kernel
theorem dX4_join_36 : decode cX4_join 36 = .ok (.putfield 17, 3) := by decide +kernel
theorem dX4_join_39 : decode cX4_join 39 = .ok (.return_, 1) := by decide +kernel
theorem dX4_drop_0 : decode cX4_drop 0 = .ok (.iconst 0, 1) := by decide +kernel
theorem dX4_drop_1 : decode cX4_drop 1 = .ok (.istore_n 2, 1) := by decide +kernel
theorem dX4_drop_2 : decode cX4_drop 2 = .ok (.iconst 0, 1) := by decide +kernel
theorem dX4_drop_3 : decode cX4_drop 3 = .ok (.istore_n 3, 1) := by decide +kernel
theorem dX4_drop_4 : decode cX4_drop 4 = .ok (.iload_n 3, 1) := by decide +kernel
theorem dX4_drop_5 : decode cX4_drop 5 = .ok (.aload_n 0, 1) := by decide +kernel
theorem dX4_drop_6 : decode cX4_drop 6 = .ok (.getfield 11, 3) := by decide +kernel
theorem dX4_drop_9 : decode cX4_drop 9 = .ok (.arraylength, 1) := by decide +kernel
theorem dX4_drop_10 : decode cX4_drop 10 = .ok (.if_icmp .ge 55, 3) := by decide +kernel
theorem dX4_drop_13 : decode cX4_drop 13 = .ok (.aload_n 0, 1) := by decide +kernel
theorem dX4_drop_14 : decode cX4_drop 14 = .ok (.getfield 11, 3) := by decide +kernel
theorem dX4_drop_17 : decode cX4_drop 17 = .ok (.iload_n 3, 1) := by decide +kernel
theorem dX4_drop_18 : decode cX4_drop 18 = .ok (.aaload, 1) := by decide +kernel
theorem dX4_drop_19 : decode cX4_drop 19 = .ok (.astore 4, 2) := by decide +kernel
theorem dX4_drop_21 : decode cX4_drop 21 = .ok (.aload_n 0, 1) := by decide +kernel
theorem dX4_drop_22 : decode cX4_drop 22 = .ok (.getfield 11, 3) := by decide +kernel
theorem dX4_drop_25 : decode cX4_drop 25 = .ok (.iload_n 3, 1) := by decide +kernel
theorem dX4_drop_26 : decode cX4_drop 26 = .ok (.aconst_null, 1) := by decide +kernel
theorem dX4_drop_27 : decode cX4_drop 27 = .ok (.aastore, 1) := by decide +kernel
theorem dX4_drop_28 : decode cX4_drop 28 = .ok (.aload 4, 2) := by decide +kernel
theorem dX4_drop_30 : decode cX4_drop 30 = .ok (.ifnull 29, 3) := by decide +kernel
theorem dX4_drop_33 : decode cX4_drop 33 = .ok (.aload 4, 2) := by decide +kernel
theorem dX4_drop_35 : decode cX4_drop 35 = .ok (.aload_n 1, 1) := by decide +kernel
theorem dX4_drop_36 : decode cX4_drop 36 = .ok (.if_acmp .eq 23, 3) := by decide +kernel
theorem dX4_drop_39 : decode cX4_drop 39 = .ok (.iload_n 2, 1) := by decide +kernel
theorem dX4_drop_40 : decode cX4_drop 40 = .ok (.ifCond .lt 19, 3) := by decide +kernel
theorem dX4_drop_43 : decode cX4_drop 43 = .ok (.iload_n 2, 1) := by decide +kernel
theorem dX4_drop_44 : decode cX4_drop 44 = .ok (.iload_n 3, 1) := by decide +kernel
theorem dX4_drop_45 : decode cX4_drop 45 = .ok (.if_icmp .gt 14, 3) := by decide +kernel
theorem dX4_drop_48 : decode cX4_drop 48 = .ok (.aload_n 0, 1) := by decide +kernel
theorem dX4_drop_49 : decode cX4_drop 49 = .ok (.getfield 11, 3) := by decide +kernel
theorem dX4_drop_52 : decode cX4_drop 52 = .ok (.iload_n 2, 1) := by decide +kernel
theorem dX4_drop_53 : decode cX4_drop 53 = .ok (.aload 4, 2) := by decide +kernel
theorem dX4_drop_55 : decode cX4_drop 55 = .ok (.aastore, 1) := by decide +kernel
theorem dX4_drop_56 : decode cX4_drop 56 = .ok (.iinc 2 1, 3) := by decide +kernel
theorem dX4_drop_59 : decode cX4_drop 59 = .ok (.iinc 3 1, 3) := by decide +kernel
theorem dX4_drop_62 : decode cX4_drop 62 = .ok (.goto (-58), 3) := by decide +kernel
theorem dX4_drop_65 : decode cX4_drop 65 = .ok (.aload_n 0, 1) := by decide +kernel
theorem dX4_drop_66 : decode cX4_drop 66 = .ok (.iload_n 2, 1) := by decide +kernel
theorem dX4_drop_67 : decode cX4_drop 67 = .ok (.putfield 17, 3) := by decide +kernel
theorem dX4_drop_70 : decode cX4_drop 70 = .ok (.return_, 1) := by decide +kernel
theorem dX4_clear_0 : decode cX4_clear 0 = .ok (.iconst 0, 1) := by decide +kernel
theorem dX4_clear_1 : decode cX4_clear 1 = .ok (.istore_n 1, 1) := by decide +kernel
theorem dX4_clear_2 : decode cX4_clear 2 = .ok (.iload_n 1, 1) := by decide +kernel
theorem dX4_clear_3 : decode cX4_clear 3 = .ok (.aload_n 0, 1) := by decide +kernel
theorem dX4_clear_4 : decode cX4_clear 4 = .ok (.getfield 11, 3) := by decide +kernel
theorem dX4_clear_7 : decode cX4_clear 7 = .ok (.arraylength, 1) := by decide +kernel
theorem dX4_clear_8 : decode cX4_clear 8 = .ok (.if_icmp .ge 16, 3) := by decide +kernel
theorem dX4_clear_11 : decode cX4_clear 11 = .ok (.aload_n 0, 1) := by decide +kernel
theorem dX4_clear_12 : decode cX4_clear 12 = .ok (.getfield 11, 3) := by decide +kernel
theorem dX4_clear_15 : decode cX4_clear 15 = .ok (.iload_n 1, 1) := by decide +kernel
theorem dX4_clear_16 : decode cX4_clear 16 = .ok (.aconst_null, 1) := by decide +kernel
theorem dX4_clear_17 : decode cX4_clear 17 = .ok (.aastore, 1) := by decide +kernel
theorem dX4_clear_18 : decode cX4_clear 18 = .ok (.iinc 1 1, 3) := by decide +kernel
theorem dX4_clear_21 : decode cX4_clear 21 = .ok (.goto (-19), 3) := by decide +kernel
theorem dX4_clear_24 : decode cX4_clear 24 = .ok (.aload_n 0, 1) := by decide +kernel
theorem dX4_clear_25 : decode cX4_clear 25 = .ok (.iconst 0, 1) := by decide +kernel
theorem dX4_clear_26 : decode cX4_clear 26 = .ok (.putfield 17, 3) := by decide +kernel
theorem dX4_clear_29 : decode cX4_clear 29 = .ok (.return_, 1) := by decide +kernel
theorem dX5_init_0 : decode cX5_init 0 = .ok (.aload_n 0, 1) := by decide +kernel
theorem dX5_init_1 : decode cX5_init 1 = .ok (.invokespecial 1, 3) := by decide +kernel
theorem dX5_init_4 : decode cX5_init 4 = .ok (.aload_n 0, 1) := by decide +kernel
theorem dX5_init_5 : decode cX5_init 5 = .ok (.bipush 16, 2) := by decide +kernel
theorem dX5_init_7 : decode cX5_init 7 = .ok (.anewarray 9, 3) := by decide +kernel
theorem dX5_init_10 : decode cX5_init 10 = .ok (.putfield 11, 3) := by decide +kernel
theorem dX5_init_13 : decode cX5_init 13 = .ok (.aload_n 0, 1) := by decide +kernel
theorem dX5_init_14 : decode cX5_init 14 = .ok (.bipush 20, 2) := by decide +kernel
theorem dX5_init_16 : decode cX5_init 16 = .ok (.anewarray 15, 3) := by decide +kernel
theorem dX5_init_19 : decode cX5_init 19 = .ok (.putfield 17, 3) := by decide +kernel
theorem dX5_init_22 : decode cX5_init 22 = .ok (.aload_n 0, 1) := by decide +kernel
theorem dX5_init_23 : decode cX5_init 23 = .ok (.bipush 30, 2) := by decide +kernel
theorem dX5_init_25 : decode cX5_init 25 = .ok (.anewarray 21, 3) := by decide +kernel
theorem dX5_init_28 : decode cX5_init 28 = .ok (.putfield 23, 3) := by decide +kernel
theorem dX5_init_31 : decode cX5_init 31 = .ok (.aload_n 0, 1) := by decide +kernel
theorem dX5_init_32 : decode cX5_init 32 = .ok (.bipush 8, 2) := by decide +kernel
theorem dX5_init_34 : decode cX5_init 34 = .ok (.anewarray 27, 3) := by decide +kernel
theorem dX5_init_37 : decode cX5_init 37 = .ok (.putfield 29, 3) := by decide +kernel
theorem dX5_init_40 : decode cX5_init 40 = .ok (.return_, 1) := by decide +kernel
theorem dX5_name_0 : decode cX5_name 0 = .ok (.aload_n 0, 1) := by decide +kernel
theorem dX5_name_1 : decode cX5_name 1 = .ok (.getfield 33, 3) := by decide +kernel
theorem dX5_name_4 : decode cX5_name 4 = .ok (.istore_n 1, 1) := by decide +kernel
theorem dX5_name_5 : decode cX5_name 5 = .ok (.iload_n 1, 1) := by decide +kernel
theorem dX5_name_6 : decode cX5_name 6 = .ok (.ifCond .lt 12, 3) := by decide +kernel
theorem dX5_name_9 : decode cX5_name 9 = .ok (.iload_n 1, 1) := by decide +kernel
theorem dX5_name_10 : decode cX5_name 10 = .ok (.aload_n 0, 1) := by decide +kernel
theorem dX5_name_11 : decode cX5_name 11 = .ok (.getfield 11, 3) := by decide +kernel
theorem dX5_name_14 : decode cX5_name 14 = .ok (.arraylength, 1) := by decide +kernel
theorem dX5_name_15 : decode cX5_name 15 = .ok (.if_icmp .lt 13, 3) := by decide +kernel
theorem dX5_name_18 : decode cX5_name 18 = .ok (.new 37, 3) := by decide +kernel
theorem dX5_name_21 : decode cX5_name 21 = .ok (.dup, 1) := by decide +kernel
theorem dX5_name_22 : decode cX5_name 22 = .ok (.ldc 39, 2) := by decide +kernel
theorem dX5_name_24 : decode cX5_name 24 = .ok (.invokespecial 41, 3) := by decide +kernel
theorem dX5_name_27 : decode cX5_name 27 = .ok (.athrow, 1) := by decide +kernel
theorem dX5_name_28 : decode cX5_name 28 = .ok (.aload_n 0, 1) := by decide +kernel
theorem dX5_name_29 : decode cX5_name 29 = .ok (.getfield 11, 3) := by decide +kernel
theorem dX5_name_32 : decode cX5_name 32 = .ok (.iload_n 1, 1) := by decide +kernel
theorem dX5_name_33 : decode cX5_name 33 = .ok (.new 9, 3) := by decide +kernel
theorem dX5_name_36 : decode cX5_name 36 = .ok (.dup, 1) := by decide +kernel
theorem dX5_name_37 : decode cX5_name 37 = .ok (.iload_n 1, 1) := by decide +kernel
theorem dX5_name_38 : decode cX5_name 38 = .ok (.invokespecial 44, 3) := by decide +kernel
theorem dX5_name_41 : decode cX5_name 41 = .ok (.aastore, 1) := by decide +kernel
theorem dX5_name_42 : decode cX5_name 42 = .ok (.aload_n 0, 1) := by decide +kernel
theorem dX5_name_43 : decode cX5_name 43 = .ok (.iload_n 1, 1) := by decide +kernel
theorem dX5_name_44 : decode cX5_name 44 = .ok (.iconst 1, 1) := by decide +kernel
theorem dX5_name_45 : decode cX5_name 45 = .ok (.iadd, 1) := by decide +kernel
theorem dX5_name_46 : decode cX5_name 46 = .ok (.putfield 33, 3) := by decide +kernel
theorem dX5_name_49 : decode cX5_name 49 = .ok (.iload_n 1, 1) := by decide +kernel
theorem dX5_name_50 : decode cX5_name 50 = .ok (.ireturn, 1) := by decide +kernel
theorem dX5_record_0 : decode cX5_record 0 = .ok (.aload_n 0, 1) := by decide +kernel
theorem dX5_record_1 : decode cX5_record 1 = .ok (.iload_n 1, 1) := by decide +kernel
theorem dX5_record_2 : decode cX5_record 2 = .ok (.invokevirtual 68, 3) := by decide +kernel
theorem dX5_record_5 : decode cX5_record 5 = .ok (.astore 4, 2) := by decide +kernel
theorem dX5_record_7 : decode cX5_record 7 = .ok (.iload_n 2, 1) := by decide +kernel
theorem dX5_record_8 : decode cX5_record 8 = .ok (.iconst 1, 1) := by decide +kernel
theorem dX5_record_9 : decode cX5_record 9 = .ok (.sipush 4095, 3) := by decide +kernel
theorem dX5_record_12 : decode cX5_record 12 = .ok (.invokestatic 71, 3) := by decide +kernel
theorem dX5_record_15 : decode cX5_record 15 = .ok (.iload_n 3, 1) := by decide +kernel
theorem dX5_record_16 : decode cX5_record 16 = .ok (.iconst 0, 1) := by decide +kernel
theorem dX5_record_17 : decode cX5_record 17 = .ok (.bipush 99, 2) := by decide +kernel
theorem dX5_record_19 : decode cX5_record 19 = .ok (.invokestatic 71, 3) := by decide +kernel
theorem dX5_record_22 : decode cX5_record 22 = .ok (.aload_n 0, 1) := by decide +kernel
theorem dX5_record_23 : decode cX5_record 23 = .ok (.getfield 75, 3) := by decide +kernel
theorem dX5_record_26 : decode cX5_record 26 = .ok (.istore 5, 2) := by decide +kernel
theorem dX5_record_28 : decode cX5_record 28 = .ok (.iload 5, 2) := by decide +kernel
theorem dX5_record_30 : decode cX5_record 30 = .ok (.ifCond .lt 13, 3) := by decide +kernel
theorem dX5_record_33 : decode cX5_record 33 = .ok (.iload 5, 2) := by decide +kernel
theorem dX5_record_35 : decode cX5_record 35 = .ok (.aload_n 0, 1) := by decide +kernel
theorem dX5_record_36 : decode cX5_record 36 = .ok (.getfield 17, 3) := by decide +kernel
theorem dX5_record_39 : decode cX5_record 39 = .ok (.arraylength, 1) := by decide +kernel
theorem dX5_record_40 : decode cX5_record 40 = .ok (.if_icmp .lt 13, 3) := by decide +kernel
theorem dX5_record_43 : decode cX5_record 43 = .ok (.new 37, 3) := by decide +kernel
theorem dX5_record_46 : decode cX5_record 46 = .ok (.dup, 1) := by decide +kernel
theorem dX5_record_47 : decode cX5_record 47 = .ok (.ldc 78, 2) := by decide +kernel
theorem dX5_record_49 : decode cX5_record 49 = .ok (.invokespecial 41, 3) := by decide +kernel
theorem dX5_record_52 : decode cX5_record 52 = .ok (.athrow, 1) := by decide +kernel
theorem dX5_record_53 : decode cX5_record 53 = .ok (.aload_n 0, 1) := by decide +kernel
theorem dX5_record_54 : decode cX5_record 54 = .ok (.getfield 17, 3) := by decide +kernel
theorem dX5_record_57 : decode cX5_record 57 = .ok (.iload 5, 2) := by decide +kernel
theorem dX5_record_59 : decode cX5_record 59 = .ok (.new 15, 3) := by decide +kernel
theorem dX5_record_62 : decode cX5_record 62 = .ok (.dup, 1) := by decide +kernel
theorem dX5_record_63 : decode cX5_record 63 = .ok (.iload 5, 2) := by decide +kernel
theorem dX5_record_65 : decode cX5_record 65 = .ok (.aload 4, 2) := by decide +kernel
theorem dX5_record_67 : decode cX5_record 67 = .ok (.iload_n 2, 1) := by decide +kernel
theorem dX5_record_68 : decode cX5_record 68 = .ok (.iload_n 3, 1) := by decide +kernel
theorem dX5_record_69 : decode cX5_record 69 = .ok (.invokespecial 80, 3) := by decide +kernel
theorem dX5_record_72 : decode cX5_record 72 = .ok (.aastore, 1) := by decide +kernel
theorem dX5_record_73 : decode cX5_record 73 = .ok (.aload_n 0, 1) := by decide +kernel
theorem dX5_record_74 : decode cX5_record 74 = .ok (.iload 5, 2) := by decide +kernel
theorem dX5_record_76 : decode cX5_record 76 = .ok (.iconst 1, 1) := by decide +kernel
theorem dX5_record_77 : decode cX5_record 77 = .ok (.iadd, 1) := by decide +kernel
theorem dX5_record_78 : decode cX5_record 78 = .ok (.putfield 75, 3) := by decide +kernel
theorem dX5_record_81 : decode cX5_record 81 = .ok (.iload 5, 2) := by decide +kernel
theorem dX5_record_83 : decode cX5_record 83 = .ok (.ireturn, 1) := by decide +kernel
theorem dX5_ofRecord_0 : decode cX5_ofRecord 0 = .ok (.aload_n 0, 1) := by decide +kernel
theorem dX5_ofRecord_1 : decode cX5_ofRecord 1 = .ok (.iload_n 1, 1) := by decide +kernel
theorem dX5_ofRecord_2 : decode cX5_ofRecord 2 = .ok (.invokevirtual 83, 3) := by decide +kernel
theorem dX5_ofRecord_5 : decode cX5_ofRecord 5 = .ok (.astore_n 3, 1) := by decide +kernel
theorem dX5_ofRecord_6 : decode cX5_ofRecord 6 = .ok (.iload_n 2, 1) := by decide +kernel
theorem dX5_ofRecord_7 : decode cX5_ofRecord 7 = .ok (.iconst 0, 1) := by decide +kernel
theorem dX5_ofRecord_8 : decode cX5_ofRecord 8 = .ok (.bipush 6, 2) := by decide +kernel
theorem dX5_ofRecord_10 : decode cX5_ofRecord 10 = .ok (.invokestatic 71, 3) := by decide +kernel
theorem dX5_ofRecord_13 : decode cX5_ofRecord 13 = .ok (.aload_n 0, 1) := by decide +kernel
theorem dX5_ofRecord_14 : decode cX5_ofRecord 14 = .ok (.aload_n 3, 1) := by decide +kernel
theorem dX5_ofRecord_15 : decode cX5_ofRecord 15 = .ok (.iload_n 2, 1) := by decide +kernel
theorem dX5_ofRecord_16 : decode cX5_ofRecord 16 = .ok (.invokevirtual 87, 3) := by decide +kernel
theorem dX5_ofRecord_19 : decode cX5_ofRecord 19 = .ok (.ireturn, 1) := by decide +kernel
theorem dX5_likeness_0 : decode cX5_likeness 0 = .ok (.aload_n 0, 1) := by decide +kernel
theorem dX5_likeness_1 : decode cX5_likeness 1 = .ok (.iload_n 1, 1) := by decide +kernel
theorem dX5_likeness_2 : decode cX5_likeness 2 = .ok (.invokevirtual 83, 3) := by decide +kernel
theorem dX5_likeness_5 : decode cX5_likeness 5 = .ok (.aload_n 0, 1) := by decide +kernel
theorem dX5_likeness_6 : decode cX5_likeness 6 = .ok (.iload_n 2, 1) := by decide +kernel
theorem dX5_likeness_7 : decode cX5_likeness 7 = .ok (.invokevirtual 83, 3) := by decide +kernel
theorem dX5_likeness_10 : decode cX5_likeness 10 = .ok (.invokevirtual 91, 3) := by decide +kernel
theorem dX5_likeness_13 : decode cX5_likeness 13 = .ok (.ireturn, 1) := by decide +kernel
theorem dX5_twin_0 : decode cX5_twin 0 = .ok (.aload_n 0, 1) := by decide +kernel
theorem dX5_twin_1 : decode cX5_twin 1 = .ok (.iload_n 1, 1) := by decide +kernel
theorem dX5_twin_2 : decode cX5_twin 2 = .ok (.invokevirtual 83, 3) := by decide +kernel
theorem dX5_twin_5 : decode cX5_twin 5 = .ok (.astore_n 3, 1) := by decide +kernel
theorem dX5_twin_6 : decode cX5_twin 6 = .ok (.aload_n 3, 1) := by decide +kernel
theorem dX5_twin_7 : decode cX5_twin 7 = .ok (.invokevirtual 95, 3) := by decide +kernel
theorem dX5_twin_10 : decode cX5_twin 10 = .ok (.astore 4, 2) := by decide +kernel
theorem dX5_twin_12 : decode cX5_twin 12 = .ok (.aconst_null, 1) := by decide +kernel
theorem dX5_twin_13 : decode cX5_twin 13 = .ok (.astore 5, 2) := by decide +kernel
theorem dX5_twin_15 : decode cX5_twin 15 = .ok (.aload_n 0, 1) := by decide +kernel
theorem dX5_twin_16 : decode cX5_twin 16 = .ok (.getfield 17, 3) := by decide +kernel
theorem dX5_twin_19 : decode cX5_twin 19 = .ok (.astore 6, 2) := by decide +kernel
theorem dX5_twin_21 : decode cX5_twin 21 = .ok (.aload 6, 2) := by decide +kernel
theorem dX5_twin_23 : decode cX5_twin 23 = .ok (.arraylength, 1) := by decide +kernel
theorem dX5_twin_24 : decode cX5_twin 24 = .ok (.istore 7, 2) := by decide +kernel
theorem dX5_twin_26 : decode cX5_twin 26 = .ok (.iconst 0, 1) := by decide +kernel
theorem dX5_twin_27 : decode cX5_twin 27 = .ok (.istore 8, 2) := by decide +kernel
theorem dX5_twin_29 : decode cX5_twin 29 = .ok (.iload 8, 2) := by decide +kernel
theorem dX5_twin_31 : decode cX5_twin 31 = .ok (.iload 7, 2) := by decide +kernel
theorem dX5_twin_33 : decode cX5_twin 33 = .ok (.if_icmp .ge 60, 3) := by decide +kernel
theorem dX5_twin_36 : decode cX5_twin 36 = .ok (.aload 6, 2) := by decide +kernel
theorem dX5_twin_38 : decode cX5_twin 38 = .ok (.iload 8, 2) := by decide +kernel
theorem dX5_twin_40 : decode cX5_twin 40 = .ok (.aaload, 1) := by decide +kernel
theorem dX5_twin_41 : decode cX5_twin 41 = .ok (.astore 9, 2) := by decide +kernel
theorem dX5_twin_43 : decode cX5_twin 43 = .ok (.aload 9, 2) := by decide +kernel
theorem dX5_twin_45 : decode cX5_twin 45 = .ok (.ifnull 42, 3) := by decide +kernel
theorem dX5_twin_48 : decode cX5_twin 48 = .ok (.aload 9, 2) := by decide +kernel
theorem dX5_twin_50 : decode cX5_twin 50 = .ok (.invokevirtual 99, 3) := by decide +kernel
theorem dX5_twin_53 : decode cX5_twin 53 = .ok (.ifCond .eq 34, 3) := by decide +kernel
theorem dX5_twin_56 : decode cX5_twin 56 = .ok (.aload 9, 2) := by decide +kernel
theorem dX5_twin_58 : decode cX5_twin 58 = .ok (.aload 4, 2) := by decide +kernel
theorem dX5_twin_60 : decode cX5_twin 60 = .ok (.if_acmp .eq 27, 3) := by decide +kernel
theorem dX5_twin_63 : decode cX5_twin 63 = .ok (.aload 5, 2) := by decide +kernel
theorem dX5_twin_65 : decode cX5_twin 65 = .ok (.ifnull 18, 3) := by decide +kernel
theorem dX5_twin_68 : decode cX5_twin 68 = .ok (.aload_n 3, 1) := by decide +kernel
theorem dX5_twin_69 : decode cX5_twin 69 = .ok (.aload 9, 2) := by decide +kernel
theorem dX5_twin_71 : decode cX5_twin 71 = .ok (.invokevirtual 91, 3) := by decide +kernel
theorem dX5_twin_74 : decode cX5_twin 74 = .ok (.aload_n 3, 1) := by decide +kernel
theorem dX5_twin_75 : decode cX5_twin 75 = .ok (.aload 5, 2) := by decide +kernel
theorem dX5_twin_77 : decode cX5_twin 77 = .ok (.invokevirtual 91, 3) := by decide +kernel
theorem dX5_twin_80 : decode cX5_twin 80 = .ok (.if_icmp .le 7, 3) := by decide +kernel
theorem dX5_twin_83 : decode cX5_twin 83 = .ok (.aload 9, 2) := by decide +kernel
theorem dX5_twin_85 : decode cX5_twin 85 = .ok (.astore 5, 2) := by decide +kernel
theorem dX5_twin_87 : decode cX5_twin 87 = .ok (.iinc 8 1, 3) := by decide +kernel
theorem dX5_twin_90 : decode cX5_twin 90 = .ok (.goto (-61), 3) := by decide +kernel
theorem dX5_twin_93 : decode cX5_twin 93 = .ok (.aload 5, 2) := by decide +kernel
theorem dX5_twin_95 : decode cX5_twin 95 = .ok (.ifnull 13, 3) := by decide +kernel
theorem dX5_twin_98 : decode cX5_twin 98 = .ok (.aload_n 3, 1) := by decide +kernel
theorem dX5_twin_99 : decode cX5_twin 99 = .ok (.aload 5, 2) := by decide +kernel
theorem dX5_twin_101 : decode cX5_twin 101 = .ok (.invokevirtual 91, 3) := by decide +kernel
theorem dX5_twin_104 : decode cX5_twin 104 = .ok (.iload_n 2, 1) := by decide +kernel
theorem dX5_twin_105 : decode cX5_twin 105 = .ok (.if_icmp .ge 7, 3) := by decide +kernel
theorem dX5_twin_108 : decode cX5_twin 108 = .ok (.iconst (-1), 1) := by decide +kernel
theorem dX5_twin_109 : decode cX5_twin 109 = .ok (.goto 8, 3) := by decide +kernel
theorem dX5_twin_112 : decode cX5_twin 112 = .ok (.aload 5, 2) := by decide +kernel
theorem dX5_twin_114 : decode cX5_twin 114 = .ok (.getfield 103, 3) := by decide +kernel
theorem dX5_twin_117 : decode cX5_twin 117 = .ok (.ireturn, 1) := by decide +kernel
theorem dX5_lay_0 : decode cX5_lay 0 = .ok (.aload_n 0, 1) := by decide +kernel
theorem dX5_lay_1 : decode cX5_lay 1 = .ok (.iload_n 1, 1) := by decide +kernel
theorem dX5_lay_2 : decode cX5_lay 2 = .ok (.invokevirtual 83, 3) := by decide +kernel
theorem dX5_lay_5 : decode cX5_lay 5 = .ok (.astore_n 3, 1) := by decide +kernel
theorem dX5_lay_6 : decode cX5_lay 6 = .ok (.aload_n 0, 1) := by decide +kernel
theorem dX5_lay_7 : decode cX5_lay 7 = .ok (.iload_n 2, 1) := by decide +kernel
theorem dX5_lay_8 : decode cX5_lay 8 = .ok (.invokevirtual 83, 3) := by decide +kernel
theorem dX5_lay_11 : decode cX5_lay 11 = .ok (.astore 4, 2) := by decide +kernel
theorem dX5_lay_13 : decode cX5_lay 13 = .ok (.aload_n 3, 1) := by decide +kernel
theorem dX5_lay_14 : decode cX5_lay 14 = .ok (.invokevirtual 99, 3) := by decide +kernel
theorem dX5_lay_17 : decode cX5_lay 17 = .ok (.ifCond .eq 17, 3) := by decide +kernel
theorem dX5_lay_20 : decode cX5_lay 20 = .ok (.aload 4, 2) := by decide +kernel
theorem dX5_lay_22 : decode cX5_lay 22 = .ok (.invokevirtual 99, 3) := by decide +kernel
theorem dX5_lay_25 : decode cX5_lay 25 = .ok (.ifCond .eq 9, 3) := by decide +kernel
theorem dX5_lay_28 : decode cX5_lay 28 = .ok (.aload_n 3, 1) := by decide +kernel
theorem dX5_lay_29 : decode cX5_lay 29 = .ok (.aload 4, 2) := by decide +kernel
theorem dX5_lay_31 : decode cX5_lay 31 = .ok (.if_acmp .ne 13, 3) := by decide +kernel
theorem dX5_lay_34 : decode cX5_lay 34 = .ok (.new 37, 3) := by decide +kernel
theorem dX5_lay_37 : decode cX5_lay 37 = .ok (.dup, 1) := by decide +kernel
theorem dX5_lay_38 : decode cX5_lay 38 = .ok (.ldc 104, 2) := by decide +kernel
theorem dX5_lay_40 : decode cX5_lay 40 = .ok (.invokespecial 41, 3) := by decide +kernel
theorem dX5_lay_43 : decode cX5_lay 43 = .ok (.athrow, 1) := by decide +kernel
theorem dX5_lay_44 : decode cX5_lay 44 = .ok (.aload_n 0, 1) := by decide +kernel
theorem dX5_lay_45 : decode cX5_lay 45 = .ok (.aload_n 3, 1) := by decide +kernel
theorem dX5_lay_46 : decode cX5_lay 46 = .ok (.aload 4, 2) := by decide +kernel
theorem dX5_lay_48 : decode cX5_lay 48 = .ok (.invokevirtual 106, 3) := by decide +kernel
theorem dX5_lay_51 : decode cX5_lay 51 = .ok (.aload_n 0, 1) := by decide +kernel
theorem dX5_lay_52 : decode cX5_lay 52 = .ok (.aload_n 3, 1) := by decide +kernel
theorem dX5_lay_53 : decode cX5_lay 53 = .ok (.aload 4, 2) := by decide +kernel
theorem dX5_lay_55 : decode cX5_lay 55 = .ok (.invokevirtual 110, 3) := by decide +kernel
theorem dX5_lay_58 : decode cX5_lay 58 = .ok (.aload 4, 2) := by decide +kernel
theorem dX5_lay_60 : decode cX5_lay 60 = .ok (.dup, 1) := by decide +kernel
theorem dX5_lay_61 : decode cX5_lay 61 = .ok (.getfield 113, 3) := by decide +kernel
theorem dX5_lay_64 : decode cX5_lay 64 = .ok (.aload_n 3, 1) := by decide +kernel
theorem dX5_lay_65 : decode cX5_lay 65 = .ok (.getfield 113, 3) := by decide +kernel
theorem dX5_lay_68 : decode cX5_lay 68 = .ok (.iadd, 1) := by decide +kernel
theorem dX5_lay_69 : decode cX5_lay 69 = .ok (.putfield 113, 3) := by decide +kernel
theorem dX5_lay_72 : decode cX5_lay 72 = .ok (.aload_n 3, 1) := by decide +kernel
theorem dX5_lay_73 : decode cX5_lay 73 = .ok (.aload 4, 2) := by decide +kernel
theorem dX5_lay_75 : decode cX5_lay 75 = .ok (.putfield 116, 3) := by decide +kernel
theorem dX5_lay_78 : decode cX5_lay 78 = .ok (.aload_n 0, 1) := by decide +kernel
theorem dX5_lay_79 : decode cX5_lay 79 = .ok (.invokevirtual 120, 3) := by decide +kernel
theorem dX5_lay_82 : decode cX5_lay 82 = .ok (.aload_n 0, 1) := by decide +kernel
theorem dX5_lay_83 : decode cX5_lay 83 = .ok (.invokevirtual 123, 3) := by decide +kernel
theorem dX5_lay_86 : decode cX5_lay 86 = .ok (.aload_n 0, 1) := by decide +kernel
theorem dX5_lay_87 : decode cX5_lay 87 = .ok (.aload 4, 2) := by decide +kernel
theorem dX5_lay_89 : decode cX5_lay 89 = .ok (.invokevirtual 126, 3) := by decide +kernel
theorem dX5_lay_92 : decode cX5_lay 92 = .ok (.ireturn, 1) := by decide +kernel
theorem dX5_copy_0 : decode cX5_copy 0 = .ok (.aload_n 0, 1) := by decide +kernel
theorem dX5_copy_1 : decode cX5_copy 1 = .ok (.iload_n 1, 1) := by decide +kernel
theorem dX5_copy_2 : decode cX5_copy 2 = .ok (.invokevirtual 83, 3) := by decide +kernel
theorem dX5_copy_5 : decode cX5_copy 5 = .ok (.astore_n 3, 1) := by decide +kernel
theorem dX5_copy_6 : decode cX5_copy 6 = .ok (.iload_n 2, 1) := by decide +kernel
theorem dX5_copy_7 : decode cX5_copy 7 = .ok (.iconst 1, 1) := by decide +kernel
theorem dX5_copy_8 : decode cX5_copy 8 = .ok (.sipush 200, 3) := by decide +kernel
theorem dX5_copy_11 : decode cX5_copy 11 = .ok (.invokestatic 71, 3) := by decide +kernel
theorem dX5_copy_14 : decode cX5_copy 14 = .ok (.aload_n 0, 1) := by decide +kernel
theorem dX5_copy_15 : decode cX5_copy 15 = .ok (.getfield 136, 3) := by decide +kernel
theorem dX5_copy_18 : decode cX5_copy 18 = .ok (.istore 4, 2) := by decide +kernel
theorem dX5_copy_20 : decode cX5_copy 20 = .ok (.aload_n 3, 1) := by decide +kernel
theorem dX5_copy_21 : decode cX5_copy 21 = .ok (.invokevirtual 99, 3) := by decide +kernel
theorem dX5_copy_24 : decode cX5_copy 24 = .ok (.ifCond .eq 18, 3) := by decide +kernel
theorem dX5_copy_27 : decode cX5_copy 27 = .ok (.iload 4, 2) := by decide +kernel
theorem dX5_copy_29 : decode cX5_copy 29 = .ok (.ifCond .lt 13, 3) := by decide +kernel
theorem dX5_copy_32 : decode cX5_copy 32 = .ok (.iload 4, 2) := by decide +kernel
theorem dX5_copy_34 : decode cX5_copy 34 = .ok (.aload_n 0, 1) := by decide +kernel
theorem dX5_copy_35 : decode cX5_copy 35 = .ok (.getfield 23, 3) := by decide +kernel
theorem dX5_copy_38 : decode cX5_copy 38 = .ok (.arraylength, 1) := by decide +kernel
theorem dX5_copy_39 : decode cX5_copy 39 = .ok (.if_icmp .lt 13, 3) := by decide +kernel
theorem dX5_copy_42 : decode cX5_copy 42 = .ok (.new 37, 3) := by decide +kernel
theorem dX5_copy_45 : decode cX5_copy 45 = .ok (.dup, 1) := by decide +kernel
theorem dX5_copy_46 : decode cX5_copy 46 = .ok (.ldc 139, 2) := by decide +kernel
theorem dX5_copy_48 : decode cX5_copy 48 = .ok (.invokespecial 41, 3) := by decide +kernel
theorem dX5_copy_51 : decode cX5_copy 51 = .ok (.athrow, 1) := by decide +kernel
theorem dX5_copy_52 : decode cX5_copy 52 = .ok (.new 21, 3) := by decide +kernel
theorem dX5_copy_55 : decode cX5_copy 55 = .ok (.dup, 1) := by decide +kernel
theorem dX5_copy_56 : decode cX5_copy 56 = .ok (.iload 4, 2) := by decide +kernel
theorem dX5_copy_58 : decode cX5_copy 58 = .ok (.aload_n 3, 1) := by decide +kernel
theorem dX5_copy_59 : decode cX5_copy 59 = .ok (.iload_n 2, 1) := by decide +kernel
theorem dX5_copy_60 : decode cX5_copy 60 = .ok (.invokespecial 141, 3) := by decide +kernel
theorem dX5_copy_63 : decode cX5_copy 63 = .ok (.astore 5, 2) := by decide +kernel
theorem dX5_copy_65 : decode cX5_copy 65 = .ok (.aload_n 0, 1) := by decide +kernel
theorem dX5_copy_66 : decode cX5_copy 66 = .ok (.getfield 23, 3) := by decide +kernel
theorem dX5_copy_69 : decode cX5_copy 69 = .ok (.iload 4, 2) := by decide +kernel
theorem dX5_copy_71 : decode cX5_copy 71 = .ok (.aload 5, 2) := by decide +kernel
theorem dX5_copy_73 : decode cX5_copy 73 = .ok (.aastore, 1) := by decide +kernel
theorem dX5_copy_74 : decode cX5_copy 74 = .ok (.aload_n 0, 1) := by decide +kernel
theorem dX5_copy_75 : decode cX5_copy 75 = .ok (.iload 4, 2) := by decide +kernel
theorem dX5_copy_77 : decode cX5_copy 77 = .ok (.iconst 1, 1) := by decide +kernel
theorem dX5_copy_78 : decode cX5_copy 78 = .ok (.iadd, 1) := by decide +kernel
theorem dX5_copy_79 : decode cX5_copy 79 = .ok (.putfield 136, 3) := by decide +kernel
theorem dX5_copy_82 : decode cX5_copy 82 = .ok (.aload_n 0, 1) := by decide +kernel
theorem dX5_copy_83 : decode cX5_copy 83 = .ok (.aload 5, 2) := by decide +kernel
theorem dX5_copy_85 : decode cX5_copy 85 = .ok (.invokevirtual 144, 3) := by decide +kernel
theorem dX5_copy_88 : decode cX5_copy 88 = .ok (.iload 4, 2) := by decide +kernel
theorem dX5_copy_90 : decode cX5_copy 90 = .ok (.ireturn, 1) := by decide +kernel
theorem dX5_ofCopy_0 : decode cX5_ofCopy 0 = .ok (.aload_n 0, 1) := by decide +kernel
theorem dX5_ofCopy_1 : decode cX5_ofCopy 1 = .ok (.iload_n 1, 1) := by decide +kernel
theorem dX5_ofCopy_2 : decode cX5_ofCopy 2 = .ok (.invokevirtual 148, 3) := by decide +kernel
theorem dX5_ofCopy_5 : decode cX5_ofCopy 5 = .ok (.astore_n 3, 1) := by decide +kernel
theorem dX5_ofCopy_6 : decode cX5_ofCopy 6 = .ok (.iload_n 2, 1) := by decide +kernel
theorem dX5_ofCopy_7 : decode cX5_ofCopy 7 = .ok (.iconst 0, 1) := by decide +kernel
theorem dX5_ofCopy_8 : decode cX5_ofCopy 8 = .ok (.bipush 6, 2) := by decide +kernel
theorem dX5_ofCopy_10 : decode cX5_ofCopy 10 = .ok (.invokestatic 71, 3) := by decide +kernel
theorem dX5_ofCopy_13 : decode cX5_ofCopy 13 = .ok (.aload_n 0, 1) := by decide +kernel
theorem dX5_ofCopy_14 : decode cX5_ofCopy 14 = .ok (.aload_n 3, 1) := by decide +kernel
theorem dX5_ofCopy_15 : decode cX5_ofCopy 15 = .ok (.iload_n 2, 1) := by decide +kernel
theorem dX5_ofCopy_16 : decode cX5_ofCopy 16 = .ok (.invokevirtual 152, 3) := by decide +kernel
theorem dX5_ofCopy_19 : decode cX5_ofCopy 19 = .ok (.ireturn, 1) := by decide +kernel
theorem dX5_reader_0 : decode cX5_reader 0 = .ok (.iload_n 1, 1) := by decide +kernel
theorem dX5_reader_1 : decode cX5_reader 1 = .ok (.iconst 0, 1) := by decide +kernel
theorem dX5_reader_2 : decode cX5_reader 2 = .ok (.iconst 1, 1) := by decide +kernel
theorem dX5_reader_3 : decode cX5_reader 3 = .ok (.invokestatic 71, 3) := by decide +kernel
theorem dX5_reader_6 : decode cX5_reader 6 = .ok (.aload_n 0, 1) := by decide +kernel
theorem dX5_reader_7 : decode cX5_reader 7 = .ok (.getfield 156, 3) := by decide +kernel
theorem dX5_reader_10 : decode cX5_reader 10 = .ok (.istore_n 2, 1) := by decide +kernel
theorem dX5_reader_11 : decode cX5_reader 11 = .ok (.iload_n 2, 1) := by decide +kernel
theorem dX5_reader_12 : decode cX5_reader 12 = .ok (.ifCond .lt 12, 3) := by decide +kernel
theorem dX5_reader_15 : decode cX5_reader 15 = .ok (.iload_n 2, 1) := by decide +kernel
theorem dX5_reader_16 : decode cX5_reader 16 = .ok (.aload_n 0, 1) := by decide +kernel
theorem dX5_reader_17 : decode cX5_reader 17 = .ok (.getfield 29, 3) := by decide +kernel
theorem dX5_reader_20 : decode cX5_reader 20 = .ok (.arraylength, 1) := by decide +kernel
theorem dX5_reader_21 : decode cX5_reader 21 = .ok (.if_icmp .lt 13, 3) := by decide +kernel
theorem dX5_reader_24 : decode cX5_reader 24 = .ok (.new 37, 3) := by decide +kernel
theorem dX5_reader_27 : decode cX5_reader 27 = .ok (.dup, 1) := by decide +kernel
theorem dX5_reader_28 : decode cX5_reader 28 = .ok (.ldc 159, 2) := by decide +kernel
theorem dX5_reader_30 : decode cX5_reader 30 = .ok (.invokespecial 41, 3) := by decide +kernel
theorem dX5_reader_33 : decode cX5_reader 33 = .ok (.athrow, 1) := by decide +kernel
theorem dX5_reader_34 : decode cX5_reader 34 = .ok (.aload_n 0, 1) := by decide +kernel
theorem dX5_reader_35 : decode cX5_reader 35 = .ok (.getfield 29, 3) := by decide +kernel
theorem dX5_reader_38 : decode cX5_reader 38 = .ok (.iload_n 2, 1) := by decide +kernel
theorem dX5_reader_39 : decode cX5_reader 39 = .ok (.new 27, 3) := by decide +kernel
theorem dX5_reader_42 : decode cX5_reader 42 = .ok (.dup, 1) := by decide +kernel
theorem dX5_reader_43 : decode cX5_reader 43 = .ok (.iload_n 2, 1) := by decide +kernel
theorem dX5_reader_44 : decode cX5_reader 44 = .ok (.iload_n 1, 1) := by decide +kernel
theorem dX5_reader_45 : decode cX5_reader 45 = .ok (.invokespecial 161, 3) := by decide +kernel
theorem dX5_reader_48 : decode cX5_reader 48 = .ok (.aastore, 1) := by decide +kernel
theorem dX5_reader_49 : decode cX5_reader 49 = .ok (.aload_n 0, 1) := by decide +kernel
theorem dX5_reader_50 : decode cX5_reader 50 = .ok (.iload_n 2, 1) := by decide +kernel
theorem dX5_reader_51 : decode cX5_reader 51 = .ok (.iconst 1, 1) := by decide +kernel
theorem dX5_reader_52 : decode cX5_reader 52 = .ok (.iadd, 1) := by decide +kernel
theorem dX5_reader_53 : decode cX5_reader 53 = .ok (.putfield 156, 3) := by decide +kernel
theorem dX5_reader_56 : decode cX5_reader 56 = .ok (.iload_n 2, 1) := by decide +kernel
theorem dX5_reader_57 : decode cX5_reader 57 = .ok (.ireturn, 1) := by decide +kernel
theorem dX5_ofReader_0 : decode cX5_ofReader 0 = .ok (.aload_n 0, 1) := by decide +kernel
theorem dX5_ofReader_1 : decode cX5_ofReader 1 = .ok (.iload_n 1, 1) := by decide +kernel
theorem dX5_ofReader_2 : decode cX5_ofReader 2 = .ok (.invokevirtual 164, 3) := by decide +kernel
theorem dX5_ofReader_5 : decode cX5_ofReader 5 = .ok (.astore_n 3, 1) := by decide +kernel
theorem dX5_ofReader_6 : decode cX5_ofReader 6 = .ok (.iload_n 2, 1) := by decide +kernel
theorem dX5_ofReader_7 : decode cX5_ofReader 7 = .ok (.iconst 0, 1) := by decide +kernel
theorem dX5_ofReader_8 : decode cX5_ofReader 8 = .ok (.bipush 6, 2) := by decide +kernel
theorem dX5_ofReader_10 : decode cX5_ofReader 10 = .ok (.invokestatic 71, 3) := by decide +kernel
theorem dX5_ofReader_13 : decode cX5_ofReader 13 = .ok (.aload_n 0, 1) := by decide +kernel
theorem dX5_ofReader_14 : decode cX5_ofReader 14 = .ok (.aload_n 3, 1) := by decide +kernel
theorem dX5_ofReader_15 : decode cX5_ofReader 15 = .ok (.iload_n 2, 1) := by decide +kernel
theorem dX5_ofReader_16 : decode cX5_ofReader 16 = .ok (.invokevirtual 168, 3) := by decide +kernel
theorem dX5_ofReader_19 : decode cX5_ofReader 19 = .ok (.ireturn, 1) := by decide +kernel
theorem dX5_pay_0 : decode cX5_pay 0 = .ok (.aload_n 0, 1) := by decide +kernel
theorem dX5_pay_1 : decode cX5_pay 1 = .ok (.iload_n 1, 1) := by decide +kernel
theorem dX5_pay_2 : decode cX5_pay 2 = .ok (.invokevirtual 164, 3) := by decide +kernel
theorem dX5_pay_5 : decode cX5_pay 5 = .ok (.astore_n 3, 1) := by decide +kernel
theorem dX5_pay_6 : decode cX5_pay 6 = .ok (.iload_n 2, 1) := by decide +kernel
theorem dX5_pay_7 : decode cX5_pay 7 = .ok (.iconst 1, 1) := by decide +kernel
theorem dX5_pay_8 : decode cX5_pay 8 = .ok (.aload_n 3, 1) := by decide +kernel
theorem dX5_pay_9 : decode cX5_pay 9 = .ok (.getfield 172, 3) := by decide +kernel
theorem dX5_pay_12 : decode cX5_pay 12 = .ok (.invokestatic 71, 3) := by decide +kernel
theorem dX5_pay_15 : decode cX5_pay 15 = .ok (.aload_n 3, 1) := by decide +kernel
theorem dX5_pay_16 : decode cX5_pay 16 = .ok (.dup, 1) := by decide +kernel
theorem dX5_pay_17 : decode cX5_pay 17 = .ok (.getfield 172, 3) := by decide +kernel
theorem dX5_pay_20 : decode cX5_pay 20 = .ok (.iload_n 2, 1) := by decide +kernel
theorem dX5_pay_21 : decode cX5_pay 21 = .ok (.isub, 1) := by decide +kernel
theorem dX5_pay_22 : decode cX5_pay 22 = .ok (.putfield 172, 3) := by decide +kernel
theorem dX5_pay_25 : decode cX5_pay 25 = .ok (.aload_n 3, 1) := by decide +kernel
theorem dX5_pay_26 : decode cX5_pay 26 = .ok (.getfield 172, 3) := by decide +kernel
theorem dX5_pay_29 : decode cX5_pay 29 = .ok (.ireturn, 1) := by decide +kernel
theorem dX5_lend_0 : decode cX5_lend 0 = .ok (.aload_n 0, 1) := by decide +kernel
theorem dX5_lend_1 : decode cX5_lend 1 = .ok (.iload_n 1, 1) := by decide +kernel
theorem dX5_lend_2 : decode cX5_lend 2 = .ok (.invokevirtual 164, 3) := by decide +kernel
theorem dX5_lend_5 : decode cX5_lend 5 = .ok (.astore_n 3, 1) := by decide +kernel
theorem dX5_lend_6 : decode cX5_lend 6 = .ok (.aload_n 0, 1) := by decide +kernel
theorem dX5_lend_7 : decode cX5_lend 7 = .ok (.iload_n 2, 1) := by decide +kernel
theorem dX5_lend_8 : decode cX5_lend 8 = .ok (.invokevirtual 148, 3) := by decide +kernel
theorem dX5_lend_11 : decode cX5_lend 11 = .ok (.astore 4, 2) := by decide +kernel
theorem dX5_lend_13 : decode cX5_lend 13 = .ok (.aload_n 0, 1) := by decide +kernel
theorem dX5_lend_14 : decode cX5_lend 14 = .ok (.aload_n 3, 1) := by decide +kernel
theorem dX5_lend_15 : decode cX5_lend 15 = .ok (.aload 4, 2) := by decide +kernel
theorem dX5_lend_17 : decode cX5_lend 17 = .ok (.invokevirtual 175, 3) := by decide +kernel
theorem dX5_lend_20 : decode cX5_lend 20 = .ok (.ifCond .eq 13, 3) := by decide +kernel
theorem dX5_lend_23 : decode cX5_lend 23 = .ok (.new 37, 3) := by decide +kernel
theorem dX5_lend_26 : decode cX5_lend 26 = .ok (.dup, 1) := by decide +kernel
theorem dX5_lend_27 : decode cX5_lend 27 = .ok (.ldc 179, 2) := by decide +kernel
theorem dX5_lend_29 : decode cX5_lend 29 = .ok (.invokespecial 41, 3) := by decide +kernel
theorem dX5_lend_32 : decode cX5_lend 32 = .ok (.athrow, 1) := by decide +kernel
theorem dX5_lend_33 : decode cX5_lend 33 = .ok (.aload 4, 2) := by decide +kernel
theorem dX5_lend_35 : decode cX5_lend 35 = .ok (.iconst 1, 1) := by decide +kernel
theorem dX5_lend_36 : decode cX5_lend 36 = .ok (.aload_n 3, 1) := by decide +kernel
theorem dX5_lend_37 : decode cX5_lend 37 = .ok (.aload_n 0, 1) := by decide +kernel
theorem dX5_lend_38 : decode cX5_lend 38 = .ok (.getfield 181, 3) := by decide +kernel
theorem dX5_lend_41 : decode cX5_lend 41 = .ok (.aload_n 3, 1) := by decide +kernel
theorem dX5_lend_42 : decode cX5_lend 42 = .ok (.invokevirtual 184, 3) := by decide +kernel
theorem dX5_lend_45 : decode cX5_lend 45 = .ok (.iadd, 1) := by decide +kernel
theorem dX5_lend_46 : decode cX5_lend 46 = .ok (.invokevirtual 188, 3) := by decide +kernel
theorem dX5_lend_49 : decode cX5_lend 49 = .ok (.aload 4, 2) := by decide +kernel
theorem dX5_lend_51 : decode cX5_lend 51 = .ok (.getfield 192, 3) := by decide +kernel
theorem dX5_lend_54 : decode cX5_lend 54 = .ok (.dup, 1) := by decide +kernel
theorem dX5_lend_55 : decode cX5_lend 55 = .ok (.getfield 113, 3) := by decide +kernel
theorem dX5_lend_58 : decode cX5_lend 58 = .ok (.iconst 1, 1) := by decide +kernel
theorem dX5_lend_59 : decode cX5_lend 59 = .ok (.iadd, 1) := by decide +kernel
theorem dX5_lend_60 : decode cX5_lend 60 = .ok (.putfield 113, 3) := by decide +kernel
theorem dX5_lend_63 : decode cX5_lend 63 = .ok (.aload_n 0, 1) := by decide +kernel
theorem dX5_lend_64 : decode cX5_lend 64 = .ok (.aload_n 3, 1) := by decide +kernel
theorem dX5_lend_65 : decode cX5_lend 65 = .ok (.aload 4, 2) := by decide +kernel
theorem dX5_lend_67 : decode cX5_lend 67 = .ok (.getfield 192, 3) := by decide +kernel
theorem dX5_lend_70 : decode cX5_lend 70 = .ok (.invokevirtual 195, 3) := by decide +kernel
theorem dX5_lend_73 : decode cX5_lend 73 = .ok (.aload 4, 2) := by decide +kernel
theorem dX5_lend_75 : decode cX5_lend 75 = .ok (.getfield 199, 3) := by decide +kernel
theorem dX5_lend_78 : decode cX5_lend 78 = .ok (.ireturn, 1) := by decide +kernel
theorem dX5_renew_0 : decode cX5_renew 0 = .ok (.aload_n 0, 1) := by decide +kernel
theorem dX5_renew_1 : decode cX5_renew 1 = .ok (.iload_n 1, 1) := by decide +kernel
theorem dX5_renew_2 : decode cX5_renew 2 = .ok (.invokevirtual 148, 3) := by decide +kernel
theorem dX5_renew_5 : decode cX5_renew 5 = .ok (.astore_n 2, 1) := by decide +kernel
theorem dX5_renew_6 : decode cX5_renew 6 = .ok (.aload_n 2, 1) := by decide +kernel
theorem dX5_renew_7 : decode cX5_renew 7 = .ok (.getfield 202, 3) := by decide +kernel
theorem dX5_renew_10 : decode cX5_renew 10 = .ok (.astore_n 3, 1) := by decide +kernel
theorem dX5_renew_11 : decode cX5_renew 11 = .ok (.aload_n 3, 1) := by decide +kernel
theorem dX5_renew_12 : decode cX5_renew 12 = .ok (.ifnull 11, 3) := by decide +kernel
theorem dX5_renew_15 : decode cX5_renew 15 = .ok (.aload_n 0, 1) := by decide +kernel
theorem dX5_renew_16 : decode cX5_renew 16 = .ok (.aload_n 2, 1) := by decide +kernel
theorem dX5_renew_17 : decode cX5_renew 17 = .ok (.invokevirtual 206, 3) := by decide +kernel
theorem dX5_renew_20 : decode cX5_renew 20 = .ok (.ifCond .ne 13, 3) := by decide +kernel
theorem dX5_renew_23 : decode cX5_renew 23 = .ok (.new 37, 3) := by decide +kernel
theorem dX5_renew_26 : decode cX5_renew 26 = .ok (.dup, 1) := by decide +kernel
theorem dX5_renew_27 : decode cX5_renew 27 = .ok (.ldc 210, 2) := by decide +kernel
theorem dX5_renew_29 : decode cX5_renew 29 = .ok (.invokespecial 41, 3) := by decide +kernel
theorem dX5_renew_32 : decode cX5_renew 32 = .ok (.athrow, 1) := by decide +kernel
theorem dX5_renew_33 : decode cX5_renew 33 = .ok (.aload_n 2, 1) := by decide +kernel
theorem dX5_renew_34 : decode cX5_renew 34 = .ok (.aload_n 0, 1) := by decide +kernel
theorem dX5_renew_35 : decode cX5_renew 35 = .ok (.getfield 181, 3) := by decide +kernel
theorem dX5_renew_38 : decode cX5_renew 38 = .ok (.aload_n 3, 1) := by decide +kernel
theorem dX5_renew_39 : decode cX5_renew 39 = .ok (.invokevirtual 184, 3) := by decide +kernel
theorem dX5_renew_42 : decode cX5_renew 42 = .ok (.iadd, 1) := by decide +kernel
theorem dX5_renew_43 : decode cX5_renew 43 = .ok (.putfield 199, 3) := by decide +kernel
theorem dX5_renew_46 : decode cX5_renew 46 = .ok (.aload_n 2, 1) := by decide +kernel
theorem dX5_renew_47 : decode cX5_renew 47 = .ok (.dup, 1) := by decide +kernel
theorem dX5_renew_48 : decode cX5_renew 48 = .ok (.getfield 212, 3) := by decide +kernel
theorem dX5_renew_51 : decode cX5_renew 51 = .ok (.iconst 1, 1) := by decide +kernel
theorem dX5_renew_52 : decode cX5_renew 52 = .ok (.iadd, 1) := by decide +kernel
theorem dX5_renew_53 : decode cX5_renew 53 = .ok (.putfield 212, 3) := by decide +kernel
theorem dX5_renew_56 : decode cX5_renew 56 = .ok (.aload_n 2, 1) := by decide +kernel
theorem dX5_renew_57 : decode cX5_renew 57 = .ok (.getfield 199, 3) := by decide +kernel
theorem dX5_renew_60 : decode cX5_renew 60 = .ok (.ireturn, 1) := by decide +kernel
theorem dX5_back_0 : decode cX5_back 0 = .ok (.aload_n 0, 1) := by decide +kernel
theorem dX5_back_1 : decode cX5_back 1 = .ok (.iload_n 1, 1) := by decide +kernel
theorem dX5_back_2 : decode cX5_back 2 = .ok (.invokevirtual 148, 3) := by decide +kernel
theorem dX5_back_5 : decode cX5_back 5 = .ok (.astore_n 2, 1) := by decide +kernel
theorem dX5_back_6 : decode cX5_back 6 = .ok (.aload_n 2, 1) := by decide +kernel
theorem dX5_back_7 : decode cX5_back 7 = .ok (.getfield 202, 3) := by decide +kernel
theorem dX5_back_10 : decode cX5_back 10 = .ok (.astore_n 3, 1) := by decide +kernel
theorem dX5_back_11 : decode cX5_back 11 = .ok (.aload_n 2, 1) := by decide +kernel
theorem dX5_back_12 : decode cX5_back 12 = .ok (.getfield 215, 3) := by decide +kernel
theorem dX5_back_15 : decode cX5_back 15 = .ok (.iconst 1, 1) := by decide +kernel
theorem dX5_back_16 : decode cX5_back 16 = .ok (.if_icmp .ne 7, 3) := by decide +kernel
theorem dX5_back_19 : decode cX5_back 19 = .ok (.aload_n 3, 1) := by decide +kernel
theorem dX5_back_20 : decode cX5_back 20 = .ok (.ifnonnull 13, 3) := by decide +kernel
theorem dX5_back_23 : decode cX5_back 23 = .ok (.new 37, 3) := by decide +kernel
theorem dX5_back_26 : decode cX5_back 26 = .ok (.dup, 1) := by decide +kernel
theorem dX5_back_27 : decode cX5_back 27 = .ok (.ldc 218, 2) := by decide +kernel
theorem dX5_back_29 : decode cX5_back 29 = .ok (.invokespecial 41, 3) := by decide +kernel
theorem dX5_back_32 : decode cX5_back 32 = .ok (.athrow, 1) := by decide +kernel
theorem dX5_back_33 : decode cX5_back 33 = .ok (.aload_n 2, 1) := by decide +kernel
theorem dX5_back_34 : decode cX5_back 34 = .ok (.aload_n 0, 1) := by decide +kernel
theorem dX5_back_35 : decode cX5_back 35 = .ok (.getfield 181, 3) := by decide +kernel
theorem dX5_back_38 : decode cX5_back 38 = .ok (.invokevirtual 220, 3) := by decide +kernel
theorem dX5_back_41 : decode cX5_back 41 = .ok (.istore 4, 2) := by decide +kernel
theorem dX5_back_43 : decode cX5_back 43 = .ok (.aload_n 3, 1) := by decide +kernel
theorem dX5_back_44 : decode cX5_back 44 = .ok (.dup, 1) := by decide +kernel
theorem dX5_back_45 : decode cX5_back 45 = .ok (.getfield 172, 3) := by decide +kernel
theorem dX5_back_48 : decode cX5_back 48 = .ok (.iload 4, 2) := by decide +kernel
theorem dX5_back_50 : decode cX5_back 50 = .ok (.iadd, 1) := by decide +kernel
theorem dX5_back_51 : decode cX5_back 51 = .ok (.putfield 172, 3) := by decide +kernel
theorem dX5_back_54 : decode cX5_back 54 = .ok (.aload_n 0, 1) := by decide +kernel
end
section
theorem dX5_back_55 : decode cX5_back 55 = .ok (.aload_n 2, 1) := by decide +kernel
theorem dX5_back_56 : decode cX5_back 56 = .ok (.invokevirtual 144, 3) := by decide +kernel
theorem dX5_back_59 : decode cX5_back 59 = .ok (.iload 4, 2) := by decide +kernel
theorem dX5_back_61 : decode cX5_back 61 = .ok (.ireturn, 1) := by decide +kernel
theorem dX5_find_0 : decode cX5_find 0 = .ok (.aload_n 0, 1) := by decide +kernel
theorem dX5_find_1 : decode cX5_find 1 = .ok (.iload_n 1, 1) := by decide +kernel
theorem dX5_find_2 : decode cX5_find 2 = .ok (.invokevirtual 148, 3) := by decide +kernel
theorem dX5_find_5 : decode cX5_find 5 = .ok (.astore_n 2, 1) := by decide +kernel
theorem dX5_find_6 : decode cX5_find 6 = .ok (.aload_n 2, 1) := by decide +kernel
theorem dX5_find_7 : decode cX5_find 7 = .ok (.getfield 202, 3) := by decide +kernel
theorem dX5_find_10 : decode cX5_find 10 = .ok (.astore_n 3, 1) := by decide +kernel
theorem dX5_find_11 : decode cX5_find 11 = .ok (.aload_n 2, 1) := by decide +kernel
theorem dX5_find_12 : decode cX5_find 12 = .ok (.getfield 215, 3) := by decide +kernel
theorem dX5_find_15 : decode cX5_find 15 = .ok (.iconst 3, 1) := by decide +kernel
theorem dX5_find_16 : decode cX5_find 16 = .ok (.if_icmp .ne 7, 3) := by decide +kernel
theorem dX5_find_19 : decode cX5_find 19 = .ok (.aload_n 3, 1) := by decide +kernel
theorem dX5_find_20 : decode cX5_find 20 = .ok (.ifnonnull 13, 3) := by decide +kernel
theorem dX5_find_23 : decode cX5_find 23 = .ok (.new 37, 3) := by decide +kernel
theorem dX5_find_26 : decode cX5_find 26 = .ok (.dup, 1) := by decide +kernel
theorem dX5_find_27 : decode cX5_find 27 = .ok (.ldc 224, 2) := by decide +kernel
theorem dX5_find_29 : decode cX5_find 29 = .ok (.invokespecial 41, 3) := by decide +kernel
theorem dX5_find_32 : decode cX5_find 32 = .ok (.athrow, 1) := by decide +kernel
theorem dX5_find_33 : decode cX5_find 33 = .ok (.aload_n 3, 1) := by decide +kernel
theorem dX5_find_34 : decode cX5_find 34 = .ok (.iconst 0, 1) := by decide +kernel
theorem dX5_find_35 : decode cX5_find 35 = .ok (.aload_n 3, 1) := by decide +kernel
theorem dX5_find_36 : decode cX5_find 36 = .ok (.getfield 172, 3) := by decide +kernel
theorem dX5_find_39 : decode cX5_find 39 = .ok (.aload_n 2, 1) := by decide +kernel
theorem dX5_find_40 : decode cX5_find 40 = .ok (.getfield 226, 3) := by decide +kernel
theorem dX5_find_43 : decode cX5_find 43 = .ok (.isub, 1) := by decide +kernel
theorem dX5_find_44 : decode cX5_find 44 = .ok (.invokestatic 229, 3) := by decide +kernel
theorem dX5_find_47 : decode cX5_find 47 = .ok (.putfield 172, 3) := by decide +kernel
theorem dX5_find_50 : decode cX5_find 50 = .ok (.aload_n 0, 1) := by decide +kernel
theorem dX5_find_51 : decode cX5_find 51 = .ok (.aload_n 2, 1) := by decide +kernel
theorem dX5_find_52 : decode cX5_find 52 = .ok (.invokevirtual 144, 3) := by decide +kernel
theorem dX5_find_55 : decode cX5_find 55 = .ok (.aload_n 3, 1) := by decide +kernel
theorem dX5_find_56 : decode cX5_find 56 = .ok (.getfield 172, 3) := by decide +kernel
theorem dX5_find_59 : decode cX5_find 59 = .ok (.ireturn, 1) := by decide +kernel
theorem dX5_await_0 : decode cX5_await 0 = .ok (.aload_n 0, 1) := by decide +kernel
theorem dX5_await_1 : decode cX5_await 1 = .ok (.iload_n 1, 1) := by decide +kernel
theorem dX5_await_2 : decode cX5_await 2 = .ok (.invokevirtual 164, 3) := by decide +kernel
theorem dX5_await_5 : decode cX5_await 5 = .ok (.astore_n 3, 1) := by decide +kernel
theorem dX5_await_6 : decode cX5_await 6 = .ok (.aload_n 0, 1) := by decide +kernel
theorem dX5_await_7 : decode cX5_await 7 = .ok (.iload_n 2, 1) := by decide +kernel
theorem dX5_await_8 : decode cX5_await 8 = .ok (.invokevirtual 83, 3) := by decide +kernel
theorem dX5_await_11 : decode cX5_await 11 = .ok (.invokevirtual 95, 3) := by decide +kernel
theorem dX5_await_14 : decode cX5_await 14 = .ok (.astore 4, 2) := by decide +kernel
theorem dX5_await_16 : decode cX5_await 16 = .ok (.aload 4, 2) := by decide +kernel
theorem dX5_await_18 : decode cX5_await 18 = .ok (.getfield 235, 3) := by decide +kernel
theorem dX5_await_21 : decode cX5_await 21 = .ok (.aload_n 3, 1) := by decide +kernel
theorem dX5_await_22 : decode cX5_await 22 = .ok (.invokevirtual 239, 3) := by decide +kernel
theorem dX5_await_25 : decode cX5_await 25 = .ok (.ifCond .ne 13, 3) := by decide +kernel
theorem dX5_await_28 : decode cX5_await 28 = .ok (.aload_n 0, 1) := by decide +kernel
theorem dX5_await_29 : decode cX5_await 29 = .ok (.aload_n 3, 1) := by decide +kernel
theorem dX5_await_30 : decode cX5_await 30 = .ok (.aload 4, 2) := by decide +kernel
theorem dX5_await_32 : decode cX5_await 32 = .ok (.invokevirtual 245, 3) := by decide +kernel
theorem dX5_await_35 : decode cX5_await 35 = .ok (.ifCond .eq 13, 3) := by decide +kernel
theorem dX5_await_38 : decode cX5_await 38 = .ok (.new 37, 3) := by decide +kernel
theorem dX5_await_41 : decode cX5_await 41 = .ok (.dup, 1) := by decide +kernel
theorem dX5_await_42 : decode cX5_await 42 = .ok (.ldc 249, 2) := by decide +kernel
theorem dX5_await_44 : decode cX5_await 44 = .ok (.invokespecial 41, 3) := by decide +kernel
theorem dX5_await_47 : decode cX5_await 47 = .ok (.athrow, 1) := by decide +kernel
theorem dX5_await_48 : decode cX5_await 48 = .ok (.aload 4, 2) := by decide +kernel
theorem dX5_await_50 : decode cX5_await 50 = .ok (.getfield 235, 3) := by decide +kernel
theorem dX5_await_53 : decode cX5_await 53 = .ok (.aload_n 3, 1) := by decide +kernel
theorem dX5_await_54 : decode cX5_await 54 = .ok (.invokevirtual 251, 3) := by decide +kernel
theorem dX5_await_57 : decode cX5_await 57 = .ok (.aload_n 0, 1) := by decide +kernel
theorem dX5_await_58 : decode cX5_await 58 = .ok (.aload 4, 2) := by decide +kernel
theorem dX5_await_60 : decode cX5_await 60 = .ok (.invokevirtual 255, 3) := by decide +kernel
theorem dX5_await_63 : decode cX5_await 63 = .ok (.astore 5, 2) := by decide +kernel
theorem dX5_await_65 : decode cX5_await 65 = .ok (.aload 5, 2) := by decide +kernel
theorem dX5_await_67 : decode cX5_await 67 = .ok (.ifnonnull 5, 3) := by decide +kernel
theorem dX5_await_70 : decode cX5_await 70 = .ok (.iconst (-1), 1) := by decide +kernel
theorem dX5_await_71 : decode cX5_await 71 = .ok (.ireturn, 1) := by decide +kernel
theorem dX5_await_72 : decode cX5_await 72 = .ok (.aload_n 0, 1) := by decide +kernel
theorem dX5_await_73 : decode cX5_await 73 = .ok (.aload 5, 2) := by decide +kernel
theorem dX5_await_75 : decode cX5_await 75 = .ok (.invokevirtual 144, 3) := by decide +kernel
theorem dX5_await_78 : decode cX5_await 78 = .ok (.aload 5, 2) := by decide +kernel
theorem dX5_await_80 : decode cX5_await 80 = .ok (.getfield 259, 3) := by decide +kernel
theorem dX5_await_83 : decode cX5_await 83 = .ok (.ireturn, 1) := by decide +kernel
theorem dX5_leave_0 : decode cX5_leave 0 = .ok (.aload_n 0, 1) := by decide +kernel
theorem dX5_leave_1 : decode cX5_leave 1 = .ok (.iload_n 1, 1) := by decide +kernel
theorem dX5_leave_2 : decode cX5_leave 2 = .ok (.invokevirtual 164, 3) := by decide +kernel
theorem dX5_leave_5 : decode cX5_leave 5 = .ok (.astore_n 3, 1) := by decide +kernel
theorem dX5_leave_6 : decode cX5_leave 6 = .ok (.aload_n 0, 1) := by decide +kernel
theorem dX5_leave_7 : decode cX5_leave 7 = .ok (.iload_n 2, 1) := by decide +kernel
theorem dX5_leave_8 : decode cX5_leave 8 = .ok (.invokevirtual 83, 3) := by decide +kernel
theorem dX5_leave_11 : decode cX5_leave 11 = .ok (.invokevirtual 95, 3) := by decide +kernel
theorem dX5_leave_14 : decode cX5_leave 14 = .ok (.astore 4, 2) := by decide +kernel
theorem dX5_leave_16 : decode cX5_leave 16 = .ok (.aload 4, 2) := by decide +kernel
theorem dX5_leave_18 : decode cX5_leave 18 = .ok (.getfield 235, 3) := by decide +kernel
theorem dX5_leave_21 : decode cX5_leave 21 = .ok (.aload_n 3, 1) := by decide +kernel
theorem dX5_leave_22 : decode cX5_leave 22 = .ok (.invokevirtual 239, 3) := by decide +kernel
theorem dX5_leave_25 : decode cX5_leave 25 = .ok (.ifCond .ne 14, 3) := by decide +kernel
theorem dX5_leave_28 : decode cX5_leave 28 = .ok (.new 37, 3) := by decide +kernel
theorem dX5_leave_31 : decode cX5_leave 31 = .ok (.dup, 1) := by decide +kernel
theorem dX5_leave_32 : decode cX5_leave 32 = .ok (.ldc_w 260, 3) := by decide +kernel
theorem dX5_leave_35 : decode cX5_leave 35 = .ok (.invokespecial 41, 3) := by decide +kernel
theorem dX5_leave_38 : decode cX5_leave 38 = .ok (.athrow, 1) := by decide +kernel
theorem dX5_leave_39 : decode cX5_leave 39 = .ok (.aload_n 0, 1) := by decide +kernel
theorem dX5_leave_40 : decode cX5_leave 40 = .ok (.aload_n 3, 1) := by decide +kernel
theorem dX5_leave_41 : decode cX5_leave 41 = .ok (.aload 4, 2) := by decide +kernel
theorem dX5_leave_43 : decode cX5_leave 43 = .ok (.invokevirtual 195, 3) := by decide +kernel
theorem dX5_leave_46 : decode cX5_leave 46 = .ok (.aload 4, 2) := by decide +kernel
theorem dX5_leave_48 : decode cX5_leave 48 = .ok (.getfield 235, 3) := by decide +kernel
theorem dX5_leave_51 : decode cX5_leave 51 = .ok (.getfield 262, 3) := by decide +kernel
theorem dX5_leave_54 : decode cX5_leave 54 = .ok (.ireturn, 1) := by decide +kernel
theorem dX5_waiter_0 : decode cX5_waiter 0 = .ok (.aload_n 0, 1) := by decide +kernel
theorem dX5_waiter_1 : decode cX5_waiter 1 = .ok (.iload_n 1, 1) := by decide +kernel
theorem dX5_waiter_2 : decode cX5_waiter 2 = .ok (.invokevirtual 83, 3) := by decide +kernel
theorem dX5_waiter_5 : decode cX5_waiter 5 = .ok (.invokevirtual 95, 3) := by decide +kernel
theorem dX5_waiter_8 : decode cX5_waiter 8 = .ok (.getfield 235, 3) := by decide +kernel
theorem dX5_waiter_11 : decode cX5_waiter 11 = .ok (.iload_n 2, 1) := by decide +kernel
theorem dX5_waiter_12 : decode cX5_waiter 12 = .ok (.invokevirtual 265, 3) := by decide +kernel
theorem dX5_waiter_15 : decode cX5_waiter 15 = .ok (.astore_n 3, 1) := by decide +kernel
theorem dX5_waiter_16 : decode cX5_waiter 16 = .ok (.aload_n 3, 1) := by decide +kernel
theorem dX5_waiter_17 : decode cX5_waiter 17 = .ok (.ifnonnull 14, 3) := by decide +kernel
theorem dX5_waiter_20 : decode cX5_waiter 20 = .ok (.new 268, 3) := by decide +kernel
theorem dX5_waiter_23 : decode cX5_waiter 23 = .ok (.dup, 1) := by decide +kernel
theorem dX5_waiter_24 : decode cX5_waiter 24 = .ok (.ldc_w 270, 3) := by decide +kernel
theorem dX5_waiter_27 : decode cX5_waiter 27 = .ok (.invokespecial 272, 3) := by decide +kernel
theorem dX5_waiter_30 : decode cX5_waiter 30 = .ok (.athrow, 1) := by decide +kernel
theorem dX5_waiter_31 : decode cX5_waiter 31 = .ok (.aload_n 3, 1) := by decide +kernel
theorem dX5_waiter_32 : decode cX5_waiter 32 = .ok (.getfield 273, 3) := by decide +kernel
theorem dX5_waiter_35 : decode cX5_waiter 35 = .ok (.ireturn, 1) := by decide +kernel
theorem dX5_pass_0 : decode cX5_pass 0 = .ok (.iload_n 1, 1) := by decide +kernel
theorem dX5_pass_1 : decode cX5_pass 1 = .ok (.iconst 1, 1) := by decide +kernel
theorem dX5_pass_2 : decode cX5_pass 2 = .ok (.bipush 40, 2) := by decide +kernel
theorem dX5_pass_4 : decode cX5_pass 4 = .ok (.invokestatic 71, 3) := by decide +kernel
theorem dX5_pass_7 : decode cX5_pass 7 = .ok (.iconst 0, 1) := by decide +kernel
theorem dX5_pass_8 : decode cX5_pass 8 = .ok (.istore_n 2, 1) := by decide +kernel
theorem dX5_pass_9 : decode cX5_pass 9 = .ok (.iconst 0, 1) := by decide +kernel
theorem dX5_pass_10 : decode cX5_pass 10 = .ok (.istore_n 3, 1) := by decide +kernel
theorem dX5_pass_11 : decode cX5_pass 11 = .ok (.iload_n 3, 1) := by decide +kernel
theorem dX5_pass_12 : decode cX5_pass 12 = .ok (.iload_n 1, 1) := by decide +kernel
theorem dX5_pass_13 : decode cX5_pass 13 = .ok (.if_icmp .ge 16, 3) := by decide +kernel
theorem dX5_pass_16 : decode cX5_pass 16 = .ok (.iload_n 2, 1) := by decide +kernel
theorem dX5_pass_17 : decode cX5_pass 17 = .ok (.aload_n 0, 1) := by decide +kernel
theorem dX5_pass_18 : decode cX5_pass 18 = .ok (.invokevirtual 274, 3) := by decide +kernel
theorem dX5_pass_21 : decode cX5_pass 21 = .ok (.iadd, 1) := by decide +kernel
theorem dX5_pass_22 : decode cX5_pass 22 = .ok (.istore_n 2, 1) := by decide +kernel
theorem dX5_pass_23 : decode cX5_pass 23 = .ok (.iinc 3 1, 3) := by decide +kernel
theorem dX5_pass_26 : decode cX5_pass 26 = .ok (.goto (-15), 3) := by decide +kernel
theorem dX5_pass_29 : decode cX5_pass 29 = .ok (.iload_n 2, 1) := by decide +kernel
theorem dX5_pass_30 : decode cX5_pass 30 = .ok (.ireturn, 1) := by decide +kernel
theorem dX5_many_0 : decode cX5_many 0 = .ok (.iload_n 1, 1) := by decide +kernel
theorem dX5_many_1 : decode cX5_many 1 = .ok (.iconst 0, 1) := by decide +kernel
theorem dX5_many_2 : decode cX5_many 2 = .ok (.bipush 9, 2) := by decide +kernel
theorem dX5_many_4 : decode cX5_many 4 = .ok (.invokestatic 71, 3) := by decide +kernel
theorem dX5_many_7 : decode cX5_many 7 = .ok (.aload_n 0, 1) := by decide +kernel
theorem dX5_many_8 : decode cX5_many 8 = .ok (.iload_n 1, 1) := by decide +kernel
theorem dX5_many_9 : decode cX5_many 9 = .ok (.invokevirtual 277, 3) := by decide +kernel
theorem dX5_many_12 : decode cX5_many 12 = .ok (.ireturn, 1) := by decide +kernel
theorem dX5_meanWaits_0 : decode cX5_meanWaits 0 = .ok (.aload_n 0, 1) := by decide +kernel
theorem dX5_meanWaits_1 : decode cX5_meanWaits 1 = .ok (.getfield 156, 3) := by decide +kernel
theorem dX5_meanWaits_4 : decode cX5_meanWaits 4 = .ok (.ifCond .gt 5, 3) := by decide +kernel
theorem dX5_meanWaits_7 : decode cX5_meanWaits 7 = .ok (.dconst 0, 1) := by decide +kernel
theorem dX5_meanWaits_8 : decode cX5_meanWaits 8 = .ok (.dreturn, 1) := by decide +kernel
theorem dX5_meanWaits_9 : decode cX5_meanWaits 9 = .ok (.iconst 0, 1) := by decide +kernel
theorem dX5_meanWaits_10 : decode cX5_meanWaits 10 = .ok (.istore_n 1, 1) := by decide +kernel
theorem dX5_meanWaits_11 : decode cX5_meanWaits 11 = .ok (.aload_n 0, 1) := by decide +kernel
theorem dX5_meanWaits_12 : decode cX5_meanWaits 12 = .ok (.getfield 17, 3) := by decide +kernel
theorem dX5_meanWaits_15 : decode cX5_meanWaits 15 = .ok (.astore_n 2, 1) := by decide +kernel
theorem dX5_meanWaits_16 : decode cX5_meanWaits 16 = .ok (.aload_n 2, 1) := by decide +kernel
theorem dX5_meanWaits_17 : decode cX5_meanWaits 17 = .ok (.arraylength, 1) := by decide +kernel
theorem dX5_meanWaits_18 : decode cX5_meanWaits 18 = .ok (.istore_n 3, 1) := by decide +kernel
theorem dX5_meanWaits_19 : decode cX5_meanWaits 19 = .ok (.iconst 0, 1) := by decide +kernel
theorem dX5_meanWaits_20 : decode cX5_meanWaits 20 = .ok (.istore 4, 2) := by decide +kernel
theorem dX5_meanWaits_22 : decode cX5_meanWaits 22 = .ok (.iload 4, 2) := by decide +kernel
theorem dX5_meanWaits_24 : decode cX5_meanWaits 24 = .ok (.iload_n 3, 1) := by decide +kernel
theorem dX5_meanWaits_25 : decode cX5_meanWaits 25 = .ok (.if_icmp .ge 31, 3) := by decide +kernel
theorem dX5_meanWaits_28 : decode cX5_meanWaits 28 = .ok (.aload_n 2, 1) := by decide +kernel
theorem dX5_meanWaits_29 : decode cX5_meanWaits 29 = .ok (.iload 4, 2) := by decide +kernel
theorem dX5_meanWaits_31 : decode cX5_meanWaits 31 = .ok (.aaload, 1) := by decide +kernel
theorem dX5_meanWaits_32 : decode cX5_meanWaits 32 = .ok (.astore 5, 2) := by decide +kernel
theorem dX5_meanWaits_34 : decode cX5_meanWaits 34 = .ok (.aload 5, 2) := by decide +kernel
theorem dX5_meanWaits_36 : decode cX5_meanWaits 36 = .ok (.ifnull 14, 3) := by decide +kernel
theorem dX5_meanWaits_39 : decode cX5_meanWaits 39 = .ok (.iload_n 1, 1) := by decide +kernel
theorem dX5_meanWaits_40 : decode cX5_meanWaits 40 = .ok (.aload 5, 2) := by decide +kernel
theorem dX5_meanWaits_42 : decode cX5_meanWaits 42 = .ok (.getfield 235, 3) := by decide +kernel
theorem dX5_meanWaits_45 : decode cX5_meanWaits 45 = .ok (.getfield 262, 3) := by decide +kernel
theorem dX5_meanWaits_48 : decode cX5_meanWaits 48 = .ok (.iadd, 1) := by decide +kernel
theorem dX5_meanWaits_49 : decode cX5_meanWaits 49 = .ok (.istore_n 1, 1) := by decide +kernel
theorem dX5_meanWaits_50 : decode cX5_meanWaits 50 = .ok (.iinc 4 1, 3) := by decide +kernel
theorem dX5_meanWaits_53 : decode cX5_meanWaits 53 = .ok (.goto (-31), 3) := by decide +kernel
theorem dX5_meanWaits_56 : decode cX5_meanWaits 56 = .ok (.iload_n 1, 1) := by decide +kernel
theorem dX5_meanWaits_57 : decode cX5_meanWaits 57 = .ok (.i2d, 1) := by decide +kernel
theorem dX5_meanWaits_58 : decode cX5_meanWaits 58 = .ok (.aload_n 0, 1) := by decide +kernel
theorem dX5_meanWaits_59 : decode cX5_meanWaits 59 = .ok (.getfield 156, 3) := by decide +kernel
theorem dX5_meanWaits_62 : decode cX5_meanWaits 62 = .ok (.i2d, 1) := by decide +kernel
theorem dX5_meanWaits_63 : decode cX5_meanWaits 63 = .ok (.ddiv, 1) := by decide +kernel
theorem dX5_meanWaits_64 : decode cX5_meanWaits 64 = .ok (.dreturn, 1) := by decide +kernel
theorem dX5_fineIn_0 : decode cX5_fineIn 0 = .ok (.aload_n 0, 1) := by decide +kernel
theorem dX5_fineIn_1 : decode cX5_fineIn 1 = .ok (.iload_n 1, 1) := by decide +kernel
theorem dX5_fineIn_2 : decode cX5_fineIn 2 = .ok (.invokevirtual 148, 3) := by decide +kernel
theorem dX5_fineIn_5 : decode cX5_fineIn 5 = .ok (.astore_n 3, 1) := by decide +kernel
theorem dX5_fineIn_6 : decode cX5_fineIn 6 = .ok (.iload_n 2, 1) := by decide +kernel
theorem dX5_fineIn_7 : decode cX5_fineIn 7 = .ok (.iconst 0, 1) := by decide +kernel
theorem dX5_fineIn_8 : decode cX5_fineIn 8 = .ok (.bipush 60, 2) := by decide +kernel
theorem dX5_fineIn_10 : decode cX5_fineIn 10 = .ok (.invokestatic 71, 3) := by decide +kernel
theorem dX5_fineIn_13 : decode cX5_fineIn 13 = .ok (.aload_n 3, 1) := by decide +kernel
theorem dX5_fineIn_14 : decode cX5_fineIn 14 = .ok (.getfield 215, 3) := by decide +kernel
theorem dX5_fineIn_17 : decode cX5_fineIn 17 = .ok (.iconst 1, 1) := by decide +kernel
theorem dX5_fineIn_18 : decode cX5_fineIn 18 = .ok (.if_icmp .eq 13, 3) := by decide +kernel
theorem dX5_fineIn_21 : decode cX5_fineIn 21 = .ok (.new 37, 3) := by decide +kernel
theorem dX5_fineIn_24 : decode cX5_fineIn 24 = .ok (.dup, 1) := by decide +kernel
theorem dX5_fineIn_25 : decode cX5_fineIn 25 = .ok (.ldc 218, 2) := by decide +kernel
theorem dX5_fineIn_27 : decode cX5_fineIn 27 = .ok (.invokespecial 41, 3) := by decide +kernel
theorem dX5_fineIn_30 : decode cX5_fineIn 30 = .ok (.athrow, 1) := by decide +kernel
theorem dX5_fineIn_31 : decode cX5_fineIn 31 = .ok (.aload_n 3, 1) := by decide +kernel
theorem dX5_fineIn_32 : decode cX5_fineIn 32 = .ok (.aload_n 0, 1) := by decide +kernel
theorem dX5_fineIn_33 : decode cX5_fineIn 33 = .ok (.getfield 181, 3) := by decide +kernel
theorem dX5_fineIn_36 : decode cX5_fineIn 36 = .ok (.iload_n 2, 1) := by decide +kernel
theorem dX5_fineIn_37 : decode cX5_fineIn 37 = .ok (.iadd, 1) := by decide +kernel
theorem dX5_fineIn_38 : decode cX5_fineIn 38 = .ok (.invokevirtual 280, 3) := by decide +kernel
theorem dX5_fineIn_41 : decode cX5_fineIn 41 = .ok (.ifCond .eq 10, 3) := by decide +kernel
theorem dX5_fineIn_44 : decode cX5_fineIn 44 = .ok (.aload_n 3, 1) := by decide +kernel
theorem dX5_fineIn_45 : decode cX5_fineIn 45 = .ok (.invokevirtual 283, 3) := by decide +kernel
theorem dX5_fineIn_48 : decode cX5_fineIn 48 = .ok (.goto 13, 3) := by decide +kernel
theorem dX5_fineIn_51 : decode cX5_fineIn 51 = .ok (.aload_n 3, 1) := by decide +kernel
theorem dX5_fineIn_52 : decode cX5_fineIn 52 = .ok (.aload_n 0, 1) := by decide +kernel
theorem dX5_fineIn_53 : decode cX5_fineIn 53 = .ok (.getfield 181, 3) := by decide +kernel
theorem dX5_fineIn_56 : decode cX5_fineIn 56 = .ok (.iload_n 2, 1) := by decide +kernel
theorem dX5_fineIn_57 : decode cX5_fineIn 57 = .ok (.iadd, 1) := by decide +kernel
theorem dX5_fineIn_58 : decode cX5_fineIn 58 = .ok (.invokevirtual 220, 3) := by decide +kernel
theorem dX5_fineIn_61 : decode cX5_fineIn 61 = .ok (.ireturn, 1) := by decide +kernel
theorem dX5_soon_0 : decode cX5_soon 0 = .ok (.aload_n 0, 1) := by decide +kernel
theorem dX5_soon_1 : decode cX5_soon 1 = .ok (.iload_n 1, 1) := by decide +kernel
theorem dX5_soon_2 : decode cX5_soon 2 = .ok (.invokevirtual 164, 3) := by decide +kernel
theorem dX5_soon_5 : decode cX5_soon 5 = .ok (.astore_n 3, 1) := by decide +kernel
theorem dX5_soon_6 : decode cX5_soon 6 = .ok (.aload_n 0, 1) := by decide +kernel
theorem dX5_soon_7 : decode cX5_soon 7 = .ok (.iload_n 2, 1) := by decide +kernel
theorem dX5_soon_8 : decode cX5_soon 8 = .ok (.invokevirtual 83, 3) := by decide +kernel
theorem dX5_soon_11 : decode cX5_soon 11 = .ok (.invokevirtual 95, 3) := by decide +kernel
theorem dX5_soon_14 : decode cX5_soon 14 = .ok (.astore 4, 2) := by decide +kernel
theorem dX5_soon_16 : decode cX5_soon 16 = .ok (.aload 4, 2) := by decide +kernel
theorem dX5_soon_18 : decode cX5_soon 18 = .ok (.getfield 235, 3) := by decide +kernel
theorem dX5_soon_21 : decode cX5_soon 21 = .ok (.aload_n 3, 1) := by decide +kernel
theorem dX5_soon_22 : decode cX5_soon 22 = .ok (.invokevirtual 239, 3) := by decide +kernel
theorem dX5_soon_25 : decode cX5_soon 25 = .ok (.ifCond .ne 14, 3) := by decide +kernel
theorem dX5_soon_28 : decode cX5_soon 28 = .ok (.new 37, 3) := by decide +kernel
theorem dX5_soon_31 : decode cX5_soon 31 = .ok (.dup, 1) := by decide +kernel
theorem dX5_soon_32 : decode cX5_soon 32 = .ok (.ldc_w 260, 3) := by decide +kernel
theorem dX5_soon_35 : decode cX5_soon 35 = .ok (.invokespecial 41, 3) := by decide +kernel
theorem dX5_soon_38 : decode cX5_soon 38 = .ok (.athrow, 1) := by decide +kernel
theorem dX5_soon_39 : decode cX5_soon 39 = .ok (.aload_n 0, 1) := by decide +kernel
theorem dX5_soon_40 : decode cX5_soon 40 = .ok (.aload_n 3, 1) := by decide +kernel
theorem dX5_soon_41 : decode cX5_soon 41 = .ok (.aload 4, 2) := by decide +kernel
theorem dX5_soon_43 : decode cX5_soon 43 = .ok (.invokevirtual 286, 3) := by decide +kernel
theorem dX5_soon_46 : decode cX5_soon 46 = .ok (.ifnull 5, 3) := by decide +kernel
theorem dX5_soon_49 : decode cX5_soon 49 = .ok (.iconst 0, 1) := by decide +kernel
theorem dX5_soon_50 : decode cX5_soon 50 = .ok (.ireturn, 1) := by decide +kernel
theorem dX5_soon_51 : decode cX5_soon 51 = .ok (.aload_n 0, 1) := by decide +kernel
theorem dX5_soon_52 : decode cX5_soon 52 = .ok (.aload_n 3, 1) := by decide +kernel
theorem dX5_soon_53 : decode cX5_soon 53 = .ok (.aload 4, 2) := by decide +kernel
theorem dX5_soon_55 : decode cX5_soon 55 = .ok (.invokevirtual 290, 3) := by decide +kernel
theorem dX5_soon_58 : decode cX5_soon 58 = .ok (.ireturn, 1) := by decide +kernel
theorem dX5_mayBorrow_0 : decode cX5_mayBorrow 0 = .ok (.aload_n 0, 1) := by decide +kernel
theorem dX5_mayBorrow_1 : decode cX5_mayBorrow 1 = .ok (.aload_n 0, 1) := by decide +kernel
theorem dX5_mayBorrow_2 : decode cX5_mayBorrow 2 = .ok (.iload_n 1, 1) := by decide +kernel
theorem dX5_mayBorrow_3 : decode cX5_mayBorrow 3 = .ok (.invokevirtual 164, 3) := by decide +kernel
theorem dX5_mayBorrow_6 : decode cX5_mayBorrow 6 = .ok (.invokevirtual 294, 3) := by decide +kernel
theorem dX5_mayBorrow_9 : decode cX5_mayBorrow 9 = .ok (.ireturn, 1) := by decide +kernel
theorem dX5_lostIn_0 : decode cX5_lostIn 0 = .ok (.iload_n 1, 1) := by decide +kernel
theorem dX5_lostIn_1 : decode cX5_lostIn 1 = .ok (.iconst 1, 1) := by decide +kernel
theorem dX5_lostIn_2 : decode cX5_lostIn 2 = .ok (.bipush 40, 2) := by decide +kernel
theorem dX5_lostIn_4 : decode cX5_lostIn 4 = .ok (.invokestatic 71, 3) := by decide +kernel
theorem dX5_lostIn_7 : decode cX5_lostIn 7 = .ok (.aload_n 0, 1) := by decide +kernel
theorem dX5_lostIn_8 : decode cX5_lostIn 8 = .ok (.iload_n 1, 1) := by decide +kernel
theorem dX5_lostIn_9 : decode cX5_lostIn 9 = .ok (.invokevirtual 298, 3) := by decide +kernel
theorem dX5_lostIn_12 : decode cX5_lostIn 12 = .ok (.ireturn, 1) := by decide +kernel
theorem dX5_digest_0 : decode cX5_digest 0 = .ok (.ldc2_w 301, 3) := by decide +kernel
theorem dX5_digest_3 : decode cX5_digest 3 = .ok (.lstore_n 1, 1) := by decide +kernel
theorem dX5_digest_4 : decode cX5_digest 4 = .ok (.iconst 0, 1) := by decide +kernel
theorem dX5_digest_5 : decode cX5_digest 5 = .ok (.istore_n 3, 1) := by decide +kernel
theorem dX5_digest_6 : decode cX5_digest 6 = .ok (.iload_n 3, 1) := by decide +kernel
theorem dX5_digest_7 : decode cX5_digest 7 = .ok (.bipush 9, 2) := by decide +kernel
theorem dX5_digest_9 : decode cX5_digest 9 = .ok (.if_icmp .gt 19, 3) := by decide +kernel
theorem dX5_digest_12 : decode cX5_digest 12 = .ok (.lload_n 1, 1) := by decide +kernel
theorem dX5_digest_13 : decode cX5_digest 13 = .ok (.aload_n 0, 1) := by decide +kernel
theorem dX5_digest_14 : decode cX5_digest 14 = .ok (.iload_n 3, 1) := by decide +kernel
theorem dX5_digest_15 : decode cX5_digest 15 = .ok (.invokevirtual 277, 3) := by decide +kernel
theorem dX5_digest_18 : decode cX5_digest 18 = .ok (.invokestatic 303, 3) := by decide +kernel
theorem dX5_digest_21 : decode cX5_digest 21 = .ok (.lstore_n 1, 1) := by decide +kernel
theorem dX5_digest_22 : decode cX5_digest 22 = .ok (.iinc 3 1, 3) := by decide +kernel
theorem dX5_digest_25 : decode cX5_digest 25 = .ok (.goto (-19), 3) := by decide +kernel
theorem dX5_digest_28 : decode cX5_digest 28 = .ok (.aload_n 0, 1) := by decide +kernel
theorem dX5_digest_29 : decode cX5_digest 29 = .ok (.getfield 11, 3) := by decide +kernel
theorem dX5_digest_32 : decode cX5_digest 32 = .ok (.astore_n 3, 1) := by decide +kernel
theorem dX5_digest_33 : decode cX5_digest 33 = .ok (.aload_n 3, 1) := by decide +kernel
theorem dX5_digest_34 : decode cX5_digest 34 = .ok (.arraylength, 1) := by decide +kernel
theorem dX5_digest_35 : decode cX5_digest 35 = .ok (.istore 4, 2) := by decide +kernel
theorem dX5_digest_37 : decode cX5_digest 37 = .ok (.iconst 0, 1) := by decide +kernel
theorem dX5_digest_38 : decode cX5_digest 38 = .ok (.istore 5, 2) := by decide +kernel
theorem dX5_digest_40 : decode cX5_digest 40 = .ok (.iload 5, 2) := by decide +kernel
theorem dX5_digest_42 : decode cX5_digest 42 = .ok (.iload 4, 2) := by decide +kernel
theorem dX5_digest_44 : decode cX5_digest 44 = .ok (.if_icmp .ge 33, 3) := by decide +kernel
theorem dX5_digest_47 : decode cX5_digest 47 = .ok (.aload_n 3, 1) := by decide +kernel
theorem dX5_digest_48 : decode cX5_digest 48 = .ok (.iload 5, 2) := by decide +kernel
theorem dX5_digest_50 : decode cX5_digest 50 = .ok (.aaload, 1) := by decide +kernel
theorem dX5_digest_51 : decode cX5_digest 51 = .ok (.astore 6, 2) := by decide +kernel
theorem dX5_digest_53 : decode cX5_digest 53 = .ok (.aload 6, 2) := by decide +kernel
theorem dX5_digest_55 : decode cX5_digest 55 = .ok (.ifnull 16, 3) := by decide +kernel
theorem dX5_digest_58 : decode cX5_digest 58 = .ok (.lload_n 1, 1) := by decide +kernel
theorem dX5_digest_59 : decode cX5_digest 59 = .ok (.aload 6, 2) := by decide +kernel
theorem dX5_digest_61 : decode cX5_digest 61 = .ok (.invokevirtual 61, 3) := by decide +kernel
theorem dX5_digest_64 : decode cX5_digest 64 = .ok (.getfield 65, 3) := by decide +kernel
theorem dX5_digest_67 : decode cX5_digest 67 = .ok (.invokestatic 303, 3) := by decide +kernel
theorem dX5_digest_70 : decode cX5_digest 70 = .ok (.lstore_n 1, 1) := by decide +kernel
theorem dX5_digest_71 : decode cX5_digest 71 = .ok (.iinc 5 1, 3) := by decide +kernel
theorem dX5_digest_74 : decode cX5_digest 74 = .ok (.goto (-34), 3) := by decide +kernel
theorem dX5_digest_77 : decode cX5_digest 77 = .ok (.aload_n 0, 1) := by decide +kernel
theorem dX5_digest_78 : decode cX5_digest 78 = .ok (.getfield 17, 3) := by decide +kernel
theorem dX5_digest_81 : decode cX5_digest 81 = .ok (.astore_n 3, 1) := by decide +kernel
theorem dX5_digest_82 : decode cX5_digest 82 = .ok (.aload_n 3, 1) := by decide +kernel
theorem dX5_digest_83 : decode cX5_digest 83 = .ok (.arraylength, 1) := by decide +kernel
theorem dX5_digest_84 : decode cX5_digest 84 = .ok (.istore 4, 2) := by decide +kernel
theorem dX5_digest_86 : decode cX5_digest 86 = .ok (.iconst 0, 1) := by decide +kernel
theorem dX5_digest_87 : decode cX5_digest 87 = .ok (.istore 5, 2) := by decide +kernel
theorem dX5_digest_89 : decode cX5_digest 89 = .ok (.iload 5, 2) := by decide +kernel
theorem dX5_digest_91 : decode cX5_digest 91 = .ok (.iload 4, 2) := by decide +kernel
theorem dX5_digest_93 : decode cX5_digest 93 = .ok (.if_icmp .ge 28, 3) := by decide +kernel
theorem dX5_digest_96 : decode cX5_digest 96 = .ok (.aload_n 3, 1) := by decide +kernel
theorem dX5_digest_97 : decode cX5_digest 97 = .ok (.iload 5, 2) := by decide +kernel
theorem dX5_digest_99 : decode cX5_digest 99 = .ok (.aaload, 1) := by decide +kernel
theorem dX5_digest_100 : decode cX5_digest 100 = .ok (.astore 6, 2) := by decide +kernel
theorem dX5_digest_102 : decode cX5_digest 102 = .ok (.aload 6, 2) := by decide +kernel
theorem dX5_digest_104 : decode cX5_digest 104 = .ok (.ifnull 11, 3) := by decide +kernel
theorem dX5_digest_107 : decode cX5_digest 107 = .ok (.aload_n 0, 1) := by decide +kernel
theorem dX5_digest_108 : decode cX5_digest 108 = .ok (.lload_n 1, 1) := by decide +kernel
theorem dX5_digest_109 : decode cX5_digest 109 = .ok (.aload 6, 2) := by decide +kernel
theorem dX5_digest_111 : decode cX5_digest 111 = .ok (.invokevirtual 307, 3) := by decide +kernel
theorem dX5_digest_114 : decode cX5_digest 114 = .ok (.lstore_n 1, 1) := by decide +kernel
theorem dX5_digest_115 : decode cX5_digest 115 = .ok (.iinc 5 1, 3) := by decide +kernel
theorem dX5_digest_118 : decode cX5_digest 118 = .ok (.goto (-29), 3) := by decide +kernel
theorem dX5_digest_121 : decode cX5_digest 121 = .ok (.aload_n 0, 1) := by decide +kernel
theorem dX5_digest_122 : decode cX5_digest 122 = .ok (.getfield 23, 3) := by decide +kernel
theorem dX5_digest_125 : decode cX5_digest 125 = .ok (.astore_n 3, 1) := by decide +kernel
theorem dX5_digest_126 : decode cX5_digest 126 = .ok (.aload_n 3, 1) := by decide +kernel
theorem dX5_digest_127 : decode cX5_digest 127 = .ok (.arraylength, 1) := by decide +kernel
theorem dX5_digest_128 : decode cX5_digest 128 = .ok (.istore 4, 2) := by decide +kernel
theorem dX5_digest_130 : decode cX5_digest 130 = .ok (.iconst 0, 1) := by decide +kernel
theorem dX5_digest_131 : decode cX5_digest 131 = .ok (.istore 5, 2) := by decide +kernel
theorem dX5_digest_133 : decode cX5_digest 133 = .ok (.iload 5, 2) := by decide +kernel
theorem dX5_digest_135 : decode cX5_digest 135 = .ok (.iload 4, 2) := by decide +kernel
theorem dX5_digest_137 : decode cX5_digest 137 = .ok (.if_icmp .ge 28, 3) := by decide +kernel
theorem dX5_digest_140 : decode cX5_digest 140 = .ok (.aload_n 3, 1) := by decide +kernel
theorem dX5_digest_141 : decode cX5_digest 141 = .ok (.iload 5, 2) := by decide +kernel
theorem dX5_digest_143 : decode cX5_digest 143 = .ok (.aaload, 1) := by decide +kernel
theorem dX5_digest_144 : decode cX5_digest 144 = .ok (.astore 6, 2) := by decide +kernel
theorem dX5_digest_146 : decode cX5_digest 146 = .ok (.aload 6, 2) := by decide +kernel
theorem dX5_digest_148 : decode cX5_digest 148 = .ok (.ifnull 11, 3) := by decide +kernel
theorem dX5_digest_151 : decode cX5_digest 151 = .ok (.aload_n 0, 1) := by decide +kernel
theorem dX5_digest_152 : decode cX5_digest 152 = .ok (.lload_n 1, 1) := by decide +kernel
theorem dX5_digest_153 : decode cX5_digest 153 = .ok (.aload 6, 2) := by decide +kernel
theorem dX5_digest_155 : decode cX5_digest 155 = .ok (.invokevirtual 311, 3) := by decide +kernel
theorem dX5_digest_158 : decode cX5_digest 158 = .ok (.lstore_n 1, 1) := by decide +kernel
theorem dX5_digest_159 : decode cX5_digest 159 = .ok (.iinc 5 1, 3) := by decide +kernel
theorem dX5_digest_162 : decode cX5_digest 162 = .ok (.goto (-29), 3) := by decide +kernel
theorem dX5_digest_165 : decode cX5_digest 165 = .ok (.aload_n 0, 1) := by decide +kernel
theorem dX5_digest_166 : decode cX5_digest 166 = .ok (.getfield 29, 3) := by decide +kernel
theorem dX5_digest_169 : decode cX5_digest 169 = .ok (.astore_n 3, 1) := by decide +kernel
theorem dX5_digest_170 : decode cX5_digest 170 = .ok (.aload_n 3, 1) := by decide +kernel
theorem dX5_digest_171 : decode cX5_digest 171 = .ok (.arraylength, 1) := by decide +kernel
theorem dX5_digest_172 : decode cX5_digest 172 = .ok (.istore 4, 2) := by decide +kernel
theorem dX5_digest_174 : decode cX5_digest 174 = .ok (.iconst 0, 1) := by decide +kernel
theorem dX5_digest_175 : decode cX5_digest 175 = .ok (.istore 5, 2) := by decide +kernel
theorem dX5_digest_177 : decode cX5_digest 177 = .ok (.iload 5, 2) := by decide +kernel
theorem dX5_digest_179 : decode cX5_digest 179 = .ok (.iload 4, 2) := by decide +kernel
theorem dX5_digest_181 : decode cX5_digest 181 = .ok (.if_icmp .ge 28, 3) := by decide +kernel
theorem dX5_digest_184 : decode cX5_digest 184 = .ok (.aload_n 3, 1) := by decide +kernel
theorem dX5_digest_185 : decode cX5_digest 185 = .ok (.iload 5, 2) := by decide +kernel
theorem dX5_digest_187 : decode cX5_digest 187 = .ok (.aaload, 1) := by decide +kernel
theorem dX5_digest_188 : decode cX5_digest 188 = .ok (.astore 6, 2) := by decide +kernel
theorem dX5_digest_190 : decode cX5_digest 190 = .ok (.aload 6, 2) := by decide +kernel
theorem dX5_digest_192 : decode cX5_digest 192 = .ok (.ifnull 11, 3) := by decide +kernel
theorem dX5_digest_195 : decode cX5_digest 195 = .ok (.aload_n 0, 1) := by decide +kernel
theorem dX5_digest_196 : decode cX5_digest 196 = .ok (.lload_n 1, 1) := by decide +kernel
theorem dX5_digest_197 : decode cX5_digest 197 = .ok (.aload 6, 2) := by decide +kernel
theorem dX5_digest_199 : decode cX5_digest 199 = .ok (.invokevirtual 315, 3) := by decide +kernel
theorem dX5_digest_202 : decode cX5_digest 202 = .ok (.lstore_n 1, 1) := by decide +kernel
theorem dX5_digest_203 : decode cX5_digest 203 = .ok (.iinc 5 1, 3) := by decide +kernel
theorem dX5_digest_206 : decode cX5_digest 206 = .ok (.goto (-29), 3) := by decide +kernel
theorem dX5_digest_209 : decode cX5_digest 209 = .ok (.lload_n 1, 1) := by decide +kernel
theorem dX5_digest_210 : decode cX5_digest 210 = .ok (.aload_n 0, 1) := by decide +kernel
theorem dX5_digest_211 : decode cX5_digest 211 = .ok (.bipush 30, 2) := by decide +kernel
theorem dX5_digest_213 : decode cX5_digest 213 = .ok (.invokevirtual 298, 3) := by decide +kernel
theorem dX5_digest_216 : decode cX5_digest 216 = .ok (.invokestatic 303, 3) := by decide +kernel
theorem dX5_digest_219 : decode cX5_digest 219 = .ok (.lreturn, 1) := by decide +kernel
theorem dX5_knownName_0 : decode cX5_knownName 0 = .ok (.iload_n 1, 1) := by decide +kernel
theorem dX5_knownName_1 : decode cX5_knownName 1 = .ok (.ifCond .lt 21, 3) := by decide +kernel
theorem dX5_knownName_4 : decode cX5_knownName 4 = .ok (.iload_n 1, 1) := by decide +kernel
theorem dX5_knownName_5 : decode cX5_knownName 5 = .ok (.aload_n 0, 1) := by decide +kernel
theorem dX5_knownName_6 : decode cX5_knownName 6 = .ok (.getfield 11, 3) := by decide +kernel
theorem dX5_knownName_9 : decode cX5_knownName 9 = .ok (.arraylength, 1) := by decide +kernel
theorem dX5_knownName_10 : decode cX5_knownName 10 = .ok (.if_icmp .ge 12, 3) := by decide +kernel
theorem dX5_knownName_13 : decode cX5_knownName 13 = .ok (.aload_n 0, 1) := by decide +kernel
theorem dX5_knownName_14 : decode cX5_knownName 14 = .ok (.getfield 11, 3) := by decide +kernel
theorem dX5_knownName_17 : decode cX5_knownName 17 = .ok (.iload_n 1, 1) := by decide +kernel
theorem dX5_knownName_18 : decode cX5_knownName 18 = .ok (.aaload, 1) := by decide +kernel
theorem dX5_knownName_19 : decode cX5_knownName 19 = .ok (.goto 4, 3) := by decide +kernel
theorem dX5_knownName_22 : decode cX5_knownName 22 = .ok (.aconst_null, 1) := by decide +kernel
theorem dX5_knownName_23 : decode cX5_knownName 23 = .ok (.astore_n 2, 1) := by decide +kernel
theorem dX5_knownName_24 : decode cX5_knownName 24 = .ok (.aload_n 2, 1) := by decide +kernel
theorem dX5_knownName_25 : decode cX5_knownName 25 = .ok (.ifnonnull 14, 3) := by decide +kernel
theorem dX5_knownName_28 : decode cX5_knownName 28 = .ok (.new 268, 3) := by decide +kernel
theorem dX5_knownName_31 : decode cX5_knownName 31 = .ok (.dup, 1) := by decide +kernel
theorem dX5_knownName_32 : decode cX5_knownName 32 = .ok (.ldc_w 319, 3) := by decide +kernel
theorem dX5_knownName_35 : decode cX5_knownName 35 = .ok (.invokespecial 272, 3) := by decide +kernel
theorem dX5_knownName_38 : decode cX5_knownName 38 = .ok (.athrow, 1) := by decide +kernel
theorem dX5_knownName_39 : decode cX5_knownName 39 = .ok (.aload_n 2, 1) := by decide +kernel
theorem dX5_knownName_40 : decode cX5_knownName 40 = .ok (.areturn, 1) := by decide +kernel
theorem dX5_knownNameOrNull_0 : decode cX5_knownNameOrNull 0 = .ok (.iload_n 1, 1) := by decide +kernel
theorem dX5_knownNameOrNull_1 : decode cX5_knownNameOrNull 1 = .ok (.iconst (-1), 1) := by decide +kernel
theorem dX5_knownNameOrNull_2 : decode cX5_knownNameOrNull 2 = .ok (.if_icmp .ne 7, 3) := by decide +kernel
theorem dX5_knownNameOrNull_5 : decode cX5_knownNameOrNull 5 = .ok (.aconst_null, 1) := by decide +kernel
theorem dX5_knownNameOrNull_6 : decode cX5_knownNameOrNull 6 = .ok (.goto 8, 3) := by decide +kernel
theorem dX5_knownNameOrNull_9 : decode cX5_knownNameOrNull 9 = .ok (.aload_n 0, 1) := by decide +kernel
theorem dX5_knownNameOrNull_10 : decode cX5_knownNameOrNull 10 = .ok (.iload_n 1, 1) := by decide +kernel
theorem dX5_knownNameOrNull_11 : decode cX5_knownNameOrNull 11 = .ok (.invokevirtual 47, 3) := by decide +kernel
theorem dX5_knownNameOrNull_14 : decode cX5_knownNameOrNull 14 = .ok (.areturn, 1) := by decide +kernel
theorem dX5_knownRecord_0 : decode cX5_knownRecord 0 = .ok (.iload_n 1, 1) := by decide +kernel
theorem dX5_knownRecord_1 : decode cX5_knownRecord 1 = .ok (.ifCond .lt 21, 3) := by decide +kernel
theorem dX5_knownRecord_4 : decode cX5_knownRecord 4 = .ok (.iload_n 1, 1) := by decide +kernel
theorem dX5_knownRecord_5 : decode cX5_knownRecord 5 = .ok (.aload_n 0, 1) := by decide +kernel
theorem dX5_knownRecord_6 : decode cX5_knownRecord 6 = .ok (.getfield 17, 3) := by decide +kernel
theorem dX5_knownRecord_9 : decode cX5_knownRecord 9 = .ok (.arraylength, 1) := by decide +kernel
theorem dX5_knownRecord_10 : decode cX5_knownRecord 10 = .ok (.if_icmp .ge 12, 3) := by decide +kernel
theorem dX5_knownRecord_13 : decode cX5_knownRecord 13 = .ok (.aload_n 0, 1) := by decide +kernel
theorem dX5_knownRecord_14 : decode cX5_knownRecord 14 = .ok (.getfield 17, 3) := by decide +kernel
theorem dX5_knownRecord_17 : decode cX5_knownRecord 17 = .ok (.iload_n 1, 1) := by decide +kernel
theorem dX5_knownRecord_18 : decode cX5_knownRecord 18 = .ok (.aaload, 1) := by decide +kernel
theorem dX5_knownRecord_19 : decode cX5_knownRecord 19 = .ok (.goto 4, 3) := by decide +kernel
theorem dX5_knownRecord_22 : decode cX5_knownRecord 22 = .ok (.aconst_null, 1) := by decide +kernel
theorem dX5_knownRecord_23 : decode cX5_knownRecord 23 = .ok (.astore_n 2, 1) := by decide +kernel
theorem dX5_knownRecord_24 : decode cX5_knownRecord 24 = .ok (.aload_n 2, 1) := by decide +kernel
theorem dX5_knownRecord_25 : decode cX5_knownRecord 25 = .ok (.ifnonnull 14, 3) := by decide +kernel
theorem dX5_knownRecord_28 : decode cX5_knownRecord 28 = .ok (.new 268, 3) := by decide +kernel
theorem dX5_knownRecord_31 : decode cX5_knownRecord 31 = .ok (.dup, 1) := by decide +kernel
theorem dX5_knownRecord_32 : decode cX5_knownRecord 32 = .ok (.ldc_w 321, 3) := by decide +kernel
theorem dX5_knownRecord_35 : decode cX5_knownRecord 35 = .ok (.invokespecial 272, 3) := by decide +kernel
theorem dX5_knownRecord_38 : decode cX5_knownRecord 38 = .ok (.athrow, 1) := by decide +kernel
theorem dX5_knownRecord_39 : decode cX5_knownRecord 39 = .ok (.aload_n 2, 1) := by decide +kernel
theorem dX5_knownRecord_40 : decode cX5_knownRecord 40 = .ok (.areturn, 1) := by decide +kernel
theorem dX5_knownCopy_0 : decode cX5_knownCopy 0 = .ok (.iload_n 1, 1) := by decide +kernel
theorem dX5_knownCopy_1 : decode cX5_knownCopy 1 = .ok (.ifCond .lt 21, 3) := by decide +kernel
theorem dX5_knownCopy_4 : decode cX5_knownCopy 4 = .ok (.iload_n 1, 1) := by decide +kernel
theorem dX5_knownCopy_5 : decode cX5_knownCopy 5 = .ok (.aload_n 0, 1) := by decide +kernel
theorem dX5_knownCopy_6 : decode cX5_knownCopy 6 = .ok (.getfield 23, 3) := by decide +kernel
theorem dX5_knownCopy_9 : decode cX5_knownCopy 9 = .ok (.arraylength, 1) := by decide +kernel
theorem dX5_knownCopy_10 : decode cX5_knownCopy 10 = .ok (.if_icmp .ge 12, 3) := by decide +kernel
theorem dX5_knownCopy_13 : decode cX5_knownCopy 13 = .ok (.aload_n 0, 1) := by decide +kernel
theorem dX5_knownCopy_14 : decode cX5_knownCopy 14 = .ok (.getfield 23, 3) := by decide +kernel
theorem dX5_knownCopy_17 : decode cX5_knownCopy 17 = .ok (.iload_n 1, 1) := by decide +kernel
theorem dX5_knownCopy_18 : decode cX5_knownCopy 18 = .ok (.aaload, 1) := by decide +kernel
theorem dX5_knownCopy_19 : decode cX5_knownCopy 19 = .ok (.goto 4, 3) := by decide +kernel
theorem dX5_knownCopy_22 : decode cX5_knownCopy 22 = .ok (.aconst_null, 1) := by decide +kernel
theorem dX5_knownCopy_23 : decode cX5_knownCopy 23 = .ok (.astore_n 2, 1) := by decide +kernel
theorem dX5_knownCopy_24 : decode cX5_knownCopy 24 = .ok (.aload_n 2, 1) := by decide +kernel
theorem dX5_knownCopy_25 : decode cX5_knownCopy 25 = .ok (.ifnonnull 14, 3) := by decide +kernel
theorem dX5_knownCopy_28 : decode cX5_knownCopy 28 = .ok (.new 268, 3) := by decide +kernel
theorem dX5_knownCopy_31 : decode cX5_knownCopy 31 = .ok (.dup, 1) := by decide +kernel
theorem dX5_knownCopy_32 : decode cX5_knownCopy 32 = .ok (.ldc_w 323, 3) := by decide +kernel
theorem dX5_knownCopy_35 : decode cX5_knownCopy 35 = .ok (.invokespecial 272, 3) := by decide +kernel
theorem dX5_knownCopy_38 : decode cX5_knownCopy 38 = .ok (.athrow, 1) := by decide +kernel
theorem dX5_knownCopy_39 : decode cX5_knownCopy 39 = .ok (.aload_n 2, 1) := by decide +kernel
theorem dX5_knownCopy_40 : decode cX5_knownCopy 40 = .ok (.areturn, 1) := by decide +kernel
theorem dX5_knownReader_0 : decode cX5_knownReader 0 = .ok (.iload_n 1, 1) := by decide +kernel
theorem dX5_knownReader_1 : decode cX5_knownReader 1 = .ok (.ifCond .lt 21, 3) := by decide +kernel
theorem dX5_knownReader_4 : decode cX5_knownReader 4 = .ok (.iload_n 1, 1) := by decide +kernel
theorem dX5_knownReader_5 : decode cX5_knownReader 5 = .ok (.aload_n 0, 1) := by decide +kernel
theorem dX5_knownReader_6 : decode cX5_knownReader 6 = .ok (.getfield 29, 3) := by decide +kernel
theorem dX5_knownReader_9 : decode cX5_knownReader 9 = .ok (.arraylength, 1) := by decide +kernel
theorem dX5_knownReader_10 : decode cX5_knownReader 10 = .ok (.if_icmp .ge 12, 3) := by decide +kernel
theorem dX5_knownReader_13 : decode cX5_knownReader 13 = .ok (.aload_n 0, 1) := by decide +kernel
theorem dX5_knownReader_14 : decode cX5_knownReader 14 = .ok (.getfield 29, 3) := by decide +kernel
theorem dX5_knownReader_17 : decode cX5_knownReader 17 = .ok (.iload_n 1, 1) := by decide +kernel
theorem dX5_knownReader_18 : decode cX5_knownReader 18 = .ok (.aaload, 1) := by decide +kernel
theorem dX5_knownReader_19 : decode cX5_knownReader 19 = .ok (.goto 4, 3) := by decide +kernel
theorem dX5_knownReader_22 : decode cX5_knownReader 22 = .ok (.aconst_null, 1) := by decide +kernel
theorem dX5_knownReader_23 : decode cX5_knownReader 23 = .ok (.astore_n 2, 1) := by decide +kernel
theorem dX5_knownReader_24 : decode cX5_knownReader 24 = .ok (.aload_n 2, 1) := by decide +kernel
theorem dX5_knownReader_25 : decode cX5_knownReader 25 = .ok (.ifnonnull 14, 3) := by decide +kernel
theorem dX5_knownReader_28 : decode cX5_knownReader 28 = .ok (.new 268, 3) := by decide +kernel
theorem dX5_knownReader_31 : decode cX5_knownReader 31 = .ok (.dup, 1) := by decide +kernel
theorem dX5_knownReader_32 : decode cX5_knownReader 32 = .ok (.ldc_w 325, 3) := by decide +kernel
theorem dX5_knownReader_35 : decode cX5_knownReader 35 = .ok (.invokespecial 272, 3) := by decide +kernel
theorem dX5_knownReader_38 : decode cX5_knownReader 38 = .ok (.athrow, 1) := by decide +kernel
theorem dX5_knownReader_39 : decode cX5_knownReader 39 = .ok (.aload_n 2, 1) := by decide +kernel
theorem dX5_knownReader_40 : decode cX5_knownReader 40 = .ok (.areturn, 1) := by decide +kernel
theorem dX5_requireBetween_0 : decode cX5_requireBetween 0 = .ok (.iload_n 0, 1) := by decide +kernel
theorem dX5_requireBetween_1 : decode cX5_requireBetween 1 = .ok (.iload_n 1, 1) := by decide +kernel
theorem dX5_requireBetween_2 : decode cX5_requireBetween 2 = .ok (.if_icmp .lt 8, 3) := by decide +kernel
theorem dX5_requireBetween_5 : decode cX5_requireBetween 5 = .ok (.iload_n 0, 1) := by decide +kernel
theorem dX5_requireBetween_6 : decode cX5_requireBetween 6 = .ok (.iload_n 2, 1) := by decide +kernel
theorem dX5_requireBetween_7 : decode cX5_requireBetween 7 = .ok (.if_icmp .le 14, 3) := by decide +kernel
theorem dX5_requireBetween_10 : decode cX5_requireBetween 10 = .ok (.new 327, 3) := by decide +kernel
theorem dX5_requireBetween_13 : decode cX5_requireBetween 13 = .ok (.dup, 1) := by decide +kernel
theorem dX5_requireBetween_14 : decode cX5_requireBetween 14 = .ok (.ldc_w 329, 3) := by decide +kernel
theorem dX5_requireBetween_17 : decode cX5_requireBetween 17 = .ok (.invokespecial 331, 3) := by decide +kernel
theorem dX5_requireBetween_20 : decode cX5_requireBetween 20 = .ok (.athrow, 1) := by decide +kernel
theorem dX5_requireBetween_21 : decode cX5_requireBetween 21 = .ok (.return_, 1) := by decide +kernel
theorem dX5_factOfRecord_0 : decode cX5_factOfRecord 0 = .ok (.aload_n 1, 1) := by decide +kernel
theorem dX5_factOfRecord_1 : decode cX5_factOfRecord 1 = .ok (.invokevirtual 95, 3) := by decide +kernel
theorem dX5_factOfRecord_4 : decode cX5_factOfRecord 4 = .ok (.astore_n 3, 1) := by decide +kernel
theorem dX5_factOfRecord_5 : decode cX5_factOfRecord 5 = .ok (.iload_n 2, 1) := by decide +kernel
theorem dX5_factOfRecord_6 : decode cX5_factOfRecord 6 = .ok (.tableswitch 86 0 5 #[38, 57, 62, 67, 72, 78], 38) := by decide +kernel
theorem dX5_factOfRecord_44 : decode cX5_factOfRecord 44 = .ok (.aload_n 1, 1) := by decide +kernel
theorem dX5_factOfRecord_45 : decode cX5_factOfRecord 45 = .ok (.getfield 332, 3) := by decide +kernel
theorem dX5_factOfRecord_48 : decode cX5_factOfRecord 48 = .ok (.ifnonnull 7, 3) := by decide +kernel
theorem dX5_factOfRecord_51 : decode cX5_factOfRecord 51 = .ok (.iconst (-1), 1) := by decide +kernel
theorem dX5_factOfRecord_52 : decode cX5_factOfRecord 52 = .ok (.goto 10, 3) := by decide +kernel
theorem dX5_factOfRecord_55 : decode cX5_factOfRecord 55 = .ok (.aload_n 1, 1) := by decide +kernel
theorem dX5_factOfRecord_56 : decode cX5_factOfRecord 56 = .ok (.getfield 332, 3) := by decide +kernel
theorem dX5_factOfRecord_59 : decode cX5_factOfRecord 59 = .ok (.getfield 65, 3) := by decide +kernel
theorem dX5_factOfRecord_62 : decode cX5_factOfRecord 62 = .ok (.ireturn, 1) := by decide +kernel
theorem dX5_factOfRecord_63 : decode cX5_factOfRecord 63 = .ok (.aload_n 1, 1) := by decide +kernel
theorem dX5_factOfRecord_64 : decode cX5_factOfRecord 64 = .ok (.getfield 335, 3) := by decide +kernel
theorem dX5_factOfRecord_67 : decode cX5_factOfRecord 67 = .ok (.ireturn, 1) := by decide +kernel
theorem dX5_factOfRecord_68 : decode cX5_factOfRecord 68 = .ok (.aload_n 1, 1) := by decide +kernel
theorem dX5_factOfRecord_69 : decode cX5_factOfRecord 69 = .ok (.getfield 338, 3) := by decide +kernel
theorem dX5_factOfRecord_72 : decode cX5_factOfRecord 72 = .ok (.ireturn, 1) := by decide +kernel
theorem dX5_factOfRecord_73 : decode cX5_factOfRecord 73 = .ok (.aload_n 3, 1) := by decide +kernel
theorem dX5_factOfRecord_74 : decode cX5_factOfRecord 74 = .ok (.getfield 103, 3) := by decide +kernel
theorem dX5_factOfRecord_77 : decode cX5_factOfRecord 77 = .ok (.ireturn, 1) := by decide +kernel
theorem dX5_factOfRecord_78 : decode cX5_factOfRecord 78 = .ok (.aload_n 0, 1) := by decide +kernel
theorem dX5_factOfRecord_79 : decode cX5_factOfRecord 79 = .ok (.aload_n 3, 1) := by decide +kernel
theorem dX5_factOfRecord_80 : decode cX5_factOfRecord 80 = .ok (.invokevirtual 126, 3) := by decide +kernel
theorem dX5_factOfRecord_83 : decode cX5_factOfRecord 83 = .ok (.ireturn, 1) := by decide +kernel
theorem dX5_factOfRecord_84 : decode cX5_factOfRecord 84 = .ok (.aload_n 3, 1) := by decide +kernel
theorem dX5_factOfRecord_85 : decode cX5_factOfRecord 85 = .ok (.getfield 235, 3) := by decide +kernel
theorem dX5_factOfRecord_88 : decode cX5_factOfRecord 88 = .ok (.getfield 262, 3) := by decide +kernel
theorem dX5_factOfRecord_91 : decode cX5_factOfRecord 91 = .ok (.ireturn, 1) := by decide +kernel
theorem dX5_factOfRecord_92 : decode cX5_factOfRecord 92 = .ok (.aload_n 3, 1) := by decide +kernel
theorem dX5_factOfRecord_93 : decode cX5_factOfRecord 93 = .ok (.getfield 113, 3) := by decide +kernel
theorem dX5_factOfRecord_96 : decode cX5_factOfRecord 96 = .ok (.ireturn, 1) := by decide +kernel
theorem dX5_factOfCopy_0 : decode cX5_factOfCopy 0 = .ok (.iload_n 2, 1) := by decide +kernel
theorem dX5_factOfCopy_1 : decode cX5_factOfCopy 1 = .ok (.tableswitch 90 0 5 #[39, 47, 52, 71, 76, 85], 39) := by decide +kernel
theorem dX5_factOfCopy_40 : decode cX5_factOfCopy 40 = .ok (.aload_n 1, 1) := by decide +kernel
theorem dX5_factOfCopy_41 : decode cX5_factOfCopy 41 = .ok (.getfield 192, 3) := by decide +kernel
theorem dX5_factOfCopy_44 : decode cX5_factOfCopy 44 = .ok (.getfield 103, 3) := by decide +kernel
theorem dX5_factOfCopy_47 : decode cX5_factOfCopy 47 = .ok (.ireturn, 1) := by decide +kernel
theorem dX5_factOfCopy_48 : decode cX5_factOfCopy 48 = .ok (.aload_n 1, 1) := by decide +kernel
theorem dX5_factOfCopy_49 : decode cX5_factOfCopy 49 = .ok (.getfield 215, 3) := by decide +kernel
theorem dX5_factOfCopy_52 : decode cX5_factOfCopy 52 = .ok (.ireturn, 1) := by decide +kernel
theorem dX5_factOfCopy_53 : decode cX5_factOfCopy 53 = .ok (.aload_n 1, 1) := by decide +kernel
theorem dX5_factOfCopy_54 : decode cX5_factOfCopy 54 = .ok (.getfield 202, 3) := by decide +kernel
theorem dX5_factOfCopy_57 : decode cX5_factOfCopy 57 = .ok (.ifnonnull 7, 3) := by decide +kernel
theorem dX5_factOfCopy_60 : decode cX5_factOfCopy 60 = .ok (.iconst (-1), 1) := by decide +kernel
theorem dX5_factOfCopy_61 : decode cX5_factOfCopy 61 = .ok (.goto 10, 3) := by decide +kernel
theorem dX5_factOfCopy_64 : decode cX5_factOfCopy 64 = .ok (.aload_n 1, 1) := by decide +kernel
theorem dX5_factOfCopy_65 : decode cX5_factOfCopy 65 = .ok (.getfield 202, 3) := by decide +kernel
theorem dX5_factOfCopy_68 : decode cX5_factOfCopy 68 = .ok (.getfield 273, 3) := by decide +kernel
theorem dX5_factOfCopy_71 : decode cX5_factOfCopy 71 = .ok (.ireturn, 1) := by decide +kernel
theorem dX5_factOfCopy_72 : decode cX5_factOfCopy 72 = .ok (.aload_n 1, 1) := by decide +kernel
theorem dX5_factOfCopy_73 : decode cX5_factOfCopy 73 = .ok (.getfield 199, 3) := by decide +kernel
theorem dX5_factOfCopy_76 : decode cX5_factOfCopy 76 = .ok (.ireturn, 1) := by decide +kernel
theorem dX5_factOfCopy_77 : decode cX5_factOfCopy 77 = .ok (.aload_n 1, 1) := by decide +kernel
theorem dX5_factOfCopy_78 : decode cX5_factOfCopy 78 = .ok (.aload_n 0, 1) := by decide +kernel
theorem dX5_factOfCopy_79 : decode cX5_factOfCopy 79 = .ok (.getfield 181, 3) := by decide +kernel
theorem dX5_factOfCopy_82 : decode cX5_factOfCopy 82 = .ok (.invokevirtual 341, 3) := by decide +kernel
theorem dX5_factOfCopy_85 : decode cX5_factOfCopy 85 = .ok (.ireturn, 1) := by decide +kernel
theorem dX5_factOfCopy_86 : decode cX5_factOfCopy 86 = .ok (.aload_n 1, 1) := by decide +kernel
theorem dX5_factOfCopy_87 : decode cX5_factOfCopy 87 = .ok (.getfield 212, 3) := by decide +kernel
theorem dX5_factOfCopy_90 : decode cX5_factOfCopy 90 = .ok (.ireturn, 1) := by decide +kernel
theorem dX5_factOfCopy_91 : decode cX5_factOfCopy 91 = .ok (.aload_n 1, 1) := by decide +kernel
theorem dX5_factOfCopy_92 : decode cX5_factOfCopy 92 = .ok (.getfield 226, 3) := by decide +kernel
theorem dX5_factOfCopy_95 : decode cX5_factOfCopy 95 = .ok (.ireturn, 1) := by decide +kernel
theorem dX5_factOfReader_0 : decode cX5_factOfReader 0 = .ok (.iload_n 2, 1) := by decide +kernel
theorem dX5_factOfReader_1 : decode cX5_factOfReader 1 = .ok (.tableswitch 75 0 5 #[39, 44, 51, 56, 62, 69], 39) := by decide +kernel
theorem dX5_factOfReader_40 : decode cX5_factOfReader 40 = .ok (.aload_n 1, 1) := by decide +kernel
theorem dX5_factOfReader_41 : decode cX5_factOfReader 41 = .ok (.getfield 344, 3) := by decide +kernel
theorem dX5_factOfReader_44 : decode cX5_factOfReader 44 = .ok (.ireturn, 1) := by decide +kernel
theorem dX5_factOfReader_45 : decode cX5_factOfReader 45 = .ok (.aload_n 0, 1) := by decide +kernel
theorem dX5_factOfReader_46 : decode cX5_factOfReader 46 = .ok (.aload_n 1, 1) := by decide +kernel
theorem dX5_factOfReader_47 : decode cX5_factOfReader 47 = .ok (.iconst 1, 1) := by decide +kernel
theorem dX5_factOfReader_48 : decode cX5_factOfReader 48 = .ok (.invokevirtual 347, 3) := by decide +kernel
theorem dX5_factOfReader_51 : decode cX5_factOfReader 51 = .ok (.ireturn, 1) := by decide +kernel
theorem dX5_factOfReader_52 : decode cX5_factOfReader 52 = .ok (.aload_n 1, 1) := by decide +kernel
theorem dX5_factOfReader_53 : decode cX5_factOfReader 53 = .ok (.getfield 172, 3) := by decide +kernel
theorem dX5_factOfReader_56 : decode cX5_factOfReader 56 = .ok (.ireturn, 1) := by decide +kernel
theorem dX5_factOfReader_57 : decode cX5_factOfReader 57 = .ok (.aload_n 0, 1) := by decide +kernel
theorem dX5_factOfReader_58 : decode cX5_factOfReader 58 = .ok (.aload_n 1, 1) := by decide +kernel
theorem dX5_factOfReader_59 : decode cX5_factOfReader 59 = .ok (.invokevirtual 350, 3) := by decide +kernel
theorem dX5_factOfReader_62 : decode cX5_factOfReader 62 = .ok (.ireturn, 1) := by decide +kernel
theorem dX5_factOfReader_63 : decode cX5_factOfReader 63 = .ok (.aload_n 0, 1) := by decide +kernel
theorem dX5_factOfReader_64 : decode cX5_factOfReader 64 = .ok (.aload_n 1, 1) := by decide +kernel
theorem dX5_factOfReader_65 : decode cX5_factOfReader 65 = .ok (.iconst 2, 1) := by decide +kernel
theorem dX5_factOfReader_66 : decode cX5_factOfReader 66 = .ok (.invokevirtual 347, 3) := by decide +kernel
theorem dX5_factOfReader_69 : decode cX5_factOfReader 69 = .ok (.ireturn, 1) := by decide +kernel
theorem dX5_factOfReader_70 : decode cX5_factOfReader 70 = .ok (.aload_n 0, 1) := by decide +kernel
theorem dX5_factOfReader_71 : decode cX5_factOfReader 71 = .ok (.aload_n 1, 1) := by decide +kernel
theorem dX5_factOfReader_72 : decode cX5_factOfReader 72 = .ok (.invokevirtual 353, 3) := by decide +kernel
theorem dX5_factOfReader_75 : decode cX5_factOfReader 75 = .ok (.ireturn, 1) := by decide +kernel
theorem dX5_factOfReader_76 : decode cX5_factOfReader 76 = .ok (.aload_n 0, 1) := by decide +kernel
theorem dX5_factOfReader_77 : decode cX5_factOfReader 77 = .ok (.aload_n 1, 1) := by decide +kernel
theorem dX5_factOfReader_78 : decode cX5_factOfReader 78 = .ok (.invokevirtual 356, 3) := by decide +kernel
theorem dX5_factOfReader_81 : decode cX5_factOfReader 81 = .ok (.ireturn, 1) := by decide +kernel
theorem dX5_total_0 : decode cX5_total 0 = .ok (.iload_n 1, 1) := by decide +kernel
theorem dX5_total_1 : decode cX5_total 1 = .ok (.tableswitch 85 0 9 #[55, 60, 65, 70, 75, 85, 85, 85, 85, 80], 55) := by decide +kernel
theorem dX5_total_56 : decode cX5_total 56 = .ok (.aload_n 0, 1) := by decide +kernel
theorem dX5_total_57 : decode cX5_total 57 = .ok (.getfield 181, 3) := by decide +kernel
theorem dX5_total_60 : decode cX5_total 60 = .ok (.ireturn, 1) := by decide +kernel
theorem dX5_total_61 : decode cX5_total 61 = .ok (.aload_n 0, 1) := by decide +kernel
theorem dX5_total_62 : decode cX5_total 62 = .ok (.getfield 33, 3) := by decide +kernel
theorem dX5_total_65 : decode cX5_total 65 = .ok (.ireturn, 1) := by decide +kernel
theorem dX5_total_66 : decode cX5_total 66 = .ok (.aload_n 0, 1) := by decide +kernel
theorem dX5_total_67 : decode cX5_total 67 = .ok (.invokevirtual 359, 3) := by decide +kernel
theorem dX5_total_70 : decode cX5_total 70 = .ok (.ireturn, 1) := by decide +kernel
theorem dX5_total_71 : decode cX5_total 71 = .ok (.aload_n 0, 1) := by decide +kernel
theorem dX5_total_72 : decode cX5_total 72 = .ok (.getfield 136, 3) := by decide +kernel
theorem dX5_total_75 : decode cX5_total 75 = .ok (.ireturn, 1) := by decide +kernel
theorem dX5_total_76 : decode cX5_total 76 = .ok (.aload_n 0, 1) := by decide +kernel
theorem dX5_total_77 : decode cX5_total 77 = .ok (.getfield 156, 3) := by decide +kernel
theorem dX5_total_80 : decode cX5_total 80 = .ok (.ireturn, 1) := by decide +kernel
theorem dX5_total_81 : decode cX5_total 81 = .ok (.aload_n 0, 1) := by decide +kernel
theorem dX5_total_82 : decode cX5_total 82 = .ok (.invokevirtual 362, 3) := by decide +kernel
theorem dX5_total_85 : decode cX5_total 85 = .ok (.ireturn, 1) := by decide +kernel
theorem dX5_total_86 : decode cX5_total 86 = .ok (.aload_n 0, 1) := by decide +kernel
theorem dX5_total_87 : decode cX5_total 87 = .ok (.iload_n 1, 1) := by decide +kernel
theorem dX5_total_88 : decode cX5_total 88 = .ok (.iconst 5, 1) := by decide +kernel
theorem dX5_total_89 : decode cX5_total 89 = .ok (.isub, 1) := by decide +kernel
theorem dX5_total_90 : decode cX5_total 90 = .ok (.invokevirtual 365, 3) := by decide +kernel
theorem dX5_total_93 : decode cX5_total 93 = .ok (.ireturn, 1) := by decide +kernel
theorem dX5_copiesNotLost_0 : decode cX5_copiesNotLost 0 = .ok (.iconst 0, 1) := by decide +kernel
theorem dX5_copiesNotLost_1 : decode cX5_copiesNotLost 1 = .ok (.istore_n 2, 1) := by decide +kernel
theorem dX5_copiesNotLost_2 : decode cX5_copiesNotLost 2 = .ok (.aload_n 0, 1) := by decide +kernel
theorem dX5_copiesNotLost_3 : decode cX5_copiesNotLost 3 = .ok (.getfield 23, 3) := by decide +kernel
theorem dX5_copiesNotLost_6 : decode cX5_copiesNotLost 6 = .ok (.astore_n 3, 1) := by decide +kernel
theorem dX5_copiesNotLost_7 : decode cX5_copiesNotLost 7 = .ok (.aload_n 3, 1) := by decide +kernel
theorem dX5_copiesNotLost_8 : decode cX5_copiesNotLost 8 = .ok (.arraylength, 1) := by decide +kernel
theorem dX5_copiesNotLost_9 : decode cX5_copiesNotLost 9 = .ok (.istore 4, 2) := by decide +kernel
theorem dX5_copiesNotLost_11 : decode cX5_copiesNotLost 11 = .ok (.iconst 0, 1) := by decide +kernel
theorem dX5_copiesNotLost_12 : decode cX5_copiesNotLost 12 = .ok (.istore 5, 2) := by decide +kernel
theorem dX5_copiesNotLost_14 : decode cX5_copiesNotLost 14 = .ok (.iload 5, 2) := by decide +kernel
theorem dX5_copiesNotLost_16 : decode cX5_copiesNotLost 16 = .ok (.iload 4, 2) := by decide +kernel
theorem dX5_copiesNotLost_18 : decode cX5_copiesNotLost 18 = .ok (.if_icmp .ge 41, 3) := by decide +kernel
theorem dX5_copiesNotLost_21 : decode cX5_copiesNotLost 21 = .ok (.aload_n 3, 1) := by decide +kernel
theorem dX5_copiesNotLost_22 : decode cX5_copiesNotLost 22 = .ok (.iload 5, 2) := by decide +kernel
theorem dX5_copiesNotLost_24 : decode cX5_copiesNotLost 24 = .ok (.aaload, 1) := by decide +kernel
theorem dX5_copiesNotLost_25 : decode cX5_copiesNotLost 25 = .ok (.astore 6, 2) := by decide +kernel
theorem dX5_copiesNotLost_27 : decode cX5_copiesNotLost 27 = .ok (.aload 6, 2) := by decide +kernel
theorem dX5_copiesNotLost_29 : decode cX5_copiesNotLost 29 = .ok (.ifnull 24, 3) := by decide +kernel
theorem dX5_copiesNotLost_32 : decode cX5_copiesNotLost 32 = .ok (.aload 6, 2) := by decide +kernel
theorem dX5_copiesNotLost_34 : decode cX5_copiesNotLost 34 = .ok (.getfield 192, 3) := by decide +kernel
theorem dX5_copiesNotLost_37 : decode cX5_copiesNotLost 37 = .ok (.aload_n 1, 1) := by decide +kernel
theorem dX5_copiesNotLost_38 : decode cX5_copiesNotLost 38 = .ok (.if_acmp .ne 15, 3) := by decide +kernel
theorem dX5_copiesNotLost_41 : decode cX5_copiesNotLost 41 = .ok (.aload 6, 2) := by decide +kernel
theorem dX5_copiesNotLost_43 : decode cX5_copiesNotLost 43 = .ok (.getfield 215, 3) := by decide +kernel
theorem dX5_copiesNotLost_46 : decode cX5_copiesNotLost 46 = .ok (.iconst 3, 1) := by decide +kernel
theorem dX5_copiesNotLost_47 : decode cX5_copiesNotLost 47 = .ok (.if_icmp .eq 6, 3) := by decide +kernel
theorem dX5_copiesNotLost_50 : decode cX5_copiesNotLost 50 = .ok (.iinc 2 1, 3) := by decide +kernel
theorem dX5_copiesNotLost_53 : decode cX5_copiesNotLost 53 = .ok (.iinc 5 1, 3) := by decide +kernel
theorem dX5_copiesNotLost_56 : decode cX5_copiesNotLost 56 = .ok (.goto (-42), 3) := by decide +kernel
theorem dX5_copiesNotLost_59 : decode cX5_copiesNotLost 59 = .ok (.iload_n 2, 1) := by decide +kernel
theorem dX5_copiesNotLost_60 : decode cX5_copiesNotLost 60 = .ok (.ireturn, 1) := by decide +kernel
theorem dX5_copiesOf_0 : decode cX5_copiesOf 0 = .ok (.iconst 0, 1) := by decide +kernel
theorem dX5_copiesOf_1 : decode cX5_copiesOf 1 = .ok (.istore_n 3, 1) := by decide +kernel
theorem dX5_copiesOf_2 : decode cX5_copiesOf 2 = .ok (.aload_n 0, 1) := by decide +kernel
theorem dX5_copiesOf_3 : decode cX5_copiesOf 3 = .ok (.getfield 23, 3) := by decide +kernel
theorem dX5_copiesOf_6 : decode cX5_copiesOf 6 = .ok (.astore 4, 2) := by decide +kernel
theorem dX5_copiesOf_8 : decode cX5_copiesOf 8 = .ok (.aload 4, 2) := by decide +kernel
theorem dX5_copiesOf_10 : decode cX5_copiesOf 10 = .ok (.arraylength, 1) := by decide +kernel
theorem dX5_copiesOf_11 : decode cX5_copiesOf 11 = .ok (.istore 5, 2) := by decide +kernel
theorem dX5_copiesOf_13 : decode cX5_copiesOf 13 = .ok (.iconst 0, 1) := by decide +kernel
theorem dX5_copiesOf_14 : decode cX5_copiesOf 14 = .ok (.istore 6, 2) := by decide +kernel
theorem dX5_copiesOf_16 : decode cX5_copiesOf 16 = .ok (.iload 6, 2) := by decide +kernel
theorem dX5_copiesOf_18 : decode cX5_copiesOf 18 = .ok (.iload 5, 2) := by decide +kernel
theorem dX5_copiesOf_20 : decode cX5_copiesOf 20 = .ok (.if_icmp .ge 42, 3) := by decide +kernel
theorem dX5_copiesOf_23 : decode cX5_copiesOf 23 = .ok (.aload 4, 2) := by decide +kernel
theorem dX5_copiesOf_25 : decode cX5_copiesOf 25 = .ok (.iload 6, 2) := by decide +kernel
theorem dX5_copiesOf_27 : decode cX5_copiesOf 27 = .ok (.aaload, 1) := by decide +kernel
theorem dX5_copiesOf_28 : decode cX5_copiesOf 28 = .ok (.astore 7, 2) := by decide +kernel
theorem dX5_copiesOf_30 : decode cX5_copiesOf 30 = .ok (.aload 7, 2) := by decide +kernel
theorem dX5_copiesOf_32 : decode cX5_copiesOf 32 = .ok (.ifnull 24, 3) := by decide +kernel
theorem dX5_copiesOf_35 : decode cX5_copiesOf 35 = .ok (.aload 7, 2) := by decide +kernel
theorem dX5_copiesOf_37 : decode cX5_copiesOf 37 = .ok (.getfield 215, 3) := by decide +kernel
theorem dX5_copiesOf_40 : decode cX5_copiesOf 40 = .ok (.iload_n 2, 1) := by decide +kernel
theorem dX5_copiesOf_41 : decode cX5_copiesOf 41 = .ok (.if_icmp .ne 15, 3) := by decide +kernel
theorem dX5_copiesOf_44 : decode cX5_copiesOf 44 = .ok (.aload 7, 2) := by decide +kernel
theorem dX5_copiesOf_46 : decode cX5_copiesOf 46 = .ok (.getfield 202, 3) := by decide +kernel
theorem dX5_copiesOf_49 : decode cX5_copiesOf 49 = .ok (.aload_n 1, 1) := by decide +kernel
theorem dX5_copiesOf_50 : decode cX5_copiesOf 50 = .ok (.if_acmp .ne 6, 3) := by decide +kernel
theorem dX5_copiesOf_53 : decode cX5_copiesOf 53 = .ok (.iinc 3 1, 3) := by decide +kernel
theorem dX5_copiesOf_56 : decode cX5_copiesOf 56 = .ok (.iinc 6 1, 3) := by decide +kernel
theorem dX5_copiesOf_59 : decode cX5_copiesOf 59 = .ok (.goto (-43), 3) := by decide +kernel
theorem dX5_copiesOf_62 : decode cX5_copiesOf 62 = .ok (.iload_n 3, 1) := by decide +kernel
theorem dX5_copiesOf_63 : decode cX5_copiesOf 63 = .ok (.ireturn, 1) := by decide +kernel
theorem dX5_lateCopiesOf_0 : decode cX5_lateCopiesOf 0 = .ok (.iconst 0, 1) := by decide +kernel
theorem dX5_lateCopiesOf_1 : decode cX5_lateCopiesOf 1 = .ok (.istore_n 2, 1) := by decide +kernel
theorem dX5_lateCopiesOf_2 : decode cX5_lateCopiesOf 2 = .ok (.aload_n 0, 1) := by decide +kernel
theorem dX5_lateCopiesOf_3 : decode cX5_lateCopiesOf 3 = .ok (.getfield 23, 3) := by decide +kernel
theorem dX5_lateCopiesOf_6 : decode cX5_lateCopiesOf 6 = .ok (.astore_n 3, 1) := by decide +kernel
theorem dX5_lateCopiesOf_7 : decode cX5_lateCopiesOf 7 = .ok (.aload_n 3, 1) := by decide +kernel
theorem dX5_lateCopiesOf_8 : decode cX5_lateCopiesOf 8 = .ok (.arraylength, 1) := by decide +kernel
theorem dX5_lateCopiesOf_9 : decode cX5_lateCopiesOf 9 = .ok (.istore 4, 2) := by decide +kernel
theorem dX5_lateCopiesOf_11 : decode cX5_lateCopiesOf 11 = .ok (.iconst 0, 1) := by decide +kernel
theorem dX5_lateCopiesOf_12 : decode cX5_lateCopiesOf 12 = .ok (.istore 5, 2) := by decide +kernel
theorem dX5_lateCopiesOf_14 : decode cX5_lateCopiesOf 14 = .ok (.iload 5, 2) := by decide +kernel
theorem dX5_lateCopiesOf_16 : decode cX5_lateCopiesOf 16 = .ok (.iload 4, 2) := by decide +kernel
theorem dX5_lateCopiesOf_18 : decode cX5_lateCopiesOf 18 = .ok (.if_icmp .ge 44, 3) := by decide +kernel
theorem dX5_lateCopiesOf_21 : decode cX5_lateCopiesOf 21 = .ok (.aload_n 3, 1) := by decide +kernel
theorem dX5_lateCopiesOf_22 : decode cX5_lateCopiesOf 22 = .ok (.iload 5, 2) := by decide +kernel
theorem dX5_lateCopiesOf_24 : decode cX5_lateCopiesOf 24 = .ok (.aaload, 1) := by decide +kernel
theorem dX5_lateCopiesOf_25 : decode cX5_lateCopiesOf 25 = .ok (.astore 6, 2) := by decide +kernel
theorem dX5_lateCopiesOf_27 : decode cX5_lateCopiesOf 27 = .ok (.aload 6, 2) := by decide +kernel
theorem dX5_lateCopiesOf_29 : decode cX5_lateCopiesOf 29 = .ok (.ifnull 27, 3) := by decide +kernel
theorem dX5_lateCopiesOf_32 : decode cX5_lateCopiesOf 32 = .ok (.aload 6, 2) := by decide +kernel
theorem dX5_lateCopiesOf_34 : decode cX5_lateCopiesOf 34 = .ok (.getfield 202, 3) := by decide +kernel
theorem dX5_lateCopiesOf_37 : decode cX5_lateCopiesOf 37 = .ok (.aload_n 1, 1) := by decide +kernel
theorem dX5_lateCopiesOf_38 : decode cX5_lateCopiesOf 38 = .ok (.if_acmp .ne 18, 3) := by decide +kernel
theorem dX5_lateCopiesOf_41 : decode cX5_lateCopiesOf 41 = .ok (.aload 6, 2) := by decide +kernel
theorem dX5_lateCopiesOf_43 : decode cX5_lateCopiesOf 43 = .ok (.aload_n 0, 1) := by decide +kernel
theorem dX5_lateCopiesOf_44 : decode cX5_lateCopiesOf 44 = .ok (.getfield 181, 3) := by decide +kernel
theorem dX5_lateCopiesOf_47 : decode cX5_lateCopiesOf 47 = .ok (.invokevirtual 341, 3) := by decide +kernel
theorem dX5_lateCopiesOf_50 : decode cX5_lateCopiesOf 50 = .ok (.ifCond .le 6, 3) := by decide +kernel
theorem dX5_lateCopiesOf_53 : decode cX5_lateCopiesOf 53 = .ok (.iinc 2 1, 3) := by decide +kernel
theorem dX5_lateCopiesOf_56 : decode cX5_lateCopiesOf 56 = .ok (.iinc 5 1, 3) := by decide +kernel
theorem dX5_lateCopiesOf_59 : decode cX5_lateCopiesOf 59 = .ok (.goto (-45), 3) := by decide +kernel
theorem dX5_lateCopiesOf_62 : decode cX5_lateCopiesOf 62 = .ok (.iload_n 2, 1) := by decide +kernel
theorem dX5_lateCopiesOf_63 : decode cX5_lateCopiesOf 63 = .ok (.ireturn, 1) := by decide +kernel
theorem dX5_finesOf_0 : decode cX5_finesOf 0 = .ok (.iconst 0, 1) := by decide +kernel
theorem dX5_finesOf_1 : decode cX5_finesOf 1 = .ok (.istore_n 2, 1) := by decide +kernel
theorem dX5_finesOf_2 : decode cX5_finesOf 2 = .ok (.aload_n 0, 1) := by decide +kernel
theorem dX5_finesOf_3 : decode cX5_finesOf 3 = .ok (.getfield 23, 3) := by decide +kernel
theorem dX5_finesOf_6 : decode cX5_finesOf 6 = .ok (.astore_n 3, 1) := by decide +kernel
theorem dX5_finesOf_7 : decode cX5_finesOf 7 = .ok (.aload_n 3, 1) := by decide +kernel
theorem dX5_finesOf_8 : decode cX5_finesOf 8 = .ok (.arraylength, 1) := by decide +kernel
theorem dX5_finesOf_9 : decode cX5_finesOf 9 = .ok (.istore 4, 2) := by decide +kernel
theorem dX5_finesOf_11 : decode cX5_finesOf 11 = .ok (.iconst 0, 1) := by decide +kernel
theorem dX5_finesOf_12 : decode cX5_finesOf 12 = .ok (.istore 5, 2) := by decide +kernel
theorem dX5_finesOf_14 : decode cX5_finesOf 14 = .ok (.iload 5, 2) := by decide +kernel
theorem dX5_finesOf_16 : decode cX5_finesOf 16 = .ok (.iload 4, 2) := by decide +kernel
theorem dX5_finesOf_18 : decode cX5_finesOf 18 = .ok (.if_icmp .ge 41, 3) := by decide +kernel
theorem dX5_finesOf_21 : decode cX5_finesOf 21 = .ok (.aload_n 3, 1) := by decide +kernel
theorem dX5_finesOf_22 : decode cX5_finesOf 22 = .ok (.iload 5, 2) := by decide +kernel
theorem dX5_finesOf_24 : decode cX5_finesOf 24 = .ok (.aaload, 1) := by decide +kernel
theorem dX5_finesOf_25 : decode cX5_finesOf 25 = .ok (.astore 6, 2) := by decide +kernel
theorem dX5_finesOf_27 : decode cX5_finesOf 27 = .ok (.aload 6, 2) := by decide +kernel
theorem dX5_finesOf_29 : decode cX5_finesOf 29 = .ok (.ifnull 24, 3) := by decide +kernel
theorem dX5_finesOf_32 : decode cX5_finesOf 32 = .ok (.aload 6, 2) := by decide +kernel
theorem dX5_finesOf_34 : decode cX5_finesOf 34 = .ok (.getfield 202, 3) := by decide +kernel
theorem dX5_finesOf_37 : decode cX5_finesOf 37 = .ok (.aload_n 1, 1) := by decide +kernel
theorem dX5_finesOf_38 : decode cX5_finesOf 38 = .ok (.if_acmp .ne 15, 3) := by decide +kernel
theorem dX5_finesOf_41 : decode cX5_finesOf 41 = .ok (.iload_n 2, 1) := by decide +kernel
theorem dX5_finesOf_42 : decode cX5_finesOf 42 = .ok (.aload 6, 2) := by decide +kernel
theorem dX5_finesOf_44 : decode cX5_finesOf 44 = .ok (.aload_n 0, 1) := by decide +kernel
theorem dX5_finesOf_45 : decode cX5_finesOf 45 = .ok (.getfield 181, 3) := by decide +kernel
theorem dX5_finesOf_48 : decode cX5_finesOf 48 = .ok (.invokevirtual 220, 3) := by decide +kernel
theorem dX5_finesOf_51 : decode cX5_finesOf 51 = .ok (.iadd, 1) := by decide +kernel
theorem dX5_finesOf_52 : decode cX5_finesOf 52 = .ok (.istore_n 2, 1) := by decide +kernel
theorem dX5_finesOf_53 : decode cX5_finesOf 53 = .ok (.iinc 5 1, 3) := by decide +kernel
theorem dX5_finesOf_56 : decode cX5_finesOf 56 = .ok (.goto (-42), 3) := by decide +kernel
theorem dX5_finesOf_59 : decode cX5_finesOf 59 = .ok (.iload_n 2, 1) := by decide +kernel
theorem dX5_finesOf_60 : decode cX5_finesOf 60 = .ok (.ireturn, 1) := by decide +kernel
theorem dX5_waitsOf_0 : decode cX5_waitsOf 0 = .ok (.iconst 0, 1) := by decide +kernel
theorem dX5_waitsOf_1 : decode cX5_waitsOf 1 = .ok (.istore_n 2, 1) := by decide +kernel
theorem dX5_waitsOf_2 : decode cX5_waitsOf 2 = .ok (.aload_n 0, 1) := by decide +kernel
theorem dX5_waitsOf_3 : decode cX5_waitsOf 3 = .ok (.getfield 17, 3) := by decide +kernel
theorem dX5_waitsOf_6 : decode cX5_waitsOf 6 = .ok (.astore_n 3, 1) := by decide +kernel
theorem dX5_waitsOf_7 : decode cX5_waitsOf 7 = .ok (.aload_n 3, 1) := by decide +kernel
theorem dX5_waitsOf_8 : decode cX5_waitsOf 8 = .ok (.arraylength, 1) := by decide +kernel
theorem dX5_waitsOf_9 : decode cX5_waitsOf 9 = .ok (.istore 4, 2) := by decide +kernel
theorem dX5_waitsOf_11 : decode cX5_waitsOf 11 = .ok (.iconst 0, 1) := by decide +kernel
theorem dX5_waitsOf_12 : decode cX5_waitsOf 12 = .ok (.istore 5, 2) := by decide +kernel
theorem dX5_waitsOf_14 : decode cX5_waitsOf 14 = .ok (.iload 5, 2) := by decide +kernel
theorem dX5_waitsOf_16 : decode cX5_waitsOf 16 = .ok (.iload 4, 2) := by decide +kernel
theorem dX5_waitsOf_18 : decode cX5_waitsOf 18 = .ok (.if_icmp .ge 35, 3) := by decide +kernel
theorem dX5_waitsOf_21 : decode cX5_waitsOf 21 = .ok (.aload_n 3, 1) := by decide +kernel
theorem dX5_waitsOf_22 : decode cX5_waitsOf 22 = .ok (.iload 5, 2) := by decide +kernel
theorem dX5_waitsOf_24 : decode cX5_waitsOf 24 = .ok (.aaload, 1) := by decide +kernel
theorem dX5_waitsOf_25 : decode cX5_waitsOf 25 = .ok (.astore 6, 2) := by decide +kernel
theorem dX5_waitsOf_27 : decode cX5_waitsOf 27 = .ok (.aload 6, 2) := by decide +kernel
theorem dX5_waitsOf_29 : decode cX5_waitsOf 29 = .ok (.ifnull 18, 3) := by decide +kernel
theorem dX5_waitsOf_32 : decode cX5_waitsOf 32 = .ok (.aload 6, 2) := by decide +kernel
theorem dX5_waitsOf_34 : decode cX5_waitsOf 34 = .ok (.getfield 235, 3) := by decide +kernel
theorem dX5_waitsOf_37 : decode cX5_waitsOf 37 = .ok (.aload_n 1, 1) := by decide +kernel
theorem dX5_waitsOf_38 : decode cX5_waitsOf 38 = .ok (.invokevirtual 239, 3) := by decide +kernel
theorem dX5_waitsOf_41 : decode cX5_waitsOf 41 = .ok (.ifCond .eq 6, 3) := by decide +kernel
theorem dX5_waitsOf_44 : decode cX5_waitsOf 44 = .ok (.iinc 2 1, 3) := by decide +kernel
theorem dX5_waitsOf_47 : decode cX5_waitsOf 47 = .ok (.iinc 5 1, 3) := by decide +kernel
theorem dX5_waitsOf_50 : decode cX5_waitsOf 50 = .ok (.goto (-36), 3) := by decide +kernel
theorem dX5_waitsOf_53 : decode cX5_waitsOf 53 = .ok (.iload_n 2, 1) := by decide +kernel
theorem dX5_waitsOf_54 : decode cX5_waitsOf 54 = .ok (.ireturn, 1) := by decide +kernel
theorem dX5_liveRecords_0 : decode cX5_liveRecords 0 = .ok (.iconst 0, 1) := by decide +kernel
theorem dX5_liveRecords_1 : decode cX5_liveRecords 1 = .ok (.istore_n 1, 1) := by decide +kernel
theorem dX5_liveRecords_2 : decode cX5_liveRecords 2 = .ok (.aload_n 0, 1) := by decide +kernel
theorem dX5_liveRecords_3 : decode cX5_liveRecords 3 = .ok (.getfield 17, 3) := by decide +kernel
theorem dX5_liveRecords_6 : decode cX5_liveRecords 6 = .ok (.astore_n 2, 1) := by decide +kernel
theorem dX5_liveRecords_7 : decode cX5_liveRecords 7 = .ok (.aload_n 2, 1) := by decide +kernel
theorem dX5_liveRecords_8 : decode cX5_liveRecords 8 = .ok (.arraylength, 1) := by decide +kernel
theorem dX5_liveRecords_9 : decode cX5_liveRecords 9 = .ok (.istore_n 3, 1) := by decide +kernel
theorem dX5_liveRecords_10 : decode cX5_liveRecords 10 = .ok (.iconst 0, 1) := by decide +kernel
theorem dX5_liveRecords_11 : decode cX5_liveRecords 11 = .ok (.istore 4, 2) := by decide +kernel
theorem dX5_liveRecords_13 : decode cX5_liveRecords 13 = .ok (.iload 4, 2) := by decide +kernel
theorem dX5_liveRecords_15 : decode cX5_liveRecords 15 = .ok (.iload_n 3, 1) := by decide +kernel
theorem dX5_liveRecords_16 : decode cX5_liveRecords 16 = .ok (.if_icmp .ge 31, 3) := by decide +kernel
theorem dX5_liveRecords_19 : decode cX5_liveRecords 19 = .ok (.aload_n 2, 1) := by decide +kernel
theorem dX5_liveRecords_20 : decode cX5_liveRecords 20 = .ok (.iload 4, 2) := by decide +kernel
theorem dX5_liveRecords_22 : decode cX5_liveRecords 22 = .ok (.aaload, 1) := by decide +kernel
theorem dX5_liveRecords_23 : decode cX5_liveRecords 23 = .ok (.astore 5, 2) := by decide +kernel
theorem dX5_liveRecords_25 : decode cX5_liveRecords 25 = .ok (.aload 5, 2) := by decide +kernel
theorem dX5_liveRecords_27 : decode cX5_liveRecords 27 = .ok (.ifnull 14, 3) := by decide +kernel
theorem dX5_liveRecords_30 : decode cX5_liveRecords 30 = .ok (.aload 5, 2) := by decide +kernel
theorem dX5_liveRecords_32 : decode cX5_liveRecords 32 = .ok (.invokevirtual 99, 3) := by decide +kernel
theorem dX5_liveRecords_35 : decode cX5_liveRecords 35 = .ok (.ifCond .eq 6, 3) := by decide +kernel
theorem dX5_liveRecords_38 : decode cX5_liveRecords 38 = .ok (.iinc 1 1, 3) := by decide +kernel
theorem dX5_liveRecords_41 : decode cX5_liveRecords 41 = .ok (.iinc 4 1, 3) := by decide +kernel
theorem dX5_liveRecords_44 : decode cX5_liveRecords 44 = .ok (.goto (-31), 3) := by decide +kernel
theorem dX5_liveRecords_47 : decode cX5_liveRecords 47 = .ok (.iload_n 1, 1) := by decide +kernel
theorem dX5_liveRecords_48 : decode cX5_liveRecords 48 = .ok (.ireturn, 1) := by decide +kernel
theorem dX5_copiesAt_0 : decode cX5_copiesAt 0 = .ok (.iconst 0, 1) := by decide +kernel
theorem dX5_copiesAt_1 : decode cX5_copiesAt 1 = .ok (.istore_n 2, 1) := by decide +kernel
theorem dX5_copiesAt_2 : decode cX5_copiesAt 2 = .ok (.aload_n 0, 1) := by decide +kernel
theorem dX5_copiesAt_3 : decode cX5_copiesAt 3 = .ok (.getfield 23, 3) := by decide +kernel
theorem dX5_copiesAt_6 : decode cX5_copiesAt 6 = .ok (.astore_n 3, 1) := by decide +kernel
theorem dX5_copiesAt_7 : decode cX5_copiesAt 7 = .ok (.aload_n 3, 1) := by decide +kernel
theorem dX5_copiesAt_8 : decode cX5_copiesAt 8 = .ok (.arraylength, 1) := by decide +kernel
theorem dX5_copiesAt_9 : decode cX5_copiesAt 9 = .ok (.istore 4, 2) := by decide +kernel
theorem dX5_copiesAt_11 : decode cX5_copiesAt 11 = .ok (.iconst 0, 1) := by decide +kernel
theorem dX5_copiesAt_12 : decode cX5_copiesAt 12 = .ok (.istore 5, 2) := by decide +kernel
theorem dX5_copiesAt_14 : decode cX5_copiesAt 14 = .ok (.iload 5, 2) := by decide +kernel
theorem dX5_copiesAt_16 : decode cX5_copiesAt 16 = .ok (.iload 4, 2) := by decide +kernel
theorem dX5_copiesAt_18 : decode cX5_copiesAt 18 = .ok (.if_icmp .ge 32, 3) := by decide +kernel
theorem dX5_copiesAt_21 : decode cX5_copiesAt 21 = .ok (.aload_n 3, 1) := by decide +kernel
theorem dX5_copiesAt_22 : decode cX5_copiesAt 22 = .ok (.iload 5, 2) := by decide +kernel
theorem dX5_copiesAt_24 : decode cX5_copiesAt 24 = .ok (.aaload, 1) := by decide +kernel
theorem dX5_copiesAt_25 : decode cX5_copiesAt 25 = .ok (.astore 6, 2) := by decide +kernel
theorem dX5_copiesAt_27 : decode cX5_copiesAt 27 = .ok (.aload 6, 2) := by decide +kernel
theorem dX5_copiesAt_29 : decode cX5_copiesAt 29 = .ok (.ifnull 15, 3) := by decide +kernel
theorem dX5_copiesAt_32 : decode cX5_copiesAt 32 = .ok (.aload 6, 2) := by decide +kernel
theorem dX5_copiesAt_34 : decode cX5_copiesAt 34 = .ok (.getfield 215, 3) := by decide +kernel
theorem dX5_copiesAt_37 : decode cX5_copiesAt 37 = .ok (.iload_n 1, 1) := by decide +kernel
theorem dX5_copiesAt_38 : decode cX5_copiesAt 38 = .ok (.if_icmp .ne 6, 3) := by decide +kernel
theorem dX5_copiesAt_41 : decode cX5_copiesAt 41 = .ok (.iinc 2 1, 3) := by decide +kernel
theorem dX5_copiesAt_44 : decode cX5_copiesAt 44 = .ok (.iinc 5 1, 3) := by decide +kernel
theorem dX5_copiesAt_47 : decode cX5_copiesAt 47 = .ok (.goto (-33), 3) := by decide +kernel
theorem dX5_copiesAt_50 : decode cX5_copiesAt 50 = .ok (.iload_n 2, 1) := by decide +kernel
theorem dX5_copiesAt_51 : decode cX5_copiesAt 51 = .ok (.ireturn, 1) := by decide +kernel
theorem dX5_owedByAll_0 : decode cX5_owedByAll 0 = .ok (.iconst 0, 1) := by decide +kernel
theorem dX5_owedByAll_1 : decode cX5_owedByAll 1 = .ok (.istore_n 1, 1) := by decide +kernel
theorem dX5_owedByAll_2 : decode cX5_owedByAll 2 = .ok (.aload_n 0, 1) := by decide +kernel
theorem dX5_owedByAll_3 : decode cX5_owedByAll 3 = .ok (.getfield 29, 3) := by decide +kernel
theorem dX5_owedByAll_6 : decode cX5_owedByAll 6 = .ok (.astore_n 2, 1) := by decide +kernel
theorem dX5_owedByAll_7 : decode cX5_owedByAll 7 = .ok (.aload_n 2, 1) := by decide +kernel
theorem dX5_owedByAll_8 : decode cX5_owedByAll 8 = .ok (.arraylength, 1) := by decide +kernel
theorem dX5_owedByAll_9 : decode cX5_owedByAll 9 = .ok (.istore_n 3, 1) := by decide +kernel
theorem dX5_owedByAll_10 : decode cX5_owedByAll 10 = .ok (.iconst 0, 1) := by decide +kernel
theorem dX5_owedByAll_11 : decode cX5_owedByAll 11 = .ok (.istore 4, 2) := by decide +kernel
theorem dX5_owedByAll_13 : decode cX5_owedByAll 13 = .ok (.iload 4, 2) := by decide +kernel
theorem dX5_owedByAll_15 : decode cX5_owedByAll 15 = .ok (.iload_n 3, 1) := by decide +kernel
theorem dX5_owedByAll_16 : decode cX5_owedByAll 16 = .ok (.if_icmp .ge 28, 3) := by decide +kernel
theorem dX5_owedByAll_19 : decode cX5_owedByAll 19 = .ok (.aload_n 2, 1) := by decide +kernel
theorem dX5_owedByAll_20 : decode cX5_owedByAll 20 = .ok (.iload 4, 2) := by decide +kernel
theorem dX5_owedByAll_22 : decode cX5_owedByAll 22 = .ok (.aaload, 1) := by decide +kernel
theorem dX5_owedByAll_23 : decode cX5_owedByAll 23 = .ok (.astore 5, 2) := by decide +kernel
theorem dX5_owedByAll_25 : decode cX5_owedByAll 25 = .ok (.aload 5, 2) := by decide +kernel
theorem dX5_owedByAll_27 : decode cX5_owedByAll 27 = .ok (.ifnull 11, 3) := by decide +kernel
theorem dX5_owedByAll_30 : decode cX5_owedByAll 30 = .ok (.iload_n 1, 1) := by decide +kernel
theorem dX5_owedByAll_31 : decode cX5_owedByAll 31 = .ok (.aload 5, 2) := by decide +kernel
theorem dX5_owedByAll_33 : decode cX5_owedByAll 33 = .ok (.getfield 172, 3) := by decide +kernel
theorem dX5_owedByAll_36 : decode cX5_owedByAll 36 = .ok (.iadd, 1) := by decide +kernel
theorem dX5_owedByAll_37 : decode cX5_owedByAll 37 = .ok (.istore_n 1, 1) := by decide +kernel
theorem dX5_owedByAll_38 : decode cX5_owedByAll 38 = .ok (.iinc 4 1, 3) := by decide +kernel
theorem dX5_owedByAll_41 : decode cX5_owedByAll 41 = .ok (.goto (-28), 3) := by decide +kernel
end
section
theorem dX5_owedByAll_44 : decode cX5_owedByAll 44 = .ok (.iload_n 1, 1) := by decide +kernel
theorem dX5_owedByAll_45 : decode cX5_owedByAll 45 = .ok (.ireturn, 1) := by decide +kernel
theorem dX5_reasonAgainst_0 : decode cX5_reasonAgainst 0 = .ok (.aload_n 2, 1) := by decide +kernel
theorem dX5_reasonAgainst_1 : decode cX5_reasonAgainst 1 = .ok (.getfield 215, 3) := by decide +kernel
theorem dX5_reasonAgainst_4 : decode cX5_reasonAgainst 4 = .ok (.ifCond .eq 17, 3) := by decide +kernel
theorem dX5_reasonAgainst_7 : decode cX5_reasonAgainst 7 = .ok (.aload_n 2, 1) := by decide +kernel
theorem dX5_reasonAgainst_8 : decode cX5_reasonAgainst 8 = .ok (.aload_n 1, 1) := by decide +kernel
theorem dX5_reasonAgainst_9 : decode cX5_reasonAgainst 9 = .ok (.aload_n 2, 1) := by decide +kernel
theorem dX5_reasonAgainst_10 : decode cX5_reasonAgainst 10 = .ok (.getfield 192, 3) := by decide +kernel
theorem dX5_reasonAgainst_13 : decode cX5_reasonAgainst 13 = .ok (.invokevirtual 368, 3) := by decide +kernel
theorem dX5_reasonAgainst_16 : decode cX5_reasonAgainst 16 = .ok (.ifCond .ne 5, 3) := by decide +kernel
theorem dX5_reasonAgainst_19 : decode cX5_reasonAgainst 19 = .ok (.iconst 1, 1) := by decide +kernel
theorem dX5_reasonAgainst_20 : decode cX5_reasonAgainst 20 = .ok (.ireturn, 1) := by decide +kernel
theorem dX5_reasonAgainst_21 : decode cX5_reasonAgainst 21 = .ok (.aload_n 0, 1) := by decide +kernel
theorem dX5_reasonAgainst_22 : decode cX5_reasonAgainst 22 = .ok (.aload_n 1, 1) := by decide +kernel
theorem dX5_reasonAgainst_23 : decode cX5_reasonAgainst 23 = .ok (.iconst 1, 1) := by decide +kernel
theorem dX5_reasonAgainst_24 : decode cX5_reasonAgainst 24 = .ok (.invokevirtual 347, 3) := by decide +kernel
theorem dX5_reasonAgainst_27 : decode cX5_reasonAgainst 27 = .ok (.aload_n 1, 1) := by decide +kernel
theorem dX5_reasonAgainst_28 : decode cX5_reasonAgainst 28 = .ok (.invokevirtual 371, 3) := by decide +kernel
theorem dX5_reasonAgainst_31 : decode cX5_reasonAgainst 31 = .ok (.if_icmp .lt 5, 3) := by decide +kernel
theorem dX5_reasonAgainst_34 : decode cX5_reasonAgainst 34 = .ok (.iconst 2, 1) := by decide +kernel
theorem dX5_reasonAgainst_35 : decode cX5_reasonAgainst 35 = .ok (.ireturn, 1) := by decide +kernel
theorem dX5_reasonAgainst_36 : decode cX5_reasonAgainst 36 = .ok (.aload_n 1, 1) := by decide +kernel
theorem dX5_reasonAgainst_37 : decode cX5_reasonAgainst 37 = .ok (.getfield 172, 3) := by decide +kernel
theorem dX5_reasonAgainst_40 : decode cX5_reasonAgainst 40 = .ok (.bipush 50, 2) := by decide +kernel
theorem dX5_reasonAgainst_42 : decode cX5_reasonAgainst 42 = .ok (.if_icmp .le 5, 3) := by decide +kernel
theorem dX5_reasonAgainst_45 : decode cX5_reasonAgainst 45 = .ok (.iconst 3, 1) := by decide +kernel
theorem dX5_reasonAgainst_46 : decode cX5_reasonAgainst 46 = .ok (.ireturn, 1) := by decide +kernel
theorem dX5_reasonAgainst_47 : decode cX5_reasonAgainst 47 = .ok (.aload_n 0, 1) := by decide +kernel
theorem dX5_reasonAgainst_48 : decode cX5_reasonAgainst 48 = .ok (.aload_n 1, 1) := by decide +kernel
theorem dX5_reasonAgainst_49 : decode cX5_reasonAgainst 49 = .ok (.invokevirtual 353, 3) := by decide +kernel
theorem dX5_reasonAgainst_52 : decode cX5_reasonAgainst 52 = .ok (.ifCond .le 5, 3) := by decide +kernel
theorem dX5_reasonAgainst_55 : decode cX5_reasonAgainst 55 = .ok (.iconst 4, 1) := by decide +kernel
theorem dX5_reasonAgainst_56 : decode cX5_reasonAgainst 56 = .ok (.ireturn, 1) := by decide +kernel
theorem dX5_reasonAgainst_57 : decode cX5_reasonAgainst 57 = .ok (.iconst 0, 1) := by decide +kernel
theorem dX5_reasonAgainst_58 : decode cX5_reasonAgainst 58 = .ok (.ireturn, 1) := by decide +kernel
theorem dX5_borrowable_0 : decode cX5_borrowable 0 = .ok (.iconst 0, 1) := by decide +kernel
theorem dX5_borrowable_1 : decode cX5_borrowable 1 = .ok (.istore_n 2, 1) := by decide +kernel
theorem dX5_borrowable_2 : decode cX5_borrowable 2 = .ok (.aload_n 0, 1) := by decide +kernel
theorem dX5_borrowable_3 : decode cX5_borrowable 3 = .ok (.getfield 23, 3) := by decide +kernel
theorem dX5_borrowable_6 : decode cX5_borrowable 6 = .ok (.astore_n 3, 1) := by decide +kernel
theorem dX5_borrowable_7 : decode cX5_borrowable 7 = .ok (.aload_n 3, 1) := by decide +kernel
theorem dX5_borrowable_8 : decode cX5_borrowable 8 = .ok (.arraylength, 1) := by decide +kernel
theorem dX5_borrowable_9 : decode cX5_borrowable 9 = .ok (.istore 4, 2) := by decide +kernel
theorem dX5_borrowable_11 : decode cX5_borrowable 11 = .ok (.iconst 0, 1) := by decide +kernel
theorem dX5_borrowable_12 : decode cX5_borrowable 12 = .ok (.istore 5, 2) := by decide +kernel
theorem dX5_borrowable_14 : decode cX5_borrowable 14 = .ok (.iload 5, 2) := by decide +kernel
theorem dX5_borrowable_16 : decode cX5_borrowable 16 = .ok (.iload 4, 2) := by decide +kernel
theorem dX5_borrowable_18 : decode cX5_borrowable 18 = .ok (.if_icmp .ge 33, 3) := by decide +kernel
theorem dX5_borrowable_21 : decode cX5_borrowable 21 = .ok (.aload_n 3, 1) := by decide +kernel
theorem dX5_borrowable_22 : decode cX5_borrowable 22 = .ok (.iload 5, 2) := by decide +kernel
theorem dX5_borrowable_24 : decode cX5_borrowable 24 = .ok (.aaload, 1) := by decide +kernel
theorem dX5_borrowable_25 : decode cX5_borrowable 25 = .ok (.astore 6, 2) := by decide +kernel
theorem dX5_borrowable_27 : decode cX5_borrowable 27 = .ok (.aload 6, 2) := by decide +kernel
theorem dX5_borrowable_29 : decode cX5_borrowable 29 = .ok (.ifnull 16, 3) := by decide +kernel
theorem dX5_borrowable_32 : decode cX5_borrowable 32 = .ok (.aload_n 0, 1) := by decide +kernel
theorem dX5_borrowable_33 : decode cX5_borrowable 33 = .ok (.aload_n 1, 1) := by decide +kernel
theorem dX5_borrowable_34 : decode cX5_borrowable 34 = .ok (.aload 6, 2) := by decide +kernel
theorem dX5_borrowable_36 : decode cX5_borrowable 36 = .ok (.invokevirtual 175, 3) := by decide +kernel
theorem dX5_borrowable_39 : decode cX5_borrowable 39 = .ok (.ifCond .ne 6, 3) := by decide +kernel
theorem dX5_borrowable_42 : decode cX5_borrowable 42 = .ok (.iinc 2 1, 3) := by decide +kernel
theorem dX5_borrowable_45 : decode cX5_borrowable 45 = .ok (.iinc 5 1, 3) := by decide +kernel
theorem dX5_borrowable_48 : decode cX5_borrowable 48 = .ok (.goto (-34), 3) := by decide +kernel
theorem dX5_borrowable_51 : decode cX5_borrowable 51 = .ok (.iload_n 2, 1) := by decide +kernel
theorem dX5_borrowable_52 : decode cX5_borrowable 52 = .ok (.ireturn, 1) := by decide +kernel
theorem dX5_mayBeRenewed_0 : decode cX5_mayBeRenewed 0 = .ok (.aload_n 1, 1) := by decide +kernel
theorem dX5_mayBeRenewed_1 : decode cX5_mayBeRenewed 1 = .ok (.getfield 215, 3) := by decide +kernel
theorem dX5_mayBeRenewed_4 : decode cX5_mayBeRenewed 4 = .ok (.iconst 1, 1) := by decide +kernel
theorem dX5_mayBeRenewed_5 : decode cX5_mayBeRenewed 5 = .ok (.if_icmp .ne 37, 3) := by decide +kernel
theorem dX5_mayBeRenewed_8 : decode cX5_mayBeRenewed 8 = .ok (.aload_n 1, 1) := by decide +kernel
theorem dX5_mayBeRenewed_9 : decode cX5_mayBeRenewed 9 = .ok (.aload_n 0, 1) := by decide +kernel
theorem dX5_mayBeRenewed_10 : decode cX5_mayBeRenewed 10 = .ok (.getfield 181, 3) := by decide +kernel
theorem dX5_mayBeRenewed_13 : decode cX5_mayBeRenewed 13 = .ok (.invokevirtual 341, 3) := by decide +kernel
theorem dX5_mayBeRenewed_16 : decode cX5_mayBeRenewed 16 = .ok (.ifCond .ne 26, 3) := by decide +kernel
theorem dX5_mayBeRenewed_19 : decode cX5_mayBeRenewed 19 = .ok (.aload_n 1, 1) := by decide +kernel
theorem dX5_mayBeRenewed_20 : decode cX5_mayBeRenewed 20 = .ok (.getfield 212, 3) := by decide +kernel
theorem dX5_mayBeRenewed_23 : decode cX5_mayBeRenewed 23 = .ok (.iconst 2, 1) := by decide +kernel
theorem dX5_mayBeRenewed_24 : decode cX5_mayBeRenewed 24 = .ok (.if_icmp .ge 18, 3) := by decide +kernel
theorem dX5_mayBeRenewed_27 : decode cX5_mayBeRenewed 27 = .ok (.aload_n 0, 1) := by decide +kernel
theorem dX5_mayBeRenewed_28 : decode cX5_mayBeRenewed 28 = .ok (.aload_n 1, 1) := by decide +kernel
theorem dX5_mayBeRenewed_29 : decode cX5_mayBeRenewed 29 = .ok (.getfield 192, 3) := by decide +kernel
theorem dX5_mayBeRenewed_32 : decode cX5_mayBeRenewed 32 = .ok (.invokevirtual 374, 3) := by decide +kernel
theorem dX5_mayBeRenewed_35 : decode cX5_mayBeRenewed 35 = .ok (.ifnonnull 7, 3) := by decide +kernel
theorem dX5_mayBeRenewed_38 : decode cX5_mayBeRenewed 38 = .ok (.iconst 1, 1) := by decide +kernel
theorem dX5_mayBeRenewed_39 : decode cX5_mayBeRenewed 39 = .ok (.goto 4, 3) := by decide +kernel
theorem dX5_mayBeRenewed_42 : decode cX5_mayBeRenewed 42 = .ok (.iconst 0, 1) := by decide +kernel
theorem dX5_mayBeRenewed_43 : decode cX5_mayBeRenewed 43 = .ok (.ireturn, 1) := by decide +kernel
theorem dX5_hasCopyOf_0 : decode cX5_hasCopyOf 0 = .ok (.aload_n 0, 1) := by decide +kernel
theorem dX5_hasCopyOf_1 : decode cX5_hasCopyOf 1 = .ok (.getfield 23, 3) := by decide +kernel
theorem dX5_hasCopyOf_4 : decode cX5_hasCopyOf 4 = .ok (.astore_n 3, 1) := by decide +kernel
theorem dX5_hasCopyOf_5 : decode cX5_hasCopyOf 5 = .ok (.aload_n 3, 1) := by decide +kernel
theorem dX5_hasCopyOf_6 : decode cX5_hasCopyOf 6 = .ok (.arraylength, 1) := by decide +kernel
theorem dX5_hasCopyOf_7 : decode cX5_hasCopyOf 7 = .ok (.istore 4, 2) := by decide +kernel
theorem dX5_hasCopyOf_9 : decode cX5_hasCopyOf 9 = .ok (.iconst 0, 1) := by decide +kernel
theorem dX5_hasCopyOf_10 : decode cX5_hasCopyOf 10 = .ok (.istore 5, 2) := by decide +kernel
theorem dX5_hasCopyOf_12 : decode cX5_hasCopyOf 12 = .ok (.iload 5, 2) := by decide +kernel
theorem dX5_hasCopyOf_14 : decode cX5_hasCopyOf 14 = .ok (.iload 4, 2) := by decide +kernel
theorem dX5_hasCopyOf_16 : decode cX5_hasCopyOf 16 = .ok (.if_icmp .ge 49, 3) := by decide +kernel
theorem dX5_hasCopyOf_19 : decode cX5_hasCopyOf 19 = .ok (.aload_n 3, 1) := by decide +kernel
theorem dX5_hasCopyOf_20 : decode cX5_hasCopyOf 20 = .ok (.iload 5, 2) := by decide +kernel
theorem dX5_hasCopyOf_22 : decode cX5_hasCopyOf 22 = .ok (.aaload, 1) := by decide +kernel
theorem dX5_hasCopyOf_23 : decode cX5_hasCopyOf 23 = .ok (.astore 6, 2) := by decide +kernel
theorem dX5_hasCopyOf_25 : decode cX5_hasCopyOf 25 = .ok (.aload 6, 2) := by decide +kernel
theorem dX5_hasCopyOf_27 : decode cX5_hasCopyOf 27 = .ok (.ifnull 32, 3) := by decide +kernel
theorem dX5_hasCopyOf_30 : decode cX5_hasCopyOf 30 = .ok (.aload 6, 2) := by decide +kernel
theorem dX5_hasCopyOf_32 : decode cX5_hasCopyOf 32 = .ok (.getfield 192, 3) := by decide +kernel
theorem dX5_hasCopyOf_35 : decode cX5_hasCopyOf 35 = .ok (.aload_n 2, 1) := by decide +kernel
theorem dX5_hasCopyOf_36 : decode cX5_hasCopyOf 36 = .ok (.if_acmp .ne 23, 3) := by decide +kernel
theorem dX5_hasCopyOf_39 : decode cX5_hasCopyOf 39 = .ok (.aload 6, 2) := by decide +kernel
theorem dX5_hasCopyOf_41 : decode cX5_hasCopyOf 41 = .ok (.getfield 215, 3) := by decide +kernel
theorem dX5_hasCopyOf_44 : decode cX5_hasCopyOf 44 = .ok (.iconst 1, 1) := by decide +kernel
theorem dX5_hasCopyOf_45 : decode cX5_hasCopyOf 45 = .ok (.if_icmp .ne 14, 3) := by decide +kernel
theorem dX5_hasCopyOf_48 : decode cX5_hasCopyOf 48 = .ok (.aload 6, 2) := by decide +kernel
theorem dX5_hasCopyOf_50 : decode cX5_hasCopyOf 50 = .ok (.getfield 202, 3) := by decide +kernel
theorem dX5_hasCopyOf_53 : decode cX5_hasCopyOf 53 = .ok (.aload_n 1, 1) := by decide +kernel
theorem dX5_hasCopyOf_54 : decode cX5_hasCopyOf 54 = .ok (.if_acmp .ne 5, 3) := by decide +kernel
theorem dX5_hasCopyOf_57 : decode cX5_hasCopyOf 57 = .ok (.iconst 1, 1) := by decide +kernel
theorem dX5_hasCopyOf_58 : decode cX5_hasCopyOf 58 = .ok (.ireturn, 1) := by decide +kernel
theorem dX5_hasCopyOf_59 : decode cX5_hasCopyOf 59 = .ok (.iinc 5 1, 3) := by decide +kernel
theorem dX5_hasCopyOf_62 : decode cX5_hasCopyOf 62 = .ok (.goto (-50), 3) := by decide +kernel
theorem dX5_hasCopyOf_65 : decode cX5_hasCopyOf 65 = .ok (.iconst 0, 1) := by decide +kernel
theorem dX5_hasCopyOf_66 : decode cX5_hasCopyOf 66 = .ok (.ireturn, 1) := by decide +kernel
theorem dX5_firstAside_0 : decode cX5_firstAside 0 = .ok (.aload_n 0, 1) := by decide +kernel
theorem dX5_firstAside_1 : decode cX5_firstAside 1 = .ok (.getfield 23, 3) := by decide +kernel
theorem dX5_firstAside_4 : decode cX5_firstAside 4 = .ok (.astore_n 3, 1) := by decide +kernel
theorem dX5_firstAside_5 : decode cX5_firstAside 5 = .ok (.aload_n 3, 1) := by decide +kernel
theorem dX5_firstAside_6 : decode cX5_firstAside 6 = .ok (.arraylength, 1) := by decide +kernel
theorem dX5_firstAside_7 : decode cX5_firstAside 7 = .ok (.istore 4, 2) := by decide +kernel
theorem dX5_firstAside_9 : decode cX5_firstAside 9 = .ok (.iconst 0, 1) := by decide +kernel
theorem dX5_firstAside_10 : decode cX5_firstAside 10 = .ok (.istore 5, 2) := by decide +kernel
theorem dX5_firstAside_12 : decode cX5_firstAside 12 = .ok (.iload 5, 2) := by decide +kernel
theorem dX5_firstAside_14 : decode cX5_firstAside 14 = .ok (.iload 4, 2) := by decide +kernel
theorem dX5_firstAside_16 : decode cX5_firstAside 16 = .ok (.if_icmp .ge 33, 3) := by decide +kernel
theorem dX5_firstAside_19 : decode cX5_firstAside 19 = .ok (.aload_n 3, 1) := by decide +kernel
theorem dX5_firstAside_20 : decode cX5_firstAside 20 = .ok (.iload 5, 2) := by decide +kernel
theorem dX5_firstAside_22 : decode cX5_firstAside 22 = .ok (.aaload, 1) := by decide +kernel
theorem dX5_firstAside_23 : decode cX5_firstAside 23 = .ok (.astore 6, 2) := by decide +kernel
theorem dX5_firstAside_25 : decode cX5_firstAside 25 = .ok (.aload 6, 2) := by decide +kernel
theorem dX5_firstAside_27 : decode cX5_firstAside 27 = .ok (.ifnull 16, 3) := by decide +kernel
theorem dX5_firstAside_30 : decode cX5_firstAside 30 = .ok (.aload 6, 2) := by decide +kernel
theorem dX5_firstAside_32 : decode cX5_firstAside 32 = .ok (.aload_n 1, 1) := by decide +kernel
theorem dX5_firstAside_33 : decode cX5_firstAside 33 = .ok (.aload_n 2, 1) := by decide +kernel
theorem dX5_firstAside_34 : decode cX5_firstAside 34 = .ok (.invokevirtual 368, 3) := by decide +kernel
theorem dX5_firstAside_37 : decode cX5_firstAside 37 = .ok (.ifCond .eq 6, 3) := by decide +kernel
theorem dX5_firstAside_40 : decode cX5_firstAside 40 = .ok (.aload 6, 2) := by decide +kernel
theorem dX5_firstAside_42 : decode cX5_firstAside 42 = .ok (.areturn, 1) := by decide +kernel
theorem dX5_firstAside_43 : decode cX5_firstAside 43 = .ok (.iinc 5 1, 3) := by decide +kernel
theorem dX5_firstAside_46 : decode cX5_firstAside 46 = .ok (.goto (-34), 3) := by decide +kernel
theorem dX5_firstAside_49 : decode cX5_firstAside 49 = .ok (.aconst_null, 1) := by decide +kernel
theorem dX5_firstAside_50 : decode cX5_firstAside 50 = .ok (.areturn, 1) := by decide +kernel
theorem dX5_firstIn_0 : decode cX5_firstIn 0 = .ok (.aload_n 0, 1) := by decide +kernel
theorem dX5_firstIn_1 : decode cX5_firstIn 1 = .ok (.getfield 23, 3) := by decide +kernel
theorem dX5_firstIn_4 : decode cX5_firstIn 4 = .ok (.astore_n 2, 1) := by decide +kernel
theorem dX5_firstIn_5 : decode cX5_firstIn 5 = .ok (.aload_n 2, 1) := by decide +kernel
theorem dX5_firstIn_6 : decode cX5_firstIn 6 = .ok (.arraylength, 1) := by decide +kernel
theorem dX5_firstIn_7 : decode cX5_firstIn 7 = .ok (.istore_n 3, 1) := by decide +kernel
theorem dX5_firstIn_8 : decode cX5_firstIn 8 = .ok (.iconst 0, 1) := by decide +kernel
theorem dX5_firstIn_9 : decode cX5_firstIn 9 = .ok (.istore 4, 2) := by decide +kernel
theorem dX5_firstIn_11 : decode cX5_firstIn 11 = .ok (.iload 4, 2) := by decide +kernel
theorem dX5_firstIn_13 : decode cX5_firstIn 13 = .ok (.iload_n 3, 1) := by decide +kernel
theorem dX5_firstIn_14 : decode cX5_firstIn 14 = .ok (.if_icmp .ge 40, 3) := by decide +kernel
theorem dX5_firstIn_17 : decode cX5_firstIn 17 = .ok (.aload_n 2, 1) := by decide +kernel
theorem dX5_firstIn_18 : decode cX5_firstIn 18 = .ok (.iload 4, 2) := by decide +kernel
theorem dX5_firstIn_20 : decode cX5_firstIn 20 = .ok (.aaload, 1) := by decide +kernel
theorem dX5_firstIn_21 : decode cX5_firstIn 21 = .ok (.astore 5, 2) := by decide +kernel
theorem dX5_firstIn_23 : decode cX5_firstIn 23 = .ok (.aload 5, 2) := by decide +kernel
theorem dX5_firstIn_25 : decode cX5_firstIn 25 = .ok (.ifnull 23, 3) := by decide +kernel
theorem dX5_firstIn_28 : decode cX5_firstIn 28 = .ok (.aload 5, 2) := by decide +kernel
theorem dX5_firstIn_30 : decode cX5_firstIn 30 = .ok (.getfield 192, 3) := by decide +kernel
theorem dX5_firstIn_33 : decode cX5_firstIn 33 = .ok (.aload_n 1, 1) := by decide +kernel
theorem dX5_firstIn_34 : decode cX5_firstIn 34 = .ok (.if_acmp .ne 14, 3) := by decide +kernel
theorem dX5_firstIn_37 : decode cX5_firstIn 37 = .ok (.aload 5, 2) := by decide +kernel
theorem dX5_firstIn_39 : decode cX5_firstIn 39 = .ok (.getfield 215, 3) := by decide +kernel
theorem dX5_firstIn_42 : decode cX5_firstIn 42 = .ok (.ifCond .ne 6, 3) := by decide +kernel
theorem dX5_firstIn_45 : decode cX5_firstIn 45 = .ok (.aload 5, 2) := by decide +kernel
theorem dX5_firstIn_47 : decode cX5_firstIn 47 = .ok (.areturn, 1) := by decide +kernel
theorem dX5_firstIn_48 : decode cX5_firstIn 48 = .ok (.iinc 4 1, 3) := by decide +kernel
theorem dX5_firstIn_51 : decode cX5_firstIn 51 = .ok (.goto (-40), 3) := by decide +kernel
theorem dX5_firstIn_54 : decode cX5_firstIn 54 = .ok (.aconst_null, 1) := by decide +kernel
theorem dX5_firstIn_55 : decode cX5_firstIn 55 = .ok (.areturn, 1) := by decide +kernel
theorem dX5_firstWithNoneAside_0 : decode cX5_firstWithNoneAside 0 = .ok (.aload_n 1, 1) := by decide +kernel
theorem dX5_firstWithNoneAside_1 : decode cX5_firstWithNoneAside 1 = .ok (.getfield 235, 3) := by decide +kernel
theorem dX5_firstWithNoneAside_4 : decode cX5_firstWithNoneAside 4 = .ok (.getfield 378, 3) := by decide +kernel
theorem dX5_firstWithNoneAside_7 : decode cX5_firstWithNoneAside 7 = .ok (.astore_n 2, 1) := by decide +kernel
theorem dX5_firstWithNoneAside_8 : decode cX5_firstWithNoneAside 8 = .ok (.aload_n 2, 1) := by decide +kernel
theorem dX5_firstWithNoneAside_9 : decode cX5_firstWithNoneAside 9 = .ok (.arraylength, 1) := by decide +kernel
theorem dX5_firstWithNoneAside_10 : decode cX5_firstWithNoneAside 10 = .ok (.istore_n 3, 1) := by decide +kernel
theorem dX5_firstWithNoneAside_11 : decode cX5_firstWithNoneAside 11 = .ok (.iconst 0, 1) := by decide +kernel
theorem dX5_firstWithNoneAside_12 : decode cX5_firstWithNoneAside 12 = .ok (.istore 4, 2) := by decide +kernel
theorem dX5_firstWithNoneAside_14 : decode cX5_firstWithNoneAside 14 = .ok (.iload 4, 2) := by decide +kernel
theorem dX5_firstWithNoneAside_16 : decode cX5_firstWithNoneAside 16 = .ok (.iload_n 3, 1) := by decide +kernel
theorem dX5_firstWithNoneAside_17 : decode cX5_firstWithNoneAside 17 = .ok (.if_icmp .ge 33, 3) := by decide +kernel
theorem dX5_firstWithNoneAside_20 : decode cX5_firstWithNoneAside 20 = .ok (.aload_n 2, 1) := by decide +kernel
theorem dX5_firstWithNoneAside_21 : decode cX5_firstWithNoneAside 21 = .ok (.iload 4, 2) := by decide +kernel
theorem dX5_firstWithNoneAside_23 : decode cX5_firstWithNoneAside 23 = .ok (.aaload, 1) := by decide +kernel
theorem dX5_firstWithNoneAside_24 : decode cX5_firstWithNoneAside 24 = .ok (.astore 5, 2) := by decide +kernel
theorem dX5_firstWithNoneAside_26 : decode cX5_firstWithNoneAside 26 = .ok (.aload 5, 2) := by decide +kernel
theorem dX5_firstWithNoneAside_28 : decode cX5_firstWithNoneAside 28 = .ok (.ifnull 16, 3) := by decide +kernel
theorem dX5_firstWithNoneAside_31 : decode cX5_firstWithNoneAside 31 = .ok (.aload_n 0, 1) := by decide +kernel
theorem dX5_firstWithNoneAside_32 : decode cX5_firstWithNoneAside 32 = .ok (.aload 5, 2) := by decide +kernel
theorem dX5_firstWithNoneAside_34 : decode cX5_firstWithNoneAside 34 = .ok (.aload_n 1, 1) := by decide +kernel
theorem dX5_firstWithNoneAside_35 : decode cX5_firstWithNoneAside 35 = .ok (.invokevirtual 286, 3) := by decide +kernel
theorem dX5_firstWithNoneAside_38 : decode cX5_firstWithNoneAside 38 = .ok (.ifnonnull 6, 3) := by decide +kernel
theorem dX5_firstWithNoneAside_41 : decode cX5_firstWithNoneAside 41 = .ok (.aload 5, 2) := by decide +kernel
theorem dX5_firstWithNoneAside_43 : decode cX5_firstWithNoneAside 43 = .ok (.areturn, 1) := by decide +kernel
theorem dX5_firstWithNoneAside_44 : decode cX5_firstWithNoneAside 44 = .ok (.iinc 4 1, 3) := by decide +kernel
theorem dX5_firstWithNoneAside_47 : decode cX5_firstWithNoneAside 47 = .ok (.goto (-33), 3) := by decide +kernel
theorem dX5_firstWithNoneAside_50 : decode cX5_firstWithNoneAside 50 = .ok (.aconst_null, 1) := by decide +kernel
theorem dX5_firstWithNoneAside_51 : decode cX5_firstWithNoneAside 51 = .ok (.areturn, 1) := by decide +kernel
theorem dX5_free_0 : decode cX5_free 0 = .ok (.aload_n 1, 1) := by decide +kernel
theorem dX5_free_1 : decode cX5_free 1 = .ok (.iconst 0, 1) := by decide +kernel
theorem dX5_free_2 : decode cX5_free 2 = .ok (.aconst_null, 1) := by decide +kernel
theorem dX5_free_3 : decode cX5_free 3 = .ok (.iconst (-1), 1) := by decide +kernel
theorem dX5_free_4 : decode cX5_free 4 = .ok (.invokevirtual 188, 3) := by decide +kernel
theorem dX5_free_7 : decode cX5_free 7 = .ok (.aload_n 0, 1) := by decide +kernel
theorem dX5_free_8 : decode cX5_free 8 = .ok (.aload_n 1, 1) := by decide +kernel
theorem dX5_free_9 : decode cX5_free 9 = .ok (.getfield 192, 3) := by decide +kernel
theorem dX5_free_12 : decode cX5_free 12 = .ok (.invokevirtual 374, 3) := by decide +kernel
theorem dX5_free_15 : decode cX5_free 15 = .ok (.astore_n 2, 1) := by decide +kernel
theorem dX5_free_16 : decode cX5_free 16 = .ok (.aload_n 2, 1) := by decide +kernel
theorem dX5_free_17 : decode cX5_free 17 = .ok (.ifnull 16, 3) := by decide +kernel
theorem dX5_free_20 : decode cX5_free 20 = .ok (.aload_n 1, 1) := by decide +kernel
theorem dX5_free_21 : decode cX5_free 21 = .ok (.iconst 2, 1) := by decide +kernel
theorem dX5_free_22 : decode cX5_free 22 = .ok (.aload_n 2, 1) := by decide +kernel
theorem dX5_free_23 : decode cX5_free 23 = .ok (.aload_n 0, 1) := by decide +kernel
theorem dX5_free_24 : decode cX5_free 24 = .ok (.getfield 181, 3) := by decide +kernel
theorem dX5_free_27 : decode cX5_free 27 = .ok (.bipush 6, 2) := by decide +kernel
theorem dX5_free_29 : decode cX5_free 29 = .ok (.iadd, 1) := by decide +kernel
theorem dX5_free_30 : decode cX5_free 30 = .ok (.invokevirtual 188, 3) := by decide +kernel
theorem dX5_free_33 : decode cX5_free 33 = .ok (.return_, 1) := by decide +kernel
theorem dX5_endWait_0 : decode cX5_endWait 0 = .ok (.aload_n 2, 1) := by decide +kernel
theorem dX5_endWait_1 : decode cX5_endWait 1 = .ok (.getfield 235, 3) := by decide +kernel
theorem dX5_endWait_4 : decode cX5_endWait 4 = .ok (.aload_n 1, 1) := by decide +kernel
theorem dX5_endWait_5 : decode cX5_endWait 5 = .ok (.invokevirtual 379, 3) := by decide +kernel
theorem dX5_endWait_8 : decode cX5_endWait 8 = .ok (.aload_n 0, 1) := by decide +kernel
theorem dX5_endWait_9 : decode cX5_endWait 9 = .ok (.getfield 23, 3) := by decide +kernel
theorem dX5_endWait_12 : decode cX5_endWait 12 = .ok (.astore_n 3, 1) := by decide +kernel
theorem dX5_endWait_13 : decode cX5_endWait 13 = .ok (.aload_n 3, 1) := by decide +kernel
theorem dX5_endWait_14 : decode cX5_endWait 14 = .ok (.arraylength, 1) := by decide +kernel
theorem dX5_endWait_15 : decode cX5_endWait 15 = .ok (.istore 4, 2) := by decide +kernel
theorem dX5_endWait_17 : decode cX5_endWait 17 = .ok (.iconst 0, 1) := by decide +kernel
theorem dX5_endWait_18 : decode cX5_endWait 18 = .ok (.istore 5, 2) := by decide +kernel
theorem dX5_endWait_20 : decode cX5_endWait 20 = .ok (.iload 5, 2) := by decide +kernel
theorem dX5_endWait_22 : decode cX5_endWait 22 = .ok (.iload 4, 2) := by decide +kernel
theorem dX5_endWait_24 : decode cX5_endWait 24 = .ok (.if_icmp .ge 36, 3) := by decide +kernel
theorem dX5_endWait_27 : decode cX5_endWait 27 = .ok (.aload_n 3, 1) := by decide +kernel
theorem dX5_endWait_28 : decode cX5_endWait 28 = .ok (.iload 5, 2) := by decide +kernel
theorem dX5_endWait_30 : decode cX5_endWait 30 = .ok (.aaload, 1) := by decide +kernel
theorem dX5_endWait_31 : decode cX5_endWait 31 = .ok (.astore 6, 2) := by decide +kernel
theorem dX5_endWait_33 : decode cX5_endWait 33 = .ok (.aload 6, 2) := by decide +kernel
theorem dX5_endWait_35 : decode cX5_endWait 35 = .ok (.ifnull 19, 3) := by decide +kernel
theorem dX5_endWait_38 : decode cX5_endWait 38 = .ok (.aload 6, 2) := by decide +kernel
theorem dX5_endWait_40 : decode cX5_endWait 40 = .ok (.aload_n 1, 1) := by decide +kernel
theorem dX5_endWait_41 : decode cX5_endWait 41 = .ok (.aload_n 2, 1) := by decide +kernel
theorem dX5_endWait_42 : decode cX5_endWait 42 = .ok (.invokevirtual 368, 3) := by decide +kernel
theorem dX5_endWait_45 : decode cX5_endWait 45 = .ok (.ifCond .eq 9, 3) := by decide +kernel
theorem dX5_endWait_48 : decode cX5_endWait 48 = .ok (.aload_n 0, 1) := by decide +kernel
theorem dX5_endWait_49 : decode cX5_endWait 49 = .ok (.aload 6, 2) := by decide +kernel
theorem dX5_endWait_51 : decode cX5_endWait 51 = .ok (.invokevirtual 144, 3) := by decide +kernel
theorem dX5_endWait_54 : decode cX5_endWait 54 = .ok (.iinc 5 1, 3) := by decide +kernel
theorem dX5_endWait_57 : decode cX5_endWait 57 = .ok (.goto (-37), 3) := by decide +kernel
theorem dX5_endWait_60 : decode cX5_endWait 60 = .ok (.return_, 1) := by decide +kernel
theorem dX5_moveCopies_0 : decode cX5_moveCopies 0 = .ok (.aload_n 0, 1) := by decide +kernel
theorem dX5_moveCopies_1 : decode cX5_moveCopies 1 = .ok (.getfield 23, 3) := by decide +kernel
theorem dX5_moveCopies_4 : decode cX5_moveCopies 4 = .ok (.astore_n 3, 1) := by decide +kernel
theorem dX5_moveCopies_5 : decode cX5_moveCopies 5 = .ok (.aload_n 3, 1) := by decide +kernel
theorem dX5_moveCopies_6 : decode cX5_moveCopies 6 = .ok (.arraylength, 1) := by decide +kernel
theorem dX5_moveCopies_7 : decode cX5_moveCopies 7 = .ok (.istore 4, 2) := by decide +kernel
theorem dX5_moveCopies_9 : decode cX5_moveCopies 9 = .ok (.iconst 0, 1) := by decide +kernel
theorem dX5_moveCopies_10 : decode cX5_moveCopies 10 = .ok (.istore 5, 2) := by decide +kernel
theorem dX5_moveCopies_12 : decode cX5_moveCopies 12 = .ok (.iload 5, 2) := by decide +kernel
theorem dX5_moveCopies_14 : decode cX5_moveCopies 14 = .ok (.iload 4, 2) := by decide +kernel
theorem dX5_moveCopies_16 : decode cX5_moveCopies 16 = .ok (.if_icmp .ge 35, 3) := by decide +kernel
theorem dX5_moveCopies_19 : decode cX5_moveCopies 19 = .ok (.aload_n 3, 1) := by decide +kernel
theorem dX5_moveCopies_20 : decode cX5_moveCopies 20 = .ok (.iload 5, 2) := by decide +kernel
theorem dX5_moveCopies_22 : decode cX5_moveCopies 22 = .ok (.aaload, 1) := by decide +kernel
theorem dX5_moveCopies_23 : decode cX5_moveCopies 23 = .ok (.astore 6, 2) := by decide +kernel
theorem dX5_moveCopies_25 : decode cX5_moveCopies 25 = .ok (.aload 6, 2) := by decide +kernel
theorem dX5_moveCopies_27 : decode cX5_moveCopies 27 = .ok (.ifnull 18, 3) := by decide +kernel
theorem dX5_moveCopies_30 : decode cX5_moveCopies 30 = .ok (.aload 6, 2) := by decide +kernel
theorem dX5_moveCopies_32 : decode cX5_moveCopies 32 = .ok (.getfield 192, 3) := by decide +kernel
theorem dX5_moveCopies_35 : decode cX5_moveCopies 35 = .ok (.aload_n 1, 1) := by decide +kernel
theorem dX5_moveCopies_36 : decode cX5_moveCopies 36 = .ok (.if_acmp .ne 9, 3) := by decide +kernel
theorem dX5_moveCopies_39 : decode cX5_moveCopies 39 = .ok (.aload 6, 2) := by decide +kernel
theorem dX5_moveCopies_41 : decode cX5_moveCopies 41 = .ok (.aload_n 2, 1) := by decide +kernel
theorem dX5_moveCopies_42 : decode cX5_moveCopies 42 = .ok (.putfield 192, 3) := by decide +kernel
theorem dX5_moveCopies_45 : decode cX5_moveCopies 45 = .ok (.iinc 5 1, 3) := by decide +kernel
theorem dX5_moveCopies_48 : decode cX5_moveCopies 48 = .ok (.goto (-36), 3) := by decide +kernel
theorem dX5_moveCopies_51 : decode cX5_moveCopies 51 = .ok (.return_, 1) := by decide +kernel
theorem dX5_moveWaiters_0 : decode cX5_moveWaiters 0 = .ok (.aload_n 1, 1) := by decide +kernel
theorem dX5_moveWaiters_1 : decode cX5_moveWaiters 1 = .ok (.getfield 235, 3) := by decide +kernel
theorem dX5_moveWaiters_4 : decode cX5_moveWaiters 4 = .ok (.getfield 378, 3) := by decide +kernel
theorem dX5_moveWaiters_7 : decode cX5_moveWaiters 7 = .ok (.astore_n 3, 1) := by decide +kernel
theorem dX5_moveWaiters_8 : decode cX5_moveWaiters 8 = .ok (.aload_n 3, 1) := by decide +kernel
theorem dX5_moveWaiters_9 : decode cX5_moveWaiters 9 = .ok (.arraylength, 1) := by decide +kernel
theorem dX5_moveWaiters_10 : decode cX5_moveWaiters 10 = .ok (.istore 4, 2) := by decide +kernel
theorem dX5_moveWaiters_12 : decode cX5_moveWaiters 12 = .ok (.iconst 0, 1) := by decide +kernel
theorem dX5_moveWaiters_13 : decode cX5_moveWaiters 13 = .ok (.istore 5, 2) := by decide +kernel
theorem dX5_moveWaiters_15 : decode cX5_moveWaiters 15 = .ok (.iload 5, 2) := by decide +kernel
theorem dX5_moveWaiters_17 : decode cX5_moveWaiters 17 = .ok (.iload 4, 2) := by decide +kernel
theorem dX5_moveWaiters_19 : decode cX5_moveWaiters 19 = .ok (.if_icmp .ge 51, 3) := by decide +kernel
theorem dX5_moveWaiters_22 : decode cX5_moveWaiters 22 = .ok (.aload_n 3, 1) := by decide +kernel
theorem dX5_moveWaiters_23 : decode cX5_moveWaiters 23 = .ok (.iload 5, 2) := by decide +kernel
theorem dX5_moveWaiters_25 : decode cX5_moveWaiters 25 = .ok (.aaload, 1) := by decide +kernel
theorem dX5_moveWaiters_26 : decode cX5_moveWaiters 26 = .ok (.astore 6, 2) := by decide +kernel
theorem dX5_moveWaiters_28 : decode cX5_moveWaiters 28 = .ok (.aload 6, 2) := by decide +kernel
theorem dX5_moveWaiters_30 : decode cX5_moveWaiters 30 = .ok (.ifnull 34, 3) := by decide +kernel
theorem dX5_moveWaiters_33 : decode cX5_moveWaiters 33 = .ok (.aload_n 2, 1) := by decide +kernel
theorem dX5_moveWaiters_34 : decode cX5_moveWaiters 34 = .ok (.getfield 235, 3) := by decide +kernel
theorem dX5_moveWaiters_37 : decode cX5_moveWaiters 37 = .ok (.aload 6, 2) := by decide +kernel
theorem dX5_moveWaiters_39 : decode cX5_moveWaiters 39 = .ok (.invokevirtual 239, 3) := by decide +kernel
theorem dX5_moveWaiters_42 : decode cX5_moveWaiters 42 = .ok (.ifCond .ne 22, 3) := by decide +kernel
theorem dX5_moveWaiters_45 : decode cX5_moveWaiters 45 = .ok (.aload_n 0, 1) := by decide +kernel
theorem dX5_moveWaiters_46 : decode cX5_moveWaiters 46 = .ok (.aload 6, 2) := by decide +kernel
theorem dX5_moveWaiters_48 : decode cX5_moveWaiters 48 = .ok (.aload_n 2, 1) := by decide +kernel
theorem dX5_moveWaiters_49 : decode cX5_moveWaiters 49 = .ok (.invokevirtual 245, 3) := by decide +kernel
theorem dX5_moveWaiters_52 : decode cX5_moveWaiters 52 = .ok (.ifCond .ne 12, 3) := by decide +kernel
theorem dX5_moveWaiters_55 : decode cX5_moveWaiters 55 = .ok (.aload_n 2, 1) := by decide +kernel
theorem dX5_moveWaiters_56 : decode cX5_moveWaiters 56 = .ok (.getfield 235, 3) := by decide +kernel
theorem dX5_moveWaiters_59 : decode cX5_moveWaiters 59 = .ok (.aload 6, 2) := by decide +kernel
theorem dX5_moveWaiters_61 : decode cX5_moveWaiters 61 = .ok (.invokevirtual 251, 3) := by decide +kernel
theorem dX5_moveWaiters_64 : decode cX5_moveWaiters 64 = .ok (.iinc 5 1, 3) := by decide +kernel
theorem dX5_moveWaiters_67 : decode cX5_moveWaiters 67 = .ok (.goto (-52), 3) := by decide +kernel
theorem dX5_moveWaiters_70 : decode cX5_moveWaiters 70 = .ok (.aload_n 1, 1) := by decide +kernel
theorem dX5_moveWaiters_71 : decode cX5_moveWaiters 71 = .ok (.getfield 235, 3) := by decide +kernel
theorem dX5_moveWaiters_74 : decode cX5_moveWaiters 74 = .ok (.invokevirtual 382, 3) := by decide +kernel
theorem dX5_moveWaiters_77 : decode cX5_moveWaiters 77 = .ok (.return_, 1) := by decide +kernel
theorem dX5_freeThoseWronglyAside_0 : decode cX5_freeThoseWronglyAside 0 = .ok (.aload_n 0, 1) := by decide +kernel
theorem dX5_freeThoseWronglyAside_1 : decode cX5_freeThoseWronglyAside 1 = .ok (.getfield 23, 3) := by decide +kernel
theorem dX5_freeThoseWronglyAside_4 : decode cX5_freeThoseWronglyAside 4 = .ok (.astore_n 1, 1) := by decide +kernel
theorem dX5_freeThoseWronglyAside_5 : decode cX5_freeThoseWronglyAside 5 = .ok (.aload_n 1, 1) := by decide +kernel
theorem dX5_freeThoseWronglyAside_6 : decode cX5_freeThoseWronglyAside 6 = .ok (.arraylength, 1) := by decide +kernel
theorem dX5_freeThoseWronglyAside_7 : decode cX5_freeThoseWronglyAside 7 = .ok (.istore_n 2, 1) := by decide +kernel
theorem dX5_freeThoseWronglyAside_8 : decode cX5_freeThoseWronglyAside 8 = .ok (.iconst 0, 1) := by decide +kernel
theorem dX5_freeThoseWronglyAside_9 : decode cX5_freeThoseWronglyAside 9 = .ok (.istore_n 3, 1) := by decide +kernel
theorem dX5_freeThoseWronglyAside_10 : decode cX5_freeThoseWronglyAside 10 = .ok (.iload_n 3, 1) := by decide +kernel
theorem dX5_freeThoseWronglyAside_11 : decode cX5_freeThoseWronglyAside 11 = .ok (.iload_n 2, 1) := by decide +kernel
theorem dX5_freeThoseWronglyAside_12 : decode cX5_freeThoseWronglyAside 12 = .ok (.if_icmp .ge 43, 3) := by decide +kernel
theorem dX5_freeThoseWronglyAside_15 : decode cX5_freeThoseWronglyAside 15 = .ok (.aload_n 1, 1) := by decide +kernel
theorem dX5_freeThoseWronglyAside_16 : decode cX5_freeThoseWronglyAside 16 = .ok (.iload_n 3, 1) := by decide +kernel
theorem dX5_freeThoseWronglyAside_17 : decode cX5_freeThoseWronglyAside 17 = .ok (.aaload, 1) := by decide +kernel
theorem dX5_freeThoseWronglyAside_18 : decode cX5_freeThoseWronglyAside 18 = .ok (.astore 4, 2) := by decide +kernel
theorem dX5_freeThoseWronglyAside_20 : decode cX5_freeThoseWronglyAside 20 = .ok (.aload 4, 2) := by decide +kernel
theorem dX5_freeThoseWronglyAside_22 : decode cX5_freeThoseWronglyAside 22 = .ok (.ifnull 27, 3) := by decide +kernel
theorem dX5_freeThoseWronglyAside_25 : decode cX5_freeThoseWronglyAside 25 = .ok (.aload 4, 2) := by decide +kernel
theorem dX5_freeThoseWronglyAside_27 : decode cX5_freeThoseWronglyAside 27 = .ok (.getfield 215, 3) := by decide +kernel
theorem dX5_freeThoseWronglyAside_30 : decode cX5_freeThoseWronglyAside 30 = .ok (.iconst 2, 1) := by decide +kernel
theorem dX5_freeThoseWronglyAside_31 : decode cX5_freeThoseWronglyAside 31 = .ok (.if_icmp .ne 18, 3) := by decide +kernel
theorem dX5_freeThoseWronglyAside_34 : decode cX5_freeThoseWronglyAside 34 = .ok (.aload_n 0, 1) := by decide +kernel
theorem dX5_freeThoseWronglyAside_35 : decode cX5_freeThoseWronglyAside 35 = .ok (.aload 4, 2) := by decide +kernel
theorem dX5_freeThoseWronglyAside_37 : decode cX5_freeThoseWronglyAside 37 = .ok (.invokevirtual 385, 3) := by decide +kernel
theorem dX5_freeThoseWronglyAside_40 : decode cX5_freeThoseWronglyAside 40 = .ok (.ifCond .ne 9, 3) := by decide +kernel
theorem dX5_freeThoseWronglyAside_43 : decode cX5_freeThoseWronglyAside 43 = .ok (.aload_n 0, 1) := by decide +kernel
theorem dX5_freeThoseWronglyAside_44 : decode cX5_freeThoseWronglyAside 44 = .ok (.aload 4, 2) := by decide +kernel
theorem dX5_freeThoseWronglyAside_46 : decode cX5_freeThoseWronglyAside 46 = .ok (.invokevirtual 144, 3) := by decide +kernel
theorem dX5_freeThoseWronglyAside_49 : decode cX5_freeThoseWronglyAside 49 = .ok (.iinc 3 1, 3) := by decide +kernel
theorem dX5_freeThoseWronglyAside_52 : decode cX5_freeThoseWronglyAside 52 = .ok (.goto (-42), 3) := by decide +kernel
theorem dX5_freeThoseWronglyAside_55 : decode cX5_freeThoseWronglyAside 55 = .ok (.return_, 1) := by decide +kernel
theorem dX5_isRightlyAside_0 : decode cX5_isRightlyAside 0 = .ok (.aload_n 1, 1) := by decide +kernel
theorem dX5_isRightlyAside_1 : decode cX5_isRightlyAside 1 = .ok (.getfield 192, 3) := by decide +kernel
theorem dX5_isRightlyAside_4 : decode cX5_isRightlyAside 4 = .ok (.getfield 235, 3) := by decide +kernel
theorem dX5_isRightlyAside_7 : decode cX5_isRightlyAside 7 = .ok (.aload_n 1, 1) := by decide +kernel
theorem dX5_isRightlyAside_8 : decode cX5_isRightlyAside 8 = .ok (.getfield 202, 3) := by decide +kernel
theorem dX5_isRightlyAside_11 : decode cX5_isRightlyAside 11 = .ok (.invokevirtual 239, 3) := by decide +kernel
theorem dX5_isRightlyAside_14 : decode cX5_isRightlyAside 14 = .ok (.ifCond .eq 23, 3) := by decide +kernel
theorem dX5_isRightlyAside_17 : decode cX5_isRightlyAside 17 = .ok (.aload_n 0, 1) := by decide +kernel
theorem dX5_isRightlyAside_18 : decode cX5_isRightlyAside 18 = .ok (.aload_n 1, 1) := by decide +kernel
theorem dX5_isRightlyAside_19 : decode cX5_isRightlyAside 19 = .ok (.getfield 202, 3) := by decide +kernel
theorem dX5_isRightlyAside_22 : decode cX5_isRightlyAside 22 = .ok (.aload_n 1, 1) := by decide +kernel
theorem dX5_isRightlyAside_23 : decode cX5_isRightlyAside 23 = .ok (.getfield 192, 3) := by decide +kernel
theorem dX5_isRightlyAside_26 : decode cX5_isRightlyAside 26 = .ok (.invokevirtual 286, 3) := by decide +kernel
theorem dX5_isRightlyAside_29 : decode cX5_isRightlyAside 29 = .ok (.aload_n 1, 1) := by decide +kernel
theorem dX5_isRightlyAside_30 : decode cX5_isRightlyAside 30 = .ok (.if_acmp .ne 7, 3) := by decide +kernel
theorem dX5_isRightlyAside_33 : decode cX5_isRightlyAside 33 = .ok (.iconst 1, 1) := by decide +kernel
theorem dX5_isRightlyAside_34 : decode cX5_isRightlyAside 34 = .ok (.goto 4, 3) := by decide +kernel
theorem dX5_isRightlyAside_37 : decode cX5_isRightlyAside 37 = .ok (.iconst 0, 1) := by decide +kernel
theorem dX5_isRightlyAside_38 : decode cX5_isRightlyAside 38 = .ok (.ireturn, 1) := by decide +kernel
theorem dX5_freeThoseIn_0 : decode cX5_freeThoseIn 0 = .ok (.aload_n 0, 1) := by decide +kernel
theorem dX5_freeThoseIn_1 : decode cX5_freeThoseIn 1 = .ok (.getfield 23, 3) := by decide +kernel
theorem dX5_freeThoseIn_4 : decode cX5_freeThoseIn 4 = .ok (.astore_n 1, 1) := by decide +kernel
theorem dX5_freeThoseIn_5 : decode cX5_freeThoseIn 5 = .ok (.aload_n 1, 1) := by decide +kernel
theorem dX5_freeThoseIn_6 : decode cX5_freeThoseIn 6 = .ok (.arraylength, 1) := by decide +kernel
theorem dX5_freeThoseIn_7 : decode cX5_freeThoseIn 7 = .ok (.istore_n 2, 1) := by decide +kernel
theorem dX5_freeThoseIn_8 : decode cX5_freeThoseIn 8 = .ok (.iconst 0, 1) := by decide +kernel
theorem dX5_freeThoseIn_9 : decode cX5_freeThoseIn 9 = .ok (.istore_n 3, 1) := by decide +kernel
theorem dX5_freeThoseIn_10 : decode cX5_freeThoseIn 10 = .ok (.iload_n 3, 1) := by decide +kernel
theorem dX5_freeThoseIn_11 : decode cX5_freeThoseIn 11 = .ok (.iload_n 2, 1) := by decide +kernel
theorem dX5_freeThoseIn_12 : decode cX5_freeThoseIn 12 = .ok (.if_icmp .ge 33, 3) := by decide +kernel
theorem dX5_freeThoseIn_15 : decode cX5_freeThoseIn 15 = .ok (.aload_n 1, 1) := by decide +kernel
theorem dX5_freeThoseIn_16 : decode cX5_freeThoseIn 16 = .ok (.iload_n 3, 1) := by decide +kernel
theorem dX5_freeThoseIn_17 : decode cX5_freeThoseIn 17 = .ok (.aaload, 1) := by decide +kernel
theorem dX5_freeThoseIn_18 : decode cX5_freeThoseIn 18 = .ok (.astore 4, 2) := by decide +kernel
theorem dX5_freeThoseIn_20 : decode cX5_freeThoseIn 20 = .ok (.aload 4, 2) := by decide +kernel
theorem dX5_freeThoseIn_22 : decode cX5_freeThoseIn 22 = .ok (.ifnull 17, 3) := by decide +kernel
theorem dX5_freeThoseIn_25 : decode cX5_freeThoseIn 25 = .ok (.aload 4, 2) := by decide +kernel
theorem dX5_freeThoseIn_27 : decode cX5_freeThoseIn 27 = .ok (.getfield 215, 3) := by decide +kernel
theorem dX5_freeThoseIn_30 : decode cX5_freeThoseIn 30 = .ok (.ifCond .ne 9, 3) := by decide +kernel
theorem dX5_freeThoseIn_33 : decode cX5_freeThoseIn 33 = .ok (.aload_n 0, 1) := by decide +kernel
theorem dX5_freeThoseIn_34 : decode cX5_freeThoseIn 34 = .ok (.aload 4, 2) := by decide +kernel
theorem dX5_freeThoseIn_36 : decode cX5_freeThoseIn 36 = .ok (.invokevirtual 144, 3) := by decide +kernel
theorem dX5_freeThoseIn_39 : decode cX5_freeThoseIn 39 = .ok (.iinc 3 1, 3) := by decide +kernel
theorem dX5_freeThoseIn_42 : decode cX5_freeThoseIn 42 = .ok (.goto (-32), 3) := by decide +kernel
theorem dX5_freeThoseIn_45 : decode cX5_freeThoseIn 45 = .ok (.return_, 1) := by decide +kernel
theorem dX5_passOneDay_0 : decode cX5_passOneDay 0 = .ok (.aload_n 0, 1) := by decide +kernel
theorem dX5_passOneDay_1 : decode cX5_passOneDay 1 = .ok (.dup, 1) := by decide +kernel
theorem dX5_passOneDay_2 : decode cX5_passOneDay 2 = .ok (.getfield 181, 3) := by decide +kernel
theorem dX5_passOneDay_5 : decode cX5_passOneDay 5 = .ok (.iconst 1, 1) := by decide +kernel
theorem dX5_passOneDay_6 : decode cX5_passOneDay 6 = .ok (.iadd, 1) := by decide +kernel
theorem dX5_passOneDay_7 : decode cX5_passOneDay 7 = .ok (.putfield 181, 3) := by decide +kernel
theorem dX5_passOneDay_10 : decode cX5_passOneDay 10 = .ok (.iconst 0, 1) := by decide +kernel
theorem dX5_passOneDay_11 : decode cX5_passOneDay 11 = .ok (.istore_n 1, 1) := by decide +kernel
theorem dX5_passOneDay_12 : decode cX5_passOneDay 12 = .ok (.aload_n 0, 1) := by decide +kernel
theorem dX5_passOneDay_13 : decode cX5_passOneDay 13 = .ok (.getfield 23, 3) := by decide +kernel
theorem dX5_passOneDay_16 : decode cX5_passOneDay 16 = .ok (.astore_n 2, 1) := by decide +kernel
theorem dX5_passOneDay_17 : decode cX5_passOneDay 17 = .ok (.aload_n 2, 1) := by decide +kernel
theorem dX5_passOneDay_18 : decode cX5_passOneDay 18 = .ok (.arraylength, 1) := by decide +kernel
theorem dX5_passOneDay_19 : decode cX5_passOneDay 19 = .ok (.istore_n 3, 1) := by decide +kernel
theorem dX5_passOneDay_20 : decode cX5_passOneDay 20 = .ok (.iconst 0, 1) := by decide +kernel
theorem dX5_passOneDay_21 : decode cX5_passOneDay 21 = .ok (.istore 4, 2) := by decide +kernel
theorem dX5_passOneDay_23 : decode cX5_passOneDay 23 = .ok (.iload 4, 2) := by decide +kernel
theorem dX5_passOneDay_25 : decode cX5_passOneDay 25 = .ok (.iload_n 3, 1) := by decide +kernel
theorem dX5_passOneDay_26 : decode cX5_passOneDay 26 = .ok (.if_icmp .ge 84, 3) := by decide +kernel
theorem dX5_passOneDay_29 : decode cX5_passOneDay 29 = .ok (.aload_n 2, 1) := by decide +kernel
theorem dX5_passOneDay_30 : decode cX5_passOneDay 30 = .ok (.iload 4, 2) := by decide +kernel
theorem dX5_passOneDay_32 : decode cX5_passOneDay 32 = .ok (.aaload, 1) := by decide +kernel
theorem dX5_passOneDay_33 : decode cX5_passOneDay 33 = .ok (.astore 5, 2) := by decide +kernel
theorem dX5_passOneDay_35 : decode cX5_passOneDay 35 = .ok (.aload 5, 2) := by decide +kernel
theorem dX5_passOneDay_37 : decode cX5_passOneDay 37 = .ok (.ifnull 41, 3) := by decide +kernel
theorem dX5_passOneDay_40 : decode cX5_passOneDay 40 = .ok (.aload 5, 2) := by decide +kernel
theorem dX5_passOneDay_42 : decode cX5_passOneDay 42 = .ok (.getfield 215, 3) := by decide +kernel
theorem dX5_passOneDay_45 : decode cX5_passOneDay 45 = .ok (.iconst 2, 1) := by decide +kernel
theorem dX5_passOneDay_46 : decode cX5_passOneDay 46 = .ok (.if_icmp .ne 32, 3) := by decide +kernel
theorem dX5_passOneDay_49 : decode cX5_passOneDay 49 = .ok (.aload 5, 2) := by decide +kernel
theorem dX5_passOneDay_51 : decode cX5_passOneDay 51 = .ok (.getfield 199, 3) := by decide +kernel
theorem dX5_passOneDay_54 : decode cX5_passOneDay 54 = .ok (.aload_n 0, 1) := by decide +kernel
theorem dX5_passOneDay_55 : decode cX5_passOneDay 55 = .ok (.getfield 181, 3) := by decide +kernel
theorem dX5_passOneDay_58 : decode cX5_passOneDay 58 = .ok (.if_icmp .ge 20, 3) := by decide +kernel
theorem dX5_passOneDay_61 : decode cX5_passOneDay 61 = .ok (.aload_n 0, 1) := by decide +kernel
theorem dX5_passOneDay_62 : decode cX5_passOneDay 62 = .ok (.aload 5, 2) := by decide +kernel
theorem dX5_passOneDay_64 : decode cX5_passOneDay 64 = .ok (.getfield 202, 3) := by decide +kernel
theorem dX5_passOneDay_67 : decode cX5_passOneDay 67 = .ok (.aload 5, 2) := by decide +kernel
theorem dX5_passOneDay_69 : decode cX5_passOneDay 69 = .ok (.getfield 192, 3) := by decide +kernel
theorem dX5_passOneDay_72 : decode cX5_passOneDay 72 = .ok (.invokevirtual 195, 3) := by decide +kernel
theorem dX5_passOneDay_75 : decode cX5_passOneDay 75 = .ok (.goto 29, 3) := by decide +kernel
theorem dX5_passOneDay_78 : decode cX5_passOneDay 78 = .ok (.aload 5, 2) := by decide +kernel
theorem dX5_passOneDay_80 : decode cX5_passOneDay 80 = .ok (.ifnull 24, 3) := by decide +kernel
theorem dX5_passOneDay_83 : decode cX5_passOneDay 83 = .ok (.aload 5, 2) := by decide +kernel
theorem dX5_passOneDay_85 : decode cX5_passOneDay 85 = .ok (.aload_n 0, 1) := by decide +kernel
theorem dX5_passOneDay_86 : decode cX5_passOneDay 86 = .ok (.getfield 181, 3) := by decide +kernel
theorem dX5_passOneDay_89 : decode cX5_passOneDay 89 = .ok (.invokevirtual 280, 3) := by decide +kernel
theorem dX5_passOneDay_92 : decode cX5_passOneDay 92 = .ok (.ifCond .eq 12, 3) := by decide +kernel
theorem dX5_passOneDay_95 : decode cX5_passOneDay 95 = .ok (.aload_n 0, 1) := by decide +kernel
theorem dX5_passOneDay_96 : decode cX5_passOneDay 96 = .ok (.aload 5, 2) := by decide +kernel
theorem dX5_passOneDay_98 : decode cX5_passOneDay 98 = .ok (.invokevirtual 388, 3) := by decide +kernel
theorem dX5_passOneDay_101 : decode cX5_passOneDay 101 = .ok (.iinc 1 1, 3) := by decide +kernel
theorem dX5_passOneDay_104 : decode cX5_passOneDay 104 = .ok (.iinc 4 1, 3) := by decide +kernel
theorem dX5_passOneDay_107 : decode cX5_passOneDay 107 = .ok (.goto (-84), 3) := by decide +kernel
theorem dX5_passOneDay_110 : decode cX5_passOneDay 110 = .ok (.iload_n 1, 1) := by decide +kernel
theorem dX5_passOneDay_111 : decode cX5_passOneDay 111 = .ok (.ireturn, 1) := by decide +kernel
theorem dX5_lose_0 : decode cX5_lose 0 = .ok (.aload_n 1, 1) := by decide +kernel
theorem dX5_lose_1 : decode cX5_lose 1 = .ok (.getfield 202, 3) := by decide +kernel
theorem dX5_lose_4 : decode cX5_lose 4 = .ok (.astore_n 2, 1) := by decide +kernel
theorem dX5_lose_5 : decode cX5_lose 5 = .ok (.aload_n 2, 1) := by decide +kernel
theorem dX5_lose_6 : decode cX5_lose 6 = .ok (.ifnull 16, 3) := by decide +kernel
theorem dX5_lose_9 : decode cX5_lose 9 = .ok (.aload_n 2, 1) := by decide +kernel
theorem dX5_lose_10 : decode cX5_lose 10 = .ok (.dup, 1) := by decide +kernel
theorem dX5_lose_11 : decode cX5_lose 11 = .ok (.getfield 172, 3) := by decide +kernel
theorem dX5_lose_14 : decode cX5_lose 14 = .ok (.aload_n 1, 1) := by decide +kernel
theorem dX5_lose_15 : decode cX5_lose 15 = .ok (.invokevirtual 283, 3) := by decide +kernel
theorem dX5_lose_18 : decode cX5_lose 18 = .ok (.iadd, 1) := by decide +kernel
theorem dX5_lose_19 : decode cX5_lose 19 = .ok (.putfield 172, 3) := by decide +kernel
theorem dX5_lose_22 : decode cX5_lose 22 = .ok (.aload_n 1, 1) := by decide +kernel
theorem dX5_lose_23 : decode cX5_lose 23 = .ok (.iconst 3, 1) := by decide +kernel
theorem dX5_lose_24 : decode cX5_lose 24 = .ok (.aload_n 2, 1) := by decide +kernel
theorem dX5_lose_25 : decode cX5_lose 25 = .ok (.iconst (-1), 1) := by decide +kernel
theorem dX5_lose_26 : decode cX5_lose 26 = .ok (.invokevirtual 188, 3) := by decide +kernel
theorem dX5_lose_29 : decode cX5_lose 29 = .ok (.return_, 1) := by decide +kernel
theorem dX5_lostWithin_0 : decode cX5_lostWithin 0 = .ok (.iconst 0, 1) := by decide +kernel
theorem dX5_lostWithin_1 : decode cX5_lostWithin 1 = .ok (.istore_n 2, 1) := by decide +kernel
theorem dX5_lostWithin_2 : decode cX5_lostWithin 2 = .ok (.aload_n 0, 1) := by decide +kernel
theorem dX5_lostWithin_3 : decode cX5_lostWithin 3 = .ok (.getfield 23, 3) := by decide +kernel
theorem dX5_lostWithin_6 : decode cX5_lostWithin 6 = .ok (.astore_n 3, 1) := by decide +kernel
theorem dX5_lostWithin_7 : decode cX5_lostWithin 7 = .ok (.aload_n 3, 1) := by decide +kernel
theorem dX5_lostWithin_8 : decode cX5_lostWithin 8 = .ok (.arraylength, 1) := by decide +kernel
theorem dX5_lostWithin_9 : decode cX5_lostWithin 9 = .ok (.istore 4, 2) := by decide +kernel
theorem dX5_lostWithin_11 : decode cX5_lostWithin 11 = .ok (.iconst 0, 1) := by decide +kernel
theorem dX5_lostWithin_12 : decode cX5_lostWithin 12 = .ok (.istore 5, 2) := by decide +kernel
theorem dX5_lostWithin_14 : decode cX5_lostWithin 14 = .ok (.iload 5, 2) := by decide +kernel
theorem dX5_lostWithin_16 : decode cX5_lostWithin 16 = .ok (.iload 4, 2) := by decide +kernel
theorem dX5_lostWithin_18 : decode cX5_lostWithin 18 = .ok (.if_icmp .ge 37, 3) := by decide +kernel
theorem dX5_lostWithin_21 : decode cX5_lostWithin 21 = .ok (.aload_n 3, 1) := by decide +kernel
theorem dX5_lostWithin_22 : decode cX5_lostWithin 22 = .ok (.iload 5, 2) := by decide +kernel
theorem dX5_lostWithin_24 : decode cX5_lostWithin 24 = .ok (.aaload, 1) := by decide +kernel
theorem dX5_lostWithin_25 : decode cX5_lostWithin 25 = .ok (.astore 6, 2) := by decide +kernel
theorem dX5_lostWithin_27 : decode cX5_lostWithin 27 = .ok (.aload 6, 2) := by decide +kernel
theorem dX5_lostWithin_29 : decode cX5_lostWithin 29 = .ok (.ifnull 20, 3) := by decide +kernel
theorem dX5_lostWithin_32 : decode cX5_lostWithin 32 = .ok (.aload 6, 2) := by decide +kernel
theorem dX5_lostWithin_34 : decode cX5_lostWithin 34 = .ok (.aload_n 0, 1) := by decide +kernel
theorem dX5_lostWithin_35 : decode cX5_lostWithin 35 = .ok (.getfield 181, 3) := by decide +kernel
theorem dX5_lostWithin_38 : decode cX5_lostWithin 38 = .ok (.iload_n 1, 1) := by decide +kernel
theorem dX5_lostWithin_39 : decode cX5_lostWithin 39 = .ok (.iadd, 1) := by decide +kernel
theorem dX5_lostWithin_40 : decode cX5_lostWithin 40 = .ok (.invokevirtual 280, 3) := by decide +kernel
theorem dX5_lostWithin_43 : decode cX5_lostWithin 43 = .ok (.ifCond .eq 6, 3) := by decide +kernel
theorem dX5_lostWithin_46 : decode cX5_lostWithin 46 = .ok (.iinc 2 1, 3) := by decide +kernel
theorem dX5_lostWithin_49 : decode cX5_lostWithin 49 = .ok (.iinc 5 1, 3) := by decide +kernel
theorem dX5_lostWithin_52 : decode cX5_lostWithin 52 = .ok (.goto (-38), 3) := by decide +kernel
theorem dX5_lostWithin_55 : decode cX5_lostWithin 55 = .ok (.iload_n 2, 1) := by decide +kernel
theorem dX5_lostWithin_56 : decode cX5_lostWithin 56 = .ok (.ireturn, 1) := by decide +kernel
theorem dX5_daysUntilServed_0 : decode cX5_daysUntilServed 0 = .ok (.aload_n 0, 1) := by decide +kernel
theorem dX5_daysUntilServed_1 : decode cX5_daysUntilServed 1 = .ok (.aload_n 2, 1) := by decide +kernel
theorem dX5_daysUntilServed_2 : decode cX5_daysUntilServed 2 = .ok (.invokevirtual 391, 3) := by decide +kernel
theorem dX5_daysUntilServed_5 : decode cX5_daysUntilServed 5 = .ok (.aload_n 2, 1) := by decide +kernel
theorem dX5_daysUntilServed_6 : decode cX5_daysUntilServed 6 = .ok (.getfield 235, 3) := by decide +kernel
theorem dX5_daysUntilServed_9 : decode cX5_daysUntilServed 9 = .ok (.getfield 378, 3) := by decide +kernel
theorem dX5_daysUntilServed_12 : decode cX5_daysUntilServed 12 = .ok (.astore_n 3, 1) := by decide +kernel
theorem dX5_daysUntilServed_13 : decode cX5_daysUntilServed 13 = .ok (.aload_n 3, 1) := by decide +kernel
theorem dX5_daysUntilServed_14 : decode cX5_daysUntilServed 14 = .ok (.arraylength, 1) := by decide +kernel
theorem dX5_daysUntilServed_15 : decode cX5_daysUntilServed 15 = .ok (.istore 4, 2) := by decide +kernel
theorem dX5_daysUntilServed_17 : decode cX5_daysUntilServed 17 = .ok (.iconst 0, 1) := by decide +kernel
theorem dX5_daysUntilServed_18 : decode cX5_daysUntilServed 18 = .ok (.istore 5, 2) := by decide +kernel
theorem dX5_daysUntilServed_20 : decode cX5_daysUntilServed 20 = .ok (.iload 5, 2) := by decide +kernel
theorem dX5_daysUntilServed_22 : decode cX5_daysUntilServed 22 = .ok (.iload 4, 2) := by decide +kernel
theorem dX5_daysUntilServed_24 : decode cX5_daysUntilServed 24 = .ok (.if_icmp .ge 71, 3) := by decide +kernel
theorem dX5_daysUntilServed_27 : decode cX5_daysUntilServed 27 = .ok (.aload_n 3, 1) := by decide +kernel
theorem dX5_daysUntilServed_28 : decode cX5_daysUntilServed 28 = .ok (.iload 5, 2) := by decide +kernel
theorem dX5_daysUntilServed_30 : decode cX5_daysUntilServed 30 = .ok (.aaload, 1) := by decide +kernel
theorem dX5_daysUntilServed_31 : decode cX5_daysUntilServed 31 = .ok (.astore 6, 2) := by decide +kernel
theorem dX5_daysUntilServed_33 : decode cX5_daysUntilServed 33 = .ok (.aload 6, 2) := by decide +kernel
theorem dX5_daysUntilServed_35 : decode cX5_daysUntilServed 35 = .ok (.ifnull 54, 3) := by decide +kernel
theorem dX5_daysUntilServed_38 : decode cX5_daysUntilServed 38 = .ok (.aload_n 0, 1) := by decide +kernel
theorem dX5_daysUntilServed_39 : decode cX5_daysUntilServed 39 = .ok (.aload 6, 2) := by decide +kernel
theorem dX5_daysUntilServed_41 : decode cX5_daysUntilServed 41 = .ok (.aload_n 2, 1) := by decide +kernel
theorem dX5_daysUntilServed_42 : decode cX5_daysUntilServed 42 = .ok (.invokevirtual 286, 3) := by decide +kernel
theorem dX5_daysUntilServed_45 : decode cX5_daysUntilServed 45 = .ok (.ifnonnull 44, 3) := by decide +kernel
theorem dX5_daysUntilServed_48 : decode cX5_daysUntilServed 48 = .ok (.aload_n 0, 1) := by decide +kernel
theorem dX5_daysUntilServed_49 : decode cX5_daysUntilServed 49 = .ok (.aload_n 2, 1) := by decide +kernel
theorem dX5_daysUntilServed_50 : decode cX5_daysUntilServed 50 = .ok (.invokevirtual 395, 3) := by decide +kernel
theorem dX5_daysUntilServed_53 : decode cX5_daysUntilServed 53 = .ok (.astore 7, 2) := by decide +kernel
theorem dX5_daysUntilServed_55 : decode cX5_daysUntilServed 55 = .ok (.aload 7, 2) := by decide +kernel
theorem dX5_daysUntilServed_57 : decode cX5_daysUntilServed 57 = .ok (.ifnonnull 5, 3) := by decide +kernel
theorem dX5_daysUntilServed_60 : decode cX5_daysUntilServed 60 = .ok (.iconst (-1), 1) := by decide +kernel
theorem dX5_daysUntilServed_61 : decode cX5_daysUntilServed 61 = .ok (.ireturn, 1) := by decide +kernel
theorem dX5_daysUntilServed_62 : decode cX5_daysUntilServed 62 = .ok (.aload 6, 2) := by decide +kernel
theorem dX5_daysUntilServed_64 : decode cX5_daysUntilServed 64 = .ok (.aload_n 1, 1) := by decide +kernel
theorem dX5_daysUntilServed_65 : decode cX5_daysUntilServed 65 = .ok (.if_acmp .ne 9, 3) := by decide +kernel
theorem dX5_daysUntilServed_68 : decode cX5_daysUntilServed 68 = .ok (.aload 7, 2) := by decide +kernel
theorem dX5_daysUntilServed_70 : decode cX5_daysUntilServed 70 = .ok (.getfield 398, 3) := by decide +kernel
theorem dX5_daysUntilServed_73 : decode cX5_daysUntilServed 73 = .ok (.ireturn, 1) := by decide +kernel
theorem dX5_daysUntilServed_74 : decode cX5_daysUntilServed 74 = .ok (.aload 7, 2) := by decide +kernel
theorem dX5_daysUntilServed_76 : decode cX5_daysUntilServed 76 = .ok (.dup, 1) := by decide +kernel
theorem dX5_daysUntilServed_77 : decode cX5_daysUntilServed 77 = .ok (.getfield 398, 3) := by decide +kernel
theorem dX5_daysUntilServed_80 : decode cX5_daysUntilServed 80 = .ok (.aload 6, 2) := by decide +kernel
theorem dX5_daysUntilServed_82 : decode cX5_daysUntilServed 82 = .ok (.invokevirtual 184, 3) := by decide +kernel
theorem dX5_daysUntilServed_85 : decode cX5_daysUntilServed 85 = .ok (.iadd, 1) := by decide +kernel
theorem dX5_daysUntilServed_86 : decode cX5_daysUntilServed 86 = .ok (.putfield 398, 3) := by decide +kernel
theorem dX5_daysUntilServed_89 : decode cX5_daysUntilServed 89 = .ok (.iinc 5 1, 3) := by decide +kernel
theorem dX5_daysUntilServed_92 : decode cX5_daysUntilServed 92 = .ok (.goto (-72), 3) := by decide +kernel
theorem dX5_daysUntilServed_95 : decode cX5_daysUntilServed 95 = .ok (.iconst (-1), 1) := by decide +kernel
theorem dX5_daysUntilServed_96 : decode cX5_daysUntilServed 96 = .ok (.ireturn, 1) := by decide +kernel
theorem dX5_reckonWhenThere_0 : decode cX5_reckonWhenThere 0 = .ok (.aload_n 0, 1) := by decide +kernel
theorem dX5_reckonWhenThere_1 : decode cX5_reckonWhenThere 1 = .ok (.getfield 23, 3) := by decide +kernel
theorem dX5_reckonWhenThere_4 : decode cX5_reckonWhenThere 4 = .ok (.astore_n 2, 1) := by decide +kernel
theorem dX5_reckonWhenThere_5 : decode cX5_reckonWhenThere 5 = .ok (.aload_n 2, 1) := by decide +kernel
theorem dX5_reckonWhenThere_6 : decode cX5_reckonWhenThere 6 = .ok (.arraylength, 1) := by decide +kernel
theorem dX5_reckonWhenThere_7 : decode cX5_reckonWhenThere 7 = .ok (.istore_n 3, 1) := by decide +kernel
theorem dX5_reckonWhenThere_8 : decode cX5_reckonWhenThere 8 = .ok (.iconst 0, 1) := by decide +kernel
theorem dX5_reckonWhenThere_9 : decode cX5_reckonWhenThere 9 = .ok (.istore 4, 2) := by decide +kernel
theorem dX5_reckonWhenThere_11 : decode cX5_reckonWhenThere 11 = .ok (.iload 4, 2) := by decide +kernel
theorem dX5_reckonWhenThere_13 : decode cX5_reckonWhenThere 13 = .ok (.iload_n 3, 1) := by decide +kernel
theorem dX5_reckonWhenThere_14 : decode cX5_reckonWhenThere 14 = .ok (.if_icmp .ge 43, 3) := by decide +kernel
theorem dX5_reckonWhenThere_17 : decode cX5_reckonWhenThere 17 = .ok (.aload_n 2, 1) := by decide +kernel
theorem dX5_reckonWhenThere_18 : decode cX5_reckonWhenThere 18 = .ok (.iload 4, 2) := by decide +kernel
theorem dX5_reckonWhenThere_20 : decode cX5_reckonWhenThere 20 = .ok (.aaload, 1) := by decide +kernel
theorem dX5_reckonWhenThere_21 : decode cX5_reckonWhenThere 21 = .ok (.astore 5, 2) := by decide +kernel
theorem dX5_reckonWhenThere_23 : decode cX5_reckonWhenThere 23 = .ok (.aload 5, 2) := by decide +kernel
theorem dX5_reckonWhenThere_25 : decode cX5_reckonWhenThere 25 = .ok (.ifnull 26, 3) := by decide +kernel
theorem dX5_reckonWhenThere_28 : decode cX5_reckonWhenThere 28 = .ok (.aload 5, 2) := by decide +kernel
theorem dX5_reckonWhenThere_30 : decode cX5_reckonWhenThere 30 = .ok (.getfield 192, 3) := by decide +kernel
theorem dX5_reckonWhenThere_33 : decode cX5_reckonWhenThere 33 = .ok (.aload_n 1, 1) := by decide +kernel
theorem dX5_reckonWhenThere_34 : decode cX5_reckonWhenThere 34 = .ok (.if_acmp .ne 17, 3) := by decide +kernel
theorem dX5_reckonWhenThere_37 : decode cX5_reckonWhenThere 37 = .ok (.aload 5, 2) := by decide +kernel
theorem dX5_reckonWhenThere_39 : decode cX5_reckonWhenThere 39 = .ok (.aload 5, 2) := by decide +kernel
theorem dX5_reckonWhenThere_41 : decode cX5_reckonWhenThere 41 = .ok (.aload_n 0, 1) := by decide +kernel
theorem dX5_reckonWhenThere_42 : decode cX5_reckonWhenThere 42 = .ok (.getfield 181, 3) := by decide +kernel
theorem dX5_reckonWhenThere_45 : decode cX5_reckonWhenThere 45 = .ok (.invokevirtual 401, 3) := by decide +kernel
theorem dX5_reckonWhenThere_48 : decode cX5_reckonWhenThere 48 = .ok (.putfield 398, 3) := by decide +kernel
theorem dX5_reckonWhenThere_51 : decode cX5_reckonWhenThere 51 = .ok (.iinc 4 1, 3) := by decide +kernel
theorem dX5_reckonWhenThere_54 : decode cX5_reckonWhenThere 54 = .ok (.goto (-43), 3) := by decide +kernel
theorem dX5_reckonWhenThere_57 : decode cX5_reckonWhenThere 57 = .ok (.return_, 1) := by decide +kernel
theorem dX5_firstThere_0 : decode cX5_firstThere 0 = .ok (.aconst_null, 1) := by decide +kernel
theorem dX5_firstThere_1 : decode cX5_firstThere 1 = .ok (.astore_n 2, 1) := by decide +kernel
theorem dX5_firstThere_2 : decode cX5_firstThere 2 = .ok (.aload_n 0, 1) := by decide +kernel
theorem dX5_firstThere_3 : decode cX5_firstThere 3 = .ok (.getfield 23, 3) := by decide +kernel
theorem dX5_firstThere_6 : decode cX5_firstThere 6 = .ok (.astore_n 3, 1) := by decide +kernel
theorem dX5_firstThere_7 : decode cX5_firstThere 7 = .ok (.aload_n 3, 1) := by decide +kernel
theorem dX5_firstThere_8 : decode cX5_firstThere 8 = .ok (.arraylength, 1) := by decide +kernel
theorem dX5_firstThere_9 : decode cX5_firstThere 9 = .ok (.istore 4, 2) := by decide +kernel
theorem dX5_firstThere_11 : decode cX5_firstThere 11 = .ok (.iconst 0, 1) := by decide +kernel
theorem dX5_firstThere_12 : decode cX5_firstThere 12 = .ok (.istore 5, 2) := by decide +kernel
theorem dX5_firstThere_14 : decode cX5_firstThere 14 = .ok (.iload 5, 2) := by decide +kernel
theorem dX5_firstThere_16 : decode cX5_firstThere 16 = .ok (.iload 4, 2) := by decide +kernel
theorem dX5_firstThere_18 : decode cX5_firstThere 18 = .ok (.if_icmp .ge 57, 3) := by decide +kernel
theorem dX5_firstThere_21 : decode cX5_firstThere 21 = .ok (.aload_n 3, 1) := by decide +kernel
theorem dX5_firstThere_22 : decode cX5_firstThere 22 = .ok (.iload 5, 2) := by decide +kernel
theorem dX5_firstThere_24 : decode cX5_firstThere 24 = .ok (.aaload, 1) := by decide +kernel
theorem dX5_firstThere_25 : decode cX5_firstThere 25 = .ok (.astore 6, 2) := by decide +kernel
theorem dX5_firstThere_27 : decode cX5_firstThere 27 = .ok (.aload 6, 2) := by decide +kernel
theorem dX5_firstThere_29 : decode cX5_firstThere 29 = .ok (.ifnull 40, 3) := by decide +kernel
theorem dX5_firstThere_32 : decode cX5_firstThere 32 = .ok (.aload 6, 2) := by decide +kernel
theorem dX5_firstThere_34 : decode cX5_firstThere 34 = .ok (.getfield 192, 3) := by decide +kernel
theorem dX5_firstThere_37 : decode cX5_firstThere 37 = .ok (.aload_n 1, 1) := by decide +kernel
theorem dX5_firstThere_38 : decode cX5_firstThere 38 = .ok (.if_acmp .ne 31, 3) := by decide +kernel
theorem dX5_firstThere_41 : decode cX5_firstThere 41 = .ok (.aload 6, 2) := by decide +kernel
theorem dX5_firstThere_43 : decode cX5_firstThere 43 = .ok (.getfield 215, 3) := by decide +kernel
theorem dX5_firstThere_46 : decode cX5_firstThere 46 = .ok (.iconst 3, 1) := by decide +kernel
theorem dX5_firstThere_47 : decode cX5_firstThere 47 = .ok (.if_icmp .eq 22, 3) := by decide +kernel
theorem dX5_firstThere_50 : decode cX5_firstThere 50 = .ok (.aload_n 2, 1) := by decide +kernel
theorem dX5_firstThere_51 : decode cX5_firstThere 51 = .ok (.ifnull 15, 3) := by decide +kernel
theorem dX5_firstThere_54 : decode cX5_firstThere 54 = .ok (.aload 6, 2) := by decide +kernel
theorem dX5_firstThere_56 : decode cX5_firstThere 56 = .ok (.getfield 398, 3) := by decide +kernel
theorem dX5_firstThere_59 : decode cX5_firstThere 59 = .ok (.aload_n 2, 1) := by decide +kernel
theorem dX5_firstThere_60 : decode cX5_firstThere 60 = .ok (.getfield 398, 3) := by decide +kernel
theorem dX5_firstThere_63 : decode cX5_firstThere 63 = .ok (.if_icmp .ge 6, 3) := by decide +kernel
theorem dX5_firstThere_66 : decode cX5_firstThere 66 = .ok (.aload 6, 2) := by decide +kernel
theorem dX5_firstThere_68 : decode cX5_firstThere 68 = .ok (.astore_n 2, 1) := by decide +kernel
theorem dX5_firstThere_69 : decode cX5_firstThere 69 = .ok (.iinc 5 1, 3) := by decide +kernel
theorem dX5_firstThere_72 : decode cX5_firstThere 72 = .ok (.goto (-58), 3) := by decide +kernel
theorem dX5_firstThere_75 : decode cX5_firstThere 75 = .ok (.aload_n 2, 1) := by decide +kernel
theorem dX5_firstThere_76 : decode cX5_firstThere 76 = .ok (.areturn, 1) := by decide +kernel
theorem dX5_digested_0 : decode cX5_digested 0 = .ok (.lload_n 0, 1) := by decide +kernel
theorem dX5_digested_1 : decode cX5_digested 1 = .ok (.ldc2_w 404, 3) := by decide +kernel
theorem dX5_digested_4 : decode cX5_digested 4 = .ok (.lmul, 1) := by decide +kernel
theorem dX5_digested_5 : decode cX5_digested 5 = .ok (.iload_n 2, 1) := by decide +kernel
theorem dX5_digested_6 : decode cX5_digested 6 = .ok (.i2l, 1) := by decide +kernel
theorem dX5_digested_7 : decode cX5_digested 7 = .ok (.ladd, 1) := by decide +kernel
theorem dX5_digested_8 : decode cX5_digested 8 = .ok (.lreturn, 1) := by decide +kernel
theorem dX5_digestedRecord_0 : decode cX5_digestedRecord 0 = .ok (.lload_n 1, 1) := by decide +kernel
theorem dX5_digestedRecord_1 : decode cX5_digestedRecord 1 = .ok (.lstore 4, 2) := by decide +kernel
theorem dX5_digestedRecord_3 : decode cX5_digestedRecord 3 = .ok (.iconst 0, 1) := by decide +kernel
theorem dX5_digestedRecord_4 : decode cX5_digestedRecord 4 = .ok (.istore 6, 2) := by decide +kernel
theorem dX5_digestedRecord_6 : decode cX5_digestedRecord 6 = .ok (.iload 6, 2) := by decide +kernel
theorem dX5_digestedRecord_8 : decode cX5_digestedRecord 8 = .ok (.bipush 6, 2) := by decide +kernel
theorem dX5_digestedRecord_10 : decode cX5_digestedRecord 10 = .ok (.if_icmp .gt 23, 3) := by decide +kernel
theorem dX5_digestedRecord_13 : decode cX5_digestedRecord 13 = .ok (.lload 4, 2) := by decide +kernel
theorem dX5_digestedRecord_15 : decode cX5_digestedRecord 15 = .ok (.aload_n 0, 1) := by decide +kernel
theorem dX5_digestedRecord_16 : decode cX5_digestedRecord 16 = .ok (.aload_n 3, 1) := by decide +kernel
theorem dX5_digestedRecord_17 : decode cX5_digestedRecord 17 = .ok (.iload 6, 2) := by decide +kernel
theorem dX5_digestedRecord_19 : decode cX5_digestedRecord 19 = .ok (.invokevirtual 87, 3) := by decide +kernel
theorem dX5_digestedRecord_22 : decode cX5_digestedRecord 22 = .ok (.invokestatic 303, 3) := by decide +kernel
theorem dX5_digestedRecord_25 : decode cX5_digestedRecord 25 = .ok (.lstore 4, 2) := by decide +kernel
theorem dX5_digestedRecord_27 : decode cX5_digestedRecord 27 = .ok (.iinc 6 1, 3) := by decide +kernel
theorem dX5_digestedRecord_30 : decode cX5_digestedRecord 30 = .ok (.goto (-24), 3) := by decide +kernel
theorem dX5_digestedRecord_33 : decode cX5_digestedRecord 33 = .ok (.aload_n 3, 1) := by decide +kernel
theorem dX5_digestedRecord_34 : decode cX5_digestedRecord 34 = .ok (.invokevirtual 95, 3) := by decide +kernel
theorem dX5_digestedRecord_37 : decode cX5_digestedRecord 37 = .ok (.getfield 235, 3) := by decide +kernel
theorem dX5_digestedRecord_40 : decode cX5_digestedRecord 40 = .ok (.getfield 378, 3) := by decide +kernel
theorem dX5_digestedRecord_43 : decode cX5_digestedRecord 43 = .ok (.astore 6, 2) := by decide +kernel
theorem dX5_digestedRecord_45 : decode cX5_digestedRecord 45 = .ok (.aload 6, 2) := by decide +kernel
theorem dX5_digestedRecord_47 : decode cX5_digestedRecord 47 = .ok (.arraylength, 1) := by decide +kernel
theorem dX5_digestedRecord_48 : decode cX5_digestedRecord 48 = .ok (.istore 7, 2) := by decide +kernel
theorem dX5_digestedRecord_50 : decode cX5_digestedRecord 50 = .ok (.iconst 0, 1) := by decide +kernel
theorem dX5_digestedRecord_51 : decode cX5_digestedRecord 51 = .ok (.istore 8, 2) := by decide +kernel
theorem dX5_digestedRecord_53 : decode cX5_digestedRecord 53 = .ok (.iload 8, 2) := by decide +kernel
theorem dX5_digestedRecord_55 : decode cX5_digestedRecord 55 = .ok (.iload 7, 2) := by decide +kernel
theorem dX5_digestedRecord_57 : decode cX5_digestedRecord 57 = .ok (.if_icmp .ge 33, 3) := by decide +kernel
theorem dX5_digestedRecord_60 : decode cX5_digestedRecord 60 = .ok (.aload 6, 2) := by decide +kernel
theorem dX5_digestedRecord_62 : decode cX5_digestedRecord 62 = .ok (.iload 8, 2) := by decide +kernel
theorem dX5_digestedRecord_64 : decode cX5_digestedRecord 64 = .ok (.aaload, 1) := by decide +kernel
theorem dX5_digestedRecord_65 : decode cX5_digestedRecord 65 = .ok (.astore 9, 2) := by decide +kernel
theorem dX5_digestedRecord_67 : decode cX5_digestedRecord 67 = .ok (.aload 9, 2) := by decide +kernel
theorem dX5_digestedRecord_69 : decode cX5_digestedRecord 69 = .ok (.ifnull 15, 3) := by decide +kernel
theorem dX5_digestedRecord_72 : decode cX5_digestedRecord 72 = .ok (.lload 4, 2) := by decide +kernel
theorem dX5_digestedRecord_74 : decode cX5_digestedRecord 74 = .ok (.aload 9, 2) := by decide +kernel
theorem dX5_digestedRecord_76 : decode cX5_digestedRecord 76 = .ok (.getfield 273, 3) := by decide +kernel
theorem dX5_digestedRecord_79 : decode cX5_digestedRecord 79 = .ok (.invokestatic 303, 3) := by decide +kernel
theorem dX5_digestedRecord_82 : decode cX5_digestedRecord 82 = .ok (.lstore 4, 2) := by decide +kernel
theorem dX5_digestedRecord_84 : decode cX5_digestedRecord 84 = .ok (.iinc 8 1, 3) := by decide +kernel
theorem dX5_digestedRecord_87 : decode cX5_digestedRecord 87 = .ok (.goto (-34), 3) := by decide +kernel
theorem dX5_digestedRecord_90 : decode cX5_digestedRecord 90 = .ok (.lload 4, 2) := by decide +kernel
theorem dX5_digestedRecord_92 : decode cX5_digestedRecord 92 = .ok (.lreturn, 1) := by decide +kernel
theorem dX5_digestedCopy_0 : decode cX5_digestedCopy 0 = .ok (.lload_n 1, 1) := by decide +kernel
theorem dX5_digestedCopy_1 : decode cX5_digestedCopy 1 = .ok (.lstore 4, 2) := by decide +kernel
theorem dX5_digestedCopy_3 : decode cX5_digestedCopy 3 = .ok (.iconst 0, 1) := by decide +kernel
theorem dX5_digestedCopy_4 : decode cX5_digestedCopy 4 = .ok (.istore 6, 2) := by decide +kernel
theorem dX5_digestedCopy_6 : decode cX5_digestedCopy 6 = .ok (.iload 6, 2) := by decide +kernel
theorem dX5_digestedCopy_8 : decode cX5_digestedCopy 8 = .ok (.bipush 6, 2) := by decide +kernel
theorem dX5_digestedCopy_10 : decode cX5_digestedCopy 10 = .ok (.if_icmp .gt 23, 3) := by decide +kernel
theorem dX5_digestedCopy_13 : decode cX5_digestedCopy 13 = .ok (.lload 4, 2) := by decide +kernel
theorem dX5_digestedCopy_15 : decode cX5_digestedCopy 15 = .ok (.aload_n 0, 1) := by decide +kernel
theorem dX5_digestedCopy_16 : decode cX5_digestedCopy 16 = .ok (.aload_n 3, 1) := by decide +kernel
theorem dX5_digestedCopy_17 : decode cX5_digestedCopy 17 = .ok (.iload 6, 2) := by decide +kernel
theorem dX5_digestedCopy_19 : decode cX5_digestedCopy 19 = .ok (.invokevirtual 152, 3) := by decide +kernel
theorem dX5_digestedCopy_22 : decode cX5_digestedCopy 22 = .ok (.invokestatic 303, 3) := by decide +kernel
theorem dX5_digestedCopy_25 : decode cX5_digestedCopy 25 = .ok (.lstore 4, 2) := by decide +kernel
theorem dX5_digestedCopy_27 : decode cX5_digestedCopy 27 = .ok (.iinc 6 1, 3) := by decide +kernel
theorem dX5_digestedCopy_30 : decode cX5_digestedCopy 30 = .ok (.goto (-24), 3) := by decide +kernel
theorem dX5_digestedCopy_33 : decode cX5_digestedCopy 33 = .ok (.lload 4, 2) := by decide +kernel
theorem dX5_digestedCopy_35 : decode cX5_digestedCopy 35 = .ok (.lreturn, 1) := by decide +kernel
theorem dX5_digestedReader_0 : decode cX5_digestedReader 0 = .ok (.lload_n 1, 1) := by decide +kernel
theorem dX5_digestedReader_1 : decode cX5_digestedReader 1 = .ok (.lstore 4, 2) := by decide +kernel
theorem dX5_digestedReader_3 : decode cX5_digestedReader 3 = .ok (.iconst 0, 1) := by decide +kernel
theorem dX5_digestedReader_4 : decode cX5_digestedReader 4 = .ok (.istore 6, 2) := by decide +kernel
theorem dX5_digestedReader_6 : decode cX5_digestedReader 6 = .ok (.iload 6, 2) := by decide +kernel
theorem dX5_digestedReader_8 : decode cX5_digestedReader 8 = .ok (.bipush 6, 2) := by decide +kernel
theorem dX5_digestedReader_10 : decode cX5_digestedReader 10 = .ok (.if_icmp .gt 23, 3) := by decide +kernel
theorem dX5_digestedReader_13 : decode cX5_digestedReader 13 = .ok (.lload 4, 2) := by decide +kernel
theorem dX5_digestedReader_15 : decode cX5_digestedReader 15 = .ok (.aload_n 0, 1) := by decide +kernel
theorem dX5_digestedReader_16 : decode cX5_digestedReader 16 = .ok (.aload_n 3, 1) := by decide +kernel
theorem dX5_digestedReader_17 : decode cX5_digestedReader 17 = .ok (.iload 6, 2) := by decide +kernel
theorem dX5_digestedReader_19 : decode cX5_digestedReader 19 = .ok (.invokevirtual 168, 3) := by decide +kernel
theorem dX5_digestedReader_22 : decode cX5_digestedReader 22 = .ok (.invokestatic 303, 3) := by decide +kernel
theorem dX5_digestedReader_25 : decode cX5_digestedReader 25 = .ok (.lstore 4, 2) := by decide +kernel
theorem dX5_digestedReader_27 : decode cX5_digestedReader 27 = .ok (.iinc 6 1, 3) := by decide +kernel
theorem dX5_digestedReader_30 : decode cX5_digestedReader 30 = .ok (.goto (-24), 3) := by decide +kernel
theorem dX5_digestedReader_33 : decode cX5_digestedReader 33 = .ok (.lload 4, 2) := by decide +kernel
theorem dX5_digestedReader_35 : decode cX5_digestedReader 35 = .ok (.aload_n 0, 1) := by decide +kernel
theorem dX5_digestedReader_36 : decode cX5_digestedReader 36 = .ok (.aload_n 3, 1) := by decide +kernel
theorem dX5_digestedReader_37 : decode cX5_digestedReader 37 = .ok (.invokevirtual 294, 3) := by decide +kernel
theorem dX5_digestedReader_40 : decode cX5_digestedReader 40 = .ok (.invokestatic 303, 3) := by decide +kernel
theorem dX5_digestedReader_43 : decode cX5_digestedReader 43 = .ok (.lreturn, 1) := by decide +kernel
theorem dJ6_bitCount_0f7a4_0 : decode cJ6_bitCount_0f7a4 0 = .ok (.iload_n 0, 1) := by decide +kernel
theorem dJ6_bitCount_0f7a4_1 : decode cJ6_bitCount_0f7a4 1 = .ok (.iload_n 0, 1) := by decide +kernel
theorem dJ6_bitCount_0f7a4_2 : decode cJ6_bitCount_0f7a4 2 = .ok (.iconst 1, 1) := by decide +kernel
theorem dJ6_bitCount_0f7a4_3 : decode cJ6_bitCount_0f7a4 3 = .ok (.iushr, 1) := by decide +kernel
theorem dJ6_bitCount_0f7a4_4 : decode cJ6_bitCount_0f7a4 4 = .ok (.ldc_w 265, 3) := by decide +kernel
theorem dJ6_bitCount_0f7a4_7 : decode cJ6_bitCount_0f7a4 7 = .ok (.iand, 1) := by decide +kernel
theorem dJ6_bitCount_0f7a4_8 : decode cJ6_bitCount_0f7a4 8 = .ok (.isub, 1) := by decide +kernel
theorem dJ6_bitCount_0f7a4_9 : decode cJ6_bitCount_0f7a4 9 = .ok (.istore_n 0, 1) := by decide +kernel
theorem dJ6_bitCount_0f7a4_10 : decode cJ6_bitCount_0f7a4 10 = .ok (.iload_n 0, 1) := by decide +kernel
theorem dJ6_bitCount_0f7a4_11 : decode cJ6_bitCount_0f7a4 11 = .ok (.ldc_w 266, 3) := by decide +kernel
theorem dJ6_bitCount_0f7a4_14 : decode cJ6_bitCount_0f7a4 14 = .ok (.iand, 1) := by decide +kernel
theorem dJ6_bitCount_0f7a4_15 : decode cJ6_bitCount_0f7a4 15 = .ok (.iload_n 0, 1) := by decide +kernel
theorem dJ6_bitCount_0f7a4_16 : decode cJ6_bitCount_0f7a4 16 = .ok (.iconst 2, 1) := by decide +kernel
theorem dJ6_bitCount_0f7a4_17 : decode cJ6_bitCount_0f7a4 17 = .ok (.iushr, 1) := by decide +kernel
theorem dJ6_bitCount_0f7a4_18 : decode cJ6_bitCount_0f7a4 18 = .ok (.ldc_w 266, 3) := by decide +kernel
theorem dJ6_bitCount_0f7a4_21 : decode cJ6_bitCount_0f7a4 21 = .ok (.iand, 1) := by decide +kernel
theorem dJ6_bitCount_0f7a4_22 : decode cJ6_bitCount_0f7a4 22 = .ok (.iadd, 1) := by decide +kernel
theorem dJ6_bitCount_0f7a4_23 : decode cJ6_bitCount_0f7a4 23 = .ok (.istore_n 0, 1) := by decide +kernel
theorem dJ6_bitCount_0f7a4_24 : decode cJ6_bitCount_0f7a4 24 = .ok (.iload_n 0, 1) := by decide +kernel
theorem dJ6_bitCount_0f7a4_25 : decode cJ6_bitCount_0f7a4 25 = .ok (.iload_n 0, 1) := by decide +kernel
theorem dJ6_bitCount_0f7a4_26 : decode cJ6_bitCount_0f7a4 26 = .ok (.iconst 4, 1) := by decide +kernel
theorem dJ6_bitCount_0f7a4_27 : decode cJ6_bitCount_0f7a4 27 = .ok (.iushr, 1) := by decide +kernel
theorem dJ6_bitCount_0f7a4_28 : decode cJ6_bitCount_0f7a4 28 = .ok (.iadd, 1) := by decide +kernel
theorem dJ6_bitCount_0f7a4_29 : decode cJ6_bitCount_0f7a4 29 = .ok (.ldc_w 267, 3) := by decide +kernel
theorem dJ6_bitCount_0f7a4_32 : decode cJ6_bitCount_0f7a4 32 = .ok (.iand, 1) := by decide +kernel
theorem dJ6_bitCount_0f7a4_33 : decode cJ6_bitCount_0f7a4 33 = .ok (.istore_n 0, 1) := by decide +kernel
theorem dJ6_bitCount_0f7a4_34 : decode cJ6_bitCount_0f7a4 34 = .ok (.iload_n 0, 1) := by decide +kernel
theorem dJ6_bitCount_0f7a4_35 : decode cJ6_bitCount_0f7a4 35 = .ok (.iload_n 0, 1) := by decide +kernel
theorem dJ6_bitCount_0f7a4_36 : decode cJ6_bitCount_0f7a4 36 = .ok (.bipush 8, 2) := by decide +kernel
theorem dJ6_bitCount_0f7a4_38 : decode cJ6_bitCount_0f7a4 38 = .ok (.iushr, 1) := by decide +kernel
theorem dJ6_bitCount_0f7a4_39 : decode cJ6_bitCount_0f7a4 39 = .ok (.iadd, 1) := by decide +kernel
theorem dJ6_bitCount_0f7a4_40 : decode cJ6_bitCount_0f7a4 40 = .ok (.istore_n 0, 1) := by decide +kernel
theorem dJ6_bitCount_0f7a4_41 : decode cJ6_bitCount_0f7a4 41 = .ok (.iload_n 0, 1) := by decide +kernel
theorem dJ6_bitCount_0f7a4_42 : decode cJ6_bitCount_0f7a4 42 = .ok (.iload_n 0, 1) := by decide +kernel
theorem dJ6_bitCount_0f7a4_43 : decode cJ6_bitCount_0f7a4 43 = .ok (.bipush 16, 2) := by decide +kernel
theorem dJ6_bitCount_0f7a4_45 : decode cJ6_bitCount_0f7a4 45 = .ok (.iushr, 1) := by decide +kernel
theorem dJ6_bitCount_0f7a4_46 : decode cJ6_bitCount_0f7a4 46 = .ok (.iadd, 1) := by decide +kernel
theorem dJ6_bitCount_0f7a4_47 : decode cJ6_bitCount_0f7a4 47 = .ok (.istore_n 0, 1) := by decide +kernel
theorem dJ6_bitCount_0f7a4_48 : decode cJ6_bitCount_0f7a4 48 = .ok (.iload_n 0, 1) := by decide +kernel
theorem dJ6_bitCount_0f7a4_49 : decode cJ6_bitCount_0f7a4 49 = .ok (.bipush 63, 2) := by decide +kernel
theorem dJ6_bitCount_0f7a4_51 : decode cJ6_bitCount_0f7a4 51 = .ok (.iand, 1) := by decide +kernel
theorem dJ6_bitCount_0f7a4_52 : decode cJ6_bitCount_0f7a4 52 = .ok (.ireturn, 1) := by decide +kernel
theorem dJ9_abs_0f7a4_0 : decode cJ9_abs_0f7a4 0 = .ok (.iload_n 0, 1) := by decide +kernel
theorem dJ9_abs_0f7a4_1 : decode cJ9_abs_0f7a4 1 = .ok (.ifCond .ge 8, 3) := by decide +kernel
theorem dJ9_abs_0f7a4_4 : decode cJ9_abs_0f7a4 4 = .ok (.iload_n 0, 1) := by decide +kernel
theorem dJ9_abs_0f7a4_5 : decode cJ9_abs_0f7a4 5 = .ok (.ineg, 1) := by decide +kernel
theorem dJ9_abs_0f7a4_6 : decode cJ9_abs_0f7a4 6 = .ok (.goto 4, 3) := by decide +kernel
theorem dJ9_abs_0f7a4_9 : decode cJ9_abs_0f7a4 9 = .ok (.iload_n 0, 1) := by decide +kernel
theorem dJ9_abs_0f7a4_10 : decode cJ9_abs_0f7a4 10 = .ok (.ireturn, 1) := by decide +kernel
theorem dJ9_abs_294c1_0 : decode cJ9_abs_294c1 0 = .ok (.dload_n 0, 1) := by decide +kernel
theorem dJ9_abs_294c1_1 : decode cJ9_abs_294c1 1 = .ok (.invokestatic 79, 3) := by decide +kernel
theorem dJ9_abs_294c1_4 : decode cJ9_abs_294c1 4 = .ok (.ldc2_w 135, 3) := by decide +kernel
theorem dJ9_abs_294c1_7 : decode cJ9_abs_294c1 7 = .ok (.land, 1) := by decide +kernel
theorem dJ9_abs_294c1_8 : decode cJ9_abs_294c1 8 = .ok (.invokestatic 166, 3) := by decide +kernel
theorem dJ9_abs_294c1_11 : decode cJ9_abs_294c1 11 = .ok (.dreturn, 1) := by decide +kernel
theorem dJ9_max_7cf53_0 : decode cJ9_max_7cf53 0 = .ok (.iload_n 0, 1) := by decide +kernel
theorem dJ9_max_7cf53_1 : decode cJ9_max_7cf53 1 = .ok (.iload_n 1, 1) := by decide +kernel
theorem dJ9_max_7cf53_2 : decode cJ9_max_7cf53 2 = .ok (.if_icmp .lt 7, 3) := by decide +kernel
theorem dJ9_max_7cf53_5 : decode cJ9_max_7cf53 5 = .ok (.iload_n 0, 1) := by decide +kernel
theorem dJ9_max_7cf53_6 : decode cJ9_max_7cf53 6 = .ok (.goto 4, 3) := by decide +kernel
theorem dJ9_max_7cf53_9 : decode cJ9_max_7cf53 9 = .ok (.iload_n 1, 1) := by decide +kernel
theorem dJ9_max_7cf53_10 : decode cJ9_max_7cf53 10 = .ok (.ireturn, 1) := by decide +kernel
theorem dJ9_min_7cf53_0 : decode cJ9_min_7cf53 0 = .ok (.iload_n 0, 1) := by decide +kernel
theorem dJ9_min_7cf53_1 : decode cJ9_min_7cf53 1 = .ok (.iload_n 1, 1) := by decide +kernel
theorem dJ9_min_7cf53_2 : decode cJ9_min_7cf53 2 = .ok (.if_icmp .gt 7, 3) := by decide +kernel
theorem dJ9_min_7cf53_5 : decode cJ9_min_7cf53 5 = .ok (.iload_n 0, 1) := by decide +kernel
theorem dJ9_min_7cf53_6 : decode cJ9_min_7cf53 6 = .ok (.goto 4, 3) := by decide +kernel
theorem dJ9_min_7cf53_9 : decode cJ9_min_7cf53 9 = .ok (.iload_n 1, 1) := by decide +kernel
theorem dJ9_min_7cf53_10 : decode cJ9_min_7cf53 10 = .ok (.ireturn, 1) := by decide +kernel
theorem dL_below_0 : decode cL_below 0 = .ok (.iload_n 0, 1) := by decide +kernel
theorem dL_below_1 : decode cL_below 1 = .ok (.ldc 7, 2) := by decide +kernel
theorem dL_below_3 : decode cL_below 3 = .ok (.iand, 1) := by decide +kernel
theorem dL_below_4 : decode cL_below 4 = .ok (.iload_n 1, 1) := by decide +kernel
theorem dL_below_5 : decode cL_below 5 = .ok (.irem, 1) := by decide +kernel
theorem dL_below_6 : decode cL_below 6 = .ok (.ireturn, 1) := by decide +kernel
theorem dL_cell_0 : decode cL_cell 0 = .ok (.iload_n 1, 1) := by decide +kernel
theorem dL_cell_1 : decode cL_cell 1 = .ok (.aload_n 0, 1) := by decide +kernel
theorem dL_cell_2 : decode cL_cell 2 = .ok (.arraylength, 1) := by decide +kernel
theorem dL_cell_3 : decode cL_cell 3 = .ok (.if_icmp .ge 9, 3) := by decide +kernel
theorem dL_cell_6 : decode cL_cell 6 = .ok (.aload_n 0, 1) := by decide +kernel
theorem dL_cell_7 : decode cL_cell 7 = .ok (.iload_n 1, 1) := by decide +kernel
theorem dL_cell_8 : decode cL_cell 8 = .ok (.iaload, 1) := by decide +kernel
theorem dL_cell_9 : decode cL_cell 9 = .ok (.goto 9, 3) := by decide +kernel
theorem dL_cell_12 : decode cL_cell 12 = .ok (.ldc 8, 2) := by decide +kernel
theorem dL_cell_14 : decode cL_cell 14 = .ok (.iload_n 1, 1) := by decide +kernel
theorem dL_cell_15 : decode cL_cell 15 = .ok (.iconst 3, 1) := by decide +kernel
theorem dL_cell_16 : decode cL_cell 16 = .ok (.iadd, 1) := by decide +kernel
theorem dL_cell_17 : decode cL_cell 17 = .ok (.imul, 1) := by decide +kernel
theorem dL_cell_18 : decode cL_cell 18 = .ok (.ireturn, 1) := by decide +kernel
theorem dL_law_0 : decode cL_law 0 = .ok (.new 9, 3) := by decide +kernel
theorem dL_law_3 : decode cL_law 3 = .ok (.dup, 1) := by decide +kernel
theorem dL_law_4 : decode cL_law 4 = .ok (.invokespecial 11, 3) := by decide +kernel
theorem dL_law_7 : decode cL_law 7 = .ok (.astore_n 1, 1) := by decide +kernel
theorem dL_law_8 : decode cL_law 8 = .ok (.aload_n 1, 1) := by decide +kernel
theorem dL_law_9 : decode cL_law 9 = .ok (.invokevirtual 12, 3) := by decide +kernel
theorem dL_law_12 : decode cL_law 12 = .ok (.pop, 1) := by decide +kernel
theorem dL_law_13 : decode cL_law 13 = .ok (.iconst 0, 1) := by decide +kernel
theorem dL_law_14 : decode cL_law 14 = .ok (.istore_n 2, 1) := by decide +kernel
theorem dL_law_15 : decode cL_law 15 = .ok (.iload_n 2, 1) := by decide +kernel
theorem dL_law_16 : decode cL_law 16 = .ok (.iconst 4, 1) := by decide +kernel
theorem dL_law_17 : decode cL_law 17 = .ok (.if_icmp .ge 25, 3) := by decide +kernel
theorem dL_law_20 : decode cL_law 20 = .ok (.aload_n 1, 1) := by decide +kernel
theorem dL_law_21 : decode cL_law 21 = .ok (.aload_n 0, 1) := by decide +kernel
theorem dL_law_22 : decode cL_law 22 = .ok (.iconst 0, 1) := by decide +kernel
theorem dL_law_23 : decode cL_law 23 = .ok (.invokestatic 16, 3) := by decide +kernel
theorem dL_law_26 : decode cL_law 26 = .ok (.iload_n 2, 1) := by decide +kernel
theorem dL_law_27 : decode cL_law 27 = .ok (.ishr, 1) := by decide +kernel
theorem dL_law_28 : decode cL_law 28 = .ok (.iconst 2, 1) := by decide +kernel
theorem dL_law_29 : decode cL_law 29 = .ok (.invokestatic 22, 3) := by decide +kernel
theorem dL_law_32 : decode cL_law 32 = .ok (.invokevirtual 26, 3) := by decide +kernel
theorem dL_law_35 : decode cL_law 35 = .ok (.pop, 1) := by decide +kernel
theorem dL_law_36 : decode cL_law 36 = .ok (.iinc 2 1, 3) := by decide +kernel
theorem dL_law_39 : decode cL_law 39 = .ok (.goto (-24), 3) := by decide +kernel
theorem dL_law_42 : decode cL_law 42 = .ok (.iconst 0, 1) := by decide +kernel
theorem dL_law_43 : decode cL_law 43 = .ok (.istore_n 2, 1) := by decide +kernel
theorem dL_law_44 : decode cL_law 44 = .ok (.iload_n 2, 1) := by decide +kernel
theorem dL_law_45 : decode cL_law 45 = .ok (.iconst 3, 1) := by decide +kernel
theorem dL_law_46 : decode cL_law 46 = .ok (.if_icmp .ge 43, 3) := by decide +kernel
theorem dL_law_49 : decode cL_law 49 = .ok (.aload_n 1, 1) := by decide +kernel
theorem dL_law_50 : decode cL_law 50 = .ok (.aload_n 0, 1) := by decide +kernel
theorem dL_law_51 : decode cL_law 51 = .ok (.iconst 1, 1) := by decide +kernel
theorem dL_law_52 : decode cL_law 52 = .ok (.invokestatic 16, 3) := by decide +kernel
theorem dL_law_55 : decode cL_law 55 = .ok (.iload_n 2, 1) := by decide +kernel
theorem dL_law_56 : decode cL_law 56 = .ok (.ishr, 1) := by decide +kernel
theorem dL_law_57 : decode cL_law 57 = .ok (.iconst 2, 1) := by decide +kernel
theorem dL_law_58 : decode cL_law 58 = .ok (.invokestatic 22, 3) := by decide +kernel
theorem dL_law_61 : decode cL_law 61 = .ok (.iconst 1, 1) := by decide +kernel
theorem dL_law_62 : decode cL_law 62 = .ok (.isub, 1) := by decide +kernel
theorem dL_law_63 : decode cL_law 63 = .ok (.iconst 1, 1) := by decide +kernel
theorem dL_law_64 : decode cL_law 64 = .ok (.aload_n 0, 1) := by decide +kernel
theorem dL_law_65 : decode cL_law 65 = .ok (.iconst 2, 1) := by decide +kernel
theorem dL_law_66 : decode cL_law 66 = .ok (.invokestatic 16, 3) := by decide +kernel
theorem dL_law_69 : decode cL_law 69 = .ok (.iload_n 2, 1) := by decide +kernel
theorem dL_law_70 : decode cL_law 70 = .ok (.ishr, 1) := by decide +kernel
theorem dL_law_71 : decode cL_law 71 = .ok (.bipush 100, 2) := by decide +kernel
theorem dL_law_73 : decode cL_law 73 = .ok (.invokestatic 22, 3) := by decide +kernel
theorem dL_law_76 : decode cL_law 76 = .ok (.iadd, 1) := by decide +kernel
theorem dL_law_77 : decode cL_law 77 = .ok (.bipush 50, 2) := by decide +kernel
theorem dL_law_79 : decode cL_law 79 = .ok (.invokevirtual 30, 3) := by decide +kernel
theorem dL_law_82 : decode cL_law 82 = .ok (.pop, 1) := by decide +kernel
theorem dL_law_83 : decode cL_law 83 = .ok (.iinc 2 1, 3) := by decide +kernel
theorem dL_law_86 : decode cL_law 86 = .ok (.goto (-42), 3) := by decide +kernel
theorem dL_law_89 : decode cL_law 89 = .ok (.iconst 0, 1) := by decide +kernel
theorem dL_law_90 : decode cL_law 90 = .ok (.istore_n 2, 1) := by decide +kernel
end
section
theorem dL_law_91 : decode cL_law 91 = .ok (.iload_n 2, 1) := by decide +kernel
theorem dL_law_92 : decode cL_law 92 = .ok (.bipush 60, 2) := by decide +kernel
theorem dL_law_94 : decode cL_law 94 = .ok (.if_icmp .ge 131, 3) := by decide +kernel
theorem dL_law_97 : decode cL_law 97 = .ok (.aload_n 0, 1) := by decide +kernel
theorem dL_law_98 : decode cL_law 98 = .ok (.iconst 3, 1) := by decide +kernel
theorem dL_law_99 : decode cL_law 99 = .ok (.iload_n 2, 1) := by decide +kernel
theorem dL_law_100 : decode cL_law 100 = .ok (.bipush 26, 2) := by decide +kernel
theorem dL_law_102 : decode cL_law 102 = .ok (.irem, 1) := by decide +kernel
theorem dL_law_103 : decode cL_law 103 = .ok (.iadd, 1) := by decide +kernel
theorem dL_law_104 : decode cL_law 104 = .ok (.invokestatic 16, 3) := by decide +kernel
theorem dL_law_107 : decode cL_law 107 = .ok (.iload_n 2, 1) := by decide +kernel
theorem dL_law_108 : decode cL_law 108 = .ok (.bipush 26, 2) := by decide +kernel
theorem dL_law_110 : decode cL_law 110 = .ok (.idiv, 1) := by decide +kernel
theorem dL_law_111 : decode cL_law 111 = .ok (.bipush 6, 2) := by decide +kernel
theorem dL_law_113 : decode cL_law 113 = .ok (.imul, 1) := by decide +kernel
theorem dL_law_114 : decode cL_law 114 = .ok (.ishr, 1) := by decide +kernel
theorem dL_law_115 : decode cL_law 115 = .ok (.istore_n 3, 1) := by decide +kernel
theorem dL_law_116 : decode cL_law 116 = .ok (.aload_n 1, 1) := by decide +kernel
theorem dL_law_117 : decode cL_law 117 = .ok (.iconst 0, 1) := by decide +kernel
theorem dL_law_118 : decode cL_law 118 = .ok (.invokevirtual 34, 3) := by decide +kernel
theorem dL_law_121 : decode cL_law 121 = .ok (.istore 4, 2) := by decide +kernel
theorem dL_law_123 : decode cL_law 123 = .ok (.aload_n 1, 1) := by decide +kernel
theorem dL_law_124 : decode cL_law 124 = .ok (.iconst 3, 1) := by decide +kernel
theorem dL_law_125 : decode cL_law 125 = .ok (.invokevirtual 34, 3) := by decide +kernel
theorem dL_law_128 : decode cL_law 128 = .ok (.istore 5, 2) := by decide +kernel
theorem dL_law_130 : decode cL_law 130 = .ok (.aload_n 1, 1) := by decide +kernel
theorem dL_law_131 : decode cL_law 131 = .ok (.iload_n 3, 1) := by decide +kernel
theorem dL_law_132 : decode cL_law 132 = .ok (.invokestatic 37, 3) := by decide +kernel
theorem dL_law_135 : decode cL_law 135 = .ok (.ifCond .eq 32, 3) := by decide +kernel
theorem dL_law_138 : decode cL_law 138 = .ok (.aload_n 1, 1) := by decide +kernel
theorem dL_law_139 : decode cL_law 139 = .ok (.iconst 0, 1) := by decide +kernel
theorem dL_law_140 : decode cL_law 140 = .ok (.invokevirtual 34, 3) := by decide +kernel
theorem dL_law_143 : decode cL_law 143 = .ok (.iload 4, 2) := by decide +kernel
theorem dL_law_145 : decode cL_law 145 = .ok (.if_icmp .lt 22, 3) := by decide +kernel
theorem dL_law_148 : decode cL_law 148 = .ok (.aload_n 1, 1) := by decide +kernel
theorem dL_law_149 : decode cL_law 149 = .ok (.iconst 3, 1) := by decide +kernel
theorem dL_law_150 : decode cL_law 150 = .ok (.invokevirtual 34, 3) := by decide +kernel
theorem dL_law_153 : decode cL_law 153 = .ok (.iload 5, 2) := by decide +kernel
theorem dL_law_155 : decode cL_law 155 = .ok (.if_icmp .lt 12, 3) := by decide +kernel
theorem dL_law_158 : decode cL_law 158 = .ok (.aload_n 1, 1) := by decide +kernel
theorem dL_law_159 : decode cL_law 159 = .ok (.iconst 2, 1) := by decide +kernel
theorem dL_law_160 : decode cL_law 160 = .ok (.invokevirtual 34, 3) := by decide +kernel
theorem dL_law_163 : decode cL_law 163 = .ok (.iconst 1, 1) := by decide +kernel
theorem dL_law_164 : decode cL_law 164 = .ok (.if_icmp .ge 5, 3) := by decide +kernel
theorem dL_law_167 : decode cL_law 167 = .ok (.iconst 0, 1) := by decide +kernel
theorem dL_law_168 : decode cL_law 168 = .ok (.ireturn, 1) := by decide +kernel
theorem dL_law_169 : decode cL_law 169 = .ok (.iload_n 2, 1) := by decide +kernel
theorem dL_law_170 : decode cL_law 170 = .ok (.bipush 6, 2) := by decide +kernel
theorem dL_law_172 : decode cL_law 172 = .ok (.irem, 1) := by decide +kernel
theorem dL_law_173 : decode cL_law 173 = .ok (.iconst 5, 1) := by decide +kernel
theorem dL_law_174 : decode cL_law 174 = .ok (.if_icmp .eq 6, 3) := by decide +kernel
theorem dL_law_177 : decode cL_law 177 = .ok (.goto 42, 3) := by decide +kernel
theorem dL_law_180 : decode cL_law 180 = .ok (.aload_n 1, 1) := by decide +kernel
theorem dL_law_181 : decode cL_law 181 = .ok (.invokevirtual 41, 3) := by decide +kernel
theorem dL_law_184 : decode cL_law 184 = .ok (.lstore 6, 2) := by decide +kernel
theorem dL_law_186 : decode cL_law 186 = .ok (.aload_n 1, 1) := by decide +kernel
theorem dL_law_187 : decode cL_law 187 = .ok (.invokestatic 45, 3) := by decide +kernel
theorem dL_law_190 : decode cL_law 190 = .ok (.ifCond .eq 27, 3) := by decide +kernel
theorem dL_law_193 : decode cL_law 193 = .ok (.aload_n 1, 1) := by decide +kernel
theorem dL_law_194 : decode cL_law 194 = .ok (.invokestatic 49, 3) := by decide +kernel
theorem dL_law_197 : decode cL_law 197 = .ok (.ifCond .eq 20, 3) := by decide +kernel
theorem dL_law_200 : decode cL_law 200 = .ok (.aload_n 1, 1) := by decide +kernel
theorem dL_law_201 : decode cL_law 201 = .ok (.invokestatic 52, 3) := by decide +kernel
theorem dL_law_204 : decode cL_law 204 = .ok (.ifCond .eq 13, 3) := by decide +kernel
theorem dL_law_207 : decode cL_law 207 = .ok (.aload_n 1, 1) := by decide +kernel
theorem dL_law_208 : decode cL_law 208 = .ok (.invokevirtual 41, 3) := by decide +kernel
theorem dL_law_211 : decode cL_law 211 = .ok (.lload 6, 2) := by decide +kernel
theorem dL_law_213 : decode cL_law 213 = .ok (.lcmp, 1) := by decide +kernel
theorem dL_law_214 : decode cL_law 214 = .ok (.ifCond .eq 5, 3) := by decide +kernel
theorem dL_law_217 : decode cL_law 217 = .ok (.iconst 0, 1) := by decide +kernel
theorem dL_law_218 : decode cL_law 218 = .ok (.ireturn, 1) := by decide +kernel
theorem dL_law_219 : decode cL_law 219 = .ok (.iinc 2 1, 3) := by decide +kernel
theorem dL_law_222 : decode cL_law 222 = .ok (.goto (-131), 3) := by decide +kernel
theorem dL_law_225 : decode cL_law 225 = .ok (.iconst 1, 1) := by decide +kernel
theorem dL_law_226 : decode cL_law 226 = .ok (.ireturn, 1) := by decide +kernel
theorem dL_act_0 : decode cL_act 0 = .ok (.iload_n 1, 1) := by decide +kernel
theorem dL_act_1 : decode cL_act 1 = .ok (.iconst 3, 1) := by decide +kernel
theorem dL_act_2 : decode cL_act 2 = .ok (.ishr, 1) := by decide +kernel
theorem dL_act_3 : decode cL_act 3 = .ok (.iconst 4, 1) := by decide +kernel
theorem dL_act_4 : decode cL_act 4 = .ok (.invokestatic 22, 3) := by decide +kernel
theorem dL_act_7 : decode cL_act 7 = .ok (.istore_n 2, 1) := by decide +kernel
theorem dL_act_8 : decode cL_act 8 = .ok (.iload_n 1, 1) := by decide +kernel
theorem dL_act_9 : decode cL_act 9 = .ok (.iconst 5, 1) := by decide +kernel
theorem dL_act_10 : decode cL_act 10 = .ok (.ishr, 1) := by decide +kernel
theorem dL_act_11 : decode cL_act 11 = .ok (.aload_n 0, 1) := by decide +kernel
theorem dL_act_12 : decode cL_act 12 = .ok (.iconst 2, 1) := by decide +kernel
theorem dL_act_13 : decode cL_act 13 = .ok (.invokevirtual 34, 3) := by decide +kernel
theorem dL_act_16 : decode cL_act 16 = .ok (.iconst 2, 1) := by decide +kernel
theorem dL_act_17 : decode cL_act 17 = .ok (.iadd, 1) := by decide +kernel
theorem dL_act_18 : decode cL_act 18 = .ok (.invokestatic 22, 3) := by decide +kernel
theorem dL_act_21 : decode cL_act 21 = .ok (.istore_n 3, 1) := by decide +kernel
theorem dL_act_22 : decode cL_act 22 = .ok (.iload_n 1, 1) := by decide +kernel
theorem dL_act_23 : decode cL_act 23 = .ok (.iconst 4, 1) := by decide +kernel
theorem dL_act_24 : decode cL_act 24 = .ok (.ishr, 1) := by decide +kernel
theorem dL_act_25 : decode cL_act 25 = .ok (.iconst 1, 1) := by decide +kernel
theorem dL_act_26 : decode cL_act 26 = .ok (.aload_n 0, 1) := by decide +kernel
theorem dL_act_27 : decode cL_act 27 = .ok (.iconst 3, 1) := by decide +kernel
theorem dL_act_28 : decode cL_act 28 = .ok (.invokevirtual 34, 3) := by decide +kernel
theorem dL_act_31 : decode cL_act 31 = .ok (.invokestatic 55, 3) := by decide +kernel
theorem dL_act_34 : decode cL_act 34 = .ok (.invokestatic 22, 3) := by decide +kernel
theorem dL_act_37 : decode cL_act 37 = .ok (.istore 4, 2) := by decide +kernel
theorem dL_act_39 : decode cL_act 39 = .ok (.iload_n 1, 1) := by decide +kernel
theorem dL_act_40 : decode cL_act 40 = .ok (.bipush 14, 2) := by decide +kernel
theorem dL_act_42 : decode cL_act 42 = .ok (.invokestatic 22, 3) := by decide +kernel
theorem dL_act_45 : decode cL_act 45 = .ok (.tableswitch 451 0 12 #[67, 67, 99, 99, 99, 154, 197, 257, 257, 307, 328, 393, 420], 67) := by decide +kernel
theorem dL_act_112 : decode cL_act 112 = .ok (.aload_n 0, 1) := by decide +kernel
theorem dL_act_113 : decode cL_act 113 = .ok (.iload_n 3, 1) := by decide +kernel
theorem dL_act_114 : decode cL_act 114 = .ok (.iconst 1, 1) := by decide +kernel
theorem dL_act_115 : decode cL_act 115 = .ok (.iload_n 1, 1) := by decide +kernel
theorem dL_act_116 : decode cL_act 116 = .ok (.bipush 6, 2) := by decide +kernel
theorem dL_act_118 : decode cL_act 118 = .ok (.ishr, 1) := by decide +kernel
theorem dL_act_119 : decode cL_act 119 = .ok (.bipush 80, 2) := by decide +kernel
theorem dL_act_121 : decode cL_act 121 = .ok (.invokestatic 22, 3) := by decide +kernel
theorem dL_act_124 : decode cL_act 124 = .ok (.iadd, 1) := by decide +kernel
theorem dL_act_125 : decode cL_act 125 = .ok (.invokevirtual 60, 3) := by decide +kernel
theorem dL_act_128 : decode cL_act 128 = .ok (.aload_n 0, 1) := by decide +kernel
theorem dL_act_129 : decode cL_act 129 = .ok (.iconst 3, 1) := by decide +kernel
theorem dL_act_130 : decode cL_act 130 = .ok (.invokevirtual 34, 3) := by decide +kernel
theorem dL_act_133 : decode cL_act 133 = .ok (.iconst 1, 1) := by decide +kernel
theorem dL_act_134 : decode cL_act 134 = .ok (.isub, 1) := by decide +kernel
theorem dL_act_135 : decode cL_act 135 = .ok (.if_icmp .ne 7, 3) := by decide +kernel
theorem dL_act_138 : decode cL_act 138 = .ok (.iconst 1, 1) := by decide +kernel
theorem dL_act_139 : decode cL_act 139 = .ok (.goto 4, 3) := by decide +kernel
theorem dL_act_142 : decode cL_act 142 = .ok (.iconst 0, 1) := by decide +kernel
theorem dL_act_143 : decode cL_act 143 = .ok (.ireturn, 1) := by decide +kernel
theorem dL_act_144 : decode cL_act 144 = .ok (.aload_n 0, 1) := by decide +kernel
theorem dL_act_145 : decode cL_act 145 = .ok (.iload_n 2, 1) := by decide +kernel
theorem dL_act_146 : decode cL_act 146 = .ok (.iload 4, 2) := by decide +kernel
theorem dL_act_148 : decode cL_act 148 = .ok (.invokevirtual 63, 3) := by decide +kernel
theorem dL_act_151 : decode cL_act 151 = .ok (.aload_n 0, 1) := by decide +kernel
theorem dL_act_152 : decode cL_act 152 = .ok (.iload 4, 2) := by decide +kernel
theorem dL_act_154 : decode cL_act 154 = .ok (.iconst 3, 1) := by decide +kernel
theorem dL_act_155 : decode cL_act 155 = .ok (.invokevirtual 66, 3) := by decide +kernel
theorem dL_act_158 : decode cL_act 158 = .ok (.if_icmp .ne 39, 3) := by decide +kernel
theorem dL_act_161 : decode cL_act 161 = .ok (.aload_n 0, 1) := by decide +kernel
theorem dL_act_162 : decode cL_act 162 = .ok (.iload 4, 2) := by decide +kernel
theorem dL_act_164 : decode cL_act 164 = .ok (.iconst 1, 1) := by decide +kernel
theorem dL_act_165 : decode cL_act 165 = .ok (.invokevirtual 66, 3) := by decide +kernel
theorem dL_act_168 : decode cL_act 168 = .ok (.iconst 1, 1) := by decide +kernel
theorem dL_act_169 : decode cL_act 169 = .ok (.if_icmp .ne 28, 3) := by decide +kernel
theorem dL_act_172 : decode cL_act 172 = .ok (.aload_n 0, 1) := by decide +kernel
theorem dL_act_173 : decode cL_act 173 = .ok (.iload 4, 2) := by decide +kernel
theorem dL_act_175 : decode cL_act 175 = .ok (.iconst 2, 1) := by decide +kernel
theorem dL_act_176 : decode cL_act 176 = .ok (.invokevirtual 66, 3) := by decide +kernel
theorem dL_act_179 : decode cL_act 179 = .ok (.iload_n 2, 1) := by decide +kernel
theorem dL_act_180 : decode cL_act 180 = .ok (.if_icmp .ne 17, 3) := by decide +kernel
theorem dL_act_183 : decode cL_act 183 = .ok (.aload_n 0, 1) := by decide +kernel
theorem dL_act_184 : decode cL_act 184 = .ok (.iload 4, 2) := by decide +kernel
theorem dL_act_186 : decode cL_act 186 = .ok (.iconst 4, 1) := by decide +kernel
theorem dL_act_187 : decode cL_act 187 = .ok (.invokevirtual 66, 3) := by decide +kernel
theorem dL_act_190 : decode cL_act 190 = .ok (.ifCond .ne 7, 3) := by decide +kernel
theorem dL_act_193 : decode cL_act 193 = .ok (.iconst 1, 1) := by decide +kernel
theorem dL_act_194 : decode cL_act 194 = .ok (.goto 4, 3) := by decide +kernel
theorem dL_act_197 : decode cL_act 197 = .ok (.iconst 0, 1) := by decide +kernel
theorem dL_act_198 : decode cL_act 198 = .ok (.ireturn, 1) := by decide +kernel
theorem dL_act_199 : decode cL_act 199 = .ok (.aload_n 0, 1) := by decide +kernel
theorem dL_act_200 : decode cL_act 200 = .ok (.iload 4, 2) := by decide +kernel
theorem dL_act_202 : decode cL_act 202 = .ok (.invokevirtual 69, 3) := by decide +kernel
theorem dL_act_205 : decode cL_act 205 = .ok (.aload_n 0, 1) := by decide +kernel
theorem dL_act_206 : decode cL_act 206 = .ok (.iload 4, 2) := by decide +kernel
theorem dL_act_208 : decode cL_act 208 = .ok (.iconst 3, 1) := by decide +kernel
theorem dL_act_209 : decode cL_act 209 = .ok (.invokevirtual 66, 3) := by decide +kernel
theorem dL_act_212 : decode cL_act 212 = .ok (.if_icmp .ne 28, 3) := by decide +kernel
theorem dL_act_215 : decode cL_act 215 = .ok (.aload_n 0, 1) := by decide +kernel
theorem dL_act_216 : decode cL_act 216 = .ok (.iload 4, 2) := by decide +kernel
theorem dL_act_218 : decode cL_act 218 = .ok (.iconst 5, 1) := by decide +kernel
theorem dL_act_219 : decode cL_act 219 = .ok (.invokevirtual 66, 3) := by decide +kernel
theorem dL_act_222 : decode cL_act 222 = .ok (.ifCond .le 18, 3) := by decide +kernel
theorem dL_act_225 : decode cL_act 225 = .ok (.aload_n 0, 1) := by decide +kernel
theorem dL_act_226 : decode cL_act 226 = .ok (.iload 4, 2) := by decide +kernel
theorem dL_act_228 : decode cL_act 228 = .ok (.iconst 5, 1) := by decide +kernel
theorem dL_act_229 : decode cL_act 229 = .ok (.invokevirtual 66, 3) := by decide +kernel
theorem dL_act_232 : decode cL_act 232 = .ok (.iconst 3, 1) := by decide +kernel
theorem dL_act_233 : decode cL_act 233 = .ok (.if_icmp .ge 7, 3) := by decide +kernel
theorem dL_act_236 : decode cL_act 236 = .ok (.iconst 1, 1) := by decide +kernel
theorem dL_act_237 : decode cL_act 237 = .ok (.goto 4, 3) := by decide +kernel
theorem dL_act_240 : decode cL_act 240 = .ok (.iconst 0, 1) := by decide +kernel
theorem dL_act_241 : decode cL_act 241 = .ok (.ireturn, 1) := by decide +kernel
theorem dL_act_242 : decode cL_act 242 = .ok (.aload_n 0, 1) := by decide +kernel
theorem dL_act_243 : decode cL_act 243 = .ok (.iload 4, 2) := by decide +kernel
theorem dL_act_245 : decode cL_act 245 = .ok (.iconst 1, 1) := by decide +kernel
theorem dL_act_246 : decode cL_act 246 = .ok (.invokevirtual 66, 3) := by decide +kernel
theorem dL_act_249 : decode cL_act 249 = .ok (.iconst 1, 1) := by decide +kernel
theorem dL_act_250 : decode cL_act 250 = .ok (.if_icmp .ne 13, 3) := by decide +kernel
theorem dL_act_253 : decode cL_act 253 = .ok (.aload_n 0, 1) := by decide +kernel
theorem dL_act_254 : decode cL_act 254 = .ok (.iload 4, 2) := by decide +kernel
theorem dL_act_256 : decode cL_act 256 = .ok (.iconst 0, 1) := by decide +kernel
theorem dL_act_257 : decode cL_act 257 = .ok (.invokevirtual 72, 3) := by decide +kernel
theorem dL_act_260 : decode cL_act 260 = .ok (.goto 4, 3) := by decide +kernel
theorem dL_act_263 : decode cL_act 263 = .ok (.iconst 0, 1) := by decide +kernel
theorem dL_act_264 : decode cL_act 264 = .ok (.istore 5, 2) := by decide +kernel
theorem dL_act_266 : decode cL_act 266 = .ok (.aload_n 0, 1) := by decide +kernel
theorem dL_act_267 : decode cL_act 267 = .ok (.iload 4, 2) := by decide +kernel
theorem dL_act_269 : decode cL_act 269 = .ok (.invokevirtual 75, 3) := by decide +kernel
theorem dL_act_272 : decode cL_act 272 = .ok (.iload 5, 2) := by decide +kernel
theorem dL_act_274 : decode cL_act 274 = .ok (.if_icmp .ne 26, 3) := by decide +kernel
theorem dL_act_277 : decode cL_act 277 = .ok (.iload 5, 2) := by decide +kernel
theorem dL_act_279 : decode cL_act 279 = .ok (.bipush 40, 2) := by decide +kernel
theorem dL_act_281 : decode cL_act 281 = .ok (.if_icmp .gt 19, 3) := by decide +kernel
theorem dL_act_284 : decode cL_act 284 = .ok (.aload_n 0, 1) := by decide +kernel
theorem dL_act_285 : decode cL_act 285 = .ok (.iload 4, 2) := by decide +kernel
theorem dL_act_287 : decode cL_act 287 = .ok (.iconst 1, 1) := by decide +kernel
theorem dL_act_288 : decode cL_act 288 = .ok (.invokevirtual 66, 3) := by decide +kernel
theorem dL_act_291 : decode cL_act 291 = .ok (.iconst 2, 1) := by decide +kernel
theorem dL_act_292 : decode cL_act 292 = .ok (.irem, 1) := by decide +kernel
theorem dL_act_293 : decode cL_act 293 = .ok (.ifCond .ne 7, 3) := by decide +kernel
theorem dL_act_296 : decode cL_act 296 = .ok (.iconst 1, 1) := by decide +kernel
theorem dL_act_297 : decode cL_act 297 = .ok (.goto 4, 3) := by decide +kernel
theorem dL_act_300 : decode cL_act 300 = .ok (.iconst 0, 1) := by decide +kernel
theorem dL_act_301 : decode cL_act 301 = .ok (.ireturn, 1) := by decide +kernel
theorem dL_act_302 : decode cL_act 302 = .ok (.aload_n 0, 1) := by decide +kernel
theorem dL_act_303 : decode cL_act 303 = .ok (.iload_n 2, 1) := by decide +kernel
theorem dL_act_304 : decode cL_act 304 = .ok (.iload_n 3, 1) := by decide +kernel
theorem dL_act_305 : decode cL_act 305 = .ok (.invokevirtual 78, 3) := by decide +kernel
theorem dL_act_308 : decode cL_act 308 = .ok (.istore 6, 2) := by decide +kernel
theorem dL_act_310 : decode cL_act 310 = .ok (.iload 6, 2) := by decide +kernel
theorem dL_act_312 : decode cL_act 312 = .ok (.ifCond .lt 34, 3) := by decide +kernel
theorem dL_act_315 : decode cL_act 315 = .ok (.aload_n 0, 1) := by decide +kernel
theorem dL_act_316 : decode cL_act 316 = .ok (.iload 6, 2) := by decide +kernel
theorem dL_act_318 : decode cL_act 318 = .ok (.iconst 1, 1) := by decide +kernel
theorem dL_act_319 : decode cL_act 319 = .ok (.invokevirtual 66, 3) := by decide +kernel
theorem dL_act_322 : decode cL_act 322 = .ok (.iconst 2, 1) := by decide +kernel
theorem dL_act_323 : decode cL_act 323 = .ok (.if_icmp .ne 27, 3) := by decide +kernel
theorem dL_act_326 : decode cL_act 326 = .ok (.aload_n 0, 1) := by decide +kernel
theorem dL_act_327 : decode cL_act 327 = .ok (.iload 6, 2) := by decide +kernel
theorem dL_act_329 : decode cL_act 329 = .ok (.iconst 2, 1) := by decide +kernel
theorem dL_act_330 : decode cL_act 330 = .ok (.invokevirtual 66, 3) := by decide +kernel
theorem dL_act_333 : decode cL_act 333 = .ok (.iload_n 2, 1) := by decide +kernel
theorem dL_act_334 : decode cL_act 334 = .ok (.if_icmp .ne 16, 3) := by decide +kernel
theorem dL_act_337 : decode cL_act 337 = .ok (.aload_n 0, 1) := by decide +kernel
theorem dL_act_338 : decode cL_act 338 = .ok (.iload_n 2, 1) := by decide +kernel
theorem dL_act_339 : decode cL_act 339 = .ok (.iload_n 3, 1) := by decide +kernel
theorem dL_act_340 : decode cL_act 340 = .ok (.invokevirtual 81, 3) := by decide +kernel
theorem dL_act_343 : decode cL_act 343 = .ok (.ifCond .ne 7, 3) := by decide +kernel
theorem dL_act_346 : decode cL_act 346 = .ok (.iconst 1, 1) := by decide +kernel
theorem dL_act_347 : decode cL_act 347 = .ok (.goto 4, 3) := by decide +kernel
theorem dL_act_350 : decode cL_act 350 = .ok (.iconst 0, 1) := by decide +kernel
theorem dL_act_351 : decode cL_act 351 = .ok (.ireturn, 1) := by decide +kernel
theorem dL_act_352 : decode cL_act 352 = .ok (.aload_n 0, 1) := by decide +kernel
theorem dL_act_353 : decode cL_act 353 = .ok (.iload_n 2, 1) := by decide +kernel
theorem dL_act_354 : decode cL_act 354 = .ok (.iload_n 3, 1) := by decide +kernel
theorem dL_act_355 : decode cL_act 355 = .ok (.invokevirtual 84, 3) := by decide +kernel
theorem dL_act_358 : decode cL_act 358 = .ok (.aload_n 0, 1) := by decide +kernel
theorem dL_act_359 : decode cL_act 359 = .ok (.iload_n 3, 1) := by decide +kernel
theorem dL_act_360 : decode cL_act 360 = .ok (.iconst 5, 1) := by decide +kernel
theorem dL_act_361 : decode cL_act 361 = .ok (.invokevirtual 87, 3) := by decide +kernel
theorem dL_act_364 : decode cL_act 364 = .ok (.if_icmp .ne 7, 3) := by decide +kernel
theorem dL_act_367 : decode cL_act 367 = .ok (.iconst 1, 1) := by decide +kernel
theorem dL_act_368 : decode cL_act 368 = .ok (.goto 4, 3) := by decide +kernel
theorem dL_act_371 : decode cL_act 371 = .ok (.iconst 0, 1) := by decide +kernel
theorem dL_act_372 : decode cL_act 372 = .ok (.ireturn, 1) := by decide +kernel
theorem dL_act_373 : decode cL_act 373 = .ok (.aload_n 0, 1) := by decide +kernel
theorem dL_act_374 : decode cL_act 374 = .ok (.iconst 1, 1) := by decide +kernel
theorem dL_act_375 : decode cL_act 375 = .ok (.iload_n 1, 1) := by decide +kernel
theorem dL_act_376 : decode cL_act 376 = .ok (.bipush 6, 2) := by decide +kernel
theorem dL_act_378 : decode cL_act 378 = .ok (.ishr, 1) := by decide +kernel
theorem dL_act_379 : decode cL_act 379 = .ok (.bipush 20, 2) := by decide +kernel
theorem dL_act_381 : decode cL_act 381 = .ok (.invokestatic 22, 3) := by decide +kernel
theorem dL_act_384 : decode cL_act 384 = .ok (.iadd, 1) := by decide +kernel
theorem dL_act_385 : decode cL_act 385 = .ok (.invokevirtual 90, 3) := by decide +kernel
theorem dL_act_388 : decode cL_act 388 = .ok (.istore 7, 2) := by decide +kernel
theorem dL_act_390 : decode cL_act 390 = .ok (.aload_n 0, 1) := by decide +kernel
theorem dL_act_391 : decode cL_act 391 = .ok (.bipush 8, 2) := by decide +kernel
theorem dL_act_393 : decode cL_act 393 = .ok (.invokevirtual 34, 3) := by decide +kernel
theorem dL_act_396 : decode cL_act 396 = .ok (.istore 8, 2) := by decide +kernel
theorem dL_act_398 : decode cL_act 398 = .ok (.aload_n 0, 1) := by decide +kernel
theorem dL_act_399 : decode cL_act 399 = .ok (.iconst 1, 1) := by decide +kernel
theorem dL_act_400 : decode cL_act 400 = .ok (.iload_n 1, 1) := by decide +kernel
theorem dL_act_401 : decode cL_act 401 = .ok (.bipush 6, 2) := by decide +kernel
theorem dL_act_403 : decode cL_act 403 = .ok (.ishr, 1) := by decide +kernel
theorem dL_act_404 : decode cL_act 404 = .ok (.bipush 20, 2) := by decide +kernel
theorem dL_act_406 : decode cL_act 406 = .ok (.invokestatic 22, 3) := by decide +kernel
theorem dL_act_409 : decode cL_act 409 = .ok (.iadd, 1) := by decide +kernel
theorem dL_act_410 : decode cL_act 410 = .ok (.invokevirtual 93, 3) := by decide +kernel
theorem dL_act_413 : decode cL_act 413 = .ok (.iload 7, 2) := by decide +kernel
theorem dL_act_415 : decode cL_act 415 = .ok (.if_icmp .ne 21, 3) := by decide +kernel
theorem dL_act_418 : decode cL_act 418 = .ok (.aload_n 0, 1) := by decide +kernel
theorem dL_act_419 : decode cL_act 419 = .ok (.bipush 8, 2) := by decide +kernel
theorem dL_act_421 : decode cL_act 421 = .ok (.invokevirtual 34, 3) := by decide +kernel
theorem dL_act_424 : decode cL_act 424 = .ok (.iload 8, 2) := by decide +kernel
theorem dL_act_426 : decode cL_act 426 = .ok (.iload 7, 2) := by decide +kernel
theorem dL_act_428 : decode cL_act 428 = .ok (.iadd, 1) := by decide +kernel
theorem dL_act_429 : decode cL_act 429 = .ok (.if_icmp .ne 7, 3) := by decide +kernel
theorem dL_act_432 : decode cL_act 432 = .ok (.iconst 1, 1) := by decide +kernel
theorem dL_act_433 : decode cL_act 433 = .ok (.goto 4, 3) := by decide +kernel
theorem dL_act_436 : decode cL_act 436 = .ok (.iconst 0, 1) := by decide +kernel
theorem dL_act_437 : decode cL_act 437 = .ok (.ireturn, 1) := by decide +kernel
theorem dL_act_438 : decode cL_act 438 = .ok (.aload_n 0, 1) := by decide +kernel
theorem dL_act_439 : decode cL_act 439 = .ok (.iload 4, 2) := by decide +kernel
theorem dL_act_441 : decode cL_act 441 = .ok (.invokevirtual 96, 3) := by decide +kernel
theorem dL_act_444 : decode cL_act 444 = .ok (.ifCond .lt 19, 3) := by decide +kernel
theorem dL_act_447 : decode cL_act 447 = .ok (.aload_n 0, 1) := by decide +kernel
theorem dL_act_448 : decode cL_act 448 = .ok (.iload 4, 2) := by decide +kernel
theorem dL_act_450 : decode cL_act 450 = .ok (.iconst 1, 1) := by decide +kernel
theorem dL_act_451 : decode cL_act 451 = .ok (.invokevirtual 66, 3) := by decide +kernel
theorem dL_act_454 : decode cL_act 454 = .ok (.iconst 2, 1) := by decide +kernel
theorem dL_act_455 : decode cL_act 455 = .ok (.irem, 1) := by decide +kernel
theorem dL_act_456 : decode cL_act 456 = .ok (.ifCond .ne 7, 3) := by decide +kernel
theorem dL_act_459 : decode cL_act 459 = .ok (.iconst 1, 1) := by decide +kernel
theorem dL_act_460 : decode cL_act 460 = .ok (.goto 4, 3) := by decide +kernel
theorem dL_act_463 : decode cL_act 463 = .ok (.iconst 0, 1) := by decide +kernel
theorem dL_act_464 : decode cL_act 464 = .ok (.ireturn, 1) := by decide +kernel
theorem dL_act_465 : decode cL_act 465 = .ok (.aload_n 0, 1) := by decide +kernel
theorem dL_act_466 : decode cL_act 466 = .ok (.iload_n 2, 1) := by decide +kernel
theorem dL_act_467 : decode cL_act 467 = .ok (.iconst 1, 1) := by decide +kernel
theorem dL_act_468 : decode cL_act 468 = .ok (.iload_n 1, 1) := by decide +kernel
theorem dL_act_469 : decode cL_act 469 = .ok (.bipush 6, 2) := by decide +kernel
theorem dL_act_471 : decode cL_act 471 = .ok (.ishr, 1) := by decide +kernel
theorem dL_act_472 : decode cL_act 472 = .ok (.bipush 30, 2) := by decide +kernel
theorem dL_act_474 : decode cL_act 474 = .ok (.invokestatic 22, 3) := by decide +kernel
theorem dL_act_477 : decode cL_act 477 = .ok (.iadd, 1) := by decide +kernel
theorem dL_act_478 : decode cL_act 478 = .ok (.invokevirtual 99, 3) := by decide +kernel
theorem dL_act_481 : decode cL_act 481 = .ok (.aload_n 0, 1) := by decide +kernel
theorem dL_act_482 : decode cL_act 482 = .ok (.iload_n 2, 1) := by decide +kernel
theorem dL_act_483 : decode cL_act 483 = .ok (.iconst 2, 1) := by decide +kernel
theorem dL_act_484 : decode cL_act 484 = .ok (.invokevirtual 102, 3) := by decide +kernel
theorem dL_act_487 : decode cL_act 487 = .ok (.if_icmp .ne 7, 3) := by decide +kernel
theorem dL_act_490 : decode cL_act 490 = .ok (.iconst 1, 1) := by decide +kernel
theorem dL_act_491 : decode cL_act 491 = .ok (.goto 4, 3) := by decide +kernel
theorem dL_act_494 : decode cL_act 494 = .ok (.iconst 0, 1) := by decide +kernel
theorem dL_act_495 : decode cL_act 495 = .ok (.ireturn, 1) := by decide +kernel
theorem dL_act_496 : decode cL_act 496 = .ok (.iload_n 1, 1) := by decide +kernel
theorem dL_act_497 : decode cL_act 497 = .ok (.bipush 7, 2) := by decide +kernel
theorem dL_act_499 : decode cL_act 499 = .ok (.ishr, 1) := by decide +kernel
theorem dL_act_500 : decode cL_act 500 = .ok (.iconst 2, 1) := by decide +kernel
theorem dL_act_501 : decode cL_act 501 = .ok (.invokestatic 22, 3) := by decide +kernel
theorem dL_act_504 : decode cL_act 504 = .ok (.ifCond .ne 36, 3) := by decide +kernel
theorem dL_act_507 : decode cL_act 507 = .ok (.aload_n 0, 1) := by decide +kernel
theorem dL_act_508 : decode cL_act 508 = .ok (.iconst (-1), 1) := by decide +kernel
theorem dL_act_509 : decode cL_act 509 = .ok (.iconst 1, 1) := by decide +kernel
theorem dL_act_510 : decode cL_act 510 = .ok (.iload_n 1, 1) := by decide +kernel
theorem dL_act_511 : decode cL_act 511 = .ok (.iconst 4, 1) := by decide +kernel
theorem dL_act_512 : decode cL_act 512 = .ok (.ishr, 1) := by decide +kernel
theorem dL_act_513 : decode cL_act 513 = .ok (.bipush 100, 2) := by decide +kernel
theorem dL_act_515 : decode cL_act 515 = .ok (.invokestatic 22, 3) := by decide +kernel
theorem dL_act_518 : decode cL_act 518 = .ok (.iadd, 1) := by decide +kernel
theorem dL_act_519 : decode cL_act 519 = .ok (.bipush 50, 2) := by decide +kernel
theorem dL_act_521 : decode cL_act 521 = .ok (.invokevirtual 30, 3) := by decide +kernel
theorem dL_act_524 : decode cL_act 524 = .ok (.aload_n 0, 1) := by decide +kernel
theorem dL_act_525 : decode cL_act 525 = .ok (.iconst 2, 1) := by decide +kernel
theorem dL_act_526 : decode cL_act 526 = .ok (.invokevirtual 34, 3) := by decide +kernel
theorem dL_act_529 : decode cL_act 529 = .ok (.iconst 1, 1) := by decide +kernel
theorem dL_act_530 : decode cL_act 530 = .ok (.isub, 1) := by decide +kernel
theorem dL_act_531 : decode cL_act 531 = .ok (.if_icmp .lt 7, 3) := by decide +kernel
theorem dL_act_534 : decode cL_act 534 = .ok (.iconst 1, 1) := by decide +kernel
theorem dL_act_535 : decode cL_act 535 = .ok (.goto 4, 3) := by decide +kernel
theorem dL_act_538 : decode cL_act 538 = .ok (.iconst 0, 1) := by decide +kernel
theorem dL_act_539 : decode cL_act 539 = .ok (.ireturn, 1) := by decide +kernel
theorem dL_act_540 : decode cL_act 540 = .ok (.aload_n 0, 1) := by decide +kernel
theorem dL_act_541 : decode cL_act 541 = .ok (.iload_n 3, 1) := by decide +kernel
theorem dL_act_542 : decode cL_act 542 = .ok (.iload_n 1, 1) := by decide +kernel
theorem dL_act_543 : decode cL_act 543 = .ok (.bipush 6, 2) := by decide +kernel
theorem dL_act_545 : decode cL_act 545 = .ok (.ishr, 1) := by decide +kernel
theorem dL_act_546 : decode cL_act 546 = .ok (.iconst 4, 1) := by decide +kernel
theorem dL_act_547 : decode cL_act 547 = .ok (.invokestatic 22, 3) := by decide +kernel
theorem dL_act_550 : decode cL_act 550 = .ok (.invokevirtual 105, 3) := by decide +kernel
theorem dL_act_553 : decode cL_act 553 = .ok (.aload_n 0, 1) := by decide +kernel
theorem dL_act_554 : decode cL_act 554 = .ok (.iload_n 3, 1) := by decide +kernel
theorem dL_act_555 : decode cL_act 555 = .ok (.iconst 4, 1) := by decide +kernel
theorem dL_act_556 : decode cL_act 556 = .ok (.invokevirtual 87, 3) := by decide +kernel
theorem dL_act_559 : decode cL_act 559 = .ok (.if_icmp .ne 24, 3) := by decide +kernel
theorem dL_act_562 : decode cL_act 562 = .ok (.aload_n 0, 1) := by decide +kernel
theorem dL_act_563 : decode cL_act 563 = .ok (.iload_n 3, 1) := by decide +kernel
theorem dL_act_564 : decode cL_act 564 = .ok (.iconst 3, 1) := by decide +kernel
theorem dL_act_565 : decode cL_act 565 = .ok (.invokevirtual 87, 3) := by decide +kernel
theorem dL_act_568 : decode cL_act 568 = .ok (.iload_n 1, 1) := by decide +kernel
theorem dL_act_569 : decode cL_act 569 = .ok (.bipush 6, 2) := by decide +kernel
theorem dL_act_571 : decode cL_act 571 = .ok (.ishr, 1) := by decide +kernel
theorem dL_act_572 : decode cL_act 572 = .ok (.iconst 4, 1) := by decide +kernel
theorem dL_act_573 : decode cL_act 573 = .ok (.invokestatic 22, 3) := by decide +kernel
theorem dL_act_576 : decode cL_act 576 = .ok (.if_icmp .ne 7, 3) := by decide +kernel
theorem dL_act_579 : decode cL_act 579 = .ok (.iconst 1, 1) := by decide +kernel
theorem dL_act_580 : decode cL_act 580 = .ok (.goto 4, 3) := by decide +kernel
theorem dL_act_583 : decode cL_act 583 = .ok (.iconst 0, 1) := by decide +kernel
theorem dL_act_584 : decode cL_act 584 = .ok (.ireturn, 1) := by decide +kernel
theorem dL_act_585 : decode cL_act 585 = .ok (.astore 5, 2) := by decide +kernel
theorem dL_act_587 : decode cL_act 587 = .ok (.aload_n 0, 1) := by decide +kernel
theorem dL_act_588 : decode cL_act 588 = .ok (.iconst 2, 1) := by decide +kernel
theorem dL_act_589 : decode cL_act 589 = .ok (.invokevirtual 34, 3) := by decide +kernel
theorem dL_act_592 : decode cL_act 592 = .ok (.ifCond .le 7, 3) := by decide +kernel
theorem dL_act_595 : decode cL_act 595 = .ok (.iconst 1, 1) := by decide +kernel
theorem dL_act_596 : decode cL_act 596 = .ok (.goto 4, 3) := by decide +kernel
theorem dL_act_599 : decode cL_act 599 = .ok (.iconst 0, 1) := by decide +kernel
theorem dL_act_600 : decode cL_act 600 = .ok (.ireturn, 1) := by decide +kernel
theorem dL_act_601 : decode cL_act 601 = .ok (.astore 5, 2) := by decide +kernel
theorem dL_act_603 : decode cL_act 603 = .ok (.iload_n 1, 1) := by decide +kernel
theorem dL_act_604 : decode cL_act 604 = .ok (.bipush 14, 2) := by decide +kernel
theorem dL_act_606 : decode cL_act 606 = .ok (.invokestatic 22, 3) := by decide +kernel
theorem dL_act_609 : decode cL_act 609 = .ok (.bipush 12, 2) := by decide +kernel
theorem dL_act_611 : decode cL_act 611 = .ok (.if_icmp .ne 7, 3) := by decide +kernel
theorem dL_act_614 : decode cL_act 614 = .ok (.iconst 1, 1) := by decide +kernel
theorem dL_act_615 : decode cL_act 615 = .ok (.goto 4, 3) := by decide +kernel
theorem dL_act_618 : decode cL_act 618 = .ok (.iconst 0, 1) := by decide +kernel
theorem dL_act_619 : decode cL_act 619 = .ok (.ireturn, 1) := by decide +kernel
theorem dL_act_620 : decode cL_act 620 = .ok (.astore 5, 2) := by decide +kernel
theorem dL_act_622 : decode cL_act 622 = .ok (.iload_n 1, 1) := by decide +kernel
theorem dL_act_623 : decode cL_act 623 = .ok (.bipush 14, 2) := by decide +kernel
theorem dL_act_625 : decode cL_act 625 = .ok (.invokestatic 22, 3) := by decide +kernel
theorem dL_act_628 : decode cL_act 628 = .ok (.bipush 10, 2) := by decide +kernel
theorem dL_act_630 : decode cL_act 630 = .ok (.if_icmp .eq 18, 3) := by decide +kernel
theorem dL_act_633 : decode cL_act 633 = .ok (.iload_n 1, 1) := by decide +kernel
theorem dL_act_634 : decode cL_act 634 = .ok (.bipush 14, 2) := by decide +kernel
theorem dL_act_636 : decode cL_act 636 = .ok (.invokestatic 22, 3) := by decide +kernel
theorem dL_act_639 : decode cL_act 639 = .ok (.bipush 12, 2) := by decide +kernel
theorem dL_act_641 : decode cL_act 641 = .ok (.if_icmp .eq 7, 3) := by decide +kernel
theorem dL_act_644 : decode cL_act 644 = .ok (.iconst 1, 1) := by decide +kernel
theorem dL_act_645 : decode cL_act 645 = .ok (.goto 4, 3) := by decide +kernel
theorem dL_act_648 : decode cL_act 648 = .ok (.iconst 0, 1) := by decide +kernel
theorem dL_act_649 : decode cL_act 649 = .ok (.ireturn, 1) := by decide +kernel
theorem dL_areCopiesRight_0 : decode cL_areCopiesRight 0 = .ok (.iconst 4, 1) := by decide +kernel
theorem dL_areCopiesRight_1 : decode cL_areCopiesRight 1 = .ok (.newarray .int, 2) := by decide +kernel
theorem dL_areCopiesRight_3 : decode cL_areCopiesRight 3 = .ok (.astore_n 1, 1) := by decide +kernel
theorem dL_areCopiesRight_4 : decode cL_areCopiesRight 4 = .ok (.iconst 0, 1) := by decide +kernel
theorem dL_areCopiesRight_5 : decode cL_areCopiesRight 5 = .ok (.istore_n 2, 1) := by decide +kernel
theorem dL_areCopiesRight_6 : decode cL_areCopiesRight 6 = .ok (.iload_n 2, 1) := by decide +kernel
theorem dL_areCopiesRight_7 : decode cL_areCopiesRight 7 = .ok (.aload_n 0, 1) := by decide +kernel
theorem dL_areCopiesRight_8 : decode cL_areCopiesRight 8 = .ok (.iconst 3, 1) := by decide +kernel
theorem dL_areCopiesRight_9 : decode cL_areCopiesRight 9 = .ok (.invokevirtual 34, 3) := by decide +kernel
theorem dL_areCopiesRight_12 : decode cL_areCopiesRight 12 = .ok (.if_icmp .ge 209, 3) := by decide +kernel
theorem dL_areCopiesRight_15 : decode cL_areCopiesRight 15 = .ok (.aload_n 0, 1) := by decide +kernel
theorem dL_areCopiesRight_16 : decode cL_areCopiesRight 16 = .ok (.iload_n 2, 1) := by decide +kernel
theorem dL_areCopiesRight_17 : decode cL_areCopiesRight 17 = .ok (.iconst 1, 1) := by decide +kernel
theorem dL_areCopiesRight_18 : decode cL_areCopiesRight 18 = .ok (.invokevirtual 66, 3) := by decide +kernel
theorem dL_areCopiesRight_21 : decode cL_areCopiesRight 21 = .ok (.istore_n 3, 1) := by decide +kernel
theorem dL_areCopiesRight_22 : decode cL_areCopiesRight 22 = .ok (.iload_n 3, 1) := by decide +kernel
theorem dL_areCopiesRight_23 : decode cL_areCopiesRight 23 = .ok (.ifCond .lt 8, 3) := by decide +kernel
theorem dL_areCopiesRight_26 : decode cL_areCopiesRight 26 = .ok (.iload_n 3, 1) := by decide +kernel
theorem dL_areCopiesRight_27 : decode cL_areCopiesRight 27 = .ok (.iconst 3, 1) := by decide +kernel
theorem dL_areCopiesRight_28 : decode cL_areCopiesRight 28 = .ok (.if_icmp .le 5, 3) := by decide +kernel
theorem dL_areCopiesRight_31 : decode cL_areCopiesRight 31 = .ok (.iconst 0, 1) := by decide +kernel
theorem dL_areCopiesRight_32 : decode cL_areCopiesRight 32 = .ok (.ireturn, 1) := by decide +kernel
theorem dL_areCopiesRight_33 : decode cL_areCopiesRight 33 = .ok (.aload_n 1, 1) := by decide +kernel
theorem dL_areCopiesRight_34 : decode cL_areCopiesRight 34 = .ok (.iload_n 3, 1) := by decide +kernel
theorem dL_areCopiesRight_35 : decode cL_areCopiesRight 35 = .ok (.dup2, 1) := by decide +kernel
theorem dL_areCopiesRight_36 : decode cL_areCopiesRight 36 = .ok (.iaload, 1) := by decide +kernel
theorem dL_areCopiesRight_37 : decode cL_areCopiesRight 37 = .ok (.iconst 1, 1) := by decide +kernel
theorem dL_areCopiesRight_38 : decode cL_areCopiesRight 38 = .ok (.iadd, 1) := by decide +kernel
theorem dL_areCopiesRight_39 : decode cL_areCopiesRight 39 = .ok (.iastore, 1) := by decide +kernel
theorem dL_areCopiesRight_40 : decode cL_areCopiesRight 40 = .ok (.aload_n 0, 1) := by decide +kernel
theorem dL_areCopiesRight_41 : decode cL_areCopiesRight 41 = .ok (.iload_n 2, 1) := by decide +kernel
theorem dL_areCopiesRight_42 : decode cL_areCopiesRight 42 = .ok (.iconst 2, 1) := by decide +kernel
theorem dL_areCopiesRight_43 : decode cL_areCopiesRight 43 = .ok (.invokevirtual 66, 3) := by decide +kernel
theorem dL_areCopiesRight_46 : decode cL_areCopiesRight 46 = .ok (.istore 4, 2) := by decide +kernel
theorem dL_areCopiesRight_48 : decode cL_areCopiesRight 48 = .ok (.aload_n 0, 1) := by decide +kernel
theorem dL_areCopiesRight_49 : decode cL_areCopiesRight 49 = .ok (.iload_n 2, 1) := by decide +kernel
theorem dL_areCopiesRight_50 : decode cL_areCopiesRight 50 = .ok (.iconst 3, 1) := by decide +kernel
theorem dL_areCopiesRight_51 : decode cL_areCopiesRight 51 = .ok (.invokevirtual 66, 3) := by decide +kernel
theorem dL_areCopiesRight_54 : decode cL_areCopiesRight 54 = .ok (.istore 5, 2) := by decide +kernel
theorem dL_areCopiesRight_56 : decode cL_areCopiesRight 56 = .ok (.aload_n 0, 1) := by decide +kernel
theorem dL_areCopiesRight_57 : decode cL_areCopiesRight 57 = .ok (.iload_n 2, 1) := by decide +kernel
theorem dL_areCopiesRight_58 : decode cL_areCopiesRight 58 = .ok (.iconst 4, 1) := by decide +kernel
theorem dL_areCopiesRight_59 : decode cL_areCopiesRight 59 = .ok (.invokevirtual 66, 3) := by decide +kernel
theorem dL_areCopiesRight_62 : decode cL_areCopiesRight 62 = .ok (.istore 6, 2) := by decide +kernel
theorem dL_areCopiesRight_64 : decode cL_areCopiesRight 64 = .ok (.iload_n 3, 1) := by decide +kernel
theorem dL_areCopiesRight_65 : decode cL_areCopiesRight 65 = .ok (.ifCond .ne 7, 3) := by decide +kernel
theorem dL_areCopiesRight_68 : decode cL_areCopiesRight 68 = .ok (.iconst 1, 1) := by decide +kernel
theorem dL_areCopiesRight_69 : decode cL_areCopiesRight 69 = .ok (.goto 4, 3) := by decide +kernel
theorem dL_areCopiesRight_72 : decode cL_areCopiesRight 72 = .ok (.iconst 0, 1) := by decide +kernel
theorem dL_areCopiesRight_73 : decode cL_areCopiesRight 73 = .ok (.iload 4, 2) := by decide +kernel
theorem dL_areCopiesRight_75 : decode cL_areCopiesRight 75 = .ok (.iconst (-1), 1) := by decide +kernel
theorem dL_areCopiesRight_76 : decode cL_areCopiesRight 76 = .ok (.if_icmp .ne 7, 3) := by decide +kernel
theorem dL_areCopiesRight_79 : decode cL_areCopiesRight 79 = .ok (.iconst 1, 1) := by decide +kernel
theorem dL_areCopiesRight_80 : decode cL_areCopiesRight 80 = .ok (.goto 4, 3) := by decide +kernel
theorem dL_areCopiesRight_83 : decode cL_areCopiesRight 83 = .ok (.iconst 0, 1) := by decide +kernel
theorem dL_areCopiesRight_84 : decode cL_areCopiesRight 84 = .ok (.if_icmp .ne 107, 3) := by decide +kernel
theorem dL_areCopiesRight_87 : decode cL_areCopiesRight 87 = .ok (.iload_n 3, 1) := by decide +kernel
theorem dL_areCopiesRight_88 : decode cL_areCopiesRight 88 = .ok (.ifCond .eq 8, 3) := by decide +kernel
theorem dL_areCopiesRight_91 : decode cL_areCopiesRight 91 = .ok (.iload_n 3, 1) := by decide +kernel
theorem dL_areCopiesRight_92 : decode cL_areCopiesRight 92 = .ok (.iconst 3, 1) := by decide +kernel
theorem dL_areCopiesRight_93 : decode cL_areCopiesRight 93 = .ok (.if_icmp .ne 7, 3) := by decide +kernel
theorem dL_areCopiesRight_96 : decode cL_areCopiesRight 96 = .ok (.iconst 1, 1) := by decide +kernel
theorem dL_areCopiesRight_97 : decode cL_areCopiesRight 97 = .ok (.goto 4, 3) := by decide +kernel
theorem dL_areCopiesRight_100 : decode cL_areCopiesRight 100 = .ok (.iconst 0, 1) := by decide +kernel
theorem dL_areCopiesRight_101 : decode cL_areCopiesRight 101 = .ok (.iload 5, 2) := by decide +kernel
theorem dL_areCopiesRight_103 : decode cL_areCopiesRight 103 = .ok (.iconst (-1), 1) := by decide +kernel
theorem dL_areCopiesRight_104 : decode cL_areCopiesRight 104 = .ok (.if_icmp .ne 7, 3) := by decide +kernel
theorem dL_areCopiesRight_107 : decode cL_areCopiesRight 107 = .ok (.iconst 1, 1) := by decide +kernel
theorem dL_areCopiesRight_108 : decode cL_areCopiesRight 108 = .ok (.goto 4, 3) := by decide +kernel
theorem dL_areCopiesRight_111 : decode cL_areCopiesRight 111 = .ok (.iconst 0, 1) := by decide +kernel
theorem dL_areCopiesRight_112 : decode cL_areCopiesRight 112 = .ok (.if_icmp .ne 79, 3) := by decide +kernel
theorem dL_areCopiesRight_115 : decode cL_areCopiesRight 115 = .ok (.iload_n 3, 1) := by decide +kernel
theorem dL_areCopiesRight_116 : decode cL_areCopiesRight 116 = .ok (.iconst 1, 1) := by decide +kernel
theorem dL_areCopiesRight_117 : decode cL_areCopiesRight 117 = .ok (.if_icmp .eq 17, 3) := by decide +kernel
theorem dL_areCopiesRight_120 : decode cL_areCopiesRight 120 = .ok (.iload 6, 2) := by decide +kernel
theorem dL_areCopiesRight_122 : decode cL_areCopiesRight 122 = .ok (.ifCond .ne 69, 3) := by decide +kernel
theorem dL_areCopiesRight_125 : decode cL_areCopiesRight 125 = .ok (.aload_n 0, 1) := by decide +kernel
theorem dL_areCopiesRight_126 : decode cL_areCopiesRight 126 = .ok (.iload_n 2, 1) := by decide +kernel
theorem dL_areCopiesRight_127 : decode cL_areCopiesRight 127 = .ok (.iconst 5, 1) := by decide +kernel
theorem dL_areCopiesRight_128 : decode cL_areCopiesRight 128 = .ok (.invokevirtual 66, 3) := by decide +kernel
theorem dL_areCopiesRight_131 : decode cL_areCopiesRight 131 = .ok (.ifCond .ne 60, 3) := by decide +kernel
theorem dL_areCopiesRight_134 : decode cL_areCopiesRight 134 = .ok (.iload_n 3, 1) := by decide +kernel
theorem dL_areCopiesRight_135 : decode cL_areCopiesRight 135 = .ok (.iconst 2, 1) := by decide +kernel
theorem dL_areCopiesRight_136 : decode cL_areCopiesRight 136 = .ok (.if_icmp .ne 26, 3) := by decide +kernel
theorem dL_areCopiesRight_139 : decode cL_areCopiesRight 139 = .ok (.iload 5, 2) := by decide +kernel
theorem dL_areCopiesRight_141 : decode cL_areCopiesRight 141 = .ok (.aload_n 0, 1) := by decide +kernel
theorem dL_areCopiesRight_142 : decode cL_areCopiesRight 142 = .ok (.iconst 0, 1) := by decide +kernel
theorem dL_areCopiesRight_143 : decode cL_areCopiesRight 143 = .ok (.invokevirtual 34, 3) := by decide +kernel
theorem dL_areCopiesRight_146 : decode cL_areCopiesRight 146 = .ok (.if_icmp .lt 45, 3) := by decide +kernel
theorem dL_areCopiesRight_149 : decode cL_areCopiesRight 149 = .ok (.iload 5, 2) := by decide +kernel
theorem dL_areCopiesRight_151 : decode cL_areCopiesRight 151 = .ok (.aload_n 0, 1) := by decide +kernel
theorem dL_areCopiesRight_152 : decode cL_areCopiesRight 152 = .ok (.iconst 0, 1) := by decide +kernel
theorem dL_areCopiesRight_153 : decode cL_areCopiesRight 153 = .ok (.invokevirtual 34, 3) := by decide +kernel
theorem dL_areCopiesRight_156 : decode cL_areCopiesRight 156 = .ok (.bipush 6, 2) := by decide +kernel
theorem dL_areCopiesRight_158 : decode cL_areCopiesRight 158 = .ok (.iadd, 1) := by decide +kernel
theorem dL_areCopiesRight_159 : decode cL_areCopiesRight 159 = .ok (.if_icmp .gt 32, 3) := by decide +kernel
theorem dL_areCopiesRight_162 : decode cL_areCopiesRight 162 = .ok (.iload_n 3, 1) := by decide +kernel
theorem dL_areCopiesRight_163 : decode cL_areCopiesRight 163 = .ok (.iconst 1, 1) := by decide +kernel
theorem dL_areCopiesRight_164 : decode cL_areCopiesRight 164 = .ok (.if_icmp .ne 20, 3) := by decide +kernel
theorem dL_areCopiesRight_167 : decode cL_areCopiesRight 167 = .ok (.iload 6, 2) := by decide +kernel
theorem dL_areCopiesRight_169 : decode cL_areCopiesRight 169 = .ok (.iconst 0, 1) := by decide +kernel
theorem dL_areCopiesRight_170 : decode cL_areCopiesRight 170 = .ok (.aload_n 0, 1) := by decide +kernel
theorem dL_areCopiesRight_171 : decode cL_areCopiesRight 171 = .ok (.iconst 0, 1) := by decide +kernel
theorem dL_areCopiesRight_172 : decode cL_areCopiesRight 172 = .ok (.invokevirtual 34, 3) := by decide +kernel
theorem dL_areCopiesRight_175 : decode cL_areCopiesRight 175 = .ok (.iload 5, 2) := by decide +kernel
theorem dL_areCopiesRight_177 : decode cL_areCopiesRight 177 = .ok (.isub, 1) := by decide +kernel
theorem dL_areCopiesRight_178 : decode cL_areCopiesRight 178 = .ok (.invokestatic 55, 3) := by decide +kernel
theorem dL_areCopiesRight_181 : decode cL_areCopiesRight 181 = .ok (.if_icmp .ne 10, 3) := by decide +kernel
theorem dL_areCopiesRight_184 : decode cL_areCopiesRight 184 = .ok (.iload 6, 2) := by decide +kernel
theorem dL_areCopiesRight_186 : decode cL_areCopiesRight 186 = .ok (.bipush 29, 2) := by decide +kernel
theorem dL_areCopiesRight_188 : decode cL_areCopiesRight 188 = .ok (.if_icmp .le 5, 3) := by decide +kernel
theorem dL_areCopiesRight_191 : decode cL_areCopiesRight 191 = .ok (.iconst 0, 1) := by decide +kernel
theorem dL_areCopiesRight_192 : decode cL_areCopiesRight 192 = .ok (.ireturn, 1) := by decide +kernel
theorem dL_areCopiesRight_193 : decode cL_areCopiesRight 193 = .ok (.aload_n 0, 1) := by decide +kernel
theorem dL_areCopiesRight_194 : decode cL_areCopiesRight 194 = .ok (.aload_n 0, 1) := by decide +kernel
theorem dL_areCopiesRight_195 : decode cL_areCopiesRight 195 = .ok (.iload_n 2, 1) := by decide +kernel
theorem dL_areCopiesRight_196 : decode cL_areCopiesRight 196 = .ok (.iconst 0, 1) := by decide +kernel
theorem dL_areCopiesRight_197 : decode cL_areCopiesRight 197 = .ok (.invokevirtual 66, 3) := by decide +kernel
theorem dL_areCopiesRight_200 : decode cL_areCopiesRight 200 = .ok (.iconst 3, 1) := by decide +kernel
theorem dL_areCopiesRight_201 : decode cL_areCopiesRight 201 = .ok (.invokevirtual 87, 3) := by decide +kernel
theorem dL_areCopiesRight_204 : decode cL_areCopiesRight 204 = .ok (.aload_n 0, 1) := by decide +kernel
theorem dL_areCopiesRight_205 : decode cL_areCopiesRight 205 = .ok (.iload_n 2, 1) := by decide +kernel
theorem dL_areCopiesRight_206 : decode cL_areCopiesRight 206 = .ok (.iconst 0, 1) := by decide +kernel
theorem dL_areCopiesRight_207 : decode cL_areCopiesRight 207 = .ok (.invokevirtual 66, 3) := by decide +kernel
theorem dL_areCopiesRight_210 : decode cL_areCopiesRight 210 = .ok (.if_icmp .eq 5, 3) := by decide +kernel
theorem dL_areCopiesRight_213 : decode cL_areCopiesRight 213 = .ok (.iconst 0, 1) := by decide +kernel
theorem dL_areCopiesRight_214 : decode cL_areCopiesRight 214 = .ok (.ireturn, 1) := by decide +kernel
theorem dL_areCopiesRight_215 : decode cL_areCopiesRight 215 = .ok (.iinc 2 1, 3) := by decide +kernel
theorem dL_areCopiesRight_218 : decode cL_areCopiesRight 218 = .ok (.goto (-212), 3) := by decide +kernel
theorem dL_areCopiesRight_221 : decode cL_areCopiesRight 221 = .ok (.iconst 0, 1) := by decide +kernel
theorem dL_areCopiesRight_222 : decode cL_areCopiesRight 222 = .ok (.istore_n 2, 1) := by decide +kernel
theorem dL_areCopiesRight_223 : decode cL_areCopiesRight 223 = .ok (.iload_n 2, 1) := by decide +kernel
theorem dL_areCopiesRight_224 : decode cL_areCopiesRight 224 = .ok (.iconst 4, 1) := by decide +kernel
theorem dL_areCopiesRight_225 : decode cL_areCopiesRight 225 = .ok (.if_icmp .ge 24, 3) := by decide +kernel
theorem dL_areCopiesRight_228 : decode cL_areCopiesRight 228 = .ok (.aload_n 0, 1) := by decide +kernel
theorem dL_areCopiesRight_229 : decode cL_areCopiesRight 229 = .ok (.iconst 5, 1) := by decide +kernel
theorem dL_areCopiesRight_230 : decode cL_areCopiesRight 230 = .ok (.iload_n 2, 1) := by decide +kernel
theorem dL_areCopiesRight_231 : decode cL_areCopiesRight 231 = .ok (.iadd, 1) := by decide +kernel
theorem dL_areCopiesRight_232 : decode cL_areCopiesRight 232 = .ok (.invokevirtual 34, 3) := by decide +kernel
theorem dL_areCopiesRight_235 : decode cL_areCopiesRight 235 = .ok (.aload_n 1, 1) := by decide +kernel
theorem dL_areCopiesRight_236 : decode cL_areCopiesRight 236 = .ok (.iload_n 2, 1) := by decide +kernel
theorem dL_areCopiesRight_237 : decode cL_areCopiesRight 237 = .ok (.iaload, 1) := by decide +kernel
theorem dL_areCopiesRight_238 : decode cL_areCopiesRight 238 = .ok (.if_icmp .eq 5, 3) := by decide +kernel
theorem dL_areCopiesRight_241 : decode cL_areCopiesRight 241 = .ok (.iconst 0, 1) := by decide +kernel
theorem dL_areCopiesRight_242 : decode cL_areCopiesRight 242 = .ok (.ireturn, 1) := by decide +kernel
theorem dL_areCopiesRight_243 : decode cL_areCopiesRight 243 = .ok (.iinc 2 1, 3) := by decide +kernel
theorem dL_areCopiesRight_246 : decode cL_areCopiesRight 246 = .ok (.goto (-23), 3) := by decide +kernel
theorem dL_areCopiesRight_249 : decode cL_areCopiesRight 249 = .ok (.iconst 1, 1) := by decide +kernel
theorem dL_areCopiesRight_250 : decode cL_areCopiesRight 250 = .ok (.ireturn, 1) := by decide +kernel
theorem dL_areRecordsRight_0 : decode cL_areRecordsRight 0 = .ok (.iconst 0, 1) := by decide +kernel
theorem dL_areRecordsRight_1 : decode cL_areRecordsRight 1 = .ok (.istore_n 1, 1) := by decide +kernel
theorem dL_areRecordsRight_2 : decode cL_areRecordsRight 2 = .ok (.iload_n 1, 1) := by decide +kernel
theorem dL_areRecordsRight_3 : decode cL_areRecordsRight 3 = .ok (.iconst 3, 1) := by decide +kernel
theorem dL_areRecordsRight_4 : decode cL_areRecordsRight 4 = .ok (.if_icmp .ge 268, 3) := by decide +kernel
theorem dL_areRecordsRight_7 : decode cL_areRecordsRight 7 = .ok (.aload_n 0, 1) := by decide +kernel
theorem dL_areRecordsRight_8 : decode cL_areRecordsRight 8 = .ok (.iload_n 1, 1) := by decide +kernel
theorem dL_areRecordsRight_9 : decode cL_areRecordsRight 9 = .ok (.iconst 3, 1) := by decide +kernel
theorem dL_areRecordsRight_10 : decode cL_areRecordsRight 10 = .ok (.invokevirtual 87, 3) := by decide +kernel
theorem dL_areRecordsRight_13 : decode cL_areRecordsRight 13 = .ok (.istore_n 2, 1) := by decide +kernel
theorem dL_areRecordsRight_14 : decode cL_areRecordsRight 14 = .ok (.iconst 0, 1) := by decide +kernel
theorem dL_areRecordsRight_15 : decode cL_areRecordsRight 15 = .ok (.istore_n 3, 1) := by decide +kernel
theorem dL_areRecordsRight_16 : decode cL_areRecordsRight 16 = .ok (.iconst 0, 1) := by decide +kernel
theorem dL_areRecordsRight_17 : decode cL_areRecordsRight 17 = .ok (.istore 4, 2) := by decide +kernel
theorem dL_areRecordsRight_19 : decode cL_areRecordsRight 19 = .ok (.iconst 0, 1) := by decide +kernel
theorem dL_areRecordsRight_20 : decode cL_areRecordsRight 20 = .ok (.istore 5, 2) := by decide +kernel
theorem dL_areRecordsRight_22 : decode cL_areRecordsRight 22 = .ok (.iload 5, 2) := by decide +kernel
theorem dL_areRecordsRight_24 : decode cL_areRecordsRight 24 = .ok (.aload_n 0, 1) := by decide +kernel
theorem dL_areRecordsRight_25 : decode cL_areRecordsRight 25 = .ok (.iconst 3, 1) := by decide +kernel
theorem dL_areRecordsRight_26 : decode cL_areRecordsRight 26 = .ok (.invokevirtual 34, 3) := by decide +kernel
theorem dL_areRecordsRight_29 : decode cL_areRecordsRight 29 = .ok (.if_icmp .ge 57, 3) := by decide +kernel
theorem dL_areRecordsRight_32 : decode cL_areRecordsRight 32 = .ok (.aload_n 0, 1) := by decide +kernel
theorem dL_areRecordsRight_33 : decode cL_areRecordsRight 33 = .ok (.iload 5, 2) := by decide +kernel
theorem dL_areRecordsRight_35 : decode cL_areRecordsRight 35 = .ok (.iconst 0, 1) := by decide +kernel
theorem dL_areRecordsRight_36 : decode cL_areRecordsRight 36 = .ok (.invokevirtual 66, 3) := by decide +kernel
theorem dL_areRecordsRight_39 : decode cL_areRecordsRight 39 = .ok (.iload_n 2, 1) := by decide +kernel
theorem dL_areRecordsRight_40 : decode cL_areRecordsRight 40 = .ok (.if_icmp .ne 40, 3) := by decide +kernel
theorem dL_areRecordsRight_43 : decode cL_areRecordsRight 43 = .ok (.aload_n 0, 1) := by decide +kernel
theorem dL_areRecordsRight_44 : decode cL_areRecordsRight 44 = .ok (.iload 5, 2) := by decide +kernel
theorem dL_areRecordsRight_46 : decode cL_areRecordsRight 46 = .ok (.iconst 1, 1) := by decide +kernel
theorem dL_areRecordsRight_47 : decode cL_areRecordsRight 47 = .ok (.invokevirtual 66, 3) := by decide +kernel
theorem dL_areRecordsRight_50 : decode cL_areRecordsRight 50 = .ok (.iconst 3, 1) := by decide +kernel
theorem dL_areRecordsRight_51 : decode cL_areRecordsRight 51 = .ok (.if_icmp .ne 6, 3) := by decide +kernel
theorem dL_areRecordsRight_54 : decode cL_areRecordsRight 54 = .ok (.goto 26, 3) := by decide +kernel
theorem dL_areRecordsRight_57 : decode cL_areRecordsRight 57 = .ok (.iinc 3 1, 3) := by decide +kernel
theorem dL_areRecordsRight_60 : decode cL_areRecordsRight 60 = .ok (.iload 4, 2) := by decide +kernel
theorem dL_areRecordsRight_62 : decode cL_areRecordsRight 62 = .ok (.aload_n 0, 1) := by decide +kernel
theorem dL_areRecordsRight_63 : decode cL_areRecordsRight 63 = .ok (.iload 5, 2) := by decide +kernel
theorem dL_areRecordsRight_65 : decode cL_areRecordsRight 65 = .ok (.iconst 1, 1) := by decide +kernel
theorem dL_areRecordsRight_66 : decode cL_areRecordsRight 66 = .ok (.invokevirtual 66, 3) := by decide +kernel
theorem dL_areRecordsRight_69 : decode cL_areRecordsRight 69 = .ok (.ifCond .ne 7, 3) := by decide +kernel
theorem dL_areRecordsRight_72 : decode cL_areRecordsRight 72 = .ok (.iconst 1, 1) := by decide +kernel
theorem dL_areRecordsRight_73 : decode cL_areRecordsRight 73 = .ok (.goto 4, 3) := by decide +kernel
theorem dL_areRecordsRight_76 : decode cL_areRecordsRight 76 = .ok (.iconst 0, 1) := by decide +kernel
theorem dL_areRecordsRight_77 : decode cL_areRecordsRight 77 = .ok (.ior, 1) := by decide +kernel
theorem dL_areRecordsRight_78 : decode cL_areRecordsRight 78 = .ok (.istore 4, 2) := by decide +kernel
theorem dL_areRecordsRight_80 : decode cL_areRecordsRight 80 = .ok (.iinc 5 1, 3) := by decide +kernel
theorem dL_areRecordsRight_83 : decode cL_areRecordsRight 83 = .ok (.goto (-61), 3) := by decide +kernel
theorem dL_areRecordsRight_86 : decode cL_areRecordsRight 86 = .ok (.aload_n 0, 1) := by decide +kernel
theorem dL_areRecordsRight_87 : decode cL_areRecordsRight 87 = .ok (.iload_n 1, 1) := by decide +kernel
theorem dL_areRecordsRight_88 : decode cL_areRecordsRight 88 = .ok (.iconst 4, 1) := by decide +kernel
theorem dL_areRecordsRight_89 : decode cL_areRecordsRight 89 = .ok (.invokevirtual 87, 3) := by decide +kernel
theorem dL_areRecordsRight_92 : decode cL_areRecordsRight 92 = .ok (.iload_n 3, 1) := by decide +kernel
theorem dL_areRecordsRight_93 : decode cL_areRecordsRight 93 = .ok (.if_icmp .ne 28, 3) := by decide +kernel
theorem dL_areRecordsRight_96 : decode cL_areRecordsRight 96 = .ok (.aload_n 0, 1) := by decide +kernel
theorem dL_areRecordsRight_97 : decode cL_areRecordsRight 97 = .ok (.iload_n 2, 1) := by decide +kernel
theorem dL_areRecordsRight_98 : decode cL_areRecordsRight 98 = .ok (.iconst 3, 1) := by decide +kernel
theorem dL_areRecordsRight_99 : decode cL_areRecordsRight 99 = .ok (.invokevirtual 87, 3) := by decide +kernel
theorem dL_areRecordsRight_102 : decode cL_areRecordsRight 102 = .ok (.iload_n 2, 1) := by decide +kernel
theorem dL_areRecordsRight_103 : decode cL_areRecordsRight 103 = .ok (.if_icmp .ne 18, 3) := by decide +kernel
theorem dL_areRecordsRight_106 : decode cL_areRecordsRight 106 = .ok (.aload_n 0, 1) := by decide +kernel
theorem dL_areRecordsRight_107 : decode cL_areRecordsRight 107 = .ok (.iload_n 2, 1) := by decide +kernel
theorem dL_areRecordsRight_108 : decode cL_areRecordsRight 108 = .ok (.iconst 5, 1) := by decide +kernel
theorem dL_areRecordsRight_109 : decode cL_areRecordsRight 109 = .ok (.invokevirtual 87, 3) := by decide +kernel
theorem dL_areRecordsRight_112 : decode cL_areRecordsRight 112 = .ok (.aload_n 0, 1) := by decide +kernel
theorem dL_areRecordsRight_113 : decode cL_areRecordsRight 113 = .ok (.iload_n 1, 1) := by decide +kernel
theorem dL_areRecordsRight_114 : decode cL_areRecordsRight 114 = .ok (.iconst 5, 1) := by decide +kernel
theorem dL_areRecordsRight_115 : decode cL_areRecordsRight 115 = .ok (.invokevirtual 87, 3) := by decide +kernel
theorem dL_areRecordsRight_118 : decode cL_areRecordsRight 118 = .ok (.if_icmp .eq 5, 3) := by decide +kernel
theorem dL_areRecordsRight_121 : decode cL_areRecordsRight 121 = .ok (.iconst 0, 1) := by decide +kernel
theorem dL_areRecordsRight_122 : decode cL_areRecordsRight 122 = .ok (.ireturn, 1) := by decide +kernel
theorem dL_areRecordsRight_123 : decode cL_areRecordsRight 123 = .ok (.iconst 0, 1) := by decide +kernel
theorem dL_areRecordsRight_124 : decode cL_areRecordsRight 124 = .ok (.istore 5, 2) := by decide +kernel
theorem dL_areRecordsRight_126 : decode cL_areRecordsRight 126 = .ok (.iload 5, 2) := by decide +kernel
theorem dL_areRecordsRight_128 : decode cL_areRecordsRight 128 = .ok (.aload_n 0, 1) := by decide +kernel
theorem dL_areRecordsRight_129 : decode cL_areRecordsRight 129 = .ok (.iload_n 1, 1) := by decide +kernel
theorem dL_areRecordsRight_130 : decode cL_areRecordsRight 130 = .ok (.iconst 5, 1) := by decide +kernel
theorem dL_areRecordsRight_131 : decode cL_areRecordsRight 131 = .ok (.invokevirtual 87, 3) := by decide +kernel
theorem dL_areRecordsRight_134 : decode cL_areRecordsRight 134 = .ok (.if_icmp .ge 98, 3) := by decide +kernel
theorem dL_areRecordsRight_137 : decode cL_areRecordsRight 137 = .ok (.aload_n 0, 1) := by decide +kernel
theorem dL_areRecordsRight_138 : decode cL_areRecordsRight 138 = .ok (.iload_n 1, 1) := by decide +kernel
theorem dL_areRecordsRight_139 : decode cL_areRecordsRight 139 = .ok (.iload 5, 2) := by decide +kernel
theorem dL_areRecordsRight_141 : decode cL_areRecordsRight 141 = .ok (.invokevirtual 114, 3) := by decide +kernel
theorem dL_areRecordsRight_144 : decode cL_areRecordsRight 144 = .ok (.istore 6, 2) := by decide +kernel
theorem dL_areRecordsRight_146 : decode cL_areRecordsRight 146 = .ok (.aload_n 0, 1) := by decide +kernel
theorem dL_areRecordsRight_147 : decode cL_areRecordsRight 147 = .ok (.iload 6, 2) := by decide +kernel
theorem dL_areRecordsRight_149 : decode cL_areRecordsRight 149 = .ok (.iload_n 1, 1) := by decide +kernel
theorem dL_areRecordsRight_150 : decode cL_areRecordsRight 150 = .ok (.invokevirtual 81, 3) := by decide +kernel
theorem dL_areRecordsRight_153 : decode cL_areRecordsRight 153 = .ok (.istore 7, 2) := by decide +kernel
theorem dL_areRecordsRight_155 : decode cL_areRecordsRight 155 = .ok (.iload 4, 2) := by decide +kernel
theorem dL_areRecordsRight_157 : decode cL_areRecordsRight 157 = .ok (.ifCond .eq 8, 3) := by decide +kernel
theorem dL_areRecordsRight_160 : decode cL_areRecordsRight 160 = .ok (.iload 7, 2) := by decide +kernel
theorem dL_areRecordsRight_162 : decode cL_areRecordsRight 162 = .ok (.ifCond .ne 37, 3) := by decide +kernel
theorem dL_areRecordsRight_165 : decode cL_areRecordsRight 165 = .ok (.iload 7, 2) := by decide +kernel
theorem dL_areRecordsRight_167 : decode cL_areRecordsRight 167 = .ok (.iconst (-1), 1) := by decide +kernel
theorem dL_areRecordsRight_168 : decode cL_areRecordsRight 168 = .ok (.if_icmp .lt 31, 3) := by decide +kernel
theorem dL_areRecordsRight_171 : decode cL_areRecordsRight 171 = .ok (.iload 7, 2) := by decide +kernel
theorem dL_areRecordsRight_173 : decode cL_areRecordsRight 173 = .ok (.iconst (-1), 1) := by decide +kernel
theorem dL_areRecordsRight_174 : decode cL_areRecordsRight 174 = .ok (.if_icmp .ne 7, 3) := by decide +kernel
theorem dL_areRecordsRight_177 : decode cL_areRecordsRight 177 = .ok (.iconst 1, 1) := by decide +kernel
theorem dL_areRecordsRight_178 : decode cL_areRecordsRight 178 = .ok (.goto 4, 3) := by decide +kernel
theorem dL_areRecordsRight_181 : decode cL_areRecordsRight 181 = .ok (.iconst 0, 1) := by decide +kernel
theorem dL_areRecordsRight_182 : decode cL_areRecordsRight 182 = .ok (.iload_n 3, 1) := by decide +kernel
theorem dL_areRecordsRight_183 : decode cL_areRecordsRight 183 = .ok (.ifCond .ne 7, 3) := by decide +kernel
theorem dL_areRecordsRight_186 : decode cL_areRecordsRight 186 = .ok (.iconst 1, 1) := by decide +kernel
theorem dL_areRecordsRight_187 : decode cL_areRecordsRight 187 = .ok (.goto 4, 3) := by decide +kernel
theorem dL_areRecordsRight_190 : decode cL_areRecordsRight 190 = .ok (.iconst 0, 1) := by decide +kernel
theorem dL_areRecordsRight_191 : decode cL_areRecordsRight 191 = .ok (.if_icmp .eq 10, 3) := by decide +kernel
theorem dL_areRecordsRight_194 : decode cL_areRecordsRight 194 = .ok (.iload 7, 2) := by decide +kernel
theorem dL_areRecordsRight_196 : decode cL_areRecordsRight 196 = .ok (.ifCond .ge 5, 3) := by decide +kernel
theorem dL_areRecordsRight_199 : decode cL_areRecordsRight 199 = .ok (.iconst 0, 1) := by decide +kernel
theorem dL_areRecordsRight_200 : decode cL_areRecordsRight 200 = .ok (.ireturn, 1) := by decide +kernel
theorem dL_areRecordsRight_201 : decode cL_areRecordsRight 201 = .ok (.aload_n 0, 1) := by decide +kernel
theorem dL_areRecordsRight_202 : decode cL_areRecordsRight 202 = .ok (.iload_n 2, 1) := by decide +kernel
theorem dL_areRecordsRight_203 : decode cL_areRecordsRight 203 = .ok (.iload 5, 2) := by decide +kernel
theorem dL_areRecordsRight_205 : decode cL_areRecordsRight 205 = .ok (.invokevirtual 114, 3) := by decide +kernel
theorem dL_areRecordsRight_208 : decode cL_areRecordsRight 208 = .ok (.iload 6, 2) := by decide +kernel
theorem dL_areRecordsRight_210 : decode cL_areRecordsRight 210 = .ok (.if_icmp .ne 14, 3) := by decide +kernel
theorem dL_areRecordsRight_213 : decode cL_areRecordsRight 213 = .ok (.aload_n 0, 1) := by decide +kernel
theorem dL_areRecordsRight_214 : decode cL_areRecordsRight 214 = .ok (.iload 6, 2) := by decide +kernel
theorem dL_areRecordsRight_216 : decode cL_areRecordsRight 216 = .ok (.iconst 3, 1) := by decide +kernel
theorem dL_areRecordsRight_217 : decode cL_areRecordsRight 217 = .ok (.invokevirtual 102, 3) := by decide +kernel
theorem dL_areRecordsRight_220 : decode cL_areRecordsRight 220 = .ok (.iconst 1, 1) := by decide +kernel
theorem dL_areRecordsRight_221 : decode cL_areRecordsRight 221 = .ok (.if_icmp .ge 5, 3) := by decide +kernel
theorem dL_areRecordsRight_224 : decode cL_areRecordsRight 224 = .ok (.iconst 0, 1) := by decide +kernel
theorem dL_areRecordsRight_225 : decode cL_areRecordsRight 225 = .ok (.ireturn, 1) := by decide +kernel
theorem dL_areRecordsRight_226 : decode cL_areRecordsRight 226 = .ok (.iinc 5 1, 3) := by decide +kernel
theorem dL_areRecordsRight_229 : decode cL_areRecordsRight 229 = .ok (.goto (-103), 3) := by decide +kernel
theorem dL_areRecordsRight_232 : decode cL_areRecordsRight 232 = .ok (.aload_n 0, 1) := by decide +kernel
theorem dL_areRecordsRight_233 : decode cL_areRecordsRight 233 = .ok (.iload_n 1, 1) := by decide +kernel
theorem dL_areRecordsRight_234 : decode cL_areRecordsRight 234 = .ok (.iload_n 1, 1) := by decide +kernel
theorem dL_areRecordsRight_235 : decode cL_areRecordsRight 235 = .ok (.invokevirtual 117, 3) := by decide +kernel
theorem dL_areRecordsRight_238 : decode cL_areRecordsRight 238 = .ok (.bipush 100, 2) := by decide +kernel
theorem dL_areRecordsRight_240 : decode cL_areRecordsRight 240 = .ok (.if_icmp .ne 24, 3) := by decide +kernel
theorem dL_areRecordsRight_243 : decode cL_areRecordsRight 243 = .ok (.aload_n 0, 1) := by decide +kernel
theorem dL_areRecordsRight_244 : decode cL_areRecordsRight 244 = .ok (.iload_n 1, 1) := by decide +kernel
theorem dL_areRecordsRight_245 : decode cL_areRecordsRight 245 = .ok (.bipush 101, 2) := by decide +kernel
theorem dL_areRecordsRight_247 : decode cL_areRecordsRight 247 = .ok (.invokevirtual 120, 3) := by decide +kernel
theorem dL_areRecordsRight_250 : decode cL_areRecordsRight 250 = .ok (.iconst (-1), 1) := by decide +kernel
theorem dL_areRecordsRight_251 : decode cL_areRecordsRight 251 = .ok (.if_icmp .ne 13, 3) := by decide +kernel
theorem dL_areRecordsRight_254 : decode cL_areRecordsRight 254 = .ok (.aload_n 0, 1) := by decide +kernel
theorem dL_areRecordsRight_255 : decode cL_areRecordsRight 255 = .ok (.iload_n 1, 1) := by decide +kernel
theorem dL_areRecordsRight_256 : decode cL_areRecordsRight 256 = .ok (.iconst 0, 1) := by decide +kernel
theorem dL_areRecordsRight_257 : decode cL_areRecordsRight 257 = .ok (.invokevirtual 120, 3) := by decide +kernel
theorem dL_areRecordsRight_260 : decode cL_areRecordsRight 260 = .ok (.iload_n 2, 1) := by decide +kernel
theorem dL_areRecordsRight_261 : decode cL_areRecordsRight 261 = .ok (.if_icmp .ne 5, 3) := by decide +kernel
theorem dL_areRecordsRight_264 : decode cL_areRecordsRight 264 = .ok (.iconst 0, 1) := by decide +kernel
theorem dL_areRecordsRight_265 : decode cL_areRecordsRight 265 = .ok (.ireturn, 1) := by decide +kernel
theorem dL_areRecordsRight_266 : decode cL_areRecordsRight 266 = .ok (.iinc 1 1, 3) := by decide +kernel
theorem dL_areRecordsRight_269 : decode cL_areRecordsRight 269 = .ok (.goto (-267), 3) := by decide +kernel
theorem dL_areRecordsRight_272 : decode cL_areRecordsRight 272 = .ok (.iconst 1, 1) := by decide +kernel
theorem dL_areRecordsRight_273 : decode cL_areRecordsRight 273 = .ok (.ireturn, 1) := by decide +kernel
theorem dL_areReadersRight_0 : decode cL_areReadersRight 0 = .ok (.iconst 0, 1) := by decide +kernel
theorem dL_areReadersRight_1 : decode cL_areReadersRight 1 = .ok (.istore_n 1, 1) := by decide +kernel
theorem dL_areReadersRight_2 : decode cL_areReadersRight 2 = .ok (.iconst 0, 1) := by decide +kernel
theorem dL_areReadersRight_3 : decode cL_areReadersRight 3 = .ok (.istore_n 2, 1) := by decide +kernel
theorem dL_areReadersRight_4 : decode cL_areReadersRight 4 = .ok (.iconst 0, 1) := by decide +kernel
theorem dL_areReadersRight_5 : decode cL_areReadersRight 5 = .ok (.istore_n 3, 1) := by decide +kernel
theorem dL_areReadersRight_6 : decode cL_areReadersRight 6 = .ok (.iconst 0, 1) := by decide +kernel
theorem dL_areReadersRight_7 : decode cL_areReadersRight 7 = .ok (.istore 4, 2) := by decide +kernel
theorem dL_areReadersRight_9 : decode cL_areReadersRight 9 = .ok (.iconst 0, 1) := by decide +kernel
theorem dL_areReadersRight_10 : decode cL_areReadersRight 10 = .ok (.istore 5, 2) := by decide +kernel
theorem dL_areReadersRight_12 : decode cL_areReadersRight 12 = .ok (.iload 5, 2) := by decide +kernel
theorem dL_areReadersRight_14 : decode cL_areReadersRight 14 = .ok (.aload_n 0, 1) := by decide +kernel
theorem dL_areReadersRight_15 : decode cL_areReadersRight 15 = .ok (.iconst 4, 1) := by decide +kernel
theorem dL_areReadersRight_16 : decode cL_areReadersRight 16 = .ok (.invokevirtual 34, 3) := by decide +kernel
theorem dL_areReadersRight_19 : decode cL_areReadersRight 19 = .ok (.if_icmp .ge 192, 3) := by decide +kernel
theorem dL_areReadersRight_22 : decode cL_areReadersRight 22 = .ok (.iload_n 1, 1) := by decide +kernel
theorem dL_areReadersRight_23 : decode cL_areReadersRight 23 = .ok (.aload_n 0, 1) := by decide +kernel
theorem dL_areReadersRight_24 : decode cL_areReadersRight 24 = .ok (.iload 5, 2) := by decide +kernel
theorem dL_areReadersRight_26 : decode cL_areReadersRight 26 = .ok (.iconst 2, 1) := by decide +kernel
theorem dL_areReadersRight_27 : decode cL_areReadersRight 27 = .ok (.invokevirtual 102, 3) := by decide +kernel
theorem dL_areReadersRight_30 : decode cL_areReadersRight 30 = .ok (.iadd, 1) := by decide +kernel
theorem dL_areReadersRight_31 : decode cL_areReadersRight 31 = .ok (.istore_n 1, 1) := by decide +kernel
theorem dL_areReadersRight_32 : decode cL_areReadersRight 32 = .ok (.iload_n 2, 1) := by decide +kernel
theorem dL_areReadersRight_33 : decode cL_areReadersRight 33 = .ok (.aload_n 0, 1) := by decide +kernel
theorem dL_areReadersRight_34 : decode cL_areReadersRight 34 = .ok (.iload 5, 2) := by decide +kernel
theorem dL_areReadersRight_36 : decode cL_areReadersRight 36 = .ok (.iconst 1, 1) := by decide +kernel
theorem dL_areReadersRight_37 : decode cL_areReadersRight 37 = .ok (.invokevirtual 102, 3) := by decide +kernel
theorem dL_areReadersRight_40 : decode cL_areReadersRight 40 = .ok (.iadd, 1) := by decide +kernel
theorem dL_areReadersRight_41 : decode cL_areReadersRight 41 = .ok (.istore_n 2, 1) := by decide +kernel
theorem dL_areReadersRight_42 : decode cL_areReadersRight 42 = .ok (.iload_n 3, 1) := by decide +kernel
theorem dL_areReadersRight_43 : decode cL_areReadersRight 43 = .ok (.aload_n 0, 1) := by decide +kernel
theorem dL_areReadersRight_44 : decode cL_areReadersRight 44 = .ok (.iload 5, 2) := by decide +kernel
theorem dL_areReadersRight_46 : decode cL_areReadersRight 46 = .ok (.iconst 4, 1) := by decide +kernel
theorem dL_areReadersRight_47 : decode cL_areReadersRight 47 = .ok (.invokevirtual 102, 3) := by decide +kernel
theorem dL_areReadersRight_50 : decode cL_areReadersRight 50 = .ok (.iadd, 1) := by decide +kernel
theorem dL_areReadersRight_51 : decode cL_areReadersRight 51 = .ok (.istore_n 3, 1) := by decide +kernel
theorem dL_areReadersRight_52 : decode cL_areReadersRight 52 = .ok (.iload 4, 2) := by decide +kernel
theorem dL_areReadersRight_54 : decode cL_areReadersRight 54 = .ok (.aload_n 0, 1) := by decide +kernel
theorem dL_areReadersRight_55 : decode cL_areReadersRight 55 = .ok (.iload 5, 2) := by decide +kernel
theorem dL_areReadersRight_57 : decode cL_areReadersRight 57 = .ok (.iconst 3, 1) := by decide +kernel
theorem dL_areReadersRight_58 : decode cL_areReadersRight 58 = .ok (.invokevirtual 102, 3) := by decide +kernel
theorem dL_areReadersRight_61 : decode cL_areReadersRight 61 = .ok (.iadd, 1) := by decide +kernel
theorem dL_areReadersRight_62 : decode cL_areReadersRight 62 = .ok (.istore 4, 2) := by decide +kernel
theorem dL_areReadersRight_64 : decode cL_areReadersRight 64 = .ok (.aload_n 0, 1) := by decide +kernel
theorem dL_areReadersRight_65 : decode cL_areReadersRight 65 = .ok (.iload 5, 2) := by decide +kernel
theorem dL_areReadersRight_67 : decode cL_areReadersRight 67 = .ok (.invokevirtual 123, 3) := by decide +kernel
theorem dL_areReadersRight_70 : decode cL_areReadersRight 70 = .ok (.istore 6, 2) := by decide +kernel
theorem dL_areReadersRight_72 : decode cL_areReadersRight 72 = .ok (.aload_n 0, 1) := by decide +kernel
theorem dL_areReadersRight_73 : decode cL_areReadersRight 73 = .ok (.iload 5, 2) := by decide +kernel
theorem dL_areReadersRight_75 : decode cL_areReadersRight 75 = .ok (.iconst 1, 1) := by decide +kernel
theorem dL_areReadersRight_76 : decode cL_areReadersRight 76 = .ok (.invokevirtual 102, 3) := by decide +kernel
theorem dL_areReadersRight_79 : decode cL_areReadersRight 79 = .ok (.iconst 2, 1) := by decide +kernel
theorem dL_areReadersRight_80 : decode cL_areReadersRight 80 = .ok (.iconst 2, 1) := by decide +kernel
theorem dL_areReadersRight_81 : decode cL_areReadersRight 81 = .ok (.aload_n 0, 1) := by decide +kernel
theorem dL_areReadersRight_82 : decode cL_areReadersRight 82 = .ok (.iload 5, 2) := by decide +kernel
theorem dL_areReadersRight_84 : decode cL_areReadersRight 84 = .ok (.iconst 0, 1) := by decide +kernel
theorem dL_areReadersRight_85 : decode cL_areReadersRight 85 = .ok (.invokevirtual 102, 3) := by decide +kernel
theorem dL_areReadersRight_88 : decode cL_areReadersRight 88 = .ok (.imul, 1) := by decide +kernel
theorem dL_areReadersRight_89 : decode cL_areReadersRight 89 = .ok (.iadd, 1) := by decide +kernel
theorem dL_areReadersRight_90 : decode cL_areReadersRight 90 = .ok (.if_icmp .gt 113, 3) := by decide +kernel
theorem dL_areReadersRight_93 : decode cL_areReadersRight 93 = .ok (.aload_n 0, 1) := by decide +kernel
theorem dL_areReadersRight_94 : decode cL_areReadersRight 94 = .ok (.iload 5, 2) := by decide +kernel
theorem dL_areReadersRight_96 : decode cL_areReadersRight 96 = .ok (.iconst 5, 1) := by decide +kernel
theorem dL_areReadersRight_97 : decode cL_areReadersRight 97 = .ok (.invokevirtual 102, 3) := by decide +kernel
theorem dL_areReadersRight_100 : decode cL_areReadersRight 100 = .ok (.aload_n 0, 1) := by decide +kernel
theorem dL_areReadersRight_101 : decode cL_areReadersRight 101 = .ok (.iload 5, 2) := by decide +kernel
theorem dL_areReadersRight_103 : decode cL_areReadersRight 103 = .ok (.iconst 1, 1) := by decide +kernel
theorem dL_areReadersRight_104 : decode cL_areReadersRight 104 = .ok (.invokevirtual 102, 3) := by decide +kernel
theorem dL_areReadersRight_107 : decode cL_areReadersRight 107 = .ok (.if_icmp .gt 96, 3) := by decide +kernel
theorem dL_areReadersRight_110 : decode cL_areReadersRight 110 = .ok (.aload_n 0, 1) := by decide +kernel
theorem dL_areReadersRight_111 : decode cL_areReadersRight 111 = .ok (.iload 5, 2) := by decide +kernel
theorem dL_areReadersRight_113 : decode cL_areReadersRight 113 = .ok (.iconst 4, 1) := by decide +kernel
theorem dL_areReadersRight_114 : decode cL_areReadersRight 114 = .ok (.invokevirtual 102, 3) := by decide +kernel
theorem dL_areReadersRight_117 : decode cL_areReadersRight 117 = .ok (.aload_n 0, 1) := by decide +kernel
theorem dL_areReadersRight_118 : decode cL_areReadersRight 118 = .ok (.iload 5, 2) := by decide +kernel
theorem dL_areReadersRight_120 : decode cL_areReadersRight 120 = .ok (.iconst 3, 1) := by decide +kernel
theorem dL_areReadersRight_121 : decode cL_areReadersRight 121 = .ok (.invokevirtual 102, 3) := by decide +kernel
theorem dL_areReadersRight_124 : decode cL_areReadersRight 124 = .ok (.if_icmp .gt 79, 3) := by decide +kernel
theorem dL_areReadersRight_127 : decode cL_areReadersRight 127 = .ok (.aload_n 0, 1) := by decide +kernel
theorem dL_areReadersRight_128 : decode cL_areReadersRight 128 = .ok (.iload 5, 2) := by decide +kernel
theorem dL_areReadersRight_130 : decode cL_areReadersRight 130 = .ok (.iconst 2, 1) := by decide +kernel
theorem dL_areReadersRight_131 : decode cL_areReadersRight 131 = .ok (.invokevirtual 102, 3) := by decide +kernel
theorem dL_areReadersRight_134 : decode cL_areReadersRight 134 = .ok (.ifCond .lt 69, 3) := by decide +kernel
theorem dL_areReadersRight_137 : decode cL_areReadersRight 137 = .ok (.iload 6, 2) := by decide +kernel
theorem dL_areReadersRight_139 : decode cL_areReadersRight 139 = .ok (.aload_n 0, 1) := by decide +kernel
theorem dL_areReadersRight_140 : decode cL_areReadersRight 140 = .ok (.iconst 5, 1) := by decide +kernel
theorem dL_areReadersRight_141 : decode cL_areReadersRight 141 = .ok (.invokevirtual 34, 3) := by decide +kernel
theorem dL_areReadersRight_144 : decode cL_areReadersRight 144 = .ok (.aload_n 0, 1) := by decide +kernel
theorem dL_areReadersRight_145 : decode cL_areReadersRight 145 = .ok (.iload 5, 2) := by decide +kernel
theorem dL_areReadersRight_147 : decode cL_areReadersRight 147 = .ok (.iconst 4, 1) := by decide +kernel
theorem dL_areReadersRight_148 : decode cL_areReadersRight 148 = .ok (.invokevirtual 102, 3) := by decide +kernel
theorem dL_areReadersRight_151 : decode cL_areReadersRight 151 = .ok (.iadd, 1) := by decide +kernel
theorem dL_areReadersRight_152 : decode cL_areReadersRight 152 = .ok (.if_icmp .gt 51, 3) := by decide +kernel
theorem dL_areReadersRight_155 : decode cL_areReadersRight 155 = .ok (.iload 6, 2) := by decide +kernel
theorem dL_areReadersRight_157 : decode cL_areReadersRight 157 = .ok (.ifCond .le 25, 3) := by decide +kernel
theorem dL_areReadersRight_160 : decode cL_areReadersRight 160 = .ok (.aload_n 0, 1) := by decide +kernel
theorem dL_areReadersRight_161 : decode cL_areReadersRight 161 = .ok (.iload 5, 2) := by decide +kernel
theorem dL_areReadersRight_163 : decode cL_areReadersRight 163 = .ok (.iconst 2, 1) := by decide +kernel
theorem dL_areReadersRight_164 : decode cL_areReadersRight 164 = .ok (.invokevirtual 102, 3) := by decide +kernel
theorem dL_areReadersRight_167 : decode cL_areReadersRight 167 = .ok (.bipush 50, 2) := by decide +kernel
theorem dL_areReadersRight_169 : decode cL_areReadersRight 169 = .ok (.if_icmp .gt 34, 3) := by decide +kernel
theorem dL_areReadersRight_172 : decode cL_areReadersRight 172 = .ok (.aload_n 0, 1) := by decide +kernel
theorem dL_areReadersRight_173 : decode cL_areReadersRight 173 = .ok (.iload 5, 2) := by decide +kernel
theorem dL_areReadersRight_175 : decode cL_areReadersRight 175 = .ok (.iconst 5, 1) := by decide +kernel
theorem dL_areReadersRight_176 : decode cL_areReadersRight 176 = .ok (.invokevirtual 102, 3) := by decide +kernel
theorem dL_areReadersRight_179 : decode cL_areReadersRight 179 = .ok (.ifCond .gt 24, 3) := by decide +kernel
theorem dL_areReadersRight_182 : decode cL_areReadersRight 182 = .ok (.aload_n 0, 1) := by decide +kernel
theorem dL_areReadersRight_183 : decode cL_areReadersRight 183 = .ok (.iload 5, 2) := by decide +kernel
theorem dL_areReadersRight_185 : decode cL_areReadersRight 185 = .ok (.bipush 6, 2) := by decide +kernel
theorem dL_areReadersRight_187 : decode cL_areReadersRight 187 = .ok (.invokevirtual 102, 3) := by decide +kernel
theorem dL_areReadersRight_190 : decode cL_areReadersRight 190 = .ok (.bipush 40, 2) := by decide +kernel
theorem dL_areReadersRight_192 : decode cL_areReadersRight 192 = .ok (.aload_n 0, 1) := by decide +kernel
theorem dL_areReadersRight_193 : decode cL_areReadersRight 193 = .ok (.iload 5, 2) := by decide +kernel
theorem dL_areReadersRight_195 : decode cL_areReadersRight 195 = .ok (.iconst 5, 1) := by decide +kernel
theorem dL_areReadersRight_196 : decode cL_areReadersRight 196 = .ok (.invokevirtual 102, 3) := by decide +kernel
theorem dL_areReadersRight_199 : decode cL_areReadersRight 199 = .ok (.imul, 1) := by decide +kernel
theorem dL_areReadersRight_200 : decode cL_areReadersRight 200 = .ok (.if_icmp .le 5, 3) := by decide +kernel
theorem dL_areReadersRight_203 : decode cL_areReadersRight 203 = .ok (.iconst 0, 1) := by decide +kernel
theorem dL_areReadersRight_204 : decode cL_areReadersRight 204 = .ok (.ireturn, 1) := by decide +kernel
theorem dL_areReadersRight_205 : decode cL_areReadersRight 205 = .ok (.iinc 5 1, 3) := by decide +kernel
theorem dL_areReadersRight_208 : decode cL_areReadersRight 208 = .ok (.goto (-196), 3) := by decide +kernel
theorem dL_areReadersRight_211 : decode cL_areReadersRight 211 = .ok (.aload_n 0, 1) := by decide +kernel
theorem dL_areReadersRight_212 : decode cL_areReadersRight 212 = .ok (.bipush 9, 2) := by decide +kernel
theorem dL_areReadersRight_214 : decode cL_areReadersRight 214 = .ok (.invokevirtual 34, 3) := by decide +kernel
theorem dL_areReadersRight_217 : decode cL_areReadersRight 217 = .ok (.iload_n 1, 1) := by decide +kernel
theorem dL_areReadersRight_218 : decode cL_areReadersRight 218 = .ok (.if_icmp .ne 52, 3) := by decide +kernel
theorem dL_areReadersRight_221 : decode cL_areReadersRight 221 = .ok (.aload_n 0, 1) := by decide +kernel
theorem dL_areReadersRight_222 : decode cL_areReadersRight 222 = .ok (.bipush 6, 2) := by decide +kernel
theorem dL_areReadersRight_224 : decode cL_areReadersRight 224 = .ok (.invokevirtual 34, 3) := by decide +kernel
theorem dL_areReadersRight_227 : decode cL_areReadersRight 227 = .ok (.iload_n 2, 1) := by decide +kernel
theorem dL_areReadersRight_228 : decode cL_areReadersRight 228 = .ok (.if_icmp .ne 42, 3) := by decide +kernel
theorem dL_areReadersRight_231 : decode cL_areReadersRight 231 = .ok (.aload_n 0, 1) := by decide +kernel
theorem dL_areReadersRight_232 : decode cL_areReadersRight 232 = .ok (.bipush 7, 2) := by decide +kernel
theorem dL_areReadersRight_234 : decode cL_areReadersRight 234 = .ok (.invokevirtual 34, 3) := by decide +kernel
theorem dL_areReadersRight_237 : decode cL_areReadersRight 237 = .ok (.iload_n 3, 1) := by decide +kernel
theorem dL_areReadersRight_238 : decode cL_areReadersRight 238 = .ok (.if_icmp .ne 32, 3) := by decide +kernel
theorem dL_areReadersRight_241 : decode cL_areReadersRight 241 = .ok (.aload_n 0, 1) := by decide +kernel
theorem dL_areReadersRight_242 : decode cL_areReadersRight 242 = .ok (.invokevirtual 126, 3) := by decide +kernel
theorem dL_areReadersRight_245 : decode cL_areReadersRight 245 = .ok (.aload_n 0, 1) := by decide +kernel
theorem dL_areReadersRight_246 : decode cL_areReadersRight 246 = .ok (.iconst 4, 1) := by decide +kernel
theorem dL_areReadersRight_247 : decode cL_areReadersRight 247 = .ok (.invokevirtual 34, 3) := by decide +kernel
theorem dL_areReadersRight_250 : decode cL_areReadersRight 250 = .ok (.i2d, 1) := by decide +kernel
theorem dL_areReadersRight_251 : decode cL_areReadersRight 251 = .ok (.dmul, 1) := by decide +kernel
theorem dL_areReadersRight_252 : decode cL_areReadersRight 252 = .ok (.iload 4, 2) := by decide +kernel
theorem dL_areReadersRight_254 : decode cL_areReadersRight 254 = .ok (.i2d, 1) := by decide +kernel
theorem dL_areReadersRight_255 : decode cL_areReadersRight 255 = .ok (.dsub, 1) := by decide +kernel
theorem dL_areReadersRight_256 : decode cL_areReadersRight 256 = .ok (.invokestatic 130, 3) := by decide +kernel
theorem dL_areReadersRight_259 : decode cL_areReadersRight 259 = .ok (.ldc2_w 134, 3) := by decide +kernel
theorem dL_areReadersRight_262 : decode cL_areReadersRight 262 = .ok (.dcmp .g, 1) := by decide +kernel
theorem dL_areReadersRight_263 : decode cL_areReadersRight 263 = .ok (.ifCond .ge 7, 3) := by decide +kernel
theorem dL_areReadersRight_266 : decode cL_areReadersRight 266 = .ok (.iconst 1, 1) := by decide +kernel
theorem dL_areReadersRight_267 : decode cL_areReadersRight 267 = .ok (.goto 4, 3) := by decide +kernel
theorem dL_areReadersRight_270 : decode cL_areReadersRight 270 = .ok (.iconst 0, 1) := by decide +kernel
theorem dL_areReadersRight_271 : decode cL_areReadersRight 271 = .ok (.ireturn, 1) := by decide +kernel
end
section
/-! THE ABSTRACT HEAP: what lies at an address (an object: number of its class in vwCl and its fields; an array: its type and what it holds); V: the walk of a frame over an abstract heap -/
abbrev ME : Type := (FieldType × vp_A) ⊕ (Nat × List Value)
abbrev HP : Type := Nat → Option ME
def hup (h : HP) (q : Nat) (e : ME) : HP := fun x => if x = q then some e else h x
theorem hup_self (h : HP) (q : Nat) (e : ME) : hup h q e q = some e := by simp [hup]
theorem hup_ne (h : HP) {q x : Nat} (e : ME) (hx : x ≠ q) : hup h q e x = h x := by simp [hup, hx]
/-- the launch, the tables' numbers, from where on the cells are ours, the script's address, length, ints -/
abbrev GC : Type := Launch × va_G × Nat × Nat × Nat × (Nat → Int32)
def Rin (ws : va_W) (tys : List (ClassId × FieldType)) (q : Nat) (e : ME) : Prop := match e with
  | .inl a => ∃ (i j : Nat) (cA : ClassId), ws[i]? = some (q, .inl (cA, a.2)) ∧ tys[j]? = some (cA, a.1)
  | .inr o => ∃ i : Nat, ws[i]? = some (q, .inr o)
def Rp (D : va_G) (s : State) (lo : Nat) (h : HP) (H : Heap) : Prop :=
  ∃ (ws : va_W) (tys : List (ClassId × FieldType)), va_K D vwCl tys s ∧ va_P D vwCl ws H ∧ va_D (fun q => lo ≤ q) ws ∧ ∀ (q : Nat) (e : ME), h q = some e → Rin ws tys q e
theorem Rp.moved {D : va_G} {u U : State} {lo : Nat} {h : HP} {H : Heap} (hvm : u.vm.Alike U.vm) (hr : Rp D u lo h H) : Rp D U lo h H := by
  obtain ⟨ws, tys, hK, r⟩ := hr
  exact ⟨ws, tys, hK.moved hvm, r⟩
theorem Rin.mono {ws : va_W} {tys tys' : List (ClassId × FieldType)} {q : Nat} {e : ME} (x : va_W) (hr : Rin ws tys q e) : Rin (ws ++ x) (tys ++ tys') q e := by
  rcases e with a | o
  · obtain ⟨i, j, cA, h1, h2⟩ := hr
    exact ⟨i, j, cA, by rw [List.getElem?_append_left (List.getElem?_eq_some_iff.mp h1).1]; exact h1, by rw [List.getElem?_append_left (List.getElem?_eq_some_iff.mp h2).1]; exact h2⟩
  · obtain ⟨i, h1⟩ := hr
    exact ⟨i, by rw [List.getElem?_append_left (List.getElem?_eq_some_iff.mp h1).1]; exact h1⟩
/-- one cell is written -/
theorem Rin.set {A : Nat → Prop} {ws : va_W} {tys : List (ClassId × FieldType)} {h : HP} {i q : Nat} {e0 e : va_E} {m : ME} (hD : va_D A ws) (hi : ws[i]? = some (q, e0)) (hm : Rin (ws.set i (q, e)) tys q m) (hr : ∀ (q : Nat) (e : ME), h q = some e → Rin ws tys q e) : ∀ (x : Nat) (y : ME), hup h q m x = some y → Rin (ws.set i (q, e)) tys x y := by
  intro x y hx
  by_cases hxq : x = q
  · subst hxq
    rw [hup_self] at hx
    cases hx
    exact hm
  · rw [hup_ne _ _ hxq] at hx
    have h1 := hr x y hx
    rcases y with a | o
    · obtain ⟨i', j, cA, h1, h2⟩ := h1
      have hne : i ≠ i' := fun z => by subst z; rw [hi] at h1; cases h1; exact hxq rfl
      exact ⟨i', j, cA, by rw [List.getElem?_set_ne hne]; exact h1, h2⟩
    · obtain ⟨i', h1⟩ := h1
      have hne : i ≠ i' := fun z => by subst z; rw [hi] at h1; cases h1; exact hxq rfl
      exact ⟨i', by rw [List.getElem?_set_ne hne]; exact h1⟩
theorem Rin.push {ws : va_W} {tys tys' : List (ClassId × FieldType)} {h : HP} {q : Nat} {e : va_E} {m : ME} (hm : Rin (ws ++ [(q, e)]) (tys ++ tys') q m) (hr : ∀ (q : Nat) (e : ME), h q = some e → Rin ws tys q e) : ∀ (x : Nat) (y : ME), hup h q m x = some y → Rin (ws ++ [(q, e)]) (tys ++ tys') x y := by
  intro x y hx
  by_cases hxq : x = q
  · subst hxq
    rw [hup_self] at hx
    cases hx
    exact hm
  · rw [hup_ne _ _ hxq] at hx
    exact (hr x y hx).mono _
theorem Rin.fresh {A : Nat → Prop} {ws : va_W} {tys : List (ClassId × FieldType)} {h : HP} {q : Nat} {e : va_E} (hD : va_D A (ws ++ [(q, e)])) (hr : ∀ (q : Nat) (e : ME), h q = some e → Rin ws tys q e) : h q = none := by
  cases hx : h q with
  | none => rfl
  | some y =>
    exfalso
    have key : ∀ (i : Nat) (e' : va_E), ws[i]? = some (q, e') → False := by
      intro i e' h1
      have hl := (List.getElem?_eq_some_iff.mp h1).1
      have := hD.1 i ws.length (q, e') (q, e) (by rw [List.getElem?_append_left hl]; exact h1) (by simp) rfl
      omega
    have h1 := hr q y hx
    rcases y with a | o
    · obtain ⟨i, j, cA, h1, -⟩ := h1
      exact key i _ h1
    · obtain ⟨i, h1⟩ := h1
      exact key i _ h1
/-! the tables' words at any state of the run -/
def wk (w : Cond) : Bool := goodWord w || match w with
  | .arrayOver (.object _) => true
  | .declares _ => true
  | .castable _ _ => true
  | .privateMethod _ => true
  | .methodLinkNest _ _ _ _ => true
  | _ => false
theorem wk_move {args a' : Array Value} {s U : State} (hW : s.WarmedH U.vm) {w : Cond} (hk : wk w = true) (h : w.before args s = true) : w.before a' U = true := by
  by_cases hg : goodWord w = true
  · exact word_at hW (good_of_word hg) h
  · have hf : w.faceAtom = true → w.onTables = true → w.before a' U = true := fun h1 h2 => by
      have h3 := Cond.faceAtom_setVm hW.alike w h1 h
      exact va_tabs h2 (rfl : (s.setVm U.vm).vm = U.vm) h3
    unfold wk at hk
    simp only [hg, Bool.false_or] at hk
    cases w with
    | arrayOver ty =>
      cases ty with
      | object C => exact va_AO.use (va_AO.moved hW.alike (va_AO.of (C := C) h))
      | _ => simp at hk
    | declares x => exact hf rfl rfl
    | castable x y => exact hf rfl rfl
    | privateMethod x => exact hf rfl rfl
    | methodLinkNest x1 x2 x3 x4 => exact va_Nw.use rfl (va_Nw.warmM hW (va_Nw.of rfl h))
    | _ => simp at hk
def tbW : List Cond := lw_tbl.filter wk
def TBw (U : State) : Prop := ∀ w ∈ tbW, w.before #[] U = true
theorem TBw.use {s : State} {args : Array Value} (h : TBw s) : ∀ w ∈ tbW, w.before args s = true := fun w hw => wk_move (State.WarmedH.refl s) (List.mem_filter.mp hw).2 (h w hw)
theorem TBw.move {s U : State} (h : TBw s) (hW : s.WarmedH U.vm) : TBw U := fun w hw => wk_move hW (List.mem_filter.mp hw).2 (h w hw)
/-- the texts that the class throws with, by their entries -/
def srl : List (Nat × String) := [(39, "there are 16 names"), (319, "no such name"), (329, "a number is beyond what is allowed"), (78, "there were 20 records"), (159, "there are 8 readers"), (321, "no such record"), (139, "the record is not live, or there were 30 copies"), (325, "no such reader"), (323, "no such copy"), (179, "the reader may not borrow the copy"), (210, "the copy cannot be renewed"), (218, "the copy is not lent"), (249, "the reader has a copy, or waits already"), (260, "the reader does not wait for the record"), (224, "the copy is not lost"), (104, "one record is not live, or they are the same"), (270, "no such place")]
def SRw (U : State) : Prop := ∀ q ∈ srl, ∃ a : Nat, vk_R RX5 q.1 q.2 a U
theorem SRw.move {s U : State} (h : SRw s) (hW : s.WarmedH U.vm) : SRw U := fun q hq => by
  obtain ⟨a, ha⟩ := h q hq
  exact ⟨a, ha.warm hW⟩
def ZQw (lo : Nat) (U : State) (H : Heap) : Prop := vx_Zq Bundle.tN "UNASSIGNED_STACK" Bundle.steD (fun q => lo ≤ q) U H ∧ vx_Zq Bundle.tN "SUPPRESSED_SENTINEL" Bundle.listD (fun q => lo ≤ q) U H
def eIO : String := "java/lang/IndexOutOfBoundsException"
def eIA : String := "java/lang/IllegalArgumentException"
def eIS : String := "java/lang/IllegalStateException"
def NCw (U : State) : Prop := va_Nc eIA eIO U ∧ va_Nc eIS eIO U ∧ va_Nc eIS eIA U
theorem NCw.move {s U : State} (h : NCw s) (hW : s.WarmedH U.vm) : NCw U := ⟨h.1.moved hW.alike, h.2.1.moved hW.alike, h.2.2.moved hW.alike⟩
/-- what holds at every state of the run -/
def Iv (G : GC) (U : State) (H : Heap) : Prop := match G with
  | (_, _, lo, b, L, xs) => TBw U ∧ SRw U ∧ ZQw lo U H ∧ NCw U ∧ lo ≤ H.size ∧ b < lo ∧ va_X b L xs U H
theorem Iv.move {G : GC} {s U : State} {H H1 : Heap} (h : Iv G s H) (hW : s.WarmedH U.vm) (hz : H.size ≤ H1.size) (hq : ∀ q : Nat, q < H.size → ¬ G.2.2.1 ≤ q → H1[q]? = H[q]?) : Iv G U H1 := by
  obtain ⟨l, D, lo, b, L, xs⟩ := G
  obtain ⟨h1, h2, h3, h4, h5, h6, h7⟩ := h
  exact ⟨h1.move hW, h2.move hW, ⟨(h3.1.kept hq).moved hW.alike, (h3.2.kept hq).moved hW.alike⟩, h4.move hW, Nat.le_trans h5 hz, h6, (h7.kept (hq b (Nat.lt_of_lt_of_le h6 h5) (Nat.not_le.mpr h6))).moved hW.alike⟩
end
section
/-! THE JUDGEMENT V -/
abbrev ZC : Type := GC × Program × Env × Room × State × MethodId × Array Value × List Frame × Method × Code × (State → Prop)
def lH (ls : Array Slot) (nL : Nat) (lv : List (Option Value)) : Prop := ls.size = nL ∧ lv_wf ls ∧ ∀ (i : Nat) (v : Value), lv[i]? = some (some v) → ls[i]? = some (.val v)
def lz (lv : List (Option Value)) : List (Nat × Value) := (List.range lv.length).filterMap fun i => match lv[i]? with
  | some (some v) => some (i, v)
  | _ => none
theorem mem_lz {lv : List (Option Value)} {i : Nat} {v : Value} : (i, v) ∈ lz lv ↔ lv[i]? = some (some v) := by
  unfold lz
  rw [List.mem_filterMap]
  constructor
  · rintro ⟨j, -, h⟩
    split at h
    · rename_i w hw
      cases h
      exact hw
    · cases h
  · intro h
    refine ⟨i, List.mem_range.mpr (List.getElem?_eq_some_iff.mp h).1, ?_⟩
    rw [h]
theorem lH.has {ls : Array Slot} {nL : Nat} {lv : List (Option Value)} (h : lH ls nL lv) : lv_has ls nL (lz lv) := ⟨h.1, h.2.1, fun q hq => h.2.2 q.1 q.2 (mem_lz.mp hq)⟩
theorem lH.at {ls : Array Slot} {nL : Nat} {lv : List (Option Value)} (h : lH ls nL lv) {i : Nat} {v : Value} (hi : lv[i]? = some (some v)) : ls[i]? = some (.val v) := h.2.2 i v hi
/-- fewer known locals -/
def lsub (lv lw : List (Option Value)) : Prop := ∀ (i : Nat) (v : Value), lw[i]? = some (some v) → lv[i]? = some (some v)
theorem lH.sub {ls : Array Slot} {nL : Nat} {lv lw : List (Option Value)} (h : lH ls nL lv) (hs : lsub lv lw) : lH ls nL lw := ⟨h.1, h.2.1, fun i v hi => h.2.2 i v (hs i v hi)⟩
theorem lsub.nil {lv : List (Option Value)} : lsub lv [] := fun i v h => by simp at h
theorem lsub.same {x : Option Value} {lv lw : List (Option Value)} (h : lsub lv lw) : lsub (x :: lv) (x :: lw) := by
  intro i v hi
  cases i with
  | zero => exact hi
  | succ i => exact h i v hi
theorem lsub.drop {x : Option Value} {lv lw : List (Option Value)} (h : lsub lv lw) : lsub (x :: lv) (none :: lw) := by
  intro i v hi
  cases i with
  | zero => cases hi
  | succ i => exact h i v hi
theorem lsub.rf {lv : List (Option Value)} : lsub lv lv := fun _ _ h => h
/-- no value of two slots ends in slot i -/
def okp (lv : List (Option Value)) : Nat → Bool
  | 0 => true
  | j + 1 => match lv[j]? with
    | some (some w) => w.category != 2
    | _ => true
theorem okp_use {lv : List (Option Value)} {i j : Nat} {w : Value} (h : okp lv i = true) (hj : j + 1 = i) (hw : lv[j]? = some (some w)) : ¬ w.category = 2 := by
  subst hj
  simp only [okp, hw] at h
  simpa using h
theorem lH.store1 {ls' : Array Slot} {nL i : Nat} {lv : List (Option Value)} {v : Value} (ho : okp lv i = true) (h : lv_has ls' nL ((i, v) :: (lz lv).filter (fun q => !(q.1 == i) && !(q.1 + 1 == i && q.2.category == 2)))) : lH ls' nL (lv.set i (some v)) := by
  refine ⟨h.1, h.2.1, fun j w hj => h.2.2 (j, w) ?_⟩
  by_cases hji : i = j
  · subst hji
    have hl : i < lv.length := by
      have := (List.getElem?_eq_some_iff.mp hj).1
      simpa using this
    rw [List.getElem?_set_self hl] at hj
    cases hj
    exact List.mem_cons_self
  · rw [List.getElem?_set_ne hji] at hj
    refine List.mem_cons_of_mem _ (List.mem_filter.mpr ⟨mem_lz.mpr hj, ?_⟩)
    have hne : ¬ j = i := fun z => hji z.symm
    simp only [Bool.and_eq_true, Bool.not_eq_true', beq_eq_false_iff_ne, ne_eq, Bool.and_eq_false_iff]
    refine ⟨hne, ?_⟩
    by_cases hc : j + 1 = i
    · exact Or.inr (okp_use ho hc hj)
    · exact Or.inl hc
theorem lH.store2 {ls' : Array Slot} {nL i : Nat} {lv : List (Option Value)} {v : Value} (ho : okp lv i = true) (h : lv_has ls' nL ((i, v) :: (lz lv).filter (fun q => !(q.1 == i) && (!(q.1 == i + 1) && !(q.1 + 1 == i && q.2.category == 2))))) : lH ls' nL ((lv.set i (some v)).set (i + 1) none) := by
  refine ⟨h.1, h.2.1, fun j w hj => h.2.2 (j, w) ?_⟩
  by_cases hj1 : i + 1 = j
  · subst hj1
    exfalso
    have hl := (List.getElem?_eq_some_iff.mp hj).1
    rw [List.length_set] at hl
    rw [List.getElem?_set_self (by exact hl)] at hj
    cases hj
  · rw [List.getElem?_set_ne hj1] at hj
    by_cases hji : i = j
    · subst hji
      have hl : i < lv.length := by
        have := (List.getElem?_eq_some_iff.mp hj).1
        simpa using this
      rw [List.getElem?_set_self hl] at hj
      cases hj
      exact List.mem_cons_self
    · rw [List.getElem?_set_ne hji] at hj
      refine List.mem_cons_of_mem _ (List.mem_filter.mpr ⟨mem_lz.mpr hj, ?_⟩)
      have hne : ¬ j = i := fun z => hji z.symm
      have hne1 : ¬ j = i + 1 := fun z => hj1 z.symm
      simp only [Bool.and_eq_true, Bool.not_eq_true', beq_eq_false_iff_ne, ne_eq, Bool.and_eq_false_iff]
      refine ⟨hne, hne1, ?_⟩
      by_cases hc : j + 1 = i
      · exact Or.inr (okp_use ho hc hj)
      · exact Or.inl hc
def V (Z : ZC) (pc : Nat) (lv : List (Option Value)) (st : List Value) (h : HP) (k n : Nat) : Prop := match Z with
  | ((l, D, lo, _, _, _), p, e, R, s, m, args, below, meth, c, Q) => ∀ (H : Heap) (locs : List Loc) (ls : Array Slot), Rp D s lo h H → va_S (fun q => lo ≤ q) s.heap H locs → lH ls c.maxLocals lv → W p l e R s m args below meth c H locs k n Q (F0 m pc ls st)
/-- thrown over the frame: an object of the class E -/
def VX (Z : ZC) (pc : Nat) (lv : List (Option Value)) (E : String) (h : HP) (k n : Nat) : Prop := match Z with
  | ((l, D, lo, _, _, _), p, e, R, s, m, args, below, meth, c, Q) => ∀ (H : Heap) (locs : List Loc) (ls : Array Slot) (q : Nat) (ce : Cell) (rest : List Value), Rp D s lo h H → va_S (fun q => lo ≤ q) s.heap H locs → lH ls c.maxLocals lv → H[q]? = some ce → ce.vm = .none → s.vm.findClass E = some ce.cls → vx_W p l e R s m args below meth c H locs k n Q (F0 m pc ls rest) q
/-- the frame's own: its class, code, number of locals, room -/
def OKz (Z : ZC) (own : String) (cc : ByteArray) (nL fr lc mc ms : Nat) : Prop := match Z with
  | (G, p, _, R, s, m, _, _, meth, c, _) => p.tables.exec = Jvm.exec ∧ c.code = cc ∧ c.maxLocals = nL ∧ s.vm.findClass own = some m.cls ∧ Iv G s s.heap ∧ meth.locks = false ∧ G.1.stackTraces = false ∧ R = { frames := fr, cells := mc, slots := ms, locals := lc }
/-- where a method ends: what it must have reached -/
def QcN (G : GC) (Qn : Option Value → HP → Prop) : Array Value → State → Outcome → State → Prop := fun _ st o t => ∃ (v : Option Value) (h : HP), o = .returned v ∧ Qn v h ∧ Rp G.2.1 t G.2.2.1 h t.heap ∧ va_F (fun q => G.2.2.1 ≤ q) st t
def XcN (G : GC) (Qx : String → HP → Prop) : String → State → State → Prop := fun E st t => ∃ h : HP, Qx E h ∧ Rp G.2.1 t G.2.2.1 h t.heap ∧ va_F (fun q => G.2.2.1 ≤ q) st t
def EDz (Z : ZC) (nm : String) (ret : Option FieldType) (mc ms : Nat) (Qn : Option Value → HP → Prop) (Qx : String → HP → Prop) : Prop := match Z with
  | (G, _, _, _, s, _, args, below, meth, _, Q) => meth.name = nm ∧ meth.sig.returnType = ret ∧ Q = vx_MQ below (QcN G Qn) (XcN G Qx) args s mc ms (fun q => G.2.2.1 ≤ q)
def NHz (Z : ZC) : Prop := match Z with
  | (_, _, _, _, _, _, _, _, _, c, _) => ∀ x ∈ c.exceptionTable.toList, False
/-- a method's contract over the abstract heap: called with args on h, it returns with Qn or throws with Qx; at most mc new cells of ms slots -/
def Calls (G : GC) (y : MethodName) (cc : ByteArray) (nL : Nat) (ret : Option FieldType) (fr lc mc ms : Nat) (args : List Value) (h : HP) (Qn : Option Value → HP → Prop) (Qx : String → HP → Prop) : Prop :=
  G.1.stackTraces = false → vx_Met G.1 y [Cond.code y cc nL ret] { frames := fr, cells := mc, slots := ms, locals := lc } (va_Pc args (fun U => Iv G U U.heap ∧ Rp G.2.1 U G.2.2.1 h U.heap)) (QcN G Qn) (XcN G Qx) mc ms (fun q => G.2.2.1 ≤ q)
section
variable {Z : ZC} {pc : Nat} {lv lw : List (Option Value)} {st : List Value} {h : HP} {k n : Nat}
theorem V.sub (hs : lsub lv lw) (kk : V Z pc lw st h k n) : V Z pc lv st h k n := by
  obtain ⟨⟨l, D, lo, b, L, xs⟩, p, e, R, s, m, args, below, meth, c, Q⟩ := Z
  intro H locs ls hR hS hl
  exact kk H locs ls hR hS (hl.sub hs)
theorem V.widen {k' n' : Nat} (h1 : k ≤ k') (h2 : n ≤ n') (kk : V Z pc lv st h k' n') : V Z pc lv st h k n := by
  obtain ⟨⟨l, D, lo, b, L, xs⟩, p, e, R, s, m, args, below, meth, c, Q⟩ := Z
  intro H locs ls hR hS hl
  exact W.widen h1 h2 (kk H locs ls hR hS hl)
theorem VX.widen {E : String} {k' n' : Nat} (h1 : k ≤ k') (h2 : n ≤ n') (kk : VX Z pc lv E h k' n') : VX Z pc lv E h k n := by
  obtain ⟨⟨l, D, lo, b, L, xs⟩, p, e, R, s, m, args, below, meth, c, Q⟩ := Z
  intro H locs ls q ce rest hR hS hl h1' h2' h3'
  exact vx_widen h1 h2 (kk H locs ls q ce rest hR hS hl h1' h2' h3')
end
end
section
/-! rows of V: constants, locals, the stack, numbers, branches -/
section
variable {Z : ZC} {pc : Nat} {lv : List (Option Value)} {st : List Value} {h : HP} {k n : Nat} {own : String} {cc : ByteArray} {nL fr lc mc ms : Nat}
theorem V_iconst (hZ : OKz Z own cc nL fr lc mc ms) {i : Int} {v : Int32} (hd : decode cc pc = .ok (.iconst i, 1)) (hv : Int32.ofInt i = v) (kk : V Z (pc + 1) lv (.int v :: st) h k n) : V Z pc lv (st) h k n := by
  obtain ⟨⟨l, D, lo, b, L, xs⟩, p, e, R, s, m, args, below, meth, c, Q⟩ := Z
  obtain ⟨hx, hb, hml, hown, hI, hlk, hst, hR0⟩ := hZ
  intro H locs ls hR hS hl
  exact lv_iconst hx hb hd hv (kk H locs ls hR hS hl)
theorem V_bipush (hZ : OKz Z own cc nL fr lc mc ms) {i : Int} {v : Int32} (hd : decode cc pc = .ok (.bipush i, 2)) (hv : (Int8.ofInt i).toInt32 = v) (kk : V Z (pc + 2) lv (.int v :: st) h k n) : V Z pc lv (st) h k n := by
  obtain ⟨⟨l, D, lo, b, L, xs⟩, p, e, R, s, m, args, below, meth, c, Q⟩ := Z
  obtain ⟨hx, hb, hml, hown, hI, hlk, hst, hR0⟩ := hZ
  intro H locs ls hR hS hl
  exact lv_bipush hx hb hd hv (kk H locs ls hR hS hl)
theorem V_sipush (hZ : OKz Z own cc nL fr lc mc ms) {i : Int} {v : Int32} (hd : decode cc pc = .ok (.sipush i, 3)) (hv : (Int16.ofInt i).toInt32 = v) (kk : V Z (pc + 3) lv (.int v :: st) h k n) : V Z pc lv (st) h k n := by
  obtain ⟨⟨l, D, lo, b, L, xs⟩, p, e, R, s, m, args, below, meth, c, Q⟩ := Z
  obtain ⟨hx, hb, hml, hown, hI, hlk, hst, hR0⟩ := hZ
  intro H locs ls hR hS hl
  exact lv_sipush hx hb hd hv (kk H locs ls hR hS hl)
theorem V_lconst (hZ : OKz Z own cc nL fr lc mc ms) {i : Fin 2} {v : Int64} (hd : decode cc pc = .ok (.lconst i, 1)) (hv : Int64.ofNat (i : Nat) = v) (kk : V Z (pc + 1) lv (.long v :: st) h k n) : V Z pc lv (st) h k n := by
  obtain ⟨⟨l, D, lo, b, L, xs⟩, p, e, R, s, m, args, below, meth, c, Q⟩ := Z
  obtain ⟨hx, hb, hml, hown, hI, hlk, hst, hR0⟩ := hZ
  intro H locs ls hR hS hl
  exact lv_lconst hx hb hd hv (kk H locs ls hR hS hl)
theorem V_dconst0 (hZ : OKz Z own cc nL fr lc mc ms) (hd : decode cc pc = .ok (.dconst 0, 1)) (kk : V Z (pc + 1) lv (.double FP.dconst0 :: st) h k n) : V Z pc lv (st) h k n := by
  obtain ⟨⟨l, D, lo, b, L, xs⟩, p, e, R, s, m, args, below, meth, c, Q⟩ := Z
  obtain ⟨hx, hb, hml, hown, hI, hlk, hst, hR0⟩ := hZ
  intro H locs ls hR hS hl
  exact lv_dconst0 hx hb hd (kk H locs ls hR hS hl)
theorem V_null (hZ : OKz Z own cc nL fr lc mc ms) (hd : decode cc pc = .ok (.aconst_null, 1)) (kk : V Z (pc + 1) lv (.null :: st) h k n) : V Z pc lv (st) h k n := by
  obtain ⟨⟨l, D, lo, b, L, xs⟩, p, e, R, s, m, args, below, meth, c, Q⟩ := Z
  obtain ⟨hx, hb, hml, hown, hI, hlk, hst, hR0⟩ := hZ
  intro H locs ls hR hS hl
  exact lv_null hx hb hd (kk H locs ls hR hS hl)
theorem V_iload_n (hZ : OKz Z own cc nL fr lc mc ms) {j : Fin 4} (jn : Nat) {x : Int32} (hd : decode cc pc = .ok (.iload_n j, 1)) (hj0 : (j : Nat) = jn) (hl0 : lv[jn]? = some (some (.int x))) (kk : V Z (pc + 1) lv (.int x :: st) h k n) : V Z pc lv (st) h k n := by
  obtain ⟨⟨l, D, lo, b, L, xs⟩, p, e, R, s, m, args, below, meth, c, Q⟩ := Z
  obtain ⟨hx, hb, hml, hown, hI, hlk, hst, hR0⟩ := hZ
  intro H locs ls hR hS hl
  exact lv_iload_n hx hb hd hj0 (hl.at hl0) (kk H locs ls hR hS hl)
theorem V_iload (hZ : OKz Z own cc nL fr lc mc ms) {j : Nat} {x : Int32} (hd : decode cc pc = .ok (.iload j, 2)) (hl0 : lv[j]? = some (some (.int x))) (kk : V Z (pc + 2) lv (.int x :: st) h k n) : V Z pc lv (st) h k n := by
  obtain ⟨⟨l, D, lo, b, L, xs⟩, p, e, R, s, m, args, below, meth, c, Q⟩ := Z
  obtain ⟨hx, hb, hml, hown, hI, hlk, hst, hR0⟩ := hZ
  intro H locs ls hR hS hl
  exact lv_iload hx hb hd (hl.at hl0) (kk H locs ls hR hS hl)
theorem V_lload_n (hZ : OKz Z own cc nL fr lc mc ms) {j : Fin 4} (jn : Nat) {x : Int64} (hd : decode cc pc = .ok (.lload_n j, 1)) (hj0 : (j : Nat) = jn) (hl0 : lv[jn]? = some (some (.long x))) (kk : V Z (pc + 1) lv (.long x :: st) h k n) : V Z pc lv (st) h k n := by
  obtain ⟨⟨l, D, lo, b, L, xs⟩, p, e, R, s, m, args, below, meth, c, Q⟩ := Z
  obtain ⟨hx, hb, hml, hown, hI, hlk, hst, hR0⟩ := hZ
  intro H locs ls hR hS hl
  exact lv_lload_n hx hb hd hj0 (hl.at hl0) (kk H locs ls hR hS hl)
theorem V_lload (hZ : OKz Z own cc nL fr lc mc ms) {j : Nat} {x : Int64} (hd : decode cc pc = .ok (.lload j, 2)) (hl0 : lv[j]? = some (some (.long x))) (kk : V Z (pc + 2) lv (.long x :: st) h k n) : V Z pc lv (st) h k n := by
  obtain ⟨⟨l, D, lo, b, L, xs⟩, p, e, R, s, m, args, below, meth, c, Q⟩ := Z
  obtain ⟨hx, hb, hml, hown, hI, hlk, hst, hR0⟩ := hZ
  intro H locs ls hR hS hl
  exact lv_lload hx hb hd (hl.at hl0) (kk H locs ls hR hS hl)
theorem V_dload_n (hZ : OKz Z own cc nL fr lc mc ms) {j : Fin 4} (jn : Nat) {x : UInt64} (hd : decode cc pc = .ok (.dload_n j, 1)) (hj0 : (j : Nat) = jn) (hl0 : lv[jn]? = some (some (.double x))) (kk : V Z (pc + 1) lv (.double x :: st) h k n) : V Z pc lv (st) h k n := by
  obtain ⟨⟨l, D, lo, b, L, xs⟩, p, e, R, s, m, args, below, meth, c, Q⟩ := Z
  obtain ⟨hx, hb, hml, hown, hI, hlk, hst, hR0⟩ := hZ
  intro H locs ls hR hS hl
  exact lv_dload_n hx hb hd hj0 (hl.at hl0) (kk H locs ls hR hS hl)
theorem V_dload (hZ : OKz Z own cc nL fr lc mc ms) {j : Nat} {x : UInt64} (hd : decode cc pc = .ok (.dload j, 2)) (hl0 : lv[j]? = some (some (.double x))) (kk : V Z (pc + 2) lv (.double x :: st) h k n) : V Z pc lv (st) h k n := by
  obtain ⟨⟨l, D, lo, b, L, xs⟩, p, e, R, s, m, args, below, meth, c, Q⟩ := Z
  obtain ⟨hx, hb, hml, hown, hI, hlk, hst, hR0⟩ := hZ
  intro H locs ls hR hS hl
  exact lv_dload hx hb hd (hl.at hl0) (kk H locs ls hR hS hl)
def isR : Value → Bool
  | .ref _ => true
  | .null => true
  | _ => false
theorem isR_rf (o : Option Nat) : isR (va_rf o) = true := by cases o <;> rfl
theorem isR_cases {v : Value} (h : isR v = true) : v = .null ∨ ∃ a, v = .ref a := by
  cases v <;> first | exact Or.inl rfl | exact Or.inr ⟨_, rfl⟩ | simp [isR] at h
theorem cat_rf (o : Option Nat) : (va_rf o).category = 1 := by cases o <;> rfl
theorem cat_R {v : Value} (h : isR v = true) : v.category = 1 := by
  rcases isR_cases h with rfl | ⟨a, rfl⟩ <;> rfl
theorem isR_ex {v : Value} (h : isR v = true) : ∃ o, v = va_rf o := by
  rcases isR_cases h with rfl | ⟨a, rfl⟩
  · exact ⟨none, rfl⟩
  · exact ⟨some a, rfl⟩
theorem V_aload_n (hZ : OKz Z own cc nL fr lc mc ms) {j : Fin 4} (jn : Nat) {v : Value} (hd : decode cc pc = .ok (.aload_n j, 1)) (hj0 : (j : Nat) = jn) (hl0 : lv[jn]? = some (some v)) (hv : isR v = true) (kk : V Z (pc + 1) lv (v :: st) h k n) : V Z pc lv st h k n := by
  obtain ⟨⟨l, D, lo, b, L, xs⟩, p, e, R, s, m, args, below, meth, c, Q⟩ := Z
  obtain ⟨hx, hb, hml, hown, hI, hlk, hst, hR0⟩ := hZ
  intro H locs ls hR hS hl
  rcases isR_cases hv with rfl | ⟨a, rfl⟩
  · exact lv_aload_nN hx hb hd hj0 (hl.at hl0) (kk H locs ls hR hS hl)
  · exact lv_aload_n hx hb hd hj0 (hl.at hl0) (kk H locs ls hR hS hl)
theorem V_aload (hZ : OKz Z own cc nL fr lc mc ms) {j : Nat} {v : Value} (hd : decode cc pc = .ok (.aload j, 2)) (hl0 : lv[j]? = some (some v)) (hv : isR v = true) (kk : V Z (pc + 2) lv (v :: st) h k n) : V Z pc lv st h k n := by
  obtain ⟨⟨l, D, lo, b, L, xs⟩, p, e, R, s, m, args, below, meth, c, Q⟩ := Z
  obtain ⟨hx, hb, hml, hown, hI, hlk, hst, hR0⟩ := hZ
  intro H locs ls hR hS hl
  rcases isR_cases hv with rfl | ⟨a, rfl⟩
  · exact lv_aloadN hx hb hd (hl.at hl0) (kk H locs ls hR hS hl)
  · exact lv_aload hx hb hd (hl.at hl0) (kk H locs ls hR hS hl)
theorem V_istore_n (hZ : OKz Z own cc nL fr lc mc ms) {j : Fin 4} (jn : Nat) (hj0 : (j : Nat) = jn) {x : Int32} (hd : decode cc pc = .ok (.istore_n j, 1)) (hj : jn < nL) (ho : okp lv jn = true) (kk : V Z (pc + 1) (lv.set jn (some (.int x))) st h k n) : V Z pc lv (.int x :: st) h k n := by
  obtain ⟨⟨l, D, lo, b, L, xs⟩, p, e, R, s, m, args, below, meth, c, Q⟩ := Z
  obtain ⟨hx, hb, hml, hown, hI, hlk, hst, hR0⟩ := hZ
  intro H locs ls hR hS hl
  exact lv_istore_n hx hb hd hj0 hl.has (by rw [hml]; exact hj) rfl (fun ls' h' => kk H locs ls' hR hS (lH.store1 ho h'))
theorem V_istore (hZ : OKz Z own cc nL fr lc mc ms) {j : Nat} {x : Int32} (hd : decode cc pc = .ok (.istore j, 2)) (hj : j < nL) (ho : okp lv j = true) (kk : V Z (pc + 2) (lv.set j (some (.int x))) st h k n) : V Z pc lv (.int x :: st) h k n := by
  obtain ⟨⟨l, D, lo, b, L, xs⟩, p, e, R, s, m, args, below, meth, c, Q⟩ := Z
  obtain ⟨hx, hb, hml, hown, hI, hlk, hst, hR0⟩ := hZ
  intro H locs ls hR hS hl
  exact lv_istore hx hb hd hl.has (by rw [hml]; exact hj) rfl (fun ls' h' => kk H locs ls' hR hS (lH.store1 ho h'))
theorem V_lstore_n (hZ : OKz Z own cc nL fr lc mc ms) {j : Fin 4} (jn : Nat) (hj0 : (j : Nat) = jn) {x : Int64} (hd : decode cc pc = .ok (.lstore_n j, 1)) (hj : jn + 1 < nL) (ho : okp lv jn = true) (kk : V Z (pc + 1) ((lv.set jn (some (.long x))).set (jn + 1) none) st h k n) : V Z pc lv (.long x :: st) h k n := by
  obtain ⟨⟨l, D, lo, b, L, xs⟩, p, e, R, s, m, args, below, meth, c, Q⟩ := Z
  obtain ⟨hx, hb, hml, hown, hI, hlk, hst, hR0⟩ := hZ
  intro H locs ls hR hS hl
  exact lv_lstore_n hx hb hd hj0 hl.has (by rw [hml]; exact hj) rfl (fun ls' h' => kk H locs ls' hR hS (lH.store2 ho h'))
theorem V_lstore (hZ : OKz Z own cc nL fr lc mc ms) {j : Nat} {x : Int64} (hd : decode cc pc = .ok (.lstore j, 2)) (hj : j + 1 < nL) (ho : okp lv j = true) (kk : V Z (pc + 2) ((lv.set j (some (.long x))).set (j + 1) none) st h k n) : V Z pc lv (.long x :: st) h k n := by
  obtain ⟨⟨l, D, lo, b, L, xs⟩, p, e, R, s, m, args, below, meth, c, Q⟩ := Z
  obtain ⟨hx, hb, hml, hown, hI, hlk, hst, hR0⟩ := hZ
  intro H locs ls hR hS hl
  exact lv_lstore hx hb hd hl.has (by rw [hml]; exact hj) rfl (fun ls' h' => kk H locs ls' hR hS (lH.store2 ho h'))
theorem V_dstore_n (hZ : OKz Z own cc nL fr lc mc ms) {j : Fin 4} (jn : Nat) (hj0 : (j : Nat) = jn) {x : UInt64} (hd : decode cc pc = .ok (.dstore_n j, 1)) (hj : jn + 1 < nL) (ho : okp lv jn = true) (kk : V Z (pc + 1) ((lv.set jn (some (.double x))).set (jn + 1) none) st h k n) : V Z pc lv (.double x :: st) h k n := by
  obtain ⟨⟨l, D, lo, b, L, xs⟩, p, e, R, s, m, args, below, meth, c, Q⟩ := Z
  obtain ⟨hx, hb, hml, hown, hI, hlk, hst, hR0⟩ := hZ
  intro H locs ls hR hS hl
  exact lv_dstore_n hx hb hd hj0 hl.has (by rw [hml]; exact hj) rfl (fun ls' h' => kk H locs ls' hR hS (lH.store2 ho h'))
theorem V_dstore (hZ : OKz Z own cc nL fr lc mc ms) {j : Nat} {x : UInt64} (hd : decode cc pc = .ok (.dstore j, 2)) (hj : j + 1 < nL) (ho : okp lv j = true) (kk : V Z (pc + 2) ((lv.set j (some (.double x))).set (j + 1) none) st h k n) : V Z pc lv (.double x :: st) h k n := by
  obtain ⟨⟨l, D, lo, b, L, xs⟩, p, e, R, s, m, args, below, meth, c, Q⟩ := Z
  obtain ⟨hx, hb, hml, hown, hI, hlk, hst, hR0⟩ := hZ
  intro H locs ls hR hS hl
  exact lv_dstore hx hb hd hl.has (by rw [hml]; exact hj) rfl (fun ls' h' => kk H locs ls' hR hS (lH.store2 ho h'))
theorem V_astore_n (hZ : OKz Z own cc nL fr lc mc ms) {j : Fin 4} (jn : Nat) (hj0 : (j : Nat) = jn) {v : Value} (hd : decode cc pc = .ok (.astore_n j, 1)) (hv : isR v = true) (hj : jn < nL) (ho : okp lv jn = true) (kk : V Z (pc + 1) (lv.set jn (some v)) st h k n) : V Z pc lv (v :: st) h k n := by
  obtain ⟨⟨l, D, lo, b, L, xs⟩, p, e, R, s, m, args, below, meth, c, Q⟩ := Z
  obtain ⟨hx, hb, hml, hown, hI, hlk, hst, hR0⟩ := hZ
  intro H locs ls hR hS hl
  rcases isR_cases hv with rfl | ⟨a, rfl⟩
  · exact lv_astore_nN hx hb hd hj0 hl.has (by rw [hml]; exact hj) rfl (fun ls' h' => kk H locs ls' hR hS (lH.store1 ho h'))
  · exact lv_astore_n hx hb hd hj0 hl.has (by rw [hml]; exact hj) rfl (fun ls' h' => kk H locs ls' hR hS (lH.store1 ho h'))
theorem V_astore (hZ : OKz Z own cc nL fr lc mc ms) {j : Nat} {v : Value} (hd : decode cc pc = .ok (.astore j, 2)) (hv : isR v = true) (hj : j < nL) (ho : okp lv j = true) (kk : V Z (pc + 2) (lv.set j (some v)) st h k n) : V Z pc lv (v :: st) h k n := by
  obtain ⟨⟨l, D, lo, b, L, xs⟩, p, e, R, s, m, args, below, meth, c, Q⟩ := Z
  obtain ⟨hx, hb, hml, hown, hI, hlk, hst, hR0⟩ := hZ
  intro H locs ls hR hS hl
  rcases isR_cases hv with rfl | ⟨a, rfl⟩
  · exact lv_astoreN hx hb hd hl.has (by rw [hml]; exact hj) rfl (fun ls' h' => kk H locs ls' hR hS (lH.store1 ho h'))
  · exact lv_astore hx hb hd hl.has (by rw [hml]; exact hj) rfl (fun ls' h' => kk H locs ls' hR hS (lH.store1 ho h'))
theorem V_iinc (hZ : OKz Z own cc nL fr lc mc ms) {j : Nat} {i : Int} {x : Int32} (hd : decode cc pc = .ok (.iinc j i, 3)) (hl0 : lv[j]? = some (some (.int x))) (hj : j < nL) (ho : okp lv j = true) (kk : V Z (pc + 3) (lv.set j (some (.int (x + Int32.ofInt i)))) st h k n) : V Z pc lv st h k n := by
  obtain ⟨⟨l, D, lo, b, L, xs⟩, p, e, R, s, m, args, below, meth, c, Q⟩ := Z
  obtain ⟨hx, hb, hml, hown, hI, hlk, hst, hR0⟩ := hZ
  intro H locs ls hR hS hl
  obtain ⟨q, hq⟩ := List.getElem?_of_mem (mem_lz.mpr hl0)
  exact lv_iinc hx hb hd hl.has hq rfl (by rw [hml]; exact hj) rfl (fun ls' h' => kk H locs ls' hR hS (lH.store1 ho h'))
theorem V_iadd (hZ : OKz Z own cc nL fr lc mc ms) {x y : Int32} (hd : decode cc pc = .ok (.iadd, 1)) (kk : V Z (pc + 1) lv (.int (x + y) :: st) h k n) : V Z pc lv (.int y :: .int x :: st) h k n := by
  obtain ⟨⟨l, D, lo, b, L, xs⟩, p, e, R, s, m, args, below, meth, c, Q⟩ := Z
  obtain ⟨hx, hb, hml, hown, hI, hlk, hst, hR0⟩ := hZ
  intro H locs ls hR hS hl
  exact lv_iadd hx hb hd (kk H locs ls hR hS hl)
theorem V_isub (hZ : OKz Z own cc nL fr lc mc ms) {x y : Int32} (hd : decode cc pc = .ok (.isub, 1)) (kk : V Z (pc + 1) lv (.int (x - y) :: st) h k n) : V Z pc lv (.int y :: .int x :: st) h k n := by
  obtain ⟨⟨l, D, lo, b, L, xs⟩, p, e, R, s, m, args, below, meth, c, Q⟩ := Z
  obtain ⟨hx, hb, hml, hown, hI, hlk, hst, hR0⟩ := hZ
  intro H locs ls hR hS hl
  exact lv_isub hx hb hd (kk H locs ls hR hS hl)
theorem V_imul (hZ : OKz Z own cc nL fr lc mc ms) {x y : Int32} (hd : decode cc pc = .ok (.imul, 1)) (kk : V Z (pc + 1) lv (.int (x * y) :: st) h k n) : V Z pc lv (.int y :: .int x :: st) h k n := by
  obtain ⟨⟨l, D, lo, b, L, xs⟩, p, e, R, s, m, args, below, meth, c, Q⟩ := Z
  obtain ⟨hx, hb, hml, hown, hI, hlk, hst, hR0⟩ := hZ
  intro H locs ls hR hS hl
  exact lv_imul hx hb hd (kk H locs ls hR hS hl)
theorem V_iand (hZ : OKz Z own cc nL fr lc mc ms) {x y : Int32} (hd : decode cc pc = .ok (.iand, 1)) (kk : V Z (pc + 1) lv (.int (x &&& y) :: st) h k n) : V Z pc lv (.int y :: .int x :: st) h k n := by
  obtain ⟨⟨l, D, lo, b, L, xs⟩, p, e, R, s, m, args, below, meth, c, Q⟩ := Z
  obtain ⟨hx, hb, hml, hown, hI, hlk, hst, hR0⟩ := hZ
  intro H locs ls hR hS hl
  exact lv_iand hx hb hd (kk H locs ls hR hS hl)
theorem V_ior (hZ : OKz Z own cc nL fr lc mc ms) {x y : Int32} (hd : decode cc pc = .ok (.ior, 1)) (kk : V Z (pc + 1) lv (.int (x ||| y) :: st) h k n) : V Z pc lv (.int y :: .int x :: st) h k n := by
  obtain ⟨⟨l, D, lo, b, L, xs⟩, p, e, R, s, m, args, below, meth, c, Q⟩ := Z
  obtain ⟨hx, hb, hml, hown, hI, hlk, hst, hR0⟩ := hZ
  intro H locs ls hR hS hl
  exact lv_ior hx hb hd (kk H locs ls hR hS hl)
theorem V_ishr (hZ : OKz Z own cc nL fr lc mc ms) {x y : Int32} (hd : decode cc pc = .ok (.ishr, 1)) (kk : V Z (pc + 1) lv (.int (x >>> (y &&& 31)) :: st) h k n) : V Z pc lv (.int y :: .int x :: st) h k n := by
  obtain ⟨⟨l, D, lo, b, L, xs⟩, p, e, R, s, m, args, below, meth, c, Q⟩ := Z
  obtain ⟨hx, hb, hml, hown, hI, hlk, hst, hR0⟩ := hZ
  intro H locs ls hR hS hl
  exact lv_ishr hx hb hd (kk H locs ls hR hS hl)
theorem V_idiv (hZ : OKz Z own cc nL fr lc mc ms) {x y : Int32} (hne : ¬ y = 0) (hd : decode cc pc = .ok (.idiv, 1)) (kk : V Z (pc + 1) lv (.int (x / y) :: st) h k n) : V Z pc lv (.int y :: .int x :: st) h k n := by
  obtain ⟨⟨l, D, lo, b, L, xs⟩, p, e, R, s, m, args, below, meth, c, Q⟩ := Z
  obtain ⟨hx, hb, hml, hown, hI, hlk, hst, hR0⟩ := hZ
  intro H locs ls hR hS hl
  exact lv_idiv hx hb hd hne (kk H locs ls hR hS hl)
theorem V_irem (hZ : OKz Z own cc nL fr lc mc ms) {x y : Int32} (hne : ¬ y = 0) (hd : decode cc pc = .ok (.irem, 1)) (kk : V Z (pc + 1) lv (.int (x - x / y * y) :: st) h k n) : V Z pc lv (.int y :: .int x :: st) h k n := by
  obtain ⟨⟨l, D, lo, b, L, xs⟩, p, e, R, s, m, args, below, meth, c, Q⟩ := Z
  obtain ⟨hx, hb, hml, hown, hI, hlk, hst, hR0⟩ := hZ
  intro H locs ls hR hS hl
  exact lv_irem hx hb hd hne (kk H locs ls hR hS hl)
theorem V_iushr (hZ : OKz Z own cc nL fr lc mc ms) {x y : Int32} (hd : decode cc pc = .ok (.iushr, 1)) (kk : V Z (pc + 1) lv (.int (x.toUInt32 >>> (y.toUInt32 &&& Int32.toUInt32 31)).toInt32 :: st) h k n) : V Z pc lv (.int y :: .int x :: st) h k n := by
  obtain ⟨⟨l, D, lo, b, L, xs⟩, p, e, R, s, m, args, below, meth, c, Q⟩ := Z
  obtain ⟨hx, hb, hml, hown, hI, hlk, hst, hR0⟩ := hZ
  intro H locs ls hR hS hl
  exact lv_iushr hx hb hd rfl (kk H locs ls hR hS hl)
theorem V_ineg (hZ : OKz Z own cc nL fr lc mc ms) {x : Int32} (hd : decode cc pc = .ok (.ineg, 1)) (kk : V Z (pc + 1) lv (.int (-x) :: st) h k n) : V Z pc lv (.int x :: st) h k n := by
  obtain ⟨⟨l, D, lo, b, L, xs⟩, p, e, R, s, m, args, below, meth, c, Q⟩ := Z
  obtain ⟨hx, hb, hml, hown, hI, hlk, hst, hR0⟩ := hZ
  intro H locs ls hR hS hl
  exact lv_ineg hx hb hd (kk H locs ls hR hS hl)
theorem V_ladd (hZ : OKz Z own cc nL fr lc mc ms) {x y : Int64} (hd : decode cc pc = .ok (.ladd, 1)) (kk : V Z (pc + 1) lv (.long (x + y) :: st) h k n) : V Z pc lv (.long y :: .long x :: st) h k n := by
  obtain ⟨⟨l, D, lo, b, L, xs⟩, p, e, R, s, m, args, below, meth, c, Q⟩ := Z
  obtain ⟨hx, hb, hml, hown, hI, hlk, hst, hR0⟩ := hZ
  intro H locs ls hR hS hl
  exact lv_ladd hx hb hd (kk H locs ls hR hS hl)
theorem V_lmul (hZ : OKz Z own cc nL fr lc mc ms) {x y : Int64} (hd : decode cc pc = .ok (.lmul, 1)) (kk : V Z (pc + 1) lv (.long (x * y) :: st) h k n) : V Z pc lv (.long y :: .long x :: st) h k n := by
  obtain ⟨⟨l, D, lo, b, L, xs⟩, p, e, R, s, m, args, below, meth, c, Q⟩ := Z
  obtain ⟨hx, hb, hml, hown, hI, hlk, hst, hR0⟩ := hZ
  intro H locs ls hR hS hl
  exact lv_lmul hx hb hd (kk H locs ls hR hS hl)
theorem V_land (hZ : OKz Z own cc nL fr lc mc ms) {x y : Int64} (hd : decode cc pc = .ok (.land, 1)) (kk : V Z (pc + 1) lv (.long (x &&& y) :: st) h k n) : V Z pc lv (.long y :: .long x :: st) h k n := by
  obtain ⟨⟨l, D, lo, b, L, xs⟩, p, e, R, s, m, args, below, meth, c, Q⟩ := Z
  obtain ⟨hx, hb, hml, hown, hI, hlk, hst, hR0⟩ := hZ
  intro H locs ls hR hS hl
  exact lv_land hx hb hd (kk H locs ls hR hS hl)
theorem V_i2l (hZ : OKz Z own cc nL fr lc mc ms) {x : Int32} (hd : decode cc pc = .ok (.i2l, 1)) (kk : V Z (pc + 1) lv (.long x.toInt64 :: st) h k n) : V Z pc lv (.int x :: st) h k n := by
  obtain ⟨⟨l, D, lo, b, L, xs⟩, p, e, R, s, m, args, below, meth, c, Q⟩ := Z
  obtain ⟨hx, hb, hml, hown, hI, hlk, hst, hR0⟩ := hZ
  intro H locs ls hR hS hl
  exact lv_i2l hx hb hd rfl (kk H locs ls hR hS hl)
theorem V_i2d (hZ : OKz Z own cc nL fr lc mc ms) {x : Int32} (hd : decode cc pc = .ok (.i2d, 1)) (kk : V Z (pc + 1) lv (.double (FP.i2d x) :: st) h k n) : V Z pc lv (.int x :: st) h k n := by
  obtain ⟨⟨l, D, lo, b, L, xs⟩, p, e, R, s, m, args, below, meth, c, Q⟩ := Z
  obtain ⟨hx, hb, hml, hown, hI, hlk, hst, hR0⟩ := hZ
  intro H locs ls hR hS hl
  exact lv_i2d hx hb hd (kk H locs ls hR hS hl)
theorem V_dsub (hZ : OKz Z own cc nL fr lc mc ms) {x y : UInt64} (hne : vf_n64 (FP.dsub x y)) (hd : decode cc pc = .ok (.dsub, 1)) (kk : V Z (pc + 1) lv (.double (FP.dsub x y) :: st) h k n) : V Z pc lv (.double y :: .double x :: st) h k n := by
  obtain ⟨⟨l, D, lo, b, L, xs⟩, p, e, R, s, m, args, below, meth, c, Q⟩ := Z
  obtain ⟨hx, hb, hml, hown, hI, hlk, hst, hR0⟩ := hZ
  intro H locs ls hR hS hl
  exact lv_dsub hx hb hd hne (kk H locs ls hR hS hl)
theorem V_dmul (hZ : OKz Z own cc nL fr lc mc ms) {x y : UInt64} (hne : vf_n64 (FP.dmul x y)) (hd : decode cc pc = .ok (.dmul, 1)) (kk : V Z (pc + 1) lv (.double (FP.dmul x y) :: st) h k n) : V Z pc lv (.double y :: .double x :: st) h k n := by
  obtain ⟨⟨l, D, lo, b, L, xs⟩, p, e, R, s, m, args, below, meth, c, Q⟩ := Z
  obtain ⟨hx, hb, hml, hown, hI, hlk, hst, hR0⟩ := hZ
  intro H locs ls hR hS hl
  exact lv_dmul hx hb hd hne (kk H locs ls hR hS hl)
theorem V_ddiv (hZ : OKz Z own cc nL fr lc mc ms) {x y : UInt64} (hne : vf_n64 (FP.ddiv x y)) (hd : decode cc pc = .ok (.ddiv, 1)) (kk : V Z (pc + 1) lv (.double (FP.ddiv x y) :: st) h k n) : V Z pc lv (.double y :: .double x :: st) h k n := by
  obtain ⟨⟨l, D, lo, b, L, xs⟩, p, e, R, s, m, args, below, meth, c, Q⟩ := Z
  obtain ⟨hx, hb, hml, hown, hI, hlk, hst, hR0⟩ := hZ
  intro H locs ls hR hS hl
  exact lv_ddiv hx hb hd hne (kk H locs ls hR hS hl)
theorem V_dcmp (hZ : OKz Z own cc nL fr lc mc ms) {x y : UInt64} {op : CmpOp} (hd : decode cc pc = .ok (.dcmp op, 1)) (kk : V Z (pc + 1) lv (.int (Op.cmpValue (FP.dcmp x y) op) :: st) h k n) : V Z pc lv (.double y :: .double x :: st) h k n := by
  obtain ⟨⟨l, D, lo, b, L, xs⟩, p, e, R, s, m, args, below, meth, c, Q⟩ := Z
  obtain ⟨hx, hb, hml, hown, hI, hlk, hst, hR0⟩ := hZ
  intro H locs ls hR hS hl
  exact lv_dcmp hx hb hd (kk H locs ls hR hS hl)
theorem V_dup (hZ : OKz Z own cc nL fr lc mc ms) {v : Value} (hd : decode cc pc = .ok (.dup, 1)) (hv : v.category = 1) (kk : V Z (pc + 1) lv (v :: v :: st) h k n) : V Z pc lv (v :: st) h k n := by
  obtain ⟨⟨l, D, lo, b, L, xs⟩, p, e, R, s, m, args, below, meth, c, Q⟩ := Z
  obtain ⟨hx, hb, hml, hown, hI, hlk, hst, hR0⟩ := hZ
  intro H locs ls hR hS hl
  exact lv_dup hx hb hd hv (kk H locs ls hR hS hl)
theorem V_pop (hZ : OKz Z own cc nL fr lc mc ms) {v : Value} (hd : decode cc pc = .ok (.pop, 1)) (hv : v.category = 1) (kk : V Z (pc + 1) lv (st) h k n) : V Z pc lv (v :: st) h k n := by
  obtain ⟨⟨l, D, lo, b, L, xs⟩, p, e, R, s, m, args, below, meth, c, Q⟩ := Z
  obtain ⟨hx, hb, hml, hown, hI, hlk, hst, hR0⟩ := hZ
  intro H locs ls hR hS hl
  exact lv_pop hx hb hd hv (kk H locs ls hR hS hl)
theorem V_goto (hZ : OKz Z own cc nL fr lc mc ms) {off : Int} {tgt : Nat} (hd : decode cc pc = .ok (.goto off, 3)) (ht : (pc : Int) + off = (tgt : Int)) (kk : V Z tgt lv st h k n) : V Z pc lv st h k n := by
  obtain ⟨⟨l, D, lo, b, L, xs⟩, p, e, R, s, m, args, below, meth, c, Q⟩ := Z
  obtain ⟨hx, hb, hml, hown, hI, hlk, hst, hR0⟩ := hZ
  intro H locs ls hR hS hl
  exact lv_goto hx hb hd ht (kk H locs ls hR hS hl)
theorem V_if_eq (hZ : OKz Z own cc nL fr lc mc ms) {x : Int32} {off : Int} {tgt : Nat} (hd : decode cc pc = .ok (.ifCond .eq off, 3)) (ht : (pc : Int) + off = (tgt : Int)) (kt : x = 0 → V Z tgt lv st h k n) (kf : ¬ x = 0 → V Z (pc + 3) lv st h k n) : V Z pc lv (.int x :: st) h k n := by
  obtain ⟨⟨l, D, lo, b, L, xs⟩, p, e, R, s, m, args, below, meth, c, Q⟩ := Z
  obtain ⟨hx, hb, hml, hown, hI, hlk, hst, hR0⟩ := hZ
  intro H locs ls hR hS hl
  exact lv_if_eq hx hb hd ht (fun h9 => kt h9 H locs ls hR hS hl) (fun h9 => kf h9 H locs ls hR hS hl)
theorem V_if_ne (hZ : OKz Z own cc nL fr lc mc ms) {x : Int32} {off : Int} {tgt : Nat} (hd : decode cc pc = .ok (.ifCond .ne off, 3)) (ht : (pc : Int) + off = (tgt : Int)) (kt : ¬ x = 0 → V Z tgt lv st h k n) (kf : x = 0 → V Z (pc + 3) lv st h k n) : V Z pc lv (.int x :: st) h k n := by
  obtain ⟨⟨l, D, lo, b, L, xs⟩, p, e, R, s, m, args, below, meth, c, Q⟩ := Z
  obtain ⟨hx, hb, hml, hown, hI, hlk, hst, hR0⟩ := hZ
  intro H locs ls hR hS hl
  exact lv_if_ne hx hb hd ht (fun h9 => kt h9 H locs ls hR hS hl) (fun h9 => kf h9 H locs ls hR hS hl)
theorem V_if_lt (hZ : OKz Z own cc nL fr lc mc ms) {x : Int32} {off : Int} {tgt : Nat} (hd : decode cc pc = .ok (.ifCond .lt off, 3)) (ht : (pc : Int) + off = (tgt : Int)) (kt : x < 0 → V Z tgt lv st h k n) (kf : ¬ x < 0 → V Z (pc + 3) lv st h k n) : V Z pc lv (.int x :: st) h k n := by
  obtain ⟨⟨l, D, lo, b, L, xs⟩, p, e, R, s, m, args, below, meth, c, Q⟩ := Z
  obtain ⟨hx, hb, hml, hown, hI, hlk, hst, hR0⟩ := hZ
  intro H locs ls hR hS hl
  exact lv_if_lt hx hb hd ht (fun h9 => kt h9 H locs ls hR hS hl) (fun h9 => kf h9 H locs ls hR hS hl)
theorem V_if_ge (hZ : OKz Z own cc nL fr lc mc ms) {x : Int32} {off : Int} {tgt : Nat} (hd : decode cc pc = .ok (.ifCond .ge off, 3)) (ht : (pc : Int) + off = (tgt : Int)) (kt : 0 ≤ x → V Z tgt lv st h k n) (kf : ¬ 0 ≤ x → V Z (pc + 3) lv st h k n) : V Z pc lv (.int x :: st) h k n := by
  obtain ⟨⟨l, D, lo, b, L, xs⟩, p, e, R, s, m, args, below, meth, c, Q⟩ := Z
  obtain ⟨hx, hb, hml, hown, hI, hlk, hst, hR0⟩ := hZ
  intro H locs ls hR hS hl
  exact lv_if_ge hx hb hd ht (fun h9 => kt h9 H locs ls hR hS hl) (fun h9 => kf h9 H locs ls hR hS hl)
theorem V_if_gt (hZ : OKz Z own cc nL fr lc mc ms) {x : Int32} {off : Int} {tgt : Nat} (hd : decode cc pc = .ok (.ifCond .gt off, 3)) (ht : (pc : Int) + off = (tgt : Int)) (kt : 0 < x → V Z tgt lv st h k n) (kf : ¬ 0 < x → V Z (pc + 3) lv st h k n) : V Z pc lv (.int x :: st) h k n := by
  obtain ⟨⟨l, D, lo, b, L, xs⟩, p, e, R, s, m, args, below, meth, c, Q⟩ := Z
  obtain ⟨hx, hb, hml, hown, hI, hlk, hst, hR0⟩ := hZ
  intro H locs ls hR hS hl
  exact lv_if_gt hx hb hd ht (fun h9 => kt h9 H locs ls hR hS hl) (fun h9 => kf h9 H locs ls hR hS hl)
theorem V_if_le (hZ : OKz Z own cc nL fr lc mc ms) {x : Int32} {off : Int} {tgt : Nat} (hd : decode cc pc = .ok (.ifCond .le off, 3)) (ht : (pc : Int) + off = (tgt : Int)) (kt : x ≤ 0 → V Z tgt lv st h k n) (kf : ¬ x ≤ 0 → V Z (pc + 3) lv st h k n) : V Z pc lv (.int x :: st) h k n := by
  obtain ⟨⟨l, D, lo, b, L, xs⟩, p, e, R, s, m, args, below, meth, c, Q⟩ := Z
  obtain ⟨hx, hb, hml, hown, hI, hlk, hst, hR0⟩ := hZ
  intro H locs ls hR hS hl
  exact lv_if_le hx hb hd ht (fun h9 => kt h9 H locs ls hR hS hl) (fun h9 => kf h9 H locs ls hR hS hl)
theorem V_icmp_eq (hZ : OKz Z own cc nL fr lc mc ms) {x y : Int32} {off : Int} {tgt : Nat} (hd : decode cc pc = .ok (.if_icmp .eq off, 3)) (ht : (pc : Int) + off = (tgt : Int)) (kt : x = y → V Z tgt lv st h k n) (kf : ¬ x = y → V Z (pc + 3) lv st h k n) : V Z pc lv (.int y :: .int x :: st) h k n := by
  obtain ⟨⟨l, D, lo, b, L, xs⟩, p, e, R, s, m, args, below, meth, c, Q⟩ := Z
  obtain ⟨hx, hb, hml, hown, hI, hlk, hst, hR0⟩ := hZ
  intro H locs ls hR hS hl
  exact lv_icmp_eq hx hb hd ht (fun h9 => kt h9 H locs ls hR hS hl) (fun h9 => kf h9 H locs ls hR hS hl)
theorem V_icmp_ne (hZ : OKz Z own cc nL fr lc mc ms) {x y : Int32} {off : Int} {tgt : Nat} (hd : decode cc pc = .ok (.if_icmp .ne off, 3)) (ht : (pc : Int) + off = (tgt : Int)) (kt : ¬ x = y → V Z tgt lv st h k n) (kf : x = y → V Z (pc + 3) lv st h k n) : V Z pc lv (.int y :: .int x :: st) h k n := by
  obtain ⟨⟨l, D, lo, b, L, xs⟩, p, e, R, s, m, args, below, meth, c, Q⟩ := Z
  obtain ⟨hx, hb, hml, hown, hI, hlk, hst, hR0⟩ := hZ
  intro H locs ls hR hS hl
  exact lv_icmp_ne hx hb hd ht (fun h9 => kt h9 H locs ls hR hS hl) (fun h9 => kf h9 H locs ls hR hS hl)
theorem V_icmp_lt (hZ : OKz Z own cc nL fr lc mc ms) {x y : Int32} {off : Int} {tgt : Nat} (hd : decode cc pc = .ok (.if_icmp .lt off, 3)) (ht : (pc : Int) + off = (tgt : Int)) (kt : x < y → V Z tgt lv st h k n) (kf : ¬ x < y → V Z (pc + 3) lv st h k n) : V Z pc lv (.int y :: .int x :: st) h k n := by
  obtain ⟨⟨l, D, lo, b, L, xs⟩, p, e, R, s, m, args, below, meth, c, Q⟩ := Z
  obtain ⟨hx, hb, hml, hown, hI, hlk, hst, hR0⟩ := hZ
  intro H locs ls hR hS hl
  exact lv_icmp_lt hx hb hd ht (fun h9 => kt h9 H locs ls hR hS hl) (fun h9 => kf h9 H locs ls hR hS hl)
theorem V_icmp_ge (hZ : OKz Z own cc nL fr lc mc ms) {x y : Int32} {off : Int} {tgt : Nat} (hd : decode cc pc = .ok (.if_icmp .ge off, 3)) (ht : (pc : Int) + off = (tgt : Int)) (kt : y ≤ x → V Z tgt lv st h k n) (kf : ¬ y ≤ x → V Z (pc + 3) lv st h k n) : V Z pc lv (.int y :: .int x :: st) h k n := by
  obtain ⟨⟨l, D, lo, b, L, xs⟩, p, e, R, s, m, args, below, meth, c, Q⟩ := Z
  obtain ⟨hx, hb, hml, hown, hI, hlk, hst, hR0⟩ := hZ
  intro H locs ls hR hS hl
  exact lv_icmp_ge hx hb hd ht (fun h9 => kt h9 H locs ls hR hS hl) (fun h9 => kf h9 H locs ls hR hS hl)
theorem V_icmp_gt (hZ : OKz Z own cc nL fr lc mc ms) {x y : Int32} {off : Int} {tgt : Nat} (hd : decode cc pc = .ok (.if_icmp .gt off, 3)) (ht : (pc : Int) + off = (tgt : Int)) (kt : y < x → V Z tgt lv st h k n) (kf : ¬ y < x → V Z (pc + 3) lv st h k n) : V Z pc lv (.int y :: .int x :: st) h k n := by
  obtain ⟨⟨l, D, lo, b, L, xs⟩, p, e, R, s, m, args, below, meth, c, Q⟩ := Z
  obtain ⟨hx, hb, hml, hown, hI, hlk, hst, hR0⟩ := hZ
  intro H locs ls hR hS hl
  exact lv_icmp_gt hx hb hd ht (fun h9 => kt h9 H locs ls hR hS hl) (fun h9 => kf h9 H locs ls hR hS hl)
theorem V_icmp_le (hZ : OKz Z own cc nL fr lc mc ms) {x y : Int32} {off : Int} {tgt : Nat} (hd : decode cc pc = .ok (.if_icmp .le off, 3)) (ht : (pc : Int) + off = (tgt : Int)) (kt : x ≤ y → V Z tgt lv st h k n) (kf : ¬ x ≤ y → V Z (pc + 3) lv st h k n) : V Z pc lv (.int y :: .int x :: st) h k n := by
  obtain ⟨⟨l, D, lo, b, L, xs⟩, p, e, R, s, m, args, below, meth, c, Q⟩ := Z
  obtain ⟨hx, hb, hml, hown, hI, hlk, hst, hR0⟩ := hZ
  intro H locs ls hR hS hl
  exact lv_icmp_le hx hb hd ht (fun h9 => kt h9 H locs ls hR hS hl) (fun h9 => kf h9 H locs ls hR hS hl)
theorem V_acmp_eq (hZ : OKz Z own cc nL fr lc mc ms) {v u : Value} {off : Int} {tgt : Nat} (hd : decode cc pc = .ok (.if_acmp .eq off, 3)) (ht : (pc : Int) + off = (tgt : Int)) (hv : isR v = true) (hu : isR u = true) (kt : v = u → V Z tgt lv st h k n) (kf : ¬ v = u → V Z (pc + 3) lv st h k n) : V Z pc lv (u :: v :: st) h k n := by
  obtain ⟨⟨l, D, lo, b, L, xs⟩, p, e, R, s, m, args, below, meth, c, Q⟩ := Z
  obtain ⟨hx, hb, hml, hown, hI, hlk, hst, hR0⟩ := hZ
  intro H locs ls hR hS hl
  obtain ⟨x, rfl⟩ := isR_ex hv
  obtain ⟨y, rfl⟩ := isR_ex hu
  have hi : va_rf x = va_rf y ↔ x = y := by cases x <;> cases y <;> simp [va_rf]
  rw [hi] at kt kf
  exact lv_acmp_eq hx hb hd ht (fun h9 => kt h9 H locs ls hR hS hl) (fun h9 => kf h9 H locs ls hR hS hl)
theorem V_acmp_ne (hZ : OKz Z own cc nL fr lc mc ms) {v u : Value} {off : Int} {tgt : Nat} (hd : decode cc pc = .ok (.if_acmp .ne off, 3)) (ht : (pc : Int) + off = (tgt : Int)) (hv : isR v = true) (hu : isR u = true) (kt : ¬ v = u → V Z tgt lv st h k n) (kf : v = u → V Z (pc + 3) lv st h k n) : V Z pc lv (u :: v :: st) h k n := by
  obtain ⟨⟨l, D, lo, b, L, xs⟩, p, e, R, s, m, args, below, meth, c, Q⟩ := Z
  obtain ⟨hx, hb, hml, hown, hI, hlk, hst, hR0⟩ := hZ
  intro H locs ls hR hS hl
  obtain ⟨x, rfl⟩ := isR_ex hv
  obtain ⟨y, rfl⟩ := isR_ex hu
  have hi : va_rf x = va_rf y ↔ x = y := by cases x <;> cases y <;> simp [va_rf]
  rw [hi] at kt kf
  exact lv_acmp_ne hx hb hd ht (fun h9 => kt h9 H locs ls hR hS hl) (fun h9 => kf h9 H locs ls hR hS hl)
theorem V_ifnull (hZ : OKz Z own cc nL fr lc mc ms) {v : Value} {off : Int} {tgt : Nat} (hd : decode cc pc = .ok (.ifnull off, 3)) (ht : (pc : Int) + off = (tgt : Int)) (hv : isR v = true) (kt : v = .null → V Z tgt lv st h k n) (kf : ∀ q : Nat, v = .ref q → V Z (pc + 3) lv st h k n) : V Z pc lv (v :: st) h k n := by
  obtain ⟨⟨l, D, lo, b, L, xs⟩, p, e, R, s, m, args, below, meth, c, Q⟩ := Z
  obtain ⟨hx, hb, hml, hown, hI, hlk, hst, hR0⟩ := hZ
  intro H locs ls hR hS hl
  rcases isR_cases hv with rfl | ⟨a, rfl⟩
  · exact lv_ifnullN hx hb hd ht (kt rfl H locs ls hR hS hl)
  · exact lv_ifnull hx hb hd (kf a rfl H locs ls hR hS hl)
theorem V_ifnonnull (hZ : OKz Z own cc nL fr lc mc ms) {v : Value} {off : Int} {tgt : Nat} (hd : decode cc pc = .ok (.ifnonnull off, 3)) (ht : (pc : Int) + off = (tgt : Int)) (hv : isR v = true) (kt : ∀ q : Nat, v = .ref q → V Z tgt lv st h k n) (kf : v = .null → V Z (pc + 3) lv st h k n) : V Z pc lv (v :: st) h k n := by
  obtain ⟨⟨l, D, lo, b, L, xs⟩, p, e, R, s, m, args, below, meth, c, Q⟩ := Z
  obtain ⟨hx, hb, hml, hown, hI, hlk, hst, hR0⟩ := hZ
  intro H locs ls hR hS hl
  rcases isR_cases hv with rfl | ⟨a, rfl⟩
  · exact lv_ifnonnullN hx hb hd (kf rfl H locs ls hR hS hl)
  · exact lv_ifnonnull hx hb hd ht (kt a rfl H locs ls hR hS hl)
theorem V_tableIn (hZ : OKz Z own cc nL fr lc mc ms) {dflt lo' hi : Int} {offs : Array Int} {len : Nat} {x : Int32} {off : Int} {tgt : Nat} (hd : decode cc pc = .ok (.tableswitch dflt lo' hi offs, len)) (h1 : ¬ x.toInt < lo') (h2 : ¬ hi < x.toInt) (ho : offs[(x.toInt - lo').toNat]? = some off) (ht : (pc : Int) + off = (tgt : Int)) (kk : V Z tgt lv st h k n) : V Z pc lv (.int x :: st) h k n := by
  obtain ⟨⟨l, D, lo, b, L, xs⟩, p, e, R, s, m, args, below, meth, c, Q⟩ := Z
  obtain ⟨hx, hb, hml, hown, hI, hlk, hst, hR0⟩ := hZ
  intro H locs ls hR hS hl
  exact lv_tableIn hx hb hd h1 h2 ho ht (kk H locs ls hR hS hl)
theorem V_tableOut (hZ : OKz Z own cc nL fr lc mc ms) {dflt lo' hi : Int} {offs : Array Int} {len : Nat} {x : Int32} {tgt : Nat} (hd : decode cc pc = .ok (.tableswitch dflt lo' hi offs, len)) (h1 : x.toInt < lo' ∨ hi < x.toInt) (ht : (pc : Int) + dflt = (tgt : Int)) (kk : V Z tgt lv st h k n) : V Z pc lv (.int x :: st) h k n := by
  obtain ⟨⟨l, D, lo, b, L, xs⟩, p, e, R, s, m, args, below, meth, c, Q⟩ := Z
  obtain ⟨hx, hb, hml, hown, hI, hlk, hst, hR0⟩ := hZ
  intro H locs ls hR hS hl
  exact lv_tableOut hx hb hd h1 ht (kk H locs ls hR hS hl)
theorem V_ldc (hZ : OKz Z own cc nL fr lc mc ms) {j : Nat} {v : Int32} (hd : decode cc pc = .ok (.ldc j, 2)) (hw : Cond.constant own j v ∈ tbW) (kk : V Z (pc + 2) lv (.int v :: st) h k n) : V Z pc lv st h k n := by
  obtain ⟨⟨l, D, lo, b, L, xs⟩, p, e, R, s, m, args, below, meth, c, Q⟩ := Z
  obtain ⟨hx, hb, hml, hown, hI, hlk, hst, hR0⟩ := hZ
  intro H locs ls hR hS hl
  have hw := hI
  obtain ⟨hT, -⟩ := hI
  exact lv_ldc hx hb hown (hT.use _ (by assumption)) hd (kk H locs ls hR hS hl)
theorem V_ldcw (hZ : OKz Z own cc nL fr lc mc ms) {j : Nat} {v : Int32} (hd : decode cc pc = .ok (.ldc_w j, 3)) (hw : Cond.constant own j v ∈ tbW) (kk : V Z (pc + 3) lv (.int v :: st) h k n) : V Z pc lv st h k n := by
  obtain ⟨⟨l, D, lo, b, L, xs⟩, p, e, R, s, m, args, below, meth, c, Q⟩ := Z
  obtain ⟨hx, hb, hml, hown, hI, hlk, hst, hR0⟩ := hZ
  intro H locs ls hR hS hl
  have hw := hI
  obtain ⟨hT, -⟩ := hI
  exact lv_ldcw hx hb hown (hT.use _ (by assumption)) hd (kk H locs ls hR hS hl)
theorem V_ldc2 (hZ : OKz Z own cc nL fr lc mc ms) {j : Nat} {v : Int64} (hd : decode cc pc = .ok (.ldc2_w j, 3)) (hw : Cond.constantLong own j v ∈ tbW) (kk : V Z (pc + 3) lv (.long v :: st) h k n) : V Z pc lv st h k n := by
  obtain ⟨⟨l, D, lo, b, L, xs⟩, p, e, R, s, m, args, below, meth, c, Q⟩ := Z
  obtain ⟨hx, hb, hml, hown, hI, hlk, hst, hR0⟩ := hZ
  intro H locs ls hR hS hl
  have hw := hI
  obtain ⟨hT, -⟩ := hI
  exact lv_ldc2 hx hb hown (hT.use _ (by assumption)) hd (kk H locs ls hR hS hl)
theorem V_ldc2d (hZ : OKz Z own cc nL fr lc mc ms) {j : Nat} {v : UInt64} (hd : decode cc pc = .ok (.ldc2_w j, 3)) (hw : Cond.constantDouble own j v ∈ tbW) (kk : V Z (pc + 3) lv (.double v :: st) h k n) : V Z pc lv st h k n := by
  obtain ⟨⟨l, D, lo, b, L, xs⟩, p, e, R, s, m, args, below, meth, c, Q⟩ := Z
  obtain ⟨hx, hb, hml, hown, hI, hlk, hst, hR0⟩ := hZ
  intro H locs ls hR hS hl
  have hw := hI
  obtain ⟨hT, -⟩ := hI
  exact lv_ldc2d hx hb hown (hT.use _ (by assumption)) hd (kk H locs ls hR hS hl)
end
end
section
/-! rows of V: the heap -/
def aR (C : String) (N : Nat) (f : Nat → Option Nat) : ME := .inl (.object C, N, .inr (.inr (.inr (.inr f))))
def aI (N : Nat) (f : Nat → Int32) : ME := .inl (.int, N, .inl f)
/-- a class of vwCl, with what its fields are -/
def CLs (ci : Nat) (C : String) (T : u_T) (N : Nat) (ty : Nat → FieldType) : Prop :=
  vwCl[ci]? = some (C, T, N) ∧ (∀ w ∈ u_ws C T N, w ∈ tbW) ∧ (∀ k, k < N → parseFieldDescriptor (T k).2.2.1 = some (ty k)) ∧ ∀ a, a < N → ∀ b, b < N → a ≠ b → (T a).2.1 ≠ (T b).2.1
/-- a field that an entry of the class own names -/
def FL (own : String) (idx ci k : Nat) (ty : FieldType) (fin : Bool) : Prop :=
  ∃ (C : String) (T : u_T) (N : Nat) (tyf : Nat → FieldType), CLs ci C T N tyf ∧ k < N ∧ tyf k = ty ∧ (T k).2.2.2 = fin ∧ (fin = true → (T k).1 = own) ∧ Cond.fieldLink own idx (T k).1 (T k).2.1 (T k).2.2.1 ∈ tbW
/-- a field that is only read there -/
def FLr (own : String) (idx ci k : Nat) : Prop :=
  ∃ (C : String) (T : u_T) (N : Nat) (tyf : Nat → FieldType), CLs ci C T N tyf ∧ k < N ∧ Cond.fieldLink own idx (T k).1 (T k).2.1 (T k).2.2.1 ∈ tbW
theorem FL.r {own : String} {idx ci k : Nat} {ty : FieldType} {fin : Bool} (h : FL own idx ci k ty fin) : FLr own idx ci k := by
  obtain ⟨C, T, N, tyf, h1, h2, -, -, -, h3⟩ := h
  exact ⟨C, T, N, tyf, h1, h2, h3⟩
/-- a class that an entry of the class own names, to be made -/
def NWc (own : String) (idx ci N : Nat) (fs : List Value) : Prop :=
  ∃ (C : String) (T : u_T) (tyf : Nat → FieldType), CLs ci C T N tyf ∧ Cond.classLink own idx C ∈ tbW ∧ Cond.instantiable C N ∈ tbW ∧ Cond.initialized C ∈ tbW ∧ ∀ j, j < N → defaultValue (tyf j) = vp_V fs j
section
variable {Z : ZC} {pc : Nat} {lv : List (Option Value)} {st : List Value} {h : HP} {k n : Nat} {own : String} {cc : ByteArray} {nL fr lc mc ms : Nat}
theorem V_getfield (hZ : OKz Z own cc nL fr lc mc ms) {idx ci j q : Nat} {fs : List Value} {v : Value} (fl : FLr own idx ci j) (hd : decode cc pc = .ok (.getfield idx, 3)) (hc : h q = some (.inr (ci, fs))) (hv : fs[j]? = some v) (kk : V Z (pc + 3) lv (v :: st) h k n) : V Z pc lv (.ref q :: st) h k n := by
  obtain ⟨⟨l, D, lo, b, L, xs⟩, p, e, R, s, m, args, below, meth, c, Q⟩ := Z
  obtain ⟨hx, hb, hml, hown, hI, hlk, hst, hR0⟩ := hZ
  obtain ⟨C, T, N, tyf, ⟨hcl, hin, -, -⟩, hk, hw⟩ := fl
  intro H locs ls hR hS hl
  obtain ⟨ws, tys, hK, hP, hD, hr⟩ := id hR
  obtain ⟨i, hi⟩ := hr q _ hc
  exact va_get (ci := ci) (v := v) hx hb hI.1.use hin hown hK hP i hi hcl j hk (hI.1.use _ hw) (fun _ h9 => h9) hv hd (kk H locs ls hR hS hl)
theorem V_putfield (hZ : OKz Z own cc nL fr lc mc ms) {idx ci j q : Nat} {ty : FieldType} {fs : List Value} {v : Value} (fl : FL own idx ci j ty false) (hd : decode cc pc = .ok (.putfield idx, 3)) (hc : h q = some (.inr (ci, fs))) (hn : narrow ty v = v) (hfit : fits ty v = true) (hl0 : j < fs.length) (kk : V Z (pc + 3) lv st (hup h q (.inr (ci, fs.set j v))) k n) : V Z pc lv (v :: .ref q :: st) h k n := by
  obtain ⟨⟨l, D, lo, b, L, xs⟩, p, e, R, s, m, args, below, meth, c, Q⟩ := Z
  obtain ⟨hx, hb, hml, hown, hI, hlk, hst, hR0⟩ := hZ
  obtain ⟨C, T, N, tyf, ⟨hcl, hin, hty, hnm⟩, hk, rfl, hfin, -, hw⟩ := fl
  intro H locs ls hR hS hl
  obtain ⟨ws, tys, hK, hP, hD, hr⟩ := id hR
  obtain ⟨i, hi⟩ := hr q _ hc
  refine va_put (ci := ci) (v := v) hx hb hI.1.use hin tyf hty hnm hown hK hP hD hS i hi hcl j hk (hI.1.use _ hw) (fun _ h9 => h9) hfin (hty j hk) hn hfit hl0 hd (fun H1 locs1 hP1 hD1 hS1 => ?_)
  refine kk H1 locs1 ls ⟨_, tys, hK, hP1, hD1, ?_⟩ hS1 hl
  exact Rin.set hD hi ⟨i, List.getElem?_set_self (List.getElem?_eq_some_iff.mp hi).1⟩ hr
theorem V_putF (hZ : OKz Z own cc nL fr lc mc ms) {nm : String} {ret : Option FieldType} {mc' ms' : Nat} {Qn : Option Value → HP → Prop} {Qx : String → HP → Prop} (hE : EDz Z nm ret mc' ms' Qn Qx) (hnm0 : nm = "<init>") {idx ci j q : Nat} {ty : FieldType} {fs : List Value} {v : Value} (fl : FL own idx ci j ty true) (hd : decode cc pc = .ok (.putfield idx, 3)) (hc : h q = some (.inr (ci, fs))) (hn : narrow ty v = v) (hfit : fits ty v = true) (hl0 : j < fs.length) (kk : V Z (pc + 3) lv st (hup h q (.inr (ci, fs.set j v))) k n) : V Z pc lv (v :: .ref q :: st) h k n := by
  obtain ⟨⟨l, D, lo, b, L, xs⟩, p, e, R, s, m, args, below, meth, c, Q⟩ := Z
  obtain ⟨hx, hb, hml, hown, hI, hlk, hst, hR0⟩ := hZ
  obtain ⟨hnm1, -, -⟩ := hE
  obtain ⟨C, T, N, tyf, ⟨hcl, hin, hty, hnm⟩, hk, rfl, hfin, hdecl, hw⟩ := fl
  intro H locs ls hR hS hl
  obtain ⟨ws, tys, hK, hP, hD, hr⟩ := id hR
  obtain ⟨i, hi⟩ := hr q _ hc
  refine va_putF (ci := ci) (v := v) hx hb hI.1.use hin tyf hty hnm hown hK hP hD hS i hi hcl j hk (hI.1.use _ hw) (fun _ h9 => h9) hfin (hnm1.trans hnm0) (hdecl rfl) (hty j hk) hn hfit hl0 hd (fun H1 locs1 hP1 hD1 hS1 => ?_)
  refine kk H1 locs1 ls ⟨_, tys, hK, hP1, hD1, ?_⟩ hS1 hl
  exact Rin.set hD hi ⟨i, List.getElem?_set_self (List.getElem?_eq_some_iff.mp hi).1⟩ hr
theorem V_new (hZ : OKz Z own cc nL fr lc mc ms) {idx ci N : Nat} {fs : List Value} (nw : NWc own idx ci N fs) (hd : decode cc pc = .ok (.new idx, 3)) (hk1 : k + 1 ≤ mc) (hn1 : n + N ≤ ms) (kk : ∀ q : Nat, h q = none → V Z (pc + 3) lv (.ref q :: st) (hup h q (.inr (ci, fs))) (k + 1) (n + N)) : V Z pc lv st h k n := by
  obtain ⟨⟨l, D, lo, b, L, xs⟩, p, e, R, s, m, args, below, meth, c, Q⟩ := Z
  obtain ⟨hx, hb, hml, hown, hI, hlk, hst, rfl⟩ := hZ
  obtain ⟨C, T, tyf, ⟨hcl, hin, hty, hnm⟩, h1, h2, h3, hdef⟩ := nw
  intro H locs ls hR hS hl
  obtain ⟨ws, tys, hK, hP, hD, hr⟩ := id hR
  have hA : ∀ q, s.heap.size ≤ q → (fun q => lo ≤ q) q := fun q hq => Nat.le_trans hI.2.2.2.2.1 hq
  refine va_new (ci := ci) hx hb hI.1.use hin tyf hty hown (hI.1.use _ h1) (hI.1.use _ h2) (hI.1.use _ h3) hK hP hD hS hA hcl hdef hk1 hn1 hd (fun q H1 hP1 hD1 hS1 => ?_)
  refine kk q (Rin.fresh hD1 hr) H1 locs ls ⟨_, tys ++ [], (List.append_nil tys).symm ▸ hK, hP1, hD1, ?_⟩ hS1 hl
  exact Rin.push ⟨ws.length, by simp⟩ hr
theorem V_anew (hZ : OKz Z own cc nL fr lc mc ms) {idx N : Nat} {C : String} {i : Int32} (h1 : Cond.classLink own idx C ∈ tbW) (h2 : Cond.arrayOver (.object C) ∈ tbW) (hd : decode cc pc = .ok (.anewarray idx, 3)) (hi : ¬ i < 0) (hN : i.toNatClampNeg = N) (hb4 : N * 4 ≤ 536870912) (hk1 : k + 1 ≤ mc) (hn1 : n + N ≤ ms) (kk : ∀ q : Nat, h q = none → V Z (pc + 3) lv (.ref q :: st) (hup h q (aR C N (fun _ => none))) (k + 1) (n + N)) : V Z pc lv (.int i :: st) h k n := by
  obtain ⟨⟨l, D, lo, b, L, xs⟩, p, e, R, s, m, args, below, meth, c, Q⟩ := Z
  obtain ⟨hx, hb, hml, hown, hI, hlk, hst, rfl⟩ := hZ
  intro H locs ls hR hS hl
  obtain ⟨ws, tys, hK, hP, hD, hr⟩ := id hR
  have hA : ∀ q, s.heap.size ≤ q → (fun q => lo ≤ q) q := fun q hq => Nat.le_trans hI.2.2.2.2.1 hq
  refine va_newq (C := C) hx hb hown (hI.1.use _ h1) (va_AO.of (hI.1.use (args := #[]) _ h2)) hK hP hD hS hA hi hN hb4 hk1 hn1 hd (fun q cA H1 hK1 hP1 hD1 hS1 => ?_)
  refine kk q (Rin.fresh hD1 hr) H1 locs ls ⟨_, _, hK1, hP1, hD1, ?_⟩ hS1 hl
  exact Rin.push ⟨ws.length, tys.length, cA, by simp, by simp⟩ hr
theorem V_inew (hZ : OKz Z own cc nL fr lc mc ms) {N : Nat} {i : Int32} (h1 : Cond.arrayClass .int ∈ tbW) (hd : decode cc pc = .ok (.newarray .int, 2)) (hi : ¬ i < 0) (hN : i.toNatClampNeg = N) (hb4 : N * 4 ≤ 536870912) (hk1 : k + 1 ≤ mc) (hn1 : n + N ≤ ms) (kk : ∀ q : Nat, h q = none → V Z (pc + 2) lv (.ref q :: st) (hup h q (aI N (fun _ => 0))) (k + 1) (n + N)) : V Z pc lv (.int i :: st) h k n := by
  obtain ⟨⟨l, D, lo, b, L, xs⟩, p, e, R, s, m, args, below, meth, c, Q⟩ := Z
  obtain ⟨hx, hb, hml, hown, hI, hlk, hst, rfl⟩ := hZ
  intro H locs ls hR hS hl
  obtain ⟨ws, tys, hK, hP, hD, hr⟩ := id hR
  have hA : ∀ q, s.heap.size ≤ q → (fun q => lo ≤ q) q := fun q hq => Nat.le_trans hI.2.2.2.2.1 hq
  refine va_newa (atype := .int) (a0 := (N, .inl (fun _ => 0))) hx hb (hI.1.use _ h1) rfl hK hP hD hS hA (fun cA => rfl) hi hN hb4 hk1 hn1 hd (fun q cA H1 hK1 hP1 hD1 hS1 => ?_)
  refine kk q (Rin.fresh hD1 hr) H1 locs ls ⟨_, _, hK1, hP1, hD1, ?_⟩ hS1 hl
  exact Rin.push ⟨ws.length, tys.length, cA, by simp, by simp; rfl⟩ hr
theorem V_alen (hZ : OKz Z own cc nL fr lc mc ms) {q : Nat} {a : FieldType × vp_A} (hd : decode cc pc = .ok (.arraylength, 1)) (hc : h q = some (.inl a)) (kk : V Z (pc + 1) lv (.int (Int32.ofNat a.2.1) :: st) h k n) : V Z pc lv (.ref q :: st) h k n := by
  obtain ⟨⟨l, D, lo, b, L, xs⟩, p, e, R, s, m, args, below, meth, c, Q⟩ := Z
  obtain ⟨hx, hb, hml, hown, hI, hlk, hst, hR0⟩ := hZ
  intro H locs ls hR hS hl
  obtain ⟨ws, tys, hK, hP, hD, hr⟩ := id hR
  obtain ⟨i, j, cA, hi, hj⟩ := hr q _ hc
  exact va_alen hx hb hK hP i j hi hj rfl hd (kk H locs ls hR hS hl)
theorem V_aald (hZ : OKz Z own cc nL fr lc mc ms) {q N : Nat} {C : String} {f : Nat → Option Nat} {i : Int32} (hd : decode cc pc = .ok (.aaload, 1)) (hc : h q = some (aR C N f)) (hi : vp_in i N) (kk : V Z (pc + 1) lv (va_rf (f i.toNatClampNeg) :: st) h k n) : V Z pc lv (.int i :: .ref q :: st) h k n := by
  obtain ⟨⟨l, D, lo, b, L, xs⟩, p, e, R, s, m, args, below, meth, c, Q⟩ := Z
  obtain ⟨hx, hb, hml, hown, hI, hlk, hst, hR0⟩ := hZ
  intro H locs ls hR hS hl
  obtain ⟨ws, tys, hK, hP, hD, hr⟩ := id hR
  obtain ⟨i1, j, cA, h1, h2⟩ := hr q _ hc
  exact va_aldq hx hb hK hP i1 j h1 h2 hi hd (kk H locs ls hR hS hl)
theorem V_iald (hZ : OKz Z own cc nL fr lc mc ms) {q N : Nat} {f : Nat → Int32} {i : Int32} (hd : decode cc pc = .ok (.iaload, 1)) (hc : h q = some (aI N f)) (hi : vp_in i N) (kk : V Z (pc + 1) lv (.int (f i.toNatClampNeg) :: st) h k n) : V Z pc lv (.int i :: .ref q :: st) h k n := by
  obtain ⟨⟨l, D, lo, b, L, xs⟩, p, e, R, s, m, args, below, meth, c, Q⟩ := Z
  obtain ⟨hx, hb, hml, hown, hI, hlk, hst, hR0⟩ := hZ
  intro H locs ls hR hS hl
  obtain ⟨ws, tys, hK, hP, hD, hr⟩ := id hR
  obtain ⟨i1, j, cA, h1, h2⟩ := hr q _ hc
  exact va_iald hx hb hK hP i1 j h1 h2 hi hd (kk H locs ls hR hS hl)
theorem V_iast (hZ : OKz Z own cc nL fr lc mc ms) {q N : Nat} {f : Nat → Int32} {i x : Int32} (hd : decode cc pc = .ok (.iastore, 1)) (hc : h q = some (aI N f)) (hi : vp_in i N) (kk : V Z (pc + 1) lv st (hup h q (aI N (upd f i.toNatClampNeg x))) k n) : V Z pc lv (.int x :: .int i :: .ref q :: st) h k n := by
  obtain ⟨⟨l, D, lo, b, L, xs⟩, p, e, R, s, m, args, below, meth, c, Q⟩ := Z
  obtain ⟨hx, hb, hml, hown, hI, hlk, hst, hR0⟩ := hZ
  intro H locs ls hR hS hl
  obtain ⟨ws, tys, hK, hP, hD, hr⟩ := id hR
  obtain ⟨i1, j, cA, h1, h2⟩ := hr q _ hc
  refine va_iast hx hb hK hP hD hS i1 j h1 h2 hi hd (fun H1 locs1 hP1 hD1 hS1 => ?_)
  refine kk H1 locs1 ls ⟨_, tys, hK, hP1, hD1, ?_⟩ hS1 hl
  exact Rin.set hD h1 ⟨i1, j, cA, List.getElem?_set_self (List.getElem?_eq_some_iff.mp h1).1, h2⟩ hr
theorem V_aast (hZ : OKz Z own cc nL fr lc mc ms) {q N ci x : Nat} {r : vw_C} {vs : List Value} {f : Nat → Option Nat} {i : Int32} (hd : decode cc pc = .ok (.aastore, 1)) (hc : h q = some (aR r.1 N f)) (hv : h x = some (.inr (ci, vs))) (hci : vwCl[ci]? = some r) (hi : vp_in i N) (kk : V Z (pc + 1) lv st (hup h q (aR r.1 N (va_up f i.toNatClampNeg (some x)))) k n) : V Z pc lv (.ref x :: .int i :: .ref q :: st) h k n := by
  obtain ⟨⟨l, D, lo, b, L, xs⟩, p, e, R, s, m, args, below, meth, c, Q⟩ := Z
  obtain ⟨hx, hb, hml, hown, hI, hlk, hst, hR0⟩ := hZ
  intro H locs ls hR hS hl
  obtain ⟨ws, tys, hK, hP, hD, hr⟩ := id hR
  obtain ⟨i1, j, cA, h1, h2⟩ := hr q _ hc
  obtain ⟨i2, h3⟩ := hr x _ hv
  refine va_astq hx hb hK hP hD hS i1 j i2 ci h1 h2 h3 hci hi hd (fun H1 locs1 hP1 hD1 hS1 => ?_)
  refine kk H1 locs1 ls ⟨_, tys, hK, hP1, hD1, ?_⟩ hS1 hl
  exact Rin.set hD h1 ⟨i1, j, cA, List.getElem?_set_self (List.getElem?_eq_some_iff.mp h1).1, h2⟩ hr
theorem V_aastN (hZ : OKz Z own cc nL fr lc mc ms) {q N : Nat} {C : String} {f : Nat → Option Nat} {i : Int32} (hd : decode cc pc = .ok (.aastore, 1)) (hc : h q = some (aR C N f)) (hi : vp_in i N) (kk : V Z (pc + 1) lv st (hup h q (aR C N (va_up f i.toNatClampNeg none))) k n) : V Z pc lv (.null :: .int i :: .ref q :: st) h k n := by
  obtain ⟨⟨l, D, lo, b, L, xs⟩, p, e, R, s, m, args, below, meth, c, Q⟩ := Z
  obtain ⟨hx, hb, hml, hown, hI, hlk, hst, hR0⟩ := hZ
  intro H locs ls hR hS hl
  obtain ⟨ws, tys, hK, hP, hD, hr⟩ := id hR
  obtain ⟨i1, j, cA, h1, h2⟩ := hr q _ hc
  refine va_astqN hx hb hK hP hD hS i1 j h1 h2 hi hd (fun H1 locs1 hP1 hD1 hS1 => ?_)
  refine kk H1 locs1 ls ⟨_, tys, hK, hP1, hD1, ?_⟩ hS1 hl
  exact Rin.set hD h1 ⟨i1, j, cA, List.getElem?_set_self (List.getElem?_eq_some_iff.mp h1).1, h2⟩ hr
theorem vp_in_n {i N : Nat} (hi : i < N) (hN : N < 2 ^ 31) : vp_in (nI i) N := vp_in_nI hi (by omega)
theorem clampn {i : Nat} (hi : i < 2 ^ 31) : (nI i).toNatClampNeg = i := by
  simp only [Int32.toNatClampNeg, nI_toInt hi]
  omega
theorem V_aaldn (hZ : OKz Z own cc nL fr lc mc ms) {q N i : Nat} {C : String} {f : Nat → Option Nat} {v : Value} (hd : decode cc pc = .ok (.aaload, 1)) (hc : h q = some (aR C N f)) (hi : i < N) (hN : N < 2 ^ 31) (hv : va_rf (f i) = v) (kk : V Z (pc + 1) lv (v :: st) h k n) : V Z pc lv (.int (nI i) :: .ref q :: st) h k n := by
  refine V_aald hZ hd hc (vp_in_n hi hN) ?_
  rw [clampn (by omega), hv]
  exact kk
theorem V_ialdn (hZ : OKz Z own cc nL fr lc mc ms) {q N i : Nat} {f : Nat → Int32} (hd : decode cc pc = .ok (.iaload, 1)) (hc : h q = some (aI N f)) (hi : i < N) (hN : N < 2 ^ 31) (kk : V Z (pc + 1) lv (.int (f i) :: st) h k n) : V Z pc lv (.int (nI i) :: .ref q :: st) h k n := by
  refine V_iald hZ hd hc (vp_in_n hi hN) ?_
  rw [clampn (by omega)]
  exact kk
theorem V_iastn (hZ : OKz Z own cc nL fr lc mc ms) {q N i : Nat} {f : Nat → Int32} {x : Int32} (hd : decode cc pc = .ok (.iastore, 1)) (hc : h q = some (aI N f)) (hi : i < N) (hN : N < 2 ^ 31) (kk : V Z (pc + 1) lv st (hup h q (aI N (upd f i x))) k n) : V Z pc lv (.int x :: .int (nI i) :: .ref q :: st) h k n := by
  refine V_iast hZ hd hc (vp_in_n hi hN) ?_
  rw [clampn (by omega)]
  exact kk
theorem V_aastn (hZ : OKz Z own cc nL fr lc mc ms) {q N ci x i : Nat} {r : vw_C} {vs : List Value} {f : Nat → Option Nat} (hd : decode cc pc = .ok (.aastore, 1)) (hc : h q = some (aR r.1 N f)) (hv : h x = some (.inr (ci, vs))) (hci : vwCl[ci]? = some r) (hi : i < N) (hN : N < 2 ^ 31) (kk : V Z (pc + 1) lv st (hup h q (aR r.1 N (va_up f i (some x)))) k n) : V Z pc lv (.ref x :: .int (nI i) :: .ref q :: st) h k n := by
  refine V_aast hZ hd hc hv hci (vp_in_n hi hN) ?_
  rw [clampn (by omega)]
  exact kk
theorem V_aastNn (hZ : OKz Z own cc nL fr lc mc ms) {q N i : Nat} {C : String} {f : Nat → Option Nat} (hd : decode cc pc = .ok (.aastore, 1)) (hc : h q = some (aR C N f)) (hi : i < N) (hN : N < 2 ^ 31) (kk : V Z (pc + 1) lv st (hup h q (aR C N (va_up f i none))) k n) : V Z pc lv (.null :: .int (nI i) :: .ref q :: st) h k n := by
  refine V_aastN hZ hd hc (vp_in_n hi hN) ?_
  rw [clampn (by omega)]
  exact kk
/-- the script -/
theorem V_slen (hZ : OKz Z own cc nL fr lc mc ms) (hd : decode cc pc = .ok (.arraylength, 1)) (kk : V Z (pc + 1) lv (.int (Int32.ofNat Z.1.2.2.2.2.1) :: st) h k n) : V Z pc lv (.ref Z.1.2.2.2.1 :: st) h k n := by
  obtain ⟨⟨l, D, lo, b, L, xs⟩, p, e, R, s, m, args, below, meth, c, Q⟩ := Z
  obtain ⟨hx, hb, hml, hown, hI, hlk, hst, hR0⟩ := hZ
  intro H locs ls hR hS hl
  exact va_slen hx hb hI.2.2.2.2.2.2 (Nat.lt_of_lt_of_le hI.2.2.2.2.2.1 hI.2.2.2.2.1) (Nat.not_le.mpr hI.2.2.2.2.2.1) hS hd (kk H locs ls hR hS hl)
theorem V_sld (hZ : OKz Z own cc nL fr lc mc ms) {i : Int32} (hd : decode cc pc = .ok (.iaload, 1)) (hi : vp_in i Z.1.2.2.2.2.1) (kk : V Z (pc + 1) lv (.int (Z.1.2.2.2.2.2 i.toNatClampNeg) :: st) h k n) : V Z pc lv (.int i :: .ref Z.1.2.2.2.1 :: st) h k n := by
  obtain ⟨⟨l, D, lo, b, L, xs⟩, p, e, R, s, m, args, below, meth, c, Q⟩ := Z
  obtain ⟨hx, hb, hml, hown, hI, hlk, hst, hR0⟩ := hZ
  intro H locs ls hR hS hl
  exact va_sld hx hb hI.2.2.2.2.2.2 (Nat.lt_of_lt_of_le hI.2.2.2.2.2.1 hI.2.2.2.2.1) (Nat.not_le.mpr hI.2.2.2.2.2.1) hS hi hd (kk H locs ls hR hS hl)
end
end
section
/-! rows of V: ends, calls, throws, the entry -/
/-- what the tables say of a method -/
def MEv (y : MethodName) (bytes : ByteArray) (maxL : Nat) (ret : Option FieldType) (a : Nat) : Prop :=
  Cond.code y bytes maxL ret ∈ tbW ∧ Cond.initialized y.cls ∈ tbW ∧ y.cls ≠ "java/lang/invoke/MethodHandle" ∧ y.cls ≠ "java/lang/invoke/VarHandle" ∧ (parseMethodDescriptor y.desc).map (fun d => d.parameters.length) = some a
def MIv (y : MethodName) : Prop := Cond.instanceMethod y ∈ tbW ∧ Cond.selects y.cls y y ∈ tbW
/-- what the tables say of a throw -/
def TWv (own : String) (ik is ic : Nat) (E : String) : Prop :=
  own = RX5 ∧ (∃ tx : String, (is, tx) ∈ srl) ∧ Cond.classLink own ik E ∈ tbW ∧ Cond.initialized E ∈ tbW ∧ (∀ w ∈ vx_atS own ic E ["java/lang/RuntimeException", "java/lang/Exception"], w ∈ tbW) ∧ Bundle.fit E = true ∧ ∀ w ∈ vx_atS own ic E ["java/lang/RuntimeException", "java/lang/Exception"], vx_ot w = true
section
variable {Z : ZC} {pc : Nat} {lv : List (Option Value)} {st rest : List Value} {h : HP} {k n : Nat} {own : String} {cc : ByteArray} {nL fr lc mc ms : Nat}
variable {nm : String} {ret : Option FieldType} {Qn : Option Value → HP → Prop} {Qx : String → HP → Prop}
theorem V_iret (hZ : OKz Z own cc nL fr lc mc ms) (hE : EDz Z nm ret mc ms Qn Qx) {ty : FieldType} {v : Int32} (hr : ret = some ty) (hn : narrow ty (.int v) = .int v) (hd : decode cc pc = .ok (.ireturn, 1)) (hk1 : k ≤ mc) (hn1 : n ≤ ms) (hq : Qn (some (.int v)) h) : V Z pc lv [.int v] h k n := by
  obtain ⟨⟨l, D, lo, b, L, xs⟩, p, e, R, s, m, args, below, meth, c, Q⟩ := Z
  obtain ⟨hx, hb, hml, hown, hI, hlk, hst, hR0⟩ := hZ
  obtain ⟨-, hret, rfl⟩ := hE
  intro H locs ls hR hS hl
  exact W.widen hk1 hn1 (vx_ret (W.zret hx hb (hret.trans hr) hn (fun t ht hW => ⟨_, h, rfl, hq, by rw [ht]; exact hR.moved hW.alike, hS.F ht⟩) hS.2.2 hd hlk))
theorem V_lret (hZ : OKz Z own cc nL fr lc mc ms) (hE : EDz Z nm ret mc ms Qn Qx) {v : Int64} (hr : ret = some .long) (hd : decode cc pc = .ok (.lreturn, 1)) (hk1 : k ≤ mc) (hn1 : n ≤ ms) (hq : Qn (some (.long v)) h) : V Z pc lv [.long v] h k n := by
  obtain ⟨⟨l, D, lo, b, L, xs⟩, p, e, R, s, m, args, below, meth, c, Q⟩ := Z
  obtain ⟨hx, hb, hml, hown, hI, hlk, hst, hR0⟩ := hZ
  obtain ⟨-, hret, rfl⟩ := hE
  intro H locs ls hR hS hl
  exact W.widen hk1 hn1 (vx_ret (W.lret hx hb (hret.trans hr) (fun t ht hW => ⟨_, h, rfl, hq, by rw [ht]; exact hR.moved hW.alike, hS.F ht⟩) hS.2.2 hd hlk))
theorem V_dret (hZ : OKz Z own cc nL fr lc mc ms) (hE : EDz Z nm ret mc ms Qn Qx) {v : UInt64} (hr : ret = some .double) (hd : decode cc pc = .ok (.dreturn, 1)) (hk1 : k ≤ mc) (hn1 : n ≤ ms) (hq : Qn (some (.double v)) h) : V Z pc lv [.double v] h k n := by
  obtain ⟨⟨l, D, lo, b, L, xs⟩, p, e, R, s, m, args, below, meth, c, Q⟩ := Z
  obtain ⟨hx, hb, hml, hown, hI, hlk, hst, hR0⟩ := hZ
  obtain ⟨-, hret, rfl⟩ := hE
  intro H locs ls hR hS hl
  exact W.widen hk1 hn1 (vx_ret (W.dret hx hb (hret.trans hr) (fun t ht hW => ⟨_, h, rfl, hq, by rw [ht]; exact hR.moved hW.alike, hS.F ht⟩) hS.2.2 hd hlk))
theorem V_vret (hZ : OKz Z own cc nL fr lc mc ms) (hE : EDz Z nm ret mc ms Qn Qx) (hr : ret = none) (hd : decode cc pc = .ok (.return_, 1)) (hk1 : k ≤ mc) (hn1 : n ≤ ms) (hq : Qn none h) : V Z pc lv [] h k n := by
  obtain ⟨⟨l, D, lo, b, L, xs⟩, p, e, R, s, m, args, below, meth, c, Q⟩ := Z
  obtain ⟨hx, hb, hml, hown, hI, hlk, hst, hR0⟩ := hZ
  obtain ⟨-, hret, rfl⟩ := hE
  intro H locs ls hR hS hl
  exact W.widen hk1 hn1 (vx_ret (W.vret hx hb (hret.trans hr) (fun t ht hW => ⟨_, h, rfl, hq, by rw [ht]; exact hR.moved hW.alike, hS.F ht⟩) hS.2.2 hd hlk))
theorem V_aret (hZ : OKz Z own cc nL fr lc mc ms) (hE : EDz Z nm ret mc ms Qn Qx) {C : String} {v : Value} (hr : ret = some (.object C)) (hv : isR v = true) (hd : decode cc pc = .ok (.areturn, 1)) (hk1 : k ≤ mc) (hn1 : n ≤ ms) (hq : Qn (some v) h) : V Z pc lv [v] h k n := by
  obtain ⟨⟨l, D, lo, b, L, xs⟩, p, e, R, s, m, args, below, meth, c, Q⟩ := Z
  obtain ⟨hx, hb, hml, hown, hI, hlk, hst, hR0⟩ := hZ
  obtain ⟨-, hret, rfl⟩ := hE
  intro H locs ls hR hS hl
  exact W.widen hk1 hn1 (vx_ret (W.aret hx hb (hret.trans hr) (Or.inl ⟨_, rfl⟩) (isR_cases hv) (fun t ht hW => ⟨_, h, rfl, hq, by rw [ht]; exact hR.moved hW.alike, hS.F ht⟩) hS.2.2 hd hlk))
/-- thrown through a method without handlers -/
theorem VX_out (hZ : OKz Z own cc nL fr lc mc ms) (hE : EDz Z nm ret mc ms Qn Qx) (hN : NHz Z) {E : String} (hk1 : k ≤ mc) (hn1 : n ≤ ms) (hq : Qx E h) : VX Z pc lv E h k n := by
  obtain ⟨⟨l, D, lo, b, L, xs⟩, p, e, R, s, m, args, below, meth, c, Q⟩ := Z
  obtain ⟨hx, hb, hml, hown, hI, hlk, hst, hR0⟩ := hZ
  obtain ⟨-, hret, rfl⟩ := hE
  intro H locs ls q ce rest hR hS hl h1 h2 h3
  exact vx_out (fun x hx => (hN x hx).elim) hlk h1 h2 h3 (fun t ht hvm => ⟨h, hq, by rw [ht]; exact hR.moved hvm, hS.F ht⟩) hS.2.2 hk1 hn1
theorem blind (G : GC) (av : List Value) (h : HP) : FrameBlind (va_Pc av (fun U => Iv G U U.heap ∧ Rp G.2.1 U G.2.2.1 h U.heap)) := by
  intro a U g mk ⟨h1, h2, h3⟩
  exact ⟨h1, h2.move (U := U.calling g mk a) (State.WarmedH.refl U) (Nat.le_refl _) (fun _ _ _ => rfl), Rp.moved (U := U.calling g mk a) (Vm.Alike.refl U.vm) h3⟩
theorem Iv_at {G : GC} {s U : State} {H : Heap} {locs : List Loc} (hI : Iv G s s.heap) (hS : va_S (fun q => G.2.2.1 ≤ q) s.heap H locs) (hU : U.heap = H) (hW : s.WarmedH U.vm) : Iv G U U.heap := by
  rw [hU]
  exact hI.move hW hS.1 hS.2.1
/-- behind a run: both ends -/
theorem V_after {l : Launch} {D : va_G} {lo b L : Nat} {xs : Nat → Int32} {p : Program} {e : Env} {R : Room} {s : State} {m : MethodId} {args : Array Value} {below : List Frame} {meth : Method} {c : Code} {Q : State → Prop} {mc' ms' : Nat} {Qn' : Option Value → HP → Prop} {Qx' : String → HP → Prop} {a : Array Value} {st0 : List Value} {H : Heap} {locs : List Loc} {ls : Array Slot}
    (hS : va_S (fun q => lo ≤ q) s.heap H locs) (hl : lH ls c.maxLocals lv)
    (run : vx_Run p l e R s m args below meth c H locs k n mc' ms' (F0 m pc ls st0) rest (QcN (l, D, lo, b, L, xs) Qn' a) (XcN (l, D, lo, b, L, xs) Qx') (fun q => lo ≤ q))
    (kn : ∀ (v : Option Value) (h' : HP), Qn' v h' → V ((l, D, lo, b, L, xs), p, e, R, s, m, args, below, meth, c, Q) (pc + 3) lv (v.toList ++ rest) h' (k + mc') (n + ms'))
    (kx : ∀ (E : String) (h' : HP), Qx' E h' → VX ((l, D, lo, b, L, xs), p, e, R, s, m, args, below, meth, c, Q) pc lv E h' (k + mc') (n + ms')) : W p l e R s m args below meth c H locs k n Q (F0 m pc ls st0) := by
  intro T hT X
  rcases run T hT X with ⟨v, st₀, t, T', L', h0, X', hL, e1, e2, ⟨v2, h', ho, hq, hRt, hF⟩, stp⟩ | ⟨q, st₀, t, T', L', E, ce, h0, X', hL, e1, e2, ⟨h', hq, hRt, hF⟩, hce, hcv, hcl, stp⟩
  · cases ho
    obtain ⟨k1, k2, k3⟩ := vx_keep (A0 := fun q => lo ≤ q) (free := fun q => lo ≤ q) h0 e1 hS (fun q _ h => h) (fun q h => h) hL hF
    obtain ⟨t2, a1, b1⟩ := kn v h' hq T'.heap (locs ++ L') ls (by rw [e1]; exact hRt.moved (by rw [← e2]; exact X'.warmed.alike.symm)) k3 hl T' rfl X'
    exact ⟨t2, stp t2 a1, b1⟩
  · obtain ⟨k1, k2, k3⟩ := vx_keep (A0 := fun q => lo ≤ q) (free := fun q => lo ≤ q) h0 e1 hS (fun q _ h => h) (fun q h => h) hL hF
    obtain ⟨t2, a1, b1⟩ := kx E h' hq T'.heap (locs ++ L') ls q ce rest (by rw [e1]; exact hRt.moved (by rw [← e2]; exact X'.warmed.alike.symm)) k3 hl (by rw [e1]; exact hce) hcv hcl T' rfl X'
    exact ⟨t2, stp.trans a1, b1⟩
theorem good_code {y : MethodName} {bytes : ByteArray} {maxL : Nat} {ret : Option FieldType} : goodWord (Cond.code y bytes maxL ret) = true := rfl
theorem V_invV (hZ : OKz Z own cc nL fr lc mc ms) {idx b a ci : Nat} {y : MethodName} {bytes : ByteArray} {maxL fr' lc' mc' ms' : Nat} {ret' : Option FieldType} {As vs : List Value} {r : vw_C} {Qn' : Option Value → HP → Prop} {Qx' : String → HP → Prop}
    (hm : MEv y bytes maxL ret' a) (hi : MIv y) (hlk0 : Cond.methodLink own idx y ∈ tbW) (hcal : Calls Z.1 y bytes maxL ret' fr' lc' mc' ms' (.ref b :: As) h Qn' Qx')
    (hd : decode cc pc = .ok (.invokevirtual idx, 3)) (hst0 : st = As.reverse ++ .ref b :: rest) (hn : As.length = a) (hc : h b = some (.inr (ci, vs))) (hci : vwCl[ci]? = some r) (hr1 : r.1 = y.cls)
    (hfr : fr' + 1 ≤ fr ∧ 8 + (maxL + 11) + lc' ≤ lc) (hcat : (rest.map fun v => v.category).sum ≤ 8) (hk : k + mc' ≤ mc ∧ n + ms' ≤ ms)
    (kx : ∀ (E : String) (h' : HP), Qx' E h' → VX Z pc lv E h' (k + mc') (n + ms'))
    (kn : ∀ (v : Option Value) (h' : HP), Qn' v h' → V Z (pc + 3) lv (v.toList ++ rest) h' (k + mc') (n + ms')) : V Z pc lv st h k n := by
  obtain ⟨⟨l, D, lo, b0, L, xs⟩, p, e, R, s, m, args, below, meth, c, Q⟩ := Z
  obtain ⟨hx, hb, hml, hown, hI, hlk, hst, rfl⟩ := hZ
  obtain ⟨w1, w2, w3, w4, w5⟩ := hm
  have hts := hI.1.use (args := args)
  have hM := hcal hst
  subst hst0
  intro H locs ls hR hS hl
  obtain ⟨ws, tys, hK, hP, hD, hr⟩ := id hR
  obtain ⟨i, hi'⟩ := hr b _ hc
  have hrecv := va_recv hK hP hci hi'
  rw [hr1] at hrecv
  have cb := callB_of (R := { frames := fr, cells := mc, slots := ms, locals := lc }) (rm := { frames := fr', cells := mc', slots := ms', locals := lc' }) (ws := [Cond.code y bytes maxL ret']) (mc := mc') (ms := ms') (own := own) (index := idx) a hts (fun w hw => by rw [List.mem_singleton.mp hw]; exact ⟨w1, good_of_word good_code⟩) rfl rfl rfl (hts _ w2) (hts _ hlk0) ⟨w3, w4, w5⟩ hfr
  refine V_after (D := D) (b := b0) (L := L) (xs := xs) hS hl (vx_runV (As := As) (rest := rest) ⟨hx, hb, hml, hown, hts⟩ hM ⟨cb, hts _ hi.1, hts _ hi.2⟩ ⟨blind _ _ _, hrecv, fun U hU hW => ⟨rfl, Iv_at (G := (l, D, lo, b0, L, xs)) hI hS hU hW, by rw [hU]; exact hR.moved hW.alike⟩⟩ rfl hn (hl.1.trans hml) rfl (lv_room hcat) hd hk) kn kx
theorem V_invS (hZ : OKz Z own cc nL fr lc mc ms) {idx a : Nat} {y : MethodName} {bytes : ByteArray} {maxL fr' lc' mc' ms' : Nat} {ret' : Option FieldType} {As : List Value} {Qn' : Option Value → HP → Prop} {Qx' : String → HP → Prop}
    (hm : MEv y bytes maxL ret' a) (hi : Cond.static y ∈ tbW) (hlk0 : Cond.methodLink own idx y ∈ tbW) (hcal : Calls Z.1 y bytes maxL ret' fr' lc' mc' ms' As h Qn' Qx')
    (hd : decode cc pc = .ok (.invokestatic idx, 3)) (hst0 : st = As.reverse ++ rest) (hn : As.length = a)
    (hfr : fr' + 1 ≤ fr ∧ 8 + (maxL + 11) + lc' ≤ lc) (hcat : (rest.map fun v => v.category).sum ≤ 8) (hk : k + mc' ≤ mc ∧ n + ms' ≤ ms)
    (kx : ∀ (E : String) (h' : HP), Qx' E h' → VX Z pc lv E h' (k + mc') (n + ms'))
    (kn : ∀ (v : Option Value) (h' : HP), Qn' v h' → V Z (pc + 3) lv (v.toList ++ rest) h' (k + mc') (n + ms')) : V Z pc lv st h k n := by
  obtain ⟨⟨l, D, lo, b0, L, xs⟩, p, e, R, s, m, args, below, meth, c, Q⟩ := Z
  obtain ⟨hx, hb, hml, hown, hI, hlk, hst, rfl⟩ := hZ
  obtain ⟨w1, w2, w3, w4, w5⟩ := hm
  have hts := hI.1.use (args := args)
  have hM := hcal hst
  subst hst0
  intro H locs ls hR hS hl
  have cb := callB_of (R := { frames := fr, cells := mc, slots := ms, locals := lc }) (rm := { frames := fr', cells := mc', slots := ms', locals := lc' }) (ws := [Cond.code y bytes maxL ret']) (mc := mc') (ms := ms') (own := own) (index := idx) a hts (fun w hw => by rw [List.mem_singleton.mp hw]; exact ⟨w1, good_of_word good_code⟩) rfl rfl rfl (hts _ w2) (hts _ hlk0) ⟨w3, w4, w5⟩ hfr
  refine V_after (D := D) (b := b0) (L := L) (xs := xs) hS hl (vx_runS (As := As) (rest := rest) ⟨hx, hb, hml, hown, hts⟩ hM ⟨cb, hts _ hi⟩ ⟨blind _ _ _, fun U hU hW => ⟨rfl, Iv_at (G := (l, D, lo, b0, L, xs)) hI hS hU hW, by rw [hU]; exact hR.moved hW.alike⟩⟩ rfl hn (hl.1.trans hml) rfl (lv_room hcat) hd hk) kn kx
theorem V_invI (hZ : OKz Z own cc nL fr lc mc ms) {idx a b : Nat} {y : MethodName} {bytes : ByteArray} {maxL fr' lc' mc' ms' : Nat} {As : List Value} {Qn' : Option Value → HP → Prop} {Qx' : String → HP → Prop}
    (hm : MEv y bytes maxL none a) (hi : Cond.instanceMethod y ∈ tbW) (hnm : y.name = "<init>") (hlk0 : Cond.methodLink own idx y ∈ tbW) (hcal : Calls Z.1 y bytes maxL none fr' lc' mc' ms' (.ref b :: As) h Qn' Qx')
    (hd : decode cc pc = .ok (.invokespecial idx, 3)) (hst0 : st = As.reverse ++ .ref b :: rest) (hn : As.length = a)
    (hfr : fr' + 1 ≤ fr ∧ 8 + (maxL + 11) + lc' ≤ lc) (hcat : (rest.map fun v => v.category).sum ≤ 8) (hk : k + mc' ≤ mc ∧ n + ms' ≤ ms)
    (kx : ∀ (E : String) (h' : HP), Qx' E h' → VX Z pc lv E h' (k + mc') (n + ms'))
    (kn : ∀ (v : Option Value) (h' : HP), Qn' v h' → V Z (pc + 3) lv (v.toList ++ rest) h' (k + mc') (n + ms')) : V Z pc lv st h k n := by
  obtain ⟨⟨l, D, lo, b0, L, xs⟩, p, e, R, s, m, args, below, meth, c, Q⟩ := Z
  obtain ⟨hx, hb, hml, hown, hI, hlk, hst, rfl⟩ := hZ
  obtain ⟨w1, w2, w3, w4, w5⟩ := hm
  have hts := hI.1.use (args := args)
  have hM := hcal hst
  subst hst0
  intro H locs ls hR hS hl
  have cb := callB_of (R := { frames := fr, cells := mc, slots := ms, locals := lc }) (rm := { frames := fr', cells := mc', slots := ms', locals := lc' }) (ws := [Cond.code y bytes maxL none]) (mc := mc') (ms := ms') (own := own) (index := idx) a hts (fun w hw => by rw [List.mem_singleton.mp hw]; exact ⟨w1, good_of_word good_code⟩) rfl rfl rfl (hts _ w2) (hts _ hlk0) ⟨w3, w4, w5⟩ hfr
  refine V_after (D := D) (b := b0) (L := L) (xs := xs) hS hl (vx_runI (As := As) (rest := rest) ⟨hx, hb, hml, hown, hts⟩ hM ⟨cb, hnm, hts _ hi⟩ ⟨blind _ _ _, fun U hU hW => ⟨rfl, Iv_at (G := (l, D, lo, b0, L, xs)) hI hS hU hW, by rw [hU]; exact hR.moved hW.alike⟩⟩ rfl hn (hl.1.trans hml) rfl (lv_room hcat) hd hk) kn kx
theorem V_invIN (hZ : OKz Z own cc nL fr lc mc ms) {idx a b : Nat} {host : String} {y : MethodName} {bytes : ByteArray} {maxL fr' lc' mc' ms' : Nat} {As : List Value} {Qn' : Option Value → HP → Prop} {Qx' : String → HP → Prop}
    (hm : MEv y bytes maxL none a) (hi : Cond.instanceMethod y ∈ tbW) (hnm : y.name = "<init>") (hlk0 : Cond.methodLinkNest own idx y host ∈ tbW) (hcal : Calls Z.1 y bytes maxL none fr' lc' mc' ms' (.ref b :: As) h Qn' Qx')
    (hd : decode cc pc = .ok (.invokespecial idx, 3)) (hst0 : st = As.reverse ++ .ref b :: rest) (hn : As.length = a)
    (hfr : fr' + 1 ≤ fr ∧ 8 + (maxL + 11) + lc' ≤ lc) (hcat : (rest.map fun v => v.category).sum ≤ 8) (hk : k + mc' ≤ mc ∧ n + ms' ≤ ms)
    (kx : ∀ (E : String) (h' : HP), Qx' E h' → VX Z pc lv E h' (k + mc') (n + ms'))
    (kn : ∀ (v : Option Value) (h' : HP), Qn' v h' → V Z (pc + 3) lv (v.toList ++ rest) h' (k + mc') (n + ms')) : V Z pc lv st h k n := by
  obtain ⟨⟨l, D, lo, b0, L, xs⟩, p, e, R, s, m, args, below, meth, c, Q⟩ := Z
  obtain ⟨hx, hb, hml, hown, hI, hlk, hst, rfl⟩ := hZ
  obtain ⟨w1, w2, w3, w4, w5⟩ := hm
  have hts := hI.1.use (args := args)
  have hM := hcal hst
  subst hst0
  intro H locs ls hR hS hl
  have cb := va_cnB (R := { frames := fr, cells := mc, slots := ms, locals := lc }) (rm := { frames := fr', cells := mc', slots := ms', locals := lc' }) (ws := [Cond.code y bytes maxL none]) (mc := mc') (ms := ms') (own := own) (host := host) (index := idx) a hts (fun w hw => by rw [List.mem_singleton.mp hw]; exact ⟨w1, good_of_word good_code⟩) rfl rfl rfl (hI.1 _ hlk0) (hts _ w2) ⟨w3, w4, w5⟩ hfr
  refine V_after (D := D) (b := b0) (L := L) (xs := xs) hS hl (vx_runIN (As := As) (rest := rest) ⟨hx, hb, hml, hown, hts⟩ hM ⟨cb, hnm, hts _ hi⟩ ⟨blind _ _ _, fun U hU hW => ⟨rfl, Iv_at (G := (l, D, lo, b0, L, xs)) hI hS hU hW, by rw [hU]; exact hR.moved hW.alike⟩⟩ rfl hn (hl.1.trans hml) rfl (lv_room hcat) hd hk) kn kx
theorem V_objInit (hZ : OKz Z own cc nL fr lc mc ms) {idx q : Nat} (h1 : Cond.methodLink own idx objectInit ∈ tbW) (h2 : Cond.instanceMethod objectInit ∈ tbW) (h3 : Cond.code objectInit ⟨#[0xb1]⟩ 1 none ∈ tbW) (hd : decode cc pc = .ok (.invokespecial idx, 3)) (hfr : 1 ≤ fr) (hlc : (st.map fun v => v.category).sum + 12 ≤ lc) (kk : V Z (pc + 3) lv st h k n) : V Z pc lv (.ref q :: st) h k n := by
  obtain ⟨⟨l, D, lo, b, L, xs⟩, p, e, R, s, m, args, below, meth, c, Q⟩ := Z
  obtain ⟨hx, hb, hml, hown, hI, hlk, hst, rfl⟩ := hZ
  intro H locs ls hR hS hl
  exact W.objInit hx hb hown (hI.1.use _ h1) (hI.1.use _ h2) (hI.1.use _ h3) rfl hl.1 rfl hd hfr (by show 2 * 0 + _ + 12 ≤ lc; omega) (kk H locs ls hR hS hl)
/-- throw new E("text") in a method without handlers -/
theorem V_throw (hZ : OKz Z own cc nL fr lc mc ms) (hE : EDz Z nm ret mc ms Qn Qx) (hN : NHz Z) {ik is ic : Nat} {E : String} (tw : TWv own ik is ic E)
    (d0 : decode cc pc = .ok (.new ik, 3)) (d3 : decode cc (pc + 3) = .ok (.dup, 1)) (d4 : decode cc (pc + 4) = .ok (.ldc is, 2)) (d6 : decode cc (pc + 6) = .ok (.invokespecial ic, 3)) (d9 : decode cc (pc + 9) = .ok (.athrow, 1))
    (hfr : 5 < fr) (hlc : (st.map fun v => v.category).sum + 82 ≤ lc) (hk1 : k + 1 ≤ mc) (hn1 : n + 6 ≤ ms) (hq : Qx E h) : V Z pc lv st h k n := by
  obtain ⟨⟨l, D, lo, b, L, xs⟩, p, e, R, s, m, args, below, meth, c, Q⟩ := Z
  obtain ⟨hx, hb, hml, hown, hI, hlk, hst, rfl⟩ := hZ
  obtain ⟨-, hret, rfl⟩ := hE
  obtain ⟨rfl, ⟨tx, htx⟩, t1, t2, t3, t4, t5⟩ := tw
  have hts := hI.1.use (args := args)
  obtain ⟨sa, hsa⟩ := hI.2.1 _ htx
  intro H locs ls hR hS hl
  obtain ⟨ws, tys, hK, hP, hD, hr⟩ := id hR
  refine vx_throwS (A := fun q => lo ≤ q) hx hb hst hown t4 (by decide) (hts _ t1) (hts _ t2) hsa (fun w hw => hts _ (t3 w hw)) (fun w hw => ?_) hI.2.2.1.1 hI.2.2.1.2 hS hl.1 d0 d3 d4 d6 d9 (fun x hx => (hN x hx).elim) hfr (by show _ + (13 * 3 + 43) ≤ lc; omega) hk1 hn1 hlk (fun t hvm hz hq' => ⟨h, hq, ⟨ws, tys, hK.moved hvm, hP.kept (fun i x hi => hq' x.1 ((hP i x hi).lt)), hD, hr⟩, ?_⟩) hS.2.2 hk1 hn1
  · rcases List.mem_cons.mp hw with rfl | hw
    · rfl
    · rcases List.mem_cons.mp hw with rfl | hw
      · rfl
      · exact t5 w hw
  · exact ⟨Nat.le_trans hS.1 hz, fun q h1 h2 => (hq' q (Nat.lt_of_lt_of_le h1 hS.1)).trans (hS.2.1 q h1 h2)⟩
theorem V_throwW (hZ : OKz Z own cc nL fr lc mc ms) (hE : EDz Z nm ret mc ms Qn Qx) (hN : NHz Z) {ik is ic : Nat} {E : String} (tw : TWv own ik is ic E)
    (d0 : decode cc pc = .ok (.new ik, 3)) (d3 : decode cc (pc + 3) = .ok (.dup, 1)) (d4 : decode cc (pc + 4) = .ok (.ldc_w is, 3)) (d6 : decode cc (pc + 7) = .ok (.invokespecial ic, 3)) (d9 : decode cc (pc + 10) = .ok (.athrow, 1))
    (hfr : 5 < fr) (hlc : (st.map fun v => v.category).sum + 82 ≤ lc) (hk1 : k + 1 ≤ mc) (hn1 : n + 6 ≤ ms) (hq : Qx E h) : V Z pc lv st h k n := by
  obtain ⟨⟨l, D, lo, b, L, xs⟩, p, e, R, s, m, args, below, meth, c, Q⟩ := Z
  obtain ⟨hx, hb, hml, hown, hI, hlk, hst, rfl⟩ := hZ
  obtain ⟨-, hret, rfl⟩ := hE
  obtain ⟨rfl, ⟨tx, htx⟩, t1, t2, t3, t4, t5⟩ := tw
  have hts := hI.1.use (args := args)
  obtain ⟨sa, hsa⟩ := hI.2.1 _ htx
  intro H locs ls hR hS hl
  obtain ⟨ws, tys, hK, hP, hD, hr⟩ := id hR
  refine vx_throwSW (A := fun q => lo ≤ q) hx hb hst hown t4 (by decide) (hts _ t1) (hts _ t2) hsa (fun w hw => hts _ (t3 w hw)) (fun w hw => ?_) hI.2.2.1.1 hI.2.2.1.2 hS hl.1 d0 d3 d4 d6 d9 (fun x hx => (hN x hx).elim) hfr (by show _ + (13 * 3 + 43) ≤ lc; omega) hk1 hn1 hlk (fun t hvm hz hq' => ⟨h, hq, ⟨ws, tys, hK.moved hvm, hP.kept (fun i x hi => hq' x.1 ((hP i x hi).lt)), hD, hr⟩, ?_⟩) hS.2.2 hk1 hn1
  · rcases List.mem_cons.mp hw with rfl | hw
    · rfl
    · rcases List.mem_cons.mp hw with rfl | hw
      · rfl
      · exact t5 w hw
  · exact ⟨Nat.le_trans hS.1 hz, fun q h1 h2 => (hq' q (Nat.lt_of_lt_of_le h1 hS.1)).trans (hS.2.1 q h1 h2)⟩
/-- a method's contract out of a walk of its body from the entry -/
theorem Calls_of {G : GC} {y : MethodName} {fr' lc' : Nat} {args : List Value} (hy : plainName y.cls = true) (hlen : (lg_sl args).length ≤ nL) {lv0 : List (Option Value)} (hlv : ∀ (i : Nat) (v : Value), lv0[i]? = some (some v) → (i, v) ∈ lv_args 0 args)
    (body : ∀ Z : ZC, Z.1 = G → OKz Z y.cls cc nL fr lc mc ms → EDz Z y.name ret mc ms Qn Qx → NHz Z → V Z 0 lv0 [] h 0 0) : Calls G y cc nL ret fr lc mc ms args h Qn Qx := by
  intro hst
  obtain ⟨l, D, lo, b, L, xs⟩ := G
  refine vx_ofW (cc := cc) (maxL := nL) (ret := ret) hy rfl ?_
  intro p e s m args' below meth c s₁ B hml hN hv
  obtain ⟨rfl, hI, hR⟩ := hv
  have hl := lv_entry args (n := nL) hlen
  rw [lg_entry_eq]
  generalize ((lg_sl args) ++ List.replicate (nL - (lg_sl args).length) Slot.unset).toArray = ls at hl ⊢
  have hb := body ((l, D, lo, b, L, xs), p, e, _, s, m, args.toArray, below, meth, c, _) rfl ⟨B.exec, B.bytes, hml, findClass_of_methodNamed B.named, hI, B.notSynchronized, hst, rfl⟩ ⟨(name_of_methodNamed B.named B.method).1, B.returns, rfl⟩ hN
  exact hb s.heap [] ls hR va_S.rf ⟨by rw [hml]; exact hl.1, hl.2.1, fun i v hi => hl.2.2 (i, v) (hlv i v hi)⟩
end
end
section
/-! the words of the tables, by their places (by program: wip/p33/links.py) -/
theorem cl0 : CLs 0 RX0 TX0 7 tyX0 := ⟨rfl, by decide +kernel, tyX0_ok, nmX0⟩
theorem cl1 : CLs 1 RX1 TX1 8 tyX1 := ⟨rfl, by decide +kernel, tyX1_ok, nmX1⟩
theorem cl2 : CLs 2 RX2 TX2 2 tyX2 := ⟨rfl, by decide +kernel, tyX2_ok, nmX2⟩
theorem cl3 : CLs 3 RX3 TX3 3 tyX3 := ⟨rfl, by decide +kernel, tyX3_ok, nmX3⟩
theorem cl4 : CLs 4 RX4 TX4 2 tyX4 := ⟨rfl, by decide +kernel, tyX4_ok, nmX4⟩
theorem cl5 : CLs 5 RX5 TX5 9 tyX5 := ⟨rfl, by decide +kernel, tyX5_ok, nmX5⟩
theorem cl_L_9 : Cond.classLink RL 9 RX5 ∈ tbW := List.mem_filter.mpr ⟨List.mem_append_right _ (List.mem_of_getElem? (i := 17) (by decide +kernel)), by decide +kernel⟩
theorem ml_L_11 : Cond.methodLink RL 11 yX5_init ∈ tbW := List.mem_filter.mpr ⟨List.mem_append_right _ (List.mem_of_getElem? (i := 19) (by decide +kernel)), by decide +kernel⟩
theorem ml_X5_1 : Cond.methodLink RX5 1 objectInit ∈ tbW := List.mem_filter.mpr ⟨List.mem_append_right _ (List.mem_of_getElem? (i := 22) (by decide +kernel)), by decide +kernel⟩
theorem cl_X5_9 : Cond.classLink RX5 9 RX2 ∈ tbW := List.mem_filter.mpr ⟨List.mem_append_right _ (List.mem_of_getElem? (i := 25) (by decide +kernel)), by decide +kernel⟩
theorem ao_X2 : Cond.arrayOver (.object RX2) ∈ tbW := List.mem_filter.mpr ⟨List.mem_append_right _ (List.mem_of_getElem? (i := 26) (by decide +kernel)), by decide +kernel⟩
theorem cl_X5_15 : Cond.classLink RX5 15 RX0 ∈ tbW := List.mem_filter.mpr ⟨List.mem_append_right _ (List.mem_of_getElem? (i := 27) (by decide +kernel)), by decide +kernel⟩
theorem ao_X0 : Cond.arrayOver (.object RX0) ∈ tbW := List.mem_filter.mpr ⟨List.mem_append_right _ (List.mem_of_getElem? (i := 28) (by decide +kernel)), by decide +kernel⟩
theorem cl_X5_21 : Cond.classLink RX5 21 RX1 ∈ tbW := List.mem_filter.mpr ⟨List.mem_append_right _ (List.mem_of_getElem? (i := 29) (by decide +kernel)), by decide +kernel⟩
theorem ao_X1 : Cond.arrayOver (.object RX1) ∈ tbW := List.mem_filter.mpr ⟨List.mem_append_right _ (List.mem_of_getElem? (i := 30) (by decide +kernel)), by decide +kernel⟩
theorem cl_X5_27 : Cond.classLink RX5 27 RX3 ∈ tbW := List.mem_filter.mpr ⟨List.mem_append_right _ (List.mem_of_getElem? (i := 31) (by decide +kernel)), by decide +kernel⟩
theorem ao_X3 : Cond.arrayOver (.object RX3) ∈ tbW := List.mem_filter.mpr ⟨List.mem_append_right _ (List.mem_of_getElem? (i := 32) (by decide +kernel)), by decide +kernel⟩
theorem fl_X5_11 : FL RX5 11 5 0 (.array (.object "BookplateHall$Name")) true := ⟨_, _, _, _, cl5, by decide, rfl, rfl, fun _ => rfl, List.mem_filter.mpr ⟨List.mem_append_right _ (List.mem_of_getElem? (i := 33) (by decide +kernel)), by decide +kernel⟩⟩
theorem fl_X5_17 : FL RX5 17 5 1 (.array (.object "BookplateHall$BookRecord")) true := ⟨_, _, _, _, cl5, by decide, rfl, rfl, fun _ => rfl, List.mem_filter.mpr ⟨List.mem_append_right _ (List.mem_of_getElem? (i := 34) (by decide +kernel)), by decide +kernel⟩⟩
theorem fl_X5_23 : FL RX5 23 5 2 (.array (.object "BookplateHall$Copy")) true := ⟨_, _, _, _, cl5, by decide, rfl, rfl, fun _ => rfl, List.mem_filter.mpr ⟨List.mem_append_right _ (List.mem_of_getElem? (i := 35) (by decide +kernel)), by decide +kernel⟩⟩
theorem fl_X5_29 : FL RX5 29 5 3 (.array (.object "BookplateHall$Reader")) true := ⟨_, _, _, _, cl5, by decide, rfl, rfl, fun _ => rfl, List.mem_filter.mpr ⟨List.mem_append_right _ (List.mem_of_getElem? (i := 36) (by decide +kernel)), by decide +kernel⟩⟩
theorem fl_X5_33 : FL RX5 33 5 4 (.int) false := ⟨_, _, _, _, cl5, by decide, rfl, rfl, fun h => absurd h (by decide), List.mem_filter.mpr ⟨List.mem_append_right _ (List.mem_of_getElem? (i := 37) (by decide +kernel)), by decide +kernel⟩⟩
theorem fl_X5_75 : FL RX5 75 5 5 (.int) false := ⟨_, _, _, _, cl5, by decide, rfl, rfl, fun h => absurd h (by decide), List.mem_filter.mpr ⟨List.mem_append_right _ (List.mem_of_getElem? (i := 38) (by decide +kernel)), by decide +kernel⟩⟩
theorem fl_X5_136 : FL RX5 136 5 6 (.int) false := ⟨_, _, _, _, cl5, by decide, rfl, rfl, fun h => absurd h (by decide), List.mem_filter.mpr ⟨List.mem_append_right _ (List.mem_of_getElem? (i := 39) (by decide +kernel)), by decide +kernel⟩⟩
theorem fl_X5_156 : FL RX5 156 5 7 (.int) false := ⟨_, _, _, _, cl5, by decide, rfl, rfl, fun h => absurd h (by decide), List.mem_filter.mpr ⟨List.mem_append_right _ (List.mem_of_getElem? (i := 40) (by decide +kernel)), by decide +kernel⟩⟩
theorem fl_X5_181 : FL RX5 181 5 8 (.int) false := ⟨_, _, _, _, cl5, by decide, rfl, rfl, fun h => absurd h (by decide), List.mem_filter.mpr ⟨List.mem_append_right _ (List.mem_of_getElem? (i := 41) (by decide +kernel)), by decide +kernel⟩⟩
theorem ml_L_12 : Cond.methodLink RL 12 yX5_name ∈ tbW := List.mem_filter.mpr ⟨List.mem_append_right _ (List.mem_of_getElem? (i := 61) (by decide +kernel)), by decide +kernel⟩
theorem cl_X5_37 : Cond.classLink RX5 37 eIS ∈ tbW := List.mem_filter.mpr ⟨List.mem_append_right _ (List.mem_of_getElem? (i := 65) (by decide +kernel)), by decide +kernel⟩
theorem ca_IllegalStateException : Cond.castable "java/lang/IllegalStateException" "java/lang/IllegalStateException" ∈ tbW := List.mem_filter.mpr ⟨List.mem_append_right _ (List.mem_of_getElem? (i := 67) (by decide +kernel)), by decide +kernel⟩
theorem ml_X5_41 : Cond.methodLink RX5 41 ⟨"java/lang/IllegalStateException", "<init>", "(Ljava/lang/String;)V"⟩ ∈ tbW := List.mem_filter.mpr ⟨List.mem_append_right _ (List.mem_of_getElem? (i := 107) (by decide +kernel)), by decide +kernel⟩
theorem ml_X5_44 : Cond.methodLink RX5 44 yX2_init ∈ tbW := List.mem_filter.mpr ⟨List.mem_append_right _ (List.mem_of_getElem? (i := 134) (by decide +kernel)), by decide +kernel⟩
theorem ml_X2_3 : Cond.methodLink RX2 3 objectInit ∈ tbW := List.mem_filter.mpr ⟨List.mem_append_right _ (List.mem_of_getElem? (i := 137) (by decide +kernel)), by decide +kernel⟩
theorem fl_X2_9 : FL RX2 9 2 0 (.int) true := ⟨_, _, _, _, cl2, by decide, rfl, rfl, fun _ => rfl, List.mem_filter.mpr ⟨List.mem_append_right _ (List.mem_of_getElem? (i := 138) (by decide +kernel)), by decide +kernel⟩⟩
theorem fl_X5_65 : FLr RX5 65 2 0 := ⟨_, _, _, _, cl2, by decide, List.mem_filter.mpr ⟨List.mem_append_right _ (List.mem_of_getElem? (i := 139) (by decide +kernel)), by decide +kernel⟩⟩
theorem fl_X2_15 : FL RX2 15 2 1 (.object "BookplateHall$Name") false := ⟨_, _, _, _, cl2, by decide, rfl, rfl, fun h => absurd h (by decide), List.mem_filter.mpr ⟨List.mem_append_right _ (List.mem_of_getElem? (i := 140) (by decide +kernel)), by decide +kernel⟩⟩
theorem ml_L_30 : Cond.methodLink RL 30 yX5_record ∈ tbW := List.mem_filter.mpr ⟨List.mem_append_right _ (List.mem_of_getElem? (i := 146) (by decide +kernel)), by decide +kernel⟩
theorem ml_X5_68 : Cond.methodLink RX5 68 yX5_knownNameOrNull ∈ tbW := List.mem_filter.mpr ⟨List.mem_append_right _ (List.mem_of_getElem? (i := 150) (by decide +kernel)), by decide +kernel⟩
theorem ml_X5_47 : Cond.methodLink RX5 47 yX5_knownName ∈ tbW := List.mem_filter.mpr ⟨List.mem_append_right _ (List.mem_of_getElem? (i := 154) (by decide +kernel)), by decide +kernel⟩
theorem cl_X5_268 : Cond.classLink RX5 268 eIO ∈ tbW := List.mem_filter.mpr ⟨List.mem_append_right _ (List.mem_of_getElem? (i := 158) (by decide +kernel)), by decide +kernel⟩
theorem ca_IndexOutOfBoundsException : Cond.castable "java/lang/IndexOutOfBoundsException" "java/lang/IndexOutOfBoundsException" ∈ tbW := List.mem_filter.mpr ⟨List.mem_append_right _ (List.mem_of_getElem? (i := 160) (by decide +kernel)), by decide +kernel⟩
theorem ml_X5_272 : Cond.methodLink RX5 272 ⟨"java/lang/IndexOutOfBoundsException", "<init>", "(Ljava/lang/String;)V"⟩ ∈ tbW := List.mem_filter.mpr ⟨List.mem_append_right _ (List.mem_of_getElem? (i := 168) (by decide +kernel)), by decide +kernel⟩
theorem ml_X5_71 : Cond.methodLink RX5 71 yX5_requireBetween ∈ tbW := List.mem_filter.mpr ⟨List.mem_append_right _ (List.mem_of_getElem? (i := 174) (by decide +kernel)), by decide +kernel⟩
theorem cl_X5_327 : Cond.classLink RX5 327 eIA ∈ tbW := List.mem_filter.mpr ⟨List.mem_append_right _ (List.mem_of_getElem? (i := 177) (by decide +kernel)), by decide +kernel⟩
theorem ca_IllegalArgumentException : Cond.castable "java/lang/IllegalArgumentException" "java/lang/IllegalArgumentException" ∈ tbW := List.mem_filter.mpr ⟨List.mem_append_right _ (List.mem_of_getElem? (i := 179) (by decide +kernel)), by decide +kernel⟩
theorem ml_X5_331 : Cond.methodLink RX5 331 ⟨"java/lang/IllegalArgumentException", "<init>", "(Ljava/lang/String;)V"⟩ ∈ tbW := List.mem_filter.mpr ⟨List.mem_append_right _ (List.mem_of_getElem? (i := 187) (by decide +kernel)), by decide +kernel⟩
theorem ml_X5_80 : Cond.methodLink RX5 80 yX0_init ∈ tbW := List.mem_filter.mpr ⟨List.mem_append_right _ (List.mem_of_getElem? (i := 195) (by decide +kernel)), by decide +kernel⟩
theorem ml_X0_3 : Cond.methodLink RX0 3 objectInit ∈ tbW := List.mem_filter.mpr ⟨List.mem_append_right _ (List.mem_of_getElem? (i := 198) (by decide +kernel)), by decide +kernel⟩
theorem cl_X0_9 : Cond.classLink RX0 9 RX4 ∈ tbW := List.mem_filter.mpr ⟨List.mem_append_right _ (List.mem_of_getElem? (i := 199) (by decide +kernel)), by decide +kernel⟩
theorem mln_X0_11 : Cond.methodLinkNest RX0 11 yX4_init RX5 ∈ tbW := List.mem_filter.mpr ⟨List.mem_append_right _ (List.mem_of_getElem? (i := 201) (by decide +kernel)), by decide +kernel⟩
theorem ml_X4_3 : Cond.methodLink RX4 3 objectInit ∈ tbW := List.mem_filter.mpr ⟨List.mem_append_right _ (List.mem_of_getElem? (i := 204) (by decide +kernel)), by decide +kernel⟩
theorem cl_X4_9 : Cond.classLink RX4 9 RX3 ∈ tbW := List.mem_filter.mpr ⟨List.mem_append_right _ (List.mem_of_getElem? (i := 205) (by decide +kernel)), by decide +kernel⟩
theorem fl_X4_11 : FL RX4 11 4 0 (.array (.object "BookplateHall$Reader")) true := ⟨_, _, _, _, cl4, by decide, rfl, rfl, fun _ => rfl, List.mem_filter.mpr ⟨List.mem_append_right _ (List.mem_of_getElem? (i := 206) (by decide +kernel)), by decide +kernel⟩⟩
theorem fl_X5_378 : FLr RX5 378 4 0 := ⟨_, _, _, _, cl4, by decide, List.mem_filter.mpr ⟨List.mem_append_right _ (List.mem_of_getElem? (i := 207) (by decide +kernel)), by decide +kernel⟩⟩
theorem fl_X4_17 : FL RX4 17 4 1 (.int) false := ⟨_, _, _, _, cl4, by decide, rfl, rfl, fun h => absurd h (by decide), List.mem_filter.mpr ⟨List.mem_append_right _ (List.mem_of_getElem? (i := 208) (by decide +kernel)), by decide +kernel⟩⟩
theorem fl_X5_262 : FL RX5 262 4 1 (.int) false := ⟨_, _, _, _, cl4, by decide, rfl, rfl, fun h => absurd h (by decide), List.mem_filter.mpr ⟨List.mem_append_right _ (List.mem_of_getElem? (i := 209) (by decide +kernel)), by decide +kernel⟩⟩
theorem fl_X0_18 : FL RX0 18 0 0 (.int) true := ⟨_, _, _, _, cl0, by decide, rfl, rfl, fun _ => rfl, List.mem_filter.mpr ⟨List.mem_append_right _ (List.mem_of_getElem? (i := 215) (by decide +kernel)), by decide +kernel⟩⟩
theorem fl_X5_103 : FLr RX5 103 0 0 := ⟨_, _, _, _, cl0, by decide, List.mem_filter.mpr ⟨List.mem_append_right _ (List.mem_of_getElem? (i := 216) (by decide +kernel)), by decide +kernel⟩⟩
theorem fl_X0_22 : FL RX0 22 0 1 (.object "BookplateHall$Name") true := ⟨_, _, _, _, cl0, by decide, rfl, rfl, fun _ => rfl, List.mem_filter.mpr ⟨List.mem_append_right _ (List.mem_of_getElem? (i := 217) (by decide +kernel)), by decide +kernel⟩⟩
theorem fl_X5_332 : FLr RX5 332 0 1 := ⟨_, _, _, _, cl0, by decide, List.mem_filter.mpr ⟨List.mem_append_right _ (List.mem_of_getElem? (i := 218) (by decide +kernel)), by decide +kernel⟩⟩
theorem fl_X0_26 : FL RX0 26 0 2 (.int) true := ⟨_, _, _, _, cl0, by decide, rfl, rfl, fun _ => rfl, List.mem_filter.mpr ⟨List.mem_append_right _ (List.mem_of_getElem? (i := 219) (by decide +kernel)), by decide +kernel⟩⟩
theorem fl_X5_335 : FLr RX5 335 0 2 := ⟨_, _, _, _, cl0, by decide, List.mem_filter.mpr ⟨List.mem_append_right _ (List.mem_of_getElem? (i := 220) (by decide +kernel)), by decide +kernel⟩⟩
theorem fl_X0_29 : FL RX0 29 0 3 (.int) true := ⟨_, _, _, _, cl0, by decide, rfl, rfl, fun _ => rfl, List.mem_filter.mpr ⟨List.mem_append_right _ (List.mem_of_getElem? (i := 221) (by decide +kernel)), by decide +kernel⟩⟩
theorem fl_X5_338 : FLr RX5 338 0 3 := ⟨_, _, _, _, cl0, by decide, List.mem_filter.mpr ⟨List.mem_append_right _ (List.mem_of_getElem? (i := 222) (by decide +kernel)), by decide +kernel⟩⟩
theorem fl_X0_12 : FL RX0 12 0 4 (.object "BookplateHall$WaitingLine") true := ⟨_, _, _, _, cl0, by decide, rfl, rfl, fun _ => rfl, List.mem_filter.mpr ⟨List.mem_append_right _ (List.mem_of_getElem? (i := 223) (by decide +kernel)), by decide +kernel⟩⟩
theorem fl_X5_235 : FLr RX5 235 0 4 := ⟨_, _, _, _, cl0, by decide, List.mem_filter.mpr ⟨List.mem_append_right _ (List.mem_of_getElem? (i := 224) (by decide +kernel)), by decide +kernel⟩⟩
theorem fl_X0_32 : FL RX0 32 0 5 (.object "BookplateHall$BookRecord") false := ⟨_, _, _, _, cl0, by decide, rfl, rfl, fun h => absurd h (by decide), List.mem_filter.mpr ⟨List.mem_append_right _ (List.mem_of_getElem? (i := 225) (by decide +kernel)), by decide +kernel⟩⟩
theorem fl_X5_116 : FL RX5 116 0 5 (.object "BookplateHall$BookRecord") false := ⟨_, _, _, _, cl0, by decide, rfl, rfl, fun h => absurd h (by decide), List.mem_filter.mpr ⟨List.mem_append_right _ (List.mem_of_getElem? (i := 226) (by decide +kernel)), by decide +kernel⟩⟩
theorem fl_X5_113 : FL RX5 113 0 6 (.int) false := ⟨_, _, _, _, cl0, by decide, rfl, rfl, fun h => absurd h (by decide), List.mem_filter.mpr ⟨List.mem_append_right _ (List.mem_of_getElem? (i := 227) (by decide +kernel)), by decide +kernel⟩⟩
theorem ml_L_26 : Cond.methodLink RL 26 yX5_reader ∈ tbW := List.mem_filter.mpr ⟨List.mem_append_right _ (List.mem_of_getElem? (i := 243) (by decide +kernel)), by decide +kernel⟩
theorem ml_X5_161 : Cond.methodLink RX5 161 yX3_init ∈ tbW := List.mem_filter.mpr ⟨List.mem_append_right _ (List.mem_of_getElem? (i := 249) (by decide +kernel)), by decide +kernel⟩
theorem ml_X3_1 : Cond.methodLink RX3 1 objectInit ∈ tbW := List.mem_filter.mpr ⟨List.mem_append_right _ (List.mem_of_getElem? (i := 252) (by decide +kernel)), by decide +kernel⟩
theorem fl_X3_7 : FL RX3 7 3 0 (.int) true := ⟨_, _, _, _, cl3, by decide, rfl, rfl, fun _ => rfl, List.mem_filter.mpr ⟨List.mem_append_right _ (List.mem_of_getElem? (i := 253) (by decide +kernel)), by decide +kernel⟩⟩
theorem fl_X5_273 : FLr RX5 273 3 0 := ⟨_, _, _, _, cl3, by decide, List.mem_filter.mpr ⟨List.mem_append_right _ (List.mem_of_getElem? (i := 254) (by decide +kernel)), by decide +kernel⟩⟩
theorem fl_X3_13 : FL RX3 13 3 1 (.int) true := ⟨_, _, _, _, cl3, by decide, rfl, rfl, fun _ => rfl, List.mem_filter.mpr ⟨List.mem_append_right _ (List.mem_of_getElem? (i := 255) (by decide +kernel)), by decide +kernel⟩⟩
theorem fl_X5_344 : FLr RX5 344 3 1 := ⟨_, _, _, _, cl3, by decide, List.mem_filter.mpr ⟨List.mem_append_right _ (List.mem_of_getElem? (i := 256) (by decide +kernel)), by decide +kernel⟩⟩
theorem fl_X5_172 : FL RX5 172 3 2 (.int) false := ⟨_, _, _, _, cl3, by decide, rfl, rfl, fun h => absurd h (by decide), List.mem_filter.mpr ⟨List.mem_append_right _ (List.mem_of_getElem? (i := 257) (by decide +kernel)), by decide +kernel⟩⟩
theorem ml_L_34 : Cond.methodLink RL 34 yX5_many ∈ tbW := List.mem_filter.mpr ⟨List.mem_append_right _ (List.mem_of_getElem? (i := 265) (by decide +kernel)), by decide +kernel⟩
theorem ml_X5_277 : Cond.methodLink RX5 277 yX5_total ∈ tbW := List.mem_filter.mpr ⟨List.mem_append_right _ (List.mem_of_getElem? (i := 269) (by decide +kernel)), by decide +kernel⟩
theorem ml_X5_359 : Cond.methodLink RX5 359 yX5_liveRecords ∈ tbW := List.mem_filter.mpr ⟨List.mem_append_right _ (List.mem_of_getElem? (i := 273) (by decide +kernel)), by decide +kernel⟩
theorem ml_X5_99 : Cond.methodLink RX5 99 yX0_isLive ∈ tbW := List.mem_filter.mpr ⟨List.mem_append_right _ (List.mem_of_getElem? (i := 277) (by decide +kernel)), by decide +kernel⟩
theorem ml_X5_362 : Cond.methodLink RX5 362 yX5_owedByAll ∈ tbW := List.mem_filter.mpr ⟨List.mem_append_right _ (List.mem_of_getElem? (i := 281) (by decide +kernel)), by decide +kernel⟩
theorem ml_X5_365 : Cond.methodLink RX5 365 yX5_copiesAt ∈ tbW := List.mem_filter.mpr ⟨List.mem_append_right _ (List.mem_of_getElem? (i := 285) (by decide +kernel)), by decide +kernel⟩
theorem ml_L_41 : Cond.methodLink RL 41 yX5_digest ∈ tbW := List.mem_filter.mpr ⟨List.mem_append_right _ (List.mem_of_getElem? (i := 289) (by decide +kernel)), by decide +kernel⟩
theorem ct_X5_301 : Cond.constantLong RX5 301 982 ∈ tbW := List.mem_filter.mpr ⟨List.mem_append_right _ (List.mem_of_getElem? (i := 293) (by decide +kernel)), by decide +kernel⟩
theorem ml_X5_303 : Cond.methodLink RX5 303 yX5_digested ∈ tbW := List.mem_filter.mpr ⟨List.mem_append_right _ (List.mem_of_getElem? (i := 294) (by decide +kernel)), by decide +kernel⟩
theorem ct_X5_404 : Cond.constantLong RX5 404 31 ∈ tbW := List.mem_filter.mpr ⟨List.mem_append_right _ (List.mem_of_getElem? (i := 297) (by decide +kernel)), by decide +kernel⟩
theorem ml_X5_61 : Cond.methodLink RX5 61 yX2_stoodFor ∈ tbW := List.mem_filter.mpr ⟨List.mem_append_right _ (List.mem_of_getElem? (i := 298) (by decide +kernel)), by decide +kernel⟩
theorem ml_X5_307 : Cond.methodLink RX5 307 yX5_digestedRecord ∈ tbW := List.mem_filter.mpr ⟨List.mem_append_right _ (List.mem_of_getElem? (i := 302) (by decide +kernel)), by decide +kernel⟩
theorem ml_X5_87 : Cond.methodLink RX5 87 yX5_factOfRecord ∈ tbW := List.mem_filter.mpr ⟨List.mem_append_right _ (List.mem_of_getElem? (i := 306) (by decide +kernel)), by decide +kernel⟩
theorem ml_X5_95 : Cond.methodLink RX5 95 yX0_liveOne ∈ tbW := List.mem_filter.mpr ⟨List.mem_append_right _ (List.mem_of_getElem? (i := 310) (by decide +kernel)), by decide +kernel⟩
theorem ml_X5_126 : Cond.methodLink RX5 126 yX5_copiesNotLost ∈ tbW := List.mem_filter.mpr ⟨List.mem_append_right _ (List.mem_of_getElem? (i := 314) (by decide +kernel)), by decide +kernel⟩
theorem ml_X5_311 : Cond.methodLink RX5 311 yX5_digestedCopy ∈ tbW := List.mem_filter.mpr ⟨List.mem_append_right _ (List.mem_of_getElem? (i := 318) (by decide +kernel)), by decide +kernel⟩
theorem ml_X5_152 : Cond.methodLink RX5 152 yX5_factOfCopy ∈ tbW := List.mem_filter.mpr ⟨List.mem_append_right _ (List.mem_of_getElem? (i := 322) (by decide +kernel)), by decide +kernel⟩
theorem ml_X5_341 : Cond.methodLink RX5 341 yX1_daysLateOn ∈ tbW := List.mem_filter.mpr ⟨List.mem_append_right _ (List.mem_of_getElem? (i := 326) (by decide +kernel)), by decide +kernel⟩
theorem ml_X5_315 : Cond.methodLink RX5 315 yX5_digestedReader ∈ tbW := List.mem_filter.mpr ⟨List.mem_append_right _ (List.mem_of_getElem? (i := 330) (by decide +kernel)), by decide +kernel⟩
theorem ml_X5_168 : Cond.methodLink RX5 168 yX5_factOfReader ∈ tbW := List.mem_filter.mpr ⟨List.mem_append_right _ (List.mem_of_getElem? (i := 334) (by decide +kernel)), by decide +kernel⟩
theorem ml_X5_347 : Cond.methodLink RX5 347 yX5_copiesOf ∈ tbW := List.mem_filter.mpr ⟨List.mem_append_right _ (List.mem_of_getElem? (i := 338) (by decide +kernel)), by decide +kernel⟩
theorem ml_X5_350 : Cond.methodLink RX5 350 yX5_waitsOf ∈ tbW := List.mem_filter.mpr ⟨List.mem_append_right _ (List.mem_of_getElem? (i := 342) (by decide +kernel)), by decide +kernel⟩
theorem ml_X5_239 : Cond.methodLink RX5 239 yX4_holds ∈ tbW := List.mem_filter.mpr ⟨List.mem_append_right _ (List.mem_of_getElem? (i := 346) (by decide +kernel)), by decide +kernel⟩
theorem ml_X5_353 : Cond.methodLink RX5 353 yX5_lateCopiesOf ∈ tbW := List.mem_filter.mpr ⟨List.mem_append_right _ (List.mem_of_getElem? (i := 350) (by decide +kernel)), by decide +kernel⟩
theorem ml_X5_356 : Cond.methodLink RX5 356 yX5_finesOf ∈ tbW := List.mem_filter.mpr ⟨List.mem_append_right _ (List.mem_of_getElem? (i := 354) (by decide +kernel)), by decide +kernel⟩
theorem ml_X5_220 : Cond.methodLink RX5 220 yX1_fineOn ∈ tbW := List.mem_filter.mpr ⟨List.mem_append_right _ (List.mem_of_getElem? (i := 358) (by decide +kernel)), by decide +kernel⟩
theorem ml_X1_35 : Cond.methodLink RX1 35 yX1_daysLateOn ∈ tbW := List.mem_filter.mpr ⟨List.mem_append_right _ (List.mem_of_getElem? (i := 362) (by decide +kernel)), by decide +kernel⟩
theorem ml_X1_39 : Cond.methodLink RX1 39 yJ9_min_7cf53 ∈ tbW := List.mem_filter.mpr ⟨List.mem_append_right _ (List.mem_of_getElem? (i := 363) (by decide +kernel)), by decide +kernel⟩
theorem ml_X5_294 : Cond.methodLink RX5 294 yX5_borrowable ∈ tbW := List.mem_filter.mpr ⟨List.mem_append_right _ (List.mem_of_getElem? (i := 366) (by decide +kernel)), by decide +kernel⟩
theorem ml_X5_175 : Cond.methodLink RX5 175 yX5_reasonAgainst ∈ tbW := List.mem_filter.mpr ⟨List.mem_append_right _ (List.mem_of_getElem? (i := 370) (by decide +kernel)), by decide +kernel⟩
theorem ml_X5_368 : Cond.methodLink RX5 368 yX1_isAsideFor ∈ tbW := List.mem_filter.mpr ⟨List.mem_append_right _ (List.mem_of_getElem? (i := 374) (by decide +kernel)), by decide +kernel⟩
theorem ml_X5_371 : Cond.methodLink RX5 371 yX3_mostCopies ∈ tbW := List.mem_filter.mpr ⟨List.mem_append_right _ (List.mem_of_getElem? (i := 378) (by decide +kernel)), by decide +kernel⟩
theorem ml_X5_298 : Cond.methodLink RX5 298 yX5_lostWithin ∈ tbW := List.mem_filter.mpr ⟨List.mem_append_right _ (List.mem_of_getElem? (i := 382) (by decide +kernel)), by decide +kernel⟩
theorem ml_X5_280 : Cond.methodLink RX5 280 yX1_isLostOn ∈ tbW := List.mem_filter.mpr ⟨List.mem_append_right _ (List.mem_of_getElem? (i := 386) (by decide +kernel)), by decide +kernel⟩
theorem ml_L_22 : Cond.methodLink RL 22 yL_below ∈ tbW := List.mem_filter.mpr ⟨List.mem_append_right _ (List.mem_of_getElem? (i := 390) (by decide +kernel)), by decide +kernel⟩
theorem ct_L_7 : Cond.constant RL 7 2147483647 ∈ tbW := List.mem_filter.mpr ⟨List.mem_append_right _ (List.mem_of_getElem? (i := 393) (by decide +kernel)), by decide +kernel⟩
theorem ml_L_16 : Cond.methodLink RL 16 yL_cell ∈ tbW := List.mem_filter.mpr ⟨List.mem_append_right _ (List.mem_of_getElem? (i := 394) (by decide +kernel)), by decide +kernel⟩
theorem ct_L_8 : Cond.constant RL 8 790386105 ∈ tbW := List.mem_filter.mpr ⟨List.mem_append_right _ (List.mem_of_getElem? (i := 397) (by decide +kernel)), by decide +kernel⟩
theorem ml_L_37 : Cond.methodLink RL 37 yL_act ∈ tbW := List.mem_filter.mpr ⟨List.mem_append_right _ (List.mem_of_getElem? (i := 398) (by decide +kernel)), by decide +kernel⟩
theorem cl_L_108 : Cond.classLink RL 108 eIO ∈ tbW := List.mem_filter.mpr ⟨List.mem_append_right _ (List.mem_of_getElem? (i := 401) (by decide +kernel)), by decide +kernel⟩
theorem cl_L_110 : Cond.classLink RL 110 eIA ∈ tbW := List.mem_filter.mpr ⟨List.mem_append_right _ (List.mem_of_getElem? (i := 402) (by decide +kernel)), by decide +kernel⟩
theorem cl_L_112 : Cond.classLink RL 112 eIS ∈ tbW := List.mem_filter.mpr ⟨List.mem_append_right _ (List.mem_of_getElem? (i := 403) (by decide +kernel)), by decide +kernel⟩
theorem ml_L_55 : Cond.methodLink RL 55 yJ9_max_7cf53 ∈ tbW := List.mem_filter.mpr ⟨List.mem_append_right _ (List.mem_of_getElem? (i := 404) (by decide +kernel)), by decide +kernel⟩
theorem ml_L_60 : Cond.methodLink RL 60 yX5_copy ∈ tbW := List.mem_filter.mpr ⟨List.mem_append_right _ (List.mem_of_getElem? (i := 407) (by decide +kernel)), by decide +kernel⟩
theorem ml_X5_83 : Cond.methodLink RX5 83 yX5_knownRecord ∈ tbW := List.mem_filter.mpr ⟨List.mem_append_right _ (List.mem_of_getElem? (i := 411) (by decide +kernel)), by decide +kernel⟩
theorem ml_X5_141 : Cond.methodLink RX5 141 yX1_init ∈ tbW := List.mem_filter.mpr ⟨List.mem_append_right _ (List.mem_of_getElem? (i := 418) (by decide +kernel)), by decide +kernel⟩
theorem ml_X1_3 : Cond.methodLink RX1 3 objectInit ∈ tbW := List.mem_filter.mpr ⟨List.mem_append_right _ (List.mem_of_getElem? (i := 421) (by decide +kernel)), by decide +kernel⟩
theorem fl_X1_18 : FL RX1 18 1 0 (.int) true := ⟨_, _, _, _, cl1, by decide, rfl, rfl, fun _ => rfl, List.mem_filter.mpr ⟨List.mem_append_right _ (List.mem_of_getElem? (i := 422) (by decide +kernel)), by decide +kernel⟩⟩
theorem fl_X5_259 : FLr RX5 259 1 0 := ⟨_, _, _, _, cl1, by decide, List.mem_filter.mpr ⟨List.mem_append_right _ (List.mem_of_getElem? (i := 423) (by decide +kernel)), by decide +kernel⟩⟩
theorem fl_X1_25 : FL RX1 25 1 1 (.int) true := ⟨_, _, _, _, cl1, by decide, rfl, rfl, fun _ => rfl, List.mem_filter.mpr ⟨List.mem_append_right _ (List.mem_of_getElem? (i := 424) (by decide +kernel)), by decide +kernel⟩⟩
theorem fl_X5_226 : FLr RX5 226 1 1 := ⟨_, _, _, _, cl1, by decide, List.mem_filter.mpr ⟨List.mem_append_right _ (List.mem_of_getElem? (i := 425) (by decide +kernel)), by decide +kernel⟩⟩
theorem fl_X1_21 : FL RX1 21 1 2 (.object "BookplateHall$BookRecord") false := ⟨_, _, _, _, cl1, by decide, rfl, rfl, fun h => absurd h (by decide), List.mem_filter.mpr ⟨List.mem_append_right _ (List.mem_of_getElem? (i := 426) (by decide +kernel)), by decide +kernel⟩⟩
theorem fl_X5_192 : FL RX5 192 1 2 (.object "BookplateHall$BookRecord") false := ⟨_, _, _, _, cl1, by decide, rfl, rfl, fun h => absurd h (by decide), List.mem_filter.mpr ⟨List.mem_append_right _ (List.mem_of_getElem? (i := 427) (by decide +kernel)), by decide +kernel⟩⟩
theorem fl_X1_9 : FL RX1 9 1 3 (.int) false := ⟨_, _, _, _, cl1, by decide, rfl, rfl, fun h => absurd h (by decide), List.mem_filter.mpr ⟨List.mem_append_right _ (List.mem_of_getElem? (i := 428) (by decide +kernel)), by decide +kernel⟩⟩
theorem fl_X5_215 : FL RX5 215 1 3 (.int) false := ⟨_, _, _, _, cl1, by decide, rfl, rfl, fun h => absurd h (by decide), List.mem_filter.mpr ⟨List.mem_append_right _ (List.mem_of_getElem? (i := 429) (by decide +kernel)), by decide +kernel⟩⟩
theorem fl_X1_28 : FL RX1 28 1 4 (.object "BookplateHall$Reader") false := ⟨_, _, _, _, cl1, by decide, rfl, rfl, fun h => absurd h (by decide), List.mem_filter.mpr ⟨List.mem_append_right _ (List.mem_of_getElem? (i := 430) (by decide +kernel)), by decide +kernel⟩⟩
theorem fl_X5_202 : FL RX5 202 1 4 (.object "BookplateHall$Reader") false := ⟨_, _, _, _, cl1, by decide, rfl, rfl, fun h => absurd h (by decide), List.mem_filter.mpr ⟨List.mem_append_right _ (List.mem_of_getElem? (i := 431) (by decide +kernel)), by decide +kernel⟩⟩
theorem fl_X1_15 : FL RX1 15 1 5 (.int) false := ⟨_, _, _, _, cl1, by decide, rfl, rfl, fun h => absurd h (by decide), List.mem_filter.mpr ⟨List.mem_append_right _ (List.mem_of_getElem? (i := 432) (by decide +kernel)), by decide +kernel⟩⟩
theorem fl_X5_199 : FL RX5 199 1 5 (.int) false := ⟨_, _, _, _, cl1, by decide, rfl, rfl, fun h => absurd h (by decide), List.mem_filter.mpr ⟨List.mem_append_right _ (List.mem_of_getElem? (i := 433) (by decide +kernel)), by decide +kernel⟩⟩
theorem fl_X1_32 : FL RX1 32 1 6 (.int) false := ⟨_, _, _, _, cl1, by decide, rfl, rfl, fun h => absurd h (by decide), List.mem_filter.mpr ⟨List.mem_append_right _ (List.mem_of_getElem? (i := 434) (by decide +kernel)), by decide +kernel⟩⟩
theorem fl_X5_212 : FL RX5 212 1 6 (.int) false := ⟨_, _, _, _, cl1, by decide, rfl, rfl, fun h => absurd h (by decide), List.mem_filter.mpr ⟨List.mem_append_right _ (List.mem_of_getElem? (i := 435) (by decide +kernel)), by decide +kernel⟩⟩
theorem fl_X5_398 : FL RX5 398 1 7 (.int) false := ⟨_, _, _, _, cl1, by decide, rfl, rfl, fun h => absurd h (by decide), List.mem_filter.mpr ⟨List.mem_append_right _ (List.mem_of_getElem? (i := 436) (by decide +kernel)), by decide +kernel⟩⟩
theorem ml_X5_144 : Cond.methodLink RX5 144 yX5_free ∈ tbW := List.mem_filter.mpr ⟨List.mem_append_right _ (List.mem_of_getElem? (i := 454) (by decide +kernel)), by decide +kernel⟩
theorem ml_X5_188 : Cond.methodLink RX5 188 yX1_put ∈ tbW := List.mem_filter.mpr ⟨List.mem_append_right _ (List.mem_of_getElem? (i := 458) (by decide +kernel)), by decide +kernel⟩
theorem ml_X5_374 : Cond.methodLink RX5 374 yX5_firstWithNoneAside ∈ tbW := List.mem_filter.mpr ⟨List.mem_append_right _ (List.mem_of_getElem? (i := 462) (by decide +kernel)), by decide +kernel⟩
theorem ml_X5_286 : Cond.methodLink RX5 286 yX5_firstAside ∈ tbW := List.mem_filter.mpr ⟨List.mem_append_right _ (List.mem_of_getElem? (i := 466) (by decide +kernel)), by decide +kernel⟩
theorem ml_L_63 : Cond.methodLink RL 63 yX5_lend ∈ tbW := List.mem_filter.mpr ⟨List.mem_append_right _ (List.mem_of_getElem? (i := 470) (by decide +kernel)), by decide +kernel⟩
theorem ml_X5_164 : Cond.methodLink RX5 164 yX5_knownReader ∈ tbW := List.mem_filter.mpr ⟨List.mem_append_right _ (List.mem_of_getElem? (i := 474) (by decide +kernel)), by decide +kernel⟩
theorem ml_X5_148 : Cond.methodLink RX5 148 yX5_knownCopy ∈ tbW := List.mem_filter.mpr ⟨List.mem_append_right _ (List.mem_of_getElem? (i := 479) (by decide +kernel)), by decide +kernel⟩
theorem ml_X5_184 : Cond.methodLink RX5 184 yX3_daysOfALoan ∈ tbW := List.mem_filter.mpr ⟨List.mem_append_right _ (List.mem_of_getElem? (i := 485) (by decide +kernel)), by decide +kernel⟩
theorem ml_X5_195 : Cond.methodLink RX5 195 yX5_endWait ∈ tbW := List.mem_filter.mpr ⟨List.mem_append_right _ (List.mem_of_getElem? (i := 489) (by decide +kernel)), by decide +kernel⟩
theorem ml_X5_379 : Cond.methodLink RX5 379 yX4_drop ∈ tbW := List.mem_filter.mpr ⟨List.mem_append_right _ (List.mem_of_getElem? (i := 493) (by decide +kernel)), by decide +kernel⟩
theorem ml_L_66 : Cond.methodLink RL 66 yX5_ofCopy ∈ tbW := List.mem_filter.mpr ⟨List.mem_append_right _ (List.mem_of_getElem? (i := 497) (by decide +kernel)), by decide +kernel⟩
theorem ml_L_69 : Cond.methodLink RL 69 yX5_renew ∈ tbW := List.mem_filter.mpr ⟨List.mem_append_right _ (List.mem_of_getElem? (i := 501) (by decide +kernel)), by decide +kernel⟩
theorem ml_X5_206 : Cond.methodLink RX5 206 yX5_mayBeRenewed ∈ tbW := List.mem_filter.mpr ⟨List.mem_append_right _ (List.mem_of_getElem? (i := 505) (by decide +kernel)), by decide +kernel⟩
theorem ml_L_72 : Cond.methodLink RL 72 yX5_fineIn ∈ tbW := List.mem_filter.mpr ⟨List.mem_append_right _ (List.mem_of_getElem? (i := 510) (by decide +kernel)), by decide +kernel⟩
theorem ml_X5_283 : Cond.methodLink RX5 283 yX1_feeWhenLost ∈ tbW := List.mem_filter.mpr ⟨List.mem_append_right _ (List.mem_of_getElem? (i := 515) (by decide +kernel)), by decide +kernel⟩
theorem ml_L_75 : Cond.methodLink RL 75 yX5_back ∈ tbW := List.mem_filter.mpr ⟨List.mem_append_right _ (List.mem_of_getElem? (i := 519) (by decide +kernel)), by decide +kernel⟩
theorem ml_L_78 : Cond.methodLink RL 78 yX5_await ∈ tbW := List.mem_filter.mpr ⟨List.mem_append_right _ (List.mem_of_getElem? (i := 523) (by decide +kernel)), by decide +kernel⟩
theorem ml_X5_245 : Cond.methodLink RX5 245 yX5_hasCopyOf ∈ tbW := List.mem_filter.mpr ⟨List.mem_append_right _ (List.mem_of_getElem? (i := 527) (by decide +kernel)), by decide +kernel⟩
theorem ml_X5_251 : Cond.methodLink RX5 251 yX4_join ∈ tbW := List.mem_filter.mpr ⟨List.mem_append_right _ (List.mem_of_getElem? (i := 532) (by decide +kernel)), by decide +kernel⟩
theorem ml_X5_255 : Cond.methodLink RX5 255 yX5_firstIn ∈ tbW := List.mem_filter.mpr ⟨List.mem_append_right _ (List.mem_of_getElem? (i := 536) (by decide +kernel)), by decide +kernel⟩
theorem ml_L_81 : Cond.methodLink RL 81 yX5_soon ∈ tbW := List.mem_filter.mpr ⟨List.mem_append_right _ (List.mem_of_getElem? (i := 540) (by decide +kernel)), by decide +kernel⟩
theorem ml_X5_290 : Cond.methodLink RX5 290 yX5_daysUntilServed ∈ tbW := List.mem_filter.mpr ⟨List.mem_append_right _ (List.mem_of_getElem? (i := 545) (by decide +kernel)), by decide +kernel⟩
theorem ml_X5_391 : Cond.methodLink RX5 391 yX5_reckonWhenThere ∈ tbW := List.mem_filter.mpr ⟨List.mem_append_right _ (List.mem_of_getElem? (i := 549) (by decide +kernel)), by decide +kernel⟩
theorem ml_X5_401 : Cond.methodLink RX5 401 yX1_daysUntilThere ∈ tbW := List.mem_filter.mpr ⟨List.mem_append_right _ (List.mem_of_getElem? (i := 553) (by decide +kernel)), by decide +kernel⟩
theorem ml_X1_45 : Cond.methodLink RX1 45 yJ9_max_7cf53 ∈ tbW := List.mem_filter.mpr ⟨List.mem_append_right _ (List.mem_of_getElem? (i := 557) (by decide +kernel)), by decide +kernel⟩
theorem ml_X1_48 : Cond.methodLink RX1 48 yX3_daysOfALoan ∈ tbW := List.mem_filter.mpr ⟨List.mem_append_right _ (List.mem_of_getElem? (i := 558) (by decide +kernel)), by decide +kernel⟩
theorem ml_X5_395 : Cond.methodLink RX5 395 yX5_firstThere ∈ tbW := List.mem_filter.mpr ⟨List.mem_append_right _ (List.mem_of_getElem? (i := 559) (by decide +kernel)), by decide +kernel⟩
theorem ml_L_84 : Cond.methodLink RL 84 yX5_leave ∈ tbW := List.mem_filter.mpr ⟨List.mem_append_right _ (List.mem_of_getElem? (i := 563) (by decide +kernel)), by decide +kernel⟩
theorem ml_L_87 : Cond.methodLink RL 87 yX5_ofRecord ∈ tbW := List.mem_filter.mpr ⟨List.mem_append_right _ (List.mem_of_getElem? (i := 567) (by decide +kernel)), by decide +kernel⟩
theorem ml_L_90 : Cond.methodLink RL 90 yX5_lostIn ∈ tbW := List.mem_filter.mpr ⟨List.mem_append_right _ (List.mem_of_getElem? (i := 571) (by decide +kernel)), by decide +kernel⟩
theorem ml_L_93 : Cond.methodLink RL 93 yX5_pass ∈ tbW := List.mem_filter.mpr ⟨List.mem_append_right _ (List.mem_of_getElem? (i := 575) (by decide +kernel)), by decide +kernel⟩
theorem ml_X5_274 : Cond.methodLink RX5 274 yX5_passOneDay ∈ tbW := List.mem_filter.mpr ⟨List.mem_append_right _ (List.mem_of_getElem? (i := 579) (by decide +kernel)), by decide +kernel⟩
theorem ml_X5_388 : Cond.methodLink RX5 388 yX5_lose ∈ tbW := List.mem_filter.mpr ⟨List.mem_append_right _ (List.mem_of_getElem? (i := 583) (by decide +kernel)), by decide +kernel⟩
theorem ml_L_96 : Cond.methodLink RL 96 yX5_find ∈ tbW := List.mem_filter.mpr ⟨List.mem_append_right _ (List.mem_of_getElem? (i := 587) (by decide +kernel)), by decide +kernel⟩
theorem ml_X5_229 : Cond.methodLink RX5 229 yJ9_max_7cf53 ∈ tbW := List.mem_filter.mpr ⟨List.mem_append_right _ (List.mem_of_getElem? (i := 592) (by decide +kernel)), by decide +kernel⟩
theorem ml_L_99 : Cond.methodLink RL 99 yX5_pay ∈ tbW := List.mem_filter.mpr ⟨List.mem_append_right _ (List.mem_of_getElem? (i := 593) (by decide +kernel)), by decide +kernel⟩
theorem ml_L_102 : Cond.methodLink RL 102 yX5_ofReader ∈ tbW := List.mem_filter.mpr ⟨List.mem_append_right _ (List.mem_of_getElem? (i := 597) (by decide +kernel)), by decide +kernel⟩
theorem ml_L_105 : Cond.methodLink RL 105 yX5_lay ∈ tbW := List.mem_filter.mpr ⟨List.mem_append_right _ (List.mem_of_getElem? (i := 601) (by decide +kernel)), by decide +kernel⟩
theorem ml_X5_106 : Cond.methodLink RX5 106 yX5_moveCopies ∈ tbW := List.mem_filter.mpr ⟨List.mem_append_right _ (List.mem_of_getElem? (i := 606) (by decide +kernel)), by decide +kernel⟩
theorem ml_X5_110 : Cond.methodLink RX5 110 yX5_moveWaiters ∈ tbW := List.mem_filter.mpr ⟨List.mem_append_right _ (List.mem_of_getElem? (i := 610) (by decide +kernel)), by decide +kernel⟩
theorem ml_X5_382 : Cond.methodLink RX5 382 yX4_clear ∈ tbW := List.mem_filter.mpr ⟨List.mem_append_right _ (List.mem_of_getElem? (i := 614) (by decide +kernel)), by decide +kernel⟩
theorem ml_X5_120 : Cond.methodLink RX5 120 yX5_freeThoseWronglyAside ∈ tbW := List.mem_filter.mpr ⟨List.mem_append_right _ (List.mem_of_getElem? (i := 618) (by decide +kernel)), by decide +kernel⟩
theorem ml_X5_385 : Cond.methodLink RX5 385 yX5_isRightlyAside ∈ tbW := List.mem_filter.mpr ⟨List.mem_append_right _ (List.mem_of_getElem? (i := 622) (by decide +kernel)), by decide +kernel⟩
theorem ml_X5_123 : Cond.methodLink RX5 123 yX5_freeThoseIn ∈ tbW := List.mem_filter.mpr ⟨List.mem_append_right _ (List.mem_of_getElem? (i := 626) (by decide +kernel)), by decide +kernel⟩
theorem ml_L_45 : Cond.methodLink RL 45 yL_areCopiesRight ∈ tbW := List.mem_filter.mpr ⟨List.mem_append_right _ (List.mem_of_getElem? (i := 630) (by decide +kernel)), by decide +kernel⟩
theorem ac_int : Cond.arrayClass .int ∈ tbW := List.mem_filter.mpr ⟨List.mem_append_right _ (List.mem_of_getElem? (i := 633) (by decide +kernel)), by decide +kernel⟩
theorem ml_L_49 : Cond.methodLink RL 49 yL_areRecordsRight ∈ tbW := List.mem_filter.mpr ⟨List.mem_append_right _ (List.mem_of_getElem? (i := 634) (by decide +kernel)), by decide +kernel⟩
theorem ml_L_114 : Cond.methodLink RL 114 yX5_waiter ∈ tbW := List.mem_filter.mpr ⟨List.mem_append_right _ (List.mem_of_getElem? (i := 637) (by decide +kernel)), by decide +kernel⟩
theorem ml_X5_265 : Cond.methodLink RX5 265 yX4_at ∈ tbW := List.mem_filter.mpr ⟨List.mem_append_right _ (List.mem_of_getElem? (i := 641) (by decide +kernel)), by decide +kernel⟩
theorem ml_L_117 : Cond.methodLink RL 117 yX5_likeness ∈ tbW := List.mem_filter.mpr ⟨List.mem_append_right _ (List.mem_of_getElem? (i := 646) (by decide +kernel)), by decide +kernel⟩
theorem ml_X5_91 : Cond.methodLink RX5 91 yX0_likenessTo ∈ tbW := List.mem_filter.mpr ⟨List.mem_append_right _ (List.mem_of_getElem? (i := 650) (by decide +kernel)), by decide +kernel⟩
theorem ml_X0_42 : Cond.methodLink RX0 42 yX0_likenessOfAuthors ∈ tbW := List.mem_filter.mpr ⟨List.mem_append_right _ (List.mem_of_getElem? (i := 654) (by decide +kernel)), by decide +kernel⟩
theorem ml_X0_52 : Cond.methodLink RX0 52 yX0_isBy ∈ tbW := List.mem_filter.mpr ⟨List.mem_append_right _ (List.mem_of_getElem? (i := 658) (by decide +kernel)), by decide +kernel⟩
theorem ml_X0_36 : Cond.methodLink RX0 36 yX2_stoodFor ∈ tbW := List.mem_filter.mpr ⟨List.mem_append_right _ (List.mem_of_getElem? (i := 662) (by decide +kernel)), by decide +kernel⟩
theorem ml_X0_46 : Cond.methodLink RX0 46 yX0_likenessOfTitles ∈ tbW := List.mem_filter.mpr ⟨List.mem_append_right _ (List.mem_of_getElem? (i := 663) (by decide +kernel)), by decide +kernel⟩
theorem ml_X0_56 : Cond.methodLink RX0 56 yJ6_bitCount_0f7a4 ∈ tbW := List.mem_filter.mpr ⟨List.mem_append_right _ (List.mem_of_getElem? (i := 667) (by decide +kernel)), by decide +kernel⟩
theorem ct_J6_265 : Cond.constant RJ6 265 1431655765 ∈ tbW := List.mem_filter.mpr ⟨List.mem_append_right _ (List.mem_of_getElem? (i := 670) (by decide +kernel)), by decide +kernel⟩
theorem ct_J6_266 : Cond.constant RJ6 266 858993459 ∈ tbW := List.mem_filter.mpr ⟨List.mem_append_right _ (List.mem_of_getElem? (i := 671) (by decide +kernel)), by decide +kernel⟩
theorem ct_J6_267 : Cond.constant RJ6 267 252645135 ∈ tbW := List.mem_filter.mpr ⟨List.mem_append_right _ (List.mem_of_getElem? (i := 672) (by decide +kernel)), by decide +kernel⟩
theorem ml_X0_49 : Cond.methodLink RX0 49 yX0_likenessOfYears ∈ tbW := List.mem_filter.mpr ⟨List.mem_append_right _ (List.mem_of_getElem? (i := 673) (by decide +kernel)), by decide +kernel⟩
theorem ml_X0_62 : Cond.methodLink RX0 62 yJ9_abs_0f7a4 ∈ tbW := List.mem_filter.mpr ⟨List.mem_append_right _ (List.mem_of_getElem? (i := 677) (by decide +kernel)), by decide +kernel⟩
theorem ml_X0_67 : Cond.methodLink RX0 67 yJ9_max_7cf53 ∈ tbW := List.mem_filter.mpr ⟨List.mem_append_right _ (List.mem_of_getElem? (i := 680) (by decide +kernel)), by decide +kernel⟩
theorem ml_L_120 : Cond.methodLink RL 120 yX5_twin ∈ tbW := List.mem_filter.mpr ⟨List.mem_append_right _ (List.mem_of_getElem? (i := 681) (by decide +kernel)), by decide +kernel⟩
theorem ml_L_52 : Cond.methodLink RL 52 yL_areReadersRight ∈ tbW := List.mem_filter.mpr ⟨List.mem_append_right _ (List.mem_of_getElem? (i := 685) (by decide +kernel)), by decide +kernel⟩
theorem ml_L_123 : Cond.methodLink RL 123 yX5_mayBorrow ∈ tbW := List.mem_filter.mpr ⟨List.mem_append_right _ (List.mem_of_getElem? (i := 688) (by decide +kernel)), by decide +kernel⟩
theorem ml_L_126 : Cond.methodLink RL 126 yX5_meanWaits ∈ tbW := List.mem_filter.mpr ⟨List.mem_append_right _ (List.mem_of_getElem? (i := 692) (by decide +kernel)), by decide +kernel⟩
theorem ml_L_130 : Cond.methodLink RL 130 yJ9_abs_294c1 ∈ tbW := List.mem_filter.mpr ⟨List.mem_append_right _ (List.mem_of_getElem? (i := 696) (by decide +kernel)), by decide +kernel⟩
theorem ml_J9_79 : Cond.methodLink RJ9 79 ⟨"java/lang/Double", "doubleToRawLongBits", "(D)J"⟩ ∈ tbW := List.mem_filter.mpr ⟨List.mem_append_right _ (List.mem_of_getElem? (i := 699) (by decide +kernel)), by decide +kernel⟩
theorem ct_J9_135 : Cond.constantLong RJ9 135 9223372036854775807 ∈ tbW := List.mem_filter.mpr ⟨List.mem_append_right _ (List.mem_of_getElem? (i := 702) (by decide +kernel)), by decide +kernel⟩
theorem ml_J9_166 : Cond.methodLink RJ9 166 ⟨"java/lang/Double", "longBitsToDouble", "(J)D"⟩ ∈ tbW := List.mem_filter.mpr ⟨List.mem_append_right _ (List.mem_of_getElem? (i := 703) (by decide +kernel)), by decide +kernel⟩
theorem ct_L_134 : Cond.constantDouble RL 134 4517329193108106637 ∈ tbW := List.mem_filter.mpr ⟨List.mem_append_right _ (List.mem_of_getElem? (i := 706) (by decide +kernel)), by decide +kernel⟩
theorem me_X5_init : MEv yX5_init cX5_init 1 (.none : Option Jvm.ClassFile.FieldType) 0 := ⟨List.mem_filter.mpr ⟨List.mem_append_right _ (List.mem_of_getElem? (i := 21) (by decide +kernel)), by decide +kernel⟩, List.mem_filter.mpr ⟨List.mem_append_right _ (List.mem_of_getElem? (i := 1) (by decide +kernel)), by decide +kernel⟩, by decide, by decide, by decide +kernel⟩
theorem mc_X5_init : Cond.instanceMethod yX5_init ∈ tbW := List.mem_filter.mpr ⟨List.mem_append_right _ (List.mem_of_getElem? (i := 20) (by decide +kernel)), by decide +kernel⟩
theorem oi_code : Cond.code objectInit ⟨#[0xb1]⟩ 1 none ∈ tbW := List.mem_filter.mpr ⟨List.mem_append_right _ (List.mem_of_getElem? (i := 24) (by decide +kernel)), by decide +kernel⟩
theorem oi_inst : Cond.instanceMethod objectInit ∈ tbW := List.mem_filter.mpr ⟨List.mem_append_right _ (List.mem_of_getElem? (i := 23) (by decide +kernel)), by decide +kernel⟩
theorem me_X5_name : MEv yX5_name cX5_name 2 (.some .int) 0 := ⟨List.mem_filter.mpr ⟨List.mem_append_right _ (List.mem_of_getElem? (i := 64) (by decide +kernel)), by decide +kernel⟩, List.mem_filter.mpr ⟨List.mem_append_right _ (List.mem_of_getElem? (i := 1) (by decide +kernel)), by decide +kernel⟩, by decide, by decide, by decide +kernel⟩
theorem mi_X5_name : MIv yX5_name := ⟨List.mem_filter.mpr ⟨List.mem_append_right _ (List.mem_of_getElem? (i := 62) (by decide +kernel)), by decide +kernel⟩, List.mem_filter.mpr ⟨List.mem_append_right _ (List.mem_of_getElem? (i := 63) (by decide +kernel)), by decide +kernel⟩⟩
theorem me_X2_init : MEv yX2_init cX2_init 2 (.none : Option Jvm.ClassFile.FieldType) 1 := ⟨List.mem_filter.mpr ⟨List.mem_append_right _ (List.mem_of_getElem? (i := 136) (by decide +kernel)), by decide +kernel⟩, List.mem_filter.mpr ⟨List.mem_append_right _ (List.mem_of_getElem? (i := 6) (by decide +kernel)), by decide +kernel⟩, by decide, by decide, by decide +kernel⟩
theorem mc_X2_init : Cond.instanceMethod yX2_init ∈ tbW := List.mem_filter.mpr ⟨List.mem_append_right _ (List.mem_of_getElem? (i := 135) (by decide +kernel)), by decide +kernel⟩
theorem me_X5_record : MEv yX5_record cX5_record 6 (.some .int) 3 := ⟨List.mem_filter.mpr ⟨List.mem_append_right _ (List.mem_of_getElem? (i := 149) (by decide +kernel)), by decide +kernel⟩, List.mem_filter.mpr ⟨List.mem_append_right _ (List.mem_of_getElem? (i := 1) (by decide +kernel)), by decide +kernel⟩, by decide, by decide, by decide +kernel⟩
theorem mi_X5_record : MIv yX5_record := ⟨List.mem_filter.mpr ⟨List.mem_append_right _ (List.mem_of_getElem? (i := 147) (by decide +kernel)), by decide +kernel⟩, List.mem_filter.mpr ⟨List.mem_append_right _ (List.mem_of_getElem? (i := 148) (by decide +kernel)), by decide +kernel⟩⟩
theorem me_X5_knownNameOrNull : MEv yX5_knownNameOrNull cX5_knownNameOrNull 2 (.some (.object "BookplateHall$Name")) 1 := ⟨List.mem_filter.mpr ⟨List.mem_append_right _ (List.mem_of_getElem? (i := 153) (by decide +kernel)), by decide +kernel⟩, List.mem_filter.mpr ⟨List.mem_append_right _ (List.mem_of_getElem? (i := 1) (by decide +kernel)), by decide +kernel⟩, by decide, by decide, by decide +kernel⟩
theorem mi_X5_knownNameOrNull : MIv yX5_knownNameOrNull := ⟨List.mem_filter.mpr ⟨List.mem_append_right _ (List.mem_of_getElem? (i := 152) (by decide +kernel)), by decide +kernel⟩, List.mem_filter.mpr ⟨List.mem_append_left _ (List.mem_of_getElem? (i := 1) (by decide +kernel)), by decide +kernel⟩⟩
theorem me_X5_knownName : MEv yX5_knownName cX5_knownName 3 (.some (.object "BookplateHall$Name")) 1 := ⟨List.mem_filter.mpr ⟨List.mem_append_right _ (List.mem_of_getElem? (i := 157) (by decide +kernel)), by decide +kernel⟩, List.mem_filter.mpr ⟨List.mem_append_right _ (List.mem_of_getElem? (i := 1) (by decide +kernel)), by decide +kernel⟩, by decide, by decide, by decide +kernel⟩
theorem mi_X5_knownName : MIv yX5_knownName := ⟨List.mem_filter.mpr ⟨List.mem_append_right _ (List.mem_of_getElem? (i := 156) (by decide +kernel)), by decide +kernel⟩, List.mem_filter.mpr ⟨List.mem_append_left _ (List.mem_of_getElem? (i := 2) (by decide +kernel)), by decide +kernel⟩⟩
theorem me_X5_requireBetween : MEv yX5_requireBetween cX5_requireBetween 3 (.none : Option Jvm.ClassFile.FieldType) 3 := ⟨List.mem_filter.mpr ⟨List.mem_append_right _ (List.mem_of_getElem? (i := 176) (by decide +kernel)), by decide +kernel⟩, List.mem_filter.mpr ⟨List.mem_append_right _ (List.mem_of_getElem? (i := 1) (by decide +kernel)), by decide +kernel⟩, by decide, by decide, by decide +kernel⟩
theorem ms_X5_requireBetween : Cond.static yX5_requireBetween ∈ tbW := List.mem_filter.mpr ⟨List.mem_append_right _ (List.mem_of_getElem? (i := 175) (by decide +kernel)), by decide +kernel⟩
theorem me_X0_init : MEv yX0_init cX0_init 5 (.none : Option Jvm.ClassFile.FieldType) 4 := ⟨List.mem_filter.mpr ⟨List.mem_append_right _ (List.mem_of_getElem? (i := 197) (by decide +kernel)), by decide +kernel⟩, List.mem_filter.mpr ⟨List.mem_append_right _ (List.mem_of_getElem? (i := 10) (by decide +kernel)), by decide +kernel⟩, by decide, by decide, by decide +kernel⟩
theorem mc_X0_init : Cond.instanceMethod yX0_init ∈ tbW := List.mem_filter.mpr ⟨List.mem_append_right _ (List.mem_of_getElem? (i := 196) (by decide +kernel)), by decide +kernel⟩
theorem me_X4_init : MEv yX4_init cX4_init 1 (.none : Option Jvm.ClassFile.FieldType) 0 := ⟨List.mem_filter.mpr ⟨List.mem_append_right _ (List.mem_of_getElem? (i := 203) (by decide +kernel)), by decide +kernel⟩, List.mem_filter.mpr ⟨List.mem_append_right _ (List.mem_of_getElem? (i := 11) (by decide +kernel)), by decide +kernel⟩, by decide, by decide, by decide +kernel⟩
theorem mc_X4_init : Cond.instanceMethod yX4_init ∈ tbW := List.mem_filter.mpr ⟨List.mem_append_right _ (List.mem_of_getElem? (i := 202) (by decide +kernel)), by decide +kernel⟩
theorem me_X5_reader : MEv yX5_reader cX5_reader 3 (.some .int) 1 := ⟨List.mem_filter.mpr ⟨List.mem_append_right _ (List.mem_of_getElem? (i := 246) (by decide +kernel)), by decide +kernel⟩, List.mem_filter.mpr ⟨List.mem_append_right _ (List.mem_of_getElem? (i := 1) (by decide +kernel)), by decide +kernel⟩, by decide, by decide, by decide +kernel⟩
theorem mi_X5_reader : MIv yX5_reader := ⟨List.mem_filter.mpr ⟨List.mem_append_right _ (List.mem_of_getElem? (i := 244) (by decide +kernel)), by decide +kernel⟩, List.mem_filter.mpr ⟨List.mem_append_right _ (List.mem_of_getElem? (i := 245) (by decide +kernel)), by decide +kernel⟩⟩
theorem me_X3_init : MEv yX3_init cX3_init 3 (.none : Option Jvm.ClassFile.FieldType) 2 := ⟨List.mem_filter.mpr ⟨List.mem_append_right _ (List.mem_of_getElem? (i := 251) (by decide +kernel)), by decide +kernel⟩, List.mem_filter.mpr ⟨List.mem_append_right _ (List.mem_of_getElem? (i := 8) (by decide +kernel)), by decide +kernel⟩, by decide, by decide, by decide +kernel⟩
theorem mc_X3_init : Cond.instanceMethod yX3_init ∈ tbW := List.mem_filter.mpr ⟨List.mem_append_right _ (List.mem_of_getElem? (i := 250) (by decide +kernel)), by decide +kernel⟩
theorem me_X5_many : MEv yX5_many cX5_many 2 (.some .int) 1 := ⟨List.mem_filter.mpr ⟨List.mem_append_right _ (List.mem_of_getElem? (i := 268) (by decide +kernel)), by decide +kernel⟩, List.mem_filter.mpr ⟨List.mem_append_right _ (List.mem_of_getElem? (i := 1) (by decide +kernel)), by decide +kernel⟩, by decide, by decide, by decide +kernel⟩
theorem mi_X5_many : MIv yX5_many := ⟨List.mem_filter.mpr ⟨List.mem_append_right _ (List.mem_of_getElem? (i := 266) (by decide +kernel)), by decide +kernel⟩, List.mem_filter.mpr ⟨List.mem_append_right _ (List.mem_of_getElem? (i := 267) (by decide +kernel)), by decide +kernel⟩⟩
theorem me_X5_total : MEv yX5_total cX5_total 2 (.some .int) 1 := ⟨List.mem_filter.mpr ⟨List.mem_append_right _ (List.mem_of_getElem? (i := 272) (by decide +kernel)), by decide +kernel⟩, List.mem_filter.mpr ⟨List.mem_append_right _ (List.mem_of_getElem? (i := 1) (by decide +kernel)), by decide +kernel⟩, by decide, by decide, by decide +kernel⟩
theorem mi_X5_total : MIv yX5_total := ⟨List.mem_filter.mpr ⟨List.mem_append_right _ (List.mem_of_getElem? (i := 271) (by decide +kernel)), by decide +kernel⟩, List.mem_filter.mpr ⟨List.mem_append_left _ (List.mem_of_getElem? (i := 3) (by decide +kernel)), by decide +kernel⟩⟩
theorem me_X5_liveRecords : MEv yX5_liveRecords cX5_liveRecords 6 (.some .int) 0 := ⟨List.mem_filter.mpr ⟨List.mem_append_right _ (List.mem_of_getElem? (i := 276) (by decide +kernel)), by decide +kernel⟩, List.mem_filter.mpr ⟨List.mem_append_right _ (List.mem_of_getElem? (i := 1) (by decide +kernel)), by decide +kernel⟩, by decide, by decide, by decide +kernel⟩
theorem mi_X5_liveRecords : MIv yX5_liveRecords := ⟨List.mem_filter.mpr ⟨List.mem_append_right _ (List.mem_of_getElem? (i := 275) (by decide +kernel)), by decide +kernel⟩, List.mem_filter.mpr ⟨List.mem_append_left _ (List.mem_of_getElem? (i := 4) (by decide +kernel)), by decide +kernel⟩⟩
theorem me_X0_isLive : MEv yX0_isLive cX0_isLive 1 (.some .boolean) 0 := ⟨List.mem_filter.mpr ⟨List.mem_append_right _ (List.mem_of_getElem? (i := 280) (by decide +kernel)), by decide +kernel⟩, List.mem_filter.mpr ⟨List.mem_append_right _ (List.mem_of_getElem? (i := 10) (by decide +kernel)), by decide +kernel⟩, by decide, by decide, by decide +kernel⟩
theorem mi_X0_isLive : MIv yX0_isLive := ⟨List.mem_filter.mpr ⟨List.mem_append_right _ (List.mem_of_getElem? (i := 278) (by decide +kernel)), by decide +kernel⟩, List.mem_filter.mpr ⟨List.mem_append_right _ (List.mem_of_getElem? (i := 279) (by decide +kernel)), by decide +kernel⟩⟩
theorem me_X5_owedByAll : MEv yX5_owedByAll cX5_owedByAll 6 (.some .int) 0 := ⟨List.mem_filter.mpr ⟨List.mem_append_right _ (List.mem_of_getElem? (i := 284) (by decide +kernel)), by decide +kernel⟩, List.mem_filter.mpr ⟨List.mem_append_right _ (List.mem_of_getElem? (i := 1) (by decide +kernel)), by decide +kernel⟩, by decide, by decide, by decide +kernel⟩
theorem mi_X5_owedByAll : MIv yX5_owedByAll := ⟨List.mem_filter.mpr ⟨List.mem_append_right _ (List.mem_of_getElem? (i := 283) (by decide +kernel)), by decide +kernel⟩, List.mem_filter.mpr ⟨List.mem_append_left _ (List.mem_of_getElem? (i := 5) (by decide +kernel)), by decide +kernel⟩⟩
theorem me_X5_copiesAt : MEv yX5_copiesAt cX5_copiesAt 7 (.some .int) 1 := ⟨List.mem_filter.mpr ⟨List.mem_append_right _ (List.mem_of_getElem? (i := 288) (by decide +kernel)), by decide +kernel⟩, List.mem_filter.mpr ⟨List.mem_append_right _ (List.mem_of_getElem? (i := 1) (by decide +kernel)), by decide +kernel⟩, by decide, by decide, by decide +kernel⟩
theorem mi_X5_copiesAt : MIv yX5_copiesAt := ⟨List.mem_filter.mpr ⟨List.mem_append_right _ (List.mem_of_getElem? (i := 287) (by decide +kernel)), by decide +kernel⟩, List.mem_filter.mpr ⟨List.mem_append_left _ (List.mem_of_getElem? (i := 6) (by decide +kernel)), by decide +kernel⟩⟩
theorem me_X5_digest : MEv yX5_digest cX5_digest 7 (.some .long) 0 := ⟨List.mem_filter.mpr ⟨List.mem_append_right _ (List.mem_of_getElem? (i := 292) (by decide +kernel)), by decide +kernel⟩, List.mem_filter.mpr ⟨List.mem_append_right _ (List.mem_of_getElem? (i := 1) (by decide +kernel)), by decide +kernel⟩, by decide, by decide, by decide +kernel⟩
theorem mi_X5_digest : MIv yX5_digest := ⟨List.mem_filter.mpr ⟨List.mem_append_right _ (List.mem_of_getElem? (i := 290) (by decide +kernel)), by decide +kernel⟩, List.mem_filter.mpr ⟨List.mem_append_right _ (List.mem_of_getElem? (i := 291) (by decide +kernel)), by decide +kernel⟩⟩
theorem me_X5_digested : MEv yX5_digested cX5_digested 3 (.some .long) 2 := ⟨List.mem_filter.mpr ⟨List.mem_append_right _ (List.mem_of_getElem? (i := 296) (by decide +kernel)), by decide +kernel⟩, List.mem_filter.mpr ⟨List.mem_append_right _ (List.mem_of_getElem? (i := 1) (by decide +kernel)), by decide +kernel⟩, by decide, by decide, by decide +kernel⟩
theorem ms_X5_digested : Cond.static yX5_digested ∈ tbW := List.mem_filter.mpr ⟨List.mem_append_right _ (List.mem_of_getElem? (i := 295) (by decide +kernel)), by decide +kernel⟩
theorem me_X2_stoodFor : MEv yX2_stoodFor cX2_stoodFor 3 (.some (.object "BookplateHall$Name")) 0 := ⟨List.mem_filter.mpr ⟨List.mem_append_right _ (List.mem_of_getElem? (i := 301) (by decide +kernel)), by decide +kernel⟩, List.mem_filter.mpr ⟨List.mem_append_right _ (List.mem_of_getElem? (i := 6) (by decide +kernel)), by decide +kernel⟩, by decide, by decide, by decide +kernel⟩
theorem mi_X2_stoodFor : MIv yX2_stoodFor := ⟨List.mem_filter.mpr ⟨List.mem_append_right _ (List.mem_of_getElem? (i := 299) (by decide +kernel)), by decide +kernel⟩, List.mem_filter.mpr ⟨List.mem_append_right _ (List.mem_of_getElem? (i := 300) (by decide +kernel)), by decide +kernel⟩⟩
theorem me_X5_digestedRecord : MEv yX5_digestedRecord cX5_digestedRecord 10 (.some .long) 2 := ⟨List.mem_filter.mpr ⟨List.mem_append_right _ (List.mem_of_getElem? (i := 305) (by decide +kernel)), by decide +kernel⟩, List.mem_filter.mpr ⟨List.mem_append_right _ (List.mem_of_getElem? (i := 1) (by decide +kernel)), by decide +kernel⟩, by decide, by decide, by decide +kernel⟩
theorem mi_X5_digestedRecord : MIv yX5_digestedRecord := ⟨List.mem_filter.mpr ⟨List.mem_append_right _ (List.mem_of_getElem? (i := 304) (by decide +kernel)), by decide +kernel⟩, List.mem_filter.mpr ⟨List.mem_append_left _ (List.mem_of_getElem? (i := 7) (by decide +kernel)), by decide +kernel⟩⟩
theorem me_X5_factOfRecord : MEv yX5_factOfRecord cX5_factOfRecord 4 (.some .int) 2 := ⟨List.mem_filter.mpr ⟨List.mem_append_right _ (List.mem_of_getElem? (i := 309) (by decide +kernel)), by decide +kernel⟩, List.mem_filter.mpr ⟨List.mem_append_right _ (List.mem_of_getElem? (i := 1) (by decide +kernel)), by decide +kernel⟩, by decide, by decide, by decide +kernel⟩
theorem mi_X5_factOfRecord : MIv yX5_factOfRecord := ⟨List.mem_filter.mpr ⟨List.mem_append_right _ (List.mem_of_getElem? (i := 308) (by decide +kernel)), by decide +kernel⟩, List.mem_filter.mpr ⟨List.mem_append_left _ (List.mem_of_getElem? (i := 8) (by decide +kernel)), by decide +kernel⟩⟩
theorem me_X0_liveOne : MEv yX0_liveOne cX0_liveOne 3 (.some (.object "BookplateHall$BookRecord")) 0 := ⟨List.mem_filter.mpr ⟨List.mem_append_right _ (List.mem_of_getElem? (i := 313) (by decide +kernel)), by decide +kernel⟩, List.mem_filter.mpr ⟨List.mem_append_right _ (List.mem_of_getElem? (i := 10) (by decide +kernel)), by decide +kernel⟩, by decide, by decide, by decide +kernel⟩
theorem mi_X0_liveOne : MIv yX0_liveOne := ⟨List.mem_filter.mpr ⟨List.mem_append_right _ (List.mem_of_getElem? (i := 311) (by decide +kernel)), by decide +kernel⟩, List.mem_filter.mpr ⟨List.mem_append_right _ (List.mem_of_getElem? (i := 312) (by decide +kernel)), by decide +kernel⟩⟩
theorem me_X5_copiesNotLost : MEv yX5_copiesNotLost cX5_copiesNotLost 7 (.some .int) 1 := ⟨List.mem_filter.mpr ⟨List.mem_append_right _ (List.mem_of_getElem? (i := 317) (by decide +kernel)), by decide +kernel⟩, List.mem_filter.mpr ⟨List.mem_append_right _ (List.mem_of_getElem? (i := 1) (by decide +kernel)), by decide +kernel⟩, by decide, by decide, by decide +kernel⟩
theorem mi_X5_copiesNotLost : MIv yX5_copiesNotLost := ⟨List.mem_filter.mpr ⟨List.mem_append_right _ (List.mem_of_getElem? (i := 316) (by decide +kernel)), by decide +kernel⟩, List.mem_filter.mpr ⟨List.mem_append_left _ (List.mem_of_getElem? (i := 9) (by decide +kernel)), by decide +kernel⟩⟩
theorem me_X5_digestedCopy : MEv yX5_digestedCopy cX5_digestedCopy 7 (.some .long) 2 := ⟨List.mem_filter.mpr ⟨List.mem_append_right _ (List.mem_of_getElem? (i := 321) (by decide +kernel)), by decide +kernel⟩, List.mem_filter.mpr ⟨List.mem_append_right _ (List.mem_of_getElem? (i := 1) (by decide +kernel)), by decide +kernel⟩, by decide, by decide, by decide +kernel⟩
theorem mi_X5_digestedCopy : MIv yX5_digestedCopy := ⟨List.mem_filter.mpr ⟨List.mem_append_right _ (List.mem_of_getElem? (i := 320) (by decide +kernel)), by decide +kernel⟩, List.mem_filter.mpr ⟨List.mem_append_left _ (List.mem_of_getElem? (i := 10) (by decide +kernel)), by decide +kernel⟩⟩
theorem me_X5_factOfCopy : MEv yX5_factOfCopy cX5_factOfCopy 3 (.some .int) 2 := ⟨List.mem_filter.mpr ⟨List.mem_append_right _ (List.mem_of_getElem? (i := 325) (by decide +kernel)), by decide +kernel⟩, List.mem_filter.mpr ⟨List.mem_append_right _ (List.mem_of_getElem? (i := 1) (by decide +kernel)), by decide +kernel⟩, by decide, by decide, by decide +kernel⟩
theorem mi_X5_factOfCopy : MIv yX5_factOfCopy := ⟨List.mem_filter.mpr ⟨List.mem_append_right _ (List.mem_of_getElem? (i := 324) (by decide +kernel)), by decide +kernel⟩, List.mem_filter.mpr ⟨List.mem_append_left _ (List.mem_of_getElem? (i := 11) (by decide +kernel)), by decide +kernel⟩⟩
theorem me_X1_daysLateOn : MEv yX1_daysLateOn cX1_daysLateOn 2 (.some .int) 1 := ⟨List.mem_filter.mpr ⟨List.mem_append_right _ (List.mem_of_getElem? (i := 329) (by decide +kernel)), by decide +kernel⟩, List.mem_filter.mpr ⟨List.mem_append_right _ (List.mem_of_getElem? (i := 13) (by decide +kernel)), by decide +kernel⟩, by decide, by decide, by decide +kernel⟩
theorem mi_X1_daysLateOn : MIv yX1_daysLateOn := ⟨List.mem_filter.mpr ⟨List.mem_append_right _ (List.mem_of_getElem? (i := 327) (by decide +kernel)), by decide +kernel⟩, List.mem_filter.mpr ⟨List.mem_append_right _ (List.mem_of_getElem? (i := 328) (by decide +kernel)), by decide +kernel⟩⟩
theorem me_X5_digestedReader : MEv yX5_digestedReader cX5_digestedReader 7 (.some .long) 2 := ⟨List.mem_filter.mpr ⟨List.mem_append_right _ (List.mem_of_getElem? (i := 333) (by decide +kernel)), by decide +kernel⟩, List.mem_filter.mpr ⟨List.mem_append_right _ (List.mem_of_getElem? (i := 1) (by decide +kernel)), by decide +kernel⟩, by decide, by decide, by decide +kernel⟩
theorem mi_X5_digestedReader : MIv yX5_digestedReader := ⟨List.mem_filter.mpr ⟨List.mem_append_right _ (List.mem_of_getElem? (i := 332) (by decide +kernel)), by decide +kernel⟩, List.mem_filter.mpr ⟨List.mem_append_left _ (List.mem_of_getElem? (i := 12) (by decide +kernel)), by decide +kernel⟩⟩
theorem me_X5_factOfReader : MEv yX5_factOfReader cX5_factOfReader 3 (.some .int) 2 := ⟨List.mem_filter.mpr ⟨List.mem_append_right _ (List.mem_of_getElem? (i := 337) (by decide +kernel)), by decide +kernel⟩, List.mem_filter.mpr ⟨List.mem_append_right _ (List.mem_of_getElem? (i := 1) (by decide +kernel)), by decide +kernel⟩, by decide, by decide, by decide +kernel⟩
theorem mi_X5_factOfReader : MIv yX5_factOfReader := ⟨List.mem_filter.mpr ⟨List.mem_append_right _ (List.mem_of_getElem? (i := 336) (by decide +kernel)), by decide +kernel⟩, List.mem_filter.mpr ⟨List.mem_append_left _ (List.mem_of_getElem? (i := 13) (by decide +kernel)), by decide +kernel⟩⟩
theorem me_X5_copiesOf : MEv yX5_copiesOf cX5_copiesOf 8 (.some .int) 2 := ⟨List.mem_filter.mpr ⟨List.mem_append_right _ (List.mem_of_getElem? (i := 341) (by decide +kernel)), by decide +kernel⟩, List.mem_filter.mpr ⟨List.mem_append_right _ (List.mem_of_getElem? (i := 1) (by decide +kernel)), by decide +kernel⟩, by decide, by decide, by decide +kernel⟩
theorem mi_X5_copiesOf : MIv yX5_copiesOf := ⟨List.mem_filter.mpr ⟨List.mem_append_right _ (List.mem_of_getElem? (i := 340) (by decide +kernel)), by decide +kernel⟩, List.mem_filter.mpr ⟨List.mem_append_left _ (List.mem_of_getElem? (i := 14) (by decide +kernel)), by decide +kernel⟩⟩
theorem me_X5_waitsOf : MEv yX5_waitsOf cX5_waitsOf 7 (.some .int) 1 := ⟨List.mem_filter.mpr ⟨List.mem_append_right _ (List.mem_of_getElem? (i := 345) (by decide +kernel)), by decide +kernel⟩, List.mem_filter.mpr ⟨List.mem_append_right _ (List.mem_of_getElem? (i := 1) (by decide +kernel)), by decide +kernel⟩, by decide, by decide, by decide +kernel⟩
theorem mi_X5_waitsOf : MIv yX5_waitsOf := ⟨List.mem_filter.mpr ⟨List.mem_append_right _ (List.mem_of_getElem? (i := 344) (by decide +kernel)), by decide +kernel⟩, List.mem_filter.mpr ⟨List.mem_append_left _ (List.mem_of_getElem? (i := 15) (by decide +kernel)), by decide +kernel⟩⟩
theorem me_X4_holds : MEv yX4_holds cX4_holds 6 (.some .boolean) 1 := ⟨List.mem_filter.mpr ⟨List.mem_append_right _ (List.mem_of_getElem? (i := 349) (by decide +kernel)), by decide +kernel⟩, List.mem_filter.mpr ⟨List.mem_append_right _ (List.mem_of_getElem? (i := 11) (by decide +kernel)), by decide +kernel⟩, by decide, by decide, by decide +kernel⟩
theorem mi_X4_holds : MIv yX4_holds := ⟨List.mem_filter.mpr ⟨List.mem_append_right _ (List.mem_of_getElem? (i := 347) (by decide +kernel)), by decide +kernel⟩, List.mem_filter.mpr ⟨List.mem_append_right _ (List.mem_of_getElem? (i := 348) (by decide +kernel)), by decide +kernel⟩⟩
theorem me_X5_lateCopiesOf : MEv yX5_lateCopiesOf cX5_lateCopiesOf 7 (.some .int) 1 := ⟨List.mem_filter.mpr ⟨List.mem_append_right _ (List.mem_of_getElem? (i := 353) (by decide +kernel)), by decide +kernel⟩, List.mem_filter.mpr ⟨List.mem_append_right _ (List.mem_of_getElem? (i := 1) (by decide +kernel)), by decide +kernel⟩, by decide, by decide, by decide +kernel⟩
theorem mi_X5_lateCopiesOf : MIv yX5_lateCopiesOf := ⟨List.mem_filter.mpr ⟨List.mem_append_right _ (List.mem_of_getElem? (i := 352) (by decide +kernel)), by decide +kernel⟩, List.mem_filter.mpr ⟨List.mem_append_left _ (List.mem_of_getElem? (i := 16) (by decide +kernel)), by decide +kernel⟩⟩
theorem me_X5_finesOf : MEv yX5_finesOf cX5_finesOf 7 (.some .int) 1 := ⟨List.mem_filter.mpr ⟨List.mem_append_right _ (List.mem_of_getElem? (i := 357) (by decide +kernel)), by decide +kernel⟩, List.mem_filter.mpr ⟨List.mem_append_right _ (List.mem_of_getElem? (i := 1) (by decide +kernel)), by decide +kernel⟩, by decide, by decide, by decide +kernel⟩
theorem mi_X5_finesOf : MIv yX5_finesOf := ⟨List.mem_filter.mpr ⟨List.mem_append_right _ (List.mem_of_getElem? (i := 356) (by decide +kernel)), by decide +kernel⟩, List.mem_filter.mpr ⟨List.mem_append_left _ (List.mem_of_getElem? (i := 17) (by decide +kernel)), by decide +kernel⟩⟩
theorem me_X1_fineOn : MEv yX1_fineOn cX1_fineOn 2 (.some .int) 1 := ⟨List.mem_filter.mpr ⟨List.mem_append_right _ (List.mem_of_getElem? (i := 361) (by decide +kernel)), by decide +kernel⟩, List.mem_filter.mpr ⟨List.mem_append_right _ (List.mem_of_getElem? (i := 13) (by decide +kernel)), by decide +kernel⟩, by decide, by decide, by decide +kernel⟩
theorem mi_X1_fineOn : MIv yX1_fineOn := ⟨List.mem_filter.mpr ⟨List.mem_append_right _ (List.mem_of_getElem? (i := 359) (by decide +kernel)), by decide +kernel⟩, List.mem_filter.mpr ⟨List.mem_append_right _ (List.mem_of_getElem? (i := 360) (by decide +kernel)), by decide +kernel⟩⟩
theorem me_J9_min_7cf53 : MEv yJ9_min_7cf53 cJ9_min_7cf53 2 (.some .int) 2 := ⟨List.mem_filter.mpr ⟨List.mem_append_right _ (List.mem_of_getElem? (i := 365) (by decide +kernel)), by decide +kernel⟩, List.mem_filter.mpr ⟨List.mem_append_right _ (List.mem_of_getElem? (i := 12) (by decide +kernel)), by decide +kernel⟩, by decide, by decide, by decide +kernel⟩
theorem ms_J9_min_7cf53 : Cond.static yJ9_min_7cf53 ∈ tbW := List.mem_filter.mpr ⟨List.mem_append_right _ (List.mem_of_getElem? (i := 364) (by decide +kernel)), by decide +kernel⟩
theorem me_X5_borrowable : MEv yX5_borrowable cX5_borrowable 7 (.some .int) 1 := ⟨List.mem_filter.mpr ⟨List.mem_append_right _ (List.mem_of_getElem? (i := 369) (by decide +kernel)), by decide +kernel⟩, List.mem_filter.mpr ⟨List.mem_append_right _ (List.mem_of_getElem? (i := 1) (by decide +kernel)), by decide +kernel⟩, by decide, by decide, by decide +kernel⟩
theorem mi_X5_borrowable : MIv yX5_borrowable := ⟨List.mem_filter.mpr ⟨List.mem_append_right _ (List.mem_of_getElem? (i := 368) (by decide +kernel)), by decide +kernel⟩, List.mem_filter.mpr ⟨List.mem_append_left _ (List.mem_of_getElem? (i := 18) (by decide +kernel)), by decide +kernel⟩⟩
theorem me_X5_reasonAgainst : MEv yX5_reasonAgainst cX5_reasonAgainst 3 (.some .int) 2 := ⟨List.mem_filter.mpr ⟨List.mem_append_right _ (List.mem_of_getElem? (i := 373) (by decide +kernel)), by decide +kernel⟩, List.mem_filter.mpr ⟨List.mem_append_right _ (List.mem_of_getElem? (i := 1) (by decide +kernel)), by decide +kernel⟩, by decide, by decide, by decide +kernel⟩
theorem mi_X5_reasonAgainst : MIv yX5_reasonAgainst := ⟨List.mem_filter.mpr ⟨List.mem_append_right _ (List.mem_of_getElem? (i := 372) (by decide +kernel)), by decide +kernel⟩, List.mem_filter.mpr ⟨List.mem_append_left _ (List.mem_of_getElem? (i := 19) (by decide +kernel)), by decide +kernel⟩⟩
theorem me_X1_isAsideFor : MEv yX1_isAsideFor cX1_isAsideFor 3 (.some .boolean) 2 := ⟨List.mem_filter.mpr ⟨List.mem_append_right _ (List.mem_of_getElem? (i := 377) (by decide +kernel)), by decide +kernel⟩, List.mem_filter.mpr ⟨List.mem_append_right _ (List.mem_of_getElem? (i := 13) (by decide +kernel)), by decide +kernel⟩, by decide, by decide, by decide +kernel⟩
theorem mi_X1_isAsideFor : MIv yX1_isAsideFor := ⟨List.mem_filter.mpr ⟨List.mem_append_right _ (List.mem_of_getElem? (i := 375) (by decide +kernel)), by decide +kernel⟩, List.mem_filter.mpr ⟨List.mem_append_right _ (List.mem_of_getElem? (i := 376) (by decide +kernel)), by decide +kernel⟩⟩
theorem me_X3_mostCopies : MEv yX3_mostCopies cX3_mostCopies 1 (.some .int) 0 := ⟨List.mem_filter.mpr ⟨List.mem_append_right _ (List.mem_of_getElem? (i := 381) (by decide +kernel)), by decide +kernel⟩, List.mem_filter.mpr ⟨List.mem_append_right _ (List.mem_of_getElem? (i := 8) (by decide +kernel)), by decide +kernel⟩, by decide, by decide, by decide +kernel⟩
theorem mi_X3_mostCopies : MIv yX3_mostCopies := ⟨List.mem_filter.mpr ⟨List.mem_append_right _ (List.mem_of_getElem? (i := 379) (by decide +kernel)), by decide +kernel⟩, List.mem_filter.mpr ⟨List.mem_append_right _ (List.mem_of_getElem? (i := 380) (by decide +kernel)), by decide +kernel⟩⟩
theorem me_X5_lostWithin : MEv yX5_lostWithin cX5_lostWithin 7 (.some .int) 1 := ⟨List.mem_filter.mpr ⟨List.mem_append_right _ (List.mem_of_getElem? (i := 385) (by decide +kernel)), by decide +kernel⟩, List.mem_filter.mpr ⟨List.mem_append_right _ (List.mem_of_getElem? (i := 1) (by decide +kernel)), by decide +kernel⟩, by decide, by decide, by decide +kernel⟩
theorem mi_X5_lostWithin : MIv yX5_lostWithin := ⟨List.mem_filter.mpr ⟨List.mem_append_right _ (List.mem_of_getElem? (i := 384) (by decide +kernel)), by decide +kernel⟩, List.mem_filter.mpr ⟨List.mem_append_left _ (List.mem_of_getElem? (i := 20) (by decide +kernel)), by decide +kernel⟩⟩
theorem me_X1_isLostOn : MEv yX1_isLostOn cX1_isLostOn 2 (.some .boolean) 1 := ⟨List.mem_filter.mpr ⟨List.mem_append_right _ (List.mem_of_getElem? (i := 389) (by decide +kernel)), by decide +kernel⟩, List.mem_filter.mpr ⟨List.mem_append_right _ (List.mem_of_getElem? (i := 13) (by decide +kernel)), by decide +kernel⟩, by decide, by decide, by decide +kernel⟩
theorem mi_X1_isLostOn : MIv yX1_isLostOn := ⟨List.mem_filter.mpr ⟨List.mem_append_right _ (List.mem_of_getElem? (i := 387) (by decide +kernel)), by decide +kernel⟩, List.mem_filter.mpr ⟨List.mem_append_right _ (List.mem_of_getElem? (i := 388) (by decide +kernel)), by decide +kernel⟩⟩
theorem me_L_below : MEv yL_below cL_below 2 (.some .int) 2 := ⟨List.mem_filter.mpr ⟨List.mem_append_right _ (List.mem_of_getElem? (i := 392) (by decide +kernel)), by decide +kernel⟩, List.mem_filter.mpr ⟨List.mem_append_right _ (List.mem_of_getElem? (i := 0) (by decide +kernel)), by decide +kernel⟩, by decide, by decide, by decide +kernel⟩
theorem ms_L_below : Cond.static yL_below ∈ tbW := List.mem_filter.mpr ⟨List.mem_append_right _ (List.mem_of_getElem? (i := 391) (by decide +kernel)), by decide +kernel⟩
theorem me_L_cell : MEv yL_cell cL_cell 2 (.some .int) 2 := ⟨List.mem_filter.mpr ⟨List.mem_append_right _ (List.mem_of_getElem? (i := 396) (by decide +kernel)), by decide +kernel⟩, List.mem_filter.mpr ⟨List.mem_append_right _ (List.mem_of_getElem? (i := 0) (by decide +kernel)), by decide +kernel⟩, by decide, by decide, by decide +kernel⟩
theorem ms_L_cell : Cond.static yL_cell ∈ tbW := List.mem_filter.mpr ⟨List.mem_append_right _ (List.mem_of_getElem? (i := 395) (by decide +kernel)), by decide +kernel⟩
theorem me_J9_max_7cf53 : MEv yJ9_max_7cf53 cJ9_max_7cf53 2 (.some .int) 2 := ⟨List.mem_filter.mpr ⟨List.mem_append_right _ (List.mem_of_getElem? (i := 406) (by decide +kernel)), by decide +kernel⟩, List.mem_filter.mpr ⟨List.mem_append_right _ (List.mem_of_getElem? (i := 12) (by decide +kernel)), by decide +kernel⟩, by decide, by decide, by decide +kernel⟩
theorem ms_J9_max_7cf53 : Cond.static yJ9_max_7cf53 ∈ tbW := List.mem_filter.mpr ⟨List.mem_append_right _ (List.mem_of_getElem? (i := 405) (by decide +kernel)), by decide +kernel⟩
theorem me_X5_copy : MEv yX5_copy cX5_copy 6 (.some .int) 2 := ⟨List.mem_filter.mpr ⟨List.mem_append_right _ (List.mem_of_getElem? (i := 410) (by decide +kernel)), by decide +kernel⟩, List.mem_filter.mpr ⟨List.mem_append_right _ (List.mem_of_getElem? (i := 1) (by decide +kernel)), by decide +kernel⟩, by decide, by decide, by decide +kernel⟩
theorem mi_X5_copy : MIv yX5_copy := ⟨List.mem_filter.mpr ⟨List.mem_append_right _ (List.mem_of_getElem? (i := 408) (by decide +kernel)), by decide +kernel⟩, List.mem_filter.mpr ⟨List.mem_append_right _ (List.mem_of_getElem? (i := 409) (by decide +kernel)), by decide +kernel⟩⟩
theorem me_X5_knownRecord : MEv yX5_knownRecord cX5_knownRecord 3 (.some (.object "BookplateHall$BookRecord")) 1 := ⟨List.mem_filter.mpr ⟨List.mem_append_right _ (List.mem_of_getElem? (i := 414) (by decide +kernel)), by decide +kernel⟩, List.mem_filter.mpr ⟨List.mem_append_right _ (List.mem_of_getElem? (i := 1) (by decide +kernel)), by decide +kernel⟩, by decide, by decide, by decide +kernel⟩
theorem mi_X5_knownRecord : MIv yX5_knownRecord := ⟨List.mem_filter.mpr ⟨List.mem_append_right _ (List.mem_of_getElem? (i := 413) (by decide +kernel)), by decide +kernel⟩, List.mem_filter.mpr ⟨List.mem_append_left _ (List.mem_of_getElem? (i := 21) (by decide +kernel)), by decide +kernel⟩⟩
theorem me_X1_init : MEv yX1_init cX1_init 4 (.none : Option Jvm.ClassFile.FieldType) 3 := ⟨List.mem_filter.mpr ⟨List.mem_append_right _ (List.mem_of_getElem? (i := 420) (by decide +kernel)), by decide +kernel⟩, List.mem_filter.mpr ⟨List.mem_append_right _ (List.mem_of_getElem? (i := 13) (by decide +kernel)), by decide +kernel⟩, by decide, by decide, by decide +kernel⟩
theorem mc_X1_init : Cond.instanceMethod yX1_init ∈ tbW := List.mem_filter.mpr ⟨List.mem_append_right _ (List.mem_of_getElem? (i := 419) (by decide +kernel)), by decide +kernel⟩
theorem me_X5_free : MEv yX5_free cX5_free 3 (.none : Option Jvm.ClassFile.FieldType) 1 := ⟨List.mem_filter.mpr ⟨List.mem_append_right _ (List.mem_of_getElem? (i := 457) (by decide +kernel)), by decide +kernel⟩, List.mem_filter.mpr ⟨List.mem_append_right _ (List.mem_of_getElem? (i := 1) (by decide +kernel)), by decide +kernel⟩, by decide, by decide, by decide +kernel⟩
theorem mi_X5_free : MIv yX5_free := ⟨List.mem_filter.mpr ⟨List.mem_append_right _ (List.mem_of_getElem? (i := 456) (by decide +kernel)), by decide +kernel⟩, List.mem_filter.mpr ⟨List.mem_append_left _ (List.mem_of_getElem? (i := 22) (by decide +kernel)), by decide +kernel⟩⟩
theorem me_X1_put : MEv yX1_put cX1_put 4 (.none : Option Jvm.ClassFile.FieldType) 3 := ⟨List.mem_filter.mpr ⟨List.mem_append_right _ (List.mem_of_getElem? (i := 461) (by decide +kernel)), by decide +kernel⟩, List.mem_filter.mpr ⟨List.mem_append_right _ (List.mem_of_getElem? (i := 13) (by decide +kernel)), by decide +kernel⟩, by decide, by decide, by decide +kernel⟩
theorem mi_X1_put : MIv yX1_put := ⟨List.mem_filter.mpr ⟨List.mem_append_right _ (List.mem_of_getElem? (i := 459) (by decide +kernel)), by decide +kernel⟩, List.mem_filter.mpr ⟨List.mem_append_right _ (List.mem_of_getElem? (i := 460) (by decide +kernel)), by decide +kernel⟩⟩
theorem me_X5_firstWithNoneAside : MEv yX5_firstWithNoneAside cX5_firstWithNoneAside 6 (.some (.object "BookplateHall$Reader")) 1 := ⟨List.mem_filter.mpr ⟨List.mem_append_right _ (List.mem_of_getElem? (i := 465) (by decide +kernel)), by decide +kernel⟩, List.mem_filter.mpr ⟨List.mem_append_right _ (List.mem_of_getElem? (i := 1) (by decide +kernel)), by decide +kernel⟩, by decide, by decide, by decide +kernel⟩
theorem mi_X5_firstWithNoneAside : MIv yX5_firstWithNoneAside := ⟨List.mem_filter.mpr ⟨List.mem_append_right _ (List.mem_of_getElem? (i := 464) (by decide +kernel)), by decide +kernel⟩, List.mem_filter.mpr ⟨List.mem_append_left _ (List.mem_of_getElem? (i := 23) (by decide +kernel)), by decide +kernel⟩⟩
theorem me_X5_firstAside : MEv yX5_firstAside cX5_firstAside 7 (.some (.object "BookplateHall$Copy")) 2 := ⟨List.mem_filter.mpr ⟨List.mem_append_right _ (List.mem_of_getElem? (i := 469) (by decide +kernel)), by decide +kernel⟩, List.mem_filter.mpr ⟨List.mem_append_right _ (List.mem_of_getElem? (i := 1) (by decide +kernel)), by decide +kernel⟩, by decide, by decide, by decide +kernel⟩
theorem mi_X5_firstAside : MIv yX5_firstAside := ⟨List.mem_filter.mpr ⟨List.mem_append_right _ (List.mem_of_getElem? (i := 468) (by decide +kernel)), by decide +kernel⟩, List.mem_filter.mpr ⟨List.mem_append_left _ (List.mem_of_getElem? (i := 24) (by decide +kernel)), by decide +kernel⟩⟩
theorem me_X5_lend : MEv yX5_lend cX5_lend 5 (.some .int) 2 := ⟨List.mem_filter.mpr ⟨List.mem_append_right _ (List.mem_of_getElem? (i := 473) (by decide +kernel)), by decide +kernel⟩, List.mem_filter.mpr ⟨List.mem_append_right _ (List.mem_of_getElem? (i := 1) (by decide +kernel)), by decide +kernel⟩, by decide, by decide, by decide +kernel⟩
theorem mi_X5_lend : MIv yX5_lend := ⟨List.mem_filter.mpr ⟨List.mem_append_right _ (List.mem_of_getElem? (i := 471) (by decide +kernel)), by decide +kernel⟩, List.mem_filter.mpr ⟨List.mem_append_right _ (List.mem_of_getElem? (i := 472) (by decide +kernel)), by decide +kernel⟩⟩
theorem me_X5_knownReader : MEv yX5_knownReader cX5_knownReader 3 (.some (.object "BookplateHall$Reader")) 1 := ⟨List.mem_filter.mpr ⟨List.mem_append_right _ (List.mem_of_getElem? (i := 477) (by decide +kernel)), by decide +kernel⟩, List.mem_filter.mpr ⟨List.mem_append_right _ (List.mem_of_getElem? (i := 1) (by decide +kernel)), by decide +kernel⟩, by decide, by decide, by decide +kernel⟩
theorem mi_X5_knownReader : MIv yX5_knownReader := ⟨List.mem_filter.mpr ⟨List.mem_append_right _ (List.mem_of_getElem? (i := 476) (by decide +kernel)), by decide +kernel⟩, List.mem_filter.mpr ⟨List.mem_append_left _ (List.mem_of_getElem? (i := 25) (by decide +kernel)), by decide +kernel⟩⟩
theorem me_X5_knownCopy : MEv yX5_knownCopy cX5_knownCopy 3 (.some (.object "BookplateHall$Copy")) 1 := ⟨List.mem_filter.mpr ⟨List.mem_append_right _ (List.mem_of_getElem? (i := 482) (by decide +kernel)), by decide +kernel⟩, List.mem_filter.mpr ⟨List.mem_append_right _ (List.mem_of_getElem? (i := 1) (by decide +kernel)), by decide +kernel⟩, by decide, by decide, by decide +kernel⟩
theorem mi_X5_knownCopy : MIv yX5_knownCopy := ⟨List.mem_filter.mpr ⟨List.mem_append_right _ (List.mem_of_getElem? (i := 481) (by decide +kernel)), by decide +kernel⟩, List.mem_filter.mpr ⟨List.mem_append_left _ (List.mem_of_getElem? (i := 26) (by decide +kernel)), by decide +kernel⟩⟩
theorem me_X3_daysOfALoan : MEv yX3_daysOfALoan cX3_daysOfALoan 1 (.some .int) 0 := ⟨List.mem_filter.mpr ⟨List.mem_append_right _ (List.mem_of_getElem? (i := 488) (by decide +kernel)), by decide +kernel⟩, List.mem_filter.mpr ⟨List.mem_append_right _ (List.mem_of_getElem? (i := 8) (by decide +kernel)), by decide +kernel⟩, by decide, by decide, by decide +kernel⟩
theorem mi_X3_daysOfALoan : MIv yX3_daysOfALoan := ⟨List.mem_filter.mpr ⟨List.mem_append_right _ (List.mem_of_getElem? (i := 486) (by decide +kernel)), by decide +kernel⟩, List.mem_filter.mpr ⟨List.mem_append_right _ (List.mem_of_getElem? (i := 487) (by decide +kernel)), by decide +kernel⟩⟩
theorem me_X5_endWait : MEv yX5_endWait cX5_endWait 7 (.none : Option Jvm.ClassFile.FieldType) 2 := ⟨List.mem_filter.mpr ⟨List.mem_append_right _ (List.mem_of_getElem? (i := 492) (by decide +kernel)), by decide +kernel⟩, List.mem_filter.mpr ⟨List.mem_append_right _ (List.mem_of_getElem? (i := 1) (by decide +kernel)), by decide +kernel⟩, by decide, by decide, by decide +kernel⟩
theorem mi_X5_endWait : MIv yX5_endWait := ⟨List.mem_filter.mpr ⟨List.mem_append_right _ (List.mem_of_getElem? (i := 491) (by decide +kernel)), by decide +kernel⟩, List.mem_filter.mpr ⟨List.mem_append_left _ (List.mem_of_getElem? (i := 27) (by decide +kernel)), by decide +kernel⟩⟩
theorem me_X4_drop : MEv yX4_drop cX4_drop 5 (.none : Option Jvm.ClassFile.FieldType) 1 := ⟨List.mem_filter.mpr ⟨List.mem_append_right _ (List.mem_of_getElem? (i := 496) (by decide +kernel)), by decide +kernel⟩, List.mem_filter.mpr ⟨List.mem_append_right _ (List.mem_of_getElem? (i := 11) (by decide +kernel)), by decide +kernel⟩, by decide, by decide, by decide +kernel⟩
theorem mi_X4_drop : MIv yX4_drop := ⟨List.mem_filter.mpr ⟨List.mem_append_right _ (List.mem_of_getElem? (i := 494) (by decide +kernel)), by decide +kernel⟩, List.mem_filter.mpr ⟨List.mem_append_right _ (List.mem_of_getElem? (i := 495) (by decide +kernel)), by decide +kernel⟩⟩
theorem me_X5_ofCopy : MEv yX5_ofCopy cX5_ofCopy 4 (.some .int) 2 := ⟨List.mem_filter.mpr ⟨List.mem_append_right _ (List.mem_of_getElem? (i := 500) (by decide +kernel)), by decide +kernel⟩, List.mem_filter.mpr ⟨List.mem_append_right _ (List.mem_of_getElem? (i := 1) (by decide +kernel)), by decide +kernel⟩, by decide, by decide, by decide +kernel⟩
theorem mi_X5_ofCopy : MIv yX5_ofCopy := ⟨List.mem_filter.mpr ⟨List.mem_append_right _ (List.mem_of_getElem? (i := 498) (by decide +kernel)), by decide +kernel⟩, List.mem_filter.mpr ⟨List.mem_append_right _ (List.mem_of_getElem? (i := 499) (by decide +kernel)), by decide +kernel⟩⟩
theorem me_X5_renew : MEv yX5_renew cX5_renew 4 (.some .int) 1 := ⟨List.mem_filter.mpr ⟨List.mem_append_right _ (List.mem_of_getElem? (i := 504) (by decide +kernel)), by decide +kernel⟩, List.mem_filter.mpr ⟨List.mem_append_right _ (List.mem_of_getElem? (i := 1) (by decide +kernel)), by decide +kernel⟩, by decide, by decide, by decide +kernel⟩
theorem mi_X5_renew : MIv yX5_renew := ⟨List.mem_filter.mpr ⟨List.mem_append_right _ (List.mem_of_getElem? (i := 502) (by decide +kernel)), by decide +kernel⟩, List.mem_filter.mpr ⟨List.mem_append_right _ (List.mem_of_getElem? (i := 503) (by decide +kernel)), by decide +kernel⟩⟩
theorem me_X5_mayBeRenewed : MEv yX5_mayBeRenewed cX5_mayBeRenewed 2 (.some .boolean) 1 := ⟨List.mem_filter.mpr ⟨List.mem_append_right _ (List.mem_of_getElem? (i := 508) (by decide +kernel)), by decide +kernel⟩, List.mem_filter.mpr ⟨List.mem_append_right _ (List.mem_of_getElem? (i := 1) (by decide +kernel)), by decide +kernel⟩, by decide, by decide, by decide +kernel⟩
theorem mi_X5_mayBeRenewed : MIv yX5_mayBeRenewed := ⟨List.mem_filter.mpr ⟨List.mem_append_right _ (List.mem_of_getElem? (i := 507) (by decide +kernel)), by decide +kernel⟩, List.mem_filter.mpr ⟨List.mem_append_left _ (List.mem_of_getElem? (i := 28) (by decide +kernel)), by decide +kernel⟩⟩
theorem me_X5_fineIn : MEv yX5_fineIn cX5_fineIn 4 (.some .int) 2 := ⟨List.mem_filter.mpr ⟨List.mem_append_right _ (List.mem_of_getElem? (i := 513) (by decide +kernel)), by decide +kernel⟩, List.mem_filter.mpr ⟨List.mem_append_right _ (List.mem_of_getElem? (i := 1) (by decide +kernel)), by decide +kernel⟩, by decide, by decide, by decide +kernel⟩
theorem mi_X5_fineIn : MIv yX5_fineIn := ⟨List.mem_filter.mpr ⟨List.mem_append_right _ (List.mem_of_getElem? (i := 511) (by decide +kernel)), by decide +kernel⟩, List.mem_filter.mpr ⟨List.mem_append_right _ (List.mem_of_getElem? (i := 512) (by decide +kernel)), by decide +kernel⟩⟩
theorem me_X1_feeWhenLost : MEv yX1_feeWhenLost cX1_feeWhenLost 1 (.some .int) 0 := ⟨List.mem_filter.mpr ⟨List.mem_append_right _ (List.mem_of_getElem? (i := 518) (by decide +kernel)), by decide +kernel⟩, List.mem_filter.mpr ⟨List.mem_append_right _ (List.mem_of_getElem? (i := 13) (by decide +kernel)), by decide +kernel⟩, by decide, by decide, by decide +kernel⟩
theorem mi_X1_feeWhenLost : MIv yX1_feeWhenLost := ⟨List.mem_filter.mpr ⟨List.mem_append_right _ (List.mem_of_getElem? (i := 516) (by decide +kernel)), by decide +kernel⟩, List.mem_filter.mpr ⟨List.mem_append_right _ (List.mem_of_getElem? (i := 517) (by decide +kernel)), by decide +kernel⟩⟩
theorem me_X5_back : MEv yX5_back cX5_back 5 (.some .int) 1 := ⟨List.mem_filter.mpr ⟨List.mem_append_right _ (List.mem_of_getElem? (i := 522) (by decide +kernel)), by decide +kernel⟩, List.mem_filter.mpr ⟨List.mem_append_right _ (List.mem_of_getElem? (i := 1) (by decide +kernel)), by decide +kernel⟩, by decide, by decide, by decide +kernel⟩
theorem mi_X5_back : MIv yX5_back := ⟨List.mem_filter.mpr ⟨List.mem_append_right _ (List.mem_of_getElem? (i := 520) (by decide +kernel)), by decide +kernel⟩, List.mem_filter.mpr ⟨List.mem_append_right _ (List.mem_of_getElem? (i := 521) (by decide +kernel)), by decide +kernel⟩⟩
theorem me_X5_await : MEv yX5_await cX5_await 6 (.some .int) 2 := ⟨List.mem_filter.mpr ⟨List.mem_append_right _ (List.mem_of_getElem? (i := 526) (by decide +kernel)), by decide +kernel⟩, List.mem_filter.mpr ⟨List.mem_append_right _ (List.mem_of_getElem? (i := 1) (by decide +kernel)), by decide +kernel⟩, by decide, by decide, by decide +kernel⟩
theorem mi_X5_await : MIv yX5_await := ⟨List.mem_filter.mpr ⟨List.mem_append_right _ (List.mem_of_getElem? (i := 524) (by decide +kernel)), by decide +kernel⟩, List.mem_filter.mpr ⟨List.mem_append_right _ (List.mem_of_getElem? (i := 525) (by decide +kernel)), by decide +kernel⟩⟩
theorem me_X5_hasCopyOf : MEv yX5_hasCopyOf cX5_hasCopyOf 7 (.some .boolean) 2 := ⟨List.mem_filter.mpr ⟨List.mem_append_right _ (List.mem_of_getElem? (i := 530) (by decide +kernel)), by decide +kernel⟩, List.mem_filter.mpr ⟨List.mem_append_right _ (List.mem_of_getElem? (i := 1) (by decide +kernel)), by decide +kernel⟩, by decide, by decide, by decide +kernel⟩
theorem mi_X5_hasCopyOf : MIv yX5_hasCopyOf := ⟨List.mem_filter.mpr ⟨List.mem_append_right _ (List.mem_of_getElem? (i := 529) (by decide +kernel)), by decide +kernel⟩, List.mem_filter.mpr ⟨List.mem_append_left _ (List.mem_of_getElem? (i := 29) (by decide +kernel)), by decide +kernel⟩⟩
theorem me_X4_join : MEv yX4_join cX4_join 2 (.none : Option Jvm.ClassFile.FieldType) 1 := ⟨List.mem_filter.mpr ⟨List.mem_append_right _ (List.mem_of_getElem? (i := 535) (by decide +kernel)), by decide +kernel⟩, List.mem_filter.mpr ⟨List.mem_append_right _ (List.mem_of_getElem? (i := 11) (by decide +kernel)), by decide +kernel⟩, by decide, by decide, by decide +kernel⟩
theorem mi_X4_join : MIv yX4_join := ⟨List.mem_filter.mpr ⟨List.mem_append_right _ (List.mem_of_getElem? (i := 533) (by decide +kernel)), by decide +kernel⟩, List.mem_filter.mpr ⟨List.mem_append_right _ (List.mem_of_getElem? (i := 534) (by decide +kernel)), by decide +kernel⟩⟩
theorem me_X5_firstIn : MEv yX5_firstIn cX5_firstIn 6 (.some (.object "BookplateHall$Copy")) 1 := ⟨List.mem_filter.mpr ⟨List.mem_append_right _ (List.mem_of_getElem? (i := 539) (by decide +kernel)), by decide +kernel⟩, List.mem_filter.mpr ⟨List.mem_append_right _ (List.mem_of_getElem? (i := 1) (by decide +kernel)), by decide +kernel⟩, by decide, by decide, by decide +kernel⟩
theorem mi_X5_firstIn : MIv yX5_firstIn := ⟨List.mem_filter.mpr ⟨List.mem_append_right _ (List.mem_of_getElem? (i := 538) (by decide +kernel)), by decide +kernel⟩, List.mem_filter.mpr ⟨List.mem_append_left _ (List.mem_of_getElem? (i := 30) (by decide +kernel)), by decide +kernel⟩⟩
theorem me_X5_soon : MEv yX5_soon cX5_soon 5 (.some .int) 2 := ⟨List.mem_filter.mpr ⟨List.mem_append_right _ (List.mem_of_getElem? (i := 543) (by decide +kernel)), by decide +kernel⟩, List.mem_filter.mpr ⟨List.mem_append_right _ (List.mem_of_getElem? (i := 1) (by decide +kernel)), by decide +kernel⟩, by decide, by decide, by decide +kernel⟩
theorem mi_X5_soon : MIv yX5_soon := ⟨List.mem_filter.mpr ⟨List.mem_append_right _ (List.mem_of_getElem? (i := 541) (by decide +kernel)), by decide +kernel⟩, List.mem_filter.mpr ⟨List.mem_append_right _ (List.mem_of_getElem? (i := 542) (by decide +kernel)), by decide +kernel⟩⟩
theorem me_X5_daysUntilServed : MEv yX5_daysUntilServed cX5_daysUntilServed 8 (.some .int) 2 := ⟨List.mem_filter.mpr ⟨List.mem_append_right _ (List.mem_of_getElem? (i := 548) (by decide +kernel)), by decide +kernel⟩, List.mem_filter.mpr ⟨List.mem_append_right _ (List.mem_of_getElem? (i := 1) (by decide +kernel)), by decide +kernel⟩, by decide, by decide, by decide +kernel⟩
theorem mi_X5_daysUntilServed : MIv yX5_daysUntilServed := ⟨List.mem_filter.mpr ⟨List.mem_append_right _ (List.mem_of_getElem? (i := 547) (by decide +kernel)), by decide +kernel⟩, List.mem_filter.mpr ⟨List.mem_append_left _ (List.mem_of_getElem? (i := 31) (by decide +kernel)), by decide +kernel⟩⟩
theorem me_X5_reckonWhenThere : MEv yX5_reckonWhenThere cX5_reckonWhenThere 6 (.none : Option Jvm.ClassFile.FieldType) 1 := ⟨List.mem_filter.mpr ⟨List.mem_append_right _ (List.mem_of_getElem? (i := 552) (by decide +kernel)), by decide +kernel⟩, List.mem_filter.mpr ⟨List.mem_append_right _ (List.mem_of_getElem? (i := 1) (by decide +kernel)), by decide +kernel⟩, by decide, by decide, by decide +kernel⟩
theorem mi_X5_reckonWhenThere : MIv yX5_reckonWhenThere := ⟨List.mem_filter.mpr ⟨List.mem_append_right _ (List.mem_of_getElem? (i := 551) (by decide +kernel)), by decide +kernel⟩, List.mem_filter.mpr ⟨List.mem_append_left _ (List.mem_of_getElem? (i := 32) (by decide +kernel)), by decide +kernel⟩⟩
theorem me_X1_daysUntilThere : MEv yX1_daysUntilThere cX1_daysUntilThere 2 (.some .int) 1 := ⟨List.mem_filter.mpr ⟨List.mem_append_right _ (List.mem_of_getElem? (i := 556) (by decide +kernel)), by decide +kernel⟩, List.mem_filter.mpr ⟨List.mem_append_right _ (List.mem_of_getElem? (i := 13) (by decide +kernel)), by decide +kernel⟩, by decide, by decide, by decide +kernel⟩
theorem mi_X1_daysUntilThere : MIv yX1_daysUntilThere := ⟨List.mem_filter.mpr ⟨List.mem_append_right _ (List.mem_of_getElem? (i := 554) (by decide +kernel)), by decide +kernel⟩, List.mem_filter.mpr ⟨List.mem_append_right _ (List.mem_of_getElem? (i := 555) (by decide +kernel)), by decide +kernel⟩⟩
theorem me_X5_firstThere : MEv yX5_firstThere cX5_firstThere 7 (.some (.object "BookplateHall$Copy")) 1 := ⟨List.mem_filter.mpr ⟨List.mem_append_right _ (List.mem_of_getElem? (i := 562) (by decide +kernel)), by decide +kernel⟩, List.mem_filter.mpr ⟨List.mem_append_right _ (List.mem_of_getElem? (i := 1) (by decide +kernel)), by decide +kernel⟩, by decide, by decide, by decide +kernel⟩
theorem mi_X5_firstThere : MIv yX5_firstThere := ⟨List.mem_filter.mpr ⟨List.mem_append_right _ (List.mem_of_getElem? (i := 561) (by decide +kernel)), by decide +kernel⟩, List.mem_filter.mpr ⟨List.mem_append_left _ (List.mem_of_getElem? (i := 33) (by decide +kernel)), by decide +kernel⟩⟩
theorem me_X5_leave : MEv yX5_leave cX5_leave 5 (.some .int) 2 := ⟨List.mem_filter.mpr ⟨List.mem_append_right _ (List.mem_of_getElem? (i := 566) (by decide +kernel)), by decide +kernel⟩, List.mem_filter.mpr ⟨List.mem_append_right _ (List.mem_of_getElem? (i := 1) (by decide +kernel)), by decide +kernel⟩, by decide, by decide, by decide +kernel⟩
theorem mi_X5_leave : MIv yX5_leave := ⟨List.mem_filter.mpr ⟨List.mem_append_right _ (List.mem_of_getElem? (i := 564) (by decide +kernel)), by decide +kernel⟩, List.mem_filter.mpr ⟨List.mem_append_right _ (List.mem_of_getElem? (i := 565) (by decide +kernel)), by decide +kernel⟩⟩
theorem me_X5_ofRecord : MEv yX5_ofRecord cX5_ofRecord 4 (.some .int) 2 := ⟨List.mem_filter.mpr ⟨List.mem_append_right _ (List.mem_of_getElem? (i := 570) (by decide +kernel)), by decide +kernel⟩, List.mem_filter.mpr ⟨List.mem_append_right _ (List.mem_of_getElem? (i := 1) (by decide +kernel)), by decide +kernel⟩, by decide, by decide, by decide +kernel⟩
theorem mi_X5_ofRecord : MIv yX5_ofRecord := ⟨List.mem_filter.mpr ⟨List.mem_append_right _ (List.mem_of_getElem? (i := 568) (by decide +kernel)), by decide +kernel⟩, List.mem_filter.mpr ⟨List.mem_append_right _ (List.mem_of_getElem? (i := 569) (by decide +kernel)), by decide +kernel⟩⟩
theorem me_X5_lostIn : MEv yX5_lostIn cX5_lostIn 2 (.some .int) 1 := ⟨List.mem_filter.mpr ⟨List.mem_append_right _ (List.mem_of_getElem? (i := 574) (by decide +kernel)), by decide +kernel⟩, List.mem_filter.mpr ⟨List.mem_append_right _ (List.mem_of_getElem? (i := 1) (by decide +kernel)), by decide +kernel⟩, by decide, by decide, by decide +kernel⟩
theorem mi_X5_lostIn : MIv yX5_lostIn := ⟨List.mem_filter.mpr ⟨List.mem_append_right _ (List.mem_of_getElem? (i := 572) (by decide +kernel)), by decide +kernel⟩, List.mem_filter.mpr ⟨List.mem_append_right _ (List.mem_of_getElem? (i := 573) (by decide +kernel)), by decide +kernel⟩⟩
theorem me_X5_pass : MEv yX5_pass cX5_pass 4 (.some .int) 1 := ⟨List.mem_filter.mpr ⟨List.mem_append_right _ (List.mem_of_getElem? (i := 578) (by decide +kernel)), by decide +kernel⟩, List.mem_filter.mpr ⟨List.mem_append_right _ (List.mem_of_getElem? (i := 1) (by decide +kernel)), by decide +kernel⟩, by decide, by decide, by decide +kernel⟩
theorem mi_X5_pass : MIv yX5_pass := ⟨List.mem_filter.mpr ⟨List.mem_append_right _ (List.mem_of_getElem? (i := 576) (by decide +kernel)), by decide +kernel⟩, List.mem_filter.mpr ⟨List.mem_append_right _ (List.mem_of_getElem? (i := 577) (by decide +kernel)), by decide +kernel⟩⟩
theorem me_X5_passOneDay : MEv yX5_passOneDay cX5_passOneDay 6 (.some .int) 0 := ⟨List.mem_filter.mpr ⟨List.mem_append_right _ (List.mem_of_getElem? (i := 582) (by decide +kernel)), by decide +kernel⟩, List.mem_filter.mpr ⟨List.mem_append_right _ (List.mem_of_getElem? (i := 1) (by decide +kernel)), by decide +kernel⟩, by decide, by decide, by decide +kernel⟩
theorem mi_X5_passOneDay : MIv yX5_passOneDay := ⟨List.mem_filter.mpr ⟨List.mem_append_right _ (List.mem_of_getElem? (i := 581) (by decide +kernel)), by decide +kernel⟩, List.mem_filter.mpr ⟨List.mem_append_left _ (List.mem_of_getElem? (i := 34) (by decide +kernel)), by decide +kernel⟩⟩
theorem me_X5_lose : MEv yX5_lose cX5_lose 3 (.none : Option Jvm.ClassFile.FieldType) 1 := ⟨List.mem_filter.mpr ⟨List.mem_append_right _ (List.mem_of_getElem? (i := 586) (by decide +kernel)), by decide +kernel⟩, List.mem_filter.mpr ⟨List.mem_append_right _ (List.mem_of_getElem? (i := 1) (by decide +kernel)), by decide +kernel⟩, by decide, by decide, by decide +kernel⟩
theorem mi_X5_lose : MIv yX5_lose := ⟨List.mem_filter.mpr ⟨List.mem_append_right _ (List.mem_of_getElem? (i := 585) (by decide +kernel)), by decide +kernel⟩, List.mem_filter.mpr ⟨List.mem_append_left _ (List.mem_of_getElem? (i := 35) (by decide +kernel)), by decide +kernel⟩⟩
theorem me_X5_find : MEv yX5_find cX5_find 4 (.some .int) 1 := ⟨List.mem_filter.mpr ⟨List.mem_append_right _ (List.mem_of_getElem? (i := 590) (by decide +kernel)), by decide +kernel⟩, List.mem_filter.mpr ⟨List.mem_append_right _ (List.mem_of_getElem? (i := 1) (by decide +kernel)), by decide +kernel⟩, by decide, by decide, by decide +kernel⟩
theorem mi_X5_find : MIv yX5_find := ⟨List.mem_filter.mpr ⟨List.mem_append_right _ (List.mem_of_getElem? (i := 588) (by decide +kernel)), by decide +kernel⟩, List.mem_filter.mpr ⟨List.mem_append_right _ (List.mem_of_getElem? (i := 589) (by decide +kernel)), by decide +kernel⟩⟩
theorem me_X5_pay : MEv yX5_pay cX5_pay 4 (.some .int) 2 := ⟨List.mem_filter.mpr ⟨List.mem_append_right _ (List.mem_of_getElem? (i := 596) (by decide +kernel)), by decide +kernel⟩, List.mem_filter.mpr ⟨List.mem_append_right _ (List.mem_of_getElem? (i := 1) (by decide +kernel)), by decide +kernel⟩, by decide, by decide, by decide +kernel⟩
theorem mi_X5_pay : MIv yX5_pay := ⟨List.mem_filter.mpr ⟨List.mem_append_right _ (List.mem_of_getElem? (i := 594) (by decide +kernel)), by decide +kernel⟩, List.mem_filter.mpr ⟨List.mem_append_right _ (List.mem_of_getElem? (i := 595) (by decide +kernel)), by decide +kernel⟩⟩
theorem me_X5_ofReader : MEv yX5_ofReader cX5_ofReader 4 (.some .int) 2 := ⟨List.mem_filter.mpr ⟨List.mem_append_right _ (List.mem_of_getElem? (i := 600) (by decide +kernel)), by decide +kernel⟩, List.mem_filter.mpr ⟨List.mem_append_right _ (List.mem_of_getElem? (i := 1) (by decide +kernel)), by decide +kernel⟩, by decide, by decide, by decide +kernel⟩
theorem mi_X5_ofReader : MIv yX5_ofReader := ⟨List.mem_filter.mpr ⟨List.mem_append_right _ (List.mem_of_getElem? (i := 598) (by decide +kernel)), by decide +kernel⟩, List.mem_filter.mpr ⟨List.mem_append_right _ (List.mem_of_getElem? (i := 599) (by decide +kernel)), by decide +kernel⟩⟩
theorem me_X5_lay : MEv yX5_lay cX5_lay 5 (.some .int) 2 := ⟨List.mem_filter.mpr ⟨List.mem_append_right _ (List.mem_of_getElem? (i := 604) (by decide +kernel)), by decide +kernel⟩, List.mem_filter.mpr ⟨List.mem_append_right _ (List.mem_of_getElem? (i := 1) (by decide +kernel)), by decide +kernel⟩, by decide, by decide, by decide +kernel⟩
theorem mi_X5_lay : MIv yX5_lay := ⟨List.mem_filter.mpr ⟨List.mem_append_right _ (List.mem_of_getElem? (i := 602) (by decide +kernel)), by decide +kernel⟩, List.mem_filter.mpr ⟨List.mem_append_right _ (List.mem_of_getElem? (i := 603) (by decide +kernel)), by decide +kernel⟩⟩
theorem me_X5_moveCopies : MEv yX5_moveCopies cX5_moveCopies 7 (.none : Option Jvm.ClassFile.FieldType) 2 := ⟨List.mem_filter.mpr ⟨List.mem_append_right _ (List.mem_of_getElem? (i := 609) (by decide +kernel)), by decide +kernel⟩, List.mem_filter.mpr ⟨List.mem_append_right _ (List.mem_of_getElem? (i := 1) (by decide +kernel)), by decide +kernel⟩, by decide, by decide, by decide +kernel⟩
theorem mi_X5_moveCopies : MIv yX5_moveCopies := ⟨List.mem_filter.mpr ⟨List.mem_append_right _ (List.mem_of_getElem? (i := 608) (by decide +kernel)), by decide +kernel⟩, List.mem_filter.mpr ⟨List.mem_append_left _ (List.mem_of_getElem? (i := 36) (by decide +kernel)), by decide +kernel⟩⟩
theorem me_X5_moveWaiters : MEv yX5_moveWaiters cX5_moveWaiters 7 (.none : Option Jvm.ClassFile.FieldType) 2 := ⟨List.mem_filter.mpr ⟨List.mem_append_right _ (List.mem_of_getElem? (i := 613) (by decide +kernel)), by decide +kernel⟩, List.mem_filter.mpr ⟨List.mem_append_right _ (List.mem_of_getElem? (i := 1) (by decide +kernel)), by decide +kernel⟩, by decide, by decide, by decide +kernel⟩
theorem mi_X5_moveWaiters : MIv yX5_moveWaiters := ⟨List.mem_filter.mpr ⟨List.mem_append_right _ (List.mem_of_getElem? (i := 612) (by decide +kernel)), by decide +kernel⟩, List.mem_filter.mpr ⟨List.mem_append_left _ (List.mem_of_getElem? (i := 37) (by decide +kernel)), by decide +kernel⟩⟩
theorem me_X4_clear : MEv yX4_clear cX4_clear 2 (.none : Option Jvm.ClassFile.FieldType) 0 := ⟨List.mem_filter.mpr ⟨List.mem_append_right _ (List.mem_of_getElem? (i := 617) (by decide +kernel)), by decide +kernel⟩, List.mem_filter.mpr ⟨List.mem_append_right _ (List.mem_of_getElem? (i := 11) (by decide +kernel)), by decide +kernel⟩, by decide, by decide, by decide +kernel⟩
theorem mi_X4_clear : MIv yX4_clear := ⟨List.mem_filter.mpr ⟨List.mem_append_right _ (List.mem_of_getElem? (i := 615) (by decide +kernel)), by decide +kernel⟩, List.mem_filter.mpr ⟨List.mem_append_right _ (List.mem_of_getElem? (i := 616) (by decide +kernel)), by decide +kernel⟩⟩
theorem me_X5_freeThoseWronglyAside : MEv yX5_freeThoseWronglyAside cX5_freeThoseWronglyAside 5 (.none : Option Jvm.ClassFile.FieldType) 0 := ⟨List.mem_filter.mpr ⟨List.mem_append_right _ (List.mem_of_getElem? (i := 621) (by decide +kernel)), by decide +kernel⟩, List.mem_filter.mpr ⟨List.mem_append_right _ (List.mem_of_getElem? (i := 1) (by decide +kernel)), by decide +kernel⟩, by decide, by decide, by decide +kernel⟩
theorem mi_X5_freeThoseWronglyAside : MIv yX5_freeThoseWronglyAside := ⟨List.mem_filter.mpr ⟨List.mem_append_right _ (List.mem_of_getElem? (i := 620) (by decide +kernel)), by decide +kernel⟩, List.mem_filter.mpr ⟨List.mem_append_left _ (List.mem_of_getElem? (i := 38) (by decide +kernel)), by decide +kernel⟩⟩
theorem me_X5_isRightlyAside : MEv yX5_isRightlyAside cX5_isRightlyAside 2 (.some .boolean) 1 := ⟨List.mem_filter.mpr ⟨List.mem_append_right _ (List.mem_of_getElem? (i := 625) (by decide +kernel)), by decide +kernel⟩, List.mem_filter.mpr ⟨List.mem_append_right _ (List.mem_of_getElem? (i := 1) (by decide +kernel)), by decide +kernel⟩, by decide, by decide, by decide +kernel⟩
theorem mi_X5_isRightlyAside : MIv yX5_isRightlyAside := ⟨List.mem_filter.mpr ⟨List.mem_append_right _ (List.mem_of_getElem? (i := 624) (by decide +kernel)), by decide +kernel⟩, List.mem_filter.mpr ⟨List.mem_append_left _ (List.mem_of_getElem? (i := 39) (by decide +kernel)), by decide +kernel⟩⟩
theorem me_X5_freeThoseIn : MEv yX5_freeThoseIn cX5_freeThoseIn 5 (.none : Option Jvm.ClassFile.FieldType) 0 := ⟨List.mem_filter.mpr ⟨List.mem_append_right _ (List.mem_of_getElem? (i := 629) (by decide +kernel)), by decide +kernel⟩, List.mem_filter.mpr ⟨List.mem_append_right _ (List.mem_of_getElem? (i := 1) (by decide +kernel)), by decide +kernel⟩, by decide, by decide, by decide +kernel⟩
theorem mi_X5_freeThoseIn : MIv yX5_freeThoseIn := ⟨List.mem_filter.mpr ⟨List.mem_append_right _ (List.mem_of_getElem? (i := 628) (by decide +kernel)), by decide +kernel⟩, List.mem_filter.mpr ⟨List.mem_append_left _ (List.mem_of_getElem? (i := 40) (by decide +kernel)), by decide +kernel⟩⟩
theorem me_L_areCopiesRight : MEv yL_areCopiesRight cL_areCopiesRight 7 (.some .boolean) 1 := ⟨List.mem_filter.mpr ⟨List.mem_append_right _ (List.mem_of_getElem? (i := 632) (by decide +kernel)), by decide +kernel⟩, List.mem_filter.mpr ⟨List.mem_append_right _ (List.mem_of_getElem? (i := 0) (by decide +kernel)), by decide +kernel⟩, by decide, by decide, by decide +kernel⟩
theorem ms_L_areCopiesRight : Cond.static yL_areCopiesRight ∈ tbW := List.mem_filter.mpr ⟨List.mem_append_right _ (List.mem_of_getElem? (i := 631) (by decide +kernel)), by decide +kernel⟩
theorem me_L_areRecordsRight : MEv yL_areRecordsRight cL_areRecordsRight 8 (.some .boolean) 1 := ⟨List.mem_filter.mpr ⟨List.mem_append_right _ (List.mem_of_getElem? (i := 636) (by decide +kernel)), by decide +kernel⟩, List.mem_filter.mpr ⟨List.mem_append_right _ (List.mem_of_getElem? (i := 0) (by decide +kernel)), by decide +kernel⟩, by decide, by decide, by decide +kernel⟩
theorem ms_L_areRecordsRight : Cond.static yL_areRecordsRight ∈ tbW := List.mem_filter.mpr ⟨List.mem_append_right _ (List.mem_of_getElem? (i := 635) (by decide +kernel)), by decide +kernel⟩
theorem me_X5_waiter : MEv yX5_waiter cX5_waiter 4 (.some .int) 2 := ⟨List.mem_filter.mpr ⟨List.mem_append_right _ (List.mem_of_getElem? (i := 640) (by decide +kernel)), by decide +kernel⟩, List.mem_filter.mpr ⟨List.mem_append_right _ (List.mem_of_getElem? (i := 1) (by decide +kernel)), by decide +kernel⟩, by decide, by decide, by decide +kernel⟩
theorem mi_X5_waiter : MIv yX5_waiter := ⟨List.mem_filter.mpr ⟨List.mem_append_right _ (List.mem_of_getElem? (i := 638) (by decide +kernel)), by decide +kernel⟩, List.mem_filter.mpr ⟨List.mem_append_right _ (List.mem_of_getElem? (i := 639) (by decide +kernel)), by decide +kernel⟩⟩
theorem me_X4_at : MEv yX4_at cX4_at 2 (.some (.object "BookplateHall$Reader")) 1 := ⟨List.mem_filter.mpr ⟨List.mem_append_right _ (List.mem_of_getElem? (i := 644) (by decide +kernel)), by decide +kernel⟩, List.mem_filter.mpr ⟨List.mem_append_right _ (List.mem_of_getElem? (i := 11) (by decide +kernel)), by decide +kernel⟩, by decide, by decide, by decide +kernel⟩
theorem mi_X4_at : MIv yX4_at := ⟨List.mem_filter.mpr ⟨List.mem_append_right _ (List.mem_of_getElem? (i := 642) (by decide +kernel)), by decide +kernel⟩, List.mem_filter.mpr ⟨List.mem_append_right _ (List.mem_of_getElem? (i := 643) (by decide +kernel)), by decide +kernel⟩⟩
theorem me_X5_likeness : MEv yX5_likeness cX5_likeness 3 (.some .int) 2 := ⟨List.mem_filter.mpr ⟨List.mem_append_right _ (List.mem_of_getElem? (i := 649) (by decide +kernel)), by decide +kernel⟩, List.mem_filter.mpr ⟨List.mem_append_right _ (List.mem_of_getElem? (i := 1) (by decide +kernel)), by decide +kernel⟩, by decide, by decide, by decide +kernel⟩
theorem mi_X5_likeness : MIv yX5_likeness := ⟨List.mem_filter.mpr ⟨List.mem_append_right _ (List.mem_of_getElem? (i := 647) (by decide +kernel)), by decide +kernel⟩, List.mem_filter.mpr ⟨List.mem_append_right _ (List.mem_of_getElem? (i := 648) (by decide +kernel)), by decide +kernel⟩⟩
theorem me_X0_likenessTo : MEv yX0_likenessTo cX0_likenessTo 2 (.some .int) 1 := ⟨List.mem_filter.mpr ⟨List.mem_append_right _ (List.mem_of_getElem? (i := 653) (by decide +kernel)), by decide +kernel⟩, List.mem_filter.mpr ⟨List.mem_append_right _ (List.mem_of_getElem? (i := 10) (by decide +kernel)), by decide +kernel⟩, by decide, by decide, by decide +kernel⟩
theorem mi_X0_likenessTo : MIv yX0_likenessTo := ⟨List.mem_filter.mpr ⟨List.mem_append_right _ (List.mem_of_getElem? (i := 651) (by decide +kernel)), by decide +kernel⟩, List.mem_filter.mpr ⟨List.mem_append_right _ (List.mem_of_getElem? (i := 652) (by decide +kernel)), by decide +kernel⟩⟩
theorem me_X0_likenessOfAuthors : MEv yX0_likenessOfAuthors cX0_likenessOfAuthors 3 (.some .int) 1 := ⟨List.mem_filter.mpr ⟨List.mem_append_right _ (List.mem_of_getElem? (i := 657) (by decide +kernel)), by decide +kernel⟩, List.mem_filter.mpr ⟨List.mem_append_right _ (List.mem_of_getElem? (i := 10) (by decide +kernel)), by decide +kernel⟩, by decide, by decide, by decide +kernel⟩
theorem mi_X0_likenessOfAuthors : MIv yX0_likenessOfAuthors := ⟨List.mem_filter.mpr ⟨List.mem_append_right _ (List.mem_of_getElem? (i := 656) (by decide +kernel)), by decide +kernel⟩, List.mem_filter.mpr ⟨List.mem_append_left _ (List.mem_of_getElem? (i := 41) (by decide +kernel)), by decide +kernel⟩⟩
theorem me_X0_isBy : MEv yX0_isBy cX0_isBy 2 (.some .boolean) 1 := ⟨List.mem_filter.mpr ⟨List.mem_append_right _ (List.mem_of_getElem? (i := 661) (by decide +kernel)), by decide +kernel⟩, List.mem_filter.mpr ⟨List.mem_append_right _ (List.mem_of_getElem? (i := 10) (by decide +kernel)), by decide +kernel⟩, by decide, by decide, by decide +kernel⟩
theorem mi_X0_isBy : MIv yX0_isBy := ⟨List.mem_filter.mpr ⟨List.mem_append_right _ (List.mem_of_getElem? (i := 659) (by decide +kernel)), by decide +kernel⟩, List.mem_filter.mpr ⟨List.mem_append_right _ (List.mem_of_getElem? (i := 660) (by decide +kernel)), by decide +kernel⟩⟩
theorem me_X0_likenessOfTitles : MEv yX0_likenessOfTitles cX0_likenessOfTitles 4 (.some .int) 1 := ⟨List.mem_filter.mpr ⟨List.mem_append_right _ (List.mem_of_getElem? (i := 666) (by decide +kernel)), by decide +kernel⟩, List.mem_filter.mpr ⟨List.mem_append_right _ (List.mem_of_getElem? (i := 10) (by decide +kernel)), by decide +kernel⟩, by decide, by decide, by decide +kernel⟩
theorem mi_X0_likenessOfTitles : MIv yX0_likenessOfTitles := ⟨List.mem_filter.mpr ⟨List.mem_append_right _ (List.mem_of_getElem? (i := 665) (by decide +kernel)), by decide +kernel⟩, List.mem_filter.mpr ⟨List.mem_append_left _ (List.mem_of_getElem? (i := 42) (by decide +kernel)), by decide +kernel⟩⟩
theorem me_J6_bitCount_0f7a4 : MEv yJ6_bitCount_0f7a4 cJ6_bitCount_0f7a4 1 (.some .int) 1 := ⟨List.mem_filter.mpr ⟨List.mem_append_right _ (List.mem_of_getElem? (i := 669) (by decide +kernel)), by decide +kernel⟩, List.mem_filter.mpr ⟨List.mem_append_right _ (List.mem_of_getElem? (i := 15) (by decide +kernel)), by decide +kernel⟩, by decide, by decide, by decide +kernel⟩
theorem ms_J6_bitCount_0f7a4 : Cond.static yJ6_bitCount_0f7a4 ∈ tbW := List.mem_filter.mpr ⟨List.mem_append_right _ (List.mem_of_getElem? (i := 668) (by decide +kernel)), by decide +kernel⟩
theorem me_X0_likenessOfYears : MEv yX0_likenessOfYears cX0_likenessOfYears 2 (.some .int) 1 := ⟨List.mem_filter.mpr ⟨List.mem_append_right _ (List.mem_of_getElem? (i := 676) (by decide +kernel)), by decide +kernel⟩, List.mem_filter.mpr ⟨List.mem_append_right _ (List.mem_of_getElem? (i := 10) (by decide +kernel)), by decide +kernel⟩, by decide, by decide, by decide +kernel⟩
theorem mi_X0_likenessOfYears : MIv yX0_likenessOfYears := ⟨List.mem_filter.mpr ⟨List.mem_append_right _ (List.mem_of_getElem? (i := 675) (by decide +kernel)), by decide +kernel⟩, List.mem_filter.mpr ⟨List.mem_append_left _ (List.mem_of_getElem? (i := 43) (by decide +kernel)), by decide +kernel⟩⟩
theorem me_J9_abs_0f7a4 : MEv yJ9_abs_0f7a4 cJ9_abs_0f7a4 1 (.some .int) 1 := ⟨List.mem_filter.mpr ⟨List.mem_append_right _ (List.mem_of_getElem? (i := 679) (by decide +kernel)), by decide +kernel⟩, List.mem_filter.mpr ⟨List.mem_append_right _ (List.mem_of_getElem? (i := 12) (by decide +kernel)), by decide +kernel⟩, by decide, by decide, by decide +kernel⟩
theorem ms_J9_abs_0f7a4 : Cond.static yJ9_abs_0f7a4 ∈ tbW := List.mem_filter.mpr ⟨List.mem_append_right _ (List.mem_of_getElem? (i := 678) (by decide +kernel)), by decide +kernel⟩
theorem me_X5_twin : MEv yX5_twin cX5_twin 10 (.some .int) 2 := ⟨List.mem_filter.mpr ⟨List.mem_append_right _ (List.mem_of_getElem? (i := 684) (by decide +kernel)), by decide +kernel⟩, List.mem_filter.mpr ⟨List.mem_append_right _ (List.mem_of_getElem? (i := 1) (by decide +kernel)), by decide +kernel⟩, by decide, by decide, by decide +kernel⟩
theorem mi_X5_twin : MIv yX5_twin := ⟨List.mem_filter.mpr ⟨List.mem_append_right _ (List.mem_of_getElem? (i := 682) (by decide +kernel)), by decide +kernel⟩, List.mem_filter.mpr ⟨List.mem_append_right _ (List.mem_of_getElem? (i := 683) (by decide +kernel)), by decide +kernel⟩⟩
theorem me_L_areReadersRight : MEv yL_areReadersRight cL_areReadersRight 7 (.some .boolean) 1 := ⟨List.mem_filter.mpr ⟨List.mem_append_right _ (List.mem_of_getElem? (i := 687) (by decide +kernel)), by decide +kernel⟩, List.mem_filter.mpr ⟨List.mem_append_right _ (List.mem_of_getElem? (i := 0) (by decide +kernel)), by decide +kernel⟩, by decide, by decide, by decide +kernel⟩
theorem ms_L_areReadersRight : Cond.static yL_areReadersRight ∈ tbW := List.mem_filter.mpr ⟨List.mem_append_right _ (List.mem_of_getElem? (i := 686) (by decide +kernel)), by decide +kernel⟩
theorem me_X5_mayBorrow : MEv yX5_mayBorrow cX5_mayBorrow 2 (.some .int) 1 := ⟨List.mem_filter.mpr ⟨List.mem_append_right _ (List.mem_of_getElem? (i := 691) (by decide +kernel)), by decide +kernel⟩, List.mem_filter.mpr ⟨List.mem_append_right _ (List.mem_of_getElem? (i := 1) (by decide +kernel)), by decide +kernel⟩, by decide, by decide, by decide +kernel⟩
theorem mi_X5_mayBorrow : MIv yX5_mayBorrow := ⟨List.mem_filter.mpr ⟨List.mem_append_right _ (List.mem_of_getElem? (i := 689) (by decide +kernel)), by decide +kernel⟩, List.mem_filter.mpr ⟨List.mem_append_right _ (List.mem_of_getElem? (i := 690) (by decide +kernel)), by decide +kernel⟩⟩
theorem me_X5_meanWaits : MEv yX5_meanWaits cX5_meanWaits 6 (.some .double) 0 := ⟨List.mem_filter.mpr ⟨List.mem_append_right _ (List.mem_of_getElem? (i := 695) (by decide +kernel)), by decide +kernel⟩, List.mem_filter.mpr ⟨List.mem_append_right _ (List.mem_of_getElem? (i := 1) (by decide +kernel)), by decide +kernel⟩, by decide, by decide, by decide +kernel⟩
theorem mi_X5_meanWaits : MIv yX5_meanWaits := ⟨List.mem_filter.mpr ⟨List.mem_append_right _ (List.mem_of_getElem? (i := 693) (by decide +kernel)), by decide +kernel⟩, List.mem_filter.mpr ⟨List.mem_append_right _ (List.mem_of_getElem? (i := 694) (by decide +kernel)), by decide +kernel⟩⟩
theorem me_J9_abs_294c1 : MEv yJ9_abs_294c1 cJ9_abs_294c1 2 (.some .double) 1 := ⟨List.mem_filter.mpr ⟨List.mem_append_right _ (List.mem_of_getElem? (i := 698) (by decide +kernel)), by decide +kernel⟩, List.mem_filter.mpr ⟨List.mem_append_right _ (List.mem_of_getElem? (i := 12) (by decide +kernel)), by decide +kernel⟩, by decide, by decide, by decide +kernel⟩
theorem ms_J9_abs_294c1 : Cond.static yJ9_abs_294c1 ∈ tbW := List.mem_filter.mpr ⟨List.mem_append_right _ (List.mem_of_getElem? (i := 697) (by decide +kernel)), by decide +kernel⟩
theorem nw_L_9 : NWc RL 9 5 9 [.null, .null, .null, .null, .int 0, .int 0, .int 0, .int 0, .int 0] := ⟨_, _, _, cl5, cl_L_9, List.mem_filter.mpr ⟨List.mem_append_right _ (List.mem_of_getElem? (i := 18) (by decide +kernel)), by decide +kernel⟩, List.mem_filter.mpr ⟨List.mem_append_right _ (List.mem_of_getElem? (i := 1) (by decide +kernel)), by decide +kernel⟩, fun j hj => by match j, hj with | 0, _ => rfl | 1, _ => rfl | 2, _ => rfl | 3, _ => rfl | 4, _ => rfl | 5, _ => rfl | 6, _ => rfl | 7, _ => rfl | 8, _ => rfl⟩
theorem nw_X5_9 : NWc RX5 9 2 2 [.int 0, .null] := ⟨_, _, _, cl2, cl_X5_9, List.mem_filter.mpr ⟨List.mem_append_right _ (List.mem_of_getElem? (i := 133) (by decide +kernel)), by decide +kernel⟩, List.mem_filter.mpr ⟨List.mem_append_right _ (List.mem_of_getElem? (i := 6) (by decide +kernel)), by decide +kernel⟩, fun j hj => by match j, hj with | 0, _ => rfl | 1, _ => rfl⟩
theorem nw_X5_15 : NWc RX5 15 0 7 [.int 0, .null, .int 0, .int 0, .null, .null, .int 0] := ⟨_, _, _, cl0, cl_X5_15, List.mem_filter.mpr ⟨List.mem_append_right _ (List.mem_of_getElem? (i := 194) (by decide +kernel)), by decide +kernel⟩, List.mem_filter.mpr ⟨List.mem_append_right _ (List.mem_of_getElem? (i := 10) (by decide +kernel)), by decide +kernel⟩, fun j hj => by match j, hj with | 0, _ => rfl | 1, _ => rfl | 2, _ => rfl | 3, _ => rfl | 4, _ => rfl | 5, _ => rfl | 6, _ => rfl⟩
theorem nw_X0_9 : NWc RX0 9 4 2 [.null, .int 0] := ⟨_, _, _, cl4, cl_X0_9, List.mem_filter.mpr ⟨List.mem_append_right _ (List.mem_of_getElem? (i := 200) (by decide +kernel)), by decide +kernel⟩, List.mem_filter.mpr ⟨List.mem_append_right _ (List.mem_of_getElem? (i := 11) (by decide +kernel)), by decide +kernel⟩, fun j hj => by match j, hj with | 0, _ => rfl | 1, _ => rfl⟩
theorem nw_X5_27 : NWc RX5 27 3 3 [.int 0, .int 0, .int 0] := ⟨_, _, _, cl3, cl_X5_27, List.mem_filter.mpr ⟨List.mem_append_right _ (List.mem_of_getElem? (i := 248) (by decide +kernel)), by decide +kernel⟩, List.mem_filter.mpr ⟨List.mem_append_right _ (List.mem_of_getElem? (i := 8) (by decide +kernel)), by decide +kernel⟩, fun j hj => by match j, hj with | 0, _ => rfl | 1, _ => rfl | 2, _ => rfl⟩
theorem nw_X4_9 : NWc RX4 9 3 3 [.int 0, .int 0, .int 0] := ⟨_, _, _, cl3, cl_X4_9, List.mem_filter.mpr ⟨List.mem_append_right _ (List.mem_of_getElem? (i := 248) (by decide +kernel)), by decide +kernel⟩, List.mem_filter.mpr ⟨List.mem_append_right _ (List.mem_of_getElem? (i := 8) (by decide +kernel)), by decide +kernel⟩, fun j hj => by match j, hj with | 0, _ => rfl | 1, _ => rfl | 2, _ => rfl⟩
theorem nw_X5_21 : NWc RX5 21 1 8 [.int 0, .int 0, .null, .int 0, .null, .int 0, .int 0, .int 0] := ⟨_, _, _, cl1, cl_X5_21, List.mem_filter.mpr ⟨List.mem_append_right _ (List.mem_of_getElem? (i := 417) (by decide +kernel)), by decide +kernel⟩, List.mem_filter.mpr ⟨List.mem_append_right _ (List.mem_of_getElem? (i := 13) (by decide +kernel)), by decide +kernel⟩, fun j hj => by match j, hj with | 0, _ => rfl | 1, _ => rfl | 2, _ => rfl | 3, _ => rfl | 4, _ => rfl | 5, _ => rfl | 6, _ => rfl | 7, _ => rfl⟩
theorem tw_268_270_272 : TWv RX5 268 270 272 eIO := ⟨rfl, ⟨_, List.mem_of_getElem? (i := 16) rfl⟩, cl_X5_268, List.mem_filter.mpr ⟨List.mem_append_right _ (List.mem_of_getElem? (i := 9) (by decide +kernel)), by decide +kernel⟩, by decide +kernel, by decide +kernel, by decide +kernel⟩
theorem tw_268_319_272 : TWv RX5 268 319 272 eIO := ⟨rfl, ⟨_, List.mem_of_getElem? (i := 1) rfl⟩, cl_X5_268, List.mem_filter.mpr ⟨List.mem_append_right _ (List.mem_of_getElem? (i := 9) (by decide +kernel)), by decide +kernel⟩, by decide +kernel, by decide +kernel, by decide +kernel⟩
theorem tw_268_321_272 : TWv RX5 268 321 272 eIO := ⟨rfl, ⟨_, List.mem_of_getElem? (i := 5) rfl⟩, cl_X5_268, List.mem_filter.mpr ⟨List.mem_append_right _ (List.mem_of_getElem? (i := 9) (by decide +kernel)), by decide +kernel⟩, by decide +kernel, by decide +kernel, by decide +kernel⟩
theorem tw_268_323_272 : TWv RX5 268 323 272 eIO := ⟨rfl, ⟨_, List.mem_of_getElem? (i := 8) rfl⟩, cl_X5_268, List.mem_filter.mpr ⟨List.mem_append_right _ (List.mem_of_getElem? (i := 9) (by decide +kernel)), by decide +kernel⟩, by decide +kernel, by decide +kernel, by decide +kernel⟩
theorem tw_268_325_272 : TWv RX5 268 325 272 eIO := ⟨rfl, ⟨_, List.mem_of_getElem? (i := 7) rfl⟩, cl_X5_268, List.mem_filter.mpr ⟨List.mem_append_right _ (List.mem_of_getElem? (i := 9) (by decide +kernel)), by decide +kernel⟩, by decide +kernel, by decide +kernel, by decide +kernel⟩
theorem tw_327_329_331 : TWv RX5 327 329 331 eIA := ⟨rfl, ⟨_, List.mem_of_getElem? (i := 2) rfl⟩, cl_X5_327, List.mem_filter.mpr ⟨List.mem_append_right _ (List.mem_of_getElem? (i := 7) (by decide +kernel)), by decide +kernel⟩, by decide +kernel, by decide +kernel, by decide +kernel⟩
theorem tw_37_104_41 : TWv RX5 37 104 41 eIS := ⟨rfl, ⟨_, List.mem_of_getElem? (i := 15) rfl⟩, cl_X5_37, List.mem_filter.mpr ⟨List.mem_append_right _ (List.mem_of_getElem? (i := 5) (by decide +kernel)), by decide +kernel⟩, by decide +kernel, by decide +kernel, by decide +kernel⟩
theorem tw_37_139_41 : TWv RX5 37 139 41 eIS := ⟨rfl, ⟨_, List.mem_of_getElem? (i := 6) rfl⟩, cl_X5_37, List.mem_filter.mpr ⟨List.mem_append_right _ (List.mem_of_getElem? (i := 5) (by decide +kernel)), by decide +kernel⟩, by decide +kernel, by decide +kernel, by decide +kernel⟩
theorem tw_37_159_41 : TWv RX5 37 159 41 eIS := ⟨rfl, ⟨_, List.mem_of_getElem? (i := 4) rfl⟩, cl_X5_37, List.mem_filter.mpr ⟨List.mem_append_right _ (List.mem_of_getElem? (i := 5) (by decide +kernel)), by decide +kernel⟩, by decide +kernel, by decide +kernel, by decide +kernel⟩
theorem tw_37_179_41 : TWv RX5 37 179 41 eIS := ⟨rfl, ⟨_, List.mem_of_getElem? (i := 9) rfl⟩, cl_X5_37, List.mem_filter.mpr ⟨List.mem_append_right _ (List.mem_of_getElem? (i := 5) (by decide +kernel)), by decide +kernel⟩, by decide +kernel, by decide +kernel, by decide +kernel⟩
theorem tw_37_210_41 : TWv RX5 37 210 41 eIS := ⟨rfl, ⟨_, List.mem_of_getElem? (i := 10) rfl⟩, cl_X5_37, List.mem_filter.mpr ⟨List.mem_append_right _ (List.mem_of_getElem? (i := 5) (by decide +kernel)), by decide +kernel⟩, by decide +kernel, by decide +kernel, by decide +kernel⟩
theorem tw_37_218_41 : TWv RX5 37 218 41 eIS := ⟨rfl, ⟨_, List.mem_of_getElem? (i := 11) rfl⟩, cl_X5_37, List.mem_filter.mpr ⟨List.mem_append_right _ (List.mem_of_getElem? (i := 5) (by decide +kernel)), by decide +kernel⟩, by decide +kernel, by decide +kernel, by decide +kernel⟩
theorem tw_37_224_41 : TWv RX5 37 224 41 eIS := ⟨rfl, ⟨_, List.mem_of_getElem? (i := 14) rfl⟩, cl_X5_37, List.mem_filter.mpr ⟨List.mem_append_right _ (List.mem_of_getElem? (i := 5) (by decide +kernel)), by decide +kernel⟩, by decide +kernel, by decide +kernel, by decide +kernel⟩
theorem tw_37_249_41 : TWv RX5 37 249 41 eIS := ⟨rfl, ⟨_, List.mem_of_getElem? (i := 12) rfl⟩, cl_X5_37, List.mem_filter.mpr ⟨List.mem_append_right _ (List.mem_of_getElem? (i := 5) (by decide +kernel)), by decide +kernel⟩, by decide +kernel, by decide +kernel, by decide +kernel⟩
theorem tw_37_260_41 : TWv RX5 37 260 41 eIS := ⟨rfl, ⟨_, List.mem_of_getElem? (i := 13) rfl⟩, cl_X5_37, List.mem_filter.mpr ⟨List.mem_append_right _ (List.mem_of_getElem? (i := 5) (by decide +kernel)), by decide +kernel⟩, by decide +kernel, by decide +kernel, by decide +kernel⟩
theorem tw_37_39_41 : TWv RX5 37 39 41 eIS := ⟨rfl, ⟨_, List.mem_of_getElem? (i := 0) rfl⟩, cl_X5_37, List.mem_filter.mpr ⟨List.mem_append_right _ (List.mem_of_getElem? (i := 5) (by decide +kernel)), by decide +kernel⟩, by decide +kernel, by decide +kernel, by decide +kernel⟩
theorem tw_37_78_41 : TWv RX5 37 78 41 eIS := ⟨rfl, ⟨_, List.mem_of_getElem? (i := 3) rfl⟩, cl_X5_37, List.mem_filter.mpr ⟨List.mem_append_right _ (List.mem_of_getElem? (i := 5) (by decide +kernel)), by decide +kernel⟩, by decide +kernel, by decide +kernel, by decide +kernel⟩
end
section
/-! entries, calls that only answer -/
theorem lv0_1 (vs : List Value) (k : Nat) (hc : ∀ v ∈ vs, v.category = 1) : ∀ (b : Nat) (i : Nat) (v : Value), (vs.map some ++ List.replicate k none)[i]? = some (some v) → (b + i, v) ∈ lv_args b vs := by
  induction vs with
  | nil =>
    intro b i v h
    simp only [List.map_nil, List.nil_append] at h
    have := List.getElem?_eq_some_iff.mp h
    obtain ⟨h1, h2⟩ := this
    simp at h2
  | cons a vs ih =>
    intro b i v h
    have ha : a.category = 1 := hc a List.mem_cons_self
    cases i with
    | zero =>
      simp at h
      subst h
      simp [lv_args]
    | succ i =>
      have h2 := ih (fun v hv => hc v (List.mem_cons_of_mem _ hv)) (b + 1) i v (by simpa using h)
      have h3 : b + (i + 1) = b + 1 + i := by omega
      rw [h3]
      simp only [lv_args, ha]
      simp only [List.mem_cons]
      exact Or.inr h2
theorem lg_sl_1 (vs : List Value) (hc : ∀ v ∈ vs, v.category = 1) : (lg_sl vs).length = vs.length := by
  induction vs with
  | nil => rfl
  | cons a vs ih =>
    have ha : a.category = 1 := hc a List.mem_cons_self
    have := ih (fun v hv => hc v (List.mem_cons_of_mem _ hv))
    simp only [lg_sl, List.flatMap_cons, ha] at this ⊢
    simp [this]
section
variable {Z : ZC} {pc : Nat} {lv : List (Option Value)} {st rest : List Value} {h : HP} {k n : Nat} {own : String} {cc : ByteArray} {nL fr lc mc ms : Nat}
variable {nm : String} {ret : Option FieldType} {Qn : Option Value → HP → Prop} {Qx : String → HP → Prop}
theorem Calls_of1 {G : GC} {y : MethodName} {args : List Value} (hy : plainName y.cls = true) (hc : ∀ v ∈ args, v.category = 1) (hlen : args.length ≤ nL) {lv0 : List (Option Value)} (hlv : lv0 = args.map some ++ List.replicate (nL - args.length) none)
    (body : ∀ Z : ZC, Z.1 = G → OKz Z y.cls cc nL fr lc mc ms → EDz Z y.name ret mc ms Qn Qx → NHz Z → V Z 0 lv0 [] h 0 0) : Calls G y cc nL ret fr lc mc ms args h Qn Qx :=
  Calls_of (fr' := 0) (lc' := 0) hy (by rw [lg_sl_1 _ hc]; exact hlen) (fun i v hi => by have := lv0_1 args _ hc 0 i v (by rw [← hlv]; exact hi); rwa [Nat.zero_add] at this) body
/-- answers v, changes nothing, throws nothing -/
def qV (v : Value) (h : HP) : Option Value → HP → Prop := fun r h' => r = some v ∧ h' = h
def qX : String → HP → Prop := fun _ _ => False
theorem V_invVp (hZ : OKz Z own cc nL fr lc mc ms) {idx b a ci : Nat} {y : MethodName} {bytes : ByteArray} {maxL fr' lc' : Nat} {ret' : Option FieldType} {As vs : List Value} {r : vw_C} {v : Value}
    (hm : MEv y bytes maxL ret' a) (hi : MIv y) (hlk0 : Cond.methodLink own idx y ∈ tbW) (hcal : Calls Z.1 y bytes maxL ret' fr' lc' 0 0 (.ref b :: As) h (qV v h) qX)
    (hd : decode cc pc = .ok (.invokevirtual idx, 3)) (hst0 : st = As.reverse ++ .ref b :: rest) (hn : As.length = a) (hc : h b = some (.inr (ci, vs))) (hci : vwCl[ci]? = some r) (hr1 : r.1 = y.cls)
    (hfr : fr' + 1 ≤ fr ∧ 8 + (maxL + 11) + lc' ≤ lc) (hcat : (rest.map fun v => v.category).sum ≤ 8) (hk : k ≤ mc ∧ n ≤ ms)
    (kk : V Z (pc + 3) lv (v :: rest) h k n) : V Z pc lv st h k n := by
  refine V_invV hZ hm hi hlk0 hcal hd hst0 hn hc hci hr1 hfr hcat hk (fun E h' hq => hq.elim) ?_
  rintro _ _ ⟨rfl, rfl⟩
  exact kk
theorem V_invSp (hZ : OKz Z own cc nL fr lc mc ms) {idx a : Nat} {y : MethodName} {bytes : ByteArray} {maxL fr' lc' : Nat} {ret' : Option FieldType} {As : List Value} {v : Value}
    (hm : MEv y bytes maxL ret' a) (hi : Cond.static y ∈ tbW) (hlk0 : Cond.methodLink own idx y ∈ tbW) (hcal : Calls Z.1 y bytes maxL ret' fr' lc' 0 0 As h (qV v h) qX)
    (hd : decode cc pc = .ok (.invokestatic idx, 3)) (hst0 : st = As.reverse ++ rest) (hn : As.length = a)
    (hfr : fr' + 1 ≤ fr ∧ 8 + (maxL + 11) + lc' ≤ lc) (hcat : (rest.map fun v => v.category).sum ≤ 8) (hk : k ≤ mc ∧ n ≤ ms)
    (kk : V Z (pc + 3) lv (v :: rest) h k n) : V Z pc lv st h k n := by
  refine V_invS hZ hm hi hlk0 hcal hd hst0 hn hfr hcat hk (fun E h' hq => hq.elim) ?_
  rintro _ _ ⟨rfl, rfl⟩
  exact kk
theorem Calls.mono {G : GC} {y : MethodName} {args : List Value} {Qn' : Option Value → HP → Prop} {Qx' : String → HP → Prop} (hcal : Calls G y cc nL ret fr lc mc ms args h Qn Qx) (h1 : ∀ v h', Qn v h' → Qn' v h') (h2 : ∀ E h', Qx E h' → Qx' E h') : Calls G y cc nL ret fr lc mc ms args h Qn' Qx' := by
  intro hst
  have hM := hcal hst
  intro p e ha hc hk s m args' below hf happ hP hK
  obtain ⟨kk, o, a1, a2, a3, hQ⟩ := hM p e ha hc hk s m args' below hf happ hP hK
  refine ⟨kk, o, a1, a2, a3, ?_⟩
  rcases hQ with ⟨⟨v, h', b1, b2, b3⟩, b4⟩ | ⟨q, b1, E, ce, L, ⟨h', c1, c2⟩, c3⟩
  · exact Or.inl ⟨⟨v, h', b1, h1 _ _ b2, b3⟩, b4⟩
  · exact Or.inr ⟨q, b1, E, ce, L, ⟨h', h2 _ _ c1, c2⟩, c3⟩
end
theorem nI_inc (c : Nat) : nI c + Int32.ofInt 1 = nI (c + 1) := nI_add c 1
section
variable {Z : ZC} {pc : Nat} {lv lw : List (Option Value)} {st rest : List Value} {h : HP} {k n : Nat} {own : String} {cc : ByteArray} {nL fr lc mc ms : Nat}
theorem V.lvc (hlv : lv = lw) (kk : V Z pc lw st h k n) : V Z pc lv st h k n := by
  rw [hlv]; exact kk
theorem V.stc {st' : List Value} (hst : st = st') (kk : V Z pc lv st' h k n) : V Z pc lv st h k n := by
  rw [hst]; exact kk
theorem V_iincv (hZ : OKz Z own cc nL fr lc mc ms) {j : Nat} {i : Int} {x y : Int32} (hd : decode cc pc = .ok (.iinc j i, 3)) (hl0 : lv[j]? = some (some (.int x))) (hj : j < nL) (ho : okp lv j = true) (hy : x + Int32.ofInt i = y) (kk : V Z (pc + 3) (lv.set j (some (.int y))) st h k n) : V Z pc lv st h k n := by
  subst hy
  exact V_iinc hZ hd hl0 hj ho kk
theorem V_alenR (hZ : OKz Z own cc nL fr lc mc ms) {q N : Nat} {C : String} {f : Nat → Option Nat} (hd : decode cc pc = .ok (.arraylength, 1)) (hc : h q = some (aR C N f)) (kk : V Z (pc + 1) lv (.int (nI N) :: st) h k n) : V Z pc lv (.ref q :: st) h k n := V_alen hZ hd hc kk
theorem V_ifnullR (hZ : OKz Z own cc nL fr lc mc ms) {q : Nat} {off : Int} (hd : decode cc pc = .ok (.ifnull off, 3)) (kk : V Z (pc + 3) lv st h k n) : V Z pc lv (.ref q :: st) h k n := by
  obtain ⟨⟨l, D, lo, b, L, xs⟩, p, e, R, s, m, args, below, meth, c, Q⟩ := Z
  obtain ⟨hx, hb, -⟩ := hZ
  intro H locs ls hR hS hl
  exact lv_ifnull hx hb hd (kk H locs ls hR hS hl)
theorem V_ifnullN (hZ : OKz Z own cc nL fr lc mc ms) {off : Int} {tgt : Nat} (hd : decode cc pc = .ok (.ifnull off, 3)) (ht : (pc : Int) + off = (tgt : Int)) (kk : V Z tgt lv st h k n) : V Z pc lv (.null :: st) h k n := by
  obtain ⟨⟨l, D, lo, b, L, xs⟩, p, e, R, s, m, args, below, meth, c, Q⟩ := Z
  obtain ⟨hx, hb, -⟩ := hZ
  intro H locs ls hR hS hl
  exact lv_ifnullN hx hb hd ht (kk H locs ls hR hS hl)
theorem V_ifnonnullR (hZ : OKz Z own cc nL fr lc mc ms) {q : Nat} {off : Int} {tgt : Nat} (hd : decode cc pc = .ok (.ifnonnull off, 3)) (ht : (pc : Int) + off = (tgt : Int)) (kk : V Z tgt lv st h k n) : V Z pc lv (.ref q :: st) h k n := by
  obtain ⟨⟨l, D, lo, b, L, xs⟩, p, e, R, s, m, args, below, meth, c, Q⟩ := Z
  obtain ⟨hx, hb, -⟩ := hZ
  intro H locs ls hR hS hl
  exact lv_ifnonnull hx hb hd ht (kk H locs ls hR hS hl)
theorem V_ifnonnullN (hZ : OKz Z own cc nL fr lc mc ms) {off : Int} (hd : decode cc pc = .ok (.ifnonnull off, 3)) (kk : V Z (pc + 3) lv st h k n) : V Z pc lv (.null :: st) h k n := by
  obtain ⟨⟨l, D, lo, b, L, xs⟩, p, e, R, s, m, args, below, meth, c, Q⟩ := Z
  obtain ⟨hx, hb, -⟩ := hZ
  intro H locs ls hR hS hl
  exact lv_ifnonnullN hx hb hd (kk H locs ls hR hS hl)
end
end
section
/-! THE STATE of a library, in our words, and the heap that holds it -/
/-- a copy: price, record, place, reader, day, renewed, there -/
abbrev Cp : Type := Int32 × Nat × Int32 × Option Nat × Int32 × Int32 × Int32
/-- a record: author, title, year, into which it went, how often lent -/
abbrev Rc : Type := Option Nat × Int32 × Int32 × Option Nat × Int32
/-- a reader: kind, what it owes -/
abbrev Rd : Type := Int32 × Int32
/-- addresses: the hall; the rows of names, records, copies, readers; then each name, record, line, line's row, copy, reader -/
abbrev Ad : Type := (Nat × Nat × Nat × Nat × Nat) × (Nat → Nat) × (Nat → Nat) × (Nat → Nat) × (Nat → Nat) × (Nat → Nat) × (Nat → Nat)
/-- addresses; numbers of names, records, copies, readers, today; records, lines, copies, readers -/
abbrev St : Type := Ad × (Nat × Nat × Nat × Nat × Int32) × (Nat → Rc) × (Nat → List Nat) × (Nat → Cp) × (Nat → Rd)
abbrev aH (S : St) : Nat := S.1.1.1
abbrev aNs (S : St) : Nat := S.1.1.2.1
abbrev aRs (S : St) : Nat := S.1.1.2.2.1
abbrev aCs (S : St) : Nat := S.1.1.2.2.2.1
abbrev aDs (S : St) : Nat := S.1.1.2.2.2.2
abbrev adN (S : St) : Nat → Nat := S.1.2.1
abbrev adR (S : St) : Nat → Nat := S.1.2.2.1
abbrev adL (S : St) : Nat → Nat := S.1.2.2.2.1
abbrev adQ (S : St) : Nat → Nat := S.1.2.2.2.2.1
abbrev adC (S : St) : Nat → Nat := S.1.2.2.2.2.2.1
abbrev adD (S : St) : Nat → Nat := S.1.2.2.2.2.2.2
abbrev nNm (S : St) : Nat := S.2.1.1
abbrev nRc (S : St) : Nat := S.2.1.2.1
abbrev nCp (S : St) : Nat := S.2.1.2.2.1
abbrev nRd (S : St) : Nat := S.2.1.2.2.2.1
abbrev tdy (S : St) : Int32 := S.2.1.2.2.2.2
abbrev rcs (S : St) : Nat → Rc := S.2.2.1
abbrev lin (S : St) : Nat → List Nat := S.2.2.2.1
abbrev cps (S : St) : Nat → Cp := S.2.2.2.2.1
abbrev rds (S : St) : Nat → Rd := S.2.2.2.2.2
abbrev cpPr (c : Cp) : Int32 := c.1
abbrev cpRc (c : Cp) : Nat := c.2.1
abbrev cpPl (c : Cp) : Int32 := c.2.2.1
abbrev cpRd (c : Cp) : Option Nat := c.2.2.2.1
abbrev cpDy (c : Cp) : Int32 := c.2.2.2.2.1
abbrev cpRn (c : Cp) : Int32 := c.2.2.2.2.2.1
abbrev cpTh (c : Cp) : Int32 := c.2.2.2.2.2.2
abbrev rcAu (r : Rc) : Option Nat := r.1
abbrev rcTi (r : Rc) : Int32 := r.2.1
abbrev rcYe (r : Rc) : Int32 := r.2.2.1
abbrev rcWe (r : Rc) : Option Nat := r.2.2.2.1
abbrev rcLe (r : Rc) : Int32 := r.2.2.2.2
abbrev rdKi (r : Rd) : Int32 := r.1
abbrev rdOw (r : Rd) : Int32 := r.2
/-- the state with other copies, readers, lines, records -/
abbrev sCps (S : St) (c : Nat → Cp) : St := (S.1, S.2.1, S.2.2.1, S.2.2.2.1, c, S.2.2.2.2.2)
abbrev sRds (S : St) (d : Nat → Rd) : St := (S.1, S.2.1, S.2.2.1, S.2.2.2.1, S.2.2.2.2.1, d)
abbrev sLin (S : St) (f : Nat → List Nat) : St := (S.1, S.2.1, S.2.2.1, f, S.2.2.2.2.1, S.2.2.2.2.2)
abbrev sRcs (S : St) (r : Nat → Rc) : St := (S.1, S.2.1, r, S.2.2.2.1, S.2.2.2.2.1, S.2.2.2.2.2)
abbrev sTdy (S : St) (t : Int32) : St := (S.1, (S.2.1.1, S.2.1.2.1, S.2.1.2.2.1, S.2.1.2.2.2.1, t), S.2.2.1, S.2.2.2.1, S.2.2.2.2.1, S.2.2.2.2.2)
abbrev setCp (S : St) (i : Nat) (c : Cp) : St := sCps S (va_up (cps S) i c)
abbrev setRd (S : St) (i : Nat) (d : Rd) : St := sRds S (va_up (rds S) i d)
abbrev setLn (S : St) (i : Nat) (f : List Nat) : St := sLin S (va_up (lin S) i f)
abbrev setRc (S : St) (i : Nat) (r : Rc) : St := sRcs S (va_up (rcs S) i r)
/-- n things at their addresses, null behind -/
def rowf (n : Nat) (f : Nat → Nat) : Nat → Option Nat := fun i => if i < n then some (f i) else none
abbrev lnf (l : List Nat) (f : Nat → Nat) : Nat → Option Nat := fun j => l[j]?.map f
/-- cells -/
abbrev mHall (a1 a2 a3 a4 : Nat) (n1 n2 n3 n4 : Nat) (t : Int32) : ME := .inr (5, [.ref a1, .ref a2, .ref a3, .ref a4, .int (nI n1), .int (nI n2), .int (nI n3), .int (nI n4), .int t])
abbrev mName (i : Nat) : ME := .inr (2, [.int (nI i), .null])
abbrev mRec (i : Nat) (au : Option Nat) (ti ye : Int32) (ln : Nat) (we : Option Nat) (le : Int32) : ME := .inr (0, [.int (nI i), va_rf au, .int ti, .int ye, .ref ln, va_rf we, .int le])
abbrev mLine (q : Nat) (n : Nat) : ME := .inr (4, [.ref q, .int (nI n)])
abbrev mCopy (i : Nat) (pr : Int32) (rc : Nat) (pl : Int32) (rd : Option Nat) (dy rn th : Int32) : ME := .inr (1, [.int (nI i), .int pr, .ref rc, .int pl, va_rf rd, .int dy, .int rn, .int th])
abbrev mRdr (i : Nat) (ki ow : Int32) : ME := .inr (3, [.int (nI i), .int ki, .int ow])
abbrev oHall (S : St) : ME := mHall (aNs S) (aRs S) (aCs S) (aDs S) (nNm S) (nRc S) (nCp S) (nRd S) (tdy S)
abbrev oRec (S : St) (i : Nat) : ME := mRec i ((rcAu (rcs S i)).map (adN S)) (rcTi (rcs S i)) (rcYe (rcs S i)) (adL S i) ((rcWe (rcs S i)).map (adR S)) (rcLe (rcs S i))
abbrev oLine (S : St) (i : Nat) : ME := mLine (adQ S i) (lin S i).length
abbrev oRow (S : St) (i : Nat) : ME := aR RX3 8 (lnf (lin S i) (adD S))
abbrev oCopy (S : St) (i : Nat) : ME := mCopy i (cpPr (cps S i)) (adR S (cpRc (cps S i))) (cpPl (cps S i)) ((cpRd (cps S i)).map (adD S)) (cpDy (cps S i)) (cpRn (cps S i)) (cpTh (cps S i))
abbrev oRdr (S : St) (i : Nat) : ME := mRdr i (rdKi (rds S i)) (rdOw (rds S i))
/-- the heap holds the state -/
def Rep (S : St) (h : HP) : Prop :=
  h (aH S) = some (oHall S) ∧ h (aNs S) = some (aR RX2 16 (rowf (nNm S) (adN S))) ∧ h (aRs S) = some (aR RX0 20 (rowf (nRc S) (adR S))) ∧
  h (aCs S) = some (aR RX1 30 (rowf (nCp S) (adC S))) ∧ h (aDs S) = some (aR RX3 8 (rowf (nRd S) (adD S))) ∧
  (∀ i, i < nNm S → h (adN S i) = some (mName i)) ∧
  (∀ i, i < nRc S → h (adR S i) = some (oRec S i)) ∧ (∀ i, i < nRc S → h (adL S i) = some (oLine S i)) ∧ (∀ i, i < nRc S → h (adQ S i) = some (oRow S i)) ∧
  (∀ i, i < nCp S → h (adC S i) = some (oCopy S i)) ∧
  (∀ i, i < nRd S → h (adD S i) = some (oRdr S i)) ∧
  (∀ i j, i < nRc S → j < nRc S → adQ S i = adQ S j → i = j) ∧ (∀ i, i < nRc S → adQ S i ≠ aDs S)
/-- numbers and references within their bounds -/
def Wf (S : St) : Prop :=
  nNm S ≤ 16 ∧ nRc S ≤ 20 ∧ nCp S ≤ 30 ∧ nRd S ≤ 8 ∧
  (∀ i, i < nRc S → (∀ j, rcAu (rcs S i) = some j → j < nNm S) ∧ (∀ j, rcWe (rcs S i) = some j → j < nRc S)) ∧
  (∀ i, i < nRc S → (lin S i).length ≤ 8 ∧ (∀ x ∈ lin S i, x < nRd S) ∧ (lin S i).Nodup) ∧
  (∀ i, i < nCp S → cpRc (cps S i) < nRc S ∧ (∀ r, cpRd (cps S i) = some r → r < nRd S) ∧ (cpPl (cps S i) = 2 → cpRd (cps S i) ≠ none))
section
variable {S : St} {h : HP}
theorem Rep.hall (R : Rep S h) : h (aH S) = some (oHall S) := R.1
theorem Rep.names (R : Rep S h) : h (aNs S) = some (aR RX2 16 (rowf (nNm S) (adN S))) := R.2.1
theorem Rep.records (R : Rep S h) : h (aRs S) = some (aR RX0 20 (rowf (nRc S) (adR S))) := R.2.2.1
theorem Rep.copies (R : Rep S h) : h (aCs S) = some (aR RX1 30 (rowf (nCp S) (adC S))) := R.2.2.2.1
theorem Rep.readers (R : Rep S h) : h (aDs S) = some (aR RX3 8 (rowf (nRd S) (adD S))) := R.2.2.2.2.1
theorem Rep.name (R : Rep S h) {i : Nat} (hi : i < nNm S) : h (adN S i) = some (mName i) := R.2.2.2.2.2.1 i hi
theorem Rep.rec (R : Rep S h) {i : Nat} (hi : i < nRc S) : h (adR S i) = some (oRec S i) := R.2.2.2.2.2.2.1 i hi
theorem Rep.line (R : Rep S h) {i : Nat} (hi : i < nRc S) : h (adL S i) = some (oLine S i) := R.2.2.2.2.2.2.2.1 i hi
theorem Rep.row (R : Rep S h) {i : Nat} (hi : i < nRc S) : h (adQ S i) = some (oRow S i) := R.2.2.2.2.2.2.2.2.1 i hi
theorem Rep.copy (R : Rep S h) {i : Nat} (hi : i < nCp S) : h (adC S i) = some (oCopy S i) := R.2.2.2.2.2.2.2.2.2.1 i hi
theorem Rep.rdr (R : Rep S h) {i : Nat} (hi : i < nRd S) : h (adD S i) = some (oRdr S i) := R.2.2.2.2.2.2.2.2.2.2.1 i hi
theorem Rep.rowInj (R : Rep S h) {i j : Nat} (hi : i < nRc S) (hj : j < nRc S) (he : adQ S i = adQ S j) : i = j := R.2.2.2.2.2.2.2.2.2.2.2.1 i j hi hj he
theorem Rep.rowNe (R : Rep S h) {i : Nat} (hi : i < nRc S) : adQ S i ≠ aDs S := R.2.2.2.2.2.2.2.2.2.2.2.2 i hi
theorem nI_inj {a b : Nat} (ha : a < 2 ^ 31) (hb : b < 2 ^ 31) (h : nI a = nI b) : a = b := (nI_eq ha hb).mp h
theorem Rep.recInj (R : Rep S h) (W : Wf S) {i j : Nat} (hi : i < nRc S) (hj : j < nRc S) (he : adR S i = adR S j) : i = j := by
  have h1 := R.rec hi
  have h2 := R.rec hj
  rw [he, h2] at h1
  have hb := W.2.1
  simp only [Option.some.injEq, Sum.inr.injEq, Prod.mk.injEq, List.cons.injEq, Value.int.injEq] at h1
  exact nI_inj (by omega) (by omega) h1.2.1.symm
theorem Rep.copyInj (R : Rep S h) (W : Wf S) {i j : Nat} (hi : i < nCp S) (hj : j < nCp S) (he : adC S i = adC S j) : i = j := by
  have h1 := R.copy hi
  have h2 := R.copy hj
  rw [he, h2] at h1
  have hb := W.2.2.1
  simp only [Option.some.injEq, Sum.inr.injEq, Prod.mk.injEq, List.cons.injEq, Value.int.injEq] at h1
  exact nI_inj (by omega) (by omega) h1.2.1.symm
theorem Rep.rdrInj (R : Rep S h) (W : Wf S) {i j : Nat} (hi : i < nRd S) (hj : j < nRd S) (he : adD S i = adD S j) : i = j := by
  have h1 := R.rdr hi
  have h2 := R.rdr hj
  rw [he, h2] at h1
  have hb := W.2.2.2.1
  simp only [Option.some.injEq, Sum.inr.injEq, Prod.mk.injEq, List.cons.injEq, Value.int.injEq] at h1
  exact nI_inj (by omega) (by omega) h1.2.1.symm
theorem Rep.nameInj (R : Rep S h) (W : Wf S) {i j : Nat} (hi : i < nNm S) (hj : j < nNm S) (he : adN S i = adN S j) : i = j := by
  have h1 := R.name hi
  have h2 := R.name hj
  rw [he, h2] at h1
  have hb := W.1
  simp only [Option.some.injEq, Sum.inr.injEq, Prod.mk.injEq, List.cons.injEq, Value.int.injEq] at h1
  exact nI_inj (by omega) (by omega) h1.2.1.symm
theorem Rep.lineInj (R : Rep S h) {i j : Nat} (hi : i < nRc S) (hj : j < nRc S) (he : adL S i = adL S j) : i = j := by
  have h1 := R.line hi
  have h2 := R.line hj
  rw [he, h2] at h1
  simp only [Option.some.injEq, Sum.inr.injEq, Prod.mk.injEq, List.cons.injEq, Value.ref.injEq] at h1
  exact R.rowInj hi hj h1.2.1.symm
end
theorem rowf_lt {n i : Nat} {f : Nat → Nat} (hi : i < n) : va_rf (rowf n f i) = .ref (f i) := by simp [rowf, hi, va_rf]
theorem rowf_ge {n i : Nat} {f : Nat → Nat} (hi : ¬ i < n) : va_rf (rowf n f i) = .null := by simp [rowf, hi, va_rf]
theorem nar_rf (C : String) (o : Option Nat) : narrow (.object C) (va_rf o) = va_rf o := by cases o <;> rfl
theorem fits_rf (C : String) (o : Option Nat) : fits (.object C) (va_rf o) = true := by cases o <;> rfl
end
section
/-! Math's int functions -/
theorem cat_ref (a : Nat) : (Value.ref a).category = 1 := rfl
theorem cat_int (a : Int32) : (Value.int a).category = 1 := rfl
theorem cat_null : (Value.null).category = 1 := rfl
def maxI (x y : Int32) : Int32 := if x < y then y else x
def minI (x y : Int32) : Int32 := if y < x then y else x
def absI (x : Int32) : Int32 := if 0 ≤ x then x else 0 - x
theorem mx_code : Cond.code Lib.Math.max.name Lib.Math.max.code 2 (some .int) ∈ tbW := me_J9_max_7cf53.1
theorem mn_code : Cond.code Lib.Math.min.name Lib.Math.min.code 2 (some .int) ∈ tbW := me_J9_min_7cf53.1
theorem mb_code : Cond.code Lib.Math.abs.name Lib.Math.abs.code 1 (some .int) ∈ tbW := me_J9_abs_0f7a4.1
section
variable {Z : ZC} {pc : Nat} {lv : List (Option Value)} {st : List Value} {h : HP} {k n : Nat} {own : String} {cc : ByteArray} {nL fr lc mc ms : Nat}
theorem V_mmax (hZ : OKz Z own cc nL fr lc mc ms) {idx : Nat} {x y : Int32} (hl0 : Cond.methodLink own idx yJ9_max_7cf53 ∈ tbW) (hd : decode cc pc = .ok (.invokestatic idx, 3)) (hfr : 1 ≤ fr) (hlc : (st.map fun v => v.category).sum + 13 ≤ lc) (hk : k ≤ mc ∧ n ≤ ms) (kk : V Z (pc + 3) lv (.int (maxI x y) :: st) h k n) : V Z pc lv (.int y :: .int x :: st) h k n := by
  obtain ⟨⟨l, D, lo, b, L, xs⟩, p, e, R, s, m, args, below, meth, c, Q⟩ := Z
  obtain ⟨hx, hb, hml, hown, hI, hlk, hst, rfl⟩ := hZ
  have hts := hI.1.use (args := args)
  intro H locs ls hR hS hl
  exact va_mmax hx hb hl.1.symm hown (hts _ hl0) (hts _ ms_J9_max_7cf53) (hts _ me_J9_max_7cf53.2.1) (hts _ mx_code) hfr hlc hk.1 hk.2 hd (kk H locs ls hR hS hl)
theorem V_mmin (hZ : OKz Z own cc nL fr lc mc ms) {idx : Nat} {x y : Int32} (hl0 : Cond.methodLink own idx yJ9_min_7cf53 ∈ tbW) (hd : decode cc pc = .ok (.invokestatic idx, 3)) (hfr : 1 ≤ fr) (hlc : (st.map fun v => v.category).sum + 13 ≤ lc) (hk : k ≤ mc ∧ n ≤ ms) (kk : V Z (pc + 3) lv (.int (minI x y) :: st) h k n) : V Z pc lv (.int y :: .int x :: st) h k n := by
  obtain ⟨⟨l, D, lo, b, L, xs⟩, p, e, R, s, m, args, below, meth, c, Q⟩ := Z
  obtain ⟨hx, hb, hml, hown, hI, hlk, hst, rfl⟩ := hZ
  have hts := hI.1.use (args := args)
  intro H locs ls hR hS hl
  exact va_mmin hx hb hl.1.symm hown (hts _ hl0) (hts _ ms_J9_min_7cf53) (hts _ me_J9_min_7cf53.2.1) (hts _ mn_code) hfr hlc hk.1 hk.2 hd (kk H locs ls hR hS hl)
theorem V_mabs (hZ : OKz Z own cc nL fr lc mc ms) {idx : Nat} {x : Int32} (hl0 : Cond.methodLink own idx yJ9_abs_0f7a4 ∈ tbW) (hd : decode cc pc = .ok (.invokestatic idx, 3)) (hfr : 1 ≤ fr) (hlc : (st.map fun v => v.category).sum + 13 ≤ lc) (hk : k ≤ mc ∧ n ≤ ms) (kk : V Z (pc + 3) lv (.int (absI x) :: st) h k n) : V Z pc lv (.int x :: st) h k n := by
  obtain ⟨⟨l, D, lo, b, L, xs⟩, p, e, R, s, m, args, below, meth, c, Q⟩ := Z
  obtain ⟨hx, hb, hml, hown, hI, hlk, hst, rfl⟩ := hZ
  have hts := hI.1.use (args := args)
  intro H locs ls hR hS hl
  exact va_mabs hx hb hl.1.symm hown (hts _ hl0) (hts _ ms_J9_abs_0f7a4) (hts _ me_J9_abs_0f7a4.2.1) (hts _ mb_code) hfr hlc hk.1 hk.2 hd (kk H locs ls hR hS hl)
end
end
section
/-! leaves: Math, Integer, readers, copies -/
def b01 (p : Prop) [Decidable p] : Int32 := if p then 1 else 0
def ush (x y : Int32) : Int32 := (x.toUInt32 >>> (y.toUInt32 &&& Int32.toUInt32 31)).toInt32
def bcA (x : Int32) : Int32 := x - (ush x 1 &&& 1431655765)
def bcB (x : Int32) : Int32 := (x &&& 858993459) + (ush x 2 &&& 858993459)
def bcC (x : Int32) : Int32 := (x + ush x 4) &&& 252645135
def bcD (x : Int32) : Int32 := x + ush x 8
def bcE (x : Int32) : Int32 := x + ush x 16
def bitC (x : Int32) : Int32 := bcE (bcD (bcC (bcB (bcA x)))) &&& 63
def lateN (pl dy d : Int32) : Int32 := if pl = 1 ∧ dy < d then d - dy else 0
def fineN (pl dy d : Int32) : Int32 := minI 40 (2 * lateN pl dy d)
abbrev lostP (pl dy d : Int32) : Prop := ¬ lateN pl dy d < 30
def moreN (ki : Int32) : Int32 := if ki = 0 then 2 else 4
def daysN (ki : Int32) : Int32 := if ki = 0 then 14 else 28
theorem c_bitCount (G : GC) (h : HP) (x : Int32) : Calls G yJ6_bitCount_0f7a4 cJ6_bitCount_0f7a4 1 (.some .int) 0 0 0 0 [.int x] h (qV (.int (bitC x)) h) qX := by
  refine Calls_of1 (by decide +kernel) (by simp [cat_rf, cat_ref, cat_int, cat_null]) (by simp) (lv0 := [some (.int x)]) rfl ?_
  intro Z hG hZ hE hN
  subst hG
  refine V_iload_n hZ 0 dJ6_bitCount_0f7a4_0 rfl rfl ?_
  refine V_iload_n hZ 0 dJ6_bitCount_0f7a4_1 rfl rfl ?_
  refine V_iconst (v := 1) hZ dJ6_bitCount_0f7a4_2 (by decide) ?_
  refine V_iushr hZ dJ6_bitCount_0f7a4_3 ?_
  refine V_ldcw hZ dJ6_bitCount_0f7a4_4 ct_J6_265 ?_
  refine V_iand hZ dJ6_bitCount_0f7a4_7 ?_
  refine V_isub hZ dJ6_bitCount_0f7a4_8 ?_
  refine V_istore_n hZ 0 rfl dJ6_bitCount_0f7a4_9 (by decide) (by first | rfl | simp [okp, cat_rf, cat_ref, cat_int, cat_null]) ?_
  refine V.lvc (by simp only [List.set_cons_zero, List.set_cons_succ, Nat.reduceAdd]; rfl) ?_
  refine V_iload_n hZ 0 dJ6_bitCount_0f7a4_10 rfl rfl ?_
  refine V_ldcw hZ dJ6_bitCount_0f7a4_11 ct_J6_266 ?_
  refine V_iand hZ dJ6_bitCount_0f7a4_14 ?_
  refine V_iload_n hZ 0 dJ6_bitCount_0f7a4_15 rfl rfl ?_
  refine V_iconst (v := 2) hZ dJ6_bitCount_0f7a4_16 (by decide) ?_
  refine V_iushr hZ dJ6_bitCount_0f7a4_17 ?_
  refine V_ldcw hZ dJ6_bitCount_0f7a4_18 ct_J6_266 ?_
  refine V_iand hZ dJ6_bitCount_0f7a4_21 ?_
  refine V_iadd hZ dJ6_bitCount_0f7a4_22 ?_
  refine V_istore_n hZ 0 rfl dJ6_bitCount_0f7a4_23 (by decide) (by first | rfl | simp [okp, cat_rf, cat_ref, cat_int, cat_null]) ?_
  refine V.lvc (by simp only [List.set_cons_zero, List.set_cons_succ, Nat.reduceAdd]; rfl) ?_
  refine V_iload_n hZ 0 dJ6_bitCount_0f7a4_24 rfl rfl ?_
  refine V_iload_n hZ 0 dJ6_bitCount_0f7a4_25 rfl rfl ?_
  refine V_iconst (v := 4) hZ dJ6_bitCount_0f7a4_26 (by decide) ?_
  refine V_iushr hZ dJ6_bitCount_0f7a4_27 ?_
  refine V_iadd hZ dJ6_bitCount_0f7a4_28 ?_
  refine V_ldcw hZ dJ6_bitCount_0f7a4_29 ct_J6_267 ?_
  refine V_iand hZ dJ6_bitCount_0f7a4_32 ?_
  refine V_istore_n hZ 0 rfl dJ6_bitCount_0f7a4_33 (by decide) (by first | rfl | simp [okp, cat_rf, cat_ref, cat_int, cat_null]) ?_
  refine V.lvc (by simp only [List.set_cons_zero, List.set_cons_succ, Nat.reduceAdd]; rfl) ?_
  refine V_iload_n hZ 0 dJ6_bitCount_0f7a4_34 rfl rfl ?_
  refine V_iload_n hZ 0 dJ6_bitCount_0f7a4_35 rfl rfl ?_
  refine V_bipush (v := 8) hZ dJ6_bitCount_0f7a4_36 (by decide) ?_
  refine V_iushr hZ dJ6_bitCount_0f7a4_38 ?_
  refine V_iadd hZ dJ6_bitCount_0f7a4_39 ?_
  refine V_istore_n hZ 0 rfl dJ6_bitCount_0f7a4_40 (by decide) (by first | rfl | simp [okp, cat_rf, cat_ref, cat_int, cat_null]) ?_
  refine V.lvc (by simp only [List.set_cons_zero, List.set_cons_succ, Nat.reduceAdd]; rfl) ?_
  refine V_iload_n hZ 0 dJ6_bitCount_0f7a4_41 rfl rfl ?_
  refine V_iload_n hZ 0 dJ6_bitCount_0f7a4_42 rfl rfl ?_
  refine V_bipush (v := 16) hZ dJ6_bitCount_0f7a4_43 (by decide) ?_
  refine V_iushr hZ dJ6_bitCount_0f7a4_45 ?_
  refine V_iadd hZ dJ6_bitCount_0f7a4_46 ?_
  refine V_istore_n hZ 0 rfl dJ6_bitCount_0f7a4_47 (by decide) (by first | rfl | simp [okp, cat_rf, cat_ref, cat_int, cat_null]) ?_
  refine V.lvc (by simp only [List.set_cons_zero, List.set_cons_succ, Nat.reduceAdd]; rfl) ?_
  refine V_iload_n hZ 0 dJ6_bitCount_0f7a4_48 rfl rfl ?_
  refine V_bipush (v := 63) hZ dJ6_bitCount_0f7a4_49 (by decide) ?_
  refine V_iand hZ dJ6_bitCount_0f7a4_51 ?_
  refine V_iret hZ hE rfl (by rfl) dJ6_bitCount_0f7a4_52 (by decide) (by decide) ?_
  exact ⟨rfl, rfl⟩
theorem c_mostCopies (G : GC) (h : HP) {q i : Nat} {ki ow : Int32} (hc : h q = some (mRdr i ki ow)) : Calls G yX3_mostCopies cX3_mostCopies 1 (.some .int) 0 0 0 0 [.ref q] h (qV (.int (moreN ki)) h) qX := by
  refine Calls_of1 (by decide +kernel) (by simp [cat_rf, cat_ref, cat_int, cat_null]) (by simp) (lv0 := [some (.ref q)]) rfl ?_
  intro Z hG hZ hE hN
  subst hG
  refine V_aload_n hZ 0 dX3_mostCopies_0 rfl rfl (by first | rfl | exact isR_rf _) ?_
  refine V_getfield hZ fl_X3_13.r dX3_mostCopies_1 (by assumption) (by rfl) ?_
  refine V_if_ne (tgt := 11) hZ dX3_mostCopies_4 (by decide) (fun c1 => ?_) (fun c1 => ?_)
  · refine V_iconst (v := 4) hZ dX3_mostCopies_11 (by decide) ?_
    refine V_iret hZ hE rfl (by rfl) dX3_mostCopies_12 (by decide) (by decide) ?_
    exact ⟨by simp [moreN, c1], rfl⟩
  · refine V_iconst (v := 2) hZ dX3_mostCopies_7 (by decide) ?_
    refine V_goto (tgt := 12) hZ dX3_mostCopies_8 (by decide) ?_
    refine V_iret hZ hE rfl (by rfl) dX3_mostCopies_12 (by decide) (by decide) ?_
    exact ⟨by simp [moreN, c1], rfl⟩
theorem c_daysOfALoan (G : GC) (h : HP) {q i : Nat} {ki ow : Int32} (hc : h q = some (mRdr i ki ow)) : Calls G yX3_daysOfALoan cX3_daysOfALoan 1 (.some .int) 0 0 0 0 [.ref q] h (qV (.int (daysN ki)) h) qX := by
  refine Calls_of1 (by decide +kernel) (by simp [cat_rf, cat_ref, cat_int, cat_null]) (by simp) (lv0 := [some (.ref q)]) rfl ?_
  intro Z hG hZ hE hN
  subst hG
  refine V_aload_n hZ 0 dX3_daysOfALoan_0 rfl rfl (by first | rfl | exact isR_rf _) ?_
  refine V_getfield hZ fl_X3_13.r dX3_daysOfALoan_1 (by assumption) (by rfl) ?_
  refine V_if_ne (tgt := 12) hZ dX3_daysOfALoan_4 (by decide) (fun c1 => ?_) (fun c1 => ?_)
  · refine V_bipush (v := 28) hZ dX3_daysOfALoan_12 (by decide) ?_
    refine V_iret hZ hE rfl (by rfl) dX3_daysOfALoan_14 (by decide) (by decide) ?_
    exact ⟨by simp [daysN, c1], rfl⟩
  · refine V_bipush (v := 14) hZ dX3_daysOfALoan_7 (by decide) ?_
    refine V_goto (tgt := 14) hZ dX3_daysOfALoan_9 (by decide) ?_
    refine V_iret hZ hE rfl (by rfl) dX3_daysOfALoan_14 (by decide) (by decide) ?_
    exact ⟨by simp [daysN, c1], rfl⟩
section
variable (G : GC) (h : HP) {q i rc : Nat} {pr pl dy rn th : Int32} {rd : Option Nat} (hc : h q = some (mCopy i pr rc pl rd dy rn th))
theorem c_isAsideFor (hc : h q = some (mCopy i pr rc pl rd dy rn th)) (o : Option Nat) (r : Nat) : Calls G yX1_isAsideFor cX1_isAsideFor 3 (.some .boolean) 0 0 0 0 [.ref q, va_rf o, .ref r] h (qV (.int (b01 (pl = 2 ∧ rd = o ∧ rc = r))) h) qX := by
  have rfi : ∀ a b : Option Nat, va_rf a = va_rf b ↔ a = b := by intro a b; cases a <;> cases b <;> simp [va_rf]
  refine Calls_of1 (by decide +kernel) (by simp [cat_rf, cat_ref, cat_int, cat_null]) (by simp) (lv0 := [some (.ref q), some (va_rf o), some (.ref r)]) rfl ?_
  intro Z hG hZ hE hN
  subst hG
  refine V_aload_n hZ 0 dX1_isAsideFor_0 rfl rfl (by first | rfl | exact isR_rf _) ?_
  refine V_getfield hZ fl_X1_9.r dX1_isAsideFor_1 (by assumption) (by rfl) ?_
  refine V_iconst (v := 2) hZ dX1_isAsideFor_4 (by decide) ?_
  refine V_icmp_ne (tgt := 28) hZ dX1_isAsideFor_5 (by decide) (fun c1 => ?_) (fun c1 => ?_)
  · refine V_iconst (v := 0) hZ dX1_isAsideFor_28 (by decide) ?_
    refine V_iret hZ hE rfl (by rfl) dX1_isAsideFor_29 (by decide) (by decide) ?_
    exact ⟨by simp [b01, c1], rfl⟩
  · refine V_aload_n hZ 0 dX1_isAsideFor_8 rfl rfl (by first | rfl | exact isR_rf _) ?_
    refine V_getfield hZ fl_X1_28.r dX1_isAsideFor_9 (by assumption) (by rfl) ?_
    refine V_aload_n hZ 1 dX1_isAsideFor_12 rfl rfl (by first | rfl | exact isR_rf _) ?_
    refine V_acmp_ne (tgt := 28) hZ dX1_isAsideFor_13 (by decide) (by first | rfl | exact isR_rf _) (by first | rfl | exact isR_rf _) (fun c2 => ?_) (fun c2 => ?_)
    · refine V_iconst (v := 0) hZ dX1_isAsideFor_28 (by decide) ?_
      refine V_iret hZ hE rfl (by rfl) dX1_isAsideFor_29 (by decide) (by decide) ?_
      rw [rfi] at c2
      exact ⟨by simp [b01, c2], rfl⟩
    · refine V_aload_n hZ 0 dX1_isAsideFor_16 rfl rfl (by first | rfl | exact isR_rf _) ?_
      refine V_getfield hZ fl_X1_21.r dX1_isAsideFor_17 (by assumption) (by rfl) ?_
      refine V_aload_n hZ 2 dX1_isAsideFor_20 rfl rfl (by first | rfl | exact isR_rf _) ?_
      rw [rfi] at c2
      refine V_acmp_ne (tgt := 28) hZ dX1_isAsideFor_21 (by decide) (by first | rfl | exact isR_rf _) (by first | rfl | exact isR_rf _) (fun c3 => ?_) (fun c3 => ?_)
      · refine V_iconst (v := 0) hZ dX1_isAsideFor_28 (by decide) ?_
        refine V_iret hZ hE rfl (by rfl) dX1_isAsideFor_29 (by decide) (by decide) ?_
        have c4 : ¬ rc = r := fun z => c3 (by rw [z])
        exact ⟨by simp [b01, c4], rfl⟩
      · refine V_iconst (v := 1) hZ dX1_isAsideFor_24 (by decide) ?_
        refine V_goto (tgt := 29) hZ dX1_isAsideFor_25 (by decide) ?_
        refine V_iret hZ hE rfl (by rfl) dX1_isAsideFor_29 (by decide) (by decide) ?_
        have c4 : rc = r := by cases c3; rfl
        exact ⟨by simp [b01, c1, c2, c4], rfl⟩
theorem c_daysLateOn (hc : h q = some (mCopy i pr rc pl rd dy rn th)) (d : Int32) : Calls G yX1_daysLateOn cX1_daysLateOn 2 (.some .int) 0 0 0 0 [.ref q, .int d] h (qV (.int (lateN pl dy d)) h) qX := by
  refine Calls_of1 (by decide +kernel) (by simp [cat_rf, cat_ref, cat_int, cat_null]) (by simp) (lv0 := [some (.ref q), some (.int d)]) rfl ?_
  intro Z hG hZ hE hN
  subst hG
  refine V_aload_n hZ 0 dX1_daysLateOn_0 rfl rfl (by first | rfl | exact isR_rf _) ?_
  refine V_getfield hZ fl_X1_9.r dX1_daysLateOn_1 (by assumption) (by rfl) ?_
  refine V_iconst (v := 1) hZ dX1_daysLateOn_4 (by decide) ?_
  refine V_icmp_ne (tgt := 25) hZ dX1_daysLateOn_5 (by decide) (fun c1 => ?_) (fun c1 => ?_)
  · refine V_iconst (v := 0) hZ dX1_daysLateOn_25 (by decide) ?_
    refine V_iret hZ hE rfl (by rfl) dX1_daysLateOn_26 (by decide) (by decide) ?_
    exact ⟨by simp [lateN, c1], rfl⟩
  · refine V_iload_n hZ 1 dX1_daysLateOn_8 rfl rfl ?_
    refine V_aload_n hZ 0 dX1_daysLateOn_9 rfl rfl (by first | rfl | exact isR_rf _) ?_
    refine V_getfield hZ fl_X1_15.r dX1_daysLateOn_10 (by assumption) (by rfl) ?_
    refine V_icmp_le (tgt := 25) hZ dX1_daysLateOn_13 (by decide) (fun c2 => ?_) (fun c2 => ?_)
    · refine V_iconst (v := 0) hZ dX1_daysLateOn_25 (by decide) ?_
      refine V_iret hZ hE rfl (by rfl) dX1_daysLateOn_26 (by decide) (by decide) ?_
      exact ⟨by simp [lateN, Int32.not_lt.mpr c2], rfl⟩
    · refine V_iload_n hZ 1 dX1_daysLateOn_16 rfl rfl ?_
      refine V_aload_n hZ 0 dX1_daysLateOn_17 rfl rfl (by first | rfl | exact isR_rf _) ?_
      refine V_getfield hZ fl_X1_15.r dX1_daysLateOn_18 (by assumption) (by rfl) ?_
      refine V_isub hZ dX1_daysLateOn_21 ?_
      refine V_goto (tgt := 26) hZ dX1_daysLateOn_22 (by decide) ?_
      refine V_iret hZ hE rfl (by rfl) dX1_daysLateOn_26 (by decide) (by decide) ?_
      exact ⟨by simp [lateN, c1, Int32.not_le.mp c2], rfl⟩
theorem c_isLostOn (hc : h q = some (mCopy i pr rc pl rd dy rn th)) (d : Int32) : Calls G yX1_isLostOn cX1_isLostOn 2 (.some .boolean) 1 21 0 0 [.ref q, .int d] h (qV (.int (b01 (lostP pl dy d))) h) qX := by
  refine Calls_of1 (by decide +kernel) (by simp [cat_rf, cat_ref, cat_int, cat_null]) (by simp) (lv0 := [some (.ref q), some (.int d)]) rfl ?_
  intro Z hG hZ hE hN
  subst hG
  refine V_aload_n hZ 0 dX1_isLostOn_0 rfl rfl (by first | rfl | exact isR_rf _) ?_
  refine V_iload_n hZ 1 dX1_isLostOn_1 rfl rfl ?_
  refine V_invVp hZ me_X1_daysLateOn mi_X1_daysLateOn ml_X1_35 (c_daysLateOn Z.1 h hc d) dX1_isLostOn_2 rfl rfl (by assumption) rfl rfl ⟨by decide, by decide⟩ (by first | decide | simp [cat_rf, cat_ref, cat_int, cat_null]) ⟨by decide, by decide⟩ ?_
  refine V_bipush (v := 30) hZ dX1_isLostOn_5 (by decide) ?_
  refine V_icmp_lt (tgt := 14) hZ dX1_isLostOn_7 (by decide) (fun c1 => ?_) (fun c1 => ?_)
  · refine V_iconst (v := 0) hZ dX1_isLostOn_14 (by decide) ?_
    refine V_iret hZ hE rfl (by rfl) dX1_isLostOn_15 (by decide) (by decide) ?_
    exact ⟨by simp [b01, c1], rfl⟩
  · refine V_iconst (v := 1) hZ dX1_isLostOn_10 (by decide) ?_
    refine V_goto (tgt := 15) hZ dX1_isLostOn_11 (by decide) ?_
    refine V_iret hZ hE rfl (by rfl) dX1_isLostOn_15 (by decide) (by decide) ?_
    exact ⟨by simp [b01, c1], rfl⟩
theorem c_fineOn (hc : h q = some (mCopy i pr rc pl rd dy rn th)) (d : Int32) : Calls G yX1_fineOn cX1_fineOn 2 (.some .int) 1 21 0 0 [.ref q, .int d] h (qV (.int (fineN pl dy d)) h) qX := by
  refine Calls_of1 (by decide +kernel) (by simp [cat_rf, cat_ref, cat_int, cat_null]) (by simp) (lv0 := [some (.ref q), some (.int d)]) rfl ?_
  intro Z hG hZ hE hN
  subst hG
  refine V_bipush (v := 40) hZ dX1_fineOn_0 (by decide) ?_
  refine V_iconst (v := 2) hZ dX1_fineOn_2 (by decide) ?_
  refine V_aload_n hZ 0 dX1_fineOn_3 rfl rfl (by first | rfl | exact isR_rf _) ?_
  refine V_iload_n hZ 1 dX1_fineOn_4 rfl rfl ?_
  refine V_invVp hZ me_X1_daysLateOn mi_X1_daysLateOn ml_X1_35 (c_daysLateOn Z.1 h hc d) dX1_fineOn_5 rfl rfl (by assumption) rfl rfl ⟨by decide, by decide⟩ (by first | decide | simp [cat_rf, cat_ref, cat_int, cat_null]) ⟨by decide, by decide⟩ ?_
  refine V_imul hZ dX1_fineOn_8 ?_
  refine V_mmin hZ ml_X1_39 dX1_fineOn_9 (by decide) (by first | decide | simp [cat_rf, cat_ref, cat_int, cat_null]) ⟨by decide, by decide⟩ ?_
  refine V_iret hZ hE rfl (by rfl) dX1_fineOn_12 (by decide) (by decide) ?_
  exact ⟨rfl, rfl⟩
theorem c_feeWhenLost (hc : h q = some (mCopy i pr rc pl rd dy rn th)) : Calls G yX1_feeWhenLost cX1_feeWhenLost 1 (.some .int) 0 0 0 0 [.ref q] h (qV (.int (pr + 40)) h) qX := by
  refine Calls_of1 (by decide +kernel) (by simp [cat_rf, cat_ref, cat_int, cat_null]) (by simp) (lv0 := [some (.ref q)]) rfl ?_
  intro Z hG hZ hE hN
  subst hG
  refine V_aload_n hZ 0 dX1_feeWhenLost_0 rfl rfl (by first | rfl | exact isR_rf _) ?_
  refine V_getfield hZ fl_X1_25.r dX1_feeWhenLost_1 (by assumption) (by rfl) ?_
  refine V_bipush (v := 40) hZ dX1_feeWhenLost_4 (by decide) ?_
  refine V_iadd hZ dX1_feeWhenLost_6 ?_
  refine V_iret hZ hE rfl (by rfl) dX1_feeWhenLost_7 (by decide) (by decide) ?_
  exact ⟨rfl, rfl⟩
/-- in how many days a copy is there -/
def thereN (pl dy t ki : Int32) (rd : Option Nat) : Int32 := if pl = 1 then maxI 0 (dy - t) else if pl = 2 ∧ rd ≠ none then daysN ki else 0
theorem c_daysUntilThere (hc : h q = some (mCopy i pr rc pl rd dy rn th)) (t ki : Int32) (hr : ∀ a, rd = some a → ∃ j ow, h a = some (mRdr j ki ow)) : Calls G yX1_daysUntilThere cX1_daysUntilThere 2 (.some .int) 1 21 0 0 [.ref q, .int t] h (qV (.int (thereN pl dy t ki rd)) h) qX := by
  refine Calls_of1 (by decide +kernel) (by simp [cat_rf, cat_ref, cat_int, cat_null]) (by simp) (lv0 := [some (.ref q), some (.int t)]) rfl ?_
  intro Z hG hZ hE hN
  subst hG
  refine V_aload_n hZ 0 dX1_daysUntilThere_0 rfl rfl (by first | rfl | exact isR_rf _) ?_
  refine V_getfield hZ fl_X1_9.r dX1_daysUntilThere_1 (by assumption) (by rfl) ?_
  refine V_iconst (v := 1) hZ dX1_daysUntilThere_4 (by decide) ?_
  refine V_icmp_ne (tgt := 19) hZ dX1_daysUntilThere_5 (by decide) (fun c1 => ?_) (fun c1 => ?_)
  · refine V_aload_n hZ 0 dX1_daysUntilThere_19 rfl rfl (by first | rfl | exact isR_rf _) ?_
    refine V_getfield hZ fl_X1_9.r dX1_daysUntilThere_20 (by assumption) (by rfl) ?_
    refine V_iconst (v := 2) hZ dX1_daysUntilThere_23 (by decide) ?_
    refine V_icmp_ne (tgt := 44) hZ dX1_daysUntilThere_24 (by decide) (fun c2 => ?_) (fun c2 => ?_)
    · refine V_iconst (v := 0) hZ dX1_daysUntilThere_44 (by decide) ?_
      refine V_iret hZ hE rfl (by rfl) dX1_daysUntilThere_45 (by decide) (by decide) ?_
      exact ⟨by simp [thereN, c1, c2], rfl⟩
    · refine V_aload_n hZ 0 dX1_daysUntilThere_27 rfl rfl (by first | rfl | exact isR_rf _) ?_
      refine V_getfield hZ fl_X1_28.r dX1_daysUntilThere_28 (by assumption) (by rfl) ?_
      cases rd with
      | none =>
        refine V_ifnullN (tgt := 44) hZ dX1_daysUntilThere_31 (by decide) ?_
        refine V_iconst (v := 0) hZ dX1_daysUntilThere_44 (by decide) ?_
        refine V_iret hZ hE rfl (by rfl) dX1_daysUntilThere_45 (by decide) (by decide) ?_
        exact ⟨by simp [thereN, c1, c2], rfl⟩
      | some a =>
        refine V_ifnullR hZ dX1_daysUntilThere_31 ?_
        refine V_aload_n hZ 0 dX1_daysUntilThere_34 rfl rfl (by first | rfl | exact isR_rf _) ?_
        refine V_getfield hZ fl_X1_28.r dX1_daysUntilThere_35 (by assumption) (by rfl) ?_
        obtain ⟨j, ow, ha⟩ := hr a rfl
        refine V_invVp hZ me_X3_daysOfALoan mi_X3_daysOfALoan ml_X1_48 (c_daysOfALoan Z.1 h ha) dX1_daysUntilThere_38 rfl rfl (by assumption) rfl rfl ⟨by decide, by decide⟩ (by first | decide | simp [cat_rf, cat_ref, cat_int, cat_null]) ⟨by decide, by decide⟩ ?_
        refine V_goto (tgt := 45) hZ dX1_daysUntilThere_41 (by decide) ?_
        refine V_iret hZ hE rfl (by rfl) dX1_daysUntilThere_45 (by decide) (by decide) ?_
        exact ⟨by simp [thereN, c2], rfl⟩
  · refine V_iconst (v := 0) hZ dX1_daysUntilThere_8 (by decide) ?_
    refine V_aload_n hZ 0 dX1_daysUntilThere_9 rfl rfl (by first | rfl | exact isR_rf _) ?_
    refine V_getfield hZ fl_X1_15.r dX1_daysUntilThere_10 (by assumption) (by rfl) ?_
    refine V_iload_n hZ 1 dX1_daysUntilThere_13 rfl rfl ?_
    refine V_isub hZ dX1_daysUntilThere_14 ?_
    refine V_mmax hZ ml_X1_45 dX1_daysUntilThere_15 (by decide) (by first | decide | simp [cat_rf, cat_ref, cat_int, cat_null]) ⟨by decide, by decide⟩ ?_
    refine V_iret hZ hE rfl (by rfl) dX1_daysUntilThere_18 (by decide) (by decide) ?_
    exact ⟨by simp [thereN, c1], rfl⟩
end
end
section
/-! names and records -/
theorem c_stoodFor (G : GC) (h : HP) {q i : Nat} (hc : h q = some (mName i)) : Calls G yX2_stoodFor cX2_stoodFor 3 (.some (.object "BookplateHall$Name")) 0 0 0 0 [.ref q] h (qV (.ref q) h) qX := by
  refine Calls_of1 (by decide +kernel) (by simp [cat_rf, cat_ref, cat_int, cat_null]) (by simp) (lv0 := [some (.ref q), none, none]) rfl ?_
  intro Z hG hZ hE hN
  subst hG
  refine V_aload_n hZ 0 dX2_stoodFor_0 rfl rfl (by first | rfl | exact isR_rf _) ?_
  refine V_astore_n hZ 1 rfl dX2_stoodFor_1 (by first | rfl | exact isR_rf _) (by decide) (by first | rfl | simp [okp, cat_rf, cat_ref, cat_int, cat_null]) ?_
  refine V.lvc (by simp only [List.set_cons_zero, List.set_cons_succ, Nat.reduceAdd]; rfl) ?_
  refine V_iconst (v := 0) hZ dX2_stoodFor_2 (by decide) ?_
  refine V_istore_n hZ 2 rfl dX2_stoodFor_3 (by decide) (by first | rfl | simp [okp, cat_rf, cat_ref, cat_int, cat_null]) ?_
  refine V.lvc (by simp only [List.set_cons_zero, List.set_cons_succ, Nat.reduceAdd]; rfl) ?_
  refine V_iload_n hZ 2 dX2_stoodFor_4 rfl rfl ?_
  refine V_bipush (v := 16) hZ dX2_stoodFor_5 (by decide) ?_
  refine V_icmp_ge (tgt := 28) hZ dX2_stoodFor_7 (by decide) (fun c1 => ?_) (fun c1 => ?_)
  · exact absurd c1 (by decide)
  · refine V_aload_n hZ 1 dX2_stoodFor_10 rfl rfl (by first | rfl | exact isR_rf _) ?_
    refine V_getfield hZ fl_X2_15.r dX2_stoodFor_11 (by assumption) (by rfl) ?_
    refine V_ifnullN (tgt := 28) hZ dX2_stoodFor_14 (by decide) ?_
    refine V_aload_n hZ 1 dX2_stoodFor_28 rfl rfl (by first | rfl | exact isR_rf _) ?_
    refine V_aret hZ hE rfl (by first | rfl | exact isR_rf _) dX2_stoodFor_29 (by decide) (by decide) ?_
    exact ⟨rfl, rfl⟩
theorem c_isLive (G : GC) (h : HP) {q i ln : Nat} {au we : Option Nat} {ti ye le : Int32} (hc : h q = some (mRec i au ti ye ln we le)) : Calls G yX0_isLive cX0_isLive 1 (.some .boolean) 0 0 0 0 [.ref q] h (qV (.int (b01 (we = none))) h) qX := by
  refine Calls_of1 (by decide +kernel) (by simp [cat_rf, cat_ref, cat_int, cat_null]) (by simp) (lv0 := [some (.ref q)]) rfl ?_
  intro Z hG hZ hE hN
  subst hG
  refine V_aload_n hZ 0 dX0_isLive_0 rfl rfl (by first | rfl | exact isR_rf _) ?_
  refine V_getfield hZ fl_X0_32.r dX0_isLive_1 (by assumption) (by rfl) ?_
  cases we with
  | none =>
    refine V_ifnonnullN hZ dX0_isLive_4 ?_
    refine V_iconst (v := 1) hZ dX0_isLive_7 (by decide) ?_
    refine V_goto (tgt := 12) hZ dX0_isLive_8 (by decide) ?_
    refine V_iret hZ hE rfl (by rfl) dX0_isLive_12 (by decide) (by decide) ?_
    exact ⟨by simp [b01], rfl⟩
  | some a =>
    refine V_ifnonnullR (tgt := 11) hZ dX0_isLive_4 (by decide) ?_
    refine V_iconst (v := 0) hZ dX0_isLive_11 (by decide) ?_
    refine V_iret hZ hE rfl (by rfl) dX0_isLive_12 (by decide) (by decide) ?_
    exact ⟨by simp [b01], rfl⟩
theorem c_isBy (G : GC) (h : HP) {q i ln : Nat} {au we : Option Nat} {ti ye le : Int32} (hc : h q = some (mRec i au ti ye ln we le)) (o : Option Nat) (ha : ∀ x, au = some x → ∃ j, h x = some (mName j)) (ho : ∀ x, o = some x → ∃ j, h x = some (mName j)) : Calls G yX0_isBy cX0_isBy 2 (.some .boolean) 1 22 0 0 [.ref q, va_rf o] h (qV (.int (b01 (au ≠ none ∧ au = o))) h) qX := by
  refine Calls_of1 (by decide +kernel) (by simp [cat_rf, cat_ref, cat_int, cat_null]) (by simp) (lv0 := [some (.ref q), some (va_rf o)]) rfl ?_
  intro Z hG hZ hE hN
  subst hG
  refine V_aload_n hZ 0 dX0_isBy_0 rfl rfl (by first | rfl | exact isR_rf _) ?_
  refine V_getfield hZ fl_X0_22.r dX0_isBy_1 (by assumption) (by rfl) ?_
  cases au with
  | none =>
    refine V_ifnullN (tgt := 29) hZ dX0_isBy_4 (by decide) ?_
    refine V_iconst (v := 0) hZ dX0_isBy_29 (by decide) ?_
    refine V_iret hZ hE rfl (by rfl) dX0_isBy_30 (by decide) (by decide) ?_
    exact ⟨by simp [b01], rfl⟩
  | some x =>
    obtain ⟨j, hx⟩ := ha x rfl
    refine V_ifnullR hZ dX0_isBy_4 ?_
    refine V_aload_n hZ 1 dX0_isBy_7 rfl rfl (by first | rfl | exact isR_rf _) ?_
    cases o with
    | none =>
      refine V_ifnullN (tgt := 29) hZ dX0_isBy_8 (by decide) ?_
      refine V_iconst (v := 0) hZ dX0_isBy_29 (by decide) ?_
      refine V_iret hZ hE rfl (by rfl) dX0_isBy_30 (by decide) (by decide) ?_
      exact ⟨by simp [b01], rfl⟩
    | some y =>
      obtain ⟨j', hy⟩ := ho y rfl
      refine V_ifnullR hZ dX0_isBy_8 ?_
      refine V_aload_n hZ 0 dX0_isBy_11 rfl rfl (by first | rfl | exact isR_rf _) ?_
      refine V_getfield hZ fl_X0_22.r dX0_isBy_12 (by assumption) (by rfl) ?_
      refine V_invVp hZ me_X2_stoodFor mi_X2_stoodFor ml_X0_36 (c_stoodFor Z.1 h hx) dX0_isBy_15 rfl rfl (by assumption) rfl rfl ⟨by decide, by decide⟩ (by first | decide | simp [cat_rf, cat_ref, cat_int, cat_null]) ⟨by decide, by decide⟩ ?_
      refine V_aload_n hZ 1 dX0_isBy_18 rfl rfl (by first | rfl | exact isR_rf _) ?_
      refine V_invVp hZ me_X2_stoodFor mi_X2_stoodFor ml_X0_36 (c_stoodFor Z.1 h hy) dX0_isBy_19 rfl rfl (by assumption) rfl rfl ⟨by decide, by decide⟩ (by first | decide | simp [cat_rf, cat_ref, cat_int, cat_null]) ⟨by decide, by decide⟩ ?_
      refine V_acmp_ne (tgt := 29) hZ dX0_isBy_22 (by decide) (by first | rfl | exact isR_rf _) (by first | rfl | exact isR_rf _) (fun c1 => ?_) (fun c1 => ?_)
      · refine V_iconst (v := 0) hZ dX0_isBy_29 (by decide) ?_
        refine V_iret hZ hE rfl (by rfl) dX0_isBy_30 (by decide) (by decide) ?_
        have c2 : ¬ x = y := fun z => c1 (by rw [z])
        exact ⟨by simp [b01, c2], rfl⟩
      · refine V_iconst (v := 1) hZ dX0_isBy_25 (by decide) ?_
        refine V_goto (tgt := 30) hZ dX0_isBy_26 (by decide) ?_
        refine V_iret hZ hE rfl (by rfl) dX0_isBy_30 (by decide) (by decide) ?_
        have c2 : x = y := by cases c1; rfl
        exact ⟨by simp [b01, c2], rfl⟩
def likeA (a b : Option Nat) : Int32 := if a = b then 30 else 0
def likeT (t u : Int32) : Int32 := if bitC (t ||| u) = 0 then 0 else 50 * bitC (t &&& u) / bitC (t ||| u)
def likeY (y z : Int32) : Int32 := maxI 0 (20 - 4 * absI (y - z))
def likeN (a : Option Nat) (t y : Int32) (a' : Option Nat) (t' y' : Int32) : Int32 := likeA a a' + likeT t t' + likeY y y'
section
variable (G : GC) (h : HP) {q i ln q' i' ln' : Nat} {au we au' we' : Option Nat} {ti ye le ti' ye' le' : Int32}
theorem c_likenessOfAuthors (hc : h q = some (mRec i au ti ye ln we le)) (hc' : h q' = some (mRec i' au' ti' ye' ln' we' le')) (ha : ∀ x, au = some x → ∃ j, h x = some (mName j)) (ho : ∀ x, au' = some x → ∃ j, h x = some (mName j)) : Calls G yX0_likenessOfAuthors cX0_likenessOfAuthors 3 (.some .int) 2 43 0 0 [.ref q, .ref q'] h (qV (.int (likeA au au')) h) qX := by
  refine Calls_of1 (by decide +kernel) (by simp [cat_rf, cat_ref, cat_int, cat_null]) (by simp) (lv0 := [some (.ref q), some (.ref q'), none]) rfl ?_
  intro Z hG hZ hE hN
  subst hG
  refine V_aload_n hZ 0 dX0_likenessOfAuthors_0 rfl rfl (by first | rfl | exact isR_rf _) ?_
  refine V_getfield hZ fl_X0_22.r dX0_likenessOfAuthors_1 (by assumption) (by rfl) ?_
  cases au with
  | none =>
    refine V_ifnonnullN hZ dX0_likenessOfAuthors_4 ?_
    refine V_aload_n hZ 1 dX0_likenessOfAuthors_7 rfl rfl (by first | rfl | exact isR_rf _) ?_
    refine V_getfield hZ fl_X0_22.r dX0_likenessOfAuthors_8 (by assumption) (by rfl) ?_
    cases au' with
    | none =>
      refine V_ifnonnullN hZ dX0_likenessOfAuthors_11 ?_
      refine V_iconst (v := 1) hZ dX0_likenessOfAuthors_14 (by decide) ?_
      refine V_goto (tgt := 19) hZ dX0_likenessOfAuthors_15 (by decide) ?_
      refine V_istore_n hZ 2 rfl dX0_likenessOfAuthors_19 (by decide) (by first | rfl | simp [okp, cat_rf, cat_ref, cat_int, cat_null]) ?_
      refine V.lvc (by simp only [List.set_cons_zero, List.set_cons_succ, Nat.reduceAdd]; rfl) ?_
      refine V_iload_n hZ 2 dX0_likenessOfAuthors_20 rfl rfl ?_
      refine V_if_ne (tgt := 35) hZ dX0_likenessOfAuthors_21 (by decide) (fun c1 => ?_) (fun c1 => ?_)
      · refine V_bipush (v := 30) hZ dX0_likenessOfAuthors_35 (by decide) ?_
        refine V_goto (tgt := 41) hZ dX0_likenessOfAuthors_37 (by decide) ?_
        refine V_iret hZ hE rfl (by rfl) dX0_likenessOfAuthors_41 (by decide) (by decide) ?_
        exact ⟨by simp [likeA], rfl⟩
      · exact absurd c1 (by decide)
    | some y =>
      refine V_ifnonnullR (tgt := 18) hZ dX0_likenessOfAuthors_11 (by decide) ?_
      refine V_iconst (v := 0) hZ dX0_likenessOfAuthors_18 (by decide) ?_
      refine V_istore_n hZ 2 rfl dX0_likenessOfAuthors_19 (by decide) (by first | rfl | simp [okp, cat_rf, cat_ref, cat_int, cat_null]) ?_
      refine V.lvc (by simp only [List.set_cons_zero, List.set_cons_succ, Nat.reduceAdd]; rfl) ?_
      refine V_iload_n hZ 2 dX0_likenessOfAuthors_20 rfl rfl ?_
      refine V_if_ne (tgt := 35) hZ dX0_likenessOfAuthors_21 (by decide) (fun c1 => ?_) (fun c1 => ?_)
      · exact absurd rfl c1
      · refine V_aload_n hZ 0 dX0_likenessOfAuthors_24 rfl rfl (by first | rfl | exact isR_rf _) ?_
        refine V_aload_n hZ 1 dX0_likenessOfAuthors_25 rfl rfl (by first | rfl | exact isR_rf _) ?_
        refine V_getfield hZ fl_X0_22.r dX0_likenessOfAuthors_26 (by assumption) (by rfl) ?_
        refine V_invVp hZ me_X0_isBy mi_X0_isBy ml_X0_52 (c_isBy Z.1 h hc (some y) ha ho) dX0_likenessOfAuthors_29 rfl rfl (by assumption) rfl rfl ⟨by decide, by decide⟩ (by first | decide | simp [cat_rf, cat_ref, cat_int, cat_null]) ⟨by decide, by decide⟩ ?_
        refine V_if_eq (tgt := 40) hZ dX0_likenessOfAuthors_32 (by decide) (fun c2 => ?_) (fun c2 => ?_)
        · refine V_iconst (v := 0) hZ dX0_likenessOfAuthors_40 (by decide) ?_
          refine V_iret hZ hE rfl (by rfl) dX0_likenessOfAuthors_41 (by decide) (by decide) ?_
          exact ⟨by simp [likeA], rfl⟩
        · exact absurd (by simp [b01]) c2
  | some x =>
    refine V_ifnonnullR (tgt := 18) hZ dX0_likenessOfAuthors_4 (by decide) ?_
    refine V_iconst (v := 0) hZ dX0_likenessOfAuthors_18 (by decide) ?_
    refine V_istore_n hZ 2 rfl dX0_likenessOfAuthors_19 (by decide) (by first | rfl | simp [okp, cat_rf, cat_ref, cat_int, cat_null]) ?_
    refine V.lvc (by simp only [List.set_cons_zero, List.set_cons_succ, Nat.reduceAdd]; rfl) ?_
    refine V_iload_n hZ 2 dX0_likenessOfAuthors_20 rfl rfl ?_
    refine V_if_ne (tgt := 35) hZ dX0_likenessOfAuthors_21 (by decide) (fun c1 => ?_) (fun c1 => ?_)
    · exact absurd rfl c1
    · refine V_aload_n hZ 0 dX0_likenessOfAuthors_24 rfl rfl (by first | rfl | exact isR_rf _) ?_
      refine V_aload_n hZ 1 dX0_likenessOfAuthors_25 rfl rfl (by first | rfl | exact isR_rf _) ?_
      refine V_getfield hZ fl_X0_22.r dX0_likenessOfAuthors_26 (by assumption) (by rfl) ?_
      refine V_invVp hZ me_X0_isBy mi_X0_isBy ml_X0_52 (c_isBy Z.1 h hc au' ha ho) dX0_likenessOfAuthors_29 rfl rfl (by assumption) rfl rfl ⟨by decide, by decide⟩ (by first | decide | simp [cat_rf, cat_ref, cat_int, cat_null]) ⟨by decide, by decide⟩ ?_
      refine V_if_eq (tgt := 40) hZ dX0_likenessOfAuthors_32 (by decide) (fun c2 => ?_) (fun c2 => ?_)
      · refine V_iconst (v := 0) hZ dX0_likenessOfAuthors_40 (by decide) ?_
        refine V_iret hZ hE rfl (by rfl) dX0_likenessOfAuthors_41 (by decide) (by decide) ?_
        have c3 : ¬ some x = au' := fun z => absurd c2 (by rw [← z]; simp [b01])
        exact ⟨by simp [likeA, c3], rfl⟩
      · refine V_bipush (v := 30) hZ dX0_likenessOfAuthors_35 (by decide) ?_
        refine V_goto (tgt := 41) hZ dX0_likenessOfAuthors_37 (by decide) ?_
        refine V_iret hZ hE rfl (by rfl) dX0_likenessOfAuthors_41 (by decide) (by decide) ?_
        have c3 : some x = au' := by
          by_cases z : some x = au'
          · exact z
          · exact absurd (by simp [b01, z]) c2
        exact ⟨by simp [likeA, c3], rfl⟩
theorem c_likenessOfTitles (hc : h q = some (mRec i au ti ye ln we le)) (hc' : h q' = some (mRec i' au' ti' ye' ln' we' le')) : Calls G yX0_likenessOfTitles cX0_likenessOfTitles 4 (.some .int) 1 20 0 0 [.ref q, .ref q'] h (qV (.int (likeT ti ti')) h) qX := by
  refine Calls_of1 (by decide +kernel) (by simp [cat_rf, cat_ref, cat_int, cat_null]) (by simp) (lv0 := [some (.ref q), some (.ref q'), none, none]) rfl ?_
  intro Z hG hZ hE hN
  subst hG
  refine V_aload_n hZ 0 dX0_likenessOfTitles_0 rfl rfl (by first | rfl | exact isR_rf _) ?_
  refine V_getfield hZ fl_X0_26.r dX0_likenessOfTitles_1 (by assumption) (by rfl) ?_
  refine V_aload_n hZ 1 dX0_likenessOfTitles_4 rfl rfl (by first | rfl | exact isR_rf _) ?_
  refine V_getfield hZ fl_X0_26.r dX0_likenessOfTitles_5 (by assumption) (by rfl) ?_
  refine V_iand hZ dX0_likenessOfTitles_8 ?_
  refine V_invSp hZ me_J6_bitCount_0f7a4 ms_J6_bitCount_0f7a4 ml_X0_56 (c_bitCount Z.1 h (ti &&& ti')) dX0_likenessOfTitles_9 rfl rfl ⟨by decide, by decide⟩ (by first | decide | simp [cat_rf, cat_ref, cat_int, cat_null]) ⟨by decide, by decide⟩ ?_
  refine V_istore_n hZ 2 rfl dX0_likenessOfTitles_12 (by decide) (by first | rfl | simp [okp, cat_rf, cat_ref, cat_int, cat_null]) ?_
  refine V.lvc (by simp only [List.set_cons_zero, List.set_cons_succ, Nat.reduceAdd]; rfl) ?_
  refine V_aload_n hZ 0 dX0_likenessOfTitles_13 rfl rfl (by first | rfl | exact isR_rf _) ?_
  refine V_getfield hZ fl_X0_26.r dX0_likenessOfTitles_14 (by assumption) (by rfl) ?_
  refine V_aload_n hZ 1 dX0_likenessOfTitles_17 rfl rfl (by first | rfl | exact isR_rf _) ?_
  refine V_getfield hZ fl_X0_26.r dX0_likenessOfTitles_18 (by assumption) (by rfl) ?_
  refine V_ior hZ dX0_likenessOfTitles_21 ?_
  refine V_invSp hZ me_J6_bitCount_0f7a4 ms_J6_bitCount_0f7a4 ml_X0_56 (c_bitCount Z.1 h (ti ||| ti')) dX0_likenessOfTitles_22 rfl rfl ⟨by decide, by decide⟩ (by first | decide | simp [cat_rf, cat_ref, cat_int, cat_null]) ⟨by decide, by decide⟩ ?_
  refine V_istore_n hZ 3 rfl dX0_likenessOfTitles_25 (by decide) (by first | rfl | simp [okp, cat_rf, cat_ref, cat_int, cat_null]) ?_
  refine V.lvc (by simp only [List.set_cons_zero, List.set_cons_succ, Nat.reduceAdd]; rfl) ?_
  refine V_iload_n hZ 3 dX0_likenessOfTitles_26 rfl rfl ?_
  refine V_if_ne (tgt := 34) hZ dX0_likenessOfTitles_27 (by decide) (fun c1 => ?_) (fun c1 => ?_)
  · refine V_bipush (v := 50) hZ dX0_likenessOfTitles_34 (by decide) ?_
    refine V_iload_n hZ 2 dX0_likenessOfTitles_36 rfl rfl ?_
    refine V_imul hZ dX0_likenessOfTitles_37 ?_
    refine V_iload_n hZ 3 dX0_likenessOfTitles_38 rfl rfl ?_
    refine V_idiv hZ c1 dX0_likenessOfTitles_39 ?_
    refine V_iret hZ hE rfl (by rfl) dX0_likenessOfTitles_40 (by decide) (by decide) ?_
    exact ⟨by simp [likeT, c1], rfl⟩
  · refine V_iconst (v := 0) hZ dX0_likenessOfTitles_30 (by decide) ?_
    refine V_goto (tgt := 40) hZ dX0_likenessOfTitles_31 (by decide) ?_
    refine V_iret hZ hE rfl (by rfl) dX0_likenessOfTitles_40 (by decide) (by decide) ?_
    exact ⟨by simp [likeT, c1], rfl⟩
theorem c_likenessOfYears (hc : h q = some (mRec i au ti ye ln we le)) (hc' : h q' = some (mRec i' au' ti' ye' ln' we' le')) : Calls G yX0_likenessOfYears cX0_likenessOfYears 2 (.some .int) 1 21 0 0 [.ref q, .ref q'] h (qV (.int (likeY ye ye')) h) qX := by
  refine Calls_of1 (by decide +kernel) (by simp [cat_rf, cat_ref, cat_int, cat_null]) (by simp) (lv0 := [some (.ref q), some (.ref q')]) rfl ?_
  intro Z hG hZ hE hN
  subst hG
  refine V_iconst (v := 0) hZ dX0_likenessOfYears_0 (by decide) ?_
  refine V_bipush (v := 20) hZ dX0_likenessOfYears_1 (by decide) ?_
  refine V_iconst (v := 4) hZ dX0_likenessOfYears_3 (by decide) ?_
  refine V_aload_n hZ 0 dX0_likenessOfYears_4 rfl rfl (by first | rfl | exact isR_rf _) ?_
  refine V_getfield hZ fl_X0_29.r dX0_likenessOfYears_5 (by assumption) (by rfl) ?_
  refine V_aload_n hZ 1 dX0_likenessOfYears_8 rfl rfl (by first | rfl | exact isR_rf _) ?_
  refine V_getfield hZ fl_X0_29.r dX0_likenessOfYears_9 (by assumption) (by rfl) ?_
  refine V_isub hZ dX0_likenessOfYears_12 ?_
  refine V_mabs hZ ml_X0_62 dX0_likenessOfYears_13 (by decide) (by first | decide | simp [cat_rf, cat_ref, cat_int, cat_null]) ⟨by decide, by decide⟩ ?_
  refine V_imul hZ dX0_likenessOfYears_16 ?_
  refine V_isub hZ dX0_likenessOfYears_17 ?_
  refine V_mmax hZ ml_X0_67 dX0_likenessOfYears_18 (by decide) (by first | decide | simp [cat_rf, cat_ref, cat_int, cat_null]) ⟨by decide, by decide⟩ ?_
  refine V_iret hZ hE rfl (by rfl) dX0_likenessOfYears_21 (by decide) (by decide) ?_
  exact ⟨rfl, rfl⟩
theorem c_likenessTo (hc : h q = some (mRec i au ti ye ln we le)) (hc' : h q' = some (mRec i' au' ti' ye' ln' we' le')) (ha : ∀ x, au = some x → ∃ j, h x = some (mName j)) (ho : ∀ x, au' = some x → ∃ j, h x = some (mName j)) : Calls G yX0_likenessTo cX0_likenessTo 2 (.some .int) 3 65 0 0 [.ref q, .ref q'] h (qV (.int (likeN au ti ye au' ti' ye')) h) qX := by
  refine Calls_of1 (by decide +kernel) (by simp [cat_rf, cat_ref, cat_int, cat_null]) (by simp) (lv0 := [some (.ref q), some (.ref q')]) rfl ?_
  intro Z hG hZ hE hN
  subst hG
  refine V_aload_n hZ 0 dX0_likenessTo_0 rfl rfl (by first | rfl | exact isR_rf _) ?_
  refine V_aload_n hZ 1 dX0_likenessTo_1 rfl rfl (by first | rfl | exact isR_rf _) ?_
  refine V_invVp hZ me_X0_likenessOfAuthors mi_X0_likenessOfAuthors ml_X0_42 (c_likenessOfAuthors Z.1 h hc hc' ha ho) dX0_likenessTo_2 rfl rfl (by assumption) rfl rfl ⟨by decide, by decide⟩ (by first | decide | simp [cat_rf, cat_ref, cat_int, cat_null]) ⟨by decide, by decide⟩ ?_
  refine V_aload_n hZ 0 dX0_likenessTo_5 rfl rfl (by first | rfl | exact isR_rf _) ?_
  refine V_aload_n hZ 1 dX0_likenessTo_6 rfl rfl (by first | rfl | exact isR_rf _) ?_
  refine V_invVp hZ me_X0_likenessOfTitles mi_X0_likenessOfTitles ml_X0_46 (c_likenessOfTitles Z.1 h hc hc') dX0_likenessTo_7 rfl rfl (by assumption) rfl rfl ⟨by decide, by decide⟩ (by first | decide | simp [cat_rf, cat_ref, cat_int, cat_null]) ⟨by decide, by decide⟩ ?_
  refine V_iadd hZ dX0_likenessTo_10 ?_
  refine V_aload_n hZ 0 dX0_likenessTo_11 rfl rfl (by first | rfl | exact isR_rf _) ?_
  refine V_aload_n hZ 1 dX0_likenessTo_12 rfl rfl (by first | rfl | exact isR_rf _) ?_
  refine V_invVp hZ me_X0_likenessOfYears mi_X0_likenessOfYears ml_X0_49 (c_likenessOfYears Z.1 h hc hc') dX0_likenessTo_13 rfl rfl (by assumption) rfl rfl ⟨by decide, by decide⟩ (by first | decide | simp [cat_rf, cat_ref, cat_int, cat_null]) ⟨by decide, by decide⟩ ?_
  refine V_iadd hZ dX0_likenessTo_16 ?_
  refine V_iret hZ hE rfl (by rfl) dX0_likenessTo_17 (by decide) (by decide) ?_
  exact ⟨rfl, rfl⟩
end
/-- the record into which one went over, after at most k steps -/
def lvN (we : Nat → Option Nat) : Nat → Nat → Nat
  | 0, i => i
  | k + 1, i => match we i with
    | none => i
    | some j => lvN we k j
abbrev weS (S : St) : Nat → Option Nat := fun i => rcWe (rcs S i)
abbrev live (S : St) (i : Nat) : Nat := lvN (weS S) 20 i
theorem lvN_lt {S : St} (W : Wf S) : ∀ k i, i < nRc S → lvN (weS S) k i < nRc S := by
  intro k
  induction k with
  | zero => intro i hi; exact hi
  | succ k ih =>
    intro i hi
    unfold lvN
    split
    · exact hi
    · rename_i j hj
      exact ih j ((W.2.2.2.2.1 i hi).2 j hj)
theorem live_lt {S : St} (W : Wf S) {i : Nat} (hi : i < nRc S) : live S i < nRc S := lvN_lt W 20 i hi
theorem c_liveOne (G : GC) {h : HP} {S : St} (R : Rep S h) (W : Wf S) {i : Nat} (hi : i < nRc S) : Calls G yX0_liveOne cX0_liveOne 3 (.some (.object "BookplateHall$BookRecord")) 0 0 0 0 [.ref (adR S i)] h (qV (.ref (adR S (live S i))) h) qX := by
  refine Calls_of1 (by decide +kernel) (by simp [cat_rf, cat_ref, cat_int, cat_null]) (by simp) (lv0 := [some (.ref (adR S i)), none, none]) rfl ?_
  intro Z hG hZ hE hN
  subst hG
  refine V_aload_n hZ 0 dX0_liveOne_0 rfl rfl (by first | rfl | exact isR_rf _) ?_
  refine V_astore_n hZ 1 rfl dX0_liveOne_1 (by first | rfl | exact isR_rf _) (by decide) (by first | rfl | simp [okp, cat_rf, cat_ref, cat_int, cat_null]) ?_
  refine V.lvc (by simp only [List.set_cons_zero, List.set_cons_succ, Nat.reduceAdd]; rfl) ?_
  refine V_iconst (v := 0) hZ dX0_liveOne_2 (by decide) ?_
  refine V_istore_n hZ 2 rfl dX0_liveOne_3 (by decide) (by first | rfl | simp [okp, cat_rf, cat_ref, cat_int, cat_null]) ?_
  refine V.lvc (by simp only [List.set_cons_zero, List.set_cons_succ, Nat.reduceAdd]; rfl) ?_
  have key : ∀ m c j, c + m = 20 → j < nRc S → lvN (weS S) m j = live S i → V Z 4 [some (.ref (adR S i)), some (.ref (adR S j)), some (.int (nI c))] [] h 0 0 := by
    intro m
    induction m with
    | zero =>
      intro c j hcm hj hl
      refine V_iload_n hZ 2 dX0_liveOne_4 rfl rfl ?_
      refine V_bipush (v := 20) hZ dX0_liveOne_5 (by decide) ?_
      refine V_icmp_ge (tgt := 28) hZ dX0_liveOne_7 (by decide) (fun c1 => ?_) (fun c1 => ?_)
      · refine V_aload_n hZ 1 dX0_liveOne_28 rfl rfl (by first | rfl | exact isR_rf _) ?_
        refine V_aret hZ hE rfl (by first | rfl | exact isR_rf _) dX0_liveOne_29 (by decide) (by decide) ?_
        exact ⟨by rw [← hl]; rfl, rfl⟩
      · have hc : c = 20 := by omega
        subst hc
        exact absurd (by decide) c1
    | succ m ih =>
      intro c j hcm hj hl
      have hr := R.rec hj
      refine V_iload_n hZ 2 dX0_liveOne_4 rfl rfl ?_
      refine V_bipush (v := 20) hZ dX0_liveOne_5 (by decide) ?_
      refine V_icmp_ge (tgt := 28) hZ dX0_liveOne_7 (by decide) (fun c1 => ?_) (fun c1 => ?_)
      · have c2 : 20 ≤ c := (nI_leI (a := 20) (by decide) (by omega)).mp c1
        omega
      · refine V_aload_n hZ 1 dX0_liveOne_10 rfl rfl (by first | rfl | exact isR_rf _) ?_
        refine V_getfield hZ fl_X0_32.r dX0_liveOne_11 (by assumption) (by rfl) ?_
        cases hw : rcWe (rcs S j) with
        | none =>
          have hl2 : j = live S i := by rw [← hl]; simp [lvN, weS, hw]
          refine V_ifnullN (tgt := 28) hZ dX0_liveOne_14 (by decide) ?_
          refine V_aload_n hZ 1 dX0_liveOne_28 rfl rfl (by first | rfl | exact isR_rf _) ?_
          refine V_aret hZ hE rfl (by first | rfl | exact isR_rf _) dX0_liveOne_29 (by decide) (by decide) ?_
          exact ⟨by rw [hl2], rfl⟩
        | some x =>
          have hl2 : lvN (weS S) m x = live S i := by rw [← hl]; simp [lvN, weS, hw]
          refine V_ifnullR hZ dX0_liveOne_14 ?_
          simp only [oRec, hw] at hr
          refine V_aload_n hZ 1 dX0_liveOne_17 rfl rfl (by first | rfl | exact isR_rf _) ?_
          refine V_getfield hZ fl_X0_32.r dX0_liveOne_18 (by assumption) (by rfl) ?_
          refine V_astore_n hZ 1 rfl dX0_liveOne_21 (by first | rfl | exact isR_rf _) (by decide) (by first | rfl | simp [okp, cat_rf, cat_ref, cat_int, cat_null]) ?_
          refine V.lvc (by simp only [List.set_cons_zero, List.set_cons_succ, Nat.reduceAdd]; rfl) ?_
          refine V_iincv hZ dX0_liveOne_22 rfl (by decide) (by first | rfl | simp [okp, cat_rf, cat_ref, cat_int, cat_null]) (by first | exact nI_inc _ | rfl) ?_
          refine V.lvc (by simp only [List.set_cons_zero, List.set_cons_succ, Nat.reduceAdd]; rfl) ?_
          refine V_goto (tgt := 4) hZ dX0_liveOne_25 (by decide) ?_
          exact ih (c + 1) x (by omega) ((W.2.2.2.2.1 j hj).2 x hw) hl2
  exact key 20 0 i rfl hi rfl
end
section
/-! waiting lines -/
theorem hup_hup (h : HP) (q : Nat) (a b : ME) : hup (hup h q a) q b = hup h q b := by
  funext x
  by_cases hx : x = q
  · subst hx; rw [hup_self, hup_self]
  · rw [hup_ne _ _ hx, hup_ne _ _ hx, hup_ne _ _ hx]
theorem hup_comm (h : HP) {q p : Nat} (hqp : q ≠ p) (a b : ME) : hup (hup h q a) p b = hup (hup h p b) q a := by
  funext x
  by_cases hx : x = q
  · subst hx
    rw [hup_self, hup_ne _ _ hqp, hup_self]
  · rw [hup_ne _ _ hx]
    by_cases hy : x = p
    · subst hy; rw [hup_self, hup_self]
    · rw [hup_ne _ _ hy, hup_ne _ _ hy, hup_ne _ _ hx]
theorem hup_id {h : HP} {q : Nat} {a : ME} (hq : h q = some a) : hup h q a = h := by
  funext x
  by_cases hx : x = q
  · subst hx; rw [hup_self, hq]
  · rw [hup_ne _ _ hx]
theorem lnf_none {l : List Nat} {ad : Nat → Nat} {c : Nat} (hx : l[c]? = none) : va_rf (lnf l ad c) = .null := by show va_rf (l[c]?.map ad) = _; rw [hx]; rfl
theorem lnf_some {l : List Nat} {ad : Nat → Nat} {c x : Nat} (hx : l[c]? = some x) : va_rf (lnf l ad c) = .ref (ad x) := by show va_rf (l[c]?.map ad) = _; rw [hx]; rfl
def holdsB (o : Option Nat) (l : List Nat) : Bool := match o with
  | none => false
  | some r => l.contains r
section
variable (G : GC) (h : HP) {ql qr : Nat} {l : List Nat} {ad : Nat → Nat} {n : Nat}
theorem c_holds (hl : h ql = some (mLine qr n)) (hr : h qr = some (aR RX3 8 (lnf l ad))) (hlen : l.length ≤ 8) (o : Option Nat) (hinj : ∀ x ∈ l, ∀ r, o = some r → ad x = ad r → x = r) : Calls G yX4_holds cX4_holds 6 (.some .boolean) 0 0 0 0 [.ref ql, va_rf (o.map ad)] h (qV (.int (b01 (holdsB o l = true))) h) qX := by
  refine Calls_of1 (by decide +kernel) (by simp [cat_rf, cat_ref, cat_int, cat_null]) (by simp) (lv0 := [some (.ref ql), some (va_rf (o.map ad)), none, none, none, none]) rfl ?_
  intro Z hG hZ hE hN
  subst hG
  refine V_aload_n hZ 0 dX4_holds_0 rfl rfl (by first | rfl | exact isR_rf _) ?_
  refine V_getfield hZ fl_X4_11.r dX4_holds_1 (by assumption) (by rfl) ?_
  refine V_astore_n hZ 2 rfl dX4_holds_4 (by first | rfl | exact isR_rf _) (by decide) (by first | rfl | simp [okp, cat_rf, cat_ref, cat_int, cat_null]) ?_
  refine V.lvc (by simp only [List.set_cons_zero, List.set_cons_succ, Nat.reduceAdd]; rfl) ?_
  refine V_aload_n hZ 2 dX4_holds_5 rfl rfl (by first | rfl | exact isR_rf _) ?_
  refine V_alenR hZ dX4_holds_6 (by assumption) ?_
  refine V_istore_n hZ 3 rfl dX4_holds_7 (by decide) (by first | rfl | simp [okp, cat_rf, cat_ref, cat_int, cat_null]) ?_
  refine V.lvc (by simp only [List.set_cons_zero, List.set_cons_succ, Nat.reduceAdd]; rfl) ?_
  refine V_iconst (v := 0) hZ dX4_holds_8 (by decide) ?_
  refine V_istore hZ dX4_holds_9 (by decide) (by first | rfl | simp [okp, cat_rf, cat_ref, cat_int, cat_null]) ?_
  refine V.lvc (by simp only [List.set_cons_zero, List.set_cons_succ, Nat.reduceAdd]; rfl) ?_
  have key : ∀ m c, c + m = 8 → (∀ j x, j < c → l[j]? = some x → o ≠ some x) → ∀ w, V Z 11 [some (.ref ql), some (va_rf (o.map ad)), some (.ref qr), some (.int (nI 8)), some (.int (nI c)), w] [] h 0 0 := by
    intro m
    induction m with
    | zero =>
      intro c hcm hno w
      have hc : c = 8 := by omega
      subst hc
      refine V_iload hZ dX4_holds_11 rfl ?_
      refine V_iload_n hZ 3 dX4_holds_13 rfl rfl ?_
      refine V_icmp_ge (tgt := 42) hZ dX4_holds_14 (by decide) (fun c1 => ?_) (fun c1 => ?_)
      · refine V_iconst (v := 0) hZ dX4_holds_42 (by decide) ?_
        refine V_iret hZ hE rfl (by rfl) dX4_holds_43 (by decide) (by decide) ?_
        refine ⟨?_, rfl⟩
        cases o with
        | none => simp [holdsB, b01]
        | some r =>
          have hr2 : r ∉ l := by
            intro hm
            obtain ⟨j, hj⟩ := List.getElem?_of_mem hm
            have hj2 := (List.getElem?_eq_some_iff.mp hj).1
            exact hno j r (by omega) hj rfl
          simp [holdsB, b01, hr2]
      · exact absurd (by decide) c1
    | succ m ih =>
      intro c hcm hno w
      have hc8 : c < 8 := by omega
      refine V_iload hZ dX4_holds_11 rfl ?_
      refine V_iload_n hZ 3 dX4_holds_13 rfl rfl ?_
      refine V_icmp_ge (tgt := 42) hZ dX4_holds_14 (by decide) (fun c1 => ?_) (fun c1 => ?_)
      · have c2 : 8 ≤ c := (nI_leI (a := 8) (by decide) (by omega)).mp c1
        omega
      · refine V_aload_n hZ 2 dX4_holds_17 rfl rfl (by first | rfl | exact isR_rf _) ?_
        refine V_iload hZ dX4_holds_18 rfl ?_
        cases hx : l[c]? with
        | none =>
          refine V_aaldn hZ dX4_holds_20 (by assumption) hc8 (by decide) (v := .null) (lnf_none hx) ?_
          refine V_astore hZ dX4_holds_21 (by first | rfl | exact isR_rf _) (by decide) (by first | rfl | simp [okp, cat_rf, cat_ref, cat_int, cat_null]) ?_
          refine V.lvc (by simp only [List.set_cons_zero, List.set_cons_succ, Nat.reduceAdd]; rfl) ?_
          refine V_aload hZ dX4_holds_23 rfl (by first | rfl | exact isR_rf _) ?_
          refine V_ifnullN (tgt := 36) hZ dX4_holds_25 (by decide) ?_
          refine V_iincv hZ dX4_holds_36 rfl (by decide) (by first | rfl | simp [okp, cat_rf, cat_ref, cat_int, cat_null]) (by first | exact nI_inc _ | rfl) ?_
          refine V.lvc (by simp only [List.set_cons_zero, List.set_cons_succ, Nat.reduceAdd]; rfl) ?_
          refine V_goto (tgt := 11) hZ dX4_holds_39 (by decide) ?_
          exact ih (c + 1) (by omega) (fun j x hj hjx => by
            rcases Nat.lt_or_ge j c with z | z
            · exact hno j x z hjx
            · have : j = c := by omega
              subst this
              rw [hx] at hjx
              cases hjx) _
        | some x =>
          refine V_aaldn hZ dX4_holds_20 (by assumption) hc8 (by decide) (v := .ref (ad x)) (lnf_some hx) ?_
          refine V_astore hZ dX4_holds_21 (by first | rfl | exact isR_rf _) (by decide) (by first | rfl | simp [okp, cat_rf, cat_ref, cat_int, cat_null]) ?_
          refine V.lvc (by simp only [List.set_cons_zero, List.set_cons_succ, Nat.reduceAdd]; rfl) ?_
          refine V_aload hZ dX4_holds_23 rfl (by first | rfl | exact isR_rf _) ?_
          refine V_ifnullR hZ dX4_holds_25 ?_
          refine V_aload hZ dX4_holds_28 rfl (by first | rfl | exact isR_rf _) ?_
          refine V_aload_n hZ 1 dX4_holds_30 rfl rfl (by first | rfl | exact isR_rf _) ?_
          refine V_acmp_ne (tgt := 36) hZ dX4_holds_31 (by decide) (by first | rfl | exact isR_rf _) (by first | rfl | exact isR_rf _) (fun c3 => ?_) (fun c3 => ?_)
          · refine V_iincv hZ dX4_holds_36 rfl (by decide) (by first | rfl | simp [okp, cat_rf, cat_ref, cat_int, cat_null]) (by first | exact nI_inc _ | rfl) ?_
            refine V.lvc (by simp only [List.set_cons_zero, List.set_cons_succ, Nat.reduceAdd]; rfl) ?_
            refine V_goto (tgt := 11) hZ dX4_holds_39 (by decide) ?_
            refine ih (c + 1) (by omega) (fun j y hj hjx => ?_) _
            rcases Nat.lt_or_ge j c with z | z
            · exact hno j y z hjx
            · have : j = c := by omega
              subst this
              rw [hx] at hjx
              cases hjx
              intro ho
              subst ho
              exact c3 rfl
          · refine V_iconst (v := 1) hZ dX4_holds_34 (by decide) ?_
            refine V_iret hZ hE rfl (by rfl) dX4_holds_35 (by decide) (by decide) ?_
            refine ⟨?_, rfl⟩
            cases o with
            | none => cases c3
            | some r =>
              have h1 : ad x = ad r := Value.ref.inj c3
              have h2 := hinj x (List.mem_of_getElem? hx) r rfl h1
              subst h2
              have h3 := List.mem_of_getElem? hx
              simp [holdsB, b01, h3]
  exact key 8 0 rfl (fun j x hj => absurd hj (Nat.not_lt_zero _)) none
theorem c_at (hl : h ql = some (mLine qr n)) (hr : h qr = some (aR RX3 8 (lnf l ad))) (p : Int32) : Calls G yX4_at cX4_at 2 (.some (.object "BookplateHall$Reader")) 0 0 0 0 [.ref ql, .int p] h (qV (if 0 ≤ p ∧ p < 8 then va_rf (lnf l ad p.toNatClampNeg) else .null) h) qX := by
  refine Calls_of1 (by decide +kernel) (by simp [cat_rf, cat_ref, cat_int, cat_null]) (by simp) (lv0 := [some (.ref ql), some (.int p)]) rfl ?_
  intro Z hG hZ hE hN
  subst hG
  refine V_iload_n hZ 1 dX4_at_0 rfl rfl ?_
  refine V_if_lt (tgt := 22) hZ dX4_at_1 (by decide) (fun c1 => ?_) (fun c1 => ?_)
  · refine V_null hZ dX4_at_22 ?_
    refine V_aret hZ hE rfl (by first | rfl | exact isR_rf _) dX4_at_23 (by decide) (by decide) ?_
    exact ⟨by rw [if_neg (fun z => Int32.not_le.mpr c1 z.1)], rfl⟩
  · refine V_iload_n hZ 1 dX4_at_4 rfl rfl ?_
    refine V_aload_n hZ 0 dX4_at_5 rfl rfl (by first | rfl | exact isR_rf _) ?_
    refine V_getfield hZ fl_X4_11.r dX4_at_6 (by assumption) (by rfl) ?_
    refine V_alenR hZ dX4_at_9 (by assumption) ?_
    refine V_icmp_ge (tgt := 22) hZ dX4_at_10 (by decide) (fun c2 => ?_) (fun c2 => ?_)
    · refine V_null hZ dX4_at_22 ?_
      refine V_aret hZ hE rfl (by first | rfl | exact isR_rf _) dX4_at_23 (by decide) (by decide) ?_
      exact ⟨by rw [if_neg (fun z => Int32.not_lt.mpr c2 z.2)], rfl⟩
    · refine V_aload_n hZ 0 dX4_at_13 rfl rfl (by first | rfl | exact isR_rf _) ?_
      refine V_getfield hZ fl_X4_11.r dX4_at_14 (by assumption) (by rfl) ?_
      refine V_iload_n hZ 1 dX4_at_17 rfl rfl ?_
      have h1 : 0 ≤ p := Int32.not_lt.mp c1
      have h2 : p < 8 := Int32.not_le.mp c2
      refine V_aald hZ dX4_at_18 (by assumption) (show vp_in p 8 from ?_) ?_
      · obtain ⟨j, hj, rfl⟩ := nI_of c1
        have h3 : j < 8 := (nI_ltI (b := 8) hj (by decide)).mp h2
        exact vp_in_n h3 (by decide)
      · refine V_goto (tgt := 23) hZ dX4_at_19 (by decide) ?_
        refine V_aret hZ hE rfl (by first | rfl | exact isR_rf _) dX4_at_23 (by decide) (by decide) ?_
        exact ⟨by rw [if_pos ⟨h1, h2⟩], rfl⟩
theorem lnf_push (r : Nat) : lnf (l ++ [r]) ad = va_up (lnf l ad) l.length (some (ad r)) := by
  funext j
  simp only [lnf, va_up]
  by_cases hj : j = l.length
  · subst hj; simp
  · rw [if_neg hj]
    by_cases hj2 : j < l.length
    · rw [List.getElem?_append_left hj2]
    · rw [List.getElem?_eq_none (by simp; omega), List.getElem?_eq_none (by omega)]
theorem c_join (hl : h ql = some (mLine qr l.length)) (hr : h qr = some (aR RX3 8 (lnf l ad))) (hlen : l.length < 8) {r i : Nat} {ki ow : Int32} (hd : h (ad r) = some (mRdr i ki ow)) : Calls G yX4_join cX4_join 2 (.none : Option Jvm.ClassFile.FieldType) 0 0 0 0 [.ref ql, .ref (ad r)] h (fun v h' => v = none ∧ h' = hup (hup h qr (aR RX3 8 (lnf (l ++ [r]) ad))) ql (mLine qr (l.length + 1))) qX := by
  have hne : ql ≠ qr := fun z => by rw [z, hr] at hl; cases hl
  refine Calls_of1 (by decide +kernel) (by simp [cat_rf, cat_ref, cat_int, cat_null]) (by simp) (lv0 := [some (.ref ql), some (.ref (ad r))]) rfl ?_
  intro Z hG hZ hE hN
  subst hG
  refine V_aload_n hZ 0 dX4_join_0 rfl rfl (by first | rfl | exact isR_rf _) ?_
  refine V_getfield hZ fl_X4_17.r dX4_join_1 (by assumption) (by rfl) ?_
  refine V_if_lt (tgt := 39) hZ dX4_join_4 (by decide) (fun c1 => ?_) (fun c1 => ?_)
  · exact absurd c1 (nI_pos (by omega))
  · refine V_aload_n hZ 0 dX4_join_7 rfl rfl (by first | rfl | exact isR_rf _) ?_
    refine V_getfield hZ fl_X4_17.r dX4_join_8 (by assumption) (by rfl) ?_
    refine V_aload_n hZ 0 dX4_join_11 rfl rfl (by first | rfl | exact isR_rf _) ?_
    refine V_getfield hZ fl_X4_11.r dX4_join_12 (by assumption) (by rfl) ?_
    refine V_alenR hZ dX4_join_15 (by assumption) ?_
    refine V_icmp_ge (tgt := 39) hZ dX4_join_16 (by decide) (fun c2 => ?_) (fun c2 => ?_)
    · have := (nI_leI (a := 8) (by decide) (by omega)).mp c2
      omega
    · refine V_aload_n hZ 0 dX4_join_19 rfl rfl (by first | rfl | exact isR_rf _) ?_
      refine V_getfield hZ fl_X4_11.r dX4_join_20 (by assumption) (by rfl) ?_
      refine V_aload_n hZ 0 dX4_join_23 rfl rfl (by first | rfl | exact isR_rf _) ?_
      refine V_getfield hZ fl_X4_17.r dX4_join_24 (by assumption) (by rfl) ?_
      refine V_aload_n hZ 1 dX4_join_27 rfl rfl (by first | rfl | exact isR_rf _) ?_
      refine V_aastn (r := (RX3, TX3, 3)) hZ dX4_join_28 (by assumption) hd rfl hlen (by decide) ?_
      rw [← lnf_push]
      have hl' : hup h qr (aR RX3 8 (lnf (l ++ [r]) ad)) ql = some (mLine qr l.length) := by rw [hup_ne _ _ hne]; exact hl
      refine V_aload_n hZ 0 dX4_join_29 rfl rfl (by first | rfl | exact isR_rf _) ?_
      refine V_dup hZ dX4_join_30 (by first | rfl | exact cat_rf _) ?_
      refine V_getfield hZ fl_X4_17.r dX4_join_31 (by assumption) (by rfl) ?_
      refine V_iconst (v := 1) hZ dX4_join_34 (by decide) ?_
      refine V_iadd hZ dX4_join_35 ?_
      refine V_putfield hZ fl_X4_17 dX4_join_36 (by first | assumption | exact hup_self _ _ _) (by first | rfl | exact nar_rf _ _) (by first | rfl | exact fits_rf _ _) (by simp) ?_
      refine V_vret hZ hE rfl dX4_join_39 (by decide) (by decide) ?_
      refine ⟨rfl, ?_⟩
      show hup _ ql (.inr (4, [.ref qr, .int (nI l.length + 1)])) = _
      rw [nI_1]
theorem c_clear (hl : h ql = some (mLine qr n)) (hr : h qr = some (aR RX3 8 (lnf l ad))) (hlen : l.length ≤ 8) : Calls G yX4_clear cX4_clear 2 (.none : Option Jvm.ClassFile.FieldType) 0 0 0 0 [.ref ql] h (fun v h' => v = none ∧ h' = hup (hup h qr (aR RX3 8 (lnf [] ad))) ql (mLine qr 0)) qX := by
  have hne : ql ≠ qr := fun z => by rw [z, hr] at hl; cases hl
  refine Calls_of1 (by decide +kernel) (by simp [cat_rf, cat_ref, cat_int, cat_null]) (by simp) (lv0 := [some (.ref ql), none]) rfl ?_
  intro Z hG hZ hE hN
  subst hG
  refine V_iconst (v := 0) hZ dX4_clear_0 (by decide) ?_
  refine V_istore_n hZ 1 rfl dX4_clear_1 (by decide) (by first | rfl | simp [okp, cat_rf, cat_ref, cat_int, cat_null]) ?_
  refine V.lvc (by simp only [List.set_cons_zero, List.set_cons_succ, Nat.reduceAdd]; rfl) ?_
  have key : ∀ m c, c + m = 8 → ∀ f, (∀ j, j < c → f j = none) → (∀ j, 8 ≤ j → f j = lnf l ad j) → V Z 2 [some (.ref ql), some (.int (nI c))] [] (hup h qr (aR RX3 8 f)) 0 0 := by
    intro m
    induction m with
    | zero =>
      intro c hcm f hf hf8
      have hl' : hup h qr (aR RX3 8 f) ql = some (mLine qr n) := by rw [hup_ne _ _ hne]; exact hl
      have hr' : hup h qr (aR RX3 8 f) qr = some (aR RX3 8 f) := hup_self _ _ _
      have hc : c = 8 := by omega
      subst hc
      refine V_iload_n hZ 1 dX4_clear_2 rfl rfl ?_
      refine V_aload_n hZ 0 dX4_clear_3 rfl rfl (by first | rfl | exact isR_rf _) ?_
      refine V_getfield hZ fl_X4_11.r dX4_clear_4 (by assumption) (by rfl) ?_
      refine V_alenR hZ dX4_clear_7 (by assumption) ?_
      refine V_icmp_ge (tgt := 24) hZ dX4_clear_8 (by decide) (fun c1 => ?_) (fun c1 => ?_)
      · refine V_aload_n hZ 0 dX4_clear_24 rfl rfl (by first | rfl | exact isR_rf _) ?_
        refine V_iconst (v := 0) hZ dX4_clear_25 (by decide) ?_
        refine V_putfield hZ fl_X4_17 dX4_clear_26 (by first | assumption | exact hup_self _ _ _) (by first | rfl | exact nar_rf _ _) (by first | rfl | exact fits_rf _ _) (by simp) ?_
        refine V_vret hZ hE rfl dX4_clear_29 (by decide) (by decide) ?_
        refine ⟨rfl, ?_⟩
        have hff : f = lnf [] ad := by
          funext j
          rcases Nat.lt_or_ge j 8 with z | z
          · rw [hf j z]; rfl
          · rw [hf8 j z]
            show l[j]?.map ad = _
            rw [List.getElem?_eq_none (by omega)]
            rfl
        rw [hff]
        rfl
      · exact absurd (by decide) c1
    | succ m ih =>
      intro c hcm f hf hf8
      have hl' : hup h qr (aR RX3 8 f) ql = some (mLine qr n) := by rw [hup_ne _ _ hne]; exact hl
      have hr' : hup h qr (aR RX3 8 f) qr = some (aR RX3 8 f) := hup_self _ _ _
      refine V_iload_n hZ 1 dX4_clear_2 rfl rfl ?_
      refine V_aload_n hZ 0 dX4_clear_3 rfl rfl (by first | rfl | exact isR_rf _) ?_
      refine V_getfield hZ fl_X4_11.r dX4_clear_4 (by assumption) (by rfl) ?_
      refine V_alenR hZ dX4_clear_7 (by assumption) ?_
      refine V_icmp_ge (tgt := 24) hZ dX4_clear_8 (by decide) (fun c1 => ?_) (fun c1 => ?_)
      · have c2 : 8 ≤ c := (nI_leI (a := 8) (by decide) (by omega)).mp c1
        omega
      · refine V_aload_n hZ 0 dX4_clear_11 rfl rfl (by first | rfl | exact isR_rf _) ?_
        refine V_getfield hZ fl_X4_11.r dX4_clear_12 (by assumption) (by rfl) ?_
        refine V_iload_n hZ 1 dX4_clear_15 rfl rfl ?_
        refine V_null hZ dX4_clear_16 ?_
        refine V_aastNn hZ dX4_clear_17 hr' (show c < 8 by omega) (by decide) ?_
        rw [hup_hup]
        refine V_iincv hZ dX4_clear_18 rfl (by decide) (by first | rfl | simp [okp, cat_rf, cat_ref, cat_int, cat_null]) (by first | exact nI_inc _ | rfl) ?_
        refine V.lvc (by simp only [List.set_cons_zero, List.set_cons_succ, Nat.reduceAdd]; rfl) ?_
        refine V_goto (tgt := 2) hZ dX4_clear_21 (by decide) ?_
        exact ih (c + 1) (by omega) _ (fun j hj => by
          by_cases hjc : j = c
          · simp [va_up, hjc]
          · simp [va_up, hjc]; exact hf j (by omega)) (fun j hj => by
          have : ¬ j = c := by omega
          simp only [va_up, if_neg this]; exact hf8 j hj)
  have := key 8 0 rfl (lnf l ad) (fun j hj => absurd hj (Nat.not_lt_zero _)) (fun _ _ => rfl)
  rw [hup_id hr] at this
  exact this
theorem c_drop (hl : h ql = some (mLine qr n)) (hr : h qr = some (aR RX3 8 (lnf l ad))) (hlen : l.length ≤ 8) {r : Nat} (hinj : ∀ x ∈ l, ad x = ad r → x = r) (hd : ∀ x ∈ l, ∃ i ki ow, h (ad x) = some (mRdr i ki ow)) : Calls G yX4_drop cX4_drop 5 (.none : Option Jvm.ClassFile.FieldType) 0 0 0 0 [.ref ql, .ref (ad r)] h (fun v h' => v = none ∧ h' = hup (hup h qr (aR RX3 8 (lnf (l.filter (· ≠ r)) ad))) ql (mLine qr (l.filter (· ≠ r)).length)) qX := by
  have hne : ql ≠ qr := fun z => by rw [z, hr] at hl; cases hl
  refine Calls_of1 (by decide +kernel) (by simp [cat_rf, cat_ref, cat_int, cat_null]) (by simp) (lv0 := [some (.ref ql), some (.ref (ad r)), none, none, none]) rfl ?_
  intro Z hG hZ hE hN
  subst hG
  refine V_iconst (v := 0) hZ dX4_drop_0 (by decide) ?_
  refine V_istore_n hZ 2 rfl dX4_drop_1 (by decide) (by first | rfl | simp [okp, cat_rf, cat_ref, cat_int, cat_null]) ?_
  refine V.lvc (by simp only [List.set_cons_zero, List.set_cons_succ, Nat.reduceAdd]; rfl) ?_
  refine V_iconst (v := 0) hZ dX4_drop_2 (by decide) ?_
  refine V_istore_n hZ 3 rfl dX4_drop_3 (by decide) (by first | rfl | simp [okp, cat_rf, cat_ref, cat_int, cat_null]) ?_
  refine V.lvc (by simp only [List.set_cons_zero, List.set_cons_succ, Nat.reduceAdd]; rfl) ?_
  have key : ∀ m c, c + m = 8 → ∀ w f fl, fl = (l.take c).filter (· ≠ r) → (∀ j, f j = if j < fl.length then lnf fl ad j else if j < c then none else lnf l ad j) → V Z 4 [some (.ref ql), some (.ref (ad r)), some (.int (nI fl.length)), some (.int (nI c)), w] [] (hup h qr (aR RX3 8 f)) 0 0 := by
    intro m
    induction m with
    | zero =>
      intro c hcm w f fl hfl hf
      have hl' : hup h qr (aR RX3 8 f) ql = some (mLine qr n) := by rw [hup_ne _ _ hne]; exact hl
      have hr' : hup h qr (aR RX3 8 f) qr = some (aR RX3 8 f) := hup_self _ _ _
      have hc : c = 8 := by omega
      subst hc
      have hfl2 : fl = l.filter (· ≠ r) := by rw [hfl, List.take_of_length_le hlen]
      refine V_iload_n hZ 3 dX4_drop_4 rfl rfl ?_
      refine V_aload_n hZ 0 dX4_drop_5 rfl rfl (by first | rfl | exact isR_rf _) ?_
      refine V_getfield hZ fl_X4_11.r dX4_drop_6 (by assumption) (by rfl) ?_
      refine V_alenR hZ dX4_drop_9 (by assumption) ?_
      refine V_icmp_ge (tgt := 65) hZ dX4_drop_10 (by decide) (fun c1 => ?_) (fun c1 => ?_)
      · refine V_aload_n hZ 0 dX4_drop_65 rfl rfl (by first | rfl | exact isR_rf _) ?_
        refine V_iload_n hZ 2 dX4_drop_66 rfl rfl ?_
        refine V_putfield hZ fl_X4_17 dX4_drop_67 (by first | assumption | exact hup_self _ _ _) (by first | rfl | exact nar_rf _ _) (by first | rfl | exact fits_rf _ _) (by simp) ?_
        refine V_vret hZ hE rfl dX4_drop_70 (by decide) (by decide) ?_
        refine ⟨rfl, ?_⟩
        have hff : f = lnf fl ad := by
          funext j
          rw [hf j]
          by_cases z : j < fl.length
          · rw [if_pos z]
          · have h9 : lnf fl ad j = none := by
              show fl[j]?.map ad = none
              rw [List.getElem?_eq_none (by omega)]
              rfl
            rw [if_neg z, h9]
            split
            · rfl
            · show l[j]?.map ad = none
              rw [List.getElem?_eq_none (by omega)]
              rfl
        rw [hff, ← hfl2]
        rfl
      · exact absurd (by decide) c1
    | succ m ih =>
      intro c hcm w f fl hfl hf
      have hl' : hup h qr (aR RX3 8 f) ql = some (mLine qr n) := by rw [hup_ne _ _ hne]; exact hl
      have hr' : hup h qr (aR RX3 8 f) qr = some (aR RX3 8 f) := hup_self _ _ _
      have hc8 : c < 8 := by omega
      have hflc : fl.length ≤ c := by
        rw [hfl]
        exact Nat.le_trans (List.length_filter_le _ _) (by simp; omega)
      have hfc : f c = lnf l ad c := by rw [hf c, if_neg (by omega), if_neg (by omega)]
      refine V_iload_n hZ 3 dX4_drop_4 rfl rfl ?_
      refine V_aload_n hZ 0 dX4_drop_5 rfl rfl (by first | rfl | exact isR_rf _) ?_
      refine V_getfield hZ fl_X4_11.r dX4_drop_6 (by assumption) (by rfl) ?_
      refine V_alenR hZ dX4_drop_9 (by assumption) ?_
      refine V_icmp_ge (tgt := 65) hZ dX4_drop_10 (by decide) (fun c1 => ?_) (fun c1 => ?_)
      · have c2 : 8 ≤ c := (nI_leI (a := 8) (by decide) (by omega)).mp c1
        omega
      · refine V_aload_n hZ 0 dX4_drop_13 rfl rfl (by first | rfl | exact isR_rf _) ?_
        refine V_getfield hZ fl_X4_11.r dX4_drop_14 (by assumption) (by rfl) ?_
        refine V_iload_n hZ 3 dX4_drop_17 rfl rfl ?_
        cases hx : l[c]? with
        | none =>
          refine V_aaldn hZ dX4_drop_18 hr' hc8 (by decide) (v := .null) (by rw [hfc]; exact lnf_none hx) ?_
          refine V_astore hZ dX4_drop_19 (by first | rfl | exact isR_rf _) (by decide) (by first | rfl | simp [okp, cat_rf, cat_ref, cat_int, cat_null]) ?_
          refine V.lvc (by simp only [List.set_cons_zero, List.set_cons_succ, Nat.reduceAdd]; rfl) ?_
          refine V_aload_n hZ 0 dX4_drop_21 rfl rfl (by first | rfl | exact isR_rf _) ?_
          refine V_getfield hZ fl_X4_11.r dX4_drop_22 (by assumption) (by rfl) ?_
          refine V_iload_n hZ 3 dX4_drop_25 rfl rfl ?_
          refine V_null hZ dX4_drop_26 ?_
          refine V_aastNn hZ dX4_drop_27 hr' hc8 (by decide) ?_
          rw [hup_hup]
          refine V_aload hZ dX4_drop_28 rfl (by first | rfl | exact isR_rf _) ?_
          refine V_ifnullN (tgt := 59) hZ dX4_drop_30 (by decide) ?_
          refine V_iincv hZ dX4_drop_59 rfl (by decide) (by first | rfl | simp [okp, cat_rf, cat_ref, cat_int, cat_null]) (by first | exact nI_inc _ | rfl) ?_
          refine V.lvc (by simp only [List.set_cons_zero, List.set_cons_succ, Nat.reduceAdd]; rfl) ?_
          refine V_goto (tgt := 4) hZ dX4_drop_62 (by decide) ?_
          have ht : l.take (c + 1) = l.take c := by rw [List.take_add_one, hx]; simp
          refine ih (c + 1) (by omega) _ _ fl (by rw [ht]; exact hfl) (fun j => ?_)
          simp only [va_up]
          by_cases hjc : j = c
          · rw [if_pos hjc, if_neg (by omega), if_pos (by omega)]
          · rw [if_neg hjc, hf j]
            by_cases z : j < fl.length
            · rw [if_pos z, if_pos z]
            · rw [if_neg z, if_neg z]
              by_cases z2 : j < c
              · rw [if_pos z2, if_pos (by omega)]
              · rw [if_neg z2, if_neg (by omega)]
        | some x =>
          have hxl := List.mem_of_getElem? hx
          refine V_aaldn hZ dX4_drop_18 hr' hc8 (by decide) (v := .ref (ad x)) (by rw [hfc]; exact lnf_some hx) ?_
          refine V_astore hZ dX4_drop_19 (by first | rfl | exact isR_rf _) (by decide) (by first | rfl | simp [okp, cat_rf, cat_ref, cat_int, cat_null]) ?_
          refine V.lvc (by simp only [List.set_cons_zero, List.set_cons_succ, Nat.reduceAdd]; rfl) ?_
          refine V_aload_n hZ 0 dX4_drop_21 rfl rfl (by first | rfl | exact isR_rf _) ?_
          refine V_getfield hZ fl_X4_11.r dX4_drop_22 (by assumption) (by rfl) ?_
          refine V_iload_n hZ 3 dX4_drop_25 rfl rfl ?_
          refine V_null hZ dX4_drop_26 ?_
          refine V_aastNn hZ dX4_drop_27 hr' hc8 (by decide) ?_
          rw [hup_hup]
          have hl2 : hup h qr (aR RX3 8 (va_up f c none)) ql = some (mLine qr n) := by rw [hup_ne _ _ hne]; exact hl
          have hr2 : hup h qr (aR RX3 8 (va_up f c none)) qr = some (aR RX3 8 (va_up f c none)) := hup_self _ _ _
          refine V_aload hZ dX4_drop_28 rfl (by first | rfl | exact isR_rf _) ?_
          refine V_ifnullR hZ dX4_drop_30 ?_
          refine V_aload hZ dX4_drop_33 rfl (by first | rfl | exact isR_rf _) ?_
          refine V_aload_n hZ 1 dX4_drop_35 rfl rfl (by first | rfl | exact isR_rf _) ?_
          refine V_acmp_eq (tgt := 59) hZ dX4_drop_36 (by decide) (by first | rfl | exact isR_rf _) (by first | rfl | exact isR_rf _) (fun c3 => ?_) (fun c3 => ?_)
          · have hxr : x = r := hinj x hxl (Value.ref.inj c3)
            refine V_iincv hZ dX4_drop_59 rfl (by decide) (by first | rfl | simp [okp, cat_rf, cat_ref, cat_int, cat_null]) (by first | exact nI_inc _ | rfl) ?_
            refine V.lvc (by simp only [List.set_cons_zero, List.set_cons_succ, Nat.reduceAdd]; rfl) ?_
            refine V_goto (tgt := 4) hZ dX4_drop_62 (by decide) ?_
            have ht : fl = (l.take (c + 1)).filter (· ≠ r) := by rw [List.take_add_one, hx, List.filter_append, ← hfl]; simp [hxr]
            refine ih (c + 1) (by omega) _ _ fl ht (fun j => ?_)
            simp only [va_up]
            by_cases hjc : j = c
            · rw [if_pos hjc, if_neg (by omega), if_pos (by omega)]
            · rw [if_neg hjc, hf j]
              by_cases z : j < fl.length
              · rw [if_pos z, if_pos z]
              · rw [if_neg z, if_neg z]
                by_cases z2 : j < c
                · rw [if_pos z2, if_pos (by omega)]
                · rw [if_neg z2, if_neg (by omega)]
          · have hxr : ¬ x = r := fun z => c3 (by rw [z])
            refine V_iload_n hZ 2 dX4_drop_39 rfl rfl ?_
            refine V_if_lt (tgt := 59) hZ dX4_drop_40 (by decide) (fun c4 => ?_) (fun c4 => ?_)
            · exact absurd c4 (nI_pos (by omega))
            · refine V_iload_n hZ 2 dX4_drop_43 rfl rfl ?_
              refine V_iload_n hZ 3 dX4_drop_44 rfl rfl ?_
              refine V_icmp_gt (tgt := 59) hZ dX4_drop_45 (by decide) (fun c5 => ?_) (fun c5 => ?_)
              · exact absurd c5 (nI_nlt hflc (by omega))
              · refine V_aload_n hZ 0 dX4_drop_48 rfl rfl (by first | rfl | exact isR_rf _) ?_
                refine V_getfield hZ fl_X4_11.r dX4_drop_49 (by assumption) (by rfl) ?_
                refine V_iload_n hZ 2 dX4_drop_52 rfl rfl ?_
                refine V_aload hZ dX4_drop_53 rfl (by first | rfl | exact isR_rf _) ?_
                obtain ⟨i9, ki9, ow9, hd9⟩ := hd x hxl
                have hd8 : hup h qr (aR RX3 8 (va_up f c none)) (ad x) = some (mRdr i9 ki9 ow9) := by
                  rw [hup_ne _ _ (fun z => by rw [z, hr] at hd9; cases hd9)]
                  exact hd9
                refine V_aastn (r := (RX3, TX3, 3)) hZ dX4_drop_55 hr2 hd8 rfl (show fl.length < 8 by omega) (by decide) ?_
                rw [hup_hup]
                refine V_iincv hZ dX4_drop_56 rfl (by decide) (by first | rfl | simp [okp, cat_rf, cat_ref, cat_int, cat_null]) (by first | exact nI_inc _ | rfl) ?_
                refine V.lvc (by simp only [List.set_cons_zero, List.set_cons_succ, Nat.reduceAdd]; rfl) ?_
                refine V_iincv hZ dX4_drop_59 rfl (by decide) (by first | rfl | simp [okp, cat_rf, cat_ref, cat_int, cat_null]) (by first | exact nI_inc _ | rfl) ?_
                refine V.lvc (by simp only [List.set_cons_zero, List.set_cons_succ, Nat.reduceAdd]; rfl) ?_
                refine V_goto (tgt := 4) hZ dX4_drop_62 (by decide) ?_
                have ht : fl ++ [x] = (l.take (c + 1)).filter (· ≠ r) := by rw [List.take_add_one, hx, List.filter_append, ← hfl]; simp [hxr]
                have hle : (fl ++ [x]).length = fl.length + 1 := by simp
                rw [← hle]
                refine ih (c + 1) (by omega) _ _ (fl ++ [x]) ht (fun j => ?_)
                rw [lnf_push, hle]
                simp only [va_up]
                by_cases hjk : j = fl.length
                · rw [if_pos hjk, if_pos (by omega), if_pos hjk]
                · rw [if_neg hjk, if_neg hjk]
                  by_cases hjc : j = c
                  · rw [if_pos hjc, if_neg (by omega), if_pos (by omega)]
                  · rw [if_neg hjc, hf j]
                    repeat' split
                    all_goals first | rfl | (exfalso; omega)
  have := key 8 0 rfl none (lnf l ad) [] rfl (fun j => by rw [if_neg (by simp), if_neg (by omega)])
  rw [hup_id hr] at this
  exact this
end
end
section
/-! counting and adding over copies, records, readers -/
def cn (P : Nat → Bool) : Nat → Nat
  | 0 => 0
  | k + 1 => cn P k + (P k).toNat
theorem cn_t {P : Nat → Bool} {c : Nat} (h : P c = true) : cn P (c + 1) = cn P c + 1 := by simp [cn, h]
theorem cn_f {P : Nat → Bool} {c : Nat} (h : P c = false) : cn P (c + 1) = cn P c := by simp [cn, h]
theorem cn_le {P : Nat → Bool} (c : Nat) : cn P c ≤ c := by
  induction c with
  | zero => exact Nat.le_refl _
  | succ c ih =>
    have : (P c).toNat ≤ 1 := by cases P c <;> decide
    simp only [cn]; omega
def sm (f : Nat → Int32) : Nat → Int32
  | 0 => 0
  | k + 1 => sm f k + f k
theorem rdMap {S : St} {h : HP} (R : Rep S h) (W : Wf S) {a b : Option Nat} (ha : ∀ x, a = some x → x < nRd S) (hb : ∀ x, b = some x → x < nRd S) : a.map (adD S) = b.map (adD S) ↔ a = b := by
  cases a <;> cases b <;> simp
  rename_i x y
  exact ⟨fun h => R.rdrInj W (ha x rfl) (hb y rfl) h, fun h => by rw [h]⟩
theorem W_rec {S : St} (W : Wf S) {c : Nat} (hi : c < nCp S) : cpRc (cps S c) < nRc S := (W.2.2.2.2.2.2 c hi).1
theorem W_rdr {S : St} (W : Wf S) {c : Nat} (hi : c < nCp S) : ∀ r, cpRd (cps S c) = some r → r < nRd S := (W.2.2.2.2.2.2 c hi).2.1
theorem W_asd {S : St} (W : Wf S) {c : Nat} (hi : c < nCp S) : cpPl (cps S c) = 2 → cpRd (cps S c) ≠ none := (W.2.2.2.2.2.2 c hi).2.2
theorem recIff {S : St} {h : HP} (R : Rep S h) (W : Wf S) {i j : Nat} (hi : i < nRc S) (hj : j < nRc S) : adR S i = adR S j ↔ i = j := ⟨fun h => R.recInj W hi hj h, fun h => by rw [h]⟩
theorem rfIff {a b : Option Nat} : va_rf a = va_rf b ↔ a = b := by cases a <;> cases b <;> simp [va_rf]
theorem refIff {a b : Nat} : Value.ref a = Value.ref b ↔ a = b := ⟨fun h => Value.ref.inj h, fun h => by rw [h]⟩
section
variable (G : GC) {h : HP} {S : St} (R : Rep S h) (W : Wf S)
def atB (S : St) (pl : Int32) (c : Nat) : Bool := decide (c < nCp S ∧ cpPl (cps S c) = pl)
theorem c_copiesAt (R : Rep S h) (pl : Int32) : Calls G yX5_copiesAt cX5_copiesAt 7 (.some .int) 0 0 0 0 [.ref (aH S), .int pl] h (qV (.int (nI (cn (atB S pl) 30))) h) qX := by
  have h1 := R.hall
  have h2 := R.copies
  refine Calls_of1 (by decide +kernel) (by simp [cat_rf, cat_ref, cat_int, cat_null]) (by simp) (lv0 := [some (.ref (aH S)), some (.int pl), none, none, none, none, none]) rfl ?_
  intro Z hG hZ hE hN
  subst hG
  refine V_iconst (v := 0) hZ dX5_copiesAt_0 (by decide) ?_
  refine V_istore_n hZ 2 rfl dX5_copiesAt_1 (by decide) (by first | rfl | simp [okp, cat_rf, cat_ref, cat_int, cat_null]) ?_
  refine V.lvc (by simp only [List.set_cons_zero, List.set_cons_succ, Nat.reduceAdd]; rfl) ?_
  refine V_aload_n hZ 0 dX5_copiesAt_2 rfl rfl (by first | rfl | exact isR_rf _) ?_
  refine V_getfield hZ fl_X5_23.r dX5_copiesAt_3 (by assumption) (by rfl) ?_
  refine V_astore_n hZ 3 rfl dX5_copiesAt_6 (by first | rfl | exact isR_rf _) (by decide) (by first | rfl | simp [okp, cat_rf, cat_ref, cat_int, cat_null]) ?_
  refine V.lvc (by simp only [List.set_cons_zero, List.set_cons_succ, Nat.reduceAdd]; rfl) ?_
  refine V_aload_n hZ 3 dX5_copiesAt_7 rfl rfl (by first | rfl | exact isR_rf _) ?_
  refine V_alenR hZ dX5_copiesAt_8 (by assumption) ?_
  refine V_istore hZ dX5_copiesAt_9 (by decide) (by first | rfl | simp [okp, cat_rf, cat_ref, cat_int, cat_null]) ?_
  refine V.lvc (by simp only [List.set_cons_zero, List.set_cons_succ, Nat.reduceAdd]; rfl) ?_
  refine V_iconst (v := 0) hZ dX5_copiesAt_11 (by decide) ?_
  refine V_istore hZ dX5_copiesAt_12 (by decide) (by first | rfl | simp [okp, cat_rf, cat_ref, cat_int, cat_null]) ?_
  refine V.lvc (by simp only [List.set_cons_zero, List.set_cons_succ, Nat.reduceAdd]; rfl) ?_
  have key : ∀ m c, c + m = 30 → ∀ w, V Z 14 [some (.ref (aH S)), some (.int pl), some (.int (nI (cn (atB S pl) c))), some (.ref (aCs S)), some (.int (nI 30)), some (.int (nI c)), w] [] h 0 0 := by
    intro m
    induction m with
    | zero =>
      intro c hcm  w
      have hc : c = 30 := by omega
      subst hc
      refine V_iload hZ dX5_copiesAt_14 rfl ?_
      refine V_iload hZ dX5_copiesAt_16 rfl ?_
      refine V_icmp_ge (tgt := 50) hZ dX5_copiesAt_18 (by decide) (fun cE => ?_) (fun cE => ?_)
      · refine V_iload_n hZ 2 dX5_copiesAt_50 rfl rfl ?_
        refine V_iret hZ hE rfl (by rfl) dX5_copiesAt_51 (by decide) (by decide) ?_
        exact ⟨rfl, rfl⟩
      · exact absurd (by decide) cE
    | succ m ih =>
      intro c hcm  w
      have hcN : c < 30 := by omega
      refine V_iload hZ dX5_copiesAt_14 rfl ?_
      refine V_iload hZ dX5_copiesAt_16 rfl ?_
      refine V_icmp_ge (tgt := 50) hZ dX5_copiesAt_18 (by decide) (fun cE => ?_) (fun cE => ?_)
      · have cE2 : 30 ≤ c := (nI_leI (a := 30) (by decide) (by omega)).mp cE
        omega
      · refine V_aload_n hZ 3 dX5_copiesAt_21 rfl rfl (by first | rfl | exact isR_rf _) ?_
        refine V_iload hZ dX5_copiesAt_22 rfl ?_
        by_cases hi : c < nCp S
        · refine V_aaldn hZ dX5_copiesAt_24 (by assumption) hcN (by decide) (v := .ref (adC S c)) (rowf_lt hi) ?_
          refine V_astore hZ dX5_copiesAt_25 (by first | rfl | exact isR_rf _) (by decide) (by first | rfl | simp [okp, cat_rf, cat_ref, cat_int, cat_null]) ?_
          refine V.lvc (by simp only [List.set_cons_zero, List.set_cons_succ, Nat.reduceAdd]; rfl) ?_
          refine V_aload hZ dX5_copiesAt_27 rfl (by first | rfl | exact isR_rf _) ?_
          refine V_ifnullR hZ dX5_copiesAt_29 ?_
          have h3 := R.copy hi
          refine V_aload hZ dX5_copiesAt_32 rfl (by first | rfl | exact isR_rf _) ?_
          refine V_getfield hZ fl_X5_215.r dX5_copiesAt_34 (by assumption) (by rfl) ?_
          refine V_iload_n hZ 1 dX5_copiesAt_37 rfl rfl ?_
          refine V_icmp_ne (tgt := 44) hZ dX5_copiesAt_38 (by decide) (fun c1 => ?_) (fun c1 => ?_)
          · refine V_iincv hZ dX5_copiesAt_44 rfl (by decide) (by first | rfl | simp [okp, cat_rf, cat_ref, cat_int, cat_null]) (by first | exact nI_inc _ | rfl) ?_
            refine V.lvc (by simp only [List.set_cons_zero, List.set_cons_succ, Nat.reduceAdd]; rfl) ?_
            refine V_goto (tgt := 14) hZ dX5_copiesAt_47 (by decide) ?_
            have e := ih (c + 1) (by omega) (some (.ref (adC S c)))
            rw [cn_f (by simp [atB, c1])] at e
            exact e
          · refine V_iincv hZ dX5_copiesAt_41 rfl (by decide) (by first | rfl | simp [okp, cat_rf, cat_ref, cat_int, cat_null]) (by first | exact nI_inc _ | rfl) ?_
            refine V.lvc (by simp only [List.set_cons_zero, List.set_cons_succ, Nat.reduceAdd]; rfl) ?_
            refine V_iincv hZ dX5_copiesAt_44 rfl (by decide) (by first | rfl | simp [okp, cat_rf, cat_ref, cat_int, cat_null]) (by first | exact nI_inc _ | rfl) ?_
            refine V.lvc (by simp only [List.set_cons_zero, List.set_cons_succ, Nat.reduceAdd]; rfl) ?_
            refine V_goto (tgt := 14) hZ dX5_copiesAt_47 (by decide) ?_
            have e := ih (c + 1) (by omega) (some (.ref (adC S c)))
            rw [cn_t (by simp [atB, c1, hi])] at e
            exact e
        · refine V_aaldn hZ dX5_copiesAt_24 (by assumption) hcN (by decide) (v := .null) (rowf_ge hi) ?_
          refine V_astore hZ dX5_copiesAt_25 (by first | rfl | exact isR_rf _) (by decide) (by first | rfl | simp [okp, cat_rf, cat_ref, cat_int, cat_null]) ?_
          refine V.lvc (by simp only [List.set_cons_zero, List.set_cons_succ, Nat.reduceAdd]; rfl) ?_
          refine V_aload hZ dX5_copiesAt_27 rfl (by first | rfl | exact isR_rf _) ?_
          refine V_ifnullN (tgt := 44) hZ dX5_copiesAt_29 (by decide) ?_
          refine V_iincv hZ dX5_copiesAt_44 rfl (by decide) (by first | rfl | simp [okp, cat_rf, cat_ref, cat_int, cat_null]) (by first | exact nI_inc _ | rfl) ?_
          refine V.lvc (by simp only [List.set_cons_zero, List.set_cons_succ, Nat.reduceAdd]; rfl) ?_
          refine V_goto (tgt := 14) hZ dX5_copiesAt_47 (by decide) ?_
          have e := ih (c + 1) (by omega) (some .null)
          rw [cn_f (by simp [atB, hi])] at e
          exact e
  exact key 30 0 rfl none
/-- a reader's copies at a place -/
def ofB (S : St) (o : Option Nat) (pl : Int32) (c : Nat) : Bool := decide (c < nCp S ∧ cpPl (cps S c) = pl ∧ cpRd (cps S c) = o)
theorem c_copiesOf (R : Rep S h) (W : Wf S) {r : Nat} (hr : r < nRd S) (pl : Int32) : Calls G yX5_copiesOf cX5_copiesOf 8 (.some .int) 0 0 0 0 [.ref (aH S), .ref (adD S r), .int pl] h (qV (.int (nI (cn (ofB S (some r) pl) 30))) h) qX := by
  have h1 := R.hall
  have h2 := R.copies
  refine Calls_of1 (by decide +kernel) (by simp [cat_rf, cat_ref, cat_int, cat_null]) (by simp) (lv0 := [some (.ref (aH S)), some (.ref (adD S r)), some (.int pl), none, none, none, none, none]) rfl ?_
  intro Z hG hZ hE hN
  subst hG
  refine V_iconst (v := 0) hZ dX5_copiesOf_0 (by decide) ?_
  refine V_istore_n hZ 3 rfl dX5_copiesOf_1 (by decide) (by first | rfl | simp [okp, cat_rf, cat_ref, cat_int, cat_null]) ?_
  refine V.lvc (by simp only [List.set_cons_zero, List.set_cons_succ, Nat.reduceAdd]; rfl) ?_
  refine V_aload_n hZ 0 dX5_copiesOf_2 rfl rfl (by first | rfl | exact isR_rf _) ?_
  refine V_getfield hZ fl_X5_23.r dX5_copiesOf_3 (by assumption) (by rfl) ?_
  refine V_astore hZ dX5_copiesOf_6 (by first | rfl | exact isR_rf _) (by decide) (by first | rfl | simp [okp, cat_rf, cat_ref, cat_int, cat_null]) ?_
  refine V.lvc (by simp only [List.set_cons_zero, List.set_cons_succ, Nat.reduceAdd]; rfl) ?_
  refine V_aload hZ dX5_copiesOf_8 rfl (by first | rfl | exact isR_rf _) ?_
  refine V_alenR hZ dX5_copiesOf_10 (by assumption) ?_
  refine V_istore hZ dX5_copiesOf_11 (by decide) (by first | rfl | simp [okp, cat_rf, cat_ref, cat_int, cat_null]) ?_
  refine V.lvc (by simp only [List.set_cons_zero, List.set_cons_succ, Nat.reduceAdd]; rfl) ?_
  refine V_iconst (v := 0) hZ dX5_copiesOf_13 (by decide) ?_
  refine V_istore hZ dX5_copiesOf_14 (by decide) (by first | rfl | simp [okp, cat_rf, cat_ref, cat_int, cat_null]) ?_
  refine V.lvc (by simp only [List.set_cons_zero, List.set_cons_succ, Nat.reduceAdd]; rfl) ?_
  have key : ∀ m c, c + m = 30 → ∀ w, V Z 16 [some (.ref (aH S)), some (.ref (adD S r)), some (.int pl), some (.int (nI (cn (ofB S (some r) pl) c))), some (.ref (aCs S)), some (.int (nI 30)), some (.int (nI c)), w] [] h 0 0 := by
    intro m
    induction m with
    | zero =>
      intro c hcm  w
      have hc : c = 30 := by omega
      subst hc
      refine V_iload hZ dX5_copiesOf_16 rfl ?_
      refine V_iload hZ dX5_copiesOf_18 rfl ?_
      refine V_icmp_ge (tgt := 62) hZ dX5_copiesOf_20 (by decide) (fun cE => ?_) (fun cE => ?_)
      · refine V_iload_n hZ 3 dX5_copiesOf_62 rfl rfl ?_
        refine V_iret hZ hE rfl (by rfl) dX5_copiesOf_63 (by decide) (by decide) ?_
        exact ⟨rfl, rfl⟩
      · exact absurd (by decide) cE
    | succ m ih =>
      intro c hcm  w
      have hcN : c < 30 := by omega
      refine V_iload hZ dX5_copiesOf_16 rfl ?_
      refine V_iload hZ dX5_copiesOf_18 rfl ?_
      refine V_icmp_ge (tgt := 62) hZ dX5_copiesOf_20 (by decide) (fun cE => ?_) (fun cE => ?_)
      · have cE2 : 30 ≤ c := (nI_leI (a := 30) (by decide) (by omega)).mp cE
        omega
      · refine V_aload hZ dX5_copiesOf_23 rfl (by first | rfl | exact isR_rf _) ?_
        refine V_iload hZ dX5_copiesOf_25 rfl ?_
        by_cases hi : c < nCp S
        · refine V_aaldn hZ dX5_copiesOf_27 (by assumption) hcN (by decide) (v := .ref (adC S c)) (rowf_lt hi) ?_
          refine V_astore hZ dX5_copiesOf_28 (by first | rfl | exact isR_rf _) (by decide) (by first | rfl | simp [okp, cat_rf, cat_ref, cat_int, cat_null]) ?_
          refine V.lvc (by simp only [List.set_cons_zero, List.set_cons_succ, Nat.reduceAdd]; rfl) ?_
          refine V_aload hZ dX5_copiesOf_30 rfl (by first | rfl | exact isR_rf _) ?_
          refine V_ifnullR hZ dX5_copiesOf_32 ?_
          have h3 := R.copy hi
          refine V_aload hZ dX5_copiesOf_35 rfl (by first | rfl | exact isR_rf _) ?_
          refine V_getfield hZ fl_X5_215.r dX5_copiesOf_37 (by assumption) (by rfl) ?_
          refine V_iload_n hZ 2 dX5_copiesOf_40 rfl rfl ?_
          refine V_icmp_ne (tgt := 56) hZ dX5_copiesOf_41 (by decide) (fun c1 => ?_) (fun c1 => ?_)
          · refine V_iincv hZ dX5_copiesOf_56 rfl (by decide) (by first | rfl | simp [okp, cat_rf, cat_ref, cat_int, cat_null]) (by first | exact nI_inc _ | rfl) ?_
            refine V.lvc (by simp only [List.set_cons_zero, List.set_cons_succ, Nat.reduceAdd]; rfl) ?_
            refine V_goto (tgt := 16) hZ dX5_copiesOf_59 (by decide) ?_
            have e := ih (c + 1) (by omega) (some (.ref (adC S c)))
            rw [cn_f (by simp [ofB, c1])] at e
            exact e
          · refine V_aload hZ dX5_copiesOf_44 rfl (by first | rfl | exact isR_rf _) ?_
            refine V_getfield hZ fl_X5_202.r dX5_copiesOf_46 (by assumption) (by rfl) ?_
            refine V_aload_n hZ 1 dX5_copiesOf_49 rfl rfl (by first | rfl | exact isR_rf _) ?_
            refine V_acmp_ne (tgt := 56) hZ dX5_copiesOf_50 (by decide) (by first | rfl | exact isR_rf _) (by first | rfl | exact isR_rf _) (fun c2 => ?_) (fun c2 => ?_)
            · refine V_iincv hZ dX5_copiesOf_56 rfl (by decide) (by first | rfl | simp [okp, cat_rf, cat_ref, cat_int, cat_null]) (by first | exact nI_inc _ | rfl) ?_
              refine V.lvc (by simp only [List.set_cons_zero, List.set_cons_succ, Nat.reduceAdd]; rfl) ?_
              refine V_goto (tgt := 16) hZ dX5_copiesOf_59 (by decide) ?_
              have e := ih (c + 1) (by omega) (some (.ref (adC S c)))
              have c3 : ¬ cpRd (cps S c) = some r := fun z => c2 (by rw [z]; rfl)
              rw [cn_f (by simp [ofB, c3])] at e
              exact e
            · refine V_iincv hZ dX5_copiesOf_53 rfl (by decide) (by first | rfl | simp [okp, cat_rf, cat_ref, cat_int, cat_null]) (by first | exact nI_inc _ | rfl) ?_
              refine V.lvc (by simp only [List.set_cons_zero, List.set_cons_succ, Nat.reduceAdd]; rfl) ?_
              refine V_iincv hZ dX5_copiesOf_56 rfl (by decide) (by first | rfl | simp [okp, cat_rf, cat_ref, cat_int, cat_null]) (by first | exact nI_inc _ | rfl) ?_
              refine V.lvc (by simp only [List.set_cons_zero, List.set_cons_succ, Nat.reduceAdd]; rfl) ?_
              refine V_goto (tgt := 16) hZ dX5_copiesOf_59 (by decide) ?_
              have e := ih (c + 1) (by omega) (some (.ref (adC S c)))
              have c3 : cpRd (cps S c) = some r := (rdMap R W (W_rdr W hi) (fun x hx => by cases hx; exact hr)).mp (rfIff.mp (c2.trans (show Value.ref (adD S r) = va_rf ((some r).map (adD S)) from rfl)))
              rw [cn_t (by simp [ofB, c1, c3, hi])] at e
              exact e
        · refine V_aaldn hZ dX5_copiesOf_27 (by assumption) hcN (by decide) (v := .null) (rowf_ge hi) ?_
          refine V_astore hZ dX5_copiesOf_28 (by first | rfl | exact isR_rf _) (by decide) (by first | rfl | simp [okp, cat_rf, cat_ref, cat_int, cat_null]) ?_
          refine V.lvc (by simp only [List.set_cons_zero, List.set_cons_succ, Nat.reduceAdd]; rfl) ?_
          refine V_aload hZ dX5_copiesOf_30 rfl (by first | rfl | exact isR_rf _) ?_
          refine V_ifnullN (tgt := 56) hZ dX5_copiesOf_32 (by decide) ?_
          refine V_iincv hZ dX5_copiesOf_56 rfl (by decide) (by first | rfl | simp [okp, cat_rf, cat_ref, cat_int, cat_null]) (by first | exact nI_inc _ | rfl) ?_
          refine V.lvc (by simp only [List.set_cons_zero, List.set_cons_succ, Nat.reduceAdd]; rfl) ?_
          refine V_goto (tgt := 16) hZ dX5_copiesOf_59 (by decide) ?_
          have e := ih (c + 1) (by omega) (some .null)
          rw [cn_f (by simp [ofB, hi])] at e
          exact e
  exact key 30 0 rfl none
abbrev lateC (S : St) (c : Nat) (d : Int32) : Int32 := lateN (cpPl (cps S c)) (cpDy (cps S c)) d
def lateB (S : St) (r : Nat) (c : Nat) : Bool := decide (c < nCp S ∧ cpRd (cps S c) = some r ∧ 0 < lateC S c (tdy S))
theorem c_lateCopiesOf (R : Rep S h) (W : Wf S) {r : Nat} (hr : r < nRd S) : Calls G yX5_lateCopiesOf cX5_lateCopiesOf 7 (.some .int) 1 21 0 0 [.ref (aH S), .ref (adD S r)] h (qV (.int (nI (cn (lateB S r) 30))) h) qX := by
  have h1 := R.hall
  have h2 := R.copies
  refine Calls_of1 (by decide +kernel) (by simp [cat_rf, cat_ref, cat_int, cat_null]) (by simp) (lv0 := [some (.ref (aH S)), some (.ref (adD S r)), none, none, none, none, none]) rfl ?_
  intro Z hG hZ hE hN
  subst hG
  refine V_iconst (v := 0) hZ dX5_lateCopiesOf_0 (by decide) ?_
  refine V_istore_n hZ 2 rfl dX5_lateCopiesOf_1 (by decide) (by first | rfl | simp [okp, cat_rf, cat_ref, cat_int, cat_null]) ?_
  refine V.lvc (by simp only [List.set_cons_zero, List.set_cons_succ, Nat.reduceAdd]; rfl) ?_
  refine V_aload_n hZ 0 dX5_lateCopiesOf_2 rfl rfl (by first | rfl | exact isR_rf _) ?_
  refine V_getfield hZ fl_X5_23.r dX5_lateCopiesOf_3 (by assumption) (by rfl) ?_
  refine V_astore_n hZ 3 rfl dX5_lateCopiesOf_6 (by first | rfl | exact isR_rf _) (by decide) (by first | rfl | simp [okp, cat_rf, cat_ref, cat_int, cat_null]) ?_
  refine V.lvc (by simp only [List.set_cons_zero, List.set_cons_succ, Nat.reduceAdd]; rfl) ?_
  refine V_aload_n hZ 3 dX5_lateCopiesOf_7 rfl rfl (by first | rfl | exact isR_rf _) ?_
  refine V_alenR hZ dX5_lateCopiesOf_8 (by assumption) ?_
  refine V_istore hZ dX5_lateCopiesOf_9 (by decide) (by first | rfl | simp [okp, cat_rf, cat_ref, cat_int, cat_null]) ?_
  refine V.lvc (by simp only [List.set_cons_zero, List.set_cons_succ, Nat.reduceAdd]; rfl) ?_
  refine V_iconst (v := 0) hZ dX5_lateCopiesOf_11 (by decide) ?_
  refine V_istore hZ dX5_lateCopiesOf_12 (by decide) (by first | rfl | simp [okp, cat_rf, cat_ref, cat_int, cat_null]) ?_
  refine V.lvc (by simp only [List.set_cons_zero, List.set_cons_succ, Nat.reduceAdd]; rfl) ?_
  have key : ∀ m c, c + m = 30 → ∀ w, V Z 14 [some (.ref (aH S)), some (.ref (adD S r)), some (.int (nI (cn (lateB S r) c))), some (.ref (aCs S)), some (.int (nI 30)), some (.int (nI c)), w] [] h 0 0 := by
    intro m
    induction m with
    | zero =>
      intro c hcm  w
      have hc : c = 30 := by omega
      subst hc
      refine V_iload hZ dX5_lateCopiesOf_14 rfl ?_
      refine V_iload hZ dX5_lateCopiesOf_16 rfl ?_
      refine V_icmp_ge (tgt := 62) hZ dX5_lateCopiesOf_18 (by decide) (fun cE => ?_) (fun cE => ?_)
      · refine V_iload_n hZ 2 dX5_lateCopiesOf_62 rfl rfl ?_
        refine V_iret hZ hE rfl (by rfl) dX5_lateCopiesOf_63 (by decide) (by decide) ?_
        exact ⟨rfl, rfl⟩
      · exact absurd (by decide) cE
    | succ m ih =>
      intro c hcm  w
      have hcN : c < 30 := by omega
      refine V_iload hZ dX5_lateCopiesOf_14 rfl ?_
      refine V_iload hZ dX5_lateCopiesOf_16 rfl ?_
      refine V_icmp_ge (tgt := 62) hZ dX5_lateCopiesOf_18 (by decide) (fun cE => ?_) (fun cE => ?_)
      · have cE2 : 30 ≤ c := (nI_leI (a := 30) (by decide) (by omega)).mp cE
        omega
      · refine V_aload_n hZ 3 dX5_lateCopiesOf_21 rfl rfl (by first | rfl | exact isR_rf _) ?_
        refine V_iload hZ dX5_lateCopiesOf_22 rfl ?_
        by_cases hi : c < nCp S
        · refine V_aaldn hZ dX5_lateCopiesOf_24 (by assumption) hcN (by decide) (v := .ref (adC S c)) (rowf_lt hi) ?_
          refine V_astore hZ dX5_lateCopiesOf_25 (by first | rfl | exact isR_rf _) (by decide) (by first | rfl | simp [okp, cat_rf, cat_ref, cat_int, cat_null]) ?_
          refine V.lvc (by simp only [List.set_cons_zero, List.set_cons_succ, Nat.reduceAdd]; rfl) ?_
          refine V_aload hZ dX5_lateCopiesOf_27 rfl (by first | rfl | exact isR_rf _) ?_
          refine V_ifnullR hZ dX5_lateCopiesOf_29 ?_
          have h3 := R.copy hi
          refine V_aload hZ dX5_lateCopiesOf_32 rfl (by first | rfl | exact isR_rf _) ?_
          refine V_getfield hZ fl_X5_202.r dX5_lateCopiesOf_34 (by assumption) (by rfl) ?_
          refine V_aload_n hZ 1 dX5_lateCopiesOf_37 rfl rfl (by first | rfl | exact isR_rf _) ?_
          refine V_acmp_ne (tgt := 56) hZ dX5_lateCopiesOf_38 (by decide) (by first | rfl | exact isR_rf _) (by first | rfl | exact isR_rf _) (fun c2 => ?_) (fun c2 => ?_)
          · refine V_iincv hZ dX5_lateCopiesOf_56 rfl (by decide) (by first | rfl | simp [okp, cat_rf, cat_ref, cat_int, cat_null]) (by first | exact nI_inc _ | rfl) ?_
            refine V.lvc (by simp only [List.set_cons_zero, List.set_cons_succ, Nat.reduceAdd]; rfl) ?_
            refine V_goto (tgt := 14) hZ dX5_lateCopiesOf_59 (by decide) ?_
            have e := ih (c + 1) (by omega) (some (.ref (adC S c)))
            have c3 : ¬ cpRd (cps S c) = some r := fun z => c2 (by rw [z]; rfl)
            rw [cn_f (by simp [lateB, c3])] at e
            exact e
          · have c3 : cpRd (cps S c) = some r := (rdMap R W (W_rdr W hi) (fun x hx => by cases hx; exact hr)).mp (rfIff.mp (c2.trans (show Value.ref (adD S r) = va_rf ((some r).map (adD S)) from rfl)))
            refine V_aload hZ dX5_lateCopiesOf_41 rfl (by first | rfl | exact isR_rf _) ?_
            refine V_aload_n hZ 0 dX5_lateCopiesOf_43 rfl rfl (by first | rfl | exact isR_rf _) ?_
            refine V_getfield hZ fl_X5_181.r dX5_lateCopiesOf_44 (by assumption) (by rfl) ?_
            refine V_invVp hZ me_X1_daysLateOn mi_X1_daysLateOn ml_X5_341 (c_daysLateOn Z.1 h h3 (tdy S)) dX5_lateCopiesOf_47 rfl rfl (by assumption) rfl rfl ⟨by decide, by decide⟩ (by first | decide | simp [cat_rf, cat_ref, cat_int, cat_null]) ⟨by decide, by decide⟩ ?_
            refine V_if_le (tgt := 56) hZ dX5_lateCopiesOf_50 (by decide) (fun c4 => ?_) (fun c4 => ?_)
            · refine V_iincv hZ dX5_lateCopiesOf_56 rfl (by decide) (by first | rfl | simp [okp, cat_rf, cat_ref, cat_int, cat_null]) (by first | exact nI_inc _ | rfl) ?_
              refine V.lvc (by simp only [List.set_cons_zero, List.set_cons_succ, Nat.reduceAdd]; rfl) ?_
              refine V_goto (tgt := 14) hZ dX5_lateCopiesOf_59 (by decide) ?_
              have e := ih (c + 1) (by omega) (some (.ref (adC S c)))
              rw [cn_f (by simp only [lateB, decide_eq_false_iff_not]; exact fun z => Int32.not_le.mpr z.2.2 c4)] at e
              exact e
            · refine V_iincv hZ dX5_lateCopiesOf_53 rfl (by decide) (by first | rfl | simp [okp, cat_rf, cat_ref, cat_int, cat_null]) (by first | exact nI_inc _ | rfl) ?_
              refine V.lvc (by simp only [List.set_cons_zero, List.set_cons_succ, Nat.reduceAdd]; rfl) ?_
              refine V_iincv hZ dX5_lateCopiesOf_56 rfl (by decide) (by first | rfl | simp [okp, cat_rf, cat_ref, cat_int, cat_null]) (by first | exact nI_inc _ | rfl) ?_
              refine V.lvc (by simp only [List.set_cons_zero, List.set_cons_succ, Nat.reduceAdd]; rfl) ?_
              refine V_goto (tgt := 14) hZ dX5_lateCopiesOf_59 (by decide) ?_
              have e := ih (c + 1) (by omega) (some (.ref (adC S c)))
              rw [cn_t (by simp only [lateB, decide_eq_true_eq]; exact ⟨hi, c3, Int32.not_le.mp c4⟩)] at e
              exact e
        · refine V_aaldn hZ dX5_lateCopiesOf_24 (by assumption) hcN (by decide) (v := .null) (rowf_ge hi) ?_
          refine V_astore hZ dX5_lateCopiesOf_25 (by first | rfl | exact isR_rf _) (by decide) (by first | rfl | simp [okp, cat_rf, cat_ref, cat_int, cat_null]) ?_
          refine V.lvc (by simp only [List.set_cons_zero, List.set_cons_succ, Nat.reduceAdd]; rfl) ?_
          refine V_aload hZ dX5_lateCopiesOf_27 rfl (by first | rfl | exact isR_rf _) ?_
          refine V_ifnullN (tgt := 56) hZ dX5_lateCopiesOf_29 (by decide) ?_
          refine V_iincv hZ dX5_lateCopiesOf_56 rfl (by decide) (by first | rfl | simp [okp, cat_rf, cat_ref, cat_int, cat_null]) (by first | exact nI_inc _ | rfl) ?_
          refine V.lvc (by simp only [List.set_cons_zero, List.set_cons_succ, Nat.reduceAdd]; rfl) ?_
          refine V_goto (tgt := 14) hZ dX5_lateCopiesOf_59 (by decide) ?_
          have e := ih (c + 1) (by omega) (some .null)
          rw [cn_f (by simp [lateB, hi])] at e
          exact e
  exact key 30 0 rfl none
def fineF (S : St) (r : Nat) (c : Nat) : Int32 := if c < nCp S ∧ cpRd (cps S c) = some r then fineN (cpPl (cps S c)) (cpDy (cps S c)) (tdy S) else 0
theorem sm_z {f : Nat → Int32} {c : Nat} (h : f c = 0) : sm f (c + 1) = sm f c := by simp [sm, h]
theorem c_finesOf (R : Rep S h) (W : Wf S) {r : Nat} (hr : r < nRd S) : Calls G yX5_finesOf cX5_finesOf 7 (.some .int) 2 42 0 0 [.ref (aH S), .ref (adD S r)] h (qV (.int (sm (fineF S r) 30)) h) qX := by
  have h1 := R.hall
  have h2 := R.copies
  refine Calls_of1 (by decide +kernel) (by simp [cat_rf, cat_ref, cat_int, cat_null]) (by simp) (lv0 := [some (.ref (aH S)), some (.ref (adD S r)), none, none, none, none, none]) rfl ?_
  intro Z hG hZ hE hN
  subst hG
  refine V_iconst (v := 0) hZ dX5_finesOf_0 (by decide) ?_
  refine V_istore_n hZ 2 rfl dX5_finesOf_1 (by decide) (by first | rfl | simp [okp, cat_rf, cat_ref, cat_int, cat_null]) ?_
  refine V.lvc (by simp only [List.set_cons_zero, List.set_cons_succ, Nat.reduceAdd]; rfl) ?_
  refine V_aload_n hZ 0 dX5_finesOf_2 rfl rfl (by first | rfl | exact isR_rf _) ?_
  refine V_getfield hZ fl_X5_23.r dX5_finesOf_3 (by assumption) (by rfl) ?_
  refine V_astore_n hZ 3 rfl dX5_finesOf_6 (by first | rfl | exact isR_rf _) (by decide) (by first | rfl | simp [okp, cat_rf, cat_ref, cat_int, cat_null]) ?_
  refine V.lvc (by simp only [List.set_cons_zero, List.set_cons_succ, Nat.reduceAdd]; rfl) ?_
  refine V_aload_n hZ 3 dX5_finesOf_7 rfl rfl (by first | rfl | exact isR_rf _) ?_
  refine V_alenR hZ dX5_finesOf_8 (by assumption) ?_
  refine V_istore hZ dX5_finesOf_9 (by decide) (by first | rfl | simp [okp, cat_rf, cat_ref, cat_int, cat_null]) ?_
  refine V.lvc (by simp only [List.set_cons_zero, List.set_cons_succ, Nat.reduceAdd]; rfl) ?_
  refine V_iconst (v := 0) hZ dX5_finesOf_11 (by decide) ?_
  refine V_istore hZ dX5_finesOf_12 (by decide) (by first | rfl | simp [okp, cat_rf, cat_ref, cat_int, cat_null]) ?_
  refine V.lvc (by simp only [List.set_cons_zero, List.set_cons_succ, Nat.reduceAdd]; rfl) ?_
  have key : ∀ m c, c + m = 30 → ∀ w, V Z 14 [some (.ref (aH S)), some (.ref (adD S r)), some (.int (sm (fineF S r) c)), some (.ref (aCs S)), some (.int (nI 30)), some (.int (nI c)), w] [] h 0 0 := by
    intro m
    induction m with
    | zero =>
      intro c hcm  w
      have hc : c = 30 := by omega
      subst hc
      refine V_iload hZ dX5_finesOf_14 rfl ?_
      refine V_iload hZ dX5_finesOf_16 rfl ?_
      refine V_icmp_ge (tgt := 59) hZ dX5_finesOf_18 (by decide) (fun cE => ?_) (fun cE => ?_)
      · refine V_iload_n hZ 2 dX5_finesOf_59 rfl rfl ?_
        refine V_iret hZ hE rfl (by rfl) dX5_finesOf_60 (by decide) (by decide) ?_
        exact ⟨rfl, rfl⟩
      · exact absurd (by decide) cE
    | succ m ih =>
      intro c hcm  w
      have hcN : c < 30 := by omega
      refine V_iload hZ dX5_finesOf_14 rfl ?_
      refine V_iload hZ dX5_finesOf_16 rfl ?_
      refine V_icmp_ge (tgt := 59) hZ dX5_finesOf_18 (by decide) (fun cE => ?_) (fun cE => ?_)
      · have cE2 : 30 ≤ c := (nI_leI (a := 30) (by decide) (by omega)).mp cE
        omega
      · refine V_aload_n hZ 3 dX5_finesOf_21 rfl rfl (by first | rfl | exact isR_rf _) ?_
        refine V_iload hZ dX5_finesOf_22 rfl ?_
        by_cases hi : c < nCp S
        · refine V_aaldn hZ dX5_finesOf_24 (by assumption) hcN (by decide) (v := .ref (adC S c)) (rowf_lt hi) ?_
          refine V_astore hZ dX5_finesOf_25 (by first | rfl | exact isR_rf _) (by decide) (by first | rfl | simp [okp, cat_rf, cat_ref, cat_int, cat_null]) ?_
          refine V.lvc (by simp only [List.set_cons_zero, List.set_cons_succ, Nat.reduceAdd]; rfl) ?_
          refine V_aload hZ dX5_finesOf_27 rfl (by first | rfl | exact isR_rf _) ?_
          refine V_ifnullR hZ dX5_finesOf_29 ?_
          have h3 := R.copy hi
          refine V_aload hZ dX5_finesOf_32 rfl (by first | rfl | exact isR_rf _) ?_
          refine V_getfield hZ fl_X5_202.r dX5_finesOf_34 (by assumption) (by rfl) ?_
          refine V_aload_n hZ 1 dX5_finesOf_37 rfl rfl (by first | rfl | exact isR_rf _) ?_
          refine V_acmp_ne (tgt := 53) hZ dX5_finesOf_38 (by decide) (by first | rfl | exact isR_rf _) (by first | rfl | exact isR_rf _) (fun c2 => ?_) (fun c2 => ?_)
          · refine V_iincv hZ dX5_finesOf_53 rfl (by decide) (by first | rfl | simp [okp, cat_rf, cat_ref, cat_int, cat_null]) (by first | exact nI_inc _ | rfl) ?_
            refine V.lvc (by simp only [List.set_cons_zero, List.set_cons_succ, Nat.reduceAdd]; rfl) ?_
            refine V_goto (tgt := 14) hZ dX5_finesOf_56 (by decide) ?_
            have e := ih (c + 1) (by omega) (some (.ref (adC S c)))
            have c3 : ¬ cpRd (cps S c) = some r := fun z => c2 (by rw [z]; rfl)
            rw [sm_z (by simp [fineF, c3])] at e
            exact e
          · have c3 : cpRd (cps S c) = some r := (rdMap R W (W_rdr W hi) (fun x hx => by cases hx; exact hr)).mp (rfIff.mp (c2.trans (show Value.ref (adD S r) = va_rf ((some r).map (adD S)) from rfl)))
            refine V_iload_n hZ 2 dX5_finesOf_41 rfl rfl ?_
            refine V_aload hZ dX5_finesOf_42 rfl (by first | rfl | exact isR_rf _) ?_
            refine V_aload_n hZ 0 dX5_finesOf_44 rfl rfl (by first | rfl | exact isR_rf _) ?_
            refine V_getfield hZ fl_X5_181.r dX5_finesOf_45 (by assumption) (by rfl) ?_
            refine V_invVp hZ me_X1_fineOn mi_X1_fineOn ml_X5_220 (c_fineOn Z.1 h h3 (tdy S)) dX5_finesOf_48 rfl rfl (by assumption) rfl rfl ⟨by decide, by decide⟩ (by first | decide | simp [cat_rf, cat_ref, cat_int, cat_null]) ⟨by decide, by decide⟩ ?_
            refine V_iadd hZ dX5_finesOf_51 ?_
            refine V_istore_n hZ 2 rfl dX5_finesOf_52 (by decide) (by first | rfl | simp [okp, cat_rf, cat_ref, cat_int, cat_null]) ?_
            refine V.lvc (by simp only [List.set_cons_zero, List.set_cons_succ, Nat.reduceAdd]; rfl) ?_
            refine V_iincv hZ dX5_finesOf_53 rfl (by decide) (by first | rfl | simp [okp, cat_rf, cat_ref, cat_int, cat_null]) (by first | exact nI_inc _ | rfl) ?_
            refine V.lvc (by simp only [List.set_cons_zero, List.set_cons_succ, Nat.reduceAdd]; rfl) ?_
            refine V_goto (tgt := 14) hZ dX5_finesOf_56 (by decide) ?_
            have e := ih (c + 1) (by omega) (some (.ref (adC S c)))
            have ef : fineF S r c = fineN (cpPl (cps S c)) (cpDy (cps S c)) (tdy S) := by simp [fineF, hi, c3]
            simp only [sm, ef] at e
            exact e
        · refine V_aaldn hZ dX5_finesOf_24 (by assumption) hcN (by decide) (v := .null) (rowf_ge hi) ?_
          refine V_astore hZ dX5_finesOf_25 (by first | rfl | exact isR_rf _) (by decide) (by first | rfl | simp [okp, cat_rf, cat_ref, cat_int, cat_null]) ?_
          refine V.lvc (by simp only [List.set_cons_zero, List.set_cons_succ, Nat.reduceAdd]; rfl) ?_
          refine V_aload hZ dX5_finesOf_27 rfl (by first | rfl | exact isR_rf _) ?_
          refine V_ifnullN (tgt := 53) hZ dX5_finesOf_29 (by decide) ?_
          refine V_iincv hZ dX5_finesOf_53 rfl (by decide) (by first | rfl | simp [okp, cat_rf, cat_ref, cat_int, cat_null]) (by first | exact nI_inc _ | rfl) ?_
          refine V.lvc (by simp only [List.set_cons_zero, List.set_cons_succ, Nat.reduceAdd]; rfl) ?_
          refine V_goto (tgt := 14) hZ dX5_finesOf_56 (by decide) ?_
          have e := ih (c + 1) (by omega) (some .null)
          rw [sm_z (by simp [fineF, hi])] at e
          exact e
  exact key 30 0 rfl none
end
end
section
/-! more counts; the first one that .. -/
def fN (P : Nat → Bool) : Nat → Nat → Option Nat
  | 0, _ => none
  | m + 1, c => if P c = true then some c else fN P m (c + 1)
theorem fN_t {P : Nat → Bool} {m c : Nat} (h : P c = true) : fN P (m + 1) c = some c := by simp [fN, h]
theorem fN_f {P : Nat → Bool} {m c : Nat} (h : P c = false) : fN P (m + 1) c = fN P m (c + 1) := by simp [fN, h]
theorem W_lin {S : St} (W : Wf S) {i : Nat} (hi : i < nRc S) : (lin S i).length ≤ 8 ∧ ∀ x ∈ lin S i, x < nRd S := ⟨(W.2.2.2.2.2.1 i hi).1, (W.2.2.2.2.2.1 i hi).2.1⟩
theorem W_nod {S : St} (W : Wf S) {i : Nat} (hi : i < nRc S) : (lin S i).Nodup := (W.2.2.2.2.2.1 i hi).2.2
theorem linInj {S : St} {h : HP} (R : Rep S h) (W : Wf S) {i : Nat} (hi : i < nRc S) {o : Option Nat} (ho : ∀ x, o = some x → x < nRd S) : ∀ x ∈ lin S i, ∀ r, o = some r → adD S x = adD S r → x = r := fun x hx r hr he => R.rdrInj W ((W_lin W hi).2 x hx) (ho r hr) he
section
variable (G : GC) {h : HP} {S : St} (R : Rep S h) (W : Wf S)
theorem c_holdsS (R : Rep S h) (W : Wf S) {i : Nat} (hi : i < nRc S) {o : Option Nat} (ho : ∀ x, o = some x → x < nRd S) : Calls G yX4_holds cX4_holds 6 (.some .boolean) 0 0 0 0 [.ref (adL S i), va_rf (o.map (adD S))] h (qV (.int (b01 (holdsB o (lin S i) = true))) h) qX :=
  c_holds G h (R.line hi) (R.row hi) (W_lin W hi).1 o (linInj R W hi ho)
def waitsB (S : St) (r : Nat) (c : Nat) : Bool := decide (c < nRc S) && (lin S c).contains r
theorem c_waitsOf (R : Rep S h) (W : Wf S) {r : Nat} (hr : r < nRd S) : Calls G yX5_waitsOf cX5_waitsOf 7 (.some .int) 1 25 0 0 [.ref (aH S), .ref (adD S r)] h (qV (.int (nI (cn (waitsB S r) 20))) h) qX := by
  have h1 := R.hall
  have h2 := R.records
  refine Calls_of1 (by decide +kernel) (by simp [cat_rf, cat_ref, cat_int, cat_null]) (by simp) (lv0 := [some (.ref (aH S)), some (.ref (adD S r)), none, none, none, none, none]) rfl ?_
  intro Z hG hZ hE hN
  subst hG
  refine V_iconst (v := 0) hZ dX5_waitsOf_0 (by decide) ?_
  refine V_istore_n hZ 2 rfl dX5_waitsOf_1 (by decide) (by first | rfl | simp [okp, cat_rf, cat_ref, cat_int, cat_null]) ?_
  refine V.lvc (by simp only [List.set_cons_zero, List.set_cons_succ, Nat.reduceAdd]; rfl) ?_
  refine V_aload_n hZ 0 dX5_waitsOf_2 rfl rfl (by first | rfl | exact isR_rf _) ?_
  refine V_getfield hZ fl_X5_17.r dX5_waitsOf_3 (by assumption) (by rfl) ?_
  refine V_astore_n hZ 3 rfl dX5_waitsOf_6 (by first | rfl | exact isR_rf _) (by decide) (by first | rfl | simp [okp, cat_rf, cat_ref, cat_int, cat_null]) ?_
  refine V.lvc (by simp only [List.set_cons_zero, List.set_cons_succ, Nat.reduceAdd]; rfl) ?_
  refine V_aload_n hZ 3 dX5_waitsOf_7 rfl rfl (by first | rfl | exact isR_rf _) ?_
  refine V_alenR hZ dX5_waitsOf_8 (by assumption) ?_
  refine V_istore hZ dX5_waitsOf_9 (by decide) (by first | rfl | simp [okp, cat_rf, cat_ref, cat_int, cat_null]) ?_
  refine V.lvc (by simp only [List.set_cons_zero, List.set_cons_succ, Nat.reduceAdd]; rfl) ?_
  refine V_iconst (v := 0) hZ dX5_waitsOf_11 (by decide) ?_
  refine V_istore hZ dX5_waitsOf_12 (by decide) (by first | rfl | simp [okp, cat_rf, cat_ref, cat_int, cat_null]) ?_
  refine V.lvc (by simp only [List.set_cons_zero, List.set_cons_succ, Nat.reduceAdd]; rfl) ?_
  have key : ∀ m c, c + m = 20 → ∀ w, V Z 14 [some (.ref (aH S)), some (.ref (adD S r)), some (.int (nI (cn (waitsB S r) c))), some (.ref (aRs S)), some (.int (nI 20)), some (.int (nI c)), w] [] h 0 0 := by
    intro m
    induction m with
    | zero =>
      intro c hcm  w
      have hc : c = 20 := by omega
      subst hc
      refine V_iload hZ dX5_waitsOf_14 rfl ?_
      refine V_iload hZ dX5_waitsOf_16 rfl ?_
      refine V_icmp_ge (tgt := 53) hZ dX5_waitsOf_18 (by decide) (fun cE => ?_) (fun cE => ?_)
      · refine V_iload_n hZ 2 dX5_waitsOf_53 rfl rfl ?_
        refine V_iret hZ hE rfl (by rfl) dX5_waitsOf_54 (by decide) (by decide) ?_
        exact ⟨rfl, rfl⟩
      · exact absurd (by decide) cE
    | succ m ih =>
      intro c hcm  w
      have hcN : c < 20 := by omega
      refine V_iload hZ dX5_waitsOf_14 rfl ?_
      refine V_iload hZ dX5_waitsOf_16 rfl ?_
      refine V_icmp_ge (tgt := 53) hZ dX5_waitsOf_18 (by decide) (fun cE => ?_) (fun cE => ?_)
      · have cE2 : 20 ≤ c := (nI_leI (a := 20) (by decide) (by omega)).mp cE
        omega
      · refine V_aload_n hZ 3 dX5_waitsOf_21 rfl rfl (by first | rfl | exact isR_rf _) ?_
        refine V_iload hZ dX5_waitsOf_22 rfl ?_
        by_cases hi : c < nRc S
        · refine V_aaldn hZ dX5_waitsOf_24 (by assumption) hcN (by decide) (v := .ref (adR S c)) (rowf_lt hi) ?_
          refine V_astore hZ dX5_waitsOf_25 (by first | rfl | exact isR_rf _) (by decide) (by first | rfl | simp [okp, cat_rf, cat_ref, cat_int, cat_null]) ?_
          refine V.lvc (by simp only [List.set_cons_zero, List.set_cons_succ, Nat.reduceAdd]; rfl) ?_
          refine V_aload hZ dX5_waitsOf_27 rfl (by first | rfl | exact isR_rf _) ?_
          refine V_ifnullR hZ dX5_waitsOf_29 ?_
          have h3 := R.rec hi
          have h4 := R.line hi
          refine V_aload hZ dX5_waitsOf_32 rfl (by first | rfl | exact isR_rf _) ?_
          refine V_getfield hZ fl_X5_235 dX5_waitsOf_34 (by assumption) (by rfl) ?_
          refine V_aload_n hZ 1 dX5_waitsOf_37 rfl rfl (by first | rfl | exact isR_rf _) ?_
          refine V_invVp hZ me_X4_holds mi_X4_holds ml_X5_239 (c_holdsS Z.1 R W hi (o := some r) (fun x hx => by cases hx; exact hr)) dX5_waitsOf_38 rfl rfl (by assumption) rfl rfl ⟨by decide, by decide⟩ (by first | decide | simp [cat_rf, cat_ref, cat_int, cat_null]) ⟨by decide, by decide⟩ ?_
          refine V_if_eq (tgt := 47) hZ dX5_waitsOf_41 (by decide) (fun c1 => ?_) (fun c1 => ?_)
          · refine V_iincv hZ dX5_waitsOf_47 rfl (by decide) (by first | rfl | simp [okp, cat_rf, cat_ref, cat_int, cat_null]) (by first | exact nI_inc _ | rfl) ?_
            refine V.lvc (by simp only [List.set_cons_zero, List.set_cons_succ, Nat.reduceAdd]; rfl) ?_
            refine V_goto (tgt := 14) hZ dX5_waitsOf_50 (by decide) ?_
            have e := ih (c + 1) (by omega) (some (.ref (adR S c)))
            have c2 : (lin S c).contains r = false := by
              cases hz : (lin S c).contains r
              · rfl
              · exact absurd c1 (by simp [b01, holdsB] at hz ⊢; exact hz)
            rw [cn_f (by simp only [waitsB, c2, Bool.and_false])] at e
            exact e
          · refine V_iincv hZ dX5_waitsOf_44 rfl (by decide) (by first | rfl | simp [okp, cat_rf, cat_ref, cat_int, cat_null]) (by first | exact nI_inc _ | rfl) ?_
            refine V.lvc (by simp only [List.set_cons_zero, List.set_cons_succ, Nat.reduceAdd]; rfl) ?_
            refine V_iincv hZ dX5_waitsOf_47 rfl (by decide) (by first | rfl | simp [okp, cat_rf, cat_ref, cat_int, cat_null]) (by first | exact nI_inc _ | rfl) ?_
            refine V.lvc (by simp only [List.set_cons_zero, List.set_cons_succ, Nat.reduceAdd]; rfl) ?_
            refine V_goto (tgt := 14) hZ dX5_waitsOf_50 (by decide) ?_
            have e := ih (c + 1) (by omega) (some (.ref (adR S c)))
            have c2 : (lin S c).contains r = true := by
              cases hz : (lin S c).contains r
              · exact absurd (by simp [b01, holdsB] at hz ⊢; exact hz) c1
              · rfl
            rw [cn_t (by simp only [waitsB, c2, hi, decide_true, Bool.and_self])] at e
            exact e
        · refine V_aaldn hZ dX5_waitsOf_24 (by assumption) hcN (by decide) (v := .null) (rowf_ge hi) ?_
          refine V_astore hZ dX5_waitsOf_25 (by first | rfl | exact isR_rf _) (by decide) (by first | rfl | simp [okp, cat_rf, cat_ref, cat_int, cat_null]) ?_
          refine V.lvc (by simp only [List.set_cons_zero, List.set_cons_succ, Nat.reduceAdd]; rfl) ?_
          refine V_aload hZ dX5_waitsOf_27 rfl (by first | rfl | exact isR_rf _) ?_
          refine V_ifnullN (tgt := 47) hZ dX5_waitsOf_29 (by decide) ?_
          refine V_iincv hZ dX5_waitsOf_47 rfl (by decide) (by first | rfl | simp [okp, cat_rf, cat_ref, cat_int, cat_null]) (by first | exact nI_inc _ | rfl) ?_
          refine V.lvc (by simp only [List.set_cons_zero, List.set_cons_succ, Nat.reduceAdd]; rfl) ?_
          refine V_goto (tgt := 14) hZ dX5_waitsOf_50 (by decide) ?_
          have e := ih (c + 1) (by omega) (some .null)
          rw [cn_f (by simp [waitsB, hi])] at e
          exact e
  exact key 20 0 rfl none
def liveB (S : St) (c : Nat) : Bool := decide (c < nRc S ∧ rcWe (rcs S c) = none)
theorem c_liveRecords (R : Rep S h) : Calls G yX5_liveRecords cX5_liveRecords 6 (.some .int) 1 20 0 0 [.ref (aH S)] h (qV (.int (nI (cn (liveB S) 20))) h) qX := by
  have h1 := R.hall
  have h2 := R.records
  refine Calls_of1 (by decide +kernel) (by simp [cat_rf, cat_ref, cat_int, cat_null]) (by simp) (lv0 := [some (.ref (aH S)), none, none, none, none, none]) rfl ?_
  intro Z hG hZ hE hN
  subst hG
  refine V_iconst (v := 0) hZ dX5_liveRecords_0 (by decide) ?_
  refine V_istore_n hZ 1 rfl dX5_liveRecords_1 (by decide) (by first | rfl | simp [okp, cat_rf, cat_ref, cat_int, cat_null]) ?_
  refine V.lvc (by simp only [List.set_cons_zero, List.set_cons_succ, Nat.reduceAdd]; rfl) ?_
  refine V_aload_n hZ 0 dX5_liveRecords_2 rfl rfl (by first | rfl | exact isR_rf _) ?_
  refine V_getfield hZ fl_X5_17.r dX5_liveRecords_3 (by assumption) (by rfl) ?_
  refine V_astore_n hZ 2 rfl dX5_liveRecords_6 (by first | rfl | exact isR_rf _) (by decide) (by first | rfl | simp [okp, cat_rf, cat_ref, cat_int, cat_null]) ?_
  refine V.lvc (by simp only [List.set_cons_zero, List.set_cons_succ, Nat.reduceAdd]; rfl) ?_
  refine V_aload_n hZ 2 dX5_liveRecords_7 rfl rfl (by first | rfl | exact isR_rf _) ?_
  refine V_alenR hZ dX5_liveRecords_8 (by assumption) ?_
  refine V_istore_n hZ 3 rfl dX5_liveRecords_9 (by decide) (by first | rfl | simp [okp, cat_rf, cat_ref, cat_int, cat_null]) ?_
  refine V.lvc (by simp only [List.set_cons_zero, List.set_cons_succ, Nat.reduceAdd]; rfl) ?_
  refine V_iconst (v := 0) hZ dX5_liveRecords_10 (by decide) ?_
  refine V_istore hZ dX5_liveRecords_11 (by decide) (by first | rfl | simp [okp, cat_rf, cat_ref, cat_int, cat_null]) ?_
  refine V.lvc (by simp only [List.set_cons_zero, List.set_cons_succ, Nat.reduceAdd]; rfl) ?_
  have key : ∀ m c, c + m = 20 → ∀ w, V Z 13 [some (.ref (aH S)), some (.int (nI (cn (liveB S) c))), some (.ref (aRs S)), some (.int (nI 20)), some (.int (nI c)), w] [] h 0 0 := by
    intro m
    induction m with
    | zero =>
      intro c hcm  w
      have hc : c = 20 := by omega
      subst hc
      refine V_iload hZ dX5_liveRecords_13 rfl ?_
      refine V_iload_n hZ 3 dX5_liveRecords_15 rfl rfl ?_
      refine V_icmp_ge (tgt := 47) hZ dX5_liveRecords_16 (by decide) (fun cE => ?_) (fun cE => ?_)
      · refine V_iload_n hZ 1 dX5_liveRecords_47 rfl rfl ?_
        refine V_iret hZ hE rfl (by rfl) dX5_liveRecords_48 (by decide) (by decide) ?_
        exact ⟨rfl, rfl⟩
      · exact absurd (by decide) cE
    | succ m ih =>
      intro c hcm  w
      have hcN : c < 20 := by omega
      refine V_iload hZ dX5_liveRecords_13 rfl ?_
      refine V_iload_n hZ 3 dX5_liveRecords_15 rfl rfl ?_
      refine V_icmp_ge (tgt := 47) hZ dX5_liveRecords_16 (by decide) (fun cE => ?_) (fun cE => ?_)
      · have cE2 : 20 ≤ c := (nI_leI (a := 20) (by decide) (by omega)).mp cE
        omega
      · refine V_aload_n hZ 2 dX5_liveRecords_19 rfl rfl (by first | rfl | exact isR_rf _) ?_
        refine V_iload hZ dX5_liveRecords_20 rfl ?_
        by_cases hi : c < nRc S
        · refine V_aaldn hZ dX5_liveRecords_22 (by assumption) hcN (by decide) (v := .ref (adR S c)) (rowf_lt hi) ?_
          refine V_astore hZ dX5_liveRecords_23 (by first | rfl | exact isR_rf _) (by decide) (by first | rfl | simp [okp, cat_rf, cat_ref, cat_int, cat_null]) ?_
          refine V.lvc (by simp only [List.set_cons_zero, List.set_cons_succ, Nat.reduceAdd]; rfl) ?_
          refine V_aload hZ dX5_liveRecords_25 rfl (by first | rfl | exact isR_rf _) ?_
          refine V_ifnullR hZ dX5_liveRecords_27 ?_
          have h3 := R.rec hi
          refine V_aload hZ dX5_liveRecords_30 rfl (by first | rfl | exact isR_rf _) ?_
          refine V_invVp hZ me_X0_isLive mi_X0_isLive ml_X5_99 (c_isLive Z.1 h h3) dX5_liveRecords_32 rfl rfl (by assumption) rfl rfl ⟨by decide, by decide⟩ (by first | decide | simp [cat_rf, cat_ref, cat_int, cat_null]) ⟨by decide, by decide⟩ ?_
          refine V_if_eq (tgt := 41) hZ dX5_liveRecords_35 (by decide) (fun c1 => ?_) (fun c1 => ?_)
          · refine V_iincv hZ dX5_liveRecords_41 rfl (by decide) (by first | rfl | simp [okp, cat_rf, cat_ref, cat_int, cat_null]) (by first | exact nI_inc _ | rfl) ?_
            refine V.lvc (by simp only [List.set_cons_zero, List.set_cons_succ, Nat.reduceAdd]; rfl) ?_
            refine V_goto (tgt := 13) hZ dX5_liveRecords_44 (by decide) ?_
            have e := ih (c + 1) (by omega) (some (.ref (adR S c)))
            have c2 : ¬ rcWe (rcs S c) = none := fun z => absurd c1 (by simp [b01, z])
            rw [cn_f (by simp [liveB, c2])] at e
            exact e
          · refine V_iincv hZ dX5_liveRecords_38 rfl (by decide) (by first | rfl | simp [okp, cat_rf, cat_ref, cat_int, cat_null]) (by first | exact nI_inc _ | rfl) ?_
            refine V.lvc (by simp only [List.set_cons_zero, List.set_cons_succ, Nat.reduceAdd]; rfl) ?_
            refine V_iincv hZ dX5_liveRecords_41 rfl (by decide) (by first | rfl | simp [okp, cat_rf, cat_ref, cat_int, cat_null]) (by first | exact nI_inc _ | rfl) ?_
            refine V.lvc (by simp only [List.set_cons_zero, List.set_cons_succ, Nat.reduceAdd]; rfl) ?_
            refine V_goto (tgt := 13) hZ dX5_liveRecords_44 (by decide) ?_
            have e := ih (c + 1) (by omega) (some (.ref (adR S c)))
            have c2 : rcWe (rcs S c) = none := by
              cases hz : rcWe (rcs S c) with
              | none => rfl
              | some x => exact absurd (by simp [b01, hz]) c1
            rw [cn_t (by simp [liveB, c2, hi])] at e
            exact e
        · refine V_aaldn hZ dX5_liveRecords_22 (by assumption) hcN (by decide) (v := .null) (rowf_ge hi) ?_
          refine V_astore hZ dX5_liveRecords_23 (by first | rfl | exact isR_rf _) (by decide) (by first | rfl | simp [okp, cat_rf, cat_ref, cat_int, cat_null]) ?_
          refine V.lvc (by simp only [List.set_cons_zero, List.set_cons_succ, Nat.reduceAdd]; rfl) ?_
          refine V_aload hZ dX5_liveRecords_25 rfl (by first | rfl | exact isR_rf _) ?_
          refine V_ifnullN (tgt := 41) hZ dX5_liveRecords_27 (by decide) ?_
          refine V_iincv hZ dX5_liveRecords_41 rfl (by decide) (by first | rfl | simp [okp, cat_rf, cat_ref, cat_int, cat_null]) (by first | exact nI_inc _ | rfl) ?_
          refine V.lvc (by simp only [List.set_cons_zero, List.set_cons_succ, Nat.reduceAdd]; rfl) ?_
          refine V_goto (tgt := 13) hZ dX5_liveRecords_44 (by decide) ?_
          have e := ih (c + 1) (by omega) (some .null)
          rw [cn_f (by simp [liveB, hi])] at e
          exact e
  exact key 20 0 rfl none
def owedF (S : St) (c : Nat) : Int32 := if c < nRd S then rdOw (rds S c) else 0
theorem c_owedByAll (R : Rep S h) : Calls G yX5_owedByAll cX5_owedByAll 6 (.some .int) 0 0 0 0 [.ref (aH S)] h (qV (.int (sm (owedF S) 8)) h) qX := by
  have h1 := R.hall
  have h2 := R.readers
  refine Calls_of1 (by decide +kernel) (by simp [cat_rf, cat_ref, cat_int, cat_null]) (by simp) (lv0 := [some (.ref (aH S)), none, none, none, none, none]) rfl ?_
  intro Z hG hZ hE hN
  subst hG
  refine V_iconst (v := 0) hZ dX5_owedByAll_0 (by decide) ?_
  refine V_istore_n hZ 1 rfl dX5_owedByAll_1 (by decide) (by first | rfl | simp [okp, cat_rf, cat_ref, cat_int, cat_null]) ?_
  refine V.lvc (by simp only [List.set_cons_zero, List.set_cons_succ, Nat.reduceAdd]; rfl) ?_
  refine V_aload_n hZ 0 dX5_owedByAll_2 rfl rfl (by first | rfl | exact isR_rf _) ?_
  refine V_getfield hZ fl_X5_29.r dX5_owedByAll_3 (by assumption) (by rfl) ?_
  refine V_astore_n hZ 2 rfl dX5_owedByAll_6 (by first | rfl | exact isR_rf _) (by decide) (by first | rfl | simp [okp, cat_rf, cat_ref, cat_int, cat_null]) ?_
  refine V.lvc (by simp only [List.set_cons_zero, List.set_cons_succ, Nat.reduceAdd]; rfl) ?_
  refine V_aload_n hZ 2 dX5_owedByAll_7 rfl rfl (by first | rfl | exact isR_rf _) ?_
  refine V_alenR hZ dX5_owedByAll_8 (by assumption) ?_
  refine V_istore_n hZ 3 rfl dX5_owedByAll_9 (by decide) (by first | rfl | simp [okp, cat_rf, cat_ref, cat_int, cat_null]) ?_
  refine V.lvc (by simp only [List.set_cons_zero, List.set_cons_succ, Nat.reduceAdd]; rfl) ?_
  refine V_iconst (v := 0) hZ dX5_owedByAll_10 (by decide) ?_
  refine V_istore hZ dX5_owedByAll_11 (by decide) (by first | rfl | simp [okp, cat_rf, cat_ref, cat_int, cat_null]) ?_
  refine V.lvc (by simp only [List.set_cons_zero, List.set_cons_succ, Nat.reduceAdd]; rfl) ?_
  have key : ∀ m c, c + m = 8 → ∀ w, V Z 13 [some (.ref (aH S)), some (.int (sm (owedF S) c)), some (.ref (aDs S)), some (.int (nI 8)), some (.int (nI c)), w] [] h 0 0 := by
    intro m
    induction m with
    | zero =>
      intro c hcm  w
      have hc : c = 8 := by omega
      subst hc
      refine V_iload hZ dX5_owedByAll_13 rfl ?_
      refine V_iload_n hZ 3 dX5_owedByAll_15 rfl rfl ?_
      refine V_icmp_ge (tgt := 44) hZ dX5_owedByAll_16 (by decide) (fun cE => ?_) (fun cE => ?_)
      · refine V_iload_n hZ 1 dX5_owedByAll_44 rfl rfl ?_
        refine V_iret hZ hE rfl (by rfl) dX5_owedByAll_45 (by decide) (by decide) ?_
        exact ⟨rfl, rfl⟩
      · exact absurd (by decide) cE
    | succ m ih =>
      intro c hcm  w
      have hcN : c < 8 := by omega
      refine V_iload hZ dX5_owedByAll_13 rfl ?_
      refine V_iload_n hZ 3 dX5_owedByAll_15 rfl rfl ?_
      refine V_icmp_ge (tgt := 44) hZ dX5_owedByAll_16 (by decide) (fun cE => ?_) (fun cE => ?_)
      · have cE2 : 8 ≤ c := (nI_leI (a := 8) (by decide) (by omega)).mp cE
        omega
      · refine V_aload_n hZ 2 dX5_owedByAll_19 rfl rfl (by first | rfl | exact isR_rf _) ?_
        refine V_iload hZ dX5_owedByAll_20 rfl ?_
        by_cases hi : c < nRd S
        · refine V_aaldn hZ dX5_owedByAll_22 (by assumption) hcN (by decide) (v := .ref (adD S c)) (rowf_lt hi) ?_
          refine V_astore hZ dX5_owedByAll_23 (by first | rfl | exact isR_rf _) (by decide) (by first | rfl | simp [okp, cat_rf, cat_ref, cat_int, cat_null]) ?_
          refine V.lvc (by simp only [List.set_cons_zero, List.set_cons_succ, Nat.reduceAdd]; rfl) ?_
          refine V_aload hZ dX5_owedByAll_25 rfl (by first | rfl | exact isR_rf _) ?_
          refine V_ifnullR hZ dX5_owedByAll_27 ?_
          have h3 := R.rdr hi
          refine V_iload_n hZ 1 dX5_owedByAll_30 rfl rfl ?_
          refine V_aload hZ dX5_owedByAll_31 rfl (by first | rfl | exact isR_rf _) ?_
          refine V_getfield hZ fl_X5_172.r dX5_owedByAll_33 (by assumption) (by rfl) ?_
          refine V_iadd hZ dX5_owedByAll_36 ?_
          refine V_istore_n hZ 1 rfl dX5_owedByAll_37 (by decide) (by first | rfl | simp [okp, cat_rf, cat_ref, cat_int, cat_null]) ?_
          refine V.lvc (by simp only [List.set_cons_zero, List.set_cons_succ, Nat.reduceAdd]; rfl) ?_
          refine V_iincv hZ dX5_owedByAll_38 rfl (by decide) (by first | rfl | simp [okp, cat_rf, cat_ref, cat_int, cat_null]) (by first | exact nI_inc _ | rfl) ?_
          refine V.lvc (by simp only [List.set_cons_zero, List.set_cons_succ, Nat.reduceAdd]; rfl) ?_
          refine V_goto (tgt := 13) hZ dX5_owedByAll_41 (by decide) ?_
          have e := ih (c + 1) (by omega) (some (.ref (adD S c)))
          have ef : owedF S c = rdOw (rds S c) := by simp [owedF, hi]
          simp only [sm, ef] at e
          exact e
        · refine V_aaldn hZ dX5_owedByAll_22 (by assumption) hcN (by decide) (v := .null) (rowf_ge hi) ?_
          refine V_astore hZ dX5_owedByAll_23 (by first | rfl | exact isR_rf _) (by decide) (by first | rfl | simp [okp, cat_rf, cat_ref, cat_int, cat_null]) ?_
          refine V.lvc (by simp only [List.set_cons_zero, List.set_cons_succ, Nat.reduceAdd]; rfl) ?_
          refine V_aload hZ dX5_owedByAll_25 rfl (by first | rfl | exact isR_rf _) ?_
          refine V_ifnullN (tgt := 38) hZ dX5_owedByAll_27 (by decide) ?_
          refine V_iincv hZ dX5_owedByAll_38 rfl (by decide) (by first | rfl | simp [okp, cat_rf, cat_ref, cat_int, cat_null]) (by first | exact nI_inc _ | rfl) ?_
          refine V.lvc (by simp only [List.set_cons_zero, List.set_cons_succ, Nat.reduceAdd]; rfl) ?_
          refine V_goto (tgt := 13) hZ dX5_owedByAll_41 (by decide) ?_
          have e := ih (c + 1) (by omega) (some .null)
          rw [sm_z (by simp [owedF, hi])] at e
          exact e
  exact key 8 0 rfl none
def notLostB (S : St) (r : Nat) (c : Nat) : Bool := decide (c < nCp S ∧ cpRc (cps S c) = r ∧ ¬ cpPl (cps S c) = 3)
theorem c_copiesNotLost (R : Rep S h) (W : Wf S) {r : Nat} (hr : r < nRc S) : Calls G yX5_copiesNotLost cX5_copiesNotLost 7 (.some .int) 0 0 0 0 [.ref (aH S), .ref (adR S r)] h (qV (.int (nI (cn (notLostB S r) 30))) h) qX := by
  have h1 := R.hall
  have h2 := R.copies
  refine Calls_of1 (by decide +kernel) (by simp [cat_rf, cat_ref, cat_int, cat_null]) (by simp) (lv0 := [some (.ref (aH S)), some (.ref (adR S r)), none, none, none, none, none]) rfl ?_
  intro Z hG hZ hE hN
  subst hG
  refine V_iconst (v := 0) hZ dX5_copiesNotLost_0 (by decide) ?_
  refine V_istore_n hZ 2 rfl dX5_copiesNotLost_1 (by decide) (by first | rfl | simp [okp, cat_rf, cat_ref, cat_int, cat_null]) ?_
  refine V.lvc (by simp only [List.set_cons_zero, List.set_cons_succ, Nat.reduceAdd]; rfl) ?_
  refine V_aload_n hZ 0 dX5_copiesNotLost_2 rfl rfl (by first | rfl | exact isR_rf _) ?_
  refine V_getfield hZ fl_X5_23.r dX5_copiesNotLost_3 (by assumption) (by rfl) ?_
  refine V_astore_n hZ 3 rfl dX5_copiesNotLost_6 (by first | rfl | exact isR_rf _) (by decide) (by first | rfl | simp [okp, cat_rf, cat_ref, cat_int, cat_null]) ?_
  refine V.lvc (by simp only [List.set_cons_zero, List.set_cons_succ, Nat.reduceAdd]; rfl) ?_
  refine V_aload_n hZ 3 dX5_copiesNotLost_7 rfl rfl (by first | rfl | exact isR_rf _) ?_
  refine V_alenR hZ dX5_copiesNotLost_8 (by assumption) ?_
  refine V_istore hZ dX5_copiesNotLost_9 (by decide) (by first | rfl | simp [okp, cat_rf, cat_ref, cat_int, cat_null]) ?_
  refine V.lvc (by simp only [List.set_cons_zero, List.set_cons_succ, Nat.reduceAdd]; rfl) ?_
  refine V_iconst (v := 0) hZ dX5_copiesNotLost_11 (by decide) ?_
  refine V_istore hZ dX5_copiesNotLost_12 (by decide) (by first | rfl | simp [okp, cat_rf, cat_ref, cat_int, cat_null]) ?_
  refine V.lvc (by simp only [List.set_cons_zero, List.set_cons_succ, Nat.reduceAdd]; rfl) ?_
  have key : ∀ m c, c + m = 30 → ∀ w, V Z 14 [some (.ref (aH S)), some (.ref (adR S r)), some (.int (nI (cn (notLostB S r) c))), some (.ref (aCs S)), some (.int (nI 30)), some (.int (nI c)), w] [] h 0 0 := by
    intro m
    induction m with
    | zero =>
      intro c hcm  w
      have hc : c = 30 := by omega
      subst hc
      refine V_iload hZ dX5_copiesNotLost_14 rfl ?_
      refine V_iload hZ dX5_copiesNotLost_16 rfl ?_
      refine V_icmp_ge (tgt := 59) hZ dX5_copiesNotLost_18 (by decide) (fun cE => ?_) (fun cE => ?_)
      · refine V_iload_n hZ 2 dX5_copiesNotLost_59 rfl rfl ?_
        refine V_iret hZ hE rfl (by rfl) dX5_copiesNotLost_60 (by decide) (by decide) ?_
        exact ⟨rfl, rfl⟩
      · exact absurd (by decide) cE
    | succ m ih =>
      intro c hcm  w
      have hcN : c < 30 := by omega
      refine V_iload hZ dX5_copiesNotLost_14 rfl ?_
      refine V_iload hZ dX5_copiesNotLost_16 rfl ?_
      refine V_icmp_ge (tgt := 59) hZ dX5_copiesNotLost_18 (by decide) (fun cE => ?_) (fun cE => ?_)
      · have cE2 : 30 ≤ c := (nI_leI (a := 30) (by decide) (by omega)).mp cE
        omega
      · refine V_aload_n hZ 3 dX5_copiesNotLost_21 rfl rfl (by first | rfl | exact isR_rf _) ?_
        refine V_iload hZ dX5_copiesNotLost_22 rfl ?_
        by_cases hi : c < nCp S
        · refine V_aaldn hZ dX5_copiesNotLost_24 (by assumption) hcN (by decide) (v := .ref (adC S c)) (rowf_lt hi) ?_
          refine V_astore hZ dX5_copiesNotLost_25 (by first | rfl | exact isR_rf _) (by decide) (by first | rfl | simp [okp, cat_rf, cat_ref, cat_int, cat_null]) ?_
          refine V.lvc (by simp only [List.set_cons_zero, List.set_cons_succ, Nat.reduceAdd]; rfl) ?_
          refine V_aload hZ dX5_copiesNotLost_27 rfl (by first | rfl | exact isR_rf _) ?_
          refine V_ifnullR hZ dX5_copiesNotLost_29 ?_
          have h3 := R.copy hi
          refine V_aload hZ dX5_copiesNotLost_32 rfl (by first | rfl | exact isR_rf _) ?_
          refine V_getfield hZ fl_X5_192.r dX5_copiesNotLost_34 (by assumption) (by rfl) ?_
          refine V_aload_n hZ 1 dX5_copiesNotLost_37 rfl rfl (by first | rfl | exact isR_rf _) ?_
          refine V_acmp_ne (tgt := 53) hZ dX5_copiesNotLost_38 (by decide) (by first | rfl | exact isR_rf _) (by first | rfl | exact isR_rf _) (fun c1 => ?_) (fun c1 => ?_)
          · refine V_iincv hZ dX5_copiesNotLost_53 rfl (by decide) (by first | rfl | simp [okp, cat_rf, cat_ref, cat_int, cat_null]) (by first | exact nI_inc _ | rfl) ?_
            refine V.lvc (by simp only [List.set_cons_zero, List.set_cons_succ, Nat.reduceAdd]; rfl) ?_
            refine V_goto (tgt := 14) hZ dX5_copiesNotLost_56 (by decide) ?_
            have e := ih (c + 1) (by omega) (some (.ref (adC S c)))
            have c2 : ¬ cpRc (cps S c) = r := fun z => c1 (by rw [z])
            rw [cn_f (by simp [notLostB, c2])] at e
            exact e
          · have c2 : cpRc (cps S c) = r := (recIff R W (W_rec W hi) hr).mp (refIff.mp c1)
            refine V_aload hZ dX5_copiesNotLost_41 rfl (by first | rfl | exact isR_rf _) ?_
            refine V_getfield hZ fl_X5_215.r dX5_copiesNotLost_43 (by assumption) (by rfl) ?_
            refine V_iconst (v := 3) hZ dX5_copiesNotLost_46 (by decide) ?_
            refine V_icmp_eq (tgt := 53) hZ dX5_copiesNotLost_47 (by decide) (fun c3 => ?_) (fun c3 => ?_)
            · refine V_iincv hZ dX5_copiesNotLost_53 rfl (by decide) (by first | rfl | simp [okp, cat_rf, cat_ref, cat_int, cat_null]) (by first | exact nI_inc _ | rfl) ?_
              refine V.lvc (by simp only [List.set_cons_zero, List.set_cons_succ, Nat.reduceAdd]; rfl) ?_
              refine V_goto (tgt := 14) hZ dX5_copiesNotLost_56 (by decide) ?_
              have e := ih (c + 1) (by omega) (some (.ref (adC S c)))
              rw [cn_f (by simp [notLostB, c3])] at e
              exact e
            · refine V_iincv hZ dX5_copiesNotLost_50 rfl (by decide) (by first | rfl | simp [okp, cat_rf, cat_ref, cat_int, cat_null]) (by first | exact nI_inc _ | rfl) ?_
              refine V.lvc (by simp only [List.set_cons_zero, List.set_cons_succ, Nat.reduceAdd]; rfl) ?_
              refine V_iincv hZ dX5_copiesNotLost_53 rfl (by decide) (by first | rfl | simp [okp, cat_rf, cat_ref, cat_int, cat_null]) (by first | exact nI_inc _ | rfl) ?_
              refine V.lvc (by simp only [List.set_cons_zero, List.set_cons_succ, Nat.reduceAdd]; rfl) ?_
              refine V_goto (tgt := 14) hZ dX5_copiesNotLost_56 (by decide) ?_
              have e := ih (c + 1) (by omega) (some (.ref (adC S c)))
              rw [cn_t (by simp [notLostB, c2, c3, hi])] at e
              exact e
        · refine V_aaldn hZ dX5_copiesNotLost_24 (by assumption) hcN (by decide) (v := .null) (rowf_ge hi) ?_
          refine V_astore hZ dX5_copiesNotLost_25 (by first | rfl | exact isR_rf _) (by decide) (by first | rfl | simp [okp, cat_rf, cat_ref, cat_int, cat_null]) ?_
          refine V.lvc (by simp only [List.set_cons_zero, List.set_cons_succ, Nat.reduceAdd]; rfl) ?_
          refine V_aload hZ dX5_copiesNotLost_27 rfl (by first | rfl | exact isR_rf _) ?_
          refine V_ifnullN (tgt := 53) hZ dX5_copiesNotLost_29 (by decide) ?_
          refine V_iincv hZ dX5_copiesNotLost_53 rfl (by decide) (by first | rfl | simp [okp, cat_rf, cat_ref, cat_int, cat_null]) (by first | exact nI_inc _ | rfl) ?_
          refine V.lvc (by simp only [List.set_cons_zero, List.set_cons_succ, Nat.reduceAdd]; rfl) ?_
          refine V_goto (tgt := 14) hZ dX5_copiesNotLost_56 (by decide) ?_
          have e := ih (c + 1) (by omega) (some .null)
          rw [cn_f (by simp [notLostB, hi])] at e
          exact e
  exact key 30 0 rfl none
def hasB (S : St) (x r : Nat) (c : Nat) : Bool := decide (c < nCp S ∧ cpRc (cps S c) = r ∧ cpPl (cps S c) = 1 ∧ cpRd (cps S c) = some x)
theorem c_hasCopyOf (R : Rep S h) (W : Wf S) {x r : Nat} (hx : x < nRd S) (hr : r < nRc S) : Calls G yX5_hasCopyOf cX5_hasCopyOf 7 (.some .boolean) 0 0 0 0 [.ref (aH S), .ref (adD S x), .ref (adR S r)] h (qV (.int (b01 ((fN (hasB S x r) 30 0).isSome = true))) h) qX := by
  have h1 := R.hall
  have h2 := R.copies
  refine Calls_of1 (by decide +kernel) (by simp [cat_rf, cat_ref, cat_int, cat_null]) (by simp) (lv0 := [some (.ref (aH S)), some (.ref (adD S x)), some (.ref (adR S r)), none, none, none, none]) rfl ?_
  intro Z hG hZ hE hN
  subst hG
  refine V_aload_n hZ 0 dX5_hasCopyOf_0 rfl rfl (by first | rfl | exact isR_rf _) ?_
  refine V_getfield hZ fl_X5_23.r dX5_hasCopyOf_1 (by assumption) (by rfl) ?_
  refine V_astore_n hZ 3 rfl dX5_hasCopyOf_4 (by first | rfl | exact isR_rf _) (by decide) (by first | rfl | simp [okp, cat_rf, cat_ref, cat_int, cat_null]) ?_
  refine V.lvc (by simp only [List.set_cons_zero, List.set_cons_succ, Nat.reduceAdd]; rfl) ?_
  refine V_aload_n hZ 3 dX5_hasCopyOf_5 rfl rfl (by first | rfl | exact isR_rf _) ?_
  refine V_alenR hZ dX5_hasCopyOf_6 (by assumption) ?_
  refine V_istore hZ dX5_hasCopyOf_7 (by decide) (by first | rfl | simp [okp, cat_rf, cat_ref, cat_int, cat_null]) ?_
  refine V.lvc (by simp only [List.set_cons_zero, List.set_cons_succ, Nat.reduceAdd]; rfl) ?_
  refine V_iconst (v := 0) hZ dX5_hasCopyOf_9 (by decide) ?_
  refine V_istore hZ dX5_hasCopyOf_10 (by decide) (by first | rfl | simp [okp, cat_rf, cat_ref, cat_int, cat_null]) ?_
  refine V.lvc (by simp only [List.set_cons_zero, List.set_cons_succ, Nat.reduceAdd]; rfl) ?_
  have key : ∀ m c, c + m = 30 → fN (hasB S x r) m c = fN (hasB S x r) 30 0 → ∀ w, V Z 12 [some (.ref (aH S)), some (.ref (adD S x)), some (.ref (adR S r)), some (.ref (aCs S)), some (.int (nI 30)), some (.int (nI c)), w] [] h 0 0 := by
    intro m
    induction m with
    | zero =>
      intro c hcm hf w
      have hc : c = 30 := by omega
      subst hc
      refine V_iload hZ dX5_hasCopyOf_12 rfl ?_
      refine V_iload hZ dX5_hasCopyOf_14 rfl ?_
      refine V_icmp_ge (tgt := 65) hZ dX5_hasCopyOf_16 (by decide) (fun cE => ?_) (fun cE => ?_)
      · refine V_iconst (v := 0) hZ dX5_hasCopyOf_65 (by decide) ?_
        refine V_iret hZ hE rfl (by rfl) dX5_hasCopyOf_66 (by decide) (by decide) ?_
        exact ⟨by rw [← hf]; rfl, rfl⟩
      · exact absurd (by decide) cE
    | succ m ih =>
      intro c hcm hf w
      have hcN : c < 30 := by omega
      refine V_iload hZ dX5_hasCopyOf_12 rfl ?_
      refine V_iload hZ dX5_hasCopyOf_14 rfl ?_
      refine V_icmp_ge (tgt := 65) hZ dX5_hasCopyOf_16 (by decide) (fun cE => ?_) (fun cE => ?_)
      · have cE2 : 30 ≤ c := (nI_leI (a := 30) (by decide) (by omega)).mp cE
        omega
      · refine V_aload_n hZ 3 dX5_hasCopyOf_19 rfl rfl (by first | rfl | exact isR_rf _) ?_
        refine V_iload hZ dX5_hasCopyOf_20 rfl ?_
        by_cases hi : c < nCp S
        · refine V_aaldn hZ dX5_hasCopyOf_22 (by assumption) hcN (by decide) (v := .ref (adC S c)) (rowf_lt hi) ?_
          refine V_astore hZ dX5_hasCopyOf_23 (by first | rfl | exact isR_rf _) (by decide) (by first | rfl | simp [okp, cat_rf, cat_ref, cat_int, cat_null]) ?_
          refine V.lvc (by simp only [List.set_cons_zero, List.set_cons_succ, Nat.reduceAdd]; rfl) ?_
          refine V_aload hZ dX5_hasCopyOf_25 rfl (by first | rfl | exact isR_rf _) ?_
          refine V_ifnullR hZ dX5_hasCopyOf_27 ?_
          have h3 := R.copy hi
          refine V_aload hZ dX5_hasCopyOf_30 rfl (by first | rfl | exact isR_rf _) ?_
          refine V_getfield hZ fl_X5_192.r dX5_hasCopyOf_32 (by assumption) (by rfl) ?_
          refine V_aload_n hZ 2 dX5_hasCopyOf_35 rfl rfl (by first | rfl | exact isR_rf _) ?_
          refine V_acmp_ne (tgt := 59) hZ dX5_hasCopyOf_36 (by decide) (by first | rfl | exact isR_rf _) (by first | rfl | exact isR_rf _) (fun c1 => ?_) (fun c1 => ?_)
          · refine V_iincv hZ dX5_hasCopyOf_59 rfl (by decide) (by first | rfl | simp [okp, cat_rf, cat_ref, cat_int, cat_null]) (by first | exact nI_inc _ | rfl) ?_
            refine V.lvc (by simp only [List.set_cons_zero, List.set_cons_succ, Nat.reduceAdd]; rfl) ?_
            refine V_goto (tgt := 12) hZ dX5_hasCopyOf_62 (by decide) ?_
            have c2 : ¬ cpRc (cps S c) = r := fun z => c1 (by rw [z])
            exact ih (c + 1) (by omega) (by rw [← hf, fN_f (by simp [hasB, c2])]) (some (.ref (adC S c)))
          · have c2 : cpRc (cps S c) = r := (recIff R W (W_rec W hi) hr).mp (refIff.mp c1)
            refine V_aload hZ dX5_hasCopyOf_39 rfl (by first | rfl | exact isR_rf _) ?_
            refine V_getfield hZ fl_X5_215.r dX5_hasCopyOf_41 (by assumption) (by rfl) ?_
            refine V_iconst (v := 1) hZ dX5_hasCopyOf_44 (by decide) ?_
            refine V_icmp_ne (tgt := 59) hZ dX5_hasCopyOf_45 (by decide) (fun c3 => ?_) (fun c3 => ?_)
            · refine V_iincv hZ dX5_hasCopyOf_59 rfl (by decide) (by first | rfl | simp [okp, cat_rf, cat_ref, cat_int, cat_null]) (by first | exact nI_inc _ | rfl) ?_
              refine V.lvc (by simp only [List.set_cons_zero, List.set_cons_succ, Nat.reduceAdd]; rfl) ?_
              refine V_goto (tgt := 12) hZ dX5_hasCopyOf_62 (by decide) ?_
              exact ih (c + 1) (by omega) (by rw [← hf, fN_f (by simp [hasB, c3])]) (some (.ref (adC S c)))
            · refine V_aload hZ dX5_hasCopyOf_48 rfl (by first | rfl | exact isR_rf _) ?_
              refine V_getfield hZ fl_X5_202.r dX5_hasCopyOf_50 (by assumption) (by rfl) ?_
              refine V_aload_n hZ 1 dX5_hasCopyOf_53 rfl rfl (by first | rfl | exact isR_rf _) ?_
              refine V_acmp_ne (tgt := 59) hZ dX5_hasCopyOf_54 (by decide) (by first | rfl | exact isR_rf _) (by first | rfl | exact isR_rf _) (fun c4 => ?_) (fun c4 => ?_)
              · refine V_iincv hZ dX5_hasCopyOf_59 rfl (by decide) (by first | rfl | simp [okp, cat_rf, cat_ref, cat_int, cat_null]) (by first | exact nI_inc _ | rfl) ?_
                refine V.lvc (by simp only [List.set_cons_zero, List.set_cons_succ, Nat.reduceAdd]; rfl) ?_
                refine V_goto (tgt := 12) hZ dX5_hasCopyOf_62 (by decide) ?_
                have c5 : ¬ cpRd (cps S c) = some x := fun z => c4 (by rw [z]; rfl)
                exact ih (c + 1) (by omega) (by rw [← hf, fN_f (by simp [hasB, c5])]) (some (.ref (adC S c)))
              · have c5 : cpRd (cps S c) = some x := (rdMap R W (W_rdr W hi) (fun y hy => by cases hy; exact hx)).mp (rfIff.mp (c4.trans (show Value.ref (adD S x) = va_rf ((some x).map (adD S)) from rfl)))
                refine V_iconst (v := 1) hZ dX5_hasCopyOf_57 (by decide) ?_
                refine V_iret hZ hE rfl (by rfl) dX5_hasCopyOf_58 (by decide) (by decide) ?_
                exact ⟨by rw [← hf, fN_t (by simp [hasB, hi, c2, c3, c5])]; rfl, rfl⟩
        · refine V_aaldn hZ dX5_hasCopyOf_22 (by assumption) hcN (by decide) (v := .null) (rowf_ge hi) ?_
          refine V_astore hZ dX5_hasCopyOf_23 (by first | rfl | exact isR_rf _) (by decide) (by first | rfl | simp [okp, cat_rf, cat_ref, cat_int, cat_null]) ?_
          refine V.lvc (by simp only [List.set_cons_zero, List.set_cons_succ, Nat.reduceAdd]; rfl) ?_
          refine V_aload hZ dX5_hasCopyOf_25 rfl (by first | rfl | exact isR_rf _) ?_
          refine V_ifnullN (tgt := 59) hZ dX5_hasCopyOf_27 (by decide) ?_
          refine V_iincv hZ dX5_hasCopyOf_59 rfl (by decide) (by first | rfl | simp [okp, cat_rf, cat_ref, cat_int, cat_null]) (by first | exact nI_inc _ | rfl) ?_
          refine V.lvc (by simp only [List.set_cons_zero, List.set_cons_succ, Nat.reduceAdd]; rfl) ?_
          refine V_goto (tgt := 12) hZ dX5_hasCopyOf_62 (by decide) ?_
          exact ih (c + 1) (by omega) (by rw [← hf, fN_f (by simp [hasB, hi])]) (some .null)
  exact key 30 0 rfl rfl none
/-- copy c is aside for the reader o, of record r -/
def asideB (S : St) (o : Option Nat) (r : Nat) (c : Nat) : Bool := decide (c < nCp S ∧ cpPl (cps S c) = 2 ∧ cpRd (cps S c) = o ∧ cpRc (cps S c) = r)
theorem c_isAsideForS (R : Rep S h) (W : Wf S) {c r : Nat} {o : Option Nat} (hi : c < nCp S) (hr : r < nRc S) (ho : ∀ x, o = some x → x < nRd S) : Calls G yX1_isAsideFor cX1_isAsideFor 3 (.some .boolean) 0 0 0 0 [.ref (adC S c), va_rf (o.map (adD S)), .ref (adR S r)] h (qV (.int (b01 (asideB S o r c = true))) h) qX := by
  have e := c_isAsideFor G h (R.copy hi) (o.map (adD S)) (adR S r)
  have e2 : b01 (cpPl (cps S c) = 2 ∧ (cpRd (cps S c)).map (adD S) = o.map (adD S) ∧ adR S (cpRc (cps S c)) = adR S r) = b01 (asideB S o r c = true) := by
    have e3 : (cpPl (cps S c) = 2 ∧ (cpRd (cps S c)).map (adD S) = o.map (adD S) ∧ adR S (cpRc (cps S c)) = adR S r) ↔ asideB S o r c = true := by
      rw [rdMap R W (W_rdr W hi) ho, recIff R W (W_rec W hi) hr]
      simp [asideB, hi]
    simp only [b01, e3]
  rw [e2] at e
  exact e
theorem c_firstAside (R : Rep S h) (W : Wf S) {r : Nat} {o : Option Nat} (hr : r < nRc S) (ho : ∀ x, o = some x → x < nRd S) : Calls G yX5_firstAside cX5_firstAside 7 (.some (.object "BookplateHall$Copy")) 1 22 0 0 [.ref (aH S), va_rf (o.map (adD S)), .ref (adR S r)] h (qV (va_rf ((fN (asideB S o r) 30 0).map (adC S))) h) qX := by
  have h1 := R.hall
  have h2 := R.copies
  refine Calls_of1 (by decide +kernel) (by simp [cat_rf, cat_ref, cat_int, cat_null]) (by simp) (lv0 := [some (.ref (aH S)), some (va_rf (o.map (adD S))), some (.ref (adR S r)), none, none, none, none]) rfl ?_
  intro Z hG hZ hE hN
  subst hG
  refine V_aload_n hZ 0 dX5_firstAside_0 rfl rfl (by first | rfl | exact isR_rf _) ?_
  refine V_getfield hZ fl_X5_23.r dX5_firstAside_1 (by assumption) (by rfl) ?_
  refine V_astore_n hZ 3 rfl dX5_firstAside_4 (by first | rfl | exact isR_rf _) (by decide) (by first | rfl | simp [okp, cat_rf, cat_ref, cat_int, cat_null]) ?_
  refine V.lvc (by simp only [List.set_cons_zero, List.set_cons_succ, Nat.reduceAdd]; rfl) ?_
  refine V_aload_n hZ 3 dX5_firstAside_5 rfl rfl (by first | rfl | exact isR_rf _) ?_
  refine V_alenR hZ dX5_firstAside_6 (by assumption) ?_
  refine V_istore hZ dX5_firstAside_7 (by decide) (by first | rfl | simp [okp, cat_rf, cat_ref, cat_int, cat_null]) ?_
  refine V.lvc (by simp only [List.set_cons_zero, List.set_cons_succ, Nat.reduceAdd]; rfl) ?_
  refine V_iconst (v := 0) hZ dX5_firstAside_9 (by decide) ?_
  refine V_istore hZ dX5_firstAside_10 (by decide) (by first | rfl | simp [okp, cat_rf, cat_ref, cat_int, cat_null]) ?_
  refine V.lvc (by simp only [List.set_cons_zero, List.set_cons_succ, Nat.reduceAdd]; rfl) ?_
  have key : ∀ m c, c + m = 30 → fN (asideB S o r) m c = fN (asideB S o r) 30 0 → ∀ w, V Z 12 [some (.ref (aH S)), some (va_rf (o.map (adD S))), some (.ref (adR S r)), some (.ref (aCs S)), some (.int (nI 30)), some (.int (nI c)), w] [] h 0 0 := by
    intro m
    induction m with
    | zero =>
      intro c hcm hf w
      have hc : c = 30 := by omega
      subst hc
      refine V_iload hZ dX5_firstAside_12 rfl ?_
      refine V_iload hZ dX5_firstAside_14 rfl ?_
      refine V_icmp_ge (tgt := 49) hZ dX5_firstAside_16 (by decide) (fun cE => ?_) (fun cE => ?_)
      · refine V_null hZ dX5_firstAside_49 ?_
        refine V_aret hZ hE rfl (by first | rfl | exact isR_rf _) dX5_firstAside_50 (by decide) (by decide) ?_
        exact ⟨by rw [← hf]; rfl, rfl⟩
      · exact absurd (by decide) cE
    | succ m ih =>
      intro c hcm hf w
      have hcN : c < 30 := by omega
      refine V_iload hZ dX5_firstAside_12 rfl ?_
      refine V_iload hZ dX5_firstAside_14 rfl ?_
      refine V_icmp_ge (tgt := 49) hZ dX5_firstAside_16 (by decide) (fun cE => ?_) (fun cE => ?_)
      · have cE2 : 30 ≤ c := (nI_leI (a := 30) (by decide) (by omega)).mp cE
        omega
      · refine V_aload_n hZ 3 dX5_firstAside_19 rfl rfl (by first | rfl | exact isR_rf _) ?_
        refine V_iload hZ dX5_firstAside_20 rfl ?_
        by_cases hi : c < nCp S
        · refine V_aaldn hZ dX5_firstAside_22 (by assumption) hcN (by decide) (v := .ref (adC S c)) (rowf_lt hi) ?_
          refine V_astore hZ dX5_firstAside_23 (by first | rfl | exact isR_rf _) (by decide) (by first | rfl | simp [okp, cat_rf, cat_ref, cat_int, cat_null]) ?_
          refine V.lvc (by simp only [List.set_cons_zero, List.set_cons_succ, Nat.reduceAdd]; rfl) ?_
          refine V_aload hZ dX5_firstAside_25 rfl (by first | rfl | exact isR_rf _) ?_
          refine V_ifnullR hZ dX5_firstAside_27 ?_
          have h3 := R.copy hi
          refine V_aload hZ dX5_firstAside_30 rfl (by first | rfl | exact isR_rf _) ?_
          refine V_aload_n hZ 1 dX5_firstAside_32 rfl rfl (by first | rfl | exact isR_rf _) ?_
          refine V_aload_n hZ 2 dX5_firstAside_33 rfl rfl (by first | rfl | exact isR_rf _) ?_
          refine V_invVp hZ me_X1_isAsideFor mi_X1_isAsideFor ml_X5_368 (c_isAsideForS Z.1 R W hi hr ho) dX5_firstAside_34 rfl rfl (by assumption) rfl rfl ⟨by decide, by decide⟩ (by first | decide | simp [cat_rf, cat_ref, cat_int, cat_null]) ⟨by decide, by decide⟩ ?_
          refine V_if_eq (tgt := 43) hZ dX5_firstAside_37 (by decide) (fun c1 => ?_) (fun c1 => ?_)
          · refine V_iincv hZ dX5_firstAside_43 rfl (by decide) (by first | rfl | simp [okp, cat_rf, cat_ref, cat_int, cat_null]) (by first | exact nI_inc _ | rfl) ?_
            refine V.lvc (by simp only [List.set_cons_zero, List.set_cons_succ, Nat.reduceAdd]; rfl) ?_
            refine V_goto (tgt := 12) hZ dX5_firstAside_46 (by decide) ?_
            have c2 : asideB S o r c = false := by
              cases hz : asideB S o r c
              · rfl
              · exact absurd c1 (by simp [b01, hz])
            exact ih (c + 1) (by omega) (by rw [← hf, fN_f c2]) (some (.ref (adC S c)))
          · have c2 : asideB S o r c = true := by
              cases hz : asideB S o r c
              · exact absurd (by simp [b01, hz]) c1
              · rfl
            refine V_aload hZ dX5_firstAside_40 rfl (by first | rfl | exact isR_rf _) ?_
            refine V_aret hZ hE rfl (by first | rfl | exact isR_rf _) dX5_firstAside_42 (by decide) (by decide) ?_
            exact ⟨by rw [← hf, fN_t c2]; rfl, rfl⟩
        · refine V_aaldn hZ dX5_firstAside_22 (by assumption) hcN (by decide) (v := .null) (rowf_ge hi) ?_
          refine V_astore hZ dX5_firstAside_23 (by first | rfl | exact isR_rf _) (by decide) (by first | rfl | simp [okp, cat_rf, cat_ref, cat_int, cat_null]) ?_
          refine V.lvc (by simp only [List.set_cons_zero, List.set_cons_succ, Nat.reduceAdd]; rfl) ?_
          refine V_aload hZ dX5_firstAside_25 rfl (by first | rfl | exact isR_rf _) ?_
          refine V_ifnullN (tgt := 43) hZ dX5_firstAside_27 (by decide) ?_
          refine V_iincv hZ dX5_firstAside_43 rfl (by decide) (by first | rfl | simp [okp, cat_rf, cat_ref, cat_int, cat_null]) (by first | exact nI_inc _ | rfl) ?_
          refine V.lvc (by simp only [List.set_cons_zero, List.set_cons_succ, Nat.reduceAdd]; rfl) ?_
          refine V_goto (tgt := 12) hZ dX5_firstAside_46 (by decide) ?_
          exact ih (c + 1) (by omega) (by rw [← hf, fN_f (by simp [asideB, hi])]) (some .null)
  exact key 30 0 rfl rfl none
def inB (S : St) (r : Nat) (c : Nat) : Bool := decide (c < nCp S ∧ cpRc (cps S c) = r ∧ cpPl (cps S c) = 0)
theorem c_firstIn (R : Rep S h) (W : Wf S) {r : Nat} (hr : r < nRc S) : Calls G yX5_firstIn cX5_firstIn 6 (.some (.object "BookplateHall$Copy")) 0 0 0 0 [.ref (aH S), .ref (adR S r)] h (qV (va_rf ((fN (inB S r) 30 0).map (adC S))) h) qX := by
  have h1 := R.hall
  have h2 := R.copies
  refine Calls_of1 (by decide +kernel) (by simp [cat_rf, cat_ref, cat_int, cat_null]) (by simp) (lv0 := [some (.ref (aH S)), some (.ref (adR S r)), none, none, none, none]) rfl ?_
  intro Z hG hZ hE hN
  subst hG
  refine V_aload_n hZ 0 dX5_firstIn_0 rfl rfl (by first | rfl | exact isR_rf _) ?_
  refine V_getfield hZ fl_X5_23.r dX5_firstIn_1 (by assumption) (by rfl) ?_
  refine V_astore_n hZ 2 rfl dX5_firstIn_4 (by first | rfl | exact isR_rf _) (by decide) (by first | rfl | simp [okp, cat_rf, cat_ref, cat_int, cat_null]) ?_
  refine V.lvc (by simp only [List.set_cons_zero, List.set_cons_succ, Nat.reduceAdd]; rfl) ?_
  refine V_aload_n hZ 2 dX5_firstIn_5 rfl rfl (by first | rfl | exact isR_rf _) ?_
  refine V_alenR hZ dX5_firstIn_6 (by assumption) ?_
  refine V_istore_n hZ 3 rfl dX5_firstIn_7 (by decide) (by first | rfl | simp [okp, cat_rf, cat_ref, cat_int, cat_null]) ?_
  refine V.lvc (by simp only [List.set_cons_zero, List.set_cons_succ, Nat.reduceAdd]; rfl) ?_
  refine V_iconst (v := 0) hZ dX5_firstIn_8 (by decide) ?_
  refine V_istore hZ dX5_firstIn_9 (by decide) (by first | rfl | simp [okp, cat_rf, cat_ref, cat_int, cat_null]) ?_
  refine V.lvc (by simp only [List.set_cons_zero, List.set_cons_succ, Nat.reduceAdd]; rfl) ?_
  have key : ∀ m c, c + m = 30 → fN (inB S r) m c = fN (inB S r) 30 0 → ∀ w, V Z 11 [some (.ref (aH S)), some (.ref (adR S r)), some (.ref (aCs S)), some (.int (nI 30)), some (.int (nI c)), w] [] h 0 0 := by
    intro m
    induction m with
    | zero =>
      intro c hcm hf w
      have hc : c = 30 := by omega
      subst hc
      refine V_iload hZ dX5_firstIn_11 rfl ?_
      refine V_iload_n hZ 3 dX5_firstIn_13 rfl rfl ?_
      refine V_icmp_ge (tgt := 54) hZ dX5_firstIn_14 (by decide) (fun cE => ?_) (fun cE => ?_)
      · refine V_null hZ dX5_firstIn_54 ?_
        refine V_aret hZ hE rfl (by first | rfl | exact isR_rf _) dX5_firstIn_55 (by decide) (by decide) ?_
        exact ⟨by rw [← hf]; rfl, rfl⟩
      · exact absurd (by decide) cE
    | succ m ih =>
      intro c hcm hf w
      have hcN : c < 30 := by omega
      refine V_iload hZ dX5_firstIn_11 rfl ?_
      refine V_iload_n hZ 3 dX5_firstIn_13 rfl rfl ?_
      refine V_icmp_ge (tgt := 54) hZ dX5_firstIn_14 (by decide) (fun cE => ?_) (fun cE => ?_)
      · have cE2 : 30 ≤ c := (nI_leI (a := 30) (by decide) (by omega)).mp cE
        omega
      · refine V_aload_n hZ 2 dX5_firstIn_17 rfl rfl (by first | rfl | exact isR_rf _) ?_
        refine V_iload hZ dX5_firstIn_18 rfl ?_
        by_cases hi : c < nCp S
        · refine V_aaldn hZ dX5_firstIn_20 (by assumption) hcN (by decide) (v := .ref (adC S c)) (rowf_lt hi) ?_
          refine V_astore hZ dX5_firstIn_21 (by first | rfl | exact isR_rf _) (by decide) (by first | rfl | simp [okp, cat_rf, cat_ref, cat_int, cat_null]) ?_
          refine V.lvc (by simp only [List.set_cons_zero, List.set_cons_succ, Nat.reduceAdd]; rfl) ?_
          refine V_aload hZ dX5_firstIn_23 rfl (by first | rfl | exact isR_rf _) ?_
          refine V_ifnullR hZ dX5_firstIn_25 ?_
          have h3 := R.copy hi
          refine V_aload hZ dX5_firstIn_28 rfl (by first | rfl | exact isR_rf _) ?_
          refine V_getfield hZ fl_X5_192.r dX5_firstIn_30 (by assumption) (by rfl) ?_
          refine V_aload_n hZ 1 dX5_firstIn_33 rfl rfl (by first | rfl | exact isR_rf _) ?_
          refine V_acmp_ne (tgt := 48) hZ dX5_firstIn_34 (by decide) (by first | rfl | exact isR_rf _) (by first | rfl | exact isR_rf _) (fun c1 => ?_) (fun c1 => ?_)
          · refine V_iincv hZ dX5_firstIn_48 rfl (by decide) (by first | rfl | simp [okp, cat_rf, cat_ref, cat_int, cat_null]) (by first | exact nI_inc _ | rfl) ?_
            refine V.lvc (by simp only [List.set_cons_zero, List.set_cons_succ, Nat.reduceAdd]; rfl) ?_
            refine V_goto (tgt := 11) hZ dX5_firstIn_51 (by decide) ?_
            have c2 : ¬ cpRc (cps S c) = r := fun z => c1 (by rw [z])
            exact ih (c + 1) (by omega) (by rw [← hf, fN_f (by simp [inB, c2])]) (some (.ref (adC S c)))
          · have c2 : cpRc (cps S c) = r := (recIff R W (W_rec W hi) hr).mp (refIff.mp c1)
            refine V_aload hZ dX5_firstIn_37 rfl (by first | rfl | exact isR_rf _) ?_
            refine V_getfield hZ fl_X5_215.r dX5_firstIn_39 (by assumption) (by rfl) ?_
            refine V_if_ne (tgt := 48) hZ dX5_firstIn_42 (by decide) (fun c3 => ?_) (fun c3 => ?_)
            · refine V_iincv hZ dX5_firstIn_48 rfl (by decide) (by first | rfl | simp [okp, cat_rf, cat_ref, cat_int, cat_null]) (by first | exact nI_inc _ | rfl) ?_
              refine V.lvc (by simp only [List.set_cons_zero, List.set_cons_succ, Nat.reduceAdd]; rfl) ?_
              refine V_goto (tgt := 11) hZ dX5_firstIn_51 (by decide) ?_
              exact ih (c + 1) (by omega) (by rw [← hf, fN_f (by simp [inB, c3])]) (some (.ref (adC S c)))
            · refine V_aload hZ dX5_firstIn_45 rfl (by first | rfl | exact isR_rf _) ?_
              refine V_aret hZ hE rfl (by first | rfl | exact isR_rf _) dX5_firstIn_47 (by decide) (by decide) ?_
              exact ⟨by rw [← hf, fN_t (by simp [inB, hi, c2, c3])]; rfl, rfl⟩
        · refine V_aaldn hZ dX5_firstIn_20 (by assumption) hcN (by decide) (v := .null) (rowf_ge hi) ?_
          refine V_astore hZ dX5_firstIn_21 (by first | rfl | exact isR_rf _) (by decide) (by first | rfl | simp [okp, cat_rf, cat_ref, cat_int, cat_null]) ?_
          refine V.lvc (by simp only [List.set_cons_zero, List.set_cons_succ, Nat.reduceAdd]; rfl) ?_
          refine V_aload hZ dX5_firstIn_23 rfl (by first | rfl | exact isR_rf _) ?_
          refine V_ifnullN (tgt := 48) hZ dX5_firstIn_25 (by decide) ?_
          refine V_iincv hZ dX5_firstIn_48 rfl (by decide) (by first | rfl | simp [okp, cat_rf, cat_ref, cat_int, cat_null]) (by first | exact nI_inc _ | rfl) ?_
          refine V.lvc (by simp only [List.set_cons_zero, List.set_cons_succ, Nat.reduceAdd]; rfl) ?_
          refine V_goto (tgt := 11) hZ dX5_firstIn_51 (by decide) ?_
          exact ih (c + 1) (by omega) (by rw [← hf, fN_f (by simp [inB, hi])]) (some .null)
  exact key 30 0 rfl rfl none
/-- has x nothing aside of record r -/
def noneA (S : St) (r x : Nat) : Bool := (fN (asideB S (some x) r) 30 0).isNone
/-- the first of those who wait for r who has none aside -/
def nextW (S : St) (r : Nat) : Option Nat := (lin S r).find? (noneA S r)
theorem drop_some {l : List Nat} {c x : Nat} (hx : l[c]? = some x) : l.drop c = x :: l.drop (c + 1) := by
  obtain ⟨h1, h2⟩ := List.getElem?_eq_some_iff.mp hx
  rw [List.drop_eq_getElem_cons h1, h2]
theorem drop_none {l : List Nat} {c : Nat} (hx : l[c]? = none) : l.drop c = [] := List.drop_eq_nil_of_le (List.getElem?_eq_none_iff.mp hx)
theorem c_firstWithNoneAside (R : Rep S h) (W : Wf S) {r : Nat} (hr : r < nRc S) : Calls G yX5_firstWithNoneAside cX5_firstWithNoneAside 6 (.some (.object "BookplateHall$Reader")) 2 48 0 0 [.ref (aH S), .ref (adR S r)] h (qV (va_rf ((nextW S r).map (adD S))) h) qX := by
  have h1 := R.hall
  have h2 := R.rec hr
  have h3 := R.line hr
  have h4 := R.row hr
  refine Calls_of1 (by decide +kernel) (by simp [cat_rf, cat_ref, cat_int, cat_null]) (by simp) (lv0 := [some (.ref (aH S)), some (.ref (adR S r)), none, none, none, none]) rfl ?_
  intro Z hG hZ hE hN
  subst hG
  refine V_aload_n hZ 1 dX5_firstWithNoneAside_0 rfl rfl (by first | rfl | exact isR_rf _) ?_
  refine V_getfield hZ fl_X5_235 dX5_firstWithNoneAside_1 (by assumption) (by rfl) ?_
  refine V_getfield hZ fl_X5_378 dX5_firstWithNoneAside_4 (by assumption) (by rfl) ?_
  refine V_astore_n hZ 2 rfl dX5_firstWithNoneAside_7 (by first | rfl | exact isR_rf _) (by decide) (by first | rfl | simp [okp, cat_rf, cat_ref, cat_int, cat_null]) ?_
  refine V.lvc (by simp only [List.set_cons_zero, List.set_cons_succ, Nat.reduceAdd]; rfl) ?_
  refine V_aload_n hZ 2 dX5_firstWithNoneAside_8 rfl rfl (by first | rfl | exact isR_rf _) ?_
  refine V_alenR hZ dX5_firstWithNoneAside_9 (by assumption) ?_
  refine V_istore_n hZ 3 rfl dX5_firstWithNoneAside_10 (by decide) (by first | rfl | simp [okp, cat_rf, cat_ref, cat_int, cat_null]) ?_
  refine V.lvc (by simp only [List.set_cons_zero, List.set_cons_succ, Nat.reduceAdd]; rfl) ?_
  refine V_iconst (v := 0) hZ dX5_firstWithNoneAside_11 (by decide) ?_
  refine V_istore hZ dX5_firstWithNoneAside_12 (by decide) (by first | rfl | simp [okp, cat_rf, cat_ref, cat_int, cat_null]) ?_
  refine V.lvc (by simp only [List.set_cons_zero, List.set_cons_succ, Nat.reduceAdd]; rfl) ?_
  have key : ∀ m c, c + m = 8 → ((lin S r).drop c).find? (noneA S r) = nextW S r → ∀ w, V Z 14 [some (.ref (aH S)), some (.ref (adR S r)), some (.ref (adQ S r)), some (.int (nI 8)), some (.int (nI c)), w] [] h 0 0 := by
    intro m
    induction m with
    | zero =>
      intro c hcm hf w
      have hc : c = 8 := by omega
      subst hc
      refine V_iload hZ dX5_firstWithNoneAside_14 rfl ?_
      refine V_iload_n hZ 3 dX5_firstWithNoneAside_16 rfl rfl ?_
      refine V_icmp_ge (tgt := 50) hZ dX5_firstWithNoneAside_17 (by decide) (fun cE => ?_) (fun cE => ?_)
      · refine V_null hZ dX5_firstWithNoneAside_50 ?_
        refine V_aret hZ hE rfl (by first | rfl | exact isR_rf _) dX5_firstWithNoneAside_51 (by decide) (by decide) ?_
        rw [List.drop_eq_nil_of_le (W_lin W hr).1] at hf
        exact ⟨by rw [← hf]; rfl, rfl⟩
      · exact absurd (by decide) cE
    | succ m ih =>
      intro c hcm hf w
      have hcN : c < 8 := by omega
      refine V_iload hZ dX5_firstWithNoneAside_14 rfl ?_
      refine V_iload_n hZ 3 dX5_firstWithNoneAside_16 rfl rfl ?_
      refine V_icmp_ge (tgt := 50) hZ dX5_firstWithNoneAside_17 (by decide) (fun cE => ?_) (fun cE => ?_)
      · have cE2 : 8 ≤ c := (nI_leI (a := 8) (by decide) (by omega)).mp cE
        omega
      · refine V_aload_n hZ 2 dX5_firstWithNoneAside_20 rfl rfl (by first | rfl | exact isR_rf _) ?_
        refine V_iload hZ dX5_firstWithNoneAside_21 rfl ?_
        cases hx : (lin S r)[c]? with
        | none =>
          refine V_aaldn hZ dX5_firstWithNoneAside_23 (by assumption) hcN (by decide) (v := .null) (lnf_none hx) ?_
          refine V_astore hZ dX5_firstWithNoneAside_24 (by first | rfl | exact isR_rf _) (by decide) (by first | rfl | simp [okp, cat_rf, cat_ref, cat_int, cat_null]) ?_
          refine V.lvc (by simp only [List.set_cons_zero, List.set_cons_succ, Nat.reduceAdd]; rfl) ?_
          refine V_aload hZ dX5_firstWithNoneAside_26 rfl (by first | rfl | exact isR_rf _) ?_
          refine V_ifnullN (tgt := 44) hZ dX5_firstWithNoneAside_28 (by decide) ?_
          refine V_iincv hZ dX5_firstWithNoneAside_44 rfl (by decide) (by first | rfl | simp [okp, cat_rf, cat_ref, cat_int, cat_null]) (by first | exact nI_inc _ | rfl) ?_
          refine V.lvc (by simp only [List.set_cons_zero, List.set_cons_succ, Nat.reduceAdd]; rfl) ?_
          refine V_goto (tgt := 14) hZ dX5_firstWithNoneAside_47 (by decide) ?_
          rw [drop_none hx] at hf
          exact ih (c + 1) (by omega) (by rw [← hf, List.drop_eq_nil_of_le (by have := List.getElem?_eq_none_iff.mp hx; omega)]) (some .null)
        | some x =>
          refine V_aaldn hZ dX5_firstWithNoneAside_23 (by assumption) hcN (by decide) (v := .ref (adD S x)) (lnf_some hx) ?_
          refine V_astore hZ dX5_firstWithNoneAside_24 (by first | rfl | exact isR_rf _) (by decide) (by first | rfl | simp [okp, cat_rf, cat_ref, cat_int, cat_null]) ?_
          refine V.lvc (by simp only [List.set_cons_zero, List.set_cons_succ, Nat.reduceAdd]; rfl) ?_
          refine V_aload hZ dX5_firstWithNoneAside_26 rfl (by first | rfl | exact isR_rf _) ?_
          refine V_ifnullR hZ dX5_firstWithNoneAside_28 ?_
          have hxb : x < nRd S := (W_lin W hr).2 x (List.mem_of_getElem? hx)
          rw [drop_some hx] at hf
          refine V_aload_n hZ 0 dX5_firstWithNoneAside_31 rfl rfl (by first | rfl | exact isR_rf _) ?_
          refine V_aload hZ dX5_firstWithNoneAside_32 rfl (by first | rfl | exact isR_rf _) ?_
          refine V_aload_n hZ 1 dX5_firstWithNoneAside_34 rfl rfl (by first | rfl | exact isR_rf _) ?_
          refine V_invVp hZ me_X5_firstAside mi_X5_firstAside ml_X5_286 (c_firstAside Z.1 R W (o := some x) hr (fun y hy => by cases hy; exact hxb)) dX5_firstWithNoneAside_35 rfl rfl (by assumption) rfl rfl ⟨by decide, by decide⟩ (by first | decide | simp [cat_rf, cat_ref, cat_int, cat_null]) ⟨by decide, by decide⟩ ?_
          cases hz : fN (asideB S (some x) r) 30 0 with
          | none =>
            refine V_ifnonnullN hZ dX5_firstWithNoneAside_38 ?_
            refine V_aload hZ dX5_firstWithNoneAside_41 rfl (by first | rfl | exact isR_rf _) ?_
            refine V_aret hZ hE rfl (by first | rfl | exact isR_rf _) dX5_firstWithNoneAside_43 (by decide) (by decide) ?_
            rw [List.find?_cons_of_pos (by simp [noneA, hz])] at hf
            exact ⟨by rw [← hf]; rfl, rfl⟩
          | some y =>
            refine V_ifnonnullR (tgt := 44) hZ dX5_firstWithNoneAside_38 (by decide) ?_
            refine V_iincv hZ dX5_firstWithNoneAside_44 rfl (by decide) (by first | rfl | simp [okp, cat_rf, cat_ref, cat_int, cat_null]) (by first | exact nI_inc _ | rfl) ?_
            refine V.lvc (by simp only [List.set_cons_zero, List.set_cons_succ, Nat.reduceAdd]; rfl) ?_
            refine V_goto (tgt := 14) hZ dX5_firstWithNoneAside_47 (by decide) ?_
            rw [List.find?_cons_of_neg (by simp [noneA, hz])] at hf
            exact ih (c + 1) (by omega) hf (some (.ref (adD S x)))
  exact key 8 0 rfl rfl none
end
end
section
/-! the heap with other copies, readers, lines, records, another day -/
theorem ne_of {h : HP} {a b : Nat} {x y : ME} (ha : h a = some x) (hb : h b = some y) (hxy : x ≠ y) : a ≠ b := fun z => by
  subst z
  exact hxy (Option.some.inj (ha.symm.trans hb))
section
variable {h : HP} {S : St}
theorem rep_cp (R : Rep S h) (W : Wf S) {i : Nat} (hi : i < nCp S) (c : Cp) : Rep (setCp S i c) (hup h (adC S i) (mCopy i (cpPr c) (adR S (cpRc c)) (cpPl c) ((cpRd c).map (adD S)) (cpDy c) (cpRn c) (cpTh c))) := by
  have hc := R.copy hi
  refine ⟨?_, ?_, ?_, ?_, ?_, fun j hj => ?_, fun j hj => ?_, fun j hj => ?_, fun j hj => ?_, fun j hj => ?_, fun j hj => ?_, fun a b ha hb => R.rowInj ha hb, fun a ha => R.rowNe ha⟩
  · rw [hup_ne _ _ (ne_of R.hall hc (by simp))]; exact R.hall
  · rw [hup_ne _ _ (ne_of R.names hc (by simp [aR]))]; exact R.names
  · rw [hup_ne _ _ (ne_of R.records hc (by simp [aR]))]; exact R.records
  · rw [hup_ne _ _ (ne_of R.copies hc (by simp [aR]))]; exact R.copies
  · rw [hup_ne _ _ (ne_of R.readers hc (by simp [aR]))]; exact R.readers
  · rw [hup_ne _ _ (ne_of (R.name hj) hc (by simp))]; exact R.name hj
  · rw [hup_ne _ _ (ne_of (R.rec hj) hc (by simp))]; exact R.rec hj
  · rw [hup_ne _ _ (ne_of (R.line hj) hc (by simp))]; exact R.line hj
  · rw [hup_ne _ _ (ne_of (R.row hj) hc (by simp [aR]))]; exact R.row hj
  · by_cases hji : j = i
    · have e : va_up (cps S) i c j = c := by simp [va_up, hji]
      show hup h (adC S i) _ (adC S j) = some (mCopy j (cpPr (va_up (cps S) i c j)) (adR S (cpRc (va_up (cps S) i c j))) (cpPl (va_up (cps S) i c j)) ((cpRd (va_up (cps S) i c j)).map (adD S)) (cpDy (va_up (cps S) i c j)) (cpRn (va_up (cps S) i c j)) (cpTh (va_up (cps S) i c j)))
      rw [e, hji]
      exact hup_self _ _ _
    · rw [hup_ne _ _ (fun z => hji (R.copyInj W hj hi z))]
      have e : va_up (cps S) i c j = cps S j := by simp [va_up, hji]
      show h (adC S j) = some (mCopy j (cpPr (va_up (cps S) i c j)) (adR S (cpRc (va_up (cps S) i c j))) (cpPl (va_up (cps S) i c j)) ((cpRd (va_up (cps S) i c j)).map (adD S)) (cpDy (va_up (cps S) i c j)) (cpRn (va_up (cps S) i c j)) (cpTh (va_up (cps S) i c j)))
      rw [e]; exact R.copy hj
  · rw [hup_ne _ _ (ne_of (R.rdr hj) hc (by simp))]; exact R.rdr hj
theorem rep_rd (R : Rep S h) (W : Wf S) {i : Nat} (hi : i < nRd S) (d : Rd) : Rep (setRd S i d) (hup h (adD S i) (mRdr i (rdKi d) (rdOw d))) := by
  have hc := R.rdr hi
  refine ⟨?_, ?_, ?_, ?_, ?_, fun j hj => ?_, fun j hj => ?_, fun j hj => ?_, fun j hj => ?_, fun j hj => ?_, fun j hj => ?_, fun a b ha hb => R.rowInj ha hb, fun a ha => R.rowNe ha⟩
  · rw [hup_ne _ _ (ne_of R.hall hc (by simp))]; exact R.hall
  · rw [hup_ne _ _ (ne_of R.names hc (by simp [aR]))]; exact R.names
  · rw [hup_ne _ _ (ne_of R.records hc (by simp [aR]))]; exact R.records
  · rw [hup_ne _ _ (ne_of R.copies hc (by simp [aR]))]; exact R.copies
  · rw [hup_ne _ _ (ne_of R.readers hc (by simp [aR]))]; exact R.readers
  · rw [hup_ne _ _ (ne_of (R.name hj) hc (by simp))]; exact R.name hj
  · rw [hup_ne _ _ (ne_of (R.rec hj) hc (by simp))]; exact R.rec hj
  · rw [hup_ne _ _ (ne_of (R.line hj) hc (by simp))]; exact R.line hj
  · rw [hup_ne _ _ (ne_of (R.row hj) hc (by simp [aR]))]; exact R.row hj
  · rw [hup_ne _ _ (ne_of (R.copy hj) hc (by simp))]; exact R.copy hj
  · by_cases hji : j = i
    · have e : va_up (rds S) i d j = d := by simp [va_up, hji]
      show hup h (adD S i) _ (adD S j) = some (mRdr j (rdKi (va_up (rds S) i d j)) (rdOw (va_up (rds S) i d j)))
      rw [e, hji]
      exact hup_self _ _ _
    · rw [hup_ne _ _ (fun z => hji (R.rdrInj W hj hi z))]
      have e : va_up (rds S) i d j = rds S j := by simp [va_up, hji]
      show h (adD S j) = some (mRdr j (rdKi (va_up (rds S) i d j)) (rdOw (va_up (rds S) i d j)))
      rw [e]; exact R.rdr hj
theorem rep_rc (R : Rep S h) (W : Wf S) {i : Nat} (hi : i < nRc S) (r : Rc) : Rep (setRc S i r) (hup h (adR S i) (mRec i ((rcAu r).map (adN S)) (rcTi r) (rcYe r) (adL S i) ((rcWe r).map (adR S)) (rcLe r))) := by
  have hc := R.rec hi
  refine ⟨?_, ?_, ?_, ?_, ?_, fun j hj => ?_, fun j hj => ?_, fun j hj => ?_, fun j hj => ?_, fun j hj => ?_, fun j hj => ?_, fun a b ha hb => R.rowInj ha hb, fun a ha => R.rowNe ha⟩
  · rw [hup_ne _ _ (ne_of R.hall hc (by simp))]; exact R.hall
  · rw [hup_ne _ _ (ne_of R.names hc (by simp [aR]))]; exact R.names
  · rw [hup_ne _ _ (ne_of R.records hc (by simp [aR]))]; exact R.records
  · rw [hup_ne _ _ (ne_of R.copies hc (by simp [aR]))]; exact R.copies
  · rw [hup_ne _ _ (ne_of R.readers hc (by simp [aR]))]; exact R.readers
  · rw [hup_ne _ _ (ne_of (R.name hj) hc (by simp))]; exact R.name hj
  · by_cases hji : j = i
    · have e : va_up (rcs S) i r j = r := by simp [va_up, hji]
      show hup h (adR S i) _ (adR S j) = some (mRec j ((rcAu (va_up (rcs S) i r j)).map (adN S)) (rcTi (va_up (rcs S) i r j)) (rcYe (va_up (rcs S) i r j)) (adL S j) ((rcWe (va_up (rcs S) i r j)).map (adR S)) (rcLe (va_up (rcs S) i r j)))
      rw [e, hji]
      exact hup_self _ _ _
    · rw [hup_ne _ _ (fun z => hji (R.recInj W hj hi z))]
      have e : va_up (rcs S) i r j = rcs S j := by simp [va_up, hji]
      show h (adR S j) = some (mRec j ((rcAu (va_up (rcs S) i r j)).map (adN S)) (rcTi (va_up (rcs S) i r j)) (rcYe (va_up (rcs S) i r j)) (adL S j) ((rcWe (va_up (rcs S) i r j)).map (adR S)) (rcLe (va_up (rcs S) i r j)))
      rw [e]; exact R.rec hj
  · rw [hup_ne _ _ (ne_of (R.line hj) hc (by simp))]; exact R.line hj
  · rw [hup_ne _ _ (ne_of (R.row hj) hc (by simp [aR]))]; exact R.row hj
  · rw [hup_ne _ _ (ne_of (R.copy hj) hc (by simp))]; exact R.copy hj
  · rw [hup_ne _ _ (ne_of (R.rdr hj) hc (by simp))]; exact R.rdr hj
theorem rep_ln (R : Rep S h) {i : Nat} (hi : i < nRc S) (l : List Nat) : Rep (setLn S i l) (hup (hup h (adQ S i) (aR RX3 8 (lnf l (adD S)))) (adL S i) (mLine (adQ S i) l.length)) := by
  have hc := R.line hi
  have hq := R.row hi
  refine ⟨?_, ?_, ?_, ?_, ?_, fun j hj => ?_, fun j hj => ?_, fun j hj => ?_, fun j hj => ?_, fun j hj => ?_, fun j hj => ?_, fun a b ha hb => R.rowInj ha hb, fun a ha => R.rowNe ha⟩
  · rw [hup_ne _ _ (ne_of R.hall hc (by simp)), hup_ne _ _ (ne_of R.hall hq (by simp [aR]))]; exact R.hall
  · rw [hup_ne _ _ (ne_of R.names hc (by simp [aR])), hup_ne _ _ (ne_of R.names hq (by simp [aR]))]; exact R.names
  · rw [hup_ne _ _ (ne_of R.records hc (by simp [aR])), hup_ne _ _ (ne_of R.records hq (by simp [aR]))]; exact R.records
  · rw [hup_ne _ _ (ne_of R.copies hc (by simp [aR])), hup_ne _ _ (ne_of R.copies hq (by simp [aR]))]; exact R.copies
  · rw [hup_ne _ _ (ne_of R.readers hc (by simp [aR])), hup_ne _ _ (fun z => R.rowNe hi z.symm)]; exact R.readers
  · rw [hup_ne _ _ (ne_of (R.name hj) hc (by simp)), hup_ne _ _ (ne_of (R.name hj) hq (by simp [aR]))]; exact R.name hj
  · rw [hup_ne _ _ (ne_of (R.rec hj) hc (by simp)), hup_ne _ _ (ne_of (R.rec hj) hq (by simp [aR]))]; exact R.rec hj
  · by_cases hji : j = i
    · have e : va_up (lin S) i l j = l := by simp [va_up, hji]
      show hup _ (adL S i) _ (adL S j) = some (mLine (adQ S j) (va_up (lin S) i l j).length)
      rw [e, hji]
      exact hup_self _ _ _
    · rw [hup_ne _ _ (fun z => hji (R.lineInj hj hi z)), hup_ne _ _ (ne_of (R.line hj) hq (by simp [aR]))]
      have e : va_up (lin S) i l j = lin S j := by simp [va_up, hji]
      show h (adL S j) = some (mLine (adQ S j) (va_up (lin S) i l j).length)
      rw [e]; exact R.line hj
  · rw [hup_ne _ _ (ne_of (R.row hj) hc (by simp [aR]))]
    by_cases hji : j = i
    · have e : va_up (lin S) i l j = l := by simp [va_up, hji]
      show hup h (adQ S i) _ (adQ S j) = some (aR RX3 8 (lnf (va_up (lin S) i l j) (adD S)))
      rw [e, hji]
      exact hup_self _ _ _
    · rw [hup_ne _ _ (fun z => hji (R.rowInj hj hi z))]
      have e : va_up (lin S) i l j = lin S j := by simp [va_up, hji]
      show h (adQ S j) = some (aR RX3 8 (lnf (va_up (lin S) i l j) (adD S)))
      rw [e]; exact R.row hj
  · rw [hup_ne _ _ (ne_of (R.copy hj) hc (by simp)), hup_ne _ _ (ne_of (R.copy hj) hq (by simp [aR]))]; exact R.copy hj
  · rw [hup_ne _ _ (ne_of (R.rdr hj) hc (by simp)), hup_ne _ _ (ne_of (R.rdr hj) hq (by simp [aR]))]; exact R.rdr hj
theorem rep_td (R : Rep S h) (t : Int32) : Rep (sTdy S t) (hup h (aH S) (oHall (sTdy S t))) := by
  have hc := R.hall
  refine ⟨hup_self _ _ _, ?_, ?_, ?_, ?_, fun j hj => ?_, fun j hj => ?_, fun j hj => ?_, fun j hj => ?_, fun j hj => ?_, fun j hj => ?_, fun a b ha hb => R.rowInj ha hb, fun a ha => R.rowNe ha⟩
  · rw [hup_ne _ _ (ne_of R.names hc (by simp [aR]))]; exact R.names
  · rw [hup_ne _ _ (ne_of R.records hc (by simp [aR]))]; exact R.records
  · rw [hup_ne _ _ (ne_of R.copies hc (by simp [aR]))]; exact R.copies
  · rw [hup_ne _ _ (ne_of R.readers hc (by simp [aR]))]; exact R.readers
  · rw [hup_ne _ _ (ne_of (R.name hj) hc (by simp))]; exact R.name hj
  · rw [hup_ne _ _ (ne_of (R.rec hj) hc (by simp))]; exact R.rec hj
  · rw [hup_ne _ _ (ne_of (R.line hj) hc (by simp))]; exact R.line hj
  · rw [hup_ne _ _ (ne_of (R.row hj) hc (by simp [aR]))]; exact R.row hj
  · rw [hup_ne _ _ (ne_of (R.copy hj) hc (by simp))]; exact R.copy hj
  · rw [hup_ne _ _ (ne_of (R.rdr hj) hc (by simp))]; exact R.rdr hj
/-- what keeps the bounds -/
theorem wf_cp (W : Wf S) {i : Nat} {c : Cp} (h1 : cpRc c < nRc S) (h2 : ∀ r, cpRd c = some r → r < nRd S) (h3 : cpPl c = 2 → cpRd c ≠ none) : Wf (setCp S i c) := by
  refine ⟨W.1, W.2.1, W.2.2.1, W.2.2.2.1, W.2.2.2.2.1, W.2.2.2.2.2.1, fun j hj => ?_⟩
  by_cases hji : j = i
  · have e : va_up (cps S) i c j = c := by simp [va_up, hji]
    show cpRc (va_up (cps S) i c j) < _ ∧ (∀ r, cpRd (va_up (cps S) i c j) = some r → _) ∧ (cpPl (va_up (cps S) i c j) = 2 → cpRd (va_up (cps S) i c j) ≠ none)
    rw [e]; exact ⟨h1, h2, h3⟩
  · have e : va_up (cps S) i c j = cps S j := by simp [va_up, hji]
    show cpRc (va_up (cps S) i c j) < _ ∧ (∀ r, cpRd (va_up (cps S) i c j) = some r → _) ∧ (cpPl (va_up (cps S) i c j) = 2 → cpRd (va_up (cps S) i c j) ≠ none)
    rw [e]; exact W.2.2.2.2.2.2 j hj
theorem wf_rd (W : Wf S) {i : Nat} {d : Rd} : Wf (setRd S i d) := W
theorem wf_td (W : Wf S) {t : Int32} : Wf (sTdy S t) := W
theorem wf_ln (W : Wf S) {i : Nat} {l : List Nat} (h1 : l.length ≤ 8) (h2 : ∀ x ∈ l, x < nRd S) (h3 : l.Nodup) : Wf (setLn S i l) := by
  refine ⟨W.1, W.2.1, W.2.2.1, W.2.2.2.1, W.2.2.2.2.1, fun j hj => ?_, W.2.2.2.2.2.2⟩
  by_cases hji : j = i
  · have e : va_up (lin S) i l j = l := by simp [va_up, hji]
    show (va_up (lin S) i l j).length ≤ 8 ∧ (∀ x ∈ va_up (lin S) i l j, _) ∧ (va_up (lin S) i l j).Nodup
    rw [e]; exact ⟨h1, h2, h3⟩
  · have e : va_up (lin S) i l j = lin S j := by simp [va_up, hji]
    show (va_up (lin S) i l j).length ≤ 8 ∧ (∀ x ∈ va_up (lin S) i l j, _) ∧ (va_up (lin S) i l j).Nodup
    rw [e]; exact W.2.2.2.2.2.1 j hj
theorem wf_rc (W : Wf S) {i : Nat} {r : Rc} (h1 : ∀ j, rcAu r = some j → j < nNm S) (h2 : ∀ j, rcWe r = some j → j < nRc S) : Wf (setRc S i r) := by
  refine ⟨W.1, W.2.1, W.2.2.1, W.2.2.2.1, fun j hj => ?_, W.2.2.2.2.2.1, W.2.2.2.2.2.2⟩
  by_cases hji : j = i
  · have e : va_up (rcs S) i r j = r := by simp [va_up, hji]
    show (∀ k, rcAu (va_up (rcs S) i r j) = some k → _) ∧ (∀ k, rcWe (va_up (rcs S) i r j) = some k → _)
    rw [e]; exact ⟨h1, h2⟩
  · have e : va_up (rcs S) i r j = rcs S j := by simp [va_up, hji]
    show (∀ k, rcAu (va_up (rcs S) i r j) = some k → _) ∧ (∀ k, rcWe (va_up (rcs S) i r j) = some k → _)
    rw [e]; exact W.2.2.2.2.1 j hj
end
theorem c_put (G : GC) (h : HP) {q i rc : Nat} {pr pl dy rn th : Int32} {rd : Option Nat} (hc : h q = some (mCopy i pr rc pl rd dy rn th)) (pl' dy' : Int32) (o : Option Nat) : Calls G yX1_put cX1_put 4 (.none : Option Jvm.ClassFile.FieldType) 0 0 0 0 [.ref q, .int pl', va_rf o, .int dy'] h (fun v h' => v = none ∧ h' = hup h q (mCopy i pr rc pl' o dy' 0 th)) qX := by
  refine Calls_of1 (by decide +kernel) (by simp [cat_rf, cat_ref, cat_int, cat_null]) (by simp) (lv0 := [some (.ref q), some (.int pl'), some (va_rf o), some (.int dy')]) rfl ?_
  intro Z hG hZ hE hN
  subst hG
  refine V_aload_n hZ 0 dX1_put_0 rfl rfl (by first | rfl | exact isR_rf _) ?_
  refine V_iload_n hZ 1 dX1_put_1 rfl rfl ?_
  refine V_putfield hZ fl_X1_9 dX1_put_2 (by first | assumption | exact hup_self _ _ _) (by first | rfl | exact nar_rf _ _) (by first | rfl | exact fits_rf _ _) (by simp) ?_
  refine V_aload_n hZ 0 dX1_put_5 rfl rfl (by first | rfl | exact isR_rf _) ?_
  refine V_aload_n hZ 2 dX1_put_6 rfl rfl (by first | rfl | exact isR_rf _) ?_
  refine V_putfield hZ fl_X1_28 dX1_put_7 (by first | assumption | exact hup_self _ _ _) (by first | rfl | exact nar_rf _ _) (by first | rfl | exact fits_rf _ _) (by simp) ?_
  rw [hup_hup]
  refine V_aload_n hZ 0 dX1_put_10 rfl rfl (by first | rfl | exact isR_rf _) ?_
  refine V_iload_n hZ 3 dX1_put_11 rfl rfl ?_
  refine V_putfield hZ fl_X1_15 dX1_put_12 (by first | assumption | exact hup_self _ _ _) (by first | rfl | exact nar_rf _ _) (by first | rfl | exact fits_rf _ _) (by simp) ?_
  rw [hup_hup]
  refine V_aload_n hZ 0 dX1_put_15 rfl rfl (by first | rfl | exact isR_rf _) ?_
  refine V_iconst (v := 0) hZ dX1_put_16 (by decide) ?_
  refine V_putfield hZ fl_X1_32 dX1_put_17 (by first | assumption | exact hup_self _ _ _) (by first | rfl | exact nar_rf _ _) (by first | rfl | exact fits_rf _ _) (by simp) ?_
  rw [hup_hup]
  refine V_vret hZ hE rfl dX1_put_20 (by decide) (by decide) ?_
  exact ⟨rfl, rfl⟩
/-- a copy that is free for now; one that is aside for x -/
def freed (c : Cp) : Cp := (cpPr c, cpRc c, 0, none, -1, 0, cpTh c)
def asided (c : Cp) (x : Nat) (t : Int32) : Cp := (cpPr c, cpRc c, 2, some x, t + 6, 0, cpTh c)
def freeC (S : St) (i : Nat) : Nat → Cp := match nextW (setCp S i (freed (cps S i))) (cpRc (cps S i)) with
  | none => va_up (cps S) i (freed (cps S i))
  | some x => va_up (cps S) i (asided (cps S i) x (tdy S))
abbrev freeS (S : St) (i : Nat) : St := sCps S (freeC S i)
theorem va_up_up {α : Type} (f : Nat → α) (i : Nat) (a b : α) : va_up (va_up f i a) i b = va_up f i b := by
  funext j
  by_cases hj : j = i <;> simp [va_up, hj]
theorem nextW_lt {S : St} (W : Wf S) {r x : Nat} (hr : r < nRc S) (hx : nextW S r = some x) : x < nRd S := (W_lin W hr).2 x (List.mem_of_find?_eq_some hx)
theorem wf_free {S : St} (W : Wf S) {i : Nat} (hi : i < nCp S) : Wf (freeS S i) := by
  have hr := W_rec W hi
  have W1 : Wf (setCp S i (freed (cps S i))) := wf_cp W hr (fun r h => by cases h) (fun h => by cases h)
  show Wf (sCps S (freeC S i))
  unfold freeC
  cases hn : nextW (setCp S i (freed (cps S i))) (cpRc (cps S i)) with
  | none => exact W1
  | some x => exact wf_cp W hr (fun r h => by cases h; exact nextW_lt W1 hr hn) (fun _ h => by cases h)
theorem c_free (G : GC) {h : HP} {S : St} (R : Rep S h) (W : Wf S) {i : Nat} (hi : i < nCp S) : Calls G yX5_free cX5_free 3 (.none : Option Jvm.ClassFile.FieldType) 3 73 0 0 [.ref (aH S), .ref (adC S i)] h (fun v h' => v = none ∧ Rep (freeS S i) h') qX := by
  have hc := R.copy hi
  have hr := W_rec W hi
  have R1 := rep_cp R W hi (freed (cps S i))
  have W1 : Wf (setCp S i (freed (cps S i))) := wf_cp W hr (fun r h => by cases h) (fun h => by cases h)
  refine Calls_of1 (by decide +kernel) (by simp [cat_rf, cat_ref, cat_int, cat_null]) (by simp) (lv0 := [some (.ref (aH S)), some (.ref (adC S i)), none]) rfl ?_
  intro Z hG hZ hE hN
  subst hG
  refine V_aload_n hZ 1 dX5_free_0 rfl rfl (by first | rfl | exact isR_rf _) ?_
  refine V_iconst (v := 0) hZ dX5_free_1 (by decide) ?_
  refine V_null hZ dX5_free_2 ?_
  refine V_iconst (v := -1) hZ dX5_free_3 (by decide) ?_
  refine V_invV hZ me_X1_put mi_X1_put ml_X5_188 (c_put Z.1 h hc 0 (-1) none) dX5_free_4 rfl rfl (by assumption) rfl rfl ⟨by decide, by decide⟩ (by first | decide | simp [cat_rf, cat_ref, cat_int, cat_null]) ⟨by decide, by decide⟩ (fun _ _ hq => hq.elim) ?_
  rintro _ _ ⟨rfl, rfl⟩
  have h1 := R1.hall
  have hc1 : hup h (adC S i) (mCopy i (cpPr (cps S i)) (adR S (cpRc (cps S i))) 0 none (-1) 0 (cpTh (cps S i))) (adC S i) = some (mCopy i (cpPr (cps S i)) (adR S (cpRc (cps S i))) 0 none (-1) 0 (cpTh (cps S i))) := hup_self _ _ _
  have hr1 := R1.rec hr
  refine V_aload_n hZ 0 dX5_free_7 rfl rfl (by first | rfl | exact isR_rf _) ?_
  refine V_aload_n hZ 1 dX5_free_8 rfl rfl (by first | rfl | exact isR_rf _) ?_
  refine V_getfield hZ fl_X5_192.r dX5_free_9 (by assumption) (by rfl) ?_
  refine V_invVp hZ me_X5_firstWithNoneAside mi_X5_firstWithNoneAside ml_X5_374 (c_firstWithNoneAside Z.1 R1 W1 hr) dX5_free_12 rfl rfl (by assumption) rfl rfl ⟨by decide, by decide⟩ (by first | decide | simp [cat_rf, cat_ref, cat_int, cat_null]) ⟨by decide, by decide⟩ ?_
  refine V_astore_n hZ 2 rfl dX5_free_15 (by first | rfl | exact isR_rf _) (by decide) (by first | rfl | simp [okp, cat_rf, cat_ref, cat_int, cat_null]) ?_
  refine V.lvc (by simp only [List.set_cons_zero, List.set_cons_succ, Nat.reduceAdd]; rfl) ?_
  refine V_aload_n hZ 2 dX5_free_16 rfl rfl (by first | rfl | exact isR_rf _) ?_
  cases hn : nextW (setCp S i (freed (cps S i))) (cpRc (cps S i)) with
  | none =>
    refine V_ifnullN (tgt := 33) hZ dX5_free_17 (by decide) ?_
    refine V_vret hZ hE rfl dX5_free_33 (by decide) (by decide) ?_
    refine ⟨rfl, ?_⟩
    show Rep (sCps S (freeC S i)) _
    unfold freeC
    rw [hn]
    exact R1
  | some x =>
    refine V_ifnullR hZ dX5_free_17 ?_
    refine V_aload_n hZ 1 dX5_free_20 rfl rfl (by first | rfl | exact isR_rf _) ?_
    refine V_iconst (v := 2) hZ dX5_free_21 (by decide) ?_
    refine V_aload_n hZ 2 dX5_free_22 rfl rfl (by first | rfl | exact isR_rf _) ?_
    refine V_aload_n hZ 0 dX5_free_23 rfl rfl (by first | rfl | exact isR_rf _) ?_
    refine V_getfield hZ fl_X5_181.r dX5_free_24 (by assumption) (by rfl) ?_
    refine V_bipush (v := 6) hZ dX5_free_27 (by decide) ?_
    refine V_iadd hZ dX5_free_29 ?_
    refine V_invV hZ me_X1_put mi_X1_put ml_X5_188 (c_put Z.1 _ hc1 2 (tdy S + 6) (some (adD S x))) dX5_free_30 rfl rfl (by assumption) rfl rfl ⟨by decide, by decide⟩ (by first | decide | simp [cat_rf, cat_ref, cat_int, cat_null]) ⟨by decide, by decide⟩ (fun _ _ hq => hq.elim) ?_
    rintro _ _ ⟨rfl, rfl⟩
    refine V_vret hZ hE rfl dX5_free_33 (by decide) (by decide) ?_
    refine ⟨rfl, ?_⟩
    have R2 := rep_cp R1 W1 (i := i) hi (asided (cps S i) x (tdy S))
    show Rep (sCps S (freeC S i)) _
    unfold freeC
    rw [hn]
    show Rep (sCps S (va_up (cps S) i (asided (cps S i) x (tdy S)))) _
    rw [← va_up_up (cps S) i (freed (cps S i)) (asided (cps S i) x (tdy S))]
    exact R2
end
section
/-! who waits no more; days; laying together -/
def itN {α : Type} (f : α → Nat → α) : Nat → α → α
  | 0, s => s
  | k + 1, s => f (itN f k s) k
abbrev dropS (S : St) (x r : Nat) : St := setLn S r ((lin S r).filter (· ≠ x))
def endStep (x r : Nat) (T : St) (c : Nat) : St := if asideB T (some x) r c = true then freeS T c else T
def endS (S : St) (x r : Nat) : St := itN (endStep x r) 30 (dropS S x r)
theorem b01_z {p : Prop} [Decidable p] (h : b01 p = 0) : ¬ p := fun z => absurd h (by simp [b01, z])
theorem b01_nz {p : Prop} [Decidable p] (h : ¬ b01 p = 0) : p := Decidable.byContradiction fun z => h (by simp [b01, z])
theorem wf_drop {S : St} (W : Wf S) {x r : Nat} (hr : r < nRc S) : Wf (dropS S x r) :=
  wf_ln W (Nat.le_trans (List.length_filter_le _ _) (W_lin W hr).1) (fun y hy => (W_lin W hr).2 y (List.mem_filter.mp hy).1) ((W_nod W hr).sublist List.filter_sublist)
theorem wf_endStep {T : St} (W : Wf T) {x r c : Nat} : Wf (endStep x r T c) := by
  unfold endStep
  split
  · rename_i h
    simp only [asideB, decide_eq_true_eq] at h
    exact wf_free W h.1
  · exact W
/-- what stays while copies are freed -/
def same5 (S T : St) : Prop := T.1 = S.1 ∧ T.2.1 = S.2.1 ∧ T.2.2.1 = S.2.2.1
theorem same5.rf {S : St} : same5 S S := ⟨rfl, rfl, rfl⟩
theorem same5.tr {S T U : St} (h1 : same5 S T) (h2 : same5 T U) : same5 S U := ⟨h2.1.trans h1.1, h2.2.1.trans h1.2.1, h2.2.2.trans h1.2.2⟩
theorem same5_endStep {T : St} {x r c : Nat} : same5 T (endStep x r T c) := by
  unfold endStep
  split <;> exact ⟨rfl, rfl, rfl⟩
theorem itN_wf {f : St → Nat → St} (hf : ∀ T c, Wf T → Wf (f T c)) {S : St} (W : Wf S) : ∀ k, Wf (itN f k S) := by
  intro k
  induction k with
  | zero => exact W
  | succ k ih => exact hf _ _ ih
theorem itN_same {f : St → Nat → St} (hf : ∀ T c, same5 T (f T c)) {S : St} : ∀ k, same5 S (itN f k S) := by
  intro k
  induction k with
  | zero => exact same5.rf
  | succ k ih => exact ih.tr (hf _ _)
theorem wf_end {S : St} (W : Wf S) {x r : Nat} (hr : r < nRc S) : Wf (endS S x r) := itN_wf (fun T c h => wf_endStep h) (wf_drop W hr) 30
theorem same5_end {S : St} {x r : Nat} : same5 S (endS S x r) := by
  have h := itN_same (f := endStep x r) (fun T c => same5_endStep) (S := dropS S x r) 30
  exact same5.tr (S := S) (T := dropS S x r) ⟨rfl, rfl, rfl⟩ h
theorem c_endWait (G : GC) {h : HP} {S : St} (R : Rep S h) (W : Wf S) {x r : Nat} (hx : x < nRd S) (hr : r < nRc S) : Calls G yX5_endWait cX5_endWait 7 (.none : Option Jvm.ClassFile.FieldType) 4 95 0 0 [.ref (aH S), .ref (adD S x), .ref (adR S r)] h (fun v h' => v = none ∧ Rep (endS S x r) h') qX := by
  have h1 := R.hall
  have h2 := R.rec hr
  have h3 := R.line hr
  have R0 := rep_ln R hr ((lin S r).filter (· ≠ x))
  have W0 := wf_drop W (x := x) hr
  refine Calls_of1 (by decide +kernel) (by simp [cat_rf, cat_ref, cat_int, cat_null]) (by simp) (lv0 := [some (.ref (aH S)), some (.ref (adD S x)), some (.ref (adR S r)), none, none, none, none]) rfl ?_
  intro Z hG hZ hE hN
  subst hG
  refine V_aload_n hZ 2 dX5_endWait_0 rfl rfl (by first | rfl | exact isR_rf _) ?_
  refine V_getfield hZ fl_X5_235 dX5_endWait_1 (by assumption) (by rfl) ?_
  refine V_aload_n hZ 1 dX5_endWait_4 rfl rfl (by first | rfl | exact isR_rf _) ?_
  refine V_invV hZ me_X4_drop mi_X4_drop ml_X5_379 (c_drop Z.1 h h3 (R.row hr) (W_lin W hr).1 (r := x) (fun y hy he => R.rdrInj W ((W_lin W hr).2 y hy) hx he) (fun y hy => ⟨_, _, _, R.rdr ((W_lin W hr).2 y hy)⟩)) dX5_endWait_5 rfl rfl (by assumption) rfl rfl ⟨by decide, by decide⟩ (by first | decide | simp [cat_rf, cat_ref, cat_int, cat_null]) ⟨by decide, by decide⟩ (fun _ _ hq => hq.elim) ?_
  rintro _ _ ⟨rfl, rfl⟩
  have h1' := R0.hall
  have h2' := R0.copies
  refine V_aload_n hZ 0 dX5_endWait_8 rfl rfl (by first | rfl | exact isR_rf _) ?_
  refine V_getfield hZ fl_X5_23.r dX5_endWait_9 (by assumption) (by rfl) ?_
  refine V_astore_n hZ 3 rfl dX5_endWait_12 (by first | rfl | exact isR_rf _) (by decide) (by first | rfl | simp [okp, cat_rf, cat_ref, cat_int, cat_null]) ?_
  refine V.lvc (by simp only [List.set_cons_zero, List.set_cons_succ, Nat.reduceAdd]; rfl) ?_
  refine V_aload_n hZ 3 dX5_endWait_13 rfl rfl (by first | rfl | exact isR_rf _) ?_
  refine V_alenR hZ dX5_endWait_14 (by assumption) ?_
  refine V_istore hZ dX5_endWait_15 (by decide) (by first | rfl | simp [okp, cat_rf, cat_ref, cat_int, cat_null]) ?_
  refine V.lvc (by simp only [List.set_cons_zero, List.set_cons_succ, Nat.reduceAdd]; rfl) ?_
  refine V_iconst (v := 0) hZ dX5_endWait_17 (by decide) ?_
  refine V_istore hZ dX5_endWait_18 (by decide) (by first | rfl | simp [okp, cat_rf, cat_ref, cat_int, cat_null]) ?_
  refine V.lvc (by simp only [List.set_cons_zero, List.set_cons_succ, Nat.reduceAdd]; rfl) ?_
  have key : ∀ m c, c + m = 30 → ∀ (T : St) (g : HP), Rep T g → Wf T → x < nRd T → r < nRc T → itN (endStep x r) c (dropS S x r) = T → ∀ w, V Z 20 [some (.ref (aH T)), some (.ref (adD T x)), some (.ref (adR T r)), some (.ref (aCs T)), some (.int (nI 30)), some (.int (nI c)), w] [] g 0 0 := by
    intro m
    induction m with
    | zero =>
      intro c hcm T g R W hx hr hT w
      have hc : c = 30 := by omega
      subst hc
      have g1 := R.hall
      have g2 := R.copies
      refine V_iload hZ dX5_endWait_20 rfl ?_
      refine V_iload hZ dX5_endWait_22 rfl ?_
      refine V_icmp_ge (tgt := 60) hZ dX5_endWait_24 (by decide) (fun cE => ?_) (fun cE => ?_)
      · refine V_vret hZ hE rfl dX5_endWait_60 (by decide) (by decide) ?_
        exact ⟨rfl, by rw [show endS S x r = T from hT]; exact R⟩
      · exact absurd (by decide) cE
    | succ m ih =>
      intro c hcm T g R W hx hr hT w
      have hcN : c < 30 := by omega
      have g1 := R.hall
      have g2 := R.copies
      refine V_iload hZ dX5_endWait_20 rfl ?_
      refine V_iload hZ dX5_endWait_22 rfl ?_
      refine V_icmp_ge (tgt := 60) hZ dX5_endWait_24 (by decide) (fun cE => ?_) (fun cE => ?_)
      · have cE2 : 30 ≤ c := (nI_leI (a := 30) (by decide) (by omega)).mp cE
        omega
      · refine V_aload_n hZ 3 dX5_endWait_27 rfl rfl (by first | rfl | exact isR_rf _) ?_
        refine V_iload hZ dX5_endWait_28 rfl ?_
        by_cases hi : c < nCp T
        · refine V_aaldn hZ dX5_endWait_30 (by assumption) hcN (by decide) (v := .ref (adC T c)) (rowf_lt hi) ?_
          refine V_astore hZ dX5_endWait_31 (by first | rfl | exact isR_rf _) (by decide) (by first | rfl | simp [okp, cat_rf, cat_ref, cat_int, cat_null]) ?_
          refine V.lvc (by simp only [List.set_cons_zero, List.set_cons_succ, Nat.reduceAdd]; rfl) ?_
          refine V_aload hZ dX5_endWait_33 rfl (by first | rfl | exact isR_rf _) ?_
          refine V_ifnullR hZ dX5_endWait_35 ?_
          have g3 := R.copy hi
          refine V_aload hZ dX5_endWait_38 rfl (by first | rfl | exact isR_rf _) ?_
          refine V_aload_n hZ 1 dX5_endWait_40 rfl rfl (by first | rfl | exact isR_rf _) ?_
          refine V_aload_n hZ 2 dX5_endWait_41 rfl rfl (by first | rfl | exact isR_rf _) ?_
          refine V_invVp hZ me_X1_isAsideFor mi_X1_isAsideFor ml_X5_368 (c_isAsideForS Z.1 R W (o := some x) hi hr (fun y hy => by cases hy; exact hx)) dX5_endWait_42 rfl rfl (by assumption) rfl rfl ⟨by decide, by decide⟩ (by first | decide | simp [cat_rf, cat_ref, cat_int, cat_null]) ⟨by decide, by decide⟩ ?_
          refine V_if_eq (tgt := 54) hZ dX5_endWait_45 (by decide) (fun c1 => ?_) (fun c1 => ?_)
          · refine V_iincv hZ dX5_endWait_54 rfl (by decide) (by first | rfl | simp [okp, cat_rf, cat_ref, cat_int, cat_null]) (by first | exact nI_inc _ | rfl) ?_
            refine V.lvc (by simp only [List.set_cons_zero, List.set_cons_succ, Nat.reduceAdd]; rfl) ?_
            refine V_goto (tgt := 20) hZ dX5_endWait_57 (by decide) ?_
            exact ih (c + 1) (by omega) T g R W hx hr (by rw [itN, hT]; simp only [endStep, if_neg (b01_z c1)]) _
          · have c2 := b01_nz c1
            refine V_aload_n hZ 0 dX5_endWait_48 rfl rfl (by first | rfl | exact isR_rf _) ?_
            refine V_aload hZ dX5_endWait_49 rfl (by first | rfl | exact isR_rf _) ?_
            refine V_invV hZ me_X5_free mi_X5_free ml_X5_144 (c_free Z.1 R W hi) dX5_endWait_51 rfl rfl (by assumption) rfl rfl ⟨by decide, by decide⟩ (by first | decide | simp [cat_rf, cat_ref, cat_int, cat_null]) ⟨by decide, by decide⟩ (fun _ _ hq => hq.elim) ?_
            rintro _ g' ⟨rfl, R'⟩
            refine V_iincv hZ dX5_endWait_54 rfl (by decide) (by first | rfl | simp [okp, cat_rf, cat_ref, cat_int, cat_null]) (by first | exact nI_inc _ | rfl) ?_
            refine V.lvc (by simp only [List.set_cons_zero, List.set_cons_succ, Nat.reduceAdd]; rfl) ?_
            refine V_goto (tgt := 20) hZ dX5_endWait_57 (by decide) ?_
            exact ih (c + 1) (by omega) (freeS T c) g' R' (wf_free W hi) hx hr (by rw [itN, hT]; simp only [endStep, if_pos c2]) _
        · refine V_aaldn hZ dX5_endWait_30 (by assumption) hcN (by decide) (v := .null) (rowf_ge hi) ?_
          refine V_astore hZ dX5_endWait_31 (by first | rfl | exact isR_rf _) (by decide) (by first | rfl | simp [okp, cat_rf, cat_ref, cat_int, cat_null]) ?_
          refine V.lvc (by simp only [List.set_cons_zero, List.set_cons_succ, Nat.reduceAdd]; rfl) ?_
          refine V_aload hZ dX5_endWait_33 rfl (by first | rfl | exact isR_rf _) ?_
          refine V_ifnullN (tgt := 54) hZ dX5_endWait_35 (by decide) ?_
          refine V_iincv hZ dX5_endWait_54 rfl (by decide) (by first | rfl | simp [okp, cat_rf, cat_ref, cat_int, cat_null]) (by first | exact nI_inc _ | rfl) ?_
          refine V.lvc (by simp only [List.set_cons_zero, List.set_cons_succ, Nat.reduceAdd]; rfl) ?_
          refine V_goto (tgt := 20) hZ dX5_endWait_57 (by decide) ?_
          exact ih (c + 1) (by omega) T g R W hx hr (by rw [itN, hT]; simp [endStep, asideB, hi]) _
  exact key 30 0 rfl _ _ R0 W0 hx hr rfl none
abbrev lostC (c : Cp) : Cp := (cpPr c, cpRc c, 3, cpRd c, -1, 0, cpTh c)
abbrev feeR (S : St) (x : Nat) (p : Int32) : St := setRd S x (rdKi (rds S x), rdOw (rds S x) + (p + 40))
def loseS (S : St) (i : Nat) : St := match cpRd (cps S i) with
  | none => setCp S i (lostC (cps S i))
  | some x => setCp (feeR S x (cpPr (cps S i))) i (lostC (cps S i))
theorem wf_lose {S : St} (W : Wf S) {i : Nat} (hi : i < nCp S) : Wf (loseS S i) := by
  unfold loseS
  split
  · exact wf_cp W (W_rec W hi) (W_rdr W hi) (fun h => by cases h)
  · exact wf_cp (S := feeR S _ _) W (W_rec W hi) (W_rdr W hi) (fun h => by cases h)
theorem same5_lose {S : St} {i : Nat} : same5 S (loseS S i) := by
  unfold loseS
  split <;> exact ⟨rfl, rfl, rfl⟩
theorem c_lose (G : GC) {h : HP} {S : St} (R : Rep S h) (W : Wf S) {i : Nat} (hi : i < nCp S) : Calls G yX5_lose cX5_lose 3 (.none : Option Jvm.ClassFile.FieldType) 1 23 0 0 [.ref (aH S), .ref (adC S i)] h (fun v h' => v = none ∧ Rep (loseS S i) h') qX := by
  have h3 := R.copy hi
  have e : loseS S i = match cpRd (cps S i) with
    | none => setCp S i (lostC (cps S i))
    | some x => setCp (feeR S x (cpPr (cps S i))) i (lostC (cps S i)) := rfl
  refine Calls_of1 (by decide +kernel) (by simp [cat_rf, cat_ref, cat_int, cat_null]) (by simp) (lv0 := [some (.ref (aH S)), some (.ref (adC S i)), none]) rfl ?_
  intro Z hG hZ hE hN
  subst hG
  refine V_aload_n hZ 1 dX5_lose_0 rfl rfl (by first | rfl | exact isR_rf _) ?_
  refine V_getfield hZ fl_X5_202.r dX5_lose_1 (by assumption) (by rfl) ?_
  refine V_astore_n hZ 2 rfl dX5_lose_4 (by first | rfl | exact isR_rf _) (by decide) (by first | rfl | simp [okp, cat_rf, cat_ref, cat_int, cat_null]) ?_
  refine V.lvc (by simp only [List.set_cons_zero, List.set_cons_succ, Nat.reduceAdd]; rfl) ?_
  refine V_aload_n hZ 2 dX5_lose_5 rfl rfl (by first | rfl | exact isR_rf _) ?_
  cases hz : cpRd (cps S i) with
  | none =>
    rw [hz] at e
    refine V_ifnullN (tgt := 22) hZ dX5_lose_6 (by decide) ?_
    refine V_aload_n hZ 1 dX5_lose_22 rfl rfl (by first | rfl | exact isR_rf _) ?_
    refine V_iconst (v := 3) hZ dX5_lose_23 (by decide) ?_
    refine V_aload_n hZ 2 dX5_lose_24 rfl rfl (by first | rfl | exact isR_rf _) ?_
    refine V_iconst (v := -1) hZ dX5_lose_25 (by decide) ?_
    refine V_invV hZ me_X1_put mi_X1_put ml_X5_188 (c_put Z.1 h h3 3 (-1) (none)) dX5_lose_26 rfl rfl (by assumption) rfl rfl ⟨by decide, by decide⟩ (by first | decide | simp [cat_rf, cat_ref, cat_int, cat_null]) ⟨by decide, by decide⟩ (fun _ _ hq => hq.elim) ?_
    rintro _ _ ⟨rfl, rfl⟩
    refine V_vret hZ hE rfl dX5_lose_29 (by decide) (by decide) ?_
    have R1 := rep_cp R W hi (lostC (cps S i))
    simp only [lostC, hz] at R1 e
    rw [e]
    exact ⟨rfl, R1⟩
  | some x =>
    have hx := W_rdr W hi x hz
    have h4 := R.rdr hx
    rw [hz] at e
    refine V_ifnullR hZ dX5_lose_6 ?_
    refine V_aload_n hZ 2 dX5_lose_9 rfl rfl (by first | rfl | exact isR_rf _) ?_
    refine V_dup hZ dX5_lose_10 (by first | rfl | exact cat_rf _) ?_
    refine V_getfield hZ fl_X5_172.r dX5_lose_11 (by assumption) (by rfl) ?_
    refine V_aload_n hZ 1 dX5_lose_14 rfl rfl (by first | rfl | exact isR_rf _) ?_
    refine V_invVp hZ me_X1_feeWhenLost mi_X1_feeWhenLost ml_X5_283 (c_feeWhenLost Z.1 h h3) dX5_lose_15 rfl rfl (by assumption) rfl rfl ⟨by decide, by decide⟩ (by first | decide | simp [cat_rf, cat_ref, cat_int, cat_null]) ⟨by decide, by decide⟩ ?_
    refine V_iadd hZ dX5_lose_18 ?_
    refine V_putfield hZ fl_X5_172 dX5_lose_19 (by first | assumption | exact hup_self _ _ _) (by first | rfl | exact nar_rf _ _) (by first | rfl | exact fits_rf _ _) (by simp) ?_
    have R1 := rep_rd R W hx (rdKi (rds S x), rdOw (rds S x) + (cpPr (cps S i) + 40))
    have h5 := R1.copy (i := i) hi
    refine V_aload_n hZ 1 dX5_lose_22 rfl rfl (by first | rfl | exact isR_rf _) ?_
    refine V_iconst (v := 3) hZ dX5_lose_23 (by decide) ?_
    refine V_aload_n hZ 2 dX5_lose_24 rfl rfl (by first | rfl | exact isR_rf _) ?_
    refine V_iconst (v := -1) hZ dX5_lose_25 (by decide) ?_
    refine V_invV hZ me_X1_put mi_X1_put ml_X5_188 (c_put Z.1 _ h5 3 (-1) (some (adD S x))) dX5_lose_26 rfl rfl (by assumption) rfl rfl ⟨by decide, by decide⟩ (by first | decide | simp [cat_rf, cat_ref, cat_int, cat_null]) ⟨by decide, by decide⟩ (fun _ _ hq => hq.elim) ?_
    rintro _ _ ⟨rfl, rfl⟩
    refine V_vret hZ hE rfl dX5_lose_29 (by decide) (by decide) ?_
    have R2 := rep_cp R1 (wf_rd W) (i := i) hi (lostC (cps S i))
    rw [e]
    refine ⟨rfl, ?_⟩
    simp only [lostC, hz] at R2 ⊢
    exact R2
/-- one day: the copies one by one; how many were lost -/
def dayStep (p : St × Nat) (c : Nat) : St × Nat :=
  if c < nCp p.1 then
    if cpPl (cps p.1 c) = 2 ∧ cpDy (cps p.1 c) < tdy p.1 then (endS p.1 ((cpRd (cps p.1 c)).getD 0) (cpRc (cps p.1 c)), p.2)
    else if lostP (cpPl (cps p.1 c)) (cpDy (cps p.1 c)) (tdy p.1) then (loseS p.1 c, p.2 + 1) else p
  else p
def dayS (S : St) : St × Nat := itN dayStep 30 (sTdy S (tdy S + 1), 0)
theorem wf_dayStep {p : St × Nat} {c : Nat} (W : Wf p.1) : Wf (dayStep p c).1 := by
  unfold dayStep
  split
  · rename_i hi
    split
    · dsimp only
      exact wf_end W (W_rec W hi)
    · split
      · exact wf_lose W hi
      · exact W
  · exact W
theorem same5_dayStep {p : St × Nat} {c : Nat} : same5 p.1 (dayStep p c).1 := by
  unfold dayStep
  split
  · split
    · dsimp only
      exact same5_end
    · split
      · exact same5_lose
      · exact same5.rf
  · exact same5.rf
theorem wf_day {S : St} (W : Wf S) : Wf (dayS S).1 := by
  have : ∀ k, Wf (itN dayStep k (sTdy S (tdy S + 1), 0)).1 := by
    intro k
    induction k with
    | zero => exact wf_td W
    | succ k ih => exact wf_dayStep ih
  unfold dayS
  exact this 30
theorem dayS_same {S : St} : (dayS S).1.1 = S.1 ∧ (dayS S).1.2.1 = (sTdy S (tdy S + 1)).2.1 ∧ (dayS S).1.2.2.1 = S.2.2.1 := by
  have : ∀ k, same5 (sTdy S (tdy S + 1)) (itN dayStep k (sTdy S (tdy S + 1), 0)).1 := by
    intro k
    induction k with
    | zero => exact same5.rf
    | succ k ih => exact ih.tr same5_dayStep
  unfold dayS
  have h := this 30
  exact ⟨h.1, h.2.1, h.2.2⟩
theorem c_passOneDay (G : GC) {h : HP} {S : St} (R : Rep S h) (W : Wf S) : Calls G yX5_passOneDay cX5_passOneDay 6 (.some .int) 5 121 0 0 [.ref (aH S)] h (fun v h' => v = some (.int (nI (dayS S).2)) ∧ Rep (dayS S).1 h') qX := by
  have h1 := R.hall
  have R0 := rep_td R (tdy S + 1)
  refine Calls_of1 (by decide +kernel) (by simp [cat_rf, cat_ref, cat_int, cat_null]) (by simp) (lv0 := [some (.ref (aH S)), none, none, none, none, none]) rfl ?_
  intro Z hG hZ hE hN
  subst hG
  refine V_aload_n hZ 0 dX5_passOneDay_0 rfl rfl (by first | rfl | exact isR_rf _) ?_
  refine V_dup hZ dX5_passOneDay_1 (by first | rfl | exact cat_rf _) ?_
  refine V_getfield hZ fl_X5_181.r dX5_passOneDay_2 (by assumption) (by rfl) ?_
  refine V_iconst (v := 1) hZ dX5_passOneDay_5 (by decide) ?_
  refine V_iadd hZ dX5_passOneDay_6 ?_
  refine V_putfield hZ fl_X5_181 dX5_passOneDay_7 (by first | assumption | exact hup_self _ _ _) (by first | rfl | exact nar_rf _ _) (by first | rfl | exact fits_rf _ _) (by simp) ?_
  have h1' := R0.hall
  have h2' := R0.copies
  refine V_iconst (v := 0) hZ dX5_passOneDay_10 (by decide) ?_
  refine V_istore_n hZ 1 rfl dX5_passOneDay_11 (by decide) (by first | rfl | simp [okp, cat_rf, cat_ref, cat_int, cat_null]) ?_
  refine V.lvc (by simp only [List.set_cons_zero, List.set_cons_succ, Nat.reduceAdd]; rfl) ?_
  refine V_aload_n hZ 0 dX5_passOneDay_12 rfl rfl (by first | rfl | exact isR_rf _) ?_
  refine V_getfield hZ fl_X5_23.r dX5_passOneDay_13 (by assumption) (by rfl) ?_
  refine V_astore_n hZ 2 rfl dX5_passOneDay_16 (by first | rfl | exact isR_rf _) (by decide) (by first | rfl | simp [okp, cat_rf, cat_ref, cat_int, cat_null]) ?_
  refine V.lvc (by simp only [List.set_cons_zero, List.set_cons_succ, Nat.reduceAdd]; rfl) ?_
  refine V_aload_n hZ 2 dX5_passOneDay_17 rfl rfl (by first | rfl | exact isR_rf _) ?_
  refine V_alenR hZ dX5_passOneDay_18 (by assumption) ?_
  refine V_istore_n hZ 3 rfl dX5_passOneDay_19 (by decide) (by first | rfl | simp [okp, cat_rf, cat_ref, cat_int, cat_null]) ?_
  refine V.lvc (by simp only [List.set_cons_zero, List.set_cons_succ, Nat.reduceAdd]; rfl) ?_
  refine V_iconst (v := 0) hZ dX5_passOneDay_20 (by decide) ?_
  refine V_istore hZ dX5_passOneDay_21 (by decide) (by first | rfl | simp [okp, cat_rf, cat_ref, cat_int, cat_null]) ?_
  refine V.lvc (by simp only [List.set_cons_zero, List.set_cons_succ, Nat.reduceAdd]; rfl) ?_
  have key : ∀ m c, c + m = 30 → ∀ (T : St) (g : HP) (a : Nat), Rep T g → Wf T → itN dayStep c (sTdy S (tdy S + 1), 0) = (T, a) → ∀ w, V Z 23 [some (.ref (aH T)), some (.int (nI a)), some (.ref (aCs T)), some (.int (nI 30)), some (.int (nI c)), w] [] g 0 0 := by
    intro m
    induction m with
    | zero =>
      intro c hcm T g a R W hT w
      have hc : c = 30 := by omega
      subst hc
      have g1 := R.hall
      have g2 := R.copies
      refine V_iload hZ dX5_passOneDay_23 rfl ?_
      refine V_iload_n hZ 3 dX5_passOneDay_25 rfl rfl ?_
      refine V_icmp_ge (tgt := 110) hZ dX5_passOneDay_26 (by decide) (fun cE => ?_) (fun cE => ?_)
      · refine V_iload_n hZ 1 dX5_passOneDay_110 rfl rfl ?_
        refine V_iret hZ hE rfl (by rfl) dX5_passOneDay_111 (by decide) (by decide) ?_
        exact ⟨by rw [show dayS S = (T, a) from hT], by rw [show dayS S = (T, a) from hT]; exact R⟩
      · exact absurd (by decide) cE
    | succ m ih =>
      intro c hcm T g a R W hT w
      have hcN : c < 30 := by omega
      have g1 := R.hall
      have g2 := R.copies
      refine V_iload hZ dX5_passOneDay_23 rfl ?_
      refine V_iload_n hZ 3 dX5_passOneDay_25 rfl rfl ?_
      refine V_icmp_ge (tgt := 110) hZ dX5_passOneDay_26 (by decide) (fun cE => ?_) (fun cE => ?_)
      · have cE2 : 30 ≤ c := (nI_leI (a := 30) (by decide) (by omega)).mp cE
        omega
      · refine V_aload_n hZ 2 dX5_passOneDay_29 rfl rfl (by first | rfl | exact isR_rf _) ?_
        refine V_iload hZ dX5_passOneDay_30 rfl ?_
        by_cases hi : c < nCp T
        · refine V_aaldn hZ dX5_passOneDay_32 (by assumption) hcN (by decide) (v := .ref (adC T c)) (rowf_lt hi) ?_
          refine V_astore hZ dX5_passOneDay_33 (by first | rfl | exact isR_rf _) (by decide) (by first | rfl | simp [okp, cat_rf, cat_ref, cat_int, cat_null]) ?_
          refine V.lvc (by simp only [List.set_cons_zero, List.set_cons_succ, Nat.reduceAdd]; rfl) ?_
          refine V_aload hZ dX5_passOneDay_35 rfl (by first | rfl | exact isR_rf _) ?_
          refine V_ifnullR hZ dX5_passOneDay_37 ?_
          have g3 := R.copy hi
          refine V_aload hZ dX5_passOneDay_40 rfl (by first | rfl | exact isR_rf _) ?_
          refine V_getfield hZ fl_X5_215.r dX5_passOneDay_42 (by assumption) (by rfl) ?_
          refine V_iconst (v := 2) hZ dX5_passOneDay_45 (by decide) ?_
          refine V_icmp_ne (tgt := 78) hZ dX5_passOneDay_46 (by decide) (fun c1 => ?_) (fun c1 => ?_)
          · refine V_aload hZ dX5_passOneDay_78 rfl (by first | rfl | exact isR_rf _) ?_
            refine V_ifnullR hZ dX5_passOneDay_80 ?_
            refine V_aload hZ dX5_passOneDay_83 rfl (by first | rfl | exact isR_rf _) ?_
            refine V_aload_n hZ 0 dX5_passOneDay_85 rfl rfl (by first | rfl | exact isR_rf _) ?_
            refine V_getfield hZ fl_X5_181.r dX5_passOneDay_86 (by assumption) (by rfl) ?_
            refine V_invVp hZ me_X1_isLostOn mi_X1_isLostOn ml_X5_280 (c_isLostOn Z.1 g g3 (tdy T)) dX5_passOneDay_89 rfl rfl (by assumption) rfl rfl ⟨by decide, by decide⟩ (by first | decide | simp [cat_rf, cat_ref, cat_int, cat_null]) ⟨by decide, by decide⟩ ?_
            refine V_if_eq (tgt := 104) hZ dX5_passOneDay_92 (by decide) (fun c2 => ?_) (fun c2 => ?_)
            · refine V_iincv hZ dX5_passOneDay_104 rfl (by decide) (by first | rfl | simp [okp, cat_rf, cat_ref, cat_int, cat_null]) (by first | exact nI_inc _ | rfl) ?_
              refine V.lvc (by simp only [List.set_cons_zero, List.set_cons_succ, Nat.reduceAdd]; rfl) ?_
              refine V_goto (tgt := 23) hZ dX5_passOneDay_107 (by decide) ?_
              exact ih (c + 1) (by omega) T g a R W (by rw [itN, hT]; simp only [dayStep, if_pos hi, if_neg (show ¬ (cpPl (cps T c) = 2 ∧ cpDy (cps T c) < tdy T) from fun z => c1 z.1), if_neg (b01_z c2)]) _
            · refine V_aload_n hZ 0 dX5_passOneDay_95 rfl rfl (by first | rfl | exact isR_rf _) ?_
              refine V_aload hZ dX5_passOneDay_96 rfl (by first | rfl | exact isR_rf _) ?_
              refine V_invV hZ me_X5_lose mi_X5_lose ml_X5_388 (c_lose Z.1 R W hi) dX5_passOneDay_98 rfl rfl (by assumption) rfl rfl ⟨by decide, by decide⟩ (by first | decide | simp [cat_rf, cat_ref, cat_int, cat_null]) ⟨by decide, by decide⟩ (fun _ _ hq => hq.elim) ?_
              rintro _ g' ⟨rfl, R'⟩
              refine V_iincv hZ dX5_passOneDay_101 rfl (by decide) (by first | rfl | simp [okp, cat_rf, cat_ref, cat_int, cat_null]) (by first | exact nI_inc _ | rfl) ?_
              refine V.lvc (by simp only [List.set_cons_zero, List.set_cons_succ, Nat.reduceAdd]; rfl) ?_
              have hs := same5_lose (S := T) (i := c)
              have e1 : aH (loseS T c) = aH T := congrArg (fun z => z.1.1) hs.1
              have e2 : aCs (loseS T c) = aCs T := congrArg (fun z => z.1.2.2.2.1) hs.1
              have e3 : adC (loseS T c) = adC T := congrArg (fun z => z.2.2.2.2.2.1) hs.1
              refine V_iincv hZ dX5_passOneDay_104 rfl (by decide) (by first | rfl | simp [okp, cat_rf, cat_ref, cat_int, cat_null]) (by first | exact nI_inc _ | rfl) ?_
              refine V.lvc (by simp only [List.set_cons_zero, List.set_cons_succ, Nat.reduceAdd]; rfl) ?_
              refine V_goto (tgt := 23) hZ dX5_passOneDay_107 (by decide) ?_
              have k := ih (c + 1) (by omega) (loseS T c) g' (a + 1) R' (wf_lose W hi) (by rw [itN, hT]; simp only [dayStep, if_pos hi, if_neg (show ¬ (cpPl (cps T c) = 2 ∧ cpDy (cps T c) < tdy T) from fun z => c1 z.1), if_pos (b01_nz c2)]) (some (.ref (adC T c)))
              rw [e1, e2] at k
              exact k
          · refine V_aload hZ dX5_passOneDay_49 rfl (by first | rfl | exact isR_rf _) ?_
            refine V_getfield hZ fl_X5_199.r dX5_passOneDay_51 (by assumption) (by rfl) ?_
            refine V_aload_n hZ 0 dX5_passOneDay_54 rfl rfl (by first | rfl | exact isR_rf _) ?_
            refine V_getfield hZ fl_X5_181.r dX5_passOneDay_55 (by assumption) (by rfl) ?_
            refine V_icmp_ge (tgt := 78) hZ dX5_passOneDay_58 (by decide) (fun c3 => ?_) (fun c3 => ?_)
            · refine V_aload hZ dX5_passOneDay_78 rfl (by first | rfl | exact isR_rf _) ?_
              refine V_ifnullR hZ dX5_passOneDay_80 ?_
              refine V_aload hZ dX5_passOneDay_83 rfl (by first | rfl | exact isR_rf _) ?_
              refine V_aload_n hZ 0 dX5_passOneDay_85 rfl rfl (by first | rfl | exact isR_rf _) ?_
              refine V_getfield hZ fl_X5_181.r dX5_passOneDay_86 (by assumption) (by rfl) ?_
              refine V_invVp hZ me_X1_isLostOn mi_X1_isLostOn ml_X5_280 (c_isLostOn Z.1 g g3 (tdy T)) dX5_passOneDay_89 rfl rfl (by assumption) rfl rfl ⟨by decide, by decide⟩ (by first | decide | simp [cat_rf, cat_ref, cat_int, cat_null]) ⟨by decide, by decide⟩ ?_
              refine V_if_eq (tgt := 104) hZ dX5_passOneDay_92 (by decide) (fun c2 => ?_) (fun c2 => ?_)
              · refine V_iincv hZ dX5_passOneDay_104 rfl (by decide) (by first | rfl | simp [okp, cat_rf, cat_ref, cat_int, cat_null]) (by first | exact nI_inc _ | rfl) ?_
                refine V.lvc (by simp only [List.set_cons_zero, List.set_cons_succ, Nat.reduceAdd]; rfl) ?_
                refine V_goto (tgt := 23) hZ dX5_passOneDay_107 (by decide) ?_
                exact ih (c + 1) (by omega) T g a R W (by rw [itN, hT]; simp only [dayStep, if_pos hi, if_neg (show ¬ (cpPl (cps T c) = 2 ∧ cpDy (cps T c) < tdy T) from fun z => Int32.not_lt.mpr c3 z.2), if_neg (b01_z c2)]) _
              · exact absurd (b01_nz c2) (by have hp : ¬ cpPl (cps T c) = 1 := by rw [c1]; decide
                                             simp [lostP, lateN, hp])
            · have c4 : cpPl (cps T c) = 2 ∧ cpDy (cps T c) < tdy T := ⟨c1, Int32.not_le.mp c3⟩
              have hsome := W_asd W hi c1
              cases hz : cpRd (cps T c) with
              | none => exact absurd hz hsome
              | some x =>
                have hx := W_rdr W hi x hz
                have hgd : (cpRd (cps T c)).getD 0 = x := by rw [hz]; rfl
                simp only [oCopy, hz] at g3
                refine V_aload_n hZ 0 dX5_passOneDay_61 rfl rfl (by first | rfl | exact isR_rf _) ?_
                refine V_aload hZ dX5_passOneDay_62 rfl (by first | rfl | exact isR_rf _) ?_
                refine V_getfield hZ fl_X5_202.r dX5_passOneDay_64 (by assumption) (by rfl) ?_
                refine V_aload hZ dX5_passOneDay_67 rfl (by first | rfl | exact isR_rf _) ?_
                refine V_getfield hZ fl_X5_192.r dX5_passOneDay_69 (by assumption) (by rfl) ?_
                refine V_invV hZ me_X5_endWait mi_X5_endWait ml_X5_195 (c_endWait Z.1 R W hx (W_rec W hi)) dX5_passOneDay_72 rfl rfl (by assumption) rfl rfl ⟨by decide, by decide⟩ (by first | decide | simp [cat_rf, cat_ref, cat_int, cat_null]) ⟨by decide, by decide⟩ (fun _ _ hq => hq.elim) ?_
                rintro _ g' ⟨rfl, R'⟩
                have hs := same5_end (S := T) (x := x) (r := cpRc (cps T c))
                have e1 : aH (endS T x (cpRc (cps T c))) = aH T := congrArg (fun z => z.1.1) hs.1
                have e2 : aCs (endS T x (cpRc (cps T c))) = aCs T := congrArg (fun z => z.1.2.2.2.1) hs.1
                refine V_goto (tgt := 104) hZ dX5_passOneDay_75 (by decide) ?_
                refine V_iincv hZ dX5_passOneDay_104 rfl (by decide) (by first | rfl | simp [okp, cat_rf, cat_ref, cat_int, cat_null]) (by first | exact nI_inc _ | rfl) ?_
                refine V.lvc (by simp only [List.set_cons_zero, List.set_cons_succ, Nat.reduceAdd]; rfl) ?_
                refine V_goto (tgt := 23) hZ dX5_passOneDay_107 (by decide) ?_
                have k := ih (c + 1) (by omega) (endS T x (cpRc (cps T c))) g' a R' (wf_end W (W_rec W hi)) (by rw [itN, hT]; simp only [dayStep, if_pos hi, if_pos c4, hgd]) (some (.ref (adC T c)))
                rw [e1, e2] at k
                exact k
        · refine V_aaldn hZ dX5_passOneDay_32 (by assumption) hcN (by decide) (v := .null) (rowf_ge hi) ?_
          refine V_astore hZ dX5_passOneDay_33 (by first | rfl | exact isR_rf _) (by decide) (by first | rfl | simp [okp, cat_rf, cat_ref, cat_int, cat_null]) ?_
          refine V.lvc (by simp only [List.set_cons_zero, List.set_cons_succ, Nat.reduceAdd]; rfl) ?_
          refine V_aload hZ dX5_passOneDay_35 rfl (by first | rfl | exact isR_rf _) ?_
          refine V_ifnullN (tgt := 78) hZ dX5_passOneDay_37 (by decide) ?_
          refine V_aload hZ dX5_passOneDay_78 rfl (by first | rfl | exact isR_rf _) ?_
          refine V_ifnullN (tgt := 104) hZ dX5_passOneDay_80 (by decide) ?_
          refine V_iincv hZ dX5_passOneDay_104 rfl (by decide) (by first | rfl | simp [okp, cat_rf, cat_ref, cat_int, cat_null]) (by first | exact nI_inc _ | rfl) ?_
          refine V.lvc (by simp only [List.set_cons_zero, List.set_cons_succ, Nat.reduceAdd]; rfl) ?_
          refine V_goto (tgt := 23) hZ dX5_passOneDay_107 (by decide) ?_
          exact ih (c + 1) (by omega) T g a R W (by rw [itN, hT]; simp only [dayStep, if_neg hi]) _
  exact key 30 0 rfl _ _ 0 R0 (wf_td W) rfl none
end
section
/-! laying together: its parts -/
theorem fN_some {P : Nat → Bool} : ∀ {m c d : Nat}, fN P m c = some d → P d = true := by
  intro m
  induction m with
  | zero => intro c d h; cases h
  | succ m ih =>
    intro c d h
    unfold fN at h
    split at h
    · rename_i hp
      cases h
      exact hp
    · exact ih h
theorem nd_len : ∀ (n : Nat) (l : List Nat), l.Nodup → (∀ y ∈ l, y < n) → l.length ≤ n := by
  intro n
  induction n with
  | zero =>
    intro l _ h
    cases l with
    | nil => exact Nat.le_refl _
    | cons a l => exact absurd (h a List.mem_cons_self) (Nat.not_lt_zero _)
  | succ n ih =>
    intro l hn h
    have h1 : (l.erase n).Nodup := hn.sublist List.erase_sublist
    have h2 : ∀ y ∈ l.erase n, y < n := by
      intro y hy
      have h3 := h y (List.mem_of_mem_erase hy)
      have h4 : y ≠ n := fun z => by subst z; exact (List.Nodup.not_mem_erase hn) hy
      omega
    have h5 := ih _ h1 h2
    by_cases hm : n ∈ l
    · rw [List.length_erase_of_mem hm] at h5; omega
    · rw [List.erase_of_not_mem hm] at h5; omega
theorem nd_lt {n x : Nat} {l : List Nat} (hn : l.Nodup) (h : ∀ y ∈ l, y < n) (hx : x < n) (hxl : x ∉ l) : l.length < n := by
  have := nd_len n (x :: l) (List.nodup_cons.mpr ⟨hxl, hn⟩) (fun y hy => by
    rcases List.mem_cons.mp hy with rfl | hy
    · exact hx
    · exact h y hy)
  exact this
abbrev recd (c : Cp) (b : Nat) : Cp := (cpPr c, b, cpPl c, cpRd c, cpDy c, cpRn c, cpTh c)
def mvcStep (a b : Nat) (T : St) (c : Nat) : St := if c < nCp T ∧ cpRc (cps T c) = a then setCp T c (recd (cps T c) b) else T
def mvcS (S : St) (a b : Nat) : St := itN (mvcStep a b) 30 S
theorem same5_mvcStep {T : St} {a b c : Nat} : same5 T (mvcStep a b T c) := by
  unfold mvcStep
  split <;> exact ⟨rfl, rfl, rfl⟩
theorem wf_mvcStep {T : St} (W : Wf T) {a b c : Nat} (hb : b < nRc T) : Wf (mvcStep a b T c) := by
  unfold mvcStep
  split
  · rename_i h
    exact wf_cp W hb (W_rdr W h.1) (W_asd W h.1)
  · exact W
theorem same5_mvc {S : St} {a b : Nat} : same5 S (mvcS S a b) := itN_same (fun T c => same5_mvcStep) 30
theorem nRc_same {S T : St} (h : same5 S T) : nRc T = nRc S := congrArg (fun z => z.2.1) h.2.1
theorem nCp_same {S T : St} (h : same5 S T) : nCp T = nCp S := congrArg (fun z => z.2.2.1) h.2.1
theorem nRd_same {S T : St} (h : same5 S T) : nRd T = nRd S := congrArg (fun z => z.2.2.2.1) h.2.1
theorem aH_same {S T : St} (h : same5 S T) : aH T = aH S := congrArg (fun z => z.1.1) h.1
theorem aCs_same {S T : St} (h : same5 S T) : aCs T = aCs S := congrArg (fun z => z.1.2.2.2.1) h.1
theorem adC_same {S T : St} (h : same5 S T) : adC T = adC S := congrArg (fun z => z.2.2.2.2.2.1) h.1
theorem adR_same {S T : St} (h : same5 S T) : adR T = adR S := congrArg (fun z => z.2.2.1) h.1
theorem adD_same {S T : St} (h : same5 S T) : adD T = adD S := congrArg (fun z => z.2.2.2.2.2.2) h.1
theorem wf_mvc {S : St} (W : Wf S) {a b : Nat} (hb : b < nRc S) : Wf (mvcS S a b) := by
  have : ∀ k, Wf (itN (mvcStep a b) k S) := by
    intro k
    induction k with
    | zero => exact W
    | succ k ih => exact wf_mvcStep ih (by rw [nRc_same (itN_same (fun T c => same5_mvcStep) k)]; exact hb)
  unfold mvcS
  exact this 30
theorem c_moveCopies (G : GC) {h : HP} {S : St} (R : Rep S h) (W : Wf S) {a b : Nat} (ha : a < nRc S) (hb : b < nRc S) : Calls G yX5_moveCopies cX5_moveCopies 7 (.none : Option Jvm.ClassFile.FieldType) 0 0 0 0 [.ref (aH S), .ref (adR S a), .ref (adR S b)] h (fun v h' => v = none ∧ Rep (mvcS S a b) h') qX := by
  have h1 := R.hall
  have h2 := R.copies
  refine Calls_of1 (by decide +kernel) (by simp [cat_rf, cat_ref, cat_int, cat_null]) (by simp) (lv0 := [some (.ref (aH S)), some (.ref (adR S a)), some (.ref (adR S b)), none, none, none, none]) rfl ?_
  intro Z hG hZ hE hN
  subst hG
  refine V_aload_n hZ 0 dX5_moveCopies_0 rfl rfl (by first | rfl | exact isR_rf _) ?_
  refine V_getfield hZ fl_X5_23.r dX5_moveCopies_1 (by assumption) (by rfl) ?_
  refine V_astore_n hZ 3 rfl dX5_moveCopies_4 (by first | rfl | exact isR_rf _) (by decide) (by first | rfl | simp [okp, cat_rf, cat_ref, cat_int, cat_null]) ?_
  refine V.lvc (by simp only [List.set_cons_zero, List.set_cons_succ, Nat.reduceAdd]; rfl) ?_
  refine V_aload_n hZ 3 dX5_moveCopies_5 rfl rfl (by first | rfl | exact isR_rf _) ?_
  refine V_alenR hZ dX5_moveCopies_6 (by assumption) ?_
  refine V_istore hZ dX5_moveCopies_7 (by decide) (by first | rfl | simp [okp, cat_rf, cat_ref, cat_int, cat_null]) ?_
  refine V.lvc (by simp only [List.set_cons_zero, List.set_cons_succ, Nat.reduceAdd]; rfl) ?_
  refine V_iconst (v := 0) hZ dX5_moveCopies_9 (by decide) ?_
  refine V_istore hZ dX5_moveCopies_10 (by decide) (by first | rfl | simp [okp, cat_rf, cat_ref, cat_int, cat_null]) ?_
  refine V.lvc (by simp only [List.set_cons_zero, List.set_cons_succ, Nat.reduceAdd]; rfl) ?_
  have key : ∀ m c, c + m = 30 → ∀ (T : St) (g : HP), Rep T g → Wf T → a < nRc T → b < nRc T → itN (mvcStep a b) c S = T → ∀ w, V Z 12 [some (.ref (aH T)), some (.ref (adR T a)), some (.ref (adR T b)), some (.ref (aCs T)), some (.int (nI 30)), some (.int (nI c)), w] [] g 0 0 := by
    intro m
    induction m with
    | zero =>
      intro c hcm T g R W ha hb hT w
      have hc : c = 30 := by omega
      subst hc
      have g1 := R.hall
      have g2 := R.copies
      refine V_iload hZ dX5_moveCopies_12 rfl ?_
      refine V_iload hZ dX5_moveCopies_14 rfl ?_
      refine V_icmp_ge (tgt := 51) hZ dX5_moveCopies_16 (by decide) (fun cE => ?_) (fun cE => ?_)
      · refine V_vret hZ hE rfl dX5_moveCopies_51 (by decide) (by decide) ?_
        exact ⟨rfl, by rw [show mvcS S a b = T from hT]; exact R⟩
      · exact absurd (by decide) cE
    | succ m ih =>
      intro c hcm T g R W ha hb hT w
      have hcN : c < 30 := by omega
      have g1 := R.hall
      have g2 := R.copies
      refine V_iload hZ dX5_moveCopies_12 rfl ?_
      refine V_iload hZ dX5_moveCopies_14 rfl ?_
      refine V_icmp_ge (tgt := 51) hZ dX5_moveCopies_16 (by decide) (fun cE => ?_) (fun cE => ?_)
      · have cE2 : 30 ≤ c := (nI_leI (a := 30) (by decide) (by omega)).mp cE
        omega
      · refine V_aload_n hZ 3 dX5_moveCopies_19 rfl rfl (by first | rfl | exact isR_rf _) ?_
        refine V_iload hZ dX5_moveCopies_20 rfl ?_
        by_cases hi : c < nCp T
        · refine V_aaldn hZ dX5_moveCopies_22 (by assumption) hcN (by decide) (v := .ref (adC T c)) (rowf_lt hi) ?_
          refine V_astore hZ dX5_moveCopies_23 (by first | rfl | exact isR_rf _) (by decide) (by first | rfl | simp [okp, cat_rf, cat_ref, cat_int, cat_null]) ?_
          refine V.lvc (by simp only [List.set_cons_zero, List.set_cons_succ, Nat.reduceAdd]; rfl) ?_
          refine V_aload hZ dX5_moveCopies_25 rfl (by first | rfl | exact isR_rf _) ?_
          refine V_ifnullR hZ dX5_moveCopies_27 ?_
          have g3 := R.copy hi
          refine V_aload hZ dX5_moveCopies_30 rfl (by first | rfl | exact isR_rf _) ?_
          refine V_getfield hZ fl_X5_192.r dX5_moveCopies_32 (by assumption) (by rfl) ?_
          refine V_aload_n hZ 1 dX5_moveCopies_35 rfl rfl (by first | rfl | exact isR_rf _) ?_
          refine V_acmp_ne (tgt := 45) hZ dX5_moveCopies_36 (by decide) (by first | rfl | exact isR_rf _) (by first | rfl | exact isR_rf _) (fun c1 => ?_) (fun c1 => ?_)
          · refine V_iincv hZ dX5_moveCopies_45 rfl (by decide) (by first | rfl | simp [okp, cat_rf, cat_ref, cat_int, cat_null]) (by first | exact nI_inc _ | rfl) ?_
            refine V.lvc (by simp only [List.set_cons_zero, List.set_cons_succ, Nat.reduceAdd]; rfl) ?_
            refine V_goto (tgt := 12) hZ dX5_moveCopies_48 (by decide) ?_
            have c2 : ¬ (c < nCp T ∧ cpRc (cps T c) = a) := fun z => c1 (by rw [z.2])
            exact ih (c + 1) (by omega) T g R W ha hb (by rw [itN, hT]; simp only [mvcStep, if_neg c2]) _
          · have c2 : c < nCp T ∧ cpRc (cps T c) = a := ⟨hi, (recIff R W (W_rec W hi) ha).mp (refIff.mp c1)⟩
            refine V_aload hZ dX5_moveCopies_39 rfl (by first | rfl | exact isR_rf _) ?_
            refine V_aload_n hZ 2 dX5_moveCopies_41 rfl rfl (by first | rfl | exact isR_rf _) ?_
            refine V_putfield hZ fl_X5_192 dX5_moveCopies_42 (by first | assumption | exact hup_self _ _ _) (by first | rfl | exact nar_rf _ _) (by first | rfl | exact fits_rf _ _) (by simp) ?_
            refine V_iincv hZ dX5_moveCopies_45 rfl (by decide) (by first | rfl | simp [okp, cat_rf, cat_ref, cat_int, cat_null]) (by first | exact nI_inc _ | rfl) ?_
            refine V.lvc (by simp only [List.set_cons_zero, List.set_cons_succ, Nat.reduceAdd]; rfl) ?_
            refine V_goto (tgt := 12) hZ dX5_moveCopies_48 (by decide) ?_
            exact ih (c + 1) (by omega) (setCp T c (recd (cps T c) b)) _ (rep_cp R W hi (recd (cps T c) b)) (wf_cp W hb (W_rdr W hi) (W_asd W hi)) ha hb (by rw [itN, hT]; simp only [mvcStep, if_pos c2]) _
        · refine V_aaldn hZ dX5_moveCopies_22 (by assumption) hcN (by decide) (v := .null) (rowf_ge hi) ?_
          refine V_astore hZ dX5_moveCopies_23 (by first | rfl | exact isR_rf _) (by decide) (by first | rfl | simp [okp, cat_rf, cat_ref, cat_int, cat_null]) ?_
          refine V.lvc (by simp only [List.set_cons_zero, List.set_cons_succ, Nat.reduceAdd]; rfl) ?_
          refine V_aload hZ dX5_moveCopies_25 rfl (by first | rfl | exact isR_rf _) ?_
          refine V_ifnullN (tgt := 45) hZ dX5_moveCopies_27 (by decide) ?_
          refine V_iincv hZ dX5_moveCopies_45 rfl (by decide) (by first | rfl | simp [okp, cat_rf, cat_ref, cat_int, cat_null]) (by first | exact nI_inc _ | rfl) ?_
          refine V.lvc (by simp only [List.set_cons_zero, List.set_cons_succ, Nat.reduceAdd]; rfl) ?_
          refine V_goto (tgt := 12) hZ dX5_moveCopies_48 (by decide) ?_
          exact ih (c + 1) (by omega) T g R W ha hb (by rw [itN, hT]; simp only [mvcStep, if_neg (show ¬ (c < nCp T ∧ cpRc (cps T c) = a) from fun z => hi z.1)]) _
  exact key 30 0 rfl _ _ R W ha hb rfl none
def mvwStep (b : Nat) (T : St) (x : Nat) : St := if (lin T b).contains x = true ∨ (fN (hasB T x b) 30 0).isSome = true then T else setLn T b (lin T b ++ [x])
def mvwS (S : St) (a b : Nat) : St := setLn ((lin S a).foldl (mvwStep b) S) a []
theorem mvwStep_lin {T : St} {a b x : Nat} (hab : a ≠ b) : lin (mvwStep b T x) a = lin T a := by
  unfold mvwStep
  split
  · rfl
  · show va_up (lin T) b _ a = _
    simp [va_up, hab]
theorem same5_mvwStep {T : St} {b x : Nat} : same5 T (mvwStep b T x) := by
  unfold mvwStep
  split <;> exact ⟨rfl, rfl, rfl⟩
theorem wf_mvwStep {T : St} (W : Wf T) {b x : Nat} (hb : b < nRc T) (hx : x < nRd T) : Wf (mvwStep b T x) := by
  unfold mvwStep
  split
  · exact W
  · rename_i h
    have hxl : x ∉ lin T b := fun z => h (Or.inl (by simpa using z))
    have hl := nd_lt (W_nod W hb) (fun y hy => Nat.lt_of_lt_of_le ((W_lin W hb).2 y hy) W.2.2.2.1) (Nat.lt_of_lt_of_le hx W.2.2.2.1) hxl
    refine wf_ln W (by simp; omega) (fun y hy => ?_) ?_
    · rcases List.mem_append.mp hy with h1 | h1
      · exact (W_lin W hb).2 y h1
      · rw [List.mem_singleton.mp h1]; exact hx
    · rw [List.nodup_append]
      refine ⟨W_nod W hb, by simp, fun y hy z hz => ?_⟩
      rw [List.mem_singleton.mp hz]
      exact fun e => hxl (by rw [← e]; exact hy)
theorem c_moveWaiters (G : GC) {h : HP} {S : St} (R : Rep S h) (W : Wf S) {a b : Nat} (ha : a < nRc S) (hb : b < nRc S) (hab : a ≠ b) : Calls G yX5_moveWaiters cX5_moveWaiters 7 (.none : Option Jvm.ClassFile.FieldType) 1 26 0 0 [.ref (aH S), .ref (adR S a), .ref (adR S b)] h (fun v h' => v = none ∧ Rep (mvwS S a b) h' ∧ Wf (mvwS S a b)) qX := by
  have h1 := R.hall
  have h2 := R.rec ha
  have h3 := R.line ha
  have h4 := R.row ha
  refine Calls_of1 (by decide +kernel) (by simp [cat_rf, cat_ref, cat_int, cat_null]) (by simp) (lv0 := [some (.ref (aH S)), some (.ref (adR S a)), some (.ref (adR S b)), none, none, none, none]) rfl ?_
  intro Z hG hZ hE hN
  subst hG
  refine V_aload_n hZ 1 dX5_moveWaiters_0 rfl rfl (by first | rfl | exact isR_rf _) ?_
  refine V_getfield hZ fl_X5_235 dX5_moveWaiters_1 (by assumption) (by rfl) ?_
  refine V_getfield hZ fl_X5_378 dX5_moveWaiters_4 (by assumption) (by rfl) ?_
  refine V_astore_n hZ 3 rfl dX5_moveWaiters_7 (by first | rfl | exact isR_rf _) (by decide) (by first | rfl | simp [okp, cat_rf, cat_ref, cat_int, cat_null]) ?_
  refine V.lvc (by simp only [List.set_cons_zero, List.set_cons_succ, Nat.reduceAdd]; rfl) ?_
  refine V_aload_n hZ 3 dX5_moveWaiters_8 rfl rfl (by first | rfl | exact isR_rf _) ?_
  refine V_alenR hZ dX5_moveWaiters_9 (by assumption) ?_
  refine V_istore hZ dX5_moveWaiters_10 (by decide) (by first | rfl | simp [okp, cat_rf, cat_ref, cat_int, cat_null]) ?_
  refine V.lvc (by simp only [List.set_cons_zero, List.set_cons_succ, Nat.reduceAdd]; rfl) ?_
  refine V_iconst (v := 0) hZ dX5_moveWaiters_12 (by decide) ?_
  refine V_istore hZ dX5_moveWaiters_13 (by decide) (by first | rfl | simp [okp, cat_rf, cat_ref, cat_int, cat_null]) ?_
  refine V.lvc (by simp only [List.set_cons_zero, List.set_cons_succ, Nat.reduceAdd]; rfl) ?_
  have key : ∀ m c, c + m = 8 → ∀ (T : St) (g : HP), Rep T g → Wf T → a < nRc T → b < nRc T → lin T a = lin S a → ((lin S a).take c).foldl (mvwStep b) S = T → ∀ w, V Z 15 [some (.ref (aH T)), some (.ref (adR T a)), some (.ref (adR T b)), some (.ref (adQ T a)), some (.int (nI 8)), some (.int (nI c)), w] [] g 0 0 := by
    intro m
    induction m with
    | zero =>
      intro c hcm T g R W ha hb hla hT w
      have hc : c = 8 := by omega
      subst hc
      have g1 := R.hall
      have g2 := R.rec ha
      have g3 := R.line ha
      have g4 := R.row ha
      have g5 := R.rec hb
      have g6 := R.line hb
      refine V_iload hZ dX5_moveWaiters_15 rfl ?_
      refine V_iload hZ dX5_moveWaiters_17 rfl ?_
      refine V_icmp_ge (tgt := 70) hZ dX5_moveWaiters_19 (by decide) (fun cE => ?_) (fun cE => ?_)
      · refine V_aload_n hZ 1 dX5_moveWaiters_70 rfl rfl (by first | rfl | exact isR_rf _) ?_
        refine V_getfield hZ fl_X5_235 dX5_moveWaiters_71 (by assumption) (by rfl) ?_
        refine V_invV hZ me_X4_clear mi_X4_clear ml_X5_382 (c_clear Z.1 g g3 g4 (W_lin W ha).1) dX5_moveWaiters_74 rfl rfl (by assumption) rfl rfl ⟨by decide, by decide⟩ (by first | decide | simp [cat_rf, cat_ref, cat_int, cat_null]) ⟨by decide, by decide⟩ (fun _ _ hq => hq.elim) ?_
        rintro _ _ ⟨rfl, rfl⟩
        refine V_vret hZ hE rfl dX5_moveWaiters_77 (by decide) (by decide) ?_
        have e : mvwS S a b = setLn T a [] := by
          unfold mvwS
          rw [← hT, List.take_of_length_le (by rw [← hla]; exact (W_lin W ha).1)]
        rw [e]
        exact ⟨rfl, rep_ln R ha [], wf_ln W (Nat.zero_le _) (fun y hy => by cases hy) List.nodup_nil⟩
      · exact absurd (by decide) cE
    | succ m ih =>
      intro c hcm T g R W ha hb hla hT w
      have hcN : c < 8 := by omega
      have g1 := R.hall
      have g2 := R.rec ha
      have g3 := R.line ha
      have g4 := R.row ha
      have g5 := R.rec hb
      have g6 := R.line hb
      refine V_iload hZ dX5_moveWaiters_15 rfl ?_
      refine V_iload hZ dX5_moveWaiters_17 rfl ?_
      refine V_icmp_ge (tgt := 70) hZ dX5_moveWaiters_19 (by decide) (fun cE => ?_) (fun cE => ?_)
      · have cE2 : 8 ≤ c := (nI_leI (a := 8) (by decide) (by omega)).mp cE
        omega
      · refine V_aload_n hZ 3 dX5_moveWaiters_22 rfl rfl (by first | rfl | exact isR_rf _) ?_
        refine V_iload hZ dX5_moveWaiters_23 rfl ?_
        cases hx : (lin T a)[c]? with
        | none =>
          refine V_aaldn hZ dX5_moveWaiters_25 (by assumption) hcN (by decide) (v := .null) (lnf_none hx) ?_
          refine V_astore hZ dX5_moveWaiters_26 (by first | rfl | exact isR_rf _) (by decide) (by first | rfl | simp [okp, cat_rf, cat_ref, cat_int, cat_null]) ?_
          refine V.lvc (by simp only [List.set_cons_zero, List.set_cons_succ, Nat.reduceAdd]; rfl) ?_
          refine V_aload hZ dX5_moveWaiters_28 rfl (by first | rfl | exact isR_rf _) ?_
          refine V_ifnullN (tgt := 64) hZ dX5_moveWaiters_30 (by decide) ?_
          refine V_iincv hZ dX5_moveWaiters_64 rfl (by decide) (by first | rfl | simp [okp, cat_rf, cat_ref, cat_int, cat_null]) (by first | exact nI_inc _ | rfl) ?_
          refine V.lvc (by simp only [List.set_cons_zero, List.set_cons_succ, Nat.reduceAdd]; rfl) ?_
          refine V_goto (tgt := 15) hZ dX5_moveWaiters_67 (by decide) ?_
          have hxS : (lin S a)[c]? = none := by rw [← hla]; exact hx
          exact ih (c + 1) (by omega) T g R W ha hb hla (by rw [List.take_add_one, hxS]; simpa using hT) _
        | some x =>
          refine V_aaldn hZ dX5_moveWaiters_25 (by assumption) hcN (by decide) (v := .ref (adD T x)) (lnf_some hx) ?_
          refine V_astore hZ dX5_moveWaiters_26 (by first | rfl | exact isR_rf _) (by decide) (by first | rfl | simp [okp, cat_rf, cat_ref, cat_int, cat_null]) ?_
          refine V.lvc (by simp only [List.set_cons_zero, List.set_cons_succ, Nat.reduceAdd]; rfl) ?_
          refine V_aload hZ dX5_moveWaiters_28 rfl (by first | rfl | exact isR_rf _) ?_
          refine V_ifnullR hZ dX5_moveWaiters_30 ?_
          have hxb : x < nRd T := (W_lin W ha).2 x (List.mem_of_getElem? hx)
          have hxS : (lin S a)[c]? = some x := by rw [← hla]; exact hx
          have ht : ((lin S a).take (c + 1)).foldl (mvwStep b) S = mvwStep b T x := by rw [List.take_add_one, hxS, List.foldl_append, hT]; rfl
          refine V_aload_n hZ 2 dX5_moveWaiters_33 rfl rfl (by first | rfl | exact isR_rf _) ?_
          refine V_getfield hZ fl_X5_235 dX5_moveWaiters_34 (by assumption) (by rfl) ?_
          refine V_aload hZ dX5_moveWaiters_37 rfl (by first | rfl | exact isR_rf _) ?_
          refine V_invVp hZ me_X4_holds mi_X4_holds ml_X5_239 (c_holdsS Z.1 R W hb (o := some x) (fun y hy => by cases hy; exact hxb)) dX5_moveWaiters_39 rfl rfl (by assumption) rfl rfl ⟨by decide, by decide⟩ (by first | decide | simp [cat_rf, cat_ref, cat_int, cat_null]) ⟨by decide, by decide⟩ ?_
          refine V_if_ne (tgt := 64) hZ dX5_moveWaiters_42 (by decide) (fun c1 => ?_) (fun c1 => ?_)
          · refine V_iincv hZ dX5_moveWaiters_64 rfl (by decide) (by first | rfl | simp [okp, cat_rf, cat_ref, cat_int, cat_null]) (by first | exact nI_inc _ | rfl) ?_
            refine V.lvc (by simp only [List.set_cons_zero, List.set_cons_succ, Nat.reduceAdd]; rfl) ?_
            refine V_goto (tgt := 15) hZ dX5_moveWaiters_67 (by decide) ?_
            have c2 : (lin T b).contains x = true := b01_nz c1
            exact ih (c + 1) (by omega) T g R W ha hb hla (by rw [ht]; simp only [mvwStep, if_pos (Or.inl c2)]) _
          · have c2 : ¬ (lin T b).contains x = true := b01_z c1
            refine V_aload_n hZ 0 dX5_moveWaiters_45 rfl rfl (by first | rfl | exact isR_rf _) ?_
            refine V_aload hZ dX5_moveWaiters_46 rfl (by first | rfl | exact isR_rf _) ?_
            refine V_aload_n hZ 2 dX5_moveWaiters_48 rfl rfl (by first | rfl | exact isR_rf _) ?_
            refine V_invVp hZ me_X5_hasCopyOf mi_X5_hasCopyOf ml_X5_245 (c_hasCopyOf Z.1 R W hxb hb) dX5_moveWaiters_49 rfl rfl (by assumption) rfl rfl ⟨by decide, by decide⟩ (by first | decide | simp [cat_rf, cat_ref, cat_int, cat_null]) ⟨by decide, by decide⟩ ?_
            refine V_if_ne (tgt := 64) hZ dX5_moveWaiters_52 (by decide) (fun c3 => ?_) (fun c3 => ?_)
            · refine V_iincv hZ dX5_moveWaiters_64 rfl (by decide) (by first | rfl | simp [okp, cat_rf, cat_ref, cat_int, cat_null]) (by first | exact nI_inc _ | rfl) ?_
              refine V.lvc (by simp only [List.set_cons_zero, List.set_cons_succ, Nat.reduceAdd]; rfl) ?_
              refine V_goto (tgt := 15) hZ dX5_moveWaiters_67 (by decide) ?_
              have c4 := b01_nz c3
              exact ih (c + 1) (by omega) T g R W ha hb hla (by rw [ht]; simp only [mvwStep, if_pos (Or.inr c4)]) _
            · have c4 := b01_z c3
              have c5 : ¬ ((lin T b).contains x = true ∨ (fN (hasB T x b) 30 0).isSome = true) := fun z => z.elim c2 c4
              have hxl : x ∉ lin T b := fun z => c2 (by simpa using z)
              have hl := nd_lt (W_nod W hb) (fun y hy => Nat.lt_of_lt_of_le ((W_lin W hb).2 y hy) W.2.2.2.1) (Nat.lt_of_lt_of_le hxb W.2.2.2.1) hxl
              refine V_aload_n hZ 2 dX5_moveWaiters_55 rfl rfl (by first | rfl | exact isR_rf _) ?_
              refine V_getfield hZ fl_X5_235 dX5_moveWaiters_56 (by assumption) (by rfl) ?_
              refine V_aload hZ dX5_moveWaiters_59 rfl (by first | rfl | exact isR_rf _) ?_
              refine V_invV hZ me_X4_join mi_X4_join ml_X5_251 (c_join Z.1 g g6 (R.row hb) hl (R.rdr hxb)) dX5_moveWaiters_61 rfl rfl (by assumption) rfl rfl ⟨by decide, by decide⟩ (by first | decide | simp [cat_rf, cat_ref, cat_int, cat_null]) ⟨by decide, by decide⟩ (fun _ _ hq => hq.elim) ?_
              rintro _ _ ⟨rfl, rfl⟩
              refine V_iincv hZ dX5_moveWaiters_64 rfl (by decide) (by first | rfl | simp [okp, cat_rf, cat_ref, cat_int, cat_null]) (by first | exact nI_inc _ | rfl) ?_
              refine V.lvc (by simp only [List.set_cons_zero, List.set_cons_succ, Nat.reduceAdd]; rfl) ?_
              refine V_goto (tgt := 15) hZ dX5_moveWaiters_67 (by decide) ?_
              have R2 := rep_ln R hb (lin T b ++ [x])
              simp only [List.length_append, List.length_singleton] at R2
              have e : mvwStep b T x = setLn T b (lin T b ++ [x]) := by unfold mvwStep; rw [if_neg c5]
              have W2 := wf_mvwStep W hb hxb
              rw [e] at W2
              exact ih (c + 1) (by omega) (setLn T b (lin T b ++ [x])) _ R2 W2 ha hb (by rw [← hla]; show va_up (lin T) b _ a = _; simp [va_up, hab]) (by rw [ht, e]) _
  exact key 8 0 rfl _ _ R W ha hb rfl rfl none
def rightB (T : St) (c : Nat) : Bool := holdsB (cpRd (cps T c)) (lin T (cpRc (cps T c))) && decide (fN (asideB T (cpRd (cps T c)) (cpRc (cps T c))) 30 0 = some c)
theorem c_isRightlyAside (G : GC) {h : HP} {S : St} (R : Rep S h) (W : Wf S) {c : Nat} (hi : c < nCp S) : Calls G yX5_isRightlyAside cX5_isRightlyAside 2 (.some .boolean) 2 48 0 0 [.ref (aH S), .ref (adC S c)] h (qV (.int (b01 (rightB S c = true))) h) qX := by
  have h3 := R.copy hi
  have hr := W_rec W hi
  have h4 := R.rec hr
  have h5 := R.line hr
  have h1 := R.hall
  refine Calls_of1 (by decide +kernel) (by simp [cat_rf, cat_ref, cat_int, cat_null]) (by simp) (lv0 := [some (.ref (aH S)), some (.ref (adC S c))]) rfl ?_
  intro Z hG hZ hE hN
  subst hG
  refine V_aload_n hZ 1 dX5_isRightlyAside_0 rfl rfl (by first | rfl | exact isR_rf _) ?_
  refine V_getfield hZ fl_X5_192.r dX5_isRightlyAside_1 (by assumption) (by rfl) ?_
  refine V_getfield hZ fl_X5_235 dX5_isRightlyAside_4 (by assumption) (by rfl) ?_
  refine V_aload_n hZ 1 dX5_isRightlyAside_7 rfl rfl (by first | rfl | exact isR_rf _) ?_
  refine V_getfield hZ fl_X5_202.r dX5_isRightlyAside_8 (by assumption) (by rfl) ?_
  refine V_invVp hZ me_X4_holds mi_X4_holds ml_X5_239 (c_holdsS Z.1 R W hr (W_rdr W hi)) dX5_isRightlyAside_11 rfl rfl (by assumption) rfl rfl ⟨by decide, by decide⟩ (by first | decide | simp [cat_rf, cat_ref, cat_int, cat_null]) ⟨by decide, by decide⟩ ?_
  refine V_if_eq (tgt := 37) hZ dX5_isRightlyAside_14 (by decide) (fun c1 => ?_) (fun c1 => ?_)
  · refine V_iconst (v := 0) hZ dX5_isRightlyAside_37 (by decide) ?_
    refine V_iret hZ hE rfl (by rfl) dX5_isRightlyAside_38 (by decide) (by decide) ?_
    have c2 := b01_z c1
    exact ⟨by simp [rightB, b01, c2], rfl⟩
  · have c2 := b01_nz c1
    refine V_aload_n hZ 0 dX5_isRightlyAside_17 rfl rfl (by first | rfl | exact isR_rf _) ?_
    refine V_aload_n hZ 1 dX5_isRightlyAside_18 rfl rfl (by first | rfl | exact isR_rf _) ?_
    refine V_getfield hZ fl_X5_202.r dX5_isRightlyAside_19 (by assumption) (by rfl) ?_
    refine V_aload_n hZ 1 dX5_isRightlyAside_22 rfl rfl (by first | rfl | exact isR_rf _) ?_
    refine V_getfield hZ fl_X5_192.r dX5_isRightlyAside_23 (by assumption) (by rfl) ?_
    refine V_invVp hZ me_X5_firstAside mi_X5_firstAside ml_X5_286 (c_firstAside Z.1 R W hr (W_rdr W hi)) dX5_isRightlyAside_26 rfl rfl (by assumption) rfl rfl ⟨by decide, by decide⟩ (by first | decide | simp [cat_rf, cat_ref, cat_int, cat_null]) ⟨by decide, by decide⟩ ?_
    refine V_aload_n hZ 1 dX5_isRightlyAside_29 rfl rfl (by first | rfl | exact isR_rf _) ?_
    refine V_acmp_ne (tgt := 37) hZ dX5_isRightlyAside_30 (by decide) (by first | rfl | exact isR_rf _) (by first | rfl | exact isR_rf _) (fun c3 => ?_) (fun c3 => ?_)
    · refine V_iconst (v := 0) hZ dX5_isRightlyAside_37 (by decide) ?_
      refine V_iret hZ hE rfl (by rfl) dX5_isRightlyAside_38 (by decide) (by decide) ?_
      have c4 : ¬ fN (asideB S (cpRd (cps S c)) (cpRc (cps S c))) 30 0 = some c := fun z => c3 (by rw [z]; rfl)
      exact ⟨by simp [rightB, b01, c4], rfl⟩
    · refine V_iconst (v := 1) hZ dX5_isRightlyAside_33 (by decide) ?_
      refine V_goto (tgt := 38) hZ dX5_isRightlyAside_34 (by decide) ?_
      refine V_iret hZ hE rfl (by rfl) dX5_isRightlyAside_38 (by decide) (by decide) ?_
      have c4 : fN (asideB S (cpRd (cps S c)) (cpRc (cps S c))) 30 0 = some c := by
        cases hz : fN (asideB S (cpRd (cps S c)) (cpRc (cps S c))) 30 0 with
        | none => rw [hz] at c3; cases c3
        | some d =>
          rw [hz] at c3
          have hd := fN_some hz
          simp only [asideB, decide_eq_true_eq] at hd
          have : adC S d = adC S c := Value.ref.inj c3
          rw [R.copyInj W hd.1 hi this]
      exact ⟨by simp [rightB, b01, c2, c4], rfl⟩
def wrStep (T : St) (c : Nat) : St := if c < nCp T ∧ cpPl (cps T c) = 2 ∧ rightB T c = false then freeS T c else T
def wrS (S : St) : St := itN wrStep 30 S
def inStep (T : St) (c : Nat) : St := if c < nCp T ∧ cpPl (cps T c) = 0 then freeS T c else T
def inS (S : St) : St := itN inStep 30 S
theorem same5_wrStep {T : St} {c : Nat} : same5 T (wrStep T c) := by
  unfold wrStep
  split <;> exact ⟨rfl, rfl, rfl⟩
theorem wf_wrStep {T : St} {c : Nat} (W : Wf T) : Wf (wrStep T c) := by
  unfold wrStep
  split
  · rename_i h; exact wf_free W h.1
  · exact W
theorem same5_inStep {T : St} {c : Nat} : same5 T (inStep T c) := by
  unfold inStep
  split <;> exact ⟨rfl, rfl, rfl⟩
theorem wf_inStep {T : St} {c : Nat} (W : Wf T) : Wf (inStep T c) := by
  unfold inStep
  split
  · rename_i h; exact wf_free W h.1
  · exact W
theorem same5_wr {S : St} : same5 S (wrS S) := itN_same (fun T c => same5_wrStep) 30
theorem same5_in {S : St} : same5 S (inS S) := itN_same (fun T c => same5_inStep) 30
theorem wf_wr {S : St} (W : Wf S) : Wf (wrS S) := itN_wf (fun T c h => wf_wrStep h) W 30
theorem wf_in {S : St} (W : Wf S) : Wf (inS S) := itN_wf (fun T c h => wf_inStep h) W 30
theorem c_freeThoseWronglyAside (G : GC) {h : HP} {S : St} (R : Rep S h) (W : Wf S) : Calls G yX5_freeThoseWronglyAside cX5_freeThoseWronglyAside 5 (.none : Option Jvm.ClassFile.FieldType) 4 95 0 0 [.ref (aH S)] h (fun v h' => v = none ∧ Rep (wrS S) h') qX := by
  have h1 := R.hall
  have h2 := R.copies
  refine Calls_of1 (by decide +kernel) (by simp [cat_rf, cat_ref, cat_int, cat_null]) (by simp) (lv0 := [some (.ref (aH S)), none, none, none, none]) rfl ?_
  intro Z hG hZ hE hN
  subst hG
  refine V_aload_n hZ 0 dX5_freeThoseWronglyAside_0 rfl rfl (by first | rfl | exact isR_rf _) ?_
  refine V_getfield hZ fl_X5_23.r dX5_freeThoseWronglyAside_1 (by assumption) (by rfl) ?_
  refine V_astore_n hZ 1 rfl dX5_freeThoseWronglyAside_4 (by first | rfl | exact isR_rf _) (by decide) (by first | rfl | simp [okp, cat_rf, cat_ref, cat_int, cat_null]) ?_
  refine V.lvc (by simp only [List.set_cons_zero, List.set_cons_succ, Nat.reduceAdd]; rfl) ?_
  refine V_aload_n hZ 1 dX5_freeThoseWronglyAside_5 rfl rfl (by first | rfl | exact isR_rf _) ?_
  refine V_alenR hZ dX5_freeThoseWronglyAside_6 (by assumption) ?_
  refine V_istore_n hZ 2 rfl dX5_freeThoseWronglyAside_7 (by decide) (by first | rfl | simp [okp, cat_rf, cat_ref, cat_int, cat_null]) ?_
  refine V.lvc (by simp only [List.set_cons_zero, List.set_cons_succ, Nat.reduceAdd]; rfl) ?_
  refine V_iconst (v := 0) hZ dX5_freeThoseWronglyAside_8 (by decide) ?_
  refine V_istore_n hZ 3 rfl dX5_freeThoseWronglyAside_9 (by decide) (by first | rfl | simp [okp, cat_rf, cat_ref, cat_int, cat_null]) ?_
  refine V.lvc (by simp only [List.set_cons_zero, List.set_cons_succ, Nat.reduceAdd]; rfl) ?_
  have key : ∀ m c, c + m = 30 → ∀ (T : St) (g : HP), Rep T g → Wf T → itN wrStep c S = T → ∀ w, V Z 10 [some (.ref (aH T)), some (.ref (aCs T)), some (.int (nI 30)), some (.int (nI c)), w] [] g 0 0 := by
    intro m
    induction m with
    | zero =>
      intro c hcm T g R W hT w
      have hc : c = 30 := by omega
      subst hc
      have g1 := R.hall
      have g2 := R.copies
      refine V_iload_n hZ 3 dX5_freeThoseWronglyAside_10 rfl rfl ?_
      refine V_iload_n hZ 2 dX5_freeThoseWronglyAside_11 rfl rfl ?_
      refine V_icmp_ge (tgt := 55) hZ dX5_freeThoseWronglyAside_12 (by decide) (fun cE => ?_) (fun cE => ?_)
      · refine V_vret hZ hE rfl dX5_freeThoseWronglyAside_55 (by decide) (by decide) ?_
        exact ⟨rfl, by rw [show wrS S = T from hT]; exact R⟩
      · exact absurd (by decide) cE
    | succ m ih =>
      intro c hcm T g R W hT w
      have hcN : c < 30 := by omega
      have g1 := R.hall
      have g2 := R.copies
      refine V_iload_n hZ 3 dX5_freeThoseWronglyAside_10 rfl rfl ?_
      refine V_iload_n hZ 2 dX5_freeThoseWronglyAside_11 rfl rfl ?_
      refine V_icmp_ge (tgt := 55) hZ dX5_freeThoseWronglyAside_12 (by decide) (fun cE => ?_) (fun cE => ?_)
      · have cE2 : 30 ≤ c := (nI_leI (a := 30) (by decide) (by omega)).mp cE
        omega
      · refine V_aload_n hZ 1 dX5_freeThoseWronglyAside_15 rfl rfl (by first | rfl | exact isR_rf _) ?_
        refine V_iload_n hZ 3 dX5_freeThoseWronglyAside_16 rfl rfl ?_
        by_cases hi : c < nCp T
        · refine V_aaldn hZ dX5_freeThoseWronglyAside_17 (by assumption) hcN (by decide) (v := .ref (adC T c)) (rowf_lt hi) ?_
          refine V_astore hZ dX5_freeThoseWronglyAside_18 (by first | rfl | exact isR_rf _) (by decide) (by first | rfl | simp [okp, cat_rf, cat_ref, cat_int, cat_null]) ?_
          refine V.lvc (by simp only [List.set_cons_zero, List.set_cons_succ, Nat.reduceAdd]; rfl) ?_
          refine V_aload hZ dX5_freeThoseWronglyAside_20 rfl (by first | rfl | exact isR_rf _) ?_
          refine V_ifnullR hZ dX5_freeThoseWronglyAside_22 ?_
          have g3 := R.copy hi
          refine V_aload hZ dX5_freeThoseWronglyAside_25 rfl (by first | rfl | exact isR_rf _) ?_
          refine V_getfield hZ fl_X5_215.r dX5_freeThoseWronglyAside_27 (by assumption) (by rfl) ?_
          refine V_iconst (v := 2) hZ dX5_freeThoseWronglyAside_30 (by decide) ?_
          refine V_icmp_ne (tgt := 49) hZ dX5_freeThoseWronglyAside_31 (by decide) (fun c1 => ?_) (fun c1 => ?_)
          · refine V_iincv hZ dX5_freeThoseWronglyAside_49 rfl (by decide) (by first | rfl | simp [okp, cat_rf, cat_ref, cat_int, cat_null]) (by first | exact nI_inc _ | rfl) ?_
            refine V.lvc (by simp only [List.set_cons_zero, List.set_cons_succ, Nat.reduceAdd]; rfl) ?_
            refine V_goto (tgt := 10) hZ dX5_freeThoseWronglyAside_52 (by decide) ?_
            exact ih (c + 1) (by omega) T g R W (by rw [itN, hT]; simp only [wrStep, if_neg (show ¬ (c < nCp T ∧ cpPl (cps T c) = 2 ∧ rightB T c = false) from fun z => c1 z.2.1)]) _
          · refine V_aload_n hZ 0 dX5_freeThoseWronglyAside_34 rfl rfl (by first | rfl | exact isR_rf _) ?_
            refine V_aload hZ dX5_freeThoseWronglyAside_35 rfl (by first | rfl | exact isR_rf _) ?_
            refine V_invVp hZ me_X5_isRightlyAside mi_X5_isRightlyAside ml_X5_385 (c_isRightlyAside Z.1 R W hi) dX5_freeThoseWronglyAside_37 rfl rfl (by assumption) rfl rfl ⟨by decide, by decide⟩ (by first | decide | simp [cat_rf, cat_ref, cat_int, cat_null]) ⟨by decide, by decide⟩ ?_
            refine V_if_ne (tgt := 49) hZ dX5_freeThoseWronglyAside_40 (by decide) (fun c2 => ?_) (fun c2 => ?_)
            · refine V_iincv hZ dX5_freeThoseWronglyAside_49 rfl (by decide) (by first | rfl | simp [okp, cat_rf, cat_ref, cat_int, cat_null]) (by first | exact nI_inc _ | rfl) ?_
              refine V.lvc (by simp only [List.set_cons_zero, List.set_cons_succ, Nat.reduceAdd]; rfl) ?_
              refine V_goto (tgt := 10) hZ dX5_freeThoseWronglyAside_52 (by decide) ?_
              have c3 := b01_nz c2
              exact ih (c + 1) (by omega) T g R W (by rw [itN, hT]; simp only [wrStep, if_neg (show ¬ (c < nCp T ∧ cpPl (cps T c) = 2 ∧ rightB T c = false) from fun z => by rw [c3] at z; cases z.2.2)]) _
            · have c3 : rightB T c = false := by
                have := b01_z c2
                cases hz : rightB T c
                · rfl
                · exact absurd hz this
              refine V_aload_n hZ 0 dX5_freeThoseWronglyAside_43 rfl rfl (by first | rfl | exact isR_rf _) ?_
              refine V_aload hZ dX5_freeThoseWronglyAside_44 rfl (by first | rfl | exact isR_rf _) ?_
              refine V_invV hZ me_X5_free mi_X5_free ml_X5_144 (c_free Z.1 R W hi) dX5_freeThoseWronglyAside_46 rfl rfl (by assumption) rfl rfl ⟨by decide, by decide⟩ (by first | decide | simp [cat_rf, cat_ref, cat_int, cat_null]) ⟨by decide, by decide⟩ (fun _ _ hq => hq.elim) ?_
              rintro _ g' ⟨rfl, R'⟩
              refine V_iincv hZ dX5_freeThoseWronglyAside_49 rfl (by decide) (by first | rfl | simp [okp, cat_rf, cat_ref, cat_int, cat_null]) (by first | exact nI_inc _ | rfl) ?_
              refine V.lvc (by simp only [List.set_cons_zero, List.set_cons_succ, Nat.reduceAdd]; rfl) ?_
              refine V_goto (tgt := 10) hZ dX5_freeThoseWronglyAside_52 (by decide) ?_
              exact ih (c + 1) (by omega) (freeS T c) g' R' (wf_free W hi) (by rw [itN, hT]; simp only [wrStep, if_pos (show c < nCp T ∧ cpPl (cps T c) = 2 ∧ rightB T c = false from ⟨hi, c1, c3⟩)]) _
        · refine V_aaldn hZ dX5_freeThoseWronglyAside_17 (by assumption) hcN (by decide) (v := .null) (rowf_ge hi) ?_
          refine V_astore hZ dX5_freeThoseWronglyAside_18 (by first | rfl | exact isR_rf _) (by decide) (by first | rfl | simp [okp, cat_rf, cat_ref, cat_int, cat_null]) ?_
          refine V.lvc (by simp only [List.set_cons_zero, List.set_cons_succ, Nat.reduceAdd]; rfl) ?_
          refine V_aload hZ dX5_freeThoseWronglyAside_20 rfl (by first | rfl | exact isR_rf _) ?_
          refine V_ifnullN (tgt := 49) hZ dX5_freeThoseWronglyAside_22 (by decide) ?_
          refine V_iincv hZ dX5_freeThoseWronglyAside_49 rfl (by decide) (by first | rfl | simp [okp, cat_rf, cat_ref, cat_int, cat_null]) (by first | exact nI_inc _ | rfl) ?_
          refine V.lvc (by simp only [List.set_cons_zero, List.set_cons_succ, Nat.reduceAdd]; rfl) ?_
          refine V_goto (tgt := 10) hZ dX5_freeThoseWronglyAside_52 (by decide) ?_
          exact ih (c + 1) (by omega) T g R W (by rw [itN, hT]; simp only [wrStep, if_neg (show ¬ (c < nCp T ∧ cpPl (cps T c) = 2 ∧ rightB T c = false) from fun z => hi z.1)]) _
  exact key 30 0 rfl _ _ R W rfl none
theorem c_freeThoseIn (G : GC) {h : HP} {S : St} (R : Rep S h) (W : Wf S) : Calls G yX5_freeThoseIn cX5_freeThoseIn 5 (.none : Option Jvm.ClassFile.FieldType) 4 95 0 0 [.ref (aH S)] h (fun v h' => v = none ∧ Rep (inS S) h') qX := by
  have h1 := R.hall
  have h2 := R.copies
  refine Calls_of1 (by decide +kernel) (by simp [cat_rf, cat_ref, cat_int, cat_null]) (by simp) (lv0 := [some (.ref (aH S)), none, none, none, none]) rfl ?_
  intro Z hG hZ hE hN
  subst hG
  refine V_aload_n hZ 0 dX5_freeThoseIn_0 rfl rfl (by first | rfl | exact isR_rf _) ?_
  refine V_getfield hZ fl_X5_23.r dX5_freeThoseIn_1 (by assumption) (by rfl) ?_
  refine V_astore_n hZ 1 rfl dX5_freeThoseIn_4 (by first | rfl | exact isR_rf _) (by decide) (by first | rfl | simp [okp, cat_rf, cat_ref, cat_int, cat_null]) ?_
  refine V.lvc (by simp only [List.set_cons_zero, List.set_cons_succ, Nat.reduceAdd]; rfl) ?_
  refine V_aload_n hZ 1 dX5_freeThoseIn_5 rfl rfl (by first | rfl | exact isR_rf _) ?_
  refine V_alenR hZ dX5_freeThoseIn_6 (by assumption) ?_
  refine V_istore_n hZ 2 rfl dX5_freeThoseIn_7 (by decide) (by first | rfl | simp [okp, cat_rf, cat_ref, cat_int, cat_null]) ?_
  refine V.lvc (by simp only [List.set_cons_zero, List.set_cons_succ, Nat.reduceAdd]; rfl) ?_
  refine V_iconst (v := 0) hZ dX5_freeThoseIn_8 (by decide) ?_
  refine V_istore_n hZ 3 rfl dX5_freeThoseIn_9 (by decide) (by first | rfl | simp [okp, cat_rf, cat_ref, cat_int, cat_null]) ?_
  refine V.lvc (by simp only [List.set_cons_zero, List.set_cons_succ, Nat.reduceAdd]; rfl) ?_
  have key : ∀ m c, c + m = 30 → ∀ (T : St) (g : HP), Rep T g → Wf T → itN inStep c S = T → ∀ w, V Z 10 [some (.ref (aH T)), some (.ref (aCs T)), some (.int (nI 30)), some (.int (nI c)), w] [] g 0 0 := by
    intro m
    induction m with
    | zero =>
      intro c hcm T g R W hT w
      have hc : c = 30 := by omega
      subst hc
      have g1 := R.hall
      have g2 := R.copies
      refine V_iload_n hZ 3 dX5_freeThoseIn_10 rfl rfl ?_
      refine V_iload_n hZ 2 dX5_freeThoseIn_11 rfl rfl ?_
      refine V_icmp_ge (tgt := 45) hZ dX5_freeThoseIn_12 (by decide) (fun cE => ?_) (fun cE => ?_)
      · refine V_vret hZ hE rfl dX5_freeThoseIn_45 (by decide) (by decide) ?_
        exact ⟨rfl, by rw [show inS S = T from hT]; exact R⟩
      · exact absurd (by decide) cE
    | succ m ih =>
      intro c hcm T g R W hT w
      have hcN : c < 30 := by omega
      have g1 := R.hall
      have g2 := R.copies
      refine V_iload_n hZ 3 dX5_freeThoseIn_10 rfl rfl ?_
      refine V_iload_n hZ 2 dX5_freeThoseIn_11 rfl rfl ?_
      refine V_icmp_ge (tgt := 45) hZ dX5_freeThoseIn_12 (by decide) (fun cE => ?_) (fun cE => ?_)
      · have cE2 : 30 ≤ c := (nI_leI (a := 30) (by decide) (by omega)).mp cE
        omega
      · refine V_aload_n hZ 1 dX5_freeThoseIn_15 rfl rfl (by first | rfl | exact isR_rf _) ?_
        refine V_iload_n hZ 3 dX5_freeThoseIn_16 rfl rfl ?_
        by_cases hi : c < nCp T
        · refine V_aaldn hZ dX5_freeThoseIn_17 (by assumption) hcN (by decide) (v := .ref (adC T c)) (rowf_lt hi) ?_
          refine V_astore hZ dX5_freeThoseIn_18 (by first | rfl | exact isR_rf _) (by decide) (by first | rfl | simp [okp, cat_rf, cat_ref, cat_int, cat_null]) ?_
          refine V.lvc (by simp only [List.set_cons_zero, List.set_cons_succ, Nat.reduceAdd]; rfl) ?_
          refine V_aload hZ dX5_freeThoseIn_20 rfl (by first | rfl | exact isR_rf _) ?_
          refine V_ifnullR hZ dX5_freeThoseIn_22 ?_
          have g3 := R.copy hi
          refine V_aload hZ dX5_freeThoseIn_25 rfl (by first | rfl | exact isR_rf _) ?_
          refine V_getfield hZ fl_X5_215.r dX5_freeThoseIn_27 (by assumption) (by rfl) ?_
          refine V_if_ne (tgt := 39) hZ dX5_freeThoseIn_30 (by decide) (fun c1 => ?_) (fun c1 => ?_)
          · refine V_iincv hZ dX5_freeThoseIn_39 rfl (by decide) (by first | rfl | simp [okp, cat_rf, cat_ref, cat_int, cat_null]) (by first | exact nI_inc _ | rfl) ?_
            refine V.lvc (by simp only [List.set_cons_zero, List.set_cons_succ, Nat.reduceAdd]; rfl) ?_
            refine V_goto (tgt := 10) hZ dX5_freeThoseIn_42 (by decide) ?_
            exact ih (c + 1) (by omega) T g R W (by rw [itN, hT]; simp only [inStep, if_neg (show ¬ (c < nCp T ∧ cpPl (cps T c) = 0) from fun z => c1 z.2)]) _
          · refine V_aload_n hZ 0 dX5_freeThoseIn_33 rfl rfl (by first | rfl | exact isR_rf _) ?_
            refine V_aload hZ dX5_freeThoseIn_34 rfl (by first | rfl | exact isR_rf _) ?_
            refine V_invV hZ me_X5_free mi_X5_free ml_X5_144 (c_free Z.1 R W hi) dX5_freeThoseIn_36 rfl rfl (by assumption) rfl rfl ⟨by decide, by decide⟩ (by first | decide | simp [cat_rf, cat_ref, cat_int, cat_null]) ⟨by decide, by decide⟩ (fun _ _ hq => hq.elim) ?_
            rintro _ g' ⟨rfl, R'⟩
            refine V_iincv hZ dX5_freeThoseIn_39 rfl (by decide) (by first | rfl | simp [okp, cat_rf, cat_ref, cat_int, cat_null]) (by first | exact nI_inc _ | rfl) ?_
            refine V.lvc (by simp only [List.set_cons_zero, List.set_cons_succ, Nat.reduceAdd]; rfl) ?_
            refine V_goto (tgt := 10) hZ dX5_freeThoseIn_42 (by decide) ?_
            exact ih (c + 1) (by omega) (freeS T c) g' R' (wf_free W hi) (by rw [itN, hT]; simp only [inStep, if_pos (show c < nCp T ∧ cpPl (cps T c) = 0 from ⟨hi, c1⟩)]) _
        · refine V_aaldn hZ dX5_freeThoseIn_17 (by assumption) hcN (by decide) (v := .null) (rowf_ge hi) ?_
          refine V_astore hZ dX5_freeThoseIn_18 (by first | rfl | exact isR_rf _) (by decide) (by first | rfl | simp [okp, cat_rf, cat_ref, cat_int, cat_null]) ?_
          refine V.lvc (by simp only [List.set_cons_zero, List.set_cons_succ, Nat.reduceAdd]; rfl) ?_
          refine V_aload hZ dX5_freeThoseIn_20 rfl (by first | rfl | exact isR_rf _) ?_
          refine V_ifnullN (tgt := 39) hZ dX5_freeThoseIn_22 (by decide) ?_
          refine V_iincv hZ dX5_freeThoseIn_39 rfl (by decide) (by first | rfl | simp [okp, cat_rf, cat_ref, cat_int, cat_null]) (by first | exact nI_inc _ | rfl) ?_
          refine V.lvc (by simp only [List.set_cons_zero, List.set_cons_succ, Nat.reduceAdd]; rfl) ?_
          refine V_goto (tgt := 10) hZ dX5_freeThoseIn_42 (by decide) ?_
          exact ih (c + 1) (by omega) T g R W (by rw [itN, hT]; simp only [inStep, if_neg (show ¬ (c < nCp T ∧ cpPl (cps T c) = 0) from fun z => hi z.1)]) _
  exact key 30 0 rfl _ _ R W rfl none
end
section
/-! borrowing, renewing, what would be -/
section
variable (G : GC) {h : HP} {S : St}
/-- why reader x may not borrow copy c -/
def reasonN (S : St) (x c : Nat) : Nat :=
  if ¬ cpPl (cps S c) = 0 ∧ asideB S (some x) (cpRc (cps S c)) c = false then 1
  else if moreN (rdKi (rds S x)) ≤ nI (cn (ofB S (some x) 1) 30) then 2
  else if 50 < rdOw (rds S x) then 3
  else if 0 < nI (cn (lateB S x) 30) then 4 else 0
theorem c_reasonAgainst (R : Rep S h) (W : Wf S) {x c : Nat} (hx : x < nRd S) (hi : c < nCp S) : Calls G yX5_reasonAgainst cX5_reasonAgainst 3 (.some .int) 2 47 0 0 [.ref (aH S), .ref (adD S x), .ref (adC S c)] h (qV (.int (nI (reasonN S x c))) h) qX := by
  have h1 := R.hall
  have h3 := R.copy hi
  have h4 := R.rdr hx
  have hr := W_rec W hi
  refine Calls_of1 (by decide +kernel) (by simp [cat_rf, cat_ref, cat_int, cat_null]) (by simp) (lv0 := [some (.ref (aH S)), some (.ref (adD S x)), some (.ref (adC S c))]) rfl ?_
  intro Z hG hZ hE hN
  subst hG
  have tail : ¬ (¬ cpPl (cps S c) = 0 ∧ asideB S (some x) (cpRc (cps S c)) c = false) → V Z 21 [some (.ref (aH S)), some (.ref (adD S x)), some (.ref (adC S c))] [] h 0 0 := by
    intro n1
    refine V_aload_n hZ 0 dX5_reasonAgainst_21 rfl rfl (by first | rfl | exact isR_rf _) ?_
    refine V_aload_n hZ 1 dX5_reasonAgainst_22 rfl rfl (by first | rfl | exact isR_rf _) ?_
    refine V_iconst (v := 1) hZ dX5_reasonAgainst_23 (by decide) ?_
    refine V_invVp hZ me_X5_copiesOf mi_X5_copiesOf ml_X5_347 (c_copiesOf Z.1 R W hx 1) dX5_reasonAgainst_24 rfl rfl (by assumption) rfl rfl ⟨by decide, by decide⟩ (by first | decide | simp [cat_rf, cat_ref, cat_int, cat_null]) ⟨by decide, by decide⟩ ?_
    refine V_aload_n hZ 1 dX5_reasonAgainst_27 rfl rfl (by first | rfl | exact isR_rf _) ?_
    refine V_invVp hZ me_X3_mostCopies mi_X3_mostCopies ml_X5_371 (c_mostCopies Z.1 h h4) dX5_reasonAgainst_28 rfl rfl (by assumption) rfl rfl ⟨by decide, by decide⟩ (by first | decide | simp [cat_rf, cat_ref, cat_int, cat_null]) ⟨by decide, by decide⟩ ?_
    refine V_icmp_lt (tgt := 36) hZ dX5_reasonAgainst_31 (by decide) (fun c2 => ?_) (fun c2 => ?_)
    · have n2 : ¬ moreN (rdKi (rds S x)) ≤ nI (cn (ofB S (some x) 1) 30) := Int32.not_le.mpr c2
      refine V_aload_n hZ 1 dX5_reasonAgainst_36 rfl rfl (by first | rfl | exact isR_rf _) ?_
      refine V_getfield hZ fl_X5_172.r dX5_reasonAgainst_37 (by assumption) (by rfl) ?_
      refine V_bipush (v := 50) hZ dX5_reasonAgainst_40 (by decide) ?_
      refine V_icmp_le (tgt := 47) hZ dX5_reasonAgainst_42 (by decide) (fun c3 => ?_) (fun c3 => ?_)
      · have n3 : ¬ 50 < rdOw (rds S x) := Int32.not_lt.mpr c3
        refine V_aload_n hZ 0 dX5_reasonAgainst_47 rfl rfl (by first | rfl | exact isR_rf _) ?_
        refine V_aload_n hZ 1 dX5_reasonAgainst_48 rfl rfl (by first | rfl | exact isR_rf _) ?_
        refine V_invVp hZ me_X5_lateCopiesOf mi_X5_lateCopiesOf ml_X5_353 (c_lateCopiesOf Z.1 R W hx) dX5_reasonAgainst_49 rfl rfl (by assumption) rfl rfl ⟨by decide, by decide⟩ (by first | decide | simp [cat_rf, cat_ref, cat_int, cat_null]) ⟨by decide, by decide⟩ ?_
        refine V_if_le (tgt := 57) hZ dX5_reasonAgainst_52 (by decide) (fun c4 => ?_) (fun c4 => ?_)
        · refine V_iconst (v := 0) hZ dX5_reasonAgainst_57 (by decide) ?_
          refine V_iret hZ hE rfl (by rfl) dX5_reasonAgainst_58 (by decide) (by decide) ?_
          have n4 : ¬ 0 < nI (cn (lateB S x) 30) := Int32.not_lt.mpr c4
          exact ⟨by simp only [reasonN, if_neg n1, if_neg n2, if_neg n3, if_neg n4]; rfl, rfl⟩
        · refine V_iconst (v := 4) hZ dX5_reasonAgainst_55 (by decide) ?_
          refine V_iret hZ hE rfl (by rfl) dX5_reasonAgainst_56 (by decide) (by decide) ?_
          have n4 : 0 < nI (cn (lateB S x) 30) := Int32.not_le.mp c4
          exact ⟨by simp only [reasonN, if_neg n1, if_neg n2, if_neg n3, if_pos n4]; rfl, rfl⟩
      · refine V_iconst (v := 3) hZ dX5_reasonAgainst_45 (by decide) ?_
        refine V_iret hZ hE rfl (by rfl) dX5_reasonAgainst_46 (by decide) (by decide) ?_
        have n3 : 50 < rdOw (rds S x) := Int32.not_le.mp c3
        exact ⟨by simp only [reasonN, if_neg n1, if_neg n2, if_pos n3]; rfl, rfl⟩
    · refine V_iconst (v := 2) hZ dX5_reasonAgainst_34 (by decide) ?_
      refine V_iret hZ hE rfl (by rfl) dX5_reasonAgainst_35 (by decide) (by decide) ?_
      have n2 : moreN (rdKi (rds S x)) ≤ nI (cn (ofB S (some x) 1) 30) := Int32.not_lt.mp c2
      exact ⟨by simp only [reasonN, if_neg n1, if_pos n2]; rfl, rfl⟩
  refine V_aload_n hZ 2 dX5_reasonAgainst_0 rfl rfl (by first | rfl | exact isR_rf _) ?_
  refine V_getfield hZ fl_X5_215.r dX5_reasonAgainst_1 (by assumption) (by rfl) ?_
  refine V_if_eq (tgt := 21) hZ dX5_reasonAgainst_4 (by decide) (fun c1 => ?_) (fun c1 => ?_)
  · exact tail (fun z => z.1 c1)
  · refine V_aload_n hZ 2 dX5_reasonAgainst_7 rfl rfl (by first | rfl | exact isR_rf _) ?_
    refine V_aload_n hZ 1 dX5_reasonAgainst_8 rfl rfl (by first | rfl | exact isR_rf _) ?_
    refine V_aload_n hZ 2 dX5_reasonAgainst_9 rfl rfl (by first | rfl | exact isR_rf _) ?_
    refine V_getfield hZ fl_X5_192.r dX5_reasonAgainst_10 (by assumption) (by rfl) ?_
    refine V_invVp hZ me_X1_isAsideFor mi_X1_isAsideFor ml_X5_368 (c_isAsideForS Z.1 R W (o := some x) hi hr (fun y hy => by cases hy; exact hx)) dX5_reasonAgainst_13 rfl rfl (by assumption) rfl rfl ⟨by decide, by decide⟩ (by first | decide | simp [cat_rf, cat_ref, cat_int, cat_null]) ⟨by decide, by decide⟩ ?_
    refine V_if_ne (tgt := 21) hZ dX5_reasonAgainst_16 (by decide) (fun c5 => ?_) (fun c5 => ?_)
    · exact tail (fun z => by have := b01_nz c5; rw [this] at z; cases z.2)
    · refine V_iconst (v := 1) hZ dX5_reasonAgainst_19 (by decide) ?_
      refine V_iret hZ hE rfl (by rfl) dX5_reasonAgainst_20 (by decide) (by decide) ?_
      have n1 : ¬ cpPl (cps S c) = 0 ∧ asideB S (some x) (cpRc (cps S c)) c = false := ⟨c1, by
        have := b01_z c5
        cases hz : asideB S (some x) (cpRc (cps S c)) c
        · rfl
        · exact absurd hz this⟩
      exact ⟨by simp only [reasonN, if_pos n1]; rfl, rfl⟩
def mayB (S : St) (x c : Nat) : Bool := decide (c < nCp S ∧ reasonN S x c = 0)
theorem reasonN_lt (x c : Nat) : reasonN S x c < 5 := by unfold reasonN; repeat' split
                                                         all_goals decide
theorem c_borrowable (R : Rep S h) (W : Wf S) {x : Nat} (hx : x < nRd S) : Calls G yX5_borrowable cX5_borrowable 7 (.some .int) 3 69 0 0 [.ref (aH S), .ref (adD S x)] h (qV (.int (nI (cn (mayB S x) 30))) h) qX := by
  have h1 := R.hall
  have h2 := R.copies
  refine Calls_of1 (by decide +kernel) (by simp [cat_rf, cat_ref, cat_int, cat_null]) (by simp) (lv0 := [some (.ref (aH S)), some (.ref (adD S x)), none, none, none, none, none]) rfl ?_
  intro Z hG hZ hE hN
  subst hG
  refine V_iconst (v := 0) hZ dX5_borrowable_0 (by decide) ?_
  refine V_istore_n hZ 2 rfl dX5_borrowable_1 (by decide) (by first | rfl | simp [okp, cat_rf, cat_ref, cat_int, cat_null]) ?_
  refine V.lvc (by simp only [List.set_cons_zero, List.set_cons_succ, Nat.reduceAdd]; rfl) ?_
  refine V_aload_n hZ 0 dX5_borrowable_2 rfl rfl (by first | rfl | exact isR_rf _) ?_
  refine V_getfield hZ fl_X5_23.r dX5_borrowable_3 (by assumption) (by rfl) ?_
  refine V_astore_n hZ 3 rfl dX5_borrowable_6 (by first | rfl | exact isR_rf _) (by decide) (by first | rfl | simp [okp, cat_rf, cat_ref, cat_int, cat_null]) ?_
  refine V.lvc (by simp only [List.set_cons_zero, List.set_cons_succ, Nat.reduceAdd]; rfl) ?_
  refine V_aload_n hZ 3 dX5_borrowable_7 rfl rfl (by first | rfl | exact isR_rf _) ?_
  refine V_alenR hZ dX5_borrowable_8 (by assumption) ?_
  refine V_istore hZ dX5_borrowable_9 (by decide) (by first | rfl | simp [okp, cat_rf, cat_ref, cat_int, cat_null]) ?_
  refine V.lvc (by simp only [List.set_cons_zero, List.set_cons_succ, Nat.reduceAdd]; rfl) ?_
  refine V_iconst (v := 0) hZ dX5_borrowable_11 (by decide) ?_
  refine V_istore hZ dX5_borrowable_12 (by decide) (by first | rfl | simp [okp, cat_rf, cat_ref, cat_int, cat_null]) ?_
  refine V.lvc (by simp only [List.set_cons_zero, List.set_cons_succ, Nat.reduceAdd]; rfl) ?_
  have key : ∀ m c, c + m = 30 → ∀ w, V Z 14 [some (.ref (aH S)), some (.ref (adD S x)), some (.int (nI (cn (mayB S x) c))), some (.ref (aCs S)), some (.int (nI 30)), some (.int (nI c)), w] [] h 0 0 := by
    intro m
    induction m with
    | zero =>
      intro c hcm  w
      have hc : c = 30 := by omega
      subst hc
      refine V_iload hZ dX5_borrowable_14 rfl ?_
      refine V_iload hZ dX5_borrowable_16 rfl ?_
      refine V_icmp_ge (tgt := 51) hZ dX5_borrowable_18 (by decide) (fun cE => ?_) (fun cE => ?_)
      · refine V_iload_n hZ 2 dX5_borrowable_51 rfl rfl ?_
        refine V_iret hZ hE rfl (by rfl) dX5_borrowable_52 (by decide) (by decide) ?_
        exact ⟨rfl, rfl⟩
      · exact absurd (by decide) cE
    | succ m ih =>
      intro c hcm  w
      have hcN : c < 30 := by omega
      refine V_iload hZ dX5_borrowable_14 rfl ?_
      refine V_iload hZ dX5_borrowable_16 rfl ?_
      refine V_icmp_ge (tgt := 51) hZ dX5_borrowable_18 (by decide) (fun cE => ?_) (fun cE => ?_)
      · have cE2 : 30 ≤ c := (nI_leI (a := 30) (by decide) (by omega)).mp cE
        omega
      · refine V_aload_n hZ 3 dX5_borrowable_21 rfl rfl (by first | rfl | exact isR_rf _) ?_
        refine V_iload hZ dX5_borrowable_22 rfl ?_
        by_cases hi : c < nCp S
        · refine V_aaldn hZ dX5_borrowable_24 (by assumption) hcN (by decide) (v := .ref (adC S c)) (rowf_lt hi) ?_
          refine V_astore hZ dX5_borrowable_25 (by first | rfl | exact isR_rf _) (by decide) (by first | rfl | simp [okp, cat_rf, cat_ref, cat_int, cat_null]) ?_
          refine V.lvc (by simp only [List.set_cons_zero, List.set_cons_succ, Nat.reduceAdd]; rfl) ?_
          refine V_aload hZ dX5_borrowable_27 rfl (by first | rfl | exact isR_rf _) ?_
          refine V_ifnullR hZ dX5_borrowable_29 ?_
          refine V_aload_n hZ 0 dX5_borrowable_32 rfl rfl (by first | rfl | exact isR_rf _) ?_
          refine V_aload_n hZ 1 dX5_borrowable_33 rfl rfl (by first | rfl | exact isR_rf _) ?_
          refine V_aload hZ dX5_borrowable_34 rfl (by first | rfl | exact isR_rf _) ?_
          refine V_invVp hZ me_X5_reasonAgainst mi_X5_reasonAgainst ml_X5_175 (c_reasonAgainst Z.1 R W hx hi) dX5_borrowable_36 rfl rfl (by assumption) rfl rfl ⟨by decide, by decide⟩ (by first | decide | simp [cat_rf, cat_ref, cat_int, cat_null]) ⟨by decide, by decide⟩ ?_
          refine V_if_ne (tgt := 45) hZ dX5_borrowable_39 (by decide) (fun c1 => ?_) (fun c1 => ?_)
          · refine V_iincv hZ dX5_borrowable_45 rfl (by decide) (by first | rfl | simp [okp, cat_rf, cat_ref, cat_int, cat_null]) (by first | exact nI_inc _ | rfl) ?_
            refine V.lvc (by simp only [List.set_cons_zero, List.set_cons_succ, Nat.reduceAdd]; rfl) ?_
            refine V_goto (tgt := 14) hZ dX5_borrowable_48 (by decide) ?_
            have e := ih (c + 1) (by omega) (some (.ref (adC S c)))
            have c2 : ¬ reasonN S x c = 0 := fun z => c1 (by rw [z]; rfl)
            rw [cn_f (by simp [mayB, c2])] at e
            exact e
          · refine V_iincv hZ dX5_borrowable_42 rfl (by decide) (by first | rfl | simp [okp, cat_rf, cat_ref, cat_int, cat_null]) (by first | exact nI_inc _ | rfl) ?_
            refine V.lvc (by simp only [List.set_cons_zero, List.set_cons_succ, Nat.reduceAdd]; rfl) ?_
            refine V_iincv hZ dX5_borrowable_45 rfl (by decide) (by first | rfl | simp [okp, cat_rf, cat_ref, cat_int, cat_null]) (by first | exact nI_inc _ | rfl) ?_
            refine V.lvc (by simp only [List.set_cons_zero, List.set_cons_succ, Nat.reduceAdd]; rfl) ?_
            refine V_goto (tgt := 14) hZ dX5_borrowable_48 (by decide) ?_
            have e := ih (c + 1) (by omega) (some (.ref (adC S c)))
            have c2 : reasonN S x c = 0 := nI_inj (by have := reasonN_lt (S := S) x c; omega) (by decide) (show nI (reasonN S x c) = nI 0 from c1)
            rw [cn_t (by simp [mayB, c2, hi])] at e
            exact e
        · refine V_aaldn hZ dX5_borrowable_24 (by assumption) hcN (by decide) (v := .null) (rowf_ge hi) ?_
          refine V_astore hZ dX5_borrowable_25 (by first | rfl | exact isR_rf _) (by decide) (by first | rfl | simp [okp, cat_rf, cat_ref, cat_int, cat_null]) ?_
          refine V.lvc (by simp only [List.set_cons_zero, List.set_cons_succ, Nat.reduceAdd]; rfl) ?_
          refine V_aload hZ dX5_borrowable_27 rfl (by first | rfl | exact isR_rf _) ?_
          refine V_ifnullN (tgt := 45) hZ dX5_borrowable_29 (by decide) ?_
          refine V_iincv hZ dX5_borrowable_45 rfl (by decide) (by first | rfl | simp [okp, cat_rf, cat_ref, cat_int, cat_null]) (by first | exact nI_inc _ | rfl) ?_
          refine V.lvc (by simp only [List.set_cons_zero, List.set_cons_succ, Nat.reduceAdd]; rfl) ?_
          refine V_goto (tgt := 14) hZ dX5_borrowable_48 (by decide) ?_
          have e := ih (c + 1) (by omega) (some .null)
          rw [cn_f (by simp [mayB, hi])] at e
          exact e
  exact key 30 0 rfl none
def renewP (S : St) (c : Nat) : Prop := cpPl (cps S c) = 1 ∧ lateC S c (tdy S) = 0 ∧ cpRn (cps S c) < 2 ∧ nextW S (cpRc (cps S c)) = none
def renewB (S : St) (c : Nat) : Bool := decide (cpPl (cps S c) = 1 ∧ lateC S c (tdy S) = 0 ∧ cpRn (cps S c) < 2 ∧ nextW S (cpRc (cps S c)) = none)
theorem c_mayBeRenewed (R : Rep S h) (W : Wf S) {c : Nat} (hi : c < nCp S) : Calls G yX5_mayBeRenewed cX5_mayBeRenewed 2 (.some .boolean) 3 73 0 0 [.ref (aH S), .ref (adC S c)] h (qV (.int (b01 (renewB S c = true))) h) qX := by
  have h1 := R.hall
  have h3 := R.copy hi
  have hr := W_rec W hi
  have h4 := R.rec hr
  refine Calls_of1 (by decide +kernel) (by simp [cat_rf, cat_ref, cat_int, cat_null]) (by simp) (lv0 := [some (.ref (aH S)), some (.ref (adC S c))]) rfl ?_
  intro Z hG hZ hE hN
  subst hG
  refine V_aload_n hZ 1 dX5_mayBeRenewed_0 rfl rfl (by first | rfl | exact isR_rf _) ?_
  refine V_getfield hZ fl_X5_215.r dX5_mayBeRenewed_1 (by assumption) (by rfl) ?_
  refine V_iconst (v := 1) hZ dX5_mayBeRenewed_4 (by decide) ?_
  refine V_icmp_ne (tgt := 42) hZ dX5_mayBeRenewed_5 (by decide) (fun c1 => ?_) (fun c1 => ?_)
  · refine V_iconst (v := 0) hZ dX5_mayBeRenewed_42 (by decide) ?_
    refine V_iret hZ hE rfl (by rfl) dX5_mayBeRenewed_43 (by decide) (by decide) ?_
    exact ⟨by simp [renewB, b01, c1], rfl⟩
  · refine V_aload_n hZ 1 dX5_mayBeRenewed_8 rfl rfl (by first | rfl | exact isR_rf _) ?_
    refine V_aload_n hZ 0 dX5_mayBeRenewed_9 rfl rfl (by first | rfl | exact isR_rf _) ?_
    refine V_getfield hZ fl_X5_181.r dX5_mayBeRenewed_10 (by assumption) (by rfl) ?_
    refine V_invVp hZ me_X1_daysLateOn mi_X1_daysLateOn ml_X5_341 (c_daysLateOn Z.1 h h3 (tdy S)) dX5_mayBeRenewed_13 rfl rfl (by assumption) rfl rfl ⟨by decide, by decide⟩ (by first | decide | simp [cat_rf, cat_ref, cat_int, cat_null]) ⟨by decide, by decide⟩ ?_
    refine V_if_ne (tgt := 42) hZ dX5_mayBeRenewed_16 (by decide) (fun c2 => ?_) (fun c2 => ?_)
    · refine V_iconst (v := 0) hZ dX5_mayBeRenewed_42 (by decide) ?_
      refine V_iret hZ hE rfl (by rfl) dX5_mayBeRenewed_43 (by decide) (by decide) ?_
      exact ⟨by simp [renewB, b01, lateC, c2], rfl⟩
    · refine V_aload_n hZ 1 dX5_mayBeRenewed_19 rfl rfl (by first | rfl | exact isR_rf _) ?_
      refine V_getfield hZ fl_X5_212.r dX5_mayBeRenewed_20 (by assumption) (by rfl) ?_
      refine V_iconst (v := 2) hZ dX5_mayBeRenewed_23 (by decide) ?_
      refine V_icmp_ge (tgt := 42) hZ dX5_mayBeRenewed_24 (by decide) (fun c3 => ?_) (fun c3 => ?_)
      · refine V_iconst (v := 0) hZ dX5_mayBeRenewed_42 (by decide) ?_
        refine V_iret hZ hE rfl (by rfl) dX5_mayBeRenewed_43 (by decide) (by decide) ?_
        have c4 : ¬ cpRn (cps S c) < 2 := Int32.not_lt.mpr c3
        exact ⟨by simp [renewB, b01, c4], rfl⟩
      · have c4 : cpRn (cps S c) < 2 := Int32.not_le.mp c3
        refine V_aload_n hZ 0 dX5_mayBeRenewed_27 rfl rfl (by first | rfl | exact isR_rf _) ?_
        refine V_aload_n hZ 1 dX5_mayBeRenewed_28 rfl rfl (by first | rfl | exact isR_rf _) ?_
        refine V_getfield hZ fl_X5_192.r dX5_mayBeRenewed_29 (by assumption) (by rfl) ?_
        refine V_invVp hZ me_X5_firstWithNoneAside mi_X5_firstWithNoneAside ml_X5_374 (c_firstWithNoneAside Z.1 R W hr) dX5_mayBeRenewed_32 rfl rfl (by assumption) rfl rfl ⟨by decide, by decide⟩ (by first | decide | simp [cat_rf, cat_ref, cat_int, cat_null]) ⟨by decide, by decide⟩ ?_
        cases hz : nextW S (cpRc (cps S c)) with
        | none =>
          refine V_ifnonnullN hZ dX5_mayBeRenewed_35 ?_
          refine V_iconst (v := 1) hZ dX5_mayBeRenewed_38 (by decide) ?_
          refine V_goto (tgt := 43) hZ dX5_mayBeRenewed_39 (by decide) ?_
          refine V_iret hZ hE rfl (by rfl) dX5_mayBeRenewed_43 (by decide) (by decide) ?_
          have c5 : renewB S c = true := by simp only [renewB, decide_eq_true_eq]; exact ⟨c1, c2, c4, hz⟩
          exact ⟨by simp [b01, c5], rfl⟩
        | some y =>
          refine V_ifnonnullR (tgt := 42) hZ dX5_mayBeRenewed_35 (by decide) ?_
          refine V_iconst (v := 0) hZ dX5_mayBeRenewed_42 (by decide) ?_
          refine V_iret hZ hE rfl (by rfl) dX5_mayBeRenewed_43 (by decide) (by decide) ?_
          exact ⟨by simp [renewB, b01, hz], rfl⟩
def lostB (S : St) (d : Int32) (c : Nat) : Bool := decide (c < nCp S ∧ lostP (cpPl (cps S c)) (cpDy (cps S c)) (tdy S + d))
theorem c_lostWithin (R : Rep S h) (d : Int32) : Calls G yX5_lostWithin cX5_lostWithin 7 (.some .int) 2 42 0 0 [.ref (aH S), .int d] h (qV (.int (nI (cn (lostB S d) 30))) h) qX := by
  have h1 := R.hall
  have h2 := R.copies
  refine Calls_of1 (by decide +kernel) (by simp [cat_rf, cat_ref, cat_int, cat_null]) (by simp) (lv0 := [some (.ref (aH S)), some (.int d), none, none, none, none, none]) rfl ?_
  intro Z hG hZ hE hN
  subst hG
  refine V_iconst (v := 0) hZ dX5_lostWithin_0 (by decide) ?_
  refine V_istore_n hZ 2 rfl dX5_lostWithin_1 (by decide) (by first | rfl | simp [okp, cat_rf, cat_ref, cat_int, cat_null]) ?_
  refine V.lvc (by simp only [List.set_cons_zero, List.set_cons_succ, Nat.reduceAdd]; rfl) ?_
  refine V_aload_n hZ 0 dX5_lostWithin_2 rfl rfl (by first | rfl | exact isR_rf _) ?_
  refine V_getfield hZ fl_X5_23.r dX5_lostWithin_3 (by assumption) (by rfl) ?_
  refine V_astore_n hZ 3 rfl dX5_lostWithin_6 (by first | rfl | exact isR_rf _) (by decide) (by first | rfl | simp [okp, cat_rf, cat_ref, cat_int, cat_null]) ?_
  refine V.lvc (by simp only [List.set_cons_zero, List.set_cons_succ, Nat.reduceAdd]; rfl) ?_
  refine V_aload_n hZ 3 dX5_lostWithin_7 rfl rfl (by first | rfl | exact isR_rf _) ?_
  refine V_alenR hZ dX5_lostWithin_8 (by assumption) ?_
  refine V_istore hZ dX5_lostWithin_9 (by decide) (by first | rfl | simp [okp, cat_rf, cat_ref, cat_int, cat_null]) ?_
  refine V.lvc (by simp only [List.set_cons_zero, List.set_cons_succ, Nat.reduceAdd]; rfl) ?_
  refine V_iconst (v := 0) hZ dX5_lostWithin_11 (by decide) ?_
  refine V_istore hZ dX5_lostWithin_12 (by decide) (by first | rfl | simp [okp, cat_rf, cat_ref, cat_int, cat_null]) ?_
  refine V.lvc (by simp only [List.set_cons_zero, List.set_cons_succ, Nat.reduceAdd]; rfl) ?_
  have key : ∀ m c, c + m = 30 → ∀ w, V Z 14 [some (.ref (aH S)), some (.int d), some (.int (nI (cn (lostB S d) c))), some (.ref (aCs S)), some (.int (nI 30)), some (.int (nI c)), w] [] h 0 0 := by
    intro m
    induction m with
    | zero =>
      intro c hcm  w
      have hc : c = 30 := by omega
      subst hc
      refine V_iload hZ dX5_lostWithin_14 rfl ?_
      refine V_iload hZ dX5_lostWithin_16 rfl ?_
      refine V_icmp_ge (tgt := 55) hZ dX5_lostWithin_18 (by decide) (fun cE => ?_) (fun cE => ?_)
      · refine V_iload_n hZ 2 dX5_lostWithin_55 rfl rfl ?_
        refine V_iret hZ hE rfl (by rfl) dX5_lostWithin_56 (by decide) (by decide) ?_
        exact ⟨rfl, rfl⟩
      · exact absurd (by decide) cE
    | succ m ih =>
      intro c hcm  w
      have hcN : c < 30 := by omega
      refine V_iload hZ dX5_lostWithin_14 rfl ?_
      refine V_iload hZ dX5_lostWithin_16 rfl ?_
      refine V_icmp_ge (tgt := 55) hZ dX5_lostWithin_18 (by decide) (fun cE => ?_) (fun cE => ?_)
      · have cE2 : 30 ≤ c := (nI_leI (a := 30) (by decide) (by omega)).mp cE
        omega
      · refine V_aload_n hZ 3 dX5_lostWithin_21 rfl rfl (by first | rfl | exact isR_rf _) ?_
        refine V_iload hZ dX5_lostWithin_22 rfl ?_
        by_cases hi : c < nCp S
        · refine V_aaldn hZ dX5_lostWithin_24 (by assumption) hcN (by decide) (v := .ref (adC S c)) (rowf_lt hi) ?_
          refine V_astore hZ dX5_lostWithin_25 (by first | rfl | exact isR_rf _) (by decide) (by first | rfl | simp [okp, cat_rf, cat_ref, cat_int, cat_null]) ?_
          refine V.lvc (by simp only [List.set_cons_zero, List.set_cons_succ, Nat.reduceAdd]; rfl) ?_
          refine V_aload hZ dX5_lostWithin_27 rfl (by first | rfl | exact isR_rf _) ?_
          refine V_ifnullR hZ dX5_lostWithin_29 ?_
          have h3 := R.copy hi
          refine V_aload hZ dX5_lostWithin_32 rfl (by first | rfl | exact isR_rf _) ?_
          refine V_aload_n hZ 0 dX5_lostWithin_34 rfl rfl (by first | rfl | exact isR_rf _) ?_
          refine V_getfield hZ fl_X5_181.r dX5_lostWithin_35 (by assumption) (by rfl) ?_
          refine V_iload_n hZ 1 dX5_lostWithin_38 rfl rfl ?_
          refine V_iadd hZ dX5_lostWithin_39 ?_
          refine V_invVp hZ me_X1_isLostOn mi_X1_isLostOn ml_X5_280 (c_isLostOn Z.1 h h3 (tdy S + d)) dX5_lostWithin_40 rfl rfl (by assumption) rfl rfl ⟨by decide, by decide⟩ (by first | decide | simp [cat_rf, cat_ref, cat_int, cat_null]) ⟨by decide, by decide⟩ ?_
          refine V_if_eq (tgt := 49) hZ dX5_lostWithin_43 (by decide) (fun c1 => ?_) (fun c1 => ?_)
          · refine V_iincv hZ dX5_lostWithin_49 rfl (by decide) (by first | rfl | simp [okp, cat_rf, cat_ref, cat_int, cat_null]) (by first | exact nI_inc _ | rfl) ?_
            refine V.lvc (by simp only [List.set_cons_zero, List.set_cons_succ, Nat.reduceAdd]; rfl) ?_
            refine V_goto (tgt := 14) hZ dX5_lostWithin_52 (by decide) ?_
            have e := ih (c + 1) (by omega) (some (.ref (adC S c)))
            have c2 := b01_z c1
            rw [cn_f (by simp only [lostB, decide_eq_false_iff_not]; exact fun z => c2 z.2)] at e
            exact e
          · refine V_iincv hZ dX5_lostWithin_46 rfl (by decide) (by first | rfl | simp [okp, cat_rf, cat_ref, cat_int, cat_null]) (by first | exact nI_inc _ | rfl) ?_
            refine V.lvc (by simp only [List.set_cons_zero, List.set_cons_succ, Nat.reduceAdd]; rfl) ?_
            refine V_iincv hZ dX5_lostWithin_49 rfl (by decide) (by first | rfl | simp [okp, cat_rf, cat_ref, cat_int, cat_null]) (by first | exact nI_inc _ | rfl) ?_
            refine V.lvc (by simp only [List.set_cons_zero, List.set_cons_succ, Nat.reduceAdd]; rfl) ?_
            refine V_goto (tgt := 14) hZ dX5_lostWithin_52 (by decide) ?_
            have e := ih (c + 1) (by omega) (some (.ref (adC S c)))
            have c2 := b01_nz c1
            rw [cn_t (by simp only [lostB, decide_eq_true_eq]; exact ⟨hi, c2⟩)] at e
            exact e
        · refine V_aaldn hZ dX5_lostWithin_24 (by assumption) hcN (by decide) (v := .null) (rowf_ge hi) ?_
          refine V_astore hZ dX5_lostWithin_25 (by first | rfl | exact isR_rf _) (by decide) (by first | rfl | simp [okp, cat_rf, cat_ref, cat_int, cat_null]) ?_
          refine V.lvc (by simp only [List.set_cons_zero, List.set_cons_succ, Nat.reduceAdd]; rfl) ?_
          refine V_aload hZ dX5_lostWithin_27 rfl (by first | rfl | exact isR_rf _) ?_
          refine V_ifnullN (tgt := 49) hZ dX5_lostWithin_29 (by decide) ?_
          refine V_iincv hZ dX5_lostWithin_49 rfl (by decide) (by first | rfl | simp [okp, cat_rf, cat_ref, cat_int, cat_null]) (by first | exact nI_inc _ | rfl) ?_
          refine V.lvc (by simp only [List.set_cons_zero, List.set_cons_succ, Nat.reduceAdd]; rfl) ?_
          refine V_goto (tgt := 14) hZ dX5_lostWithin_52 (by decide) ?_
          have e := ih (c + 1) (by omega) (some .null)
          rw [cn_f (by simp only [lostB, decide_eq_false_iff_not]; exact fun z => hi z.1)] at e
          exact e
  exact key 30 0 rfl none
end
/-- when each copy of r is there -/
abbrev thd (c : Cp) (t : Int32) : Cp := (cpPr c, cpRc c, cpPl c, cpRd c, cpDy c, cpRn c, t)
def kiOf (T : St) (o : Option Nat) : Int32 := match o with
  | none => 0
  | some x => rdKi (rds T x)
abbrev thereC (T : St) (c : Nat) : Int32 := thereN (cpPl (cps T c)) (cpDy (cps T c)) (tdy T) (kiOf T (cpRd (cps T c))) (cpRd (cps T c))
def rkStep (r : Nat) (T : St) (c : Nat) : St := if c < nCp T ∧ cpRc (cps T c) = r then setCp T c (thd (cps T c) (thereC T c)) else T
def rkS (S : St) (r : Nat) : St := itN (rkStep r) 30 S
theorem same5_rkStep {T : St} {r c : Nat} : same5 T (rkStep r T c) := by
  unfold rkStep
  split <;> exact ⟨rfl, rfl, rfl⟩
theorem wf_th {T : St} (W : Wf T) {c : Nat} (hi : c < nCp T) (t : Int32) : Wf (setCp T c (thd (cps T c) t)) := wf_cp W (W_rec W hi) (W_rdr W hi) (W_asd W hi)
theorem wf_rkStep {T : St} {r c : Nat} (W : Wf T) : Wf (rkStep r T c) := by
  unfold rkStep
  split
  · rename_i h; exact wf_th W h.1 _
  · exact W
theorem same5_rk {S : St} {r : Nat} : same5 S (rkS S r) := itN_same (fun T c => same5_rkStep) 30
theorem wf_rk {S : St} (W : Wf S) {r : Nat} : Wf (rkS S r) := itN_wf (fun T c h => wf_rkStep h) W 30
theorem thereN_map (pl dy t ki : Int32) (o : Option Nat) (f : Nat → Nat) : thereN pl dy t ki (o.map f) = thereN pl dy t ki o := by cases o <;> simp [thereN]
theorem c_reckonWhenThere (G : GC) {h : HP} {S : St} (R : Rep S h) (W : Wf S) {r : Nat} (hr : r < nRc S) : Calls G yX5_reckonWhenThere cX5_reckonWhenThere 6 (.none : Option Jvm.ClassFile.FieldType) 2 42 0 0 [.ref (aH S), .ref (adR S r)] h (fun v h' => v = none ∧ Rep (rkS S r) h') qX := by
  have h1 := R.hall
  have h2 := R.copies
  refine Calls_of1 (by decide +kernel) (by simp [cat_rf, cat_ref, cat_int, cat_null]) (by simp) (lv0 := [some (.ref (aH S)), some (.ref (adR S r)), none, none, none, none]) rfl ?_
  intro Z hG hZ hE hN
  subst hG
  refine V_aload_n hZ 0 dX5_reckonWhenThere_0 rfl rfl (by first | rfl | exact isR_rf _) ?_
  refine V_getfield hZ fl_X5_23.r dX5_reckonWhenThere_1 (by assumption) (by rfl) ?_
  refine V_astore_n hZ 2 rfl dX5_reckonWhenThere_4 (by first | rfl | exact isR_rf _) (by decide) (by first | rfl | simp [okp, cat_rf, cat_ref, cat_int, cat_null]) ?_
  refine V.lvc (by simp only [List.set_cons_zero, List.set_cons_succ, Nat.reduceAdd]; rfl) ?_
  refine V_aload_n hZ 2 dX5_reckonWhenThere_5 rfl rfl (by first | rfl | exact isR_rf _) ?_
  refine V_alenR hZ dX5_reckonWhenThere_6 (by assumption) ?_
  refine V_istore_n hZ 3 rfl dX5_reckonWhenThere_7 (by decide) (by first | rfl | simp [okp, cat_rf, cat_ref, cat_int, cat_null]) ?_
  refine V.lvc (by simp only [List.set_cons_zero, List.set_cons_succ, Nat.reduceAdd]; rfl) ?_
  refine V_iconst (v := 0) hZ dX5_reckonWhenThere_8 (by decide) ?_
  refine V_istore hZ dX5_reckonWhenThere_9 (by decide) (by first | rfl | simp [okp, cat_rf, cat_ref, cat_int, cat_null]) ?_
  refine V.lvc (by simp only [List.set_cons_zero, List.set_cons_succ, Nat.reduceAdd]; rfl) ?_
  have key : ∀ m c, c + m = 30 → ∀ (T : St) (g : HP), Rep T g → Wf T → r < nRc T → itN (rkStep r) c S = T → ∀ w, V Z 11 [some (.ref (aH T)), some (.ref (adR T r)), some (.ref (aCs T)), some (.int (nI 30)), some (.int (nI c)), w] [] g 0 0 := by
    intro m
    induction m with
    | zero =>
      intro c hcm T g R W hr hT w
      have hc : c = 30 := by omega
      subst hc
      have g1 := R.hall
      have g2 := R.copies
      refine V_iload hZ dX5_reckonWhenThere_11 rfl ?_
      refine V_iload_n hZ 3 dX5_reckonWhenThere_13 rfl rfl ?_
      refine V_icmp_ge (tgt := 57) hZ dX5_reckonWhenThere_14 (by decide) (fun cE => ?_) (fun cE => ?_)
      · refine V_vret hZ hE rfl dX5_reckonWhenThere_57 (by decide) (by decide) ?_
        exact ⟨rfl, by rw [show rkS S r = T from hT]; exact R⟩
      · exact absurd (by decide) cE
    | succ m ih =>
      intro c hcm T g R W hr hT w
      have hcN : c < 30 := by omega
      have g1 := R.hall
      have g2 := R.copies
      refine V_iload hZ dX5_reckonWhenThere_11 rfl ?_
      refine V_iload_n hZ 3 dX5_reckonWhenThere_13 rfl rfl ?_
      refine V_icmp_ge (tgt := 57) hZ dX5_reckonWhenThere_14 (by decide) (fun cE => ?_) (fun cE => ?_)
      · have cE2 : 30 ≤ c := (nI_leI (a := 30) (by decide) (by omega)).mp cE
        omega
      · refine V_aload_n hZ 2 dX5_reckonWhenThere_17 rfl rfl (by first | rfl | exact isR_rf _) ?_
        refine V_iload hZ dX5_reckonWhenThere_18 rfl ?_
        by_cases hi : c < nCp T
        · refine V_aaldn hZ dX5_reckonWhenThere_20 (by assumption) hcN (by decide) (v := .ref (adC T c)) (rowf_lt hi) ?_
          refine V_astore hZ dX5_reckonWhenThere_21 (by first | rfl | exact isR_rf _) (by decide) (by first | rfl | simp [okp, cat_rf, cat_ref, cat_int, cat_null]) ?_
          refine V.lvc (by simp only [List.set_cons_zero, List.set_cons_succ, Nat.reduceAdd]; rfl) ?_
          refine V_aload hZ dX5_reckonWhenThere_23 rfl (by first | rfl | exact isR_rf _) ?_
          refine V_ifnullR hZ dX5_reckonWhenThere_25 ?_
          have g3 := R.copy hi
          refine V_aload hZ dX5_reckonWhenThere_28 rfl (by first | rfl | exact isR_rf _) ?_
          refine V_getfield hZ fl_X5_192.r dX5_reckonWhenThere_30 (by assumption) (by rfl) ?_
          refine V_aload_n hZ 1 dX5_reckonWhenThere_33 rfl rfl (by first | rfl | exact isR_rf _) ?_
          refine V_acmp_ne (tgt := 51) hZ dX5_reckonWhenThere_34 (by decide) (by first | rfl | exact isR_rf _) (by first | rfl | exact isR_rf _) (fun c1 => ?_) (fun c1 => ?_)
          · refine V_iincv hZ dX5_reckonWhenThere_51 rfl (by decide) (by first | rfl | simp [okp, cat_rf, cat_ref, cat_int, cat_null]) (by first | exact nI_inc _ | rfl) ?_
            refine V.lvc (by simp only [List.set_cons_zero, List.set_cons_succ, Nat.reduceAdd]; rfl) ?_
            refine V_goto (tgt := 11) hZ dX5_reckonWhenThere_54 (by decide) ?_
            have c2 : ¬ (c < nCp T ∧ cpRc (cps T c) = r) := fun z => c1 (by rw [z.2])
            exact ih (c + 1) (by omega) T g R W hr (by rw [itN, hT]; simp only [rkStep, if_neg c2]) _
          · have c2 : c < nCp T ∧ cpRc (cps T c) = r := ⟨hi, (recIff R W (W_rec W hi) hr).mp (refIff.mp c1)⟩
            refine V_aload hZ dX5_reckonWhenThere_37 rfl (by first | rfl | exact isR_rf _) ?_
            refine V_aload hZ dX5_reckonWhenThere_39 rfl (by first | rfl | exact isR_rf _) ?_
            refine V_aload_n hZ 0 dX5_reckonWhenThere_41 rfl rfl (by first | rfl | exact isR_rf _) ?_
            refine V_getfield hZ fl_X5_181.r dX5_reckonWhenThere_42 (by assumption) (by rfl) ?_
            have hk : ∀ a, (cpRd (cps T c)).map (adD T) = some a → ∃ j ow, g a = some (mRdr j (kiOf T (cpRd (cps T c))) ow) := by
              intro a ha
              cases hz : cpRd (cps T c) with
              | none => rw [hz] at ha; cases ha
              | some y =>
                rw [hz] at ha
                cases ha
                exact ⟨y, _, R.rdr (W_rdr W hi y hz)⟩
            refine V_invVp hZ me_X1_daysUntilThere mi_X1_daysUntilThere ml_X5_401 (c_daysUntilThere Z.1 g g3 (tdy T) (kiOf T (cpRd (cps T c))) hk) dX5_reckonWhenThere_45 rfl rfl (by assumption) rfl rfl ⟨by decide, by decide⟩ (by first | decide | simp [cat_rf, cat_ref, cat_int, cat_null]) ⟨by decide, by decide⟩ ?_
            refine V_putfield hZ fl_X5_398 dX5_reckonWhenThere_48 (by first | assumption | exact hup_self _ _ _) (by first | rfl | exact nar_rf _ _) (by first | rfl | exact fits_rf _ _) (by simp) ?_
            refine V_iincv hZ dX5_reckonWhenThere_51 rfl (by decide) (by first | rfl | simp [okp, cat_rf, cat_ref, cat_int, cat_null]) (by first | exact nI_inc _ | rfl) ?_
            refine V.lvc (by simp only [List.set_cons_zero, List.set_cons_succ, Nat.reduceAdd]; rfl) ?_
            refine V_goto (tgt := 11) hZ dX5_reckonWhenThere_54 (by decide) ?_
            have R2 := rep_cp R W hi (thd (cps T c) (thereC T c))
            rw [thereN_map]
            exact ih (c + 1) (by omega) (setCp T c (thd (cps T c) (thereC T c))) _ R2 (wf_th W hi _) hr (by rw [itN, hT]; simp only [rkStep, if_pos c2]) _
        · refine V_aaldn hZ dX5_reckonWhenThere_20 (by assumption) hcN (by decide) (v := .null) (rowf_ge hi) ?_
          refine V_astore hZ dX5_reckonWhenThere_21 (by first | rfl | exact isR_rf _) (by decide) (by first | rfl | simp [okp, cat_rf, cat_ref, cat_int, cat_null]) ?_
          refine V.lvc (by simp only [List.set_cons_zero, List.set_cons_succ, Nat.reduceAdd]; rfl) ?_
          refine V_aload hZ dX5_reckonWhenThere_23 rfl (by first | rfl | exact isR_rf _) ?_
          refine V_ifnullN (tgt := 51) hZ dX5_reckonWhenThere_25 (by decide) ?_
          refine V_iincv hZ dX5_reckonWhenThere_51 rfl (by decide) (by first | rfl | simp [okp, cat_rf, cat_ref, cat_int, cat_null]) (by first | exact nI_inc _ | rfl) ?_
          refine V.lvc (by simp only [List.set_cons_zero, List.set_cons_succ, Nat.reduceAdd]; rfl) ?_
          refine V_goto (tgt := 11) hZ dX5_reckonWhenThere_54 (by decide) ?_
          exact ih (c + 1) (by omega) T g R W hr (by rw [itN, hT]; simp only [rkStep, if_neg (show ¬ (c < nCp T ∧ cpRc (cps T c) = r) from fun z => hi z.1)]) _
  exact key 30 0 rfl _ _ R W hr rfl none
end
