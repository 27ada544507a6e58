section
-- ===== PART A: goes FIRST, ahead of the names: the tables' words, and 'selects' of the private methods out of them =====
/-- a private method of a class that the tables say can be made, by its rows of tables_1 -/
def lw_okq (q : MethodName × Nat) : Prop := (q.1.cls ≠ "java/lang/invoke/MethodHandle" ∧ q.1.cls ≠ "java/lang/invoke/VarHandle") ∧ Cond.instantiable q.1.cls q.2 ∈ tables_1 ∧ Cond.privateMethod q.1 ∈ tables_1 ∧ Cond.instanceMethod q.1 ∈ tables_1
theorem lw_p0 : lw_okq (⟨"BikeSheds$State", "moveUp", "()V"⟩, 5) := ⟨⟨by decide +kernel, by decide +kernel⟩, List.mem_of_getElem? (i := 20) (by decide +kernel), List.mem_of_getElem? (i := 242) (by decide +kernel), List.mem_of_getElem? (i := 243) (by decide +kernel)⟩
theorem lw_p1 : lw_okq (⟨"BikeSheds$State", "permitsToGive", "(I)I"⟩, 5) := ⟨⟨by decide +kernel, by decide +kernel⟩, List.mem_of_getElem? (i := 20) (by decide +kernel), List.mem_of_getElem? (i := 246) (by decide +kernel), List.mem_of_getElem? (i := 247) (by decide +kernel)⟩
theorem lw_p2 : lw_okq (⟨"BikeSheds", "recorded", "(I)I"⟩, 6) := ⟨⟨by decide +kernel, by decide +kernel⟩, List.mem_of_getElem? (i := 12) (by decide +kernel), List.mem_of_getElem? (i := 279) (by decide +kernel), List.mem_of_getElem? (i := 280) (by decide +kernel)⟩
theorem lw_p3 : lw_okq (⟨"BikeSheds$History", "dropOldest", "()V"⟩, 2) := ⟨⟨by decide +kernel, by decide +kernel⟩, List.mem_of_getElem? (i := 126) (by decide +kernel), List.mem_of_getElem? (i := 287) (by decide +kernel), List.mem_of_getElem? (i := 288) (by decide +kernel)⟩
theorem lw_p4 : lw_okq (⟨"BikeSheds$State", "lowestFreeRack", "(I)I"⟩, 5) := ⟨⟨by decide +kernel, by decide +kernel⟩, List.mem_of_getElem? (i := 20) (by decide +kernel), List.mem_of_getElem? (i := 368) (by decide +kernel), List.mem_of_getElem? (i := 369) (by decide +kernel)⟩
theorem lw_p5 : lw_okq (⟨"BikeSheds$State", "looksAbandoned", "(I)Z"⟩, 5) := ⟨⟨by decide +kernel, by decide +kernel⟩, List.mem_of_getElem? (i := 20) (by decide +kernel), List.mem_of_getElem? (i := 420) (by decide +kernel), List.mem_of_getElem? (i := 421) (by decide +kernel)⟩
theorem lw_p6 : lw_okq (⟨"BikeSheds$State", "isWithoutPermit", "(I)Z"⟩, 5) := ⟨⟨by decide +kernel, by decide +kernel⟩, List.mem_of_getElem? (i := 20) (by decide +kernel), List.mem_of_getElem? (i := 424) (by decide +kernel), List.mem_of_getElem? (i := 425) (by decide +kernel)⟩
theorem lw_p7 : lw_okq (⟨"BikeSheds$Bicycles", "isDue", "(III)Z"⟩, 7) := ⟨⟨by decide +kernel, by decide +kernel⟩, List.mem_of_getElem? (i := 71) (by decide +kernel), List.mem_of_getElem? (i := 436) (by decide +kernel), List.mem_of_getElem? (i := 437) (by decide +kernel)⟩
theorem lw_p8 : lw_okq (⟨"BikeSheds$State", "beginDay", "()V"⟩, 5) := ⟨⟨by decide +kernel, by decide +kernel⟩, List.mem_of_getElem? (i := 20) (by decide +kernel), List.mem_of_getElem? (i := 461) (by decide +kernel), List.mem_of_getElem? (i := 462) (by decide +kernel)⟩
theorem lw_p9 : lw_okq (⟨"BikeSheds$DeedReader", "readFrom", "(CC)Z"⟩, 7) := ⟨⟨by decide +kernel, by decide +kernel⟩, List.mem_of_getElem? (i := 142) (by decide +kernel), List.mem_of_getElem? (i := 492) (by decide +kernel), List.mem_of_getElem? (i := 493) (by decide +kernel)⟩
theorem lw_p10 : lw_okq (⟨"BikeSheds$DeedReader", "readDeedOfPerson", "()Z"⟩, 7) := ⟨⟨by decide +kernel, by decide +kernel⟩, List.mem_of_getElem? (i := 142) (by decide +kernel), List.mem_of_getElem? (i := 500) (by decide +kernel), List.mem_of_getElem? (i := 501) (by decide +kernel)⟩
theorem lw_p11 : lw_okq (⟨"BikeSheds$DeedReader", "readOne", "(C)Z"⟩, 7) := ⟨⟨by decide +kernel, by decide +kernel⟩, List.mem_of_getElem? (i := 142) (by decide +kernel), List.mem_of_getElem? (i := 504) (by decide +kernel), List.mem_of_getElem? (i := 505) (by decide +kernel)⟩
theorem lw_p12 : lw_okq (⟨"BikeSheds$DeedReader", "readShed", "()Z"⟩, 7) := ⟨⟨by decide +kernel, by decide +kernel⟩, List.mem_of_getElem? (i := 142) (by decide +kernel), List.mem_of_getElem? (i := 508) (by decide +kernel), List.mem_of_getElem? (i := 509) (by decide +kernel)⟩
theorem lw_p13 : lw_okq (⟨"BikeSheds$DeedReader", "readNumber", "()Z"⟩, 7) := ⟨⟨by decide +kernel, by decide +kernel⟩, List.mem_of_getElem? (i := 142) (by decide +kernel), List.mem_of_getElem? (i := 512) (by decide +kernel), List.mem_of_getElem? (i := 513) (by decide +kernel)⟩
theorem lw_p14 : lw_okq (⟨"BikeSheds", "doDeed", "()I"⟩, 6) := ⟨⟨by decide +kernel, by decide +kernel⟩, List.mem_of_getElem? (i := 12) (by decide +kernel), List.mem_of_getElem? (i := 522) (by decide +kernel), List.mem_of_getElem? (i := 523) (by decide +kernel)⟩
theorem lw_p15 : lw_okq (⟨"BikeSheds$State", "racksWithoutPermit", "(I)I"⟩, 5) := ⟨⟨by decide +kernel, by decide +kernel⟩, List.mem_of_getElem? (i := 20) (by decide +kernel), List.mem_of_getElem? (i := 554) (by decide +kernel), List.mem_of_getElem? (i := 555) (by decide +kernel)⟩
def lw_privs_1 : List (MethodName × Nat) := [(⟨"BikeSheds$State", "moveUp", "()V"⟩, 5), (⟨"BikeSheds$State", "permitsToGive", "(I)I"⟩, 5), (⟨"BikeSheds", "recorded", "(I)I"⟩, 6), (⟨"BikeSheds$History", "dropOldest", "()V"⟩, 2), (⟨"BikeSheds$State", "lowestFreeRack", "(I)I"⟩, 5), (⟨"BikeSheds$State", "looksAbandoned", "(I)Z"⟩, 5), (⟨"BikeSheds$State", "isWithoutPermit", "(I)Z"⟩, 5), (⟨"BikeSheds$Bicycles", "isDue", "(III)Z"⟩, 7), (⟨"BikeSheds$State", "beginDay", "()V"⟩, 5), (⟨"BikeSheds$DeedReader", "readFrom", "(CC)Z"⟩, 7), (⟨"BikeSheds$DeedReader", "readDeedOfPerson", "()Z"⟩, 7), (⟨"BikeSheds$DeedReader", "readOne", "(C)Z"⟩, 7), (⟨"BikeSheds$DeedReader", "readShed", "()Z"⟩, 7), (⟨"BikeSheds$DeedReader", "readNumber", "()Z"⟩, 7), (⟨"BikeSheds", "doDeed", "()I"⟩, 6), (⟨"BikeSheds$State", "racksWithoutPermit", "(I)I"⟩, 5)]
theorem lw_r1 : ∀ q ∈ lw_privs_1, lw_okq q := List.forall_mem_cons.mpr ⟨lw_p0, List.forall_mem_cons.mpr ⟨lw_p1, List.forall_mem_cons.mpr ⟨lw_p2, List.forall_mem_cons.mpr ⟨lw_p3, List.forall_mem_cons.mpr ⟨lw_p4, List.forall_mem_cons.mpr ⟨lw_p5, List.forall_mem_cons.mpr ⟨lw_p6, List.forall_mem_cons.mpr ⟨lw_p7, List.forall_mem_cons.mpr ⟨lw_p8, List.forall_mem_cons.mpr ⟨lw_p9, List.forall_mem_cons.mpr ⟨lw_p10, List.forall_mem_cons.mpr ⟨lw_p11, List.forall_mem_cons.mpr ⟨lw_p12, List.forall_mem_cons.mpr ⟨lw_p13, List.forall_mem_cons.mpr ⟨lw_p14, List.forall_mem_cons.mpr ⟨lw_p15, fun _ h => absurd h List.not_mem_nil⟩⟩⟩⟩⟩⟩⟩⟩⟩⟩⟩⟩⟩⟩⟩⟩
theorem lw_p16 : lw_okq (⟨"BikeSheds", "daysToWaitFor", "(III)I"⟩, 6) := ⟨⟨by decide +kernel, by decide +kernel⟩, List.mem_of_getElem? (i := 12) (by decide +kernel), List.mem_of_getElem? (i := 617) (by decide +kernel), List.mem_of_getElem? (i := 618) (by decide +kernel)⟩
theorem lw_p17 : lw_okq (⟨"BikeShedsModel", "changes", "()V"⟩, 10) := ⟨⟨by decide +kernel, by decide +kernel⟩, List.mem_of_getElem? (i := 672) (by decide +kernel), List.mem_of_getElem? (i := 727) (by decide +kernel), List.mem_of_getElem? (i := 728) (by decide +kernel)⟩
theorem lw_p18 : lw_okq (⟨"BikeShedsModel", "copies", "(II)V"⟩, 10) := ⟨⟨by decide +kernel, by decide +kernel⟩, List.mem_of_getElem? (i := 672) (by decide +kernel), List.mem_of_getElem? (i := 731) (by decide +kernel), List.mem_of_getElem? (i := 732) (by decide +kernel)⟩
theorem lw_p19 : lw_okq (⟨"BikeShedsModel", "movesUp", "(I)I"⟩, 10) := ⟨⟨by decide +kernel, by decide +kernel⟩, List.mem_of_getElem? (i := 672) (by decide +kernel), List.mem_of_getElem? (i := 735) (by decide +kernel), List.mem_of_getElem? (i := 736) (by decide +kernel)⟩
theorem lw_p20 : lw_okq (⟨"BikeShedsModel", "given", "(II)I"⟩, 10) := ⟨⟨by decide +kernel, by decide +kernel⟩, List.mem_of_getElem? (i := 672) (by decide +kernel), List.mem_of_getElem? (i := 739) (by decide +kernel), List.mem_of_getElem? (i := 740) (by decide +kernel)⟩
theorem lw_p21 : lw_okq (⟨"BikeShedsModel", "permits", "(II)I"⟩, 10) := ⟨⟨by decide +kernel, by decide +kernel⟩, List.mem_of_getElem? (i := 672) (by decide +kernel), List.mem_of_getElem? (i := 746) (by decide +kernel), List.mem_of_getElem? (i := 747) (by decide +kernel)⟩
theorem lw_p22 : lw_okq (⟨"BikeShedsModel", "racksInUse", "(II)I"⟩, 10) := ⟨⟨by decide +kernel, by decide +kernel⟩, List.mem_of_getElem? (i := 672) (by decide +kernel), List.mem_of_getElem? (i := 750) (by decide +kernel), List.mem_of_getElem? (i := 751) (by decide +kernel)⟩
theorem lw_p23 : lw_okq (⟨"BikeShedsModel", "getsPermit", "(IIII)V"⟩, 10) := ⟨⟨by decide +kernel, by decide +kernel⟩, List.mem_of_getElem? (i := 672) (by decide +kernel), List.mem_of_getElem? (i := 757) (by decide +kernel), List.mem_of_getElem? (i := 758) (by decide +kernel)⟩
theorem lw_p24 : lw_okq (⟨"BikeShedsModel", "leavesLists", "(II)V"⟩, 10) := ⟨⟨by decide +kernel, by decide +kernel⟩, List.mem_of_getElem? (i := 672) (by decide +kernel), List.mem_of_getElem? (i := 761) (by decide +kernel), List.mem_of_getElem? (i := 762) (by decide +kernel)⟩
theorem lw_p25 : lw_okq (⟨"BikeShedsModel", "placeOf", "(III)I"⟩, 10) := ⟨⟨by decide +kernel, by decide +kernel⟩, List.mem_of_getElem? (i := 672) (by decide +kernel), List.mem_of_getElem? (i := 765) (by decide +kernel), List.mem_of_getElem? (i := 766) (by decide +kernel)⟩
theorem lw_p26 : lw_okq (⟨"BikeShedsModel", "askError", "(III)I"⟩, 10) := ⟨⟨by decide +kernel, by decide +kernel⟩, List.mem_of_getElem? (i := 672) (by decide +kernel), List.mem_of_getElem? (i := 773) (by decide +kernel), List.mem_of_getElem? (i := 774) (by decide +kernel)⟩
theorem lw_p27 : lw_okq (⟨"BikeShedsModel", "hasPermit", "(I)Z"⟩, 10) := ⟨⟨by decide +kernel, by decide +kernel⟩, List.mem_of_getElem? (i := 672) (by decide +kernel), List.mem_of_getElem? (i := 788) (by decide +kernel), List.mem_of_getElem? (i := 789) (by decide +kernel)⟩
theorem lw_p28 : lw_okq (⟨"BikeShedsModel", "asksFor", "(IIII)I"⟩, 10) := ⟨⟨by decide +kernel, by decide +kernel⟩, List.mem_of_getElem? (i := 672) (by decide +kernel), List.mem_of_getElem? (i := 792) (by decide +kernel), List.mem_of_getElem? (i := 793) (by decide +kernel)⟩
theorem lw_p29 : lw_okq (⟨"BikeShedsModel", "waitsFor", "(II)I"⟩, 10) := ⟨⟨by decide +kernel, by decide +kernel⟩, List.mem_of_getElem? (i := 672) (by decide +kernel), List.mem_of_getElem? (i := 800) (by decide +kernel), List.mem_of_getElem? (i := 801) (by decide +kernel)⟩
theorem lw_p30 : lw_okq (⟨"BikeShedsModel", "endsPermit", "(II)V"⟩, 10) := ⟨⟨by decide +kernel, by decide +kernel⟩, List.mem_of_getElem? (i := 672) (by decide +kernel), List.mem_of_getElem? (i := 804) (by decide +kernel), List.mem_of_getElem? (i := 805) (by decide +kernel)⟩
theorem lw_p31 : lw_okq (⟨"BikeShedsModel", "parkError", "(I)I"⟩, 10) := ⟨⟨by decide +kernel, by decide +kernel⟩, List.mem_of_getElem? (i := 672) (by decide +kernel), List.mem_of_getElem? (i := 816) (by decide +kernel), List.mem_of_getElem? (i := 817) (by decide +kernel)⟩
def lw_privs_2 : List (MethodName × Nat) := [(⟨"BikeSheds", "daysToWaitFor", "(III)I"⟩, 6), (⟨"BikeShedsModel", "changes", "()V"⟩, 10), (⟨"BikeShedsModel", "copies", "(II)V"⟩, 10), (⟨"BikeShedsModel", "movesUp", "(I)I"⟩, 10), (⟨"BikeShedsModel", "given", "(II)I"⟩, 10), (⟨"BikeShedsModel", "permits", "(II)I"⟩, 10), (⟨"BikeShedsModel", "racksInUse", "(II)I"⟩, 10), (⟨"BikeShedsModel", "getsPermit", "(IIII)V"⟩, 10), (⟨"BikeShedsModel", "leavesLists", "(II)V"⟩, 10), (⟨"BikeShedsModel", "placeOf", "(III)I"⟩, 10), (⟨"BikeShedsModel", "askError", "(III)I"⟩, 10), (⟨"BikeShedsModel", "hasPermit", "(I)Z"⟩, 10), (⟨"BikeShedsModel", "asksFor", "(IIII)I"⟩, 10), (⟨"BikeShedsModel", "waitsFor", "(II)I"⟩, 10), (⟨"BikeShedsModel", "endsPermit", "(II)V"⟩, 10), (⟨"BikeShedsModel", "parkError", "(I)I"⟩, 10)]
theorem lw_r2 : ∀ q ∈ lw_privs_2, lw_okq q := List.forall_mem_cons.mpr ⟨lw_p16, List.forall_mem_cons.mpr ⟨lw_p17, List.forall_mem_cons.mpr ⟨lw_p18, List.forall_mem_cons.mpr ⟨lw_p19, List.forall_mem_cons.mpr ⟨lw_p20, List.forall_mem_cons.mpr ⟨lw_p21, List.forall_mem_cons.mpr ⟨lw_p22, List.forall_mem_cons.mpr ⟨lw_p23, List.forall_mem_cons.mpr ⟨lw_p24, List.forall_mem_cons.mpr ⟨lw_p25, List.forall_mem_cons.mpr ⟨lw_p26, List.forall_mem_cons.mpr ⟨lw_p27, List.forall_mem_cons.mpr ⟨lw_p28, List.forall_mem_cons.mpr ⟨lw_p29, List.forall_mem_cons.mpr ⟨lw_p30, List.forall_mem_cons.mpr ⟨lw_p31, fun _ h => absurd h List.not_mem_nil⟩⟩⟩⟩⟩⟩⟩⟩⟩⟩⟩⟩⟩⟩⟩⟩
theorem lw_p32 : lw_okq (⟨"BikeShedsModel", "isInRack", "(II)Z"⟩, 10) := ⟨⟨by decide +kernel, by decide +kernel⟩, List.mem_of_getElem? (i := 672) (by decide +kernel), List.mem_of_getElem? (i := 820) (by decide +kernel), List.mem_of_getElem? (i := 821) (by decide +kernel)⟩
theorem lw_p33 : lw_okq (⟨"BikeShedsModel", "freeRack", "(II)I"⟩, 10) := ⟨⟨by decide +kernel, by decide +kernel⟩, List.mem_of_getElem? (i := 672) (by decide +kernel), List.mem_of_getElem? (i := 824) (by decide +kernel), List.mem_of_getElem? (i := 825) (by decide +kernel)⟩
theorem lw_p34 : lw_okq (⟨"BikeShedsModel", "owner", "(III)I"⟩, 10) := ⟨⟨by decide +kernel, by decide +kernel⟩, List.mem_of_getElem? (i := 672) (by decide +kernel), List.mem_of_getElem? (i := 828) (by decide +kernel), List.mem_of_getElem? (i := 829) (by decide +kernel)⟩
theorem lw_p35 : lw_okq (⟨"BikeShedsModel", "parks", "(I)I"⟩, 10) := ⟨⟨by decide +kernel, by decide +kernel⟩, List.mem_of_getElem? (i := 672) (by decide +kernel), List.mem_of_getElem? (i := 832) (by decide +kernel), List.mem_of_getElem? (i := 833) (by decide +kernel)⟩
theorem lw_p36 : lw_okq (⟨"BikeShedsModel", "rackError", "(I)I"⟩, 10) := ⟨⟨by decide +kernel, by decide +kernel⟩, List.mem_of_getElem? (i := 672) (by decide +kernel), List.mem_of_getElem? (i := 840) (by decide +kernel), List.mem_of_getElem? (i := 841) (by decide +kernel)⟩
theorem lw_p37 : lw_okq (⟨"BikeShedsModel", "rides", "(I)I"⟩, 10) := ⟨⟨by decide +kernel, by decide +kernel⟩, List.mem_of_getElem? (i := 672) (by decide +kernel), List.mem_of_getElem? (i := 844) (by decide +kernel), List.mem_of_getElem? (i := 845) (by decide +kernel)⟩
theorem lw_p38 : lw_okq (⟨"BikeShedsModel", "leavesRack", "(II)V"⟩, 10) := ⟨⟨by decide +kernel, by decide +kernel⟩, List.mem_of_getElem? (i := 672) (by decide +kernel), List.mem_of_getElem? (i := 848) (by decide +kernel), List.mem_of_getElem? (i := 849) (by decide +kernel)⟩
theorem lw_p39 : lw_okq (⟨"BikeShedsModel", "answers", "(I)I"⟩, 10) := ⟨⟨by decide +kernel, by decide +kernel⟩, List.mem_of_getElem? (i := 672) (by decide +kernel), List.mem_of_getElem? (i := 856) (by decide +kernel), List.mem_of_getElem? (i := 857) (by decide +kernel)⟩
theorem lw_p40 : lw_okq (⟨"BikeShedsModel", "fetchError", "(I)I"⟩, 10) := ⟨⟨by decide +kernel, by decide +kernel⟩, List.mem_of_getElem? (i := 672) (by decide +kernel), List.mem_of_getElem? (i := 864) (by decide +kernel), List.mem_of_getElem? (i := 865) (by decide +kernel)⟩
theorem lw_p41 : lw_okq (⟨"BikeShedsModel", "fetches", "(I)I"⟩, 10) := ⟨⟨by decide +kernel, by decide +kernel⟩, List.mem_of_getElem? (i := 672) (by decide +kernel), List.mem_of_getElem? (i := 868) (by decide +kernel), List.mem_of_getElem? (i := 869) (by decide +kernel)⟩
theorem lw_p42 : lw_okq (⟨"BikeShedsModel", "sweeps", "(II)I"⟩, 10) := ⟨⟨by decide +kernel, by decide +kernel⟩, List.mem_of_getElem? (i := 672) (by decide +kernel), List.mem_of_getElem? (i := 876) (by decide +kernel), List.mem_of_getElem? (i := 877) (by decide +kernel)⟩
theorem lw_p43 : lw_okq (⟨"BikeShedsModel", "passError", "(I)I"⟩, 10) := ⟨⟨by decide +kernel, by decide +kernel⟩, List.mem_of_getElem? (i := 672) (by decide +kernel), List.mem_of_getElem? (i := 889) (by decide +kernel), List.mem_of_getElem? (i := 890) (by decide +kernel)⟩
theorem lw_p44 : lw_okq (⟨"BikeShedsModel", "days", "(II)I"⟩, 10) := ⟨⟨by decide +kernel, by decide +kernel⟩, List.mem_of_getElem? (i := 672) (by decide +kernel), List.mem_of_getElem? (i := 893) (by decide +kernel), List.mem_of_getElem? (i := 894) (by decide +kernel)⟩
theorem lw_p45 : lw_okq (⟨"BikeShedsModel", "day", "(I)I"⟩, 10) := ⟨⟨by decide +kernel, by decide +kernel⟩, List.mem_of_getElem? (i := 672) (by decide +kernel), List.mem_of_getElem? (i := 897) (by decide +kernel), List.mem_of_getElem? (i := 898) (by decide +kernel)⟩
theorem lw_p46 : lw_okq (⟨"BikeShedsModel", "daysSince", "(I)I"⟩, 10) := ⟨⟨by decide +kernel, by decide +kernel⟩, List.mem_of_getElem? (i := 672) (by decide +kernel), List.mem_of_getElem? (i := 905) (by decide +kernel), List.mem_of_getElem? (i := 906) (by decide +kernel)⟩
theorem lw_p47 : lw_okq (⟨"BikeShedsModel", "racks", "(II)I"⟩, 10) := ⟨⟨by decide +kernel, by decide +kernel⟩, List.mem_of_getElem? (i := 672) (by decide +kernel), List.mem_of_getElem? (i := 913) (by decide +kernel), List.mem_of_getElem? (i := 914) (by decide +kernel)⟩
def lw_privs_3 : List (MethodName × Nat) := [(⟨"BikeShedsModel", "isInRack", "(II)Z"⟩, 10), (⟨"BikeShedsModel", "freeRack", "(II)I"⟩, 10), (⟨"BikeShedsModel", "owner", "(III)I"⟩, 10), (⟨"BikeShedsModel", "parks", "(I)I"⟩, 10), (⟨"BikeShedsModel", "rackError", "(I)I"⟩, 10), (⟨"BikeShedsModel", "rides", "(I)I"⟩, 10), (⟨"BikeShedsModel", "leavesRack", "(II)V"⟩, 10), (⟨"BikeShedsModel", "answers", "(I)I"⟩, 10), (⟨"BikeShedsModel", "fetchError", "(I)I"⟩, 10), (⟨"BikeShedsModel", "fetches", "(I)I"⟩, 10), (⟨"BikeShedsModel", "sweeps", "(II)I"⟩, 10), (⟨"BikeShedsModel", "passError", "(I)I"⟩, 10), (⟨"BikeShedsModel", "days", "(II)I"⟩, 10), (⟨"BikeShedsModel", "day", "(I)I"⟩, 10), (⟨"BikeShedsModel", "daysSince", "(I)I"⟩, 10), (⟨"BikeShedsModel", "racks", "(II)I"⟩, 10)]
theorem lw_r3 : ∀ q ∈ lw_privs_3, lw_okq q := List.forall_mem_cons.mpr ⟨lw_p32, List.forall_mem_cons.mpr ⟨lw_p33, List.forall_mem_cons.mpr ⟨lw_p34, List.forall_mem_cons.mpr ⟨lw_p35, List.forall_mem_cons.mpr ⟨lw_p36, List.forall_mem_cons.mpr ⟨lw_p37, List.forall_mem_cons.mpr ⟨lw_p38, List.forall_mem_cons.mpr ⟨lw_p39, List.forall_mem_cons.mpr ⟨lw_p40, List.forall_mem_cons.mpr ⟨lw_p41, List.forall_mem_cons.mpr ⟨lw_p42, List.forall_mem_cons.mpr ⟨lw_p43, List.forall_mem_cons.mpr ⟨lw_p44, List.forall_mem_cons.mpr ⟨lw_p45, List.forall_mem_cons.mpr ⟨lw_p46, List.forall_mem_cons.mpr ⟨lw_p47, fun _ h => absurd h List.not_mem_nil⟩⟩⟩⟩⟩⟩⟩⟩⟩⟩⟩⟩⟩⟩⟩⟩
theorem lw_p48 : lw_okq (⟨"BikeShedsModel", "people", "(I)I"⟩, 10) := ⟨⟨by decide +kernel, by decide +kernel⟩, List.mem_of_getElem? (i := 672) (by decide +kernel), List.mem_of_getElem? (i := 925) (by decide +kernel), List.mem_of_getElem? (i := 926) (by decide +kernel)⟩
theorem lw_p49 : lw_okq (⟨"BikeShedsModel", "daysTo", "(I)I"⟩, 10) := ⟨⟨by decide +kernel, by decide +kernel⟩, List.mem_of_getElem? (i := 672) (by decide +kernel), List.mem_of_getElem? (i := 933) (by decide +kernel), List.mem_of_getElem? (i := 934) (by decide +kernel)⟩
theorem lw_p50 : lw_okq (⟨"BikeShedsModel", "readsDeed", "()Z"⟩, 10) := ⟨⟨by decide +kernel, by decide +kernel⟩, List.mem_of_getElem? (i := 672) (by decide +kernel), List.mem_of_getElem? (i := 963) (by decide +kernel), List.mem_of_getElem? (i := 964) (by decide +kernel)⟩
theorem lw_p51 : lw_okq (⟨"BikeShedsModel", "isHere", "(II)Z"⟩, 10) := ⟨⟨by decide +kernel, by decide +kernel⟩, List.mem_of_getElem? (i := 672) (by decide +kernel), List.mem_of_getElem? (i := 967) (by decide +kernel), List.mem_of_getElem? (i := 968) (by decide +kernel)⟩
theorem lw_p52 : lw_okq (⟨"BikeShedsModel", "reads", "(II)I"⟩, 10) := ⟨⟨by decide +kernel, by decide +kernel⟩, List.mem_of_getElem? (i := 672) (by decide +kernel), List.mem_of_getElem? (i := 971) (by decide +kernel), List.mem_of_getElem? (i := 972) (by decide +kernel)⟩
theorem lw_p53 : lw_okq (⟨"BikeShedsModel", "readsShed", "()Z"⟩, 10) := ⟨⟨by decide +kernel, by decide +kernel⟩, List.mem_of_getElem? (i := 672) (by decide +kernel), List.mem_of_getElem? (i := 975) (by decide +kernel), List.mem_of_getElem? (i := 976) (by decide +kernel)⟩
theorem lw_p54 : lw_okq (⟨"BikeShedsModel", "number", "()I"⟩, 10) := ⟨⟨by decide +kernel, by decide +kernel⟩, List.mem_of_getElem? (i := 672) (by decide +kernel), List.mem_of_getElem? (i := 979) (by decide +kernel), List.mem_of_getElem? (i := 980) (by decide +kernel)⟩
theorem lw_p55 : lw_okq (⟨"BikeShedsModel", "deedError", "()I"⟩, 10) := ⟨⟨by decide +kernel, by decide +kernel⟩, List.mem_of_getElem? (i := 672) (by decide +kernel), List.mem_of_getElem? (i := 988) (by decide +kernel), List.mem_of_getElem? (i := 989) (by decide +kernel)⟩
theorem lw_p56 : lw_okq (⟨"BikeShedsModel", "does", "()I"⟩, 10) := ⟨⟨by decide +kernel, by decide +kernel⟩, List.mem_of_getElem? (i := 672) (by decide +kernel), List.mem_of_getElem? (i := 992) (by decide +kernel), List.mem_of_getElem? (i := 993) (by decide +kernel)⟩
def lw_privs_4 : List (MethodName × Nat) := [(⟨"BikeShedsModel", "people", "(I)I"⟩, 10), (⟨"BikeShedsModel", "daysTo", "(I)I"⟩, 10), (⟨"BikeShedsModel", "readsDeed", "()Z"⟩, 10), (⟨"BikeShedsModel", "isHere", "(II)Z"⟩, 10), (⟨"BikeShedsModel", "reads", "(II)I"⟩, 10), (⟨"BikeShedsModel", "readsShed", "()Z"⟩, 10), (⟨"BikeShedsModel", "number", "()I"⟩, 10), (⟨"BikeShedsModel", "deedError", "()I"⟩, 10), (⟨"BikeShedsModel", "does", "()I"⟩, 10)]
theorem lw_r4 : ∀ q ∈ lw_privs_4, lw_okq q := List.forall_mem_cons.mpr ⟨lw_p48, List.forall_mem_cons.mpr ⟨lw_p49, List.forall_mem_cons.mpr ⟨lw_p50, List.forall_mem_cons.mpr ⟨lw_p51, List.forall_mem_cons.mpr ⟨lw_p52, List.forall_mem_cons.mpr ⟨lw_p53, List.forall_mem_cons.mpr ⟨lw_p54, List.forall_mem_cons.mpr ⟨lw_p55, List.forall_mem_cons.mpr ⟨lw_p56, fun _ h => absurd h List.not_mem_nil⟩⟩⟩⟩⟩⟩⟩⟩⟩
def lw_privs : List (MethodName × Nat) := lw_privs_1 ++ (lw_privs_2 ++ (lw_privs_3 ++ (lw_privs_4)))
def lw_tbl : List Cond := k2_sels lw_privs ++ tables_1
theorem lw_privs_ok : ∀ q ∈ lw_privs, lw_okq q := by
  show ∀ q ∈ lw_privs_1 ++ (lw_privs_2 ++ (lw_privs_3 ++ (lw_privs_4))), lw_okq q
  exact List.forall_mem_append.mpr ⟨lw_r1, List.forall_mem_append.mpr ⟨lw_r2, List.forall_mem_append.mpr ⟨lw_r3, lw_r4⟩⟩⟩
end
section
/-! ===== BEGIN new T[n][m]: the outer array a place, the inner ones among the pooled ===== -/
/-- f, but v at every address of l -/
def vr_up {α : Type} (f : Nat → α) (l : List Nat) (v : α) : Nat → α := fun a => if a ∈ l then v else f a
theorem vr_up_in {α : Type} {f : Nat → α} {l : List Nat} {v : α} {a : Nat} (h : a ∈ l) : vr_up f l v a = v := if_pos h
theorem vr_up_ne {α : Type} {f : Nat → α} {l : List Nat} {v : α} {a : Nat} (h : a ∉ l) : vr_up f l v a = f a := if_neg h
theorem vr_rows {L l : List Nat} {f : Nat → va_E} {e : va_E} (h : ∀ a, a ∈ l → a ∉ L) : va_pl L f ++ l.map (fun a => (a, e)) = va_pl (L ++ l) (vr_up f l e) := by
  unfold va_pl
  rw [List.map_append]
  congr 1
  · apply List.map_congr_left
    intro a ha
    rw [vr_up_ne (fun q => h a q ha)]
  · apply List.map_congr_left
    intro a ha
    rw [vr_up_in ha]
theorem vr_lay {X rows : va_W} {x : Nat × va_E} {pl : va_W} {D : va_G} {cl : List vw_C} {H : Heap} (hP : va_P D cl (((X ++ pl) ++ [x]) ++ rows) H) : va_P D cl ((X ++ [x]) ++ (pl ++ rows)) H := by
  rw [List.append_assoc (X ++ pl)] at hP
  have h := va_P.swap hP
  rw [← List.append_assoc X] at h
  have h2 := va_P.swap h
  rw [List.append_assoc (X ++ [x])] at h2
  exact h2
theorem vr_layD {X rows : va_W} {x : Nat × va_E} {pl : va_W} {A : Nat → Prop} (hD : va_D A (((X ++ pl) ++ [x]) ++ rows)) : va_D A ((X ++ [x]) ++ (pl ++ rows)) := by
  rw [List.append_assoc (X ++ pl)] at hD
  have h := va_D.swap hD
  rw [← List.append_assoc X] at h
  have h2 := va_D.swap h
  rw [List.append_assoc (X ++ [x])] at h2
  exact h2
theorem vr_outer (c : ClassId) (N h0 : Nat) : ∀ i : Nat, Jvm.Free.Multi.outerC c N h0 i = arrV c N (fun j => va_rf (if j < i then some (h0 + 1 + j) else none))
  | 0 => by
    show ({ cls := c, slots := Array.replicate N .null, vm := .none } : Cell) = _
    rw [arrV_new]
    refine congrArg (arrV c N) (funext fun j => ?_)
    simp [va_rf]
  | i + 1 => by
    show (Jvm.Free.Multi.outerC c N h0 i).setSlot i (.ref (h0 + 1 + i)) = _
    rw [vr_outer c N h0 i, arrV_store]
    refine congrArg (arrV c N) (funext fun j => ?_)
    by_cases e : j = i
    · subst e
      simp [updV, va_rf]
    · by_cases h : j < i
      · simp [updV, e, h, Nat.lt_succ_of_lt h]
      · simp [updV, e, h, show ¬ j < i + 1 by omega]
def RX0 : String := "BikeSheds$Bicycles"
def TX0 : u_T := fun k => match k with
  | 0 => ("BikeSheds$Bicycles", "shedOf", "[I", true)
  | 1 => ("BikeSheds$Bicycles", "rackOf", "[I", true)
  | 2 => ("BikeSheds$Bicycles", "parkedOn", "[I", true)
  | 3 => ("BikeSheds$Bicycles", "tagDay", "[I", true)
  | 4 => ("BikeSheds$Bicycles", "poundSince", "[I", true)
  | 5 => ("BikeSheds$Bicycles", "soldOf", "[I", true)
  | _ => ("BikeSheds$Bicycles", "takenToPound", "I", false)
def tyX0 : Nat → FieldType := fun k => match k with
  | 0 => .array .int
  | 1 => .array .int
  | 2 => .array .int
  | 3 => .array .int
  | 4 => .array .int
  | 5 => .array .int
  | _ => .int
abbrev wsX00 : List Cond := u_ws RX0 TX0 7
theorem nmX0 : ∀ a, a < 7 → ∀ b, b < 7 → a ≠ b → (TX0 a).2.1 ≠ (TX0 b).2.1 := by decide +kernel
theorem tyX0_ok : ∀ k, k < 7 → parseFieldDescriptor (TX0 k).2.2.1 = some (tyX0 k) := by decide +kernel
abbrev cX0_init : ByteArray := prog_2_method_1_code
def yX0_init : MethodName := ⟨RX0, "<init>", "()V"⟩
abbrev cX0_copyFrom : ByteArray := prog_2_method_2_code
def yX0_copyFrom : MethodName := ⟨RX0, "copyFrom", "(LBikeSheds$Bicycles;)V"⟩
abbrev cX0_isInRack : ByteArray := prog_2_method_3_code
def yX0_isInRack : MethodName := ⟨RX0, "isInRack", "(I)Z"⟩
abbrev cX0_isTagged : ByteArray := prog_2_method_4_code
def yX0_isTagged : MethodName := ⟨RX0, "isTagged", "(I)Z"⟩
abbrev cX0_isInPound : ByteArray := prog_2_method_5_code
def yX0_isInPound : MethodName := ⟨RX0, "isInPound", "(I)Z"⟩
abbrev cX0_placeInRack : ByteArray := prog_2_method_6_code
def yX0_placeInRack : MethodName := ⟨RX0, "placeInRack", "(IIII)V"⟩
abbrev cX0_leaveRack : ByteArray := prog_2_method_7_code
def yX0_leaveRack : MethodName := ⟨RX0, "leaveRack", "(I)V"⟩
abbrev cX0_isDue : ByteArray := prog_2_method_8_code
def yX0_isDue : MethodName := ⟨RX0, "isDue", "(III)Z"⟩
abbrev cX0_countTagged : ByteArray := prog_2_method_9_code
def yX0_countTagged : MethodName := ⟨RX0, "countTagged", "(II)I"⟩
abbrev cX0_takeTagged : ByteArray := prog_2_method_10_code
def yX0_takeTagged : MethodName := ⟨RX0, "takeTagged", "(III)I"⟩
abbrev cX0_sellFromPound : ByteArray := prog_2_method_11_code
def yX0_sellFromPound : MethodName := ⟨RX0, "sellFromPound", "(I)V"⟩
abbrev cX0_racksTaken : ByteArray := prog_2_method_12_code
def yX0_racksTaken : MethodName := ⟨RX0, "racksTaken", "(I)I"⟩
abbrev cX0_racksTagged : ByteArray := prog_2_method_13_code
def yX0_racksTagged : MethodName := ⟨RX0, "racksTagged", "(I)I"⟩
abbrev cX0_countInRacks : ByteArray := prog_2_method_14_code
def yX0_countInRacks : MethodName := ⟨RX0, "countInRacks", "()I"⟩
abbrev cX0_countAllTagged : ByteArray := prog_2_method_15_code
def yX0_countAllTagged : MethodName := ⟨RX0, "countAllTagged", "()I"⟩
abbrev cX0_countInPound : ByteArray := prog_2_method_16_code
def yX0_countInPound : MethodName := ⟨RX0, "countInPound", "()I"⟩
abbrev cX0_countSold : ByteArray := prog_2_method_17_code
def yX0_countSold : MethodName := ⟨RX0, "countSold", "()I"⟩
def RX1 : String := "BikeSheds$DeedReader"
def TX1 : u_T := fun k => match k with
  | 0 => ("BikeSheds$DeedReader", "pad", "LBikeSheds$Pad;", true)
  | 1 => ("BikeSheds$DeedReader", "position", "I", false)
  | 2 => ("BikeSheds$DeedReader", "latest", "C", false)
  | 3 => ("BikeSheds$DeedReader", "kind", "I", false)
  | 4 => ("BikeSheds$DeedReader", "person", "I", false)
  | 5 => ("BikeSheds$DeedReader", "shed", "I", false)
  | _ => ("BikeSheds$DeedReader", "number", "I", false)
def tyX1 : Nat → FieldType := fun k => match k with
  | 0 => .object "BikeSheds$Pad"
  | 1 => .int
  | 2 => .char
  | 3 => .int
  | 4 => .int
  | 5 => .int
  | _ => .int
abbrev wsX10 : List Cond := u_ws RX1 TX1 7
theorem nmX1 : ∀ a, a < 7 → ∀ b, b < 7 → a ≠ b → (TX1 a).2.1 ≠ (TX1 b).2.1 := by decide +kernel
theorem tyX1_ok : ∀ k, k < 7 → parseFieldDescriptor (TX1 k).2.2.1 = some (tyX1 k) := by decide +kernel
abbrev cX1_init : ByteArray := prog_3_method_1_code
def yX1_init : MethodName := ⟨RX1, "<init>", "()V"⟩
abbrev cX1_findFault : ByteArray := prog_3_method_2_code
def yX1_findFault : MethodName := ⟨RX1, "findFault", "()I"⟩
abbrev cX1_goToStart : ByteArray := prog_3_method_3_code
def yX1_goToStart : MethodName := ⟨RX1, "goToStart", "()V"⟩
abbrev cX1_readSemicolon : ByteArray := prog_3_method_4_code
def yX1_readSemicolon : MethodName := ⟨RX1, "readSemicolon", "()Z"⟩
abbrev cX1_readDeed : ByteArray := prog_3_method_5_code
def yX1_readDeed : MethodName := ⟨RX1, "readDeed", "()Z"⟩
abbrev cX1_readDeedOfPerson : ByteArray := prog_3_method_6_code
def yX1_readDeedOfPerson : MethodName := ⟨RX1, "readDeedOfPerson", "()Z"⟩
abbrev cX1_readShed : ByteArray := prog_3_method_7_code
def yX1_readShed : MethodName := ⟨RX1, "readShed", "()Z"⟩
abbrev cX1_readNumber : ByteArray := prog_3_method_8_code
def yX1_readNumber : MethodName := ⟨RX1, "readNumber", "()Z"⟩
abbrev cX1_readOne : ByteArray := prog_3_method_9_code
def yX1_readOne : MethodName := ⟨RX1, "readOne", "(C)Z"⟩
abbrev cX1_readFrom : ByteArray := prog_3_method_10_code
def yX1_readFrom : MethodName := ⟨RX1, "readFrom", "(CC)Z"⟩
def RX2 : String := "BikeSheds$History"
def TX2 : u_T := fun k => match k with
  | 0 => ("BikeSheds$History", "states", "[LBikeSheds$State;", true)
  | _ => ("BikeSheds$History", "length", "I", false)
def tyX2 : Nat → FieldType := fun k => match k with
  | 0 => .array (.object "BikeSheds$State")
  | _ => .int
abbrev wsX20 : List Cond := u_ws RX2 TX2 2
theorem nmX2 : ∀ a, a < 2 → ∀ b, b < 2 → a ≠ b → (TX2 a).2.1 ≠ (TX2 b).2.1 := by decide +kernel
theorem tyX2_ok : ∀ k, k < 2 → parseFieldDescriptor (TX2 k).2.2.1 = some (tyX2 k) := by decide +kernel
abbrev cX2_init : ByteArray := prog_4_method_1_code
def yX2_init : MethodName := ⟨RX2, "<init>", "()V"⟩
abbrev cX2_record : ByteArray := prog_4_method_2_code
def yX2_record : MethodName := ⟨RX2, "record", "(LBikeSheds$State;)V"⟩
abbrev cX2_dropOldest : ByteArray := prog_4_method_3_code
def yX2_dropOldest : MethodName := ⟨RX2, "dropOldest", "()V"⟩
abbrev cX2_takeBack : ByteArray := prog_4_method_4_code
def yX2_takeBack : MethodName := ⟨RX2, "takeBack", "(LBikeSheds$State;)Z"⟩
def RX3 : String := "BikeSheds$Pad"
def TX3 : u_T := fun k => match k with
  | 0 => ("BikeSheds$Pad", "text", "[C", true)
  | _ => ("BikeSheds$Pad", "length", "I", false)
def tyX3 : Nat → FieldType := fun k => match k with
  | 0 => .array .char
  | _ => .int
abbrev wsX30 : List Cond := u_ws RX3 TX3 2
theorem nmX3 : ∀ a, a < 2 → ∀ b, b < 2 → a ≠ b → (TX3 a).2.1 ≠ (TX3 b).2.1 := by decide +kernel
theorem tyX3_ok : ∀ k, k < 2 → parseFieldDescriptor (TX3 k).2.2.1 = some (tyX3 k) := by decide +kernel
abbrev cX3_init : ByteArray := prog_5_method_1_code
def yX3_init : MethodName := ⟨RX3, "<init>", "()V"⟩
abbrev cX3_append : ByteArray := prog_5_method_2_code
def yX3_append : MethodName := ⟨RX3, "append", "(J)I"⟩
abbrev cX3_countCharacters : ByteArray := prog_5_method_3_code
def yX3_countCharacters : MethodName := ⟨RX3, "countCharacters", "(J)I"⟩
abbrev cX3_codeAt : ByteArray := prog_5_method_4_code
def yX3_codeAt : MethodName := ⟨RX3, "codeAt", "(JI)I"⟩
abbrev cX3_clear : ByteArray := prog_5_method_5_code
def yX3_clear : MethodName := ⟨RX3, "clear", "()I"⟩
abbrev cX3_characterAt : ByteArray := prog_5_method_6_code
def yX3_characterAt : MethodName := ⟨RX3, "characterAt", "(I)C"⟩
def RX4 : String := "BikeSheds$Permits"
def TX4 : u_T := fun k => match k with
  | 0 => ("BikeSheds$Permits", "shedOf", "[I", true)
  | 1 => ("BikeSheds$Permits", "lastDay", "[I", true)
  | 2 => ("BikeSheds$Permits", "placeOf", "[[I", true)
  | 3 => ("BikeSheds$Permits", "daysAsked", "[[I", true)
  | 4 => ("BikeSheds$Permits", "dayOfAsking", "[[I", true)
  | _ => ("BikeSheds$Permits", "given", "I", false)
def tyX4 : Nat → FieldType := fun k => match k with
  | 0 => .array .int
  | 1 => .array .int
  | 2 => .array (.array .int)
  | 3 => .array (.array .int)
  | 4 => .array (.array .int)
  | _ => .int
abbrev wsX40 : List Cond := u_ws RX4 TX4 6
theorem nmX4 : ∀ a, a < 6 → ∀ b, b < 6 → a ≠ b → (TX4 a).2.1 ≠ (TX4 b).2.1 := by decide +kernel
theorem tyX4_ok : ∀ k, k < 6 → parseFieldDescriptor (TX4 k).2.2.1 = some (tyX4 k) := by decide +kernel
abbrev cX4_init : ByteArray := prog_6_method_1_code
def yX4_init : MethodName := ⟨RX4, "<init>", "()V"⟩
abbrev cX4_copyFrom : ByteArray := prog_6_method_2_code
def yX4_copyFrom : MethodName := ⟨RX4, "copyFrom", "(LBikeSheds$Permits;)V"⟩
abbrev cX4_hasPermit : ByteArray := prog_6_method_3_code
def yX4_hasPermit : MethodName := ⟨RX4, "hasPermit", "(I)Z"⟩
abbrev cX4_waitsFor : ByteArray := prog_6_method_4_code
def yX4_waitsFor : MethodName := ⟨RX4, "waitsFor", "(II)Z"⟩
abbrev cX4_waitsForSome : ByteArray := prog_6_method_5_code
def yX4_waitsForSome : MethodName := ⟨RX4, "waitsForSome", "(I)Z"⟩
abbrev cX4_shedsWaitedFor : ByteArray := prog_6_method_6_code
def yX4_shedsWaitedFor : MethodName := ⟨RX4, "shedsWaitedFor", "(I)I"⟩
abbrev cX4_countOf : ByteArray := prog_6_method_7_code
def yX4_countOf : MethodName := ⟨RX4, "countOf", "(I)I"⟩
abbrev cX4_countAll : ByteArray := prog_6_method_8_code
def yX4_countAll : MethodName := ⟨RX4, "countAll", "()I"⟩
abbrev cX4_countWaiting : ByteArray := prog_6_method_9_code
def yX4_countWaiting : MethodName := ⟨RX4, "countWaiting", "(I)I"⟩
abbrev cX4_countAllWaiting : ByteArray := prog_6_method_10_code
def yX4_countAllWaiting : MethodName := ⟨RX4, "countAllWaiting", "()I"⟩
abbrev cX4_give : ByteArray := prog_6_method_11_code
def yX4_give : MethodName := ⟨RX4, "give", "(IIII)V"⟩
abbrev cX4_end : ByteArray := prog_6_method_12_code
def yX4_end : MethodName := ⟨RX4, "end", "(I)V"⟩
abbrev cX4_endBefore : ByteArray := prog_6_method_13_code
def yX4_endBefore : MethodName := ⟨RX4, "endBefore", "(I)V"⟩
abbrev cX4_queue : ByteArray := prog_6_method_14_code
def yX4_queue : MethodName := ⟨RX4, "queue", "(IIII)I"⟩
abbrev cX4_leaveLists : ByteArray := prog_6_method_15_code
def yX4_leaveLists : MethodName := ⟨RX4, "leaveLists", "(I)V"⟩
abbrev cX4_whoIsAt : ByteArray := prog_6_method_16_code
def yX4_whoIsAt : MethodName := ⟨RX4, "whoIsAt", "(II)I"⟩
abbrev cX4_aboutPlace : ByteArray := prog_6_method_17_code
def yX4_aboutPlace : MethodName := ⟨RX4, "aboutPlace", "(III)I"⟩
def RX5 : String := "BikeSheds$State"
def TX5 : u_T := fun k => match k with
  | 0 => ("BikeSheds$State", "settings", "[I", true)
  | 1 => ("BikeSheds$State", "racksInUse", "[I", true)
  | 2 => ("BikeSheds$State", "permits", "LBikeSheds$Permits;", true)
  | 3 => ("BikeSheds$State", "bicycles", "LBikeSheds$Bicycles;", true)
  | _ => ("BikeSheds$State", "day", "I", false)
def tyX5 : Nat → FieldType := fun k => match k with
  | 0 => .array .int
  | 1 => .array .int
  | 2 => .object "BikeSheds$Permits"
  | 3 => .object "BikeSheds$Bicycles"
  | _ => .int
abbrev wsX50 : List Cond := u_ws RX5 TX5 5
theorem nmX5 : ∀ a, a < 5 → ∀ b, b < 5 → a ≠ b → (TX5 a).2.1 ≠ (TX5 b).2.1 := by decide +kernel
theorem tyX5_ok : ∀ k, k < 5 → parseFieldDescriptor (TX5 k).2.2.1 = some (tyX5 k) := by decide +kernel
abbrev cX5_init : ByteArray := prog_7_method_1_code
def yX5_init : MethodName := ⟨RX5, "<init>", "()V"⟩
abbrev cX5_copyFrom : ByteArray := prog_7_method_2_code
def yX5_copyFrom : MethodName := ⟨RX5, "copyFrom", "(LBikeSheds$State;)V"⟩
abbrev cX5_changeSetting : ByteArray := prog_7_method_3_code
def yX5_changeSetting : MethodName := ⟨RX5, "changeSetting", "(II)I"⟩
abbrev cX5_askFor : ByteArray := prog_7_method_4_code
def yX5_askFor : MethodName := ⟨RX5, "askFor", "(III)I"⟩
abbrev cX5_giveUpAll : ByteArray := prog_7_method_5_code
def yX5_giveUpAll : MethodName := ⟨RX5, "giveUpAll", "(I)I"⟩
abbrev cX5_lengthen : ByteArray := prog_7_method_6_code
def yX5_lengthen : MethodName := ⟨RX5, "lengthen", "(II)I"⟩
abbrev cX5_parkBicycle : ByteArray := prog_7_method_7_code
def yX5_parkBicycle : MethodName := ⟨RX5, "parkBicycle", "(I)I"⟩
abbrev cX5_rideAway : ByteArray := prog_7_method_8_code
def yX5_rideAway : MethodName := ⟨RX5, "rideAway", "(I)I"⟩
abbrev cX5_answerFor : ByteArray := prog_7_method_9_code
def yX5_answerFor : MethodName := ⟨RX5, "answerFor", "(I)I"⟩
abbrev cX5_fetchFromPound : ByteArray := prog_7_method_10_code
def yX5_fetchFromPound : MethodName := ⟨RX5, "fetchFromPound", "(I)I"⟩
abbrev cX5_sweepShed : ByteArray := prog_7_method_11_code
def yX5_sweepShed : MethodName := ⟨RX5, "sweepShed", "(I)I"⟩
abbrev cX5_changeUse : ByteArray := prog_7_method_12_code
def yX5_changeUse : MethodName := ⟨RX5, "changeUse", "(IIZ)I"⟩
abbrev cX5_letPass : ByteArray := prog_7_method_13_code
def yX5_letPass : MethodName := ⟨RX5, "letPass", "(I)I"⟩
abbrev cX5_passUntilPermit : ByteArray := prog_7_method_14_code
def yX5_passUntilPermit : MethodName := ⟨RX5, "passUntilPermit", "(I)I"⟩
abbrev cX5_beginDay : ByteArray := prog_7_method_15_code
def yX5_beginDay : MethodName := ⟨RX5, "beginDay", "()V"⟩
abbrev cX5_moveUp : ByteArray := prog_7_method_16_code
def yX5_moveUp : MethodName := ⟨RX5, "moveUp", "()V"⟩
abbrev cX5_permitsToGive : ByteArray := prog_7_method_17_code
def yX5_permitsToGive : MethodName := ⟨RX5, "permitsToGive", "(I)I"⟩
abbrev cX5_lowestFreeRack : ByteArray := prog_7_method_18_code
def yX5_lowestFreeRack : MethodName := ⟨RX5, "lowestFreeRack", "(I)I"⟩
abbrev cX5_looksAbandoned : ByteArray := prog_7_method_19_code
def yX5_looksAbandoned : MethodName := ⟨RX5, "looksAbandoned", "(I)Z"⟩
abbrev cX5_isWithoutPermit : ByteArray := prog_7_method_20_code
def yX5_isWithoutPermit : MethodName := ⟨RX5, "isWithoutPermit", "(I)Z"⟩
abbrev cX5_latestDueTag : ByteArray := prog_7_method_21_code
def yX5_latestDueTag : MethodName := ⟨RX5, "latestDueTag", "(I)I"⟩
abbrev cX5_aboutPerson : ByteArray := prog_7_method_22_code
def yX5_aboutPerson : MethodName := ⟨RX5, "aboutPerson", "(II)I"⟩
abbrev cX5_aboutShed : ByteArray := prog_7_method_23_code
def yX5_aboutShed : MethodName := ⟨RX5, "aboutShed", "(II)I"⟩
abbrev cX5_racksWithoutPermit : ByteArray := prog_7_method_24_code
def yX5_racksWithoutPermit : MethodName := ⟨RX5, "racksWithoutPermit", "(I)I"⟩
abbrev cX5_aboutAll : ByteArray := prog_7_method_25_code
def yX5_aboutAll : MethodName := ⟨RX5, "aboutAll", "(I)I"⟩
def RX6 : String := "BikeSheds"
def TX6 : u_T := fun k => match k with
  | 0 => ("BikeSheds", "now", "LBikeSheds$State;", true)
  | 1 => ("BikeSheds", "before", "LBikeSheds$State;", true)
  | 2 => ("BikeSheds", "trial", "LBikeSheds$State;", true)
  | 3 => ("BikeSheds", "history", "LBikeSheds$History;", true)
  | 4 => ("BikeSheds", "slots", "[LBikeSheds$State;", true)
  | _ => ("BikeSheds", "reader", "LBikeSheds$DeedReader;", true)
def tyX6 : Nat → FieldType := fun k => match k with
  | 0 => .object "BikeSheds$State"
  | 1 => .object "BikeSheds$State"
  | 2 => .object "BikeSheds$State"
  | 3 => .object "BikeSheds$History"
  | 4 => .array (.object "BikeSheds$State")
  | _ => .object "BikeSheds$DeedReader"
abbrev wsX60 : List Cond := u_ws RX6 TX6 6
theorem nmX6 : ∀ a, a < 6 → ∀ b, b < 6 → a ≠ b → (TX6 a).2.1 ≠ (TX6 b).2.1 := by decide +kernel
theorem tyX6_ok : ∀ k, k < 6 → parseFieldDescriptor (TX6 k).2.2.1 = some (tyX6 k) := by decide +kernel
abbrev cX6_init : ByteArray := prog_1_method_1_code
def yX6_init : MethodName := ⟨RX6, "<init>", "()V"⟩
abbrev cX6_set : ByteArray := prog_1_method_2_code
def yX6_set : MethodName := ⟨RX6, "set", "(II)I"⟩
abbrev cX6_ask : ByteArray := prog_1_method_3_code
def yX6_ask : MethodName := ⟨RX6, "ask", "(III)I"⟩
abbrev cX6_giveUp : ByteArray := prog_1_method_4_code
def yX6_giveUp : MethodName := ⟨RX6, "giveUp", "(I)I"⟩
abbrev cX6_prolong : ByteArray := prog_1_method_5_code
def yX6_prolong : MethodName := ⟨RX6, "prolong", "(II)I"⟩
abbrev cX6_park : ByteArray := prog_1_method_6_code
def yX6_park : MethodName := ⟨RX6, "park", "(I)I"⟩
abbrev cX6_ride : ByteArray := prog_1_method_7_code
def yX6_ride : MethodName := ⟨RX6, "ride", "(I)I"⟩
abbrev cX6_answer : ByteArray := prog_1_method_8_code
def yX6_answer : MethodName := ⟨RX6, "answer", "(I)I"⟩
abbrev cX6_fetch : ByteArray := prog_1_method_9_code
def yX6_fetch : MethodName := ⟨RX6, "fetch", "(I)I"⟩
abbrev cX6_sweep : ByteArray := prog_1_method_10_code
def yX6_sweep : MethodName := ⟨RX6, "sweep", "(I)I"⟩
abbrev cX6_use : ByteArray := prog_1_method_11_code
def yX6_use : MethodName := ⟨RX6, "use", "(IIZ)I"⟩
abbrev cX6_pass : ByteArray := prog_1_method_12_code
def yX6_pass : MethodName := ⟨RX6, "pass", "(I)I"⟩
abbrev cX6_run : ByteArray := prog_1_method_13_code
def yX6_run : MethodName := ⟨RX6, "run", "()I"⟩
abbrev cX6_person : ByteArray := prog_1_method_14_code
def yX6_person : MethodName := ⟨RX6, "person", "(II)I"⟩
abbrev cX6_shed : ByteArray := prog_1_method_15_code
def yX6_shed : MethodName := ⟨RX6, "shed", "(II)I"⟩
abbrev cX6_waiting : ByteArray := prog_1_method_16_code
def yX6_waiting : MethodName := ⟨RX6, "waiting", "(III)I"⟩
abbrev cX6_count : ByteArray := prog_1_method_17_code
def yX6_count : MethodName := ⟨RX6, "count", "(I)I"⟩
abbrev cX6_untilPermit : ByteArray := prog_1_method_18_code
def yX6_untilPermit : MethodName := ⟨RX6, "untilPermit", "(I)I"⟩
abbrev cX6_bestShed : ByteArray := prog_1_method_19_code
def yX6_bestShed : MethodName := ⟨RX6, "bestShed", "(III)I"⟩
abbrev cX6_ifSwept : ByteArray := prog_1_method_20_code
def yX6_ifSwept : MethodName := ⟨RX6, "ifSwept", "(II)I"⟩
abbrev cX6_put : ByteArray := prog_1_method_21_code
def yX6_put : MethodName := ⟨RX6, "put", "(J)I"⟩
abbrev cX6_wipe : ByteArray := prog_1_method_22_code
def yX6_wipe : MethodName := ⟨RX6, "wipe", "()I"⟩
abbrev cX6_fault : ByteArray := prog_1_method_23_code
def yX6_fault : MethodName := ⟨RX6, "fault", "()I"⟩
abbrev cX6_undo : ByteArray := prog_1_method_24_code
def yX6_undo : MethodName := ⟨RX6, "undo", "()I"⟩
abbrev cX6_save : ByteArray := prog_1_method_25_code
def yX6_save : MethodName := ⟨RX6, "save", "(I)I"⟩
abbrev cX6_restore : ByteArray := prog_1_method_26_code
def yX6_restore : MethodName := ⟨RX6, "restore", "(I)I"⟩
abbrev cX6_isFrom : ByteArray := prog_1_method_27_code
def yX6_isFrom : MethodName := ⟨RX6, "isFrom", "(III)Z"⟩
abbrev cX6_isPerson : ByteArray := prog_1_method_28_code
def yX6_isPerson : MethodName := ⟨RX6, "isPerson", "(I)Z"⟩
abbrev cX6_isShed : ByteArray := prog_1_method_29_code
def yX6_isShed : MethodName := ⟨RX6, "isShed", "(I)Z"⟩
abbrev cX6_isRack : ByteArray := prog_1_method_30_code
def yX6_isRack : MethodName := ⟨RX6, "isRack", "(I)Z"⟩
abbrev cX6_noneForEachPerson : ByteArray := prog_1_method_31_code
def yX6_noneForEachPerson : MethodName := ⟨RX6, "noneForEachPerson", "()[I"⟩
abbrev cX6_countPeople : ByteArray := prog_1_method_32_code
def yX6_countPeople : MethodName := ⟨RX6, "countPeople", "([I)I"⟩
abbrev cX6_copyInto : ByteArray := prog_1_method_33_code
def yX6_copyInto : MethodName := ⟨RX6, "copyInto", "(LBikeSheds$State;LBikeSheds$State;)LBikeSheds$State;"⟩
abbrev cX6_recorded : ByteArray := prog_1_method_34_code
def yX6_recorded : MethodName := ⟨RX6, "recorded", "(I)I"⟩
abbrev cX6_doDeed : ByteArray := prog_1_method_35_code
def yX6_doDeed : MethodName := ⟨RX6, "doDeed", "()I"⟩
abbrev cX6_daysToWaitFor : ByteArray := prog_1_method_36_code
def yX6_daysToWaitFor : MethodName := ⟨RX6, "daysToWaitFor", "(III)I"⟩
def RX7 : String := "BikeShedsModel"
def TX7 : u_T := fun k => match k with
  | 0 => ("BikeShedsModel", "s", "[I", true)
  | 1 => ("BikeShedsModel", "states", "I", false)
  | 2 => ("BikeShedsModel", "isSaved", "[Z", true)
  | 3 => ("BikeShedsModel", "text", "[I", true)
  | 4 => ("BikeShedsModel", "typed", "I", false)
  | 5 => ("BikeShedsModel", "spot", "I", false)
  | 6 => ("BikeShedsModel", "who", "I", false)
  | 7 => ("BikeShedsModel", "sign", "I", false)
  | 8 => ("BikeShedsModel", "one", "I", false)
  | _ => ("BikeShedsModel", "two", "I", false)
def tyX7 : Nat → FieldType := fun k => match k with
  | 0 => .array .int
  | 1 => .int
  | 2 => .array .boolean
  | 3 => .array .int
  | 4 => .int
  | 5 => .int
  | 6 => .int
  | 7 => .int
  | 8 => .int
  | _ => .int
abbrev wsX70 : List Cond := u_ws RX7 TX7 10
theorem nmX7 : ∀ a, a < 10 → ∀ b, b < 10 → a ≠ b → (TX7 a).2.1 ≠ (TX7 b).2.1 := by decide +kernel
theorem tyX7_ok : ∀ k, k < 10 → parseFieldDescriptor (TX7 k).2.2.1 = some (tyX7 k) := by decide +kernel
abbrev cX7_init : ByteArray := prog_9_method_1_code
def yX7_init : MethodName := ⟨RX7, "<init>", "()V"⟩
abbrev cX7_in : ByteArray := prog_9_method_3_code
def yX7_in : MethodName := ⟨RX7, "in", "(JJJ)Z"⟩
abbrev cX7_flag : ByteArray := prog_9_method_4_code
def yX7_flag : MethodName := ⟨RX7, "flag", "(Z)I"⟩
abbrev cX7_copies : ByteArray := prog_9_method_5_code
def yX7_copies : MethodName := ⟨RX7, "copies", "(II)V"⟩
abbrev cX7_changes : ByteArray := prog_9_method_6_code
def yX7_changes : MethodName := ⟨RX7, "changes", "()V"⟩
abbrev cX7_personAt : ByteArray := prog_9_method_7_code
def yX7_personAt : MethodName := ⟨RX7, "personAt", "(II)I"⟩
abbrev cX7_placeAt : ByteArray := prog_9_method_8_code
def yX7_placeAt : MethodName := ⟨RX7, "placeAt", "(III)I"⟩
abbrev cX7_racksInUse : ByteArray := prog_9_method_9_code
def yX7_racksInUse : MethodName := ⟨RX7, "racksInUse", "(II)I"⟩
abbrev cX7_permits : ByteArray := prog_9_method_10_code
def yX7_permits : MethodName := ⟨RX7, "permits", "(II)I"⟩
abbrev cX7_given : ByteArray := prog_9_method_11_code
def yX7_given : MethodName := ⟨RX7, "given", "(II)I"⟩
abbrev cX7_placeOf : ByteArray := prog_9_method_12_code
def yX7_placeOf : MethodName := ⟨RX7, "placeOf", "(III)I"⟩
abbrev cX7_waitsFor : ByteArray := prog_9_method_13_code
def yX7_waitsFor : MethodName := ⟨RX7, "waitsFor", "(II)I"⟩
abbrev cX7_leavesLists : ByteArray := prog_9_method_14_code
def yX7_leavesLists : MethodName := ⟨RX7, "leavesLists", "(II)V"⟩
abbrev cX7_getsPermit : ByteArray := prog_9_method_15_code
def yX7_getsPermit : MethodName := ⟨RX7, "getsPermit", "(IIII)V"⟩
abbrev cX7_movesUp : ByteArray := prog_9_method_16_code
def yX7_movesUp : MethodName := ⟨RX7, "movesUp", "(I)I"⟩
abbrev cX7_asksFor : ByteArray := prog_9_method_17_code
def yX7_asksFor : MethodName := ⟨RX7, "asksFor", "(IIII)I"⟩
abbrev cX7_endsPermit : ByteArray := prog_9_method_18_code
def yX7_endsPermit : MethodName := ⟨RX7, "endsPermit", "(II)V"⟩
abbrev cX7_day : ByteArray := prog_9_method_19_code
def yX7_day : MethodName := ⟨RX7, "day", "(I)I"⟩
abbrev cX7_days : ByteArray := prog_9_method_20_code
def yX7_days : MethodName := ⟨RX7, "days", "(II)I"⟩
abbrev cX7_isInRack : ByteArray := prog_9_method_21_code
def yX7_isInRack : MethodName := ⟨RX7, "isInRack", "(II)Z"⟩
abbrev cX7_owner : ByteArray := prog_9_method_22_code
def yX7_owner : MethodName := ⟨RX7, "owner", "(III)I"⟩
abbrev cX7_leavesRack : ByteArray := prog_9_method_23_code
def yX7_leavesRack : MethodName := ⟨RX7, "leavesRack", "(II)V"⟩
abbrev cX7_sweeps : ByteArray := prog_9_method_24_code
def yX7_sweeps : MethodName := ⟨RX7, "sweeps", "(II)I"⟩
abbrev cX7_freeRack : ByteArray := prog_9_method_25_code
def yX7_freeRack : MethodName := ⟨RX7, "freeRack", "(II)I"⟩
abbrev cX7_isPerson : ByteArray := prog_9_method_26_code
def yX7_isPerson : MethodName := ⟨RX7, "isPerson", "(I)Z"⟩
abbrev cX7_isShed : ByteArray := prog_9_method_27_code
def yX7_isShed : MethodName := ⟨RX7, "isShed", "(I)Z"⟩
abbrev cX7_areDays : ByteArray := prog_9_method_28_code
def yX7_areDays : MethodName := ⟨RX7, "areDays", "(I)Z"⟩
abbrev cX7_hasPermit : ByteArray := prog_9_method_29_code
def yX7_hasPermit : MethodName := ⟨RX7, "hasPermit", "(I)Z"⟩
abbrev cX7_askError : ByteArray := prog_9_method_30_code
def yX7_askError : MethodName := ⟨RX7, "askError", "(III)I"⟩
abbrev cX7_parkError : ByteArray := prog_9_method_31_code
def yX7_parkError : MethodName := ⟨RX7, "parkError", "(I)I"⟩
abbrev cX7_rackError : ByteArray := prog_9_method_32_code
def yX7_rackError : MethodName := ⟨RX7, "rackError", "(I)I"⟩
abbrev cX7_fetchError : ByteArray := prog_9_method_33_code
def yX7_fetchError : MethodName := ⟨RX7, "fetchError", "(I)I"⟩
abbrev cX7_passError : ByteArray := prog_9_method_34_code
def yX7_passError : MethodName := ⟨RX7, "passError", "(I)I"⟩
abbrev cX7_parks : ByteArray := prog_9_method_35_code
def yX7_parks : MethodName := ⟨RX7, "parks", "(I)I"⟩
abbrev cX7_rides : ByteArray := prog_9_method_36_code
def yX7_rides : MethodName := ⟨RX7, "rides", "(I)I"⟩
abbrev cX7_answers : ByteArray := prog_9_method_37_code
def yX7_answers : MethodName := ⟨RX7, "answers", "(I)I"⟩
abbrev cX7_fetches : ByteArray := prog_9_method_38_code
def yX7_fetches : MethodName := ⟨RX7, "fetches", "(I)I"⟩
abbrev cX7_isValue : ByteArray := prog_9_method_39_code
def yX7_isValue : MethodName := ⟨RX7, "isValue", "(II)Z"⟩
abbrev cX7_set : ByteArray := prog_9_method_40_code
def yX7_set : MethodName := ⟨RX7, "set", "(II)I"⟩
abbrev cX7_ask : ByteArray := prog_9_method_41_code
def yX7_ask : MethodName := ⟨RX7, "ask", "(III)I"⟩
abbrev cX7_giveUp : ByteArray := prog_9_method_42_code
def yX7_giveUp : MethodName := ⟨RX7, "giveUp", "(I)I"⟩
abbrev cX7_prolong : ByteArray := prog_9_method_43_code
def yX7_prolong : MethodName := ⟨RX7, "prolong", "(II)I"⟩
abbrev cX7_park : ByteArray := prog_9_method_44_code
def yX7_park : MethodName := ⟨RX7, "park", "(I)I"⟩
abbrev cX7_ride : ByteArray := prog_9_method_45_code
def yX7_ride : MethodName := ⟨RX7, "ride", "(I)I"⟩
abbrev cX7_answer : ByteArray := prog_9_method_46_code
def yX7_answer : MethodName := ⟨RX7, "answer", "(I)I"⟩
abbrev cX7_fetch : ByteArray := prog_9_method_47_code
def yX7_fetch : MethodName := ⟨RX7, "fetch", "(I)I"⟩
abbrev cX7_sweep : ByteArray := prog_9_method_48_code
def yX7_sweep : MethodName := ⟨RX7, "sweep", "(I)I"⟩
abbrev cX7_use : ByteArray := prog_9_method_49_code
def yX7_use : MethodName := ⟨RX7, "use", "(IIZ)I"⟩
abbrev cX7_pass : ByteArray := prog_9_method_50_code
def yX7_pass : MethodName := ⟨RX7, "pass", "(I)I"⟩
abbrev cX7_daysSince : ByteArray := prog_9_method_51_code
def yX7_daysSince : MethodName := ⟨RX7, "daysSince", "(I)I"⟩
abbrev cX7_person : ByteArray := prog_9_method_52_code
def yX7_person : MethodName := ⟨RX7, "person", "(II)I"⟩
abbrev cX7_racks : ByteArray := prog_9_method_53_code
def yX7_racks : MethodName := ⟨RX7, "racks", "(II)I"⟩
abbrev cX7_shed : ByteArray := prog_9_method_54_code
def yX7_shed : MethodName := ⟨RX7, "shed", "(II)I"⟩
abbrev cX7_waiting : ByteArray := prog_9_method_55_code
def yX7_waiting : MethodName := ⟨RX7, "waiting", "(III)I"⟩
abbrev cX7_people : ByteArray := prog_9_method_56_code
def yX7_people : MethodName := ⟨RX7, "people", "(I)I"⟩
abbrev cX7_count : ByteArray := prog_9_method_57_code
def yX7_count : MethodName := ⟨RX7, "count", "(I)I"⟩
abbrev cX7_daysTo : ByteArray := prog_9_method_58_code
def yX7_daysTo : MethodName := ⟨RX7, "daysTo", "(I)I"⟩
abbrev cX7_untilPermit : ByteArray := prog_9_method_59_code
def yX7_untilPermit : MethodName := ⟨RX7, "untilPermit", "(I)I"⟩
abbrev cX7_bestShed : ByteArray := prog_9_method_60_code
def yX7_bestShed : MethodName := ⟨RX7, "bestShed", "(III)I"⟩
abbrev cX7_ifSwept : ByteArray := prog_9_method_61_code
def yX7_ifSwept : MethodName := ⟨RX7, "ifSwept", "(II)I"⟩
abbrev cX7_charactersOf : ByteArray := prog_9_method_62_code
def yX7_charactersOf : MethodName := ⟨RX7, "charactersOf", "(J)I"⟩
abbrev cX7_put : ByteArray := prog_9_method_63_code
def yX7_put : MethodName := ⟨RX7, "put", "(J)I"⟩
abbrev cX7_wipe : ByteArray := prog_9_method_64_code
def yX7_wipe : MethodName := ⟨RX7, "wipe", "()I"⟩
abbrev cX7_isHere : ByteArray := prog_9_method_65_code
def yX7_isHere : MethodName := ⟨RX7, "isHere", "(II)Z"⟩
abbrev cX7_reads : ByteArray := prog_9_method_66_code
def yX7_reads : MethodName := ⟨RX7, "reads", "(II)I"⟩
abbrev cX7_number : ByteArray := prog_9_method_67_code
def yX7_number : MethodName := ⟨RX7, "number", "()I"⟩
abbrev cX7_readsShed : ByteArray := prog_9_method_68_code
def yX7_readsShed : MethodName := ⟨RX7, "readsShed", "()Z"⟩
abbrev cX7_readsDeed : ByteArray := prog_9_method_69_code
def yX7_readsDeed : MethodName := ⟨RX7, "readsDeed", "()Z"⟩
abbrev cX7_fault : ByteArray := prog_9_method_70_code
def yX7_fault : MethodName := ⟨RX7, "fault", "()I"⟩
abbrev cX7_deedError : ByteArray := prog_9_method_71_code
def yX7_deedError : MethodName := ⟨RX7, "deedError", "()I"⟩
abbrev cX7_does : ByteArray := prog_9_method_72_code
def yX7_does : MethodName := ⟨RX7, "does", "()I"⟩
abbrev cX7_run : ByteArray := prog_9_method_73_code
def yX7_run : MethodName := ⟨RX7, "run", "()I"⟩
abbrev cX7_undo : ByteArray := prog_9_method_74_code
def yX7_undo : MethodName := ⟨RX7, "undo", "()I"⟩
abbrev cX7_isSlot : ByteArray := prog_9_method_75_code
def yX7_isSlot : MethodName := ⟨RX7, "isSlot", "(I)Z"⟩
abbrev cX7_save : ByteArray := prog_9_method_76_code
def yX7_save : MethodName := ⟨RX7, "save", "(I)I"⟩
abbrev cX7_restore : ByteArray := prog_9_method_77_code
def yX7_restore : MethodName := ⟨RX7, "restore", "(I)I"⟩
def RJx8e188 : String := "java/lang/Cloneable"
def TJx8e188 : u_T := fun k => match k with
  | _ => ("", "", "", false)
def tyJx8e188 : Nat → FieldType := fun k => match k with
  | _ => .int
abbrev wsJx8e1880 : List Cond := u_ws RJx8e188 TJx8e188 0
theorem nmJx8e188 : ∀ a, a < 0 → ∀ b, b < 0 → a ≠ b → (TJx8e188 a).2.1 ≠ (TJx8e188 b).2.1 := by decide +kernel
theorem tyJx8e188_ok : ∀ k, k < 0 → parseFieldDescriptor (TJx8e188 k).2.2.1 = some (tyJx8e188 k) := by decide +kernel
def RJ6 : String := "java/lang/Integer"
def TJ6 : u_T := fun k => match k with
  | _ => ("", "", "", false)
def tyJ6 : Nat → FieldType := fun k => match k with
  | _ => .int
abbrev wsJ60 : List Cond := u_ws RJ6 TJ6 0
theorem nmJ6 : ∀ a, a < 0 → ∀ b, b < 0 → a ≠ b → (TJ6 a).2.1 ≠ (TJ6 b).2.1 := by decide +kernel
theorem tyJ6_ok : ∀ k, k < 0 → parseFieldDescriptor (TJ6 k).2.2.1 = some (tyJ6 k) := by decide +kernel
abbrev cJ6_bitCount_0f7a4 : ByteArray := prog_11_method_49_code
def yJ6_bitCount_0f7a4 : MethodName := ⟨RJ6, "bitCount", "(I)I"⟩
def RJ10 : String := "java/lang/System"
def TJ10 : u_T := fun k => match k with
  | _ => ("", "", "", false)
def tyJ10 : Nat → FieldType := fun k => match k with
  | _ => .int
abbrev wsJ100 : List Cond := u_ws RJ10 TJ10 0
theorem nmJ10 : ∀ a, a < 0 → ∀ b, b < 0 → a ≠ b → (TJ10 a).2.1 ≠ (TJ10 b).2.1 := by decide +kernel
theorem tyJ10_ok : ∀ k, k < 0 → parseFieldDescriptor (TJ10 k).2.2.1 = some (tyJ10 k) := by decide +kernel
def RL : String := "BikeShedsLaw"
abbrev cL_law : ByteArray := code
def yL_law : MethodName := ⟨RL, "law", "([I)Z"⟩
abbrev vwCl : List vw_C := [(RX0, TX0, 7), (RX1, TX1, 7), (RX2, TX2, 2), (RX3, TX3, 2), (RX4, TX4, 6), (RX5, TX5, 5), (RX6, TX6, 6), (RX7, TX7, 10)]
set_option maxRecDepth 20000 in
theorem inX0 : ∀ w ∈ wsX00, w ∈ lw_tbl := by decide +kernel
set_option maxRecDepth 20000 in
theorem inX1 : ∀ w ∈ wsX10, w ∈ lw_tbl := by decide +kernel
set_option maxRecDepth 20000 in
theorem inX2 : ∀ w ∈ wsX20, w ∈ lw_tbl := by decide +kernel
set_option maxRecDepth 20000 in
theorem inX3 : ∀ w ∈ wsX30, w ∈ lw_tbl := by decide +kernel
set_option maxRecDepth 20000 in
theorem inX4 : ∀ w ∈ wsX40, w ∈ lw_tbl := by decide +kernel
set_option maxRecDepth 20000 in
theorem inX5 : ∀ w ∈ wsX50, w ∈ lw_tbl := by decide +kernel
set_option maxRecDepth 20000 in
theorem inX6 : ∀ w ∈ wsX60, w ∈ lw_tbl := by decide +kernel
set_option maxRecDepth 20000 in
theorem inX7 : ∀ w ∈ wsX70, w ∈ lw_tbl := by decide +kernel
end
section
/-- L_law -/
def xo_0 (pc : Nat) : Option (Instr × Nat) := if 867 ≤ pc then none else if pc < 492 then (if pc < 295 then (if pc < 205 then (if pc < 163 then (if pc < 27 then (if pc < 16 then (if pc < 8 then (if pc < 4 then (if pc < 3 then (if pc = 0 then some (.new 7, 3) else none) else (if pc = 3 then some (.dup, 1) else none)) else (if pc < 7 then (if pc = 4 then some (.invokespecial 9, 3) else none) else (if pc = 7 then some (.astore_n 1, 1) else none))) else (if pc < 12 then (if pc < 11 then (if pc = 8 then some (.new 10, 3) else none) else (if pc = 11 then some (.dup, 1) else none)) else (if pc < 15 then (if pc = 12 then some (.invokespecial 12, 3) else none) else (if pc = 15 then some (.astore_n 2, 1) else none)))) else (if pc < 20 then (if pc < 18 then (if pc < 17 then (if pc = 16 then some (.iconst 0, 1) else none) else (if pc = 17 then some (.istore_n 3, 1) else none)) else (if pc < 19 then (if pc = 18 then some (.iload_n 3, 1) else none) else (if pc = 19 then some (.aload_n 0, 1) else none))) else (if pc < 22 then (if pc < 21 then (if pc = 20 then some (.arraylength, 1) else none) else (if pc = 21 then some (.iconst 4, 1) else none)) else (if pc < 23 then (if pc = 22 then some (.isub, 1) else none) else (if pc < 26 then (if pc = 23 then some (.if_icmp .gt 842, 3) else none) else (if pc = 26 then some (.aload_n 0, 1) else none)))))) else (if pc < 152 then (if pc < 32 then (if pc < 29 then (if pc < 28 then (if pc = 27 then some (.iload_n 3, 1) else none) else (if pc = 28 then some (.iaload, 1) else none)) else (if pc < 31 then (if pc = 29 then some (.bipush 31, 2) else none) else (if pc = 31 then some (.iand, 1) else none))) else (if pc < 149 then (if pc < 148 then (if pc = 32 then some (.tableswitch 827 0 24 #[116, 149, 192, 215, 248, 271, 294, 317, 340, 363, 422, 445, 458, 491, 524, 567, 590, 613, 656, 689, 742, 755, 768, 781, 804], 116) else none) else (if pc = 148 then some (.aload_n 1, 1) else none)) else (if pc < 150 then (if pc = 149 then some (.aload_n 0, 1) else none) else (if pc < 151 then (if pc = 150 then some (.iload_n 3, 1) else none) else (if pc = 151 then some (.iconst 1, 1) else none))))) else (if pc < 156 then (if pc < 154 then (if pc < 153 then (if pc = 152 then some (.iadd, 1) else none) else (if pc = 153 then some (.iaload, 1) else none)) else (if pc < 155 then (if pc = 154 then some (.aload_n 0, 1) else none) else (if pc = 155 then some (.iload_n 3, 1) else none))) else (if pc < 158 then (if pc < 157 then (if pc = 156 then some (.iconst 2, 1) else none) else (if pc = 157 then some (.iadd, 1) else none)) else (if pc < 159 then (if pc = 158 then some (.iaload, 1) else none) else (if pc < 162 then (if pc = 159 then some (.invokevirtual 13, 3) else none) else (if pc = 162 then some (.aload_n 2, 1) else none))))))) else (if pc < 185 then (if pc < 172 then (if pc < 167 then (if pc < 165 then (if pc < 164 then (if pc = 163 then some (.aload_n 0, 1) else none) else (if pc = 164 then some (.iload_n 3, 1) else none)) else (if pc < 166 then (if pc = 165 then some (.iconst 1, 1) else none) else (if pc = 166 then some (.iadd, 1) else none))) else (if pc < 169 then (if pc < 168 then (if pc = 167 then some (.iaload, 1) else none) else (if pc = 168 then some (.aload_n 0, 1) else none)) else (if pc < 170 then (if pc = 169 then some (.iload_n 3, 1) else none) else (if pc < 171 then (if pc = 170 then some (.iconst 2, 1) else none) else (if pc = 171 then some (.iadd, 1) else none))))) else (if pc < 180 then (if pc < 176 then (if pc < 173 then (if pc = 172 then some (.iaload, 1) else none) else (if pc = 173 then some (.invokevirtual 17, 3) else none)) else (if pc < 179 then (if pc = 176 then some (.if_icmp .eq 683, 3) else none) else (if pc = 179 then some (.iconst 0, 1) else none))) else (if pc < 182 then (if pc < 181 then (if pc = 180 then some (.ireturn, 1) else none) else (if pc = 181 then some (.aload_n 1, 1) else none)) else (if pc < 183 then (if pc = 182 then some (.aload_n 0, 1) else none) else (if pc < 184 then (if pc = 183 then some (.iload_n 3, 1) else none) else (if pc = 184 then some (.iconst 1, 1) else none)))))) else (if pc < 194 then (if pc < 189 then (if pc < 187 then (if pc < 186 then (if pc = 185 then some (.iadd, 1) else none) else (if pc = 186 then some (.iaload, 1) else none)) else (if pc < 188 then (if pc = 187 then some (.aload_n 0, 1) else none) else (if pc = 188 then some (.iload_n 3, 1) else none))) else (if pc < 191 then (if pc < 190 then (if pc = 189 then some (.iconst 2, 1) else none) else (if pc = 190 then some (.iadd, 1) else none)) else (if pc < 192 then (if pc = 191 then some (.iaload, 1) else none) else (if pc < 193 then (if pc = 192 then some (.aload_n 0, 1) else none) else (if pc = 193 then some (.iload_n 3, 1) else none))))) else (if pc < 200 then (if pc < 196 then (if pc < 195 then (if pc = 194 then some (.iconst 3, 1) else none) else (if pc = 195 then some (.iadd, 1) else none)) else (if pc < 197 then (if pc = 196 then some (.iaload, 1) else none) else (if pc = 197 then some (.invokevirtual 18, 3) else none))) else (if pc < 202 then (if pc < 201 then (if pc = 200 then some (.aload_n 2, 1) else none) else (if pc = 201 then some (.aload_n 0, 1) else none)) else (if pc < 203 then (if pc = 202 then some (.iload_n 3, 1) else none) else (if pc < 204 then (if pc = 203 then some (.iconst 1, 1) else none) else (if pc = 204 then some (.iadd, 1) else none)))))))) else (if pc < 251 then (if pc < 227 then (if pc < 214 then (if pc < 209 then (if pc < 207 then (if pc < 206 then (if pc = 205 then some (.iaload, 1) else none) else (if pc = 206 then some (.aload_n 0, 1) else none)) else (if pc < 208 then (if pc = 207 then some (.iload_n 3, 1) else none) else (if pc = 208 then some (.iconst 2, 1) else none))) else (if pc < 211 then (if pc < 210 then (if pc = 209 then some (.iadd, 1) else none) else (if pc = 210 then some (.iaload, 1) else none)) else (if pc < 212 then (if pc = 211 then some (.aload_n 0, 1) else none) else (if pc < 213 then (if pc = 212 then some (.iload_n 3, 1) else none) else (if pc = 213 then some (.iconst 3, 1) else none))))) else (if pc < 222 then (if pc < 216 then (if pc < 215 then (if pc = 214 then some (.iadd, 1) else none) else (if pc = 215 then some (.iaload, 1) else none)) else (if pc < 219 then (if pc = 216 then some (.invokevirtual 22, 3) else none) else (if pc = 219 then some (.if_icmp .eq 640, 3) else none))) else (if pc < 224 then (if pc < 223 then (if pc = 222 then some (.iconst 0, 1) else none) else (if pc = 223 then some (.ireturn, 1) else none)) else (if pc < 225 then (if pc = 224 then some (.aload_n 1, 1) else none) else (if pc < 226 then (if pc = 225 then some (.aload_n 0, 1) else none) else (if pc = 226 then some (.iload_n 3, 1) else none)))))) else (if pc < 238 then (if pc < 233 then (if pc < 229 then (if pc < 228 then (if pc = 227 then some (.iconst 1, 1) else none) else (if pc = 228 then some (.iadd, 1) else none)) else (if pc < 230 then (if pc = 229 then some (.iaload, 1) else none) else (if pc = 230 then some (.invokevirtual 23, 3) else none))) else (if pc < 235 then (if pc < 234 then (if pc = 233 then some (.aload_n 2, 1) else none) else (if pc = 234 then some (.aload_n 0, 1) else none)) else (if pc < 236 then (if pc = 235 then some (.iload_n 3, 1) else none) else (if pc < 237 then (if pc = 236 then some (.iconst 1, 1) else none) else (if pc = 237 then some (.iadd, 1) else none))))) else (if pc < 246 then (if pc < 242 then (if pc < 239 then (if pc = 238 then some (.iaload, 1) else none) else (if pc = 239 then some (.invokevirtual 27, 3) else none)) else (if pc < 245 then (if pc = 242 then some (.if_icmp .eq 617, 3) else none) else (if pc = 245 then some (.iconst 0, 1) else none))) else (if pc < 248 then (if pc < 247 then (if pc = 246 then some (.ireturn, 1) else none) else (if pc = 247 then some (.aload_n 1, 1) else none)) else (if pc < 249 then (if pc = 248 then some (.aload_n 0, 1) else none) else (if pc < 250 then (if pc = 249 then some (.iload_n 3, 1) else none) else (if pc = 250 then some (.iconst 1, 1) else none))))))) else (if pc < 271 then (if pc < 262 then (if pc < 255 then (if pc < 253 then (if pc < 252 then (if pc = 251 then some (.iadd, 1) else none) else (if pc = 252 then some (.iaload, 1) else none)) else (if pc < 254 then (if pc = 253 then some (.aload_n 0, 1) else none) else (if pc = 254 then some (.iload_n 3, 1) else none))) else (if pc < 257 then (if pc < 256 then (if pc = 255 then some (.iconst 2, 1) else none) else (if pc = 256 then some (.iadd, 1) else none)) else (if pc < 258 then (if pc = 257 then some (.iaload, 1) else none) else (if pc < 261 then (if pc = 258 then some (.invokevirtual 28, 3) else none) else (if pc = 261 then some (.aload_n 2, 1) else none))))) else (if pc < 266 then (if pc < 264 then (if pc < 263 then (if pc = 262 then some (.aload_n 0, 1) else none) else (if pc = 263 then some (.iload_n 3, 1) else none)) else (if pc < 265 then (if pc = 264 then some (.iconst 1, 1) else none) else (if pc = 265 then some (.iadd, 1) else none))) else (if pc < 268 then (if pc < 267 then (if pc = 266 then some (.iaload, 1) else none) else (if pc = 267 then some (.aload_n 0, 1) else none)) else (if pc < 269 then (if pc = 268 then some (.iload_n 3, 1) else none) else (if pc < 270 then (if pc = 269 then some (.iconst 2, 1) else none) else (if pc = 270 then some (.iadd, 1) else none)))))) else (if pc < 284 then (if pc < 279 then (if pc < 275 then (if pc < 272 then (if pc = 271 then some (.iaload, 1) else none) else (if pc = 272 then some (.invokevirtual 31, 3) else none)) else (if pc < 278 then (if pc = 275 then some (.if_icmp .eq 584, 3) else none) else (if pc = 278 then some (.iconst 0, 1) else none))) else (if pc < 281 then (if pc < 280 then (if pc = 279 then some (.ireturn, 1) else none) else (if pc = 280 then some (.aload_n 1, 1) else none)) else (if pc < 282 then (if pc = 281 then some (.aload_n 0, 1) else none) else (if pc < 283 then (if pc = 282 then some (.iload_n 3, 1) else none) else (if pc = 283 then some (.iconst 1, 1) else none))))) else (if pc < 290 then (if pc < 286 then (if pc < 285 then (if pc = 284 then some (.iadd, 1) else none) else (if pc = 285 then some (.iaload, 1) else none)) else (if pc < 289 then (if pc = 286 then some (.invokevirtual 32, 3) else none) else (if pc = 289 then some (.aload_n 2, 1) else none))) else (if pc < 292 then (if pc < 291 then (if pc = 290 then some (.aload_n 0, 1) else none) else (if pc = 291 then some (.iload_n 3, 1) else none)) else (if pc < 293 then (if pc = 292 then some (.iconst 1, 1) else none) else (if pc < 294 then (if pc = 293 then some (.iadd, 1) else none) else (if pc = 294 then some (.iaload, 1) else none))))))))) else (if pc < 394 then (if pc < 344 then (if pc < 318 then (if pc < 307 then (if pc < 303 then (if pc < 301 then (if pc < 298 then (if pc = 295 then some (.invokevirtual 35, 3) else none) else (if pc = 298 then some (.if_icmp .eq 561, 3) else none)) else (if pc < 302 then (if pc = 301 then some (.iconst 0, 1) else none) else (if pc = 302 then some (.ireturn, 1) else none))) else (if pc < 305 then (if pc < 304 then (if pc = 303 then some (.aload_n 1, 1) else none) else (if pc = 304 then some (.aload_n 0, 1) else none)) else (if pc < 306 then (if pc = 305 then some (.iload_n 3, 1) else none) else (if pc = 306 then some (.iconst 1, 1) else none)))) else (if pc < 313 then (if pc < 309 then (if pc < 308 then (if pc = 307 then some (.iadd, 1) else none) else (if pc = 308 then some (.iaload, 1) else none)) else (if pc < 312 then (if pc = 309 then some (.invokevirtual 36, 3) else none) else (if pc = 312 then some (.aload_n 2, 1) else none))) else (if pc < 315 then (if pc < 314 then (if pc = 313 then some (.aload_n 0, 1) else none) else (if pc = 314 then some (.iload_n 3, 1) else none)) else (if pc < 316 then (if pc = 315 then some (.iconst 1, 1) else none) else (if pc < 317 then (if pc = 316 then some (.iadd, 1) else none) else (if pc = 317 then some (.iaload, 1) else none)))))) else (if pc < 331 then (if pc < 326 then (if pc < 324 then (if pc < 321 then (if pc = 318 then some (.invokevirtual 39, 3) else none) else (if pc = 321 then some (.if_icmp .eq 538, 3) else none)) else (if pc < 325 then (if pc = 324 then some (.iconst 0, 1) else none) else (if pc = 325 then some (.ireturn, 1) else none))) else (if pc < 328 then (if pc < 327 then (if pc = 326 then some (.aload_n 1, 1) else none) else (if pc = 327 then some (.aload_n 0, 1) else none)) else (if pc < 329 then (if pc = 328 then some (.iload_n 3, 1) else none) else (if pc < 330 then (if pc = 329 then some (.iconst 1, 1) else none) else (if pc = 330 then some (.iadd, 1) else none))))) else (if pc < 337 then (if pc < 335 then (if pc < 332 then (if pc = 331 then some (.iaload, 1) else none) else (if pc = 332 then some (.invokevirtual 40, 3) else none)) else (if pc < 336 then (if pc = 335 then some (.aload_n 2, 1) else none) else (if pc = 336 then some (.aload_n 0, 1) else none))) else (if pc < 339 then (if pc < 338 then (if pc = 337 then some (.iload_n 3, 1) else none) else (if pc = 338 then some (.iconst 1, 1) else none)) else (if pc < 340 then (if pc = 339 then some (.iadd, 1) else none) else (if pc < 341 then (if pc = 340 then some (.iaload, 1) else none) else (if pc = 341 then some (.invokevirtual 43, 3) else none))))))) else (if pc < 370 then (if pc < 355 then (if pc < 350 then (if pc < 348 then (if pc < 347 then (if pc = 344 then some (.if_icmp .eq 515, 3) else none) else (if pc = 347 then some (.iconst 0, 1) else none)) else (if pc < 349 then (if pc = 348 then some (.ireturn, 1) else none) else (if pc = 349 then some (.aload_n 1, 1) else none))) else (if pc < 352 then (if pc < 351 then (if pc = 350 then some (.aload_n 0, 1) else none) else (if pc = 351 then some (.iload_n 3, 1) else none)) else (if pc < 353 then (if pc = 352 then some (.iconst 1, 1) else none) else (if pc < 354 then (if pc = 353 then some (.iadd, 1) else none) else (if pc = 354 then some (.iaload, 1) else none))))) else (if pc < 361 then (if pc < 359 then (if pc < 358 then (if pc = 355 then some (.invokevirtual 44, 3) else none) else (if pc = 358 then some (.aload_n 2, 1) else none)) else (if pc < 360 then (if pc = 359 then some (.aload_n 0, 1) else none) else (if pc = 360 then some (.iload_n 3, 1) else none))) else (if pc < 363 then (if pc < 362 then (if pc = 361 then some (.iconst 1, 1) else none) else (if pc = 362 then some (.iadd, 1) else none)) else (if pc < 364 then (if pc = 363 then some (.iaload, 1) else none) else (if pc < 367 then (if pc = 364 then some (.invokevirtual 47, 3) else none) else (if pc = 367 then some (.if_icmp .eq 492, 3) else none)))))) else (if pc < 381 then (if pc < 374 then (if pc < 372 then (if pc < 371 then (if pc = 370 then some (.iconst 0, 1) else none) else (if pc = 371 then some (.ireturn, 1) else none)) else (if pc < 373 then (if pc = 372 then some (.aload_n 1, 1) else none) else (if pc = 373 then some (.aload_n 0, 1) else none))) else (if pc < 376 then (if pc < 375 then (if pc = 374 then some (.iload_n 3, 1) else none) else (if pc = 375 then some (.iconst 1, 1) else none)) else (if pc < 377 then (if pc = 376 then some (.iadd, 1) else none) else (if pc < 378 then (if pc = 377 then some (.iaload, 1) else none) else (if pc = 378 then some (.invokevirtual 48, 3) else none))))) else (if pc < 385 then (if pc < 383 then (if pc < 382 then (if pc = 381 then some (.aload_n 2, 1) else none) else (if pc = 382 then some (.aload_n 0, 1) else none)) else (if pc < 384 then (if pc = 383 then some (.iload_n 3, 1) else none) else (if pc = 384 then some (.iconst 1, 1) else none))) else (if pc < 387 then (if pc < 386 then (if pc = 385 then some (.iadd, 1) else none) else (if pc = 386 then some (.iaload, 1) else none)) else (if pc < 390 then (if pc = 387 then some (.invokevirtual 51, 3) else none) else (if pc < 393 then (if pc = 390 then some (.if_icmp .eq 469, 3) else none) else (if pc = 393 then some (.iconst 0, 1) else none)))))))) else (if pc < 436 then (if pc < 414 then (if pc < 403 then (if pc < 398 then (if pc < 396 then (if pc < 395 then (if pc = 394 then some (.ireturn, 1) else none) else (if pc = 395 then some (.aload_n 1, 1) else none)) else (if pc < 397 then (if pc = 396 then some (.aload_n 0, 1) else none) else (if pc = 397 then some (.iload_n 3, 1) else none))) else (if pc < 400 then (if pc < 399 then (if pc = 398 then some (.iconst 1, 1) else none) else (if pc = 399 then some (.iadd, 1) else none)) else (if pc < 401 then (if pc = 400 then some (.iaload, 1) else none) else (if pc < 402 then (if pc = 401 then some (.aload_n 0, 1) else none) else (if pc = 402 then some (.iload_n 3, 1) else none))))) else (if pc < 407 then (if pc < 405 then (if pc < 404 then (if pc = 403 then some (.iconst 2, 1) else none) else (if pc = 404 then some (.iadd, 1) else none)) else (if pc < 406 then (if pc = 405 then some (.iaload, 1) else none) else (if pc = 406 then some (.aload_n 0, 1) else none))) else (if pc < 409 then (if pc < 408 then (if pc = 407 then some (.iload_n 3, 1) else none) else (if pc = 408 then some (.iconst 3, 1) else none)) else (if pc < 410 then (if pc = 409 then some (.iadd, 1) else none) else (if pc < 411 then (if pc = 410 then some (.iaload, 1) else none) else (if pc = 411 then some (.ifCond .eq 7, 3) else none)))))) else (if pc < 427 then (if pc < 422 then (if pc < 418 then (if pc < 415 then (if pc = 414 then some (.iconst 1, 1) else none) else (if pc = 415 then some (.goto 4, 3) else none)) else (if pc < 419 then (if pc = 418 then some (.iconst 0, 1) else none) else (if pc = 419 then some (.invokevirtual 52, 3) else none))) else (if pc < 424 then (if pc < 423 then (if pc = 422 then some (.aload_n 2, 1) else none) else (if pc = 423 then some (.aload_n 0, 1) else none)) else (if pc < 425 then (if pc = 424 then some (.iload_n 3, 1) else none) else (if pc < 426 then (if pc = 425 then some (.iconst 1, 1) else none) else (if pc = 426 then some (.iadd, 1) else none))))) else (if pc < 431 then (if pc < 429 then (if pc < 428 then (if pc = 427 then some (.iaload, 1) else none) else (if pc = 428 then some (.aload_n 0, 1) else none)) else (if pc < 430 then (if pc = 429 then some (.iload_n 3, 1) else none) else (if pc = 430 then some (.iconst 2, 1) else none))) else (if pc < 433 then (if pc < 432 then (if pc = 431 then some (.iadd, 1) else none) else (if pc = 432 then some (.iaload, 1) else none)) else (if pc < 434 then (if pc = 433 then some (.aload_n 0, 1) else none) else (if pc < 435 then (if pc = 434 then some (.iload_n 3, 1) else none) else (if pc = 435 then some (.iconst 3, 1) else none))))))) else (if pc < 464 then (if pc < 453 then (if pc < 442 then (if pc < 438 then (if pc < 437 then (if pc = 436 then some (.iadd, 1) else none) else (if pc = 437 then some (.iaload, 1) else none)) else (if pc < 441 then (if pc = 438 then some (.ifCond .eq 7, 3) else none) else (if pc = 441 then some (.iconst 1, 1) else none))) else (if pc < 446 then (if pc < 445 then (if pc = 442 then some (.goto 4, 3) else none) else (if pc = 445 then some (.iconst 0, 1) else none)) else (if pc < 449 then (if pc = 446 then some (.invokevirtual 56, 3) else none) else (if pc < 452 then (if pc = 449 then some (.if_icmp .eq 410, 3) else none) else (if pc = 452 then some (.iconst 0, 1) else none))))) else (if pc < 457 then (if pc < 455 then (if pc < 454 then (if pc = 453 then some (.ireturn, 1) else none) else (if pc = 454 then some (.aload_n 1, 1) else none)) else (if pc < 456 then (if pc = 455 then some (.aload_n 0, 1) else none) else (if pc = 456 then some (.iload_n 3, 1) else none))) else (if pc < 459 then (if pc < 458 then (if pc = 457 then some (.iconst 1, 1) else none) else (if pc = 458 then some (.iadd, 1) else none)) else (if pc < 460 then (if pc = 459 then some (.iaload, 1) else none) else (if pc < 463 then (if pc = 460 then some (.invokevirtual 57, 3) else none) else (if pc = 463 then some (.aload_n 2, 1) else none)))))) else (if pc < 477 then (if pc < 468 then (if pc < 466 then (if pc < 465 then (if pc = 464 then some (.aload_n 0, 1) else none) else (if pc = 465 then some (.iload_n 3, 1) else none)) else (if pc < 467 then (if pc = 466 then some (.iconst 1, 1) else none) else (if pc = 467 then some (.iadd, 1) else none))) else (if pc < 472 then (if pc < 469 then (if pc = 468 then some (.iaload, 1) else none) else (if pc = 469 then some (.invokevirtual 60, 3) else none)) else (if pc < 475 then (if pc = 472 then some (.if_icmp .eq 387, 3) else none) else (if pc < 476 then (if pc = 475 then some (.iconst 0, 1) else none) else (if pc = 476 then some (.ireturn, 1) else none))))) else (if pc < 485 then (if pc < 481 then (if pc < 478 then (if pc = 477 then some (.aload_n 1, 1) else none) else (if pc = 478 then some (.invokevirtual 61, 3) else none)) else (if pc < 482 then (if pc = 481 then some (.aload_n 2, 1) else none) else (if pc = 482 then some (.invokevirtual 65, 3) else none))) else (if pc < 489 then (if pc < 488 then (if pc = 485 then some (.if_icmp .eq 374, 3) else none) else (if pc = 488 then some (.iconst 0, 1) else none)) else (if pc < 490 then (if pc = 489 then some (.ireturn, 1) else none) else (if pc < 491 then (if pc = 490 then some (.aload_n 1, 1) else none) else (if pc = 491 then some (.aload_n 0, 1) else none)))))))))) else (if pc < 667 then (if pc < 577 then (if pc < 533 then (if pc < 511 then (if pc < 500 then (if pc < 496 then (if pc < 494 then (if pc < 493 then (if pc = 492 then some (.iload_n 3, 1) else none) else (if pc = 493 then some (.iconst 1, 1) else none)) else (if pc < 495 then (if pc = 494 then some (.iadd, 1) else none) else (if pc = 495 then some (.iaload, 1) else none))) else (if pc < 498 then (if pc < 497 then (if pc = 496 then some (.aload_n 0, 1) else none) else (if pc = 497 then some (.iload_n 3, 1) else none)) else (if pc < 499 then (if pc = 498 then some (.iconst 2, 1) else none) else (if pc = 499 then some (.iadd, 1) else none)))) else (if pc < 506 then (if pc < 504 then (if pc < 501 then (if pc = 500 then some (.iaload, 1) else none) else (if pc = 501 then some (.invokevirtual 66, 3) else none)) else (if pc < 505 then (if pc = 504 then some (.aload_n 2, 1) else none) else (if pc = 505 then some (.aload_n 0, 1) else none))) else (if pc < 508 then (if pc < 507 then (if pc = 506 then some (.iload_n 3, 1) else none) else (if pc = 507 then some (.iconst 1, 1) else none)) else (if pc < 509 then (if pc = 508 then some (.iadd, 1) else none) else (if pc < 510 then (if pc = 509 then some (.iaload, 1) else none) else (if pc = 510 then some (.aload_n 0, 1) else none)))))) else (if pc < 524 then (if pc < 515 then (if pc < 513 then (if pc < 512 then (if pc = 511 then some (.iload_n 3, 1) else none) else (if pc = 512 then some (.iconst 2, 1) else none)) else (if pc < 514 then (if pc = 513 then some (.iadd, 1) else none) else (if pc = 514 then some (.iaload, 1) else none))) else (if pc < 521 then (if pc < 518 then (if pc = 515 then some (.invokevirtual 69, 3) else none) else (if pc = 518 then some (.if_icmp .eq 341, 3) else none)) else (if pc < 522 then (if pc = 521 then some (.iconst 0, 1) else none) else (if pc < 523 then (if pc = 522 then some (.ireturn, 1) else none) else (if pc = 523 then some (.aload_n 1, 1) else none))))) else (if pc < 528 then (if pc < 526 then (if pc < 525 then (if pc = 524 then some (.aload_n 0, 1) else none) else (if pc = 525 then some (.iload_n 3, 1) else none)) else (if pc < 527 then (if pc = 526 then some (.iconst 1, 1) else none) else (if pc = 527 then some (.iadd, 1) else none))) else (if pc < 530 then (if pc < 529 then (if pc = 528 then some (.iaload, 1) else none) else (if pc = 529 then some (.aload_n 0, 1) else none)) else (if pc < 531 then (if pc = 530 then some (.iload_n 3, 1) else none) else (if pc < 532 then (if pc = 531 then some (.iconst 2, 1) else none) else (if pc = 532 then some (.iadd, 1) else none))))))) else (if pc < 557 then (if pc < 544 then (if pc < 539 then (if pc < 537 then (if pc < 534 then (if pc = 533 then some (.iaload, 1) else none) else (if pc = 534 then some (.invokevirtual 70, 3) else none)) else (if pc < 538 then (if pc = 537 then some (.aload_n 2, 1) else none) else (if pc = 538 then some (.aload_n 0, 1) else none))) else (if pc < 541 then (if pc < 540 then (if pc = 539 then some (.iload_n 3, 1) else none) else (if pc = 540 then some (.iconst 1, 1) else none)) else (if pc < 542 then (if pc = 541 then some (.iadd, 1) else none) else (if pc < 543 then (if pc = 542 then some (.iaload, 1) else none) else (if pc = 543 then some (.aload_n 0, 1) else none))))) else (if pc < 548 then (if pc < 546 then (if pc < 545 then (if pc = 544 then some (.iload_n 3, 1) else none) else (if pc = 545 then some (.iconst 2, 1) else none)) else (if pc < 547 then (if pc = 546 then some (.iadd, 1) else none) else (if pc = 547 then some (.iaload, 1) else none))) else (if pc < 554 then (if pc < 551 then (if pc = 548 then some (.invokevirtual 73, 3) else none) else (if pc = 551 then some (.if_icmp .eq 308, 3) else none)) else (if pc < 555 then (if pc = 554 then some (.iconst 0, 1) else none) else (if pc < 556 then (if pc = 555 then some (.ireturn, 1) else none) else (if pc = 556 then some (.aload_n 1, 1) else none)))))) else (if pc < 566 then (if pc < 561 then (if pc < 559 then (if pc < 558 then (if pc = 557 then some (.aload_n 0, 1) else none) else (if pc = 558 then some (.iload_n 3, 1) else none)) else (if pc < 560 then (if pc = 559 then some (.iconst 1, 1) else none) else (if pc = 560 then some (.iadd, 1) else none))) else (if pc < 563 then (if pc < 562 then (if pc = 561 then some (.iaload, 1) else none) else (if pc = 562 then some (.aload_n 0, 1) else none)) else (if pc < 564 then (if pc = 563 then some (.iload_n 3, 1) else none) else (if pc < 565 then (if pc = 564 then some (.iconst 2, 1) else none) else (if pc = 565 then some (.iadd, 1) else none))))) else (if pc < 570 then (if pc < 568 then (if pc < 567 then (if pc = 566 then some (.iaload, 1) else none) else (if pc = 567 then some (.aload_n 0, 1) else none)) else (if pc < 569 then (if pc = 568 then some (.iload_n 3, 1) else none) else (if pc = 569 then some (.iconst 3, 1) else none))) else (if pc < 572 then (if pc < 571 then (if pc = 570 then some (.iadd, 1) else none) else (if pc = 571 then some (.iaload, 1) else none)) else (if pc < 575 then (if pc = 572 then some (.invokevirtual 74, 3) else none) else (if pc < 576 then (if pc = 575 then some (.aload_n 2, 1) else none) else (if pc = 576 then some (.aload_n 0, 1) else none)))))))) else (if pc < 623 then (if pc < 599 then (if pc < 586 then (if pc < 581 then (if pc < 579 then (if pc < 578 then (if pc = 577 then some (.iload_n 3, 1) else none) else (if pc = 578 then some (.iconst 1, 1) else none)) else (if pc < 580 then (if pc = 579 then some (.iadd, 1) else none) else (if pc = 580 then some (.iaload, 1) else none))) else (if pc < 583 then (if pc < 582 then (if pc = 581 then some (.aload_n 0, 1) else none) else (if pc = 582 then some (.iload_n 3, 1) else none)) else (if pc < 584 then (if pc = 583 then some (.iconst 2, 1) else none) else (if pc < 585 then (if pc = 584 then some (.iadd, 1) else none) else (if pc = 585 then some (.iaload, 1) else none))))) else (if pc < 590 then (if pc < 588 then (if pc < 587 then (if pc = 586 then some (.aload_n 0, 1) else none) else (if pc = 587 then some (.iload_n 3, 1) else none)) else (if pc < 589 then (if pc = 588 then some (.iconst 3, 1) else none) else (if pc = 589 then some (.iadd, 1) else none))) else (if pc < 594 then (if pc < 591 then (if pc = 590 then some (.iaload, 1) else none) else (if pc = 591 then some (.invokevirtual 77, 3) else none)) else (if pc < 597 then (if pc = 594 then some (.if_icmp .eq 265, 3) else none) else (if pc < 598 then (if pc = 597 then some (.iconst 0, 1) else none) else (if pc = 598 then some (.ireturn, 1) else none)))))) else (if pc < 610 then (if pc < 603 then (if pc < 601 then (if pc < 600 then (if pc = 599 then some (.aload_n 1, 1) else none) else (if pc = 600 then some (.aload_n 0, 1) else none)) else (if pc < 602 then (if pc = 601 then some (.iload_n 3, 1) else none) else (if pc = 602 then some (.iconst 1, 1) else none))) else (if pc < 605 then (if pc < 604 then (if pc = 603 then some (.iadd, 1) else none) else (if pc = 604 then some (.iaload, 1) else none)) else (if pc < 608 then (if pc = 605 then some (.invokevirtual 78, 3) else none) else (if pc < 609 then (if pc = 608 then some (.aload_n 2, 1) else none) else (if pc = 609 then some (.aload_n 0, 1) else none))))) else (if pc < 614 then (if pc < 612 then (if pc < 611 then (if pc = 610 then some (.iload_n 3, 1) else none) else (if pc = 611 then some (.iconst 1, 1) else none)) else (if pc < 613 then (if pc = 612 then some (.iadd, 1) else none) else (if pc = 613 then some (.iaload, 1) else none))) else (if pc < 620 then (if pc < 617 then (if pc = 614 then some (.invokevirtual 81, 3) else none) else (if pc = 617 then some (.if_icmp .eq 242, 3) else none)) else (if pc < 621 then (if pc = 620 then some (.iconst 0, 1) else none) else (if pc < 622 then (if pc = 621 then some (.ireturn, 1) else none) else (if pc = 622 then some (.aload_n 1, 1) else none))))))) else (if pc < 647 then (if pc < 634 then (if pc < 627 then (if pc < 625 then (if pc < 624 then (if pc = 623 then some (.aload_n 0, 1) else none) else (if pc = 624 then some (.iload_n 3, 1) else none)) else (if pc < 626 then (if pc = 625 then some (.iconst 1, 1) else none) else (if pc = 626 then some (.iadd, 1) else none))) else (if pc < 631 then (if pc < 628 then (if pc = 627 then some (.iaload, 1) else none) else (if pc = 628 then some (.invokevirtual 82, 3) else none)) else (if pc < 632 then (if pc = 631 then some (.aload_n 2, 1) else none) else (if pc < 633 then (if pc = 632 then some (.aload_n 0, 1) else none) else (if pc = 633 then some (.iload_n 3, 1) else none))))) else (if pc < 640 then (if pc < 636 then (if pc < 635 then (if pc = 634 then some (.iconst 1, 1) else none) else (if pc = 635 then some (.iadd, 1) else none)) else (if pc < 637 then (if pc = 636 then some (.iaload, 1) else none) else (if pc = 637 then some (.invokevirtual 85, 3) else none))) else (if pc < 644 then (if pc < 643 then (if pc = 640 then some (.if_icmp .eq 219, 3) else none) else (if pc = 643 then some (.iconst 0, 1) else none)) else (if pc < 645 then (if pc = 644 then some (.ireturn, 1) else none) else (if pc < 646 then (if pc = 645 then some (.aload_n 1, 1) else none) else (if pc = 646 then some (.aload_n 0, 1) else none)))))) else (if pc < 656 then (if pc < 651 then (if pc < 649 then (if pc < 648 then (if pc = 647 then some (.iload_n 3, 1) else none) else (if pc = 648 then some (.iconst 1, 1) else none)) else (if pc < 650 then (if pc = 649 then some (.iadd, 1) else none) else (if pc = 650 then some (.iaload, 1) else none))) else (if pc < 653 then (if pc < 652 then (if pc = 651 then some (.aload_n 0, 1) else none) else (if pc = 652 then some (.iload_n 3, 1) else none)) else (if pc < 654 then (if pc = 653 then some (.iconst 2, 1) else none) else (if pc < 655 then (if pc = 654 then some (.iadd, 1) else none) else (if pc = 655 then some (.iaload, 1) else none))))) else (if pc < 660 then (if pc < 658 then (if pc < 657 then (if pc = 656 then some (.aload_n 0, 1) else none) else (if pc = 657 then some (.iload_n 3, 1) else none)) else (if pc < 659 then (if pc = 658 then some (.iconst 3, 1) else none) else (if pc = 659 then some (.iadd, 1) else none))) else (if pc < 664 then (if pc < 661 then (if pc = 660 then some (.iaload, 1) else none) else (if pc = 661 then some (.invokevirtual 86, 3) else none)) else (if pc < 665 then (if pc = 664 then some (.aload_n 2, 1) else none) else (if pc < 666 then (if pc = 665 then some (.aload_n 0, 1) else none) else (if pc = 666 then some (.iload_n 3, 1) else none))))))))) else (if pc < 755 then (if pc < 709 then (if pc < 689 then (if pc < 676 then (if pc < 671 then (if pc < 669 then (if pc < 668 then (if pc = 667 then some (.iconst 1, 1) else none) else (if pc = 668 then some (.iadd, 1) else none)) else (if pc < 670 then (if pc = 669 then some (.iaload, 1) else none) else (if pc = 670 then some (.aload_n 0, 1) else none))) else (if pc < 673 then (if pc < 672 then (if pc = 671 then some (.iload_n 3, 1) else none) else (if pc = 672 then some (.iconst 2, 1) else none)) else (if pc < 674 then (if pc = 673 then some (.iadd, 1) else none) else (if pc < 675 then (if pc = 674 then some (.iaload, 1) else none) else (if pc = 675 then some (.aload_n 0, 1) else none))))) else (if pc < 680 then (if pc < 678 then (if pc < 677 then (if pc = 676 then some (.iload_n 3, 1) else none) else (if pc = 677 then some (.iconst 3, 1) else none)) else (if pc < 679 then (if pc = 678 then some (.iadd, 1) else none) else (if pc = 679 then some (.iaload, 1) else none))) else (if pc < 686 then (if pc < 683 then (if pc = 680 then some (.invokevirtual 89, 3) else none) else (if pc = 683 then some (.if_icmp .eq 176, 3) else none)) else (if pc < 687 then (if pc = 686 then some (.iconst 0, 1) else none) else (if pc < 688 then (if pc = 687 then some (.ireturn, 1) else none) else (if pc = 688 then some (.aload_n 1, 1) else none)))))) else (if pc < 698 then (if pc < 693 then (if pc < 691 then (if pc < 690 then (if pc = 689 then some (.aload_n 0, 1) else none) else (if pc = 690 then some (.iload_n 3, 1) else none)) else (if pc < 692 then (if pc = 691 then some (.iconst 1, 1) else none) else (if pc = 692 then some (.iadd, 1) else none))) else (if pc < 695 then (if pc < 694 then (if pc = 693 then some (.iaload, 1) else none) else (if pc = 694 then some (.aload_n 0, 1) else none)) else (if pc < 696 then (if pc = 695 then some (.iload_n 3, 1) else none) else (if pc < 697 then (if pc = 696 then some (.iconst 2, 1) else none) else (if pc = 697 then some (.iadd, 1) else none))))) else (if pc < 704 then (if pc < 702 then (if pc < 699 then (if pc = 698 then some (.iaload, 1) else none) else (if pc = 699 then some (.invokevirtual 90, 3) else none)) else (if pc < 703 then (if pc = 702 then some (.aload_n 2, 1) else none) else (if pc = 703 then some (.aload_n 0, 1) else none))) else (if pc < 706 then (if pc < 705 then (if pc = 704 then some (.iload_n 3, 1) else none) else (if pc = 705 then some (.iconst 1, 1) else none)) else (if pc < 707 then (if pc = 706 then some (.iadd, 1) else none) else (if pc < 708 then (if pc = 707 then some (.iaload, 1) else none) else (if pc = 708 then some (.aload_n 0, 1) else none))))))) else (if pc < 732 then (if pc < 722 then (if pc < 713 then (if pc < 711 then (if pc < 710 then (if pc = 709 then some (.iload_n 3, 1) else none) else (if pc = 710 then some (.iconst 2, 1) else none)) else (if pc < 712 then (if pc = 711 then some (.iadd, 1) else none) else (if pc = 712 then some (.iaload, 1) else none))) else (if pc < 719 then (if pc < 716 then (if pc = 713 then some (.invokevirtual 93, 3) else none) else (if pc = 716 then some (.if_icmp .eq 143, 3) else none)) else (if pc < 720 then (if pc = 719 then some (.iconst 0, 1) else none) else (if pc < 721 then (if pc = 720 then some (.ireturn, 1) else none) else (if pc = 721 then some (.aload_n 1, 1) else none))))) else (if pc < 726 then (if pc < 724 then (if pc < 723 then (if pc = 722 then some (.aload_n 0, 1) else none) else (if pc = 723 then some (.iload_n 3, 1) else none)) else (if pc < 725 then (if pc = 724 then some (.iconst 1, 1) else none) else (if pc = 725 then some (.iadd, 1) else none))) else (if pc < 728 then (if pc < 727 then (if pc = 726 then some (.iaload, 1) else none) else (if pc = 727 then some (.i2l, 1) else none)) else (if pc < 730 then (if pc = 728 then some (.bipush 32, 2) else none) else (if pc < 731 then (if pc = 730 then some (.lshl, 1) else none) else (if pc = 731 then some (.aload_n 0, 1) else none)))))) else (if pc < 745 then (if pc < 736 then (if pc < 734 then (if pc < 733 then (if pc = 732 then some (.iload_n 3, 1) else none) else (if pc = 733 then some (.iconst 2, 1) else none)) else (if pc < 735 then (if pc = 734 then some (.iadd, 1) else none) else (if pc = 735 then some (.iaload, 1) else none))) else (if pc < 740 then (if pc < 737 then (if pc = 736 then some (.i2l, 1) else none) else (if pc = 737 then some (.ldc2_w 94, 3) else none)) else (if pc < 741 then (if pc = 740 then some (.land, 1) else none) else (if pc < 742 then (if pc = 741 then some (.lor, 1) else none) else (if pc = 742 then some (.invokevirtual 96, 3) else none))))) else (if pc < 749 then (if pc < 747 then (if pc < 746 then (if pc = 745 then some (.aload_n 2, 1) else none) else (if pc = 746 then some (.aload_n 0, 1) else none)) else (if pc < 748 then (if pc = 747 then some (.iload_n 3, 1) else none) else (if pc = 748 then some (.iconst 1, 1) else none))) else (if pc < 751 then (if pc < 750 then (if pc = 749 then some (.iadd, 1) else none) else (if pc = 750 then some (.iaload, 1) else none)) else (if pc < 752 then (if pc = 751 then some (.i2l, 1) else none) else (if pc < 754 then (if pc = 752 then some (.bipush 32, 2) else none) else (if pc = 754 then some (.lshl, 1) else none)))))))) else (if pc < 815 then (if pc < 785 then (if pc < 766 then (if pc < 759 then (if pc < 757 then (if pc < 756 then (if pc = 755 then some (.aload_n 0, 1) else none) else (if pc = 756 then some (.iload_n 3, 1) else none)) else (if pc < 758 then (if pc = 757 then some (.iconst 2, 1) else none) else (if pc = 758 then some (.iadd, 1) else none))) else (if pc < 761 then (if pc < 760 then (if pc = 759 then some (.iaload, 1) else none) else (if pc = 760 then some (.i2l, 1) else none)) else (if pc < 764 then (if pc = 761 then some (.ldc2_w 94, 3) else none) else (if pc < 765 then (if pc = 764 then some (.land, 1) else none) else (if pc = 765 then some (.lor, 1) else none))))) else (if pc < 774 then (if pc < 772 then (if pc < 769 then (if pc = 766 then some (.invokevirtual 100, 3) else none) else (if pc = 769 then some (.if_icmp .eq 90, 3) else none)) else (if pc < 773 then (if pc = 772 then some (.iconst 0, 1) else none) else (if pc = 773 then some (.ireturn, 1) else none))) else (if pc < 778 then (if pc < 775 then (if pc = 774 then some (.aload_n 1, 1) else none) else (if pc = 775 then some (.invokevirtual 101, 3) else none)) else (if pc < 779 then (if pc = 778 then some (.aload_n 2, 1) else none) else (if pc < 782 then (if pc = 779 then some (.invokevirtual 104, 3) else none) else (if pc = 782 then some (.if_icmp .eq 77, 3) else none)))))) else (if pc < 800 then (if pc < 791 then (if pc < 787 then (if pc < 786 then (if pc = 785 then some (.iconst 0, 1) else none) else (if pc = 786 then some (.ireturn, 1) else none)) else (if pc < 788 then (if pc = 787 then some (.aload_n 1, 1) else none) else (if pc = 788 then some (.invokevirtual 105, 3) else none))) else (if pc < 795 then (if pc < 792 then (if pc = 791 then some (.aload_n 2, 1) else none) else (if pc = 792 then some (.invokevirtual 108, 3) else none)) else (if pc < 798 then (if pc = 795 then some (.if_icmp .eq 64, 3) else none) else (if pc < 799 then (if pc = 798 then some (.iconst 0, 1) else none) else (if pc = 799 then some (.ireturn, 1) else none))))) else (if pc < 808 then (if pc < 804 then (if pc < 801 then (if pc = 800 then some (.aload_n 1, 1) else none) else (if pc = 801 then some (.invokevirtual 109, 3) else none)) else (if pc < 805 then (if pc = 804 then some (.aload_n 2, 1) else none) else (if pc = 805 then some (.invokevirtual 112, 3) else none))) else (if pc < 812 then (if pc < 811 then (if pc = 808 then some (.if_icmp .eq 51, 3) else none) else (if pc = 811 then some (.iconst 0, 1) else none)) else (if pc < 813 then (if pc = 812 then some (.ireturn, 1) else none) else (if pc < 814 then (if pc = 813 then some (.aload_n 1, 1) else none) else (if pc = 814 then some (.aload_n 0, 1) else none))))))) else (if pc < 839 then (if pc < 826 then (if pc < 819 then (if pc < 817 then (if pc < 816 then (if pc = 815 then some (.iload_n 3, 1) else none) else (if pc = 816 then some (.iconst 1, 1) else none)) else (if pc < 818 then (if pc = 817 then some (.iadd, 1) else none) else (if pc = 818 then some (.iaload, 1) else none))) else (if pc < 823 then (if pc < 822 then (if pc = 819 then some (.invokevirtual 113, 3) else none) else (if pc = 822 then some (.aload_n 2, 1) else none)) else (if pc < 824 then (if pc = 823 then some (.aload_n 0, 1) else none) else (if pc < 825 then (if pc = 824 then some (.iload_n 3, 1) else none) else (if pc = 825 then some (.iconst 1, 1) else none))))) else (if pc < 834 then (if pc < 828 then (if pc < 827 then (if pc = 826 then some (.iadd, 1) else none) else (if pc = 827 then some (.iaload, 1) else none)) else (if pc < 831 then (if pc = 828 then some (.invokevirtual 116, 3) else none) else (if pc = 831 then some (.if_icmp .eq 28, 3) else none))) else (if pc < 836 then (if pc < 835 then (if pc = 834 then some (.iconst 0, 1) else none) else (if pc = 835 then some (.ireturn, 1) else none)) else (if pc < 837 then (if pc = 836 then some (.aload_n 1, 1) else none) else (if pc < 838 then (if pc = 837 then some (.aload_n 0, 1) else none) else (if pc = 838 then some (.iload_n 3, 1) else none)))))) else (if pc < 850 then (if pc < 845 then (if pc < 841 then (if pc < 840 then (if pc = 839 then some (.iconst 1, 1) else none) else (if pc = 840 then some (.iadd, 1) else none)) else (if pc < 842 then (if pc = 841 then some (.iaload, 1) else none) else (if pc = 842 then some (.invokevirtual 117, 3) else none))) else (if pc < 847 then (if pc < 846 then (if pc = 845 then some (.aload_n 2, 1) else none) else (if pc = 846 then some (.aload_n 0, 1) else none)) else (if pc < 848 then (if pc = 847 then some (.iload_n 3, 1) else none) else (if pc < 849 then (if pc = 848 then some (.iconst 1, 1) else none) else (if pc = 849 then some (.iadd, 1) else none))))) else (if pc < 858 then (if pc < 854 then (if pc < 851 then (if pc = 850 then some (.iaload, 1) else none) else (if pc = 851 then some (.invokevirtual 120, 3) else none)) else (if pc < 857 then (if pc = 854 then some (.if_icmp .eq 5, 3) else none) else (if pc = 857 then some (.iconst 0, 1) else none))) else (if pc < 862 then (if pc < 859 then (if pc = 858 then some (.ireturn, 1) else none) else (if pc = 859 then some (.iinc 3 4, 3) else none)) else (if pc < 865 then (if pc = 862 then some (.goto (-844), 3) else none) else (if pc < 866 then (if pc = 865 then some (.iconst 1, 1) else none) else (if pc = 866 then some (.ireturn, 1) else none))))))))))
set_option maxRecDepth 100000 in
theorem xo_0_c0 : ([0, 3, 4, 7, 8, 11, 12, 15] : List Nat).all (fun pc => match xo_0 pc with | none => true | some r => decide (decode cL_law pc = .ok r)) = true := by decide +kernel
set_option maxRecDepth 100000 in
theorem xo_0_c1 : ([16, 17, 18, 19, 20, 21, 22, 23] : List Nat).all (fun pc => match xo_0 pc with | none => true | some r => decide (decode cL_law pc = .ok r)) = true := by decide +kernel
set_option maxRecDepth 100000 in
theorem xo_0_c2 : ([26, 27, 28, 29, 31, 32, 148, 149] : List Nat).all (fun pc => match xo_0 pc with | none => true | some r => decide (decode cL_law pc = .ok r)) = true := by decide +kernel
set_option maxRecDepth 100000 in
theorem xo_0_c3 : ([150, 151, 152, 153, 154, 155, 156, 157] : List Nat).all (fun pc => match xo_0 pc with | none => true | some r => decide (decode cL_law pc = .ok r)) = true := by decide +kernel
set_option maxRecDepth 100000 in
theorem xo_0_c4 : ([158, 159, 162, 163, 164, 165, 166, 167] : List Nat).all (fun pc => match xo_0 pc with | none => true | some r => decide (decode cL_law pc = .ok r)) = true := by decide +kernel
set_option maxRecDepth 100000 in
theorem xo_0_c5 : ([168, 169, 170, 171, 172, 173, 176, 179] : List Nat).all (fun pc => match xo_0 pc with | none => true | some r => decide (decode cL_law pc = .ok r)) = true := by decide +kernel
set_option maxRecDepth 100000 in
theorem xo_0_c6 : ([180, 181, 182, 183, 184, 185, 186, 187] : List Nat).all (fun pc => match xo_0 pc with | none => true | some r => decide (decode cL_law pc = .ok r)) = true := by decide +kernel
set_option maxRecDepth 100000 in
theorem xo_0_c7 : ([188, 189, 190, 191, 192, 193, 194, 195] : List Nat).all (fun pc => match xo_0 pc with | none => true | some r => decide (decode cL_law pc = .ok r)) = true := by decide +kernel
set_option maxRecDepth 100000 in
theorem xo_0_c8 : ([196, 197, 200, 201, 202, 203, 204, 205] : List Nat).all (fun pc => match xo_0 pc with | none => true | some r => decide (decode cL_law pc = .ok r)) = true := by decide +kernel
set_option maxRecDepth 100000 in
theorem xo_0_c9 : ([206, 207, 208, 209, 210, 211, 212, 213] : List Nat).all (fun pc => match xo_0 pc with | none => true | some r => decide (decode cL_law pc = .ok r)) = true := by decide +kernel
set_option maxRecDepth 100000 in
theorem xo_0_c10 : ([214, 215, 216, 219, 222, 223, 224, 225] : List Nat).all (fun pc => match xo_0 pc with | none => true | some r => decide (decode cL_law pc = .ok r)) = true := by decide +kernel
set_option maxRecDepth 100000 in
theorem xo_0_c11 : ([226, 227, 228, 229, 230, 233, 234, 235] : List Nat).all (fun pc => match xo_0 pc with | none => true | some r => decide (decode cL_law pc = .ok r)) = true := by decide +kernel
set_option maxRecDepth 100000 in
theorem xo_0_c12 : ([236, 237, 238, 239, 242, 245, 246, 247] : List Nat).all (fun pc => match xo_0 pc with | none => true | some r => decide (decode cL_law pc = .ok r)) = true := by decide +kernel
set_option maxRecDepth 100000 in
theorem xo_0_c13 : ([248, 249, 250, 251, 252, 253, 254, 255] : List Nat).all (fun pc => match xo_0 pc with | none => true | some r => decide (decode cL_law pc = .ok r)) = true := by decide +kernel
set_option maxRecDepth 100000 in
theorem xo_0_c14 : ([256, 257, 258, 261, 262, 263, 264, 265] : List Nat).all (fun pc => match xo_0 pc with | none => true | some r => decide (decode cL_law pc = .ok r)) = true := by decide +kernel
set_option maxRecDepth 100000 in
theorem xo_0_c15 : ([266, 267, 268, 269, 270, 271, 272, 275] : List Nat).all (fun pc => match xo_0 pc with | none => true | some r => decide (decode cL_law pc = .ok r)) = true := by decide +kernel
set_option maxRecDepth 100000 in
theorem xo_0_c16 : ([278, 279, 280, 281, 282, 283, 284, 285] : List Nat).all (fun pc => match xo_0 pc with | none => true | some r => decide (decode cL_law pc = .ok r)) = true := by decide +kernel
set_option maxRecDepth 100000 in
theorem xo_0_c17 : ([286, 289, 290, 291, 292, 293, 294, 295] : List Nat).all (fun pc => match xo_0 pc with | none => true | some r => decide (decode cL_law pc = .ok r)) = true := by decide +kernel
set_option maxRecDepth 100000 in
theorem xo_0_c18 : ([298, 301, 302, 303, 304, 305, 306, 307] : List Nat).all (fun pc => match xo_0 pc with | none => true | some r => decide (decode cL_law pc = .ok r)) = true := by decide +kernel
set_option maxRecDepth 100000 in
theorem xo_0_c19 : ([308, 309, 312, 313, 314, 315, 316, 317] : List Nat).all (fun pc => match xo_0 pc with | none => true | some r => decide (decode cL_law pc = .ok r)) = true := by decide +kernel
set_option maxRecDepth 100000 in
theorem xo_0_c20 : ([318, 321, 324, 325, 326, 327, 328, 329] : List Nat).all (fun pc => match xo_0 pc with | none => true | some r => decide (decode cL_law pc = .ok r)) = true := by decide +kernel
set_option maxRecDepth 100000 in
theorem xo_0_c21 : ([330, 331, 332, 335, 336, 337, 338, 339] : List Nat).all (fun pc => match xo_0 pc with | none => true | some r => decide (decode cL_law pc = .ok r)) = true := by decide +kernel
set_option maxRecDepth 100000 in
theorem xo_0_c22 : ([340, 341, 344, 347, 348, 349, 350, 351] : List Nat).all (fun pc => match xo_0 pc with | none => true | some r => decide (decode cL_law pc = .ok r)) = true := by decide +kernel
set_option maxRecDepth 100000 in
theorem xo_0_c23 : ([352, 353, 354, 355, 358, 359, 360, 361] : List Nat).all (fun pc => match xo_0 pc with | none => true | some r => decide (decode cL_law pc = .ok r)) = true := by decide +kernel
set_option maxRecDepth 100000 in
theorem xo_0_c24 : ([362, 363, 364, 367, 370, 371, 372, 373] : List Nat).all (fun pc => match xo_0 pc with | none => true | some r => decide (decode cL_law pc = .ok r)) = true := by decide +kernel
set_option maxRecDepth 100000 in
theorem xo_0_c25 : ([374, 375, 376, 377, 378, 381, 382, 383] : List Nat).all (fun pc => match xo_0 pc with | none => true | some r => decide (decode cL_law pc = .ok r)) = true := by decide +kernel
set_option maxRecDepth 100000 in
theorem xo_0_c26 : ([384, 385, 386, 387, 390, 393, 394, 395] : List Nat).all (fun pc => match xo_0 pc with | none => true | some r => decide (decode cL_law pc = .ok r)) = true := by decide +kernel
set_option maxRecDepth 100000 in
theorem xo_0_c27 : ([396, 397, 398, 399, 400, 401, 402, 403] : List Nat).all (fun pc => match xo_0 pc with | none => true | some r => decide (decode cL_law pc = .ok r)) = true := by decide +kernel
set_option maxRecDepth 100000 in
theorem xo_0_c28 : ([404, 405, 406, 407, 408, 409, 410, 411] : List Nat).all (fun pc => match xo_0 pc with | none => true | some r => decide (decode cL_law pc = .ok r)) = true := by decide +kernel
set_option maxRecDepth 100000 in
theorem xo_0_c29 : ([414, 415, 418, 419, 422, 423, 424, 425] : List Nat).all (fun pc => match xo_0 pc with | none => true | some r => decide (decode cL_law pc = .ok r)) = true := by decide +kernel
set_option maxRecDepth 100000 in
theorem xo_0_c30 : ([426, 427, 428, 429, 430, 431, 432, 433] : List Nat).all (fun pc => match xo_0 pc with | none => true | some r => decide (decode cL_law pc = .ok r)) = true := by decide +kernel
set_option maxRecDepth 100000 in
theorem xo_0_c31 : ([434, 435, 436, 437, 438, 441, 442, 445] : List Nat).all (fun pc => match xo_0 pc with | none => true | some r => decide (decode cL_law pc = .ok r)) = true := by decide +kernel
set_option maxRecDepth 100000 in
theorem xo_0_c32 : ([446, 449, 452, 453, 454, 455, 456, 457] : List Nat).all (fun pc => match xo_0 pc with | none => true | some r => decide (decode cL_law pc = .ok r)) = true := by decide +kernel
set_option maxRecDepth 100000 in
theorem xo_0_c33 : ([458, 459, 460, 463, 464, 465, 466, 467] : List Nat).all (fun pc => match xo_0 pc with | none => true | some r => decide (decode cL_law pc = .ok r)) = true := by decide +kernel
set_option maxRecDepth 100000 in
theorem xo_0_c34 : ([468, 469, 472, 475, 476, 477, 478, 481] : List Nat).all (fun pc => match xo_0 pc with | none => true | some r => decide (decode cL_law pc = .ok r)) = true := by decide +kernel
set_option maxRecDepth 100000 in
theorem xo_0_c35 : ([482, 485, 488, 489, 490, 491, 492, 493] : List Nat).all (fun pc => match xo_0 pc with | none => true | some r => decide (decode cL_law pc = .ok r)) = true := by decide +kernel
set_option maxRecDepth 100000 in
theorem xo_0_c36 : ([494, 495, 496, 497, 498, 499, 500, 501] : List Nat).all (fun pc => match xo_0 pc with | none => true | some r => decide (decode cL_law pc = .ok r)) = true := by decide +kernel
set_option maxRecDepth 100000 in
theorem xo_0_c37 : ([504, 505, 506, 507, 508, 509, 510, 511] : List Nat).all (fun pc => match xo_0 pc with | none => true | some r => decide (decode cL_law pc = .ok r)) = true := by decide +kernel
set_option maxRecDepth 100000 in
theorem xo_0_c38 : ([512, 513, 514, 515, 518, 521, 522, 523] : List Nat).all (fun pc => match xo_0 pc with | none => true | some r => decide (decode cL_law pc = .ok r)) = true := by decide +kernel
set_option maxRecDepth 100000 in
theorem xo_0_c39 : ([524, 525, 526, 527, 528, 529, 530, 531] : List Nat).all (fun pc => match xo_0 pc with | none => true | some r => decide (decode cL_law pc = .ok r)) = true := by decide +kernel
set_option maxRecDepth 100000 in
theorem xo_0_c40 : ([532, 533, 534, 537, 538, 539, 540, 541] : List Nat).all (fun pc => match xo_0 pc with | none => true | some r => decide (decode cL_law pc = .ok r)) = true := by decide +kernel
set_option maxRecDepth 100000 in
theorem xo_0_c41 : ([542, 543, 544, 545, 546, 547, 548, 551] : List Nat).all (fun pc => match xo_0 pc with | none => true | some r => decide (decode cL_law pc = .ok r)) = true := by decide +kernel
set_option maxRecDepth 100000 in
theorem xo_0_c42 : ([554, 555, 556, 557, 558, 559, 560, 561] : List Nat).all (fun pc => match xo_0 pc with | none => true | some r => decide (decode cL_law pc = .ok r)) = true := by decide +kernel
set_option maxRecDepth 100000 in
theorem xo_0_c43 : ([562, 563, 564, 565, 566, 567, 568, 569] : List Nat).all (fun pc => match xo_0 pc with | none => true | some r => decide (decode cL_law pc = .ok r)) = true := by decide +kernel
set_option maxRecDepth 100000 in
theorem xo_0_c44 : ([570, 571, 572, 575, 576, 577, 578, 579] : List Nat).all (fun pc => match xo_0 pc with | none => true | some r => decide (decode cL_law pc = .ok r)) = true := by decide +kernel
set_option maxRecDepth 100000 in
theorem xo_0_c45 : ([580, 581, 582, 583, 584, 585, 586, 587] : List Nat).all (fun pc => match xo_0 pc with | none => true | some r => decide (decode cL_law pc = .ok r)) = true := by decide +kernel
set_option maxRecDepth 100000 in
theorem xo_0_c46 : ([588, 589, 590, 591, 594, 597, 598, 599] : List Nat).all (fun pc => match xo_0 pc with | none => true | some r => decide (decode cL_law pc = .ok r)) = true := by decide +kernel
set_option maxRecDepth 100000 in
theorem xo_0_c47 : ([600, 601, 602, 603, 604, 605, 608, 609] : List Nat).all (fun pc => match xo_0 pc with | none => true | some r => decide (decode cL_law pc = .ok r)) = true := by decide +kernel
set_option maxRecDepth 100000 in
theorem xo_0_c48 : ([610, 611, 612, 613, 614, 617, 620, 621] : List Nat).all (fun pc => match xo_0 pc with | none => true | some r => decide (decode cL_law pc = .ok r)) = true := by decide +kernel
set_option maxRecDepth 100000 in
theorem xo_0_c49 : ([622, 623, 624, 625, 626, 627, 628, 631] : List Nat).all (fun pc => match xo_0 pc with | none => true | some r => decide (decode cL_law pc = .ok r)) = true := by decide +kernel
set_option maxRecDepth 100000 in
theorem xo_0_c50 : ([632, 633, 634, 635, 636, 637, 640, 643] : List Nat).all (fun pc => match xo_0 pc with | none => true | some r => decide (decode cL_law pc = .ok r)) = true := by decide +kernel
set_option maxRecDepth 100000 in
theorem xo_0_c51 : ([644, 645, 646, 647, 648, 649, 650, 651] : List Nat).all (fun pc => match xo_0 pc with | none => true | some r => decide (decode cL_law pc = .ok r)) = true := by decide +kernel
set_option maxRecDepth 100000 in
theorem xo_0_c52 : ([652, 653, 654, 655, 656, 657, 658, 659] : List Nat).all (fun pc => match xo_0 pc with | none => true | some r => decide (decode cL_law pc = .ok r)) = true := by decide +kernel
set_option maxRecDepth 100000 in
theorem xo_0_c53 : ([660, 661, 664, 665, 666, 667, 668, 669] : List Nat).all (fun pc => match xo_0 pc with | none => true | some r => decide (decode cL_law pc = .ok r)) = true := by decide +kernel
set_option maxRecDepth 100000 in
theorem xo_0_c54 : ([670, 671, 672, 673, 674, 675, 676, 677] : List Nat).all (fun pc => match xo_0 pc with | none => true | some r => decide (decode cL_law pc = .ok r)) = true := by decide +kernel
set_option maxRecDepth 100000 in
theorem xo_0_c55 : ([678, 679, 680, 683, 686, 687, 688, 689] : List Nat).all (fun pc => match xo_0 pc with | none => true | some r => decide (decode cL_law pc = .ok r)) = true := by decide +kernel
set_option maxRecDepth 100000 in
theorem xo_0_c56 : ([690, 691, 692, 693, 694, 695, 696, 697] : List Nat).all (fun pc => match xo_0 pc with | none => true | some r => decide (decode cL_law pc = .ok r)) = true := by decide +kernel
set_option maxRecDepth 100000 in
theorem xo_0_c57 : ([698, 699, 702, 703, 704, 705, 706, 707] : List Nat).all (fun pc => match xo_0 pc with | none => true | some r => decide (decode cL_law pc = .ok r)) = true := by decide +kernel
set_option maxRecDepth 100000 in
theorem xo_0_c58 : ([708, 709, 710, 711, 712, 713, 716, 719] : List Nat).all (fun pc => match xo_0 pc with | none => true | some r => decide (decode cL_law pc = .ok r)) = true := by decide +kernel
set_option maxRecDepth 100000 in
theorem xo_0_c59 : ([720, 721, 722, 723, 724, 725, 726, 727] : List Nat).all (fun pc => match xo_0 pc with | none => true | some r => decide (decode cL_law pc = .ok r)) = true := by decide +kernel
set_option maxRecDepth 100000 in
theorem xo_0_c60 : ([728, 730, 731, 732, 733, 734, 735, 736] : List Nat).all (fun pc => match xo_0 pc with | none => true | some r => decide (decode cL_law pc = .ok r)) = true := by decide +kernel
set_option maxRecDepth 100000 in
theorem xo_0_c61 : ([737, 740, 741, 742, 745, 746, 747, 748] : List Nat).all (fun pc => match xo_0 pc with | none => true | some r => decide (decode cL_law pc = .ok r)) = true := by decide +kernel
set_option maxRecDepth 100000 in
theorem xo_0_c62 : ([749, 750, 751, 752, 754, 755, 756, 757] : List Nat).all (fun pc => match xo_0 pc with | none => true | some r => decide (decode cL_law pc = .ok r)) = true := by decide +kernel
set_option maxRecDepth 100000 in
theorem xo_0_c63 : ([758, 759, 760, 761, 764, 765, 766, 769] : List Nat).all (fun pc => match xo_0 pc with | none => true | some r => decide (decode cL_law pc = .ok r)) = true := by decide +kernel
set_option maxRecDepth 100000 in
theorem xo_0_c64 : ([772, 773, 774, 775, 778, 779, 782, 785] : List Nat).all (fun pc => match xo_0 pc with | none => true | some r => decide (decode cL_law pc = .ok r)) = true := by decide +kernel
set_option maxRecDepth 100000 in
theorem xo_0_c65 : ([786, 787, 788, 791, 792, 795, 798, 799] : List Nat).all (fun pc => match xo_0 pc with | none => true | some r => decide (decode cL_law pc = .ok r)) = true := by decide +kernel
set_option maxRecDepth 100000 in
theorem xo_0_c66 : ([800, 801, 804, 805, 808, 811, 812, 813] : List Nat).all (fun pc => match xo_0 pc with | none => true | some r => decide (decode cL_law pc = .ok r)) = true := by decide +kernel
set_option maxRecDepth 100000 in
theorem xo_0_c67 : ([814, 815, 816, 817, 818, 819, 822, 823] : List Nat).all (fun pc => match xo_0 pc with | none => true | some r => decide (decode cL_law pc = .ok r)) = true := by decide +kernel
set_option maxRecDepth 100000 in
theorem xo_0_c68 : ([824, 825, 826, 827, 828, 831, 834, 835] : List Nat).all (fun pc => match xo_0 pc with | none => true | some r => decide (decode cL_law pc = .ok r)) = true := by decide +kernel
set_option maxRecDepth 100000 in
theorem xo_0_c69 : ([836, 837, 838, 839, 840, 841, 842, 845] : List Nat).all (fun pc => match xo_0 pc with | none => true | some r => decide (decode cL_law pc = .ok r)) = true := by decide +kernel
set_option maxRecDepth 100000 in
theorem xo_0_c70 : ([846, 847, 848, 849, 850, 851, 854, 857] : List Nat).all (fun pc => match xo_0 pc with | none => true | some r => decide (decode cL_law pc = .ok r)) = true := by decide +kernel
set_option maxRecDepth 100000 in
theorem xo_0_c71 : ([858, 859, 862, 865, 866] : List Nat).all (fun pc => match xo_0 pc with | none => true | some r => decide (decode cL_law pc = .ok r)) = true := by decide +kernel
set_option maxRecDepth 100000 in
theorem xo_0_no : (List.range 867).all (fun pc => (xo_0 pc).isNone || (([0, 3, 4, 7, 8, 11, 12, 15] : List Nat).contains pc || ([16, 17, 18, 19, 20, 21, 22, 23] : List Nat).contains pc || ([26, 27, 28, 29, 31, 32, 148, 149] : List Nat).contains pc || ([150, 151, 152, 153, 154, 155, 156, 157] : List Nat).contains pc || ([158, 159, 162, 163, 164, 165, 166, 167] : List Nat).contains pc || ([168, 169, 170, 171, 172, 173, 176, 179] : List Nat).contains pc || ([180, 181, 182, 183, 184, 185, 186, 187] : List Nat).contains pc || ([188, 189, 190, 191, 192, 193, 194, 195] : List Nat).contains pc || ([196, 197, 200, 201, 202, 203, 204, 205] : List Nat).contains pc || ([206, 207, 208, 209, 210, 211, 212, 213] : List Nat).contains pc || ([214, 215, 216, 219, 222, 223, 224, 225] : List Nat).contains pc || ([226, 227, 228, 229, 230, 233, 234, 235] : List Nat).contains pc || ([236, 237, 238, 239, 242, 245, 246, 247] : List Nat).contains pc || ([248, 249, 250, 251, 252, 253, 254, 255] : List Nat).contains pc || ([256, 257, 258, 261, 262, 263, 264, 265] : List Nat).contains pc || ([266, 267, 268, 269, 270, 271, 272, 275] : List Nat).contains pc || ([278, 279, 280, 281, 282, 283, 284, 285] : List Nat).contains pc || ([286, 289, 290, 291, 292, 293, 294, 295] : List Nat).contains pc || ([298, 301, 302, 303, 304, 305, 306, 307] : List Nat).contains pc || ([308, 309, 312, 313, 314, 315, 316, 317] : List Nat).contains pc || ([318, 321, 324, 325, 326, 327, 328, 329] : List Nat).contains pc || ([330, 331, 332, 335, 336, 337, 338, 339] : List Nat).contains pc || ([340, 341, 344, 347, 348, 349, 350, 351] : List Nat).contains pc || ([352, 353, 354, 355, 358, 359, 360, 361] : List Nat).contains pc || ([362, 363, 364, 367, 370, 371, 372, 373] : List Nat).contains pc || ([374, 375, 376, 377, 378, 381, 382, 383] : List Nat).contains pc || ([384, 385, 386, 387, 390, 393, 394, 395] : List Nat).contains pc || ([396, 397, 398, 399, 400, 401, 402, 403] : List Nat).contains pc || ([404, 405, 406, 407, 408, 409, 410, 411] : List Nat).contains pc || ([414, 415, 418, 419, 422, 423, 424, 425] : List Nat).contains pc || ([426, 427, 428, 429, 430, 431, 432, 433] : List Nat).contains pc || ([434, 435, 436, 437, 438, 441, 442, 445] : List Nat).contains pc || ([446, 449, 452, 453, 454, 455, 456, 457] : List Nat).contains pc || ([458, 459, 460, 463, 464, 465, 466, 467] : List Nat).contains pc || ([468, 469, 472, 475, 476, 477, 478, 481] : List Nat).contains pc || ([482, 485, 488, 489, 490, 491, 492, 493] : List Nat).contains pc || ([494, 495, 496, 497, 498, 499, 500, 501] : List Nat).contains pc || ([504, 505, 506, 507, 508, 509, 510, 511] : List Nat).contains pc || ([512, 513, 514, 515, 518, 521, 522, 523] : List Nat).contains pc || ([524, 525, 526, 527, 528, 529, 530, 531] : List Nat).contains pc || ([532, 533, 534, 537, 538, 539, 540, 541] : List Nat).contains pc || ([542, 543, 544, 545, 546, 547, 548, 551] : List Nat).contains pc || ([554, 555, 556, 557, 558, 559, 560, 561] : List Nat).contains pc || ([562, 563, 564, 565, 566, 567, 568, 569] : List Nat).contains pc || ([570, 571, 572, 575, 576, 577, 578, 579] : List Nat).contains pc || ([580, 581, 582, 583, 584, 585, 586, 587] : List Nat).contains pc || ([588, 589, 590, 591, 594, 597, 598, 599] : List Nat).contains pc || ([600, 601, 602, 603, 604, 605, 608, 609] : List Nat).contains pc || ([610, 611, 612, 613, 614, 617, 620, 621] : List Nat).contains pc || ([622, 623, 624, 625, 626, 627, 628, 631] : List Nat).contains pc || ([632, 633, 634, 635, 636, 637, 640, 643] : List Nat).contains pc || ([644, 645, 646, 647, 648, 649, 650, 651] : List Nat).contains pc || ([652, 653, 654, 655, 656, 657, 658, 659] : List Nat).contains pc || ([660, 661, 664, 665, 666, 667, 668, 669] : List Nat).contains pc || ([670, 671, 672, 673, 674, 675, 676, 677] : List Nat).contains pc || ([678, 679, 680, 683, 686, 687, 688, 689] : List Nat).contains pc || ([690, 691, 692, 693, 694, 695, 696, 697] : List Nat).contains pc || ([698, 699, 702, 703, 704, 705, 706, 707] : List Nat).contains pc || ([708, 709, 710, 711, 712, 713, 716, 719] : List Nat).contains pc || ([720, 721, 722, 723, 724, 725, 726, 727] : List Nat).contains pc || ([728, 730, 731, 732, 733, 734, 735, 736] : List Nat).contains pc || ([737, 740, 741, 742, 745, 746, 747, 748] : List Nat).contains pc || ([749, 750, 751, 752, 754, 755, 756, 757] : List Nat).contains pc || ([758, 759, 760, 761, 764, 765, 766, 769] : List Nat).contains pc || ([772, 773, 774, 775, 778, 779, 782, 785] : List Nat).contains pc || ([786, 787, 788, 791, 792, 795, 798, 799] : List Nat).contains pc || ([800, 801, 804, 805, 808, 811, 812, 813] : List Nat).contains pc || ([814, 815, 816, 817, 818, 819, 822, 823] : List Nat).contains pc || ([824, 825, 826, 827, 828, 831, 834, 835] : List Nat).contains pc || ([836, 837, 838, 839, 840, 841, 842, 845] : List Nat).contains pc || ([846, 847, 848, 849, 850, 851, 854, 857] : List Nat).contains pc || ([858, 859, 862, 865, 866] : List Nat).contains pc)) = true := by decide +kernel
theorem xo_0_top (pc : Nat) (h : 867 ≤ pc) : xo_0 pc = none := if_pos h
theorem xo_0_ok (pc : Nat) (r : Instr × Nat) (h : xo_0 pc = some r) : decode cL_law pc = .ok r := by
  rcases Nat.lt_or_ge pc 867 with hl | hl
  · have h1 := List.all_eq_true.mp xo_0_no pc (List.mem_range.mpr hl)
    rw [h] at h1
    simp only [Option.isNone_some, Bool.false_or, Bool.or_eq_true, List.contains_iff_mem, or_assoc] at h1
    rcases h1 with h1 | h1 | h1 | h1 | h1 | h1 | h1 | h1 | h1 | h1 | h1 | h1 | h1 | h1 | h1 | h1 | h1 | h1 | h1 | h1 | h1 | h1 | h1 | h1 | h1 | h1 | h1 | h1 | h1 | h1 | h1 | h1 | h1 | h1 | h1 | h1 | h1 | h1 | h1 | h1 | h1 | h1 | h1 | h1 | h1 | h1 | h1 | h1 | h1 | h1 | h1 | h1 | h1 | h1 | h1 | h1 | h1 | h1 | h1 | h1 | h1 | h1 | h1 | h1 | h1 | h1 | h1 | h1 | h1 | h1 | h1 | h1
    · have h2 := List.all_eq_true.mp xo_0_c0 pc h1
      rw [h] at h2
      exact of_decide_eq_true h2
    · have h2 := List.all_eq_true.mp xo_0_c1 pc h1
      rw [h] at h2
      exact of_decide_eq_true h2
    · have h2 := List.all_eq_true.mp xo_0_c2 pc h1
      rw [h] at h2
      exact of_decide_eq_true h2
    · have h2 := List.all_eq_true.mp xo_0_c3 pc h1
      rw [h] at h2
      exact of_decide_eq_true h2
    · have h2 := List.all_eq_true.mp xo_0_c4 pc h1
      rw [h] at h2
      exact of_decide_eq_true h2
    · have h2 := List.all_eq_true.mp xo_0_c5 pc h1
      rw [h] at h2
      exact of_decide_eq_true h2
    · have h2 := List.all_eq_true.mp xo_0_c6 pc h1
      rw [h] at h2
      exact of_decide_eq_true h2
    · have h2 := List.all_eq_true.mp xo_0_c7 pc h1
      rw [h] at h2
      exact of_decide_eq_true h2
    · have h2 := List.all_eq_true.mp xo_0_c8 pc h1
      rw [h] at h2
      exact of_decide_eq_true h2
    · have h2 := List.all_eq_true.mp xo_0_c9 pc h1
      rw [h] at h2
      exact of_decide_eq_true h2
    · have h2 := List.all_eq_true.mp xo_0_c10 pc h1
      rw [h] at h2
      exact of_decide_eq_true h2
    · have h2 := List.all_eq_true.mp xo_0_c11 pc h1
      rw [h] at h2
      exact of_decide_eq_true h2
    · have h2 := List.all_eq_true.mp xo_0_c12 pc h1
      rw [h] at h2
      exact of_decide_eq_true h2
    · have h2 := List.all_eq_true.mp xo_0_c13 pc h1
      rw [h] at h2
      exact of_decide_eq_true h2
    · have h2 := List.all_eq_true.mp xo_0_c14 pc h1
      rw [h] at h2
      exact of_decide_eq_true h2
    · have h2 := List.all_eq_true.mp xo_0_c15 pc h1
      rw [h] at h2
      exact of_decide_eq_true h2
    · have h2 := List.all_eq_true.mp xo_0_c16 pc h1
      rw [h] at h2
      exact of_decide_eq_true h2
    · have h2 := List.all_eq_true.mp xo_0_c17 pc h1
      rw [h] at h2
      exact of_decide_eq_true h2
    · have h2 := List.all_eq_true.mp xo_0_c18 pc h1
      rw [h] at h2
      exact of_decide_eq_true h2
    · have h2 := List.all_eq_true.mp xo_0_c19 pc h1
      rw [h] at h2
      exact of_decide_eq_true h2
    · have h2 := List.all_eq_true.mp xo_0_c20 pc h1
      rw [h] at h2
      exact of_decide_eq_true h2
    · have h2 := List.all_eq_true.mp xo_0_c21 pc h1
      rw [h] at h2
      exact of_decide_eq_true h2
    · have h2 := List.all_eq_true.mp xo_0_c22 pc h1
      rw [h] at h2
      exact of_decide_eq_true h2
    · have h2 := List.all_eq_true.mp xo_0_c23 pc h1
      rw [h] at h2
      exact of_decide_eq_true h2
    · have h2 := List.all_eq_true.mp xo_0_c24 pc h1
      rw [h] at h2
      exact of_decide_eq_true h2
    · have h2 := List.all_eq_true.mp xo_0_c25 pc h1
      rw [h] at h2
      exact of_decide_eq_true h2
    · have h2 := List.all_eq_true.mp xo_0_c26 pc h1
      rw [h] at h2
      exact of_decide_eq_true h2
    · have h2 := List.all_eq_true.mp xo_0_c27 pc h1
      rw [h] at h2
      exact of_decide_eq_true h2
    · have h2 := List.all_eq_true.mp xo_0_c28 pc h1
      rw [h] at h2
      exact of_decide_eq_true h2
    · have h2 := List.all_eq_true.mp xo_0_c29 pc h1
      rw [h] at h2
      exact of_decide_eq_true h2
    · have h2 := List.all_eq_true.mp xo_0_c30 pc h1
      rw [h] at h2
      exact of_decide_eq_true h2
    · have h2 := List.all_eq_true.mp xo_0_c31 pc h1
      rw [h] at h2
      exact of_decide_eq_true h2
    · have h2 := List.all_eq_true.mp xo_0_c32 pc h1
      rw [h] at h2
      exact of_decide_eq_true h2
    · have h2 := List.all_eq_true.mp xo_0_c33 pc h1
      rw [h] at h2
      exact of_decide_eq_true h2
    · have h2 := List.all_eq_true.mp xo_0_c34 pc h1
      rw [h] at h2
      exact of_decide_eq_true h2
    · have h2 := List.all_eq_true.mp xo_0_c35 pc h1
      rw [h] at h2
      exact of_decide_eq_true h2
    · have h2 := List.all_eq_true.mp xo_0_c36 pc h1
      rw [h] at h2
      exact of_decide_eq_true h2
    · have h2 := List.all_eq_true.mp xo_0_c37 pc h1
      rw [h] at h2
      exact of_decide_eq_true h2
    · have h2 := List.all_eq_true.mp xo_0_c38 pc h1
      rw [h] at h2
      exact of_decide_eq_true h2
    · have h2 := List.all_eq_true.mp xo_0_c39 pc h1
      rw [h] at h2
      exact of_decide_eq_true h2
    · have h2 := List.all_eq_true.mp xo_0_c40 pc h1
      rw [h] at h2
      exact of_decide_eq_true h2
    · have h2 := List.all_eq_true.mp xo_0_c41 pc h1
      rw [h] at h2
      exact of_decide_eq_true h2
    · have h2 := List.all_eq_true.mp xo_0_c42 pc h1
      rw [h] at h2
      exact of_decide_eq_true h2
    · have h2 := List.all_eq_true.mp xo_0_c43 pc h1
      rw [h] at h2
      exact of_decide_eq_true h2
    · have h2 := List.all_eq_true.mp xo_0_c44 pc h1
      rw [h] at h2
      exact of_decide_eq_true h2
    · have h2 := List.all_eq_true.mp xo_0_c45 pc h1
      rw [h] at h2
      exact of_decide_eq_true h2
    · have h2 := List.all_eq_true.mp xo_0_c46 pc h1
      rw [h] at h2
      exact of_decide_eq_true h2
    · have h2 := List.all_eq_true.mp xo_0_c47 pc h1
      rw [h] at h2
      exact of_decide_eq_true h2
    · have h2 := List.all_eq_true.mp xo_0_c48 pc h1
      rw [h] at h2
      exact of_decide_eq_true h2
    · have h2 := List.all_eq_true.mp xo_0_c49 pc h1
      rw [h] at h2
      exact of_decide_eq_true h2
    · have h2 := List.all_eq_true.mp xo_0_c50 pc h1
      rw [h] at h2
      exact of_decide_eq_true h2
    · have h2 := List.all_eq_true.mp xo_0_c51 pc h1
      rw [h] at h2
      exact of_decide_eq_true h2
    · have h2 := List.all_eq_true.mp xo_0_c52 pc h1
      rw [h] at h2
      exact of_decide_eq_true h2
    · have h2 := List.all_eq_true.mp xo_0_c53 pc h1
      rw [h] at h2
      exact of_decide_eq_true h2
    · have h2 := List.all_eq_true.mp xo_0_c54 pc h1
      rw [h] at h2
      exact of_decide_eq_true h2
    · have h2 := List.all_eq_true.mp xo_0_c55 pc h1
      rw [h] at h2
      exact of_decide_eq_true h2
    · have h2 := List.all_eq_true.mp xo_0_c56 pc h1
      rw [h] at h2
      exact of_decide_eq_true h2
    · have h2 := List.all_eq_true.mp xo_0_c57 pc h1
      rw [h] at h2
      exact of_decide_eq_true h2
    · have h2 := List.all_eq_true.mp xo_0_c58 pc h1
      rw [h] at h2
      exact of_decide_eq_true h2
    · have h2 := List.all_eq_true.mp xo_0_c59 pc h1
      rw [h] at h2
      exact of_decide_eq_true h2
    · have h2 := List.all_eq_true.mp xo_0_c60 pc h1
      rw [h] at h2
      exact of_decide_eq_true h2
    · have h2 := List.all_eq_true.mp xo_0_c61 pc h1
      rw [h] at h2
      exact of_decide_eq_true h2
    · have h2 := List.all_eq_true.mp xo_0_c62 pc h1
      rw [h] at h2
      exact of_decide_eq_true h2
    · have h2 := List.all_eq_true.mp xo_0_c63 pc h1
      rw [h] at h2
      exact of_decide_eq_true h2
    · have h2 := List.all_eq_true.mp xo_0_c64 pc h1
      rw [h] at h2
      exact of_decide_eq_true h2
    · have h2 := List.all_eq_true.mp xo_0_c65 pc h1
      rw [h] at h2
      exact of_decide_eq_true h2
    · have h2 := List.all_eq_true.mp xo_0_c66 pc h1
      rw [h] at h2
      exact of_decide_eq_true h2
    · have h2 := List.all_eq_true.mp xo_0_c67 pc h1
      rw [h] at h2
      exact of_decide_eq_true h2
    · have h2 := List.all_eq_true.mp xo_0_c68 pc h1
      rw [h] at h2
      exact of_decide_eq_true h2
    · have h2 := List.all_eq_true.mp xo_0_c69 pc h1
      rw [h] at h2
      exact of_decide_eq_true h2
    · have h2 := List.all_eq_true.mp xo_0_c70 pc h1
      rw [h] at h2
      exact of_decide_eq_true h2
    · have h2 := List.all_eq_true.mp xo_0_c71 pc h1
      rw [h] at h2
      exact of_decide_eq_true h2
  · rw [show xo_0 pc = none from if_pos hl] at h; cases h
/-- X6_noneForEachPerson -/
def xo_1 (pc : Nat) : Option (Instr × Nat) := if 26 ≤ pc then none else if pc < 13 then (if pc < 6 then (if pc < 4 then (if pc < 2 then (if pc = 0 then some (.bipush 20, 2) else none) else (if pc = 2 then some (.newarray .int, 2) else none)) else (if pc < 5 then (if pc = 4 then some (.astore_n 0, 1) else none) else (if pc = 5 then some (.iconst 0, 1) else none))) else (if pc < 8 then (if pc < 7 then (if pc = 6 then some (.istore_n 1, 1) else none) else (if pc = 7 then some (.iload_n 1, 1) else none)) else (if pc < 10 then (if pc = 8 then some (.bipush 20, 2) else none) else (if pc = 10 then some (.if_icmp .ge 14, 3) else none)))) else (if pc < 18 then (if pc < 15 then (if pc < 14 then (if pc = 13 then some (.aload_n 0, 1) else none) else (if pc = 14 then some (.iload_n 1, 1) else none)) else (if pc < 17 then (if pc = 15 then some (.bipush (-6), 2) else none) else (if pc = 17 then some (.iastore, 1) else none))) else (if pc < 24 then (if pc < 21 then (if pc = 18 then some (.iinc 1 1, 3) else none) else (if pc = 21 then some (.goto (-14), 3) else none)) else (if pc < 25 then (if pc = 24 then some (.aload_n 0, 1) else none) else (if pc = 25 then some (.areturn, 1) else none))))
set_option maxRecDepth 100000 in
theorem xo_1_c0 : ([0, 2, 4, 5, 6, 7, 8, 10, 13, 14, 15, 17, 18, 21, 24, 25] : List Nat).all (fun pc => match xo_1 pc with | none => true | some r => decide (decode cX6_noneForEachPerson pc = .ok r)) = true := by decide +kernel
set_option maxRecDepth 100000 in
theorem xo_1_no : (List.range 26).all (fun pc => (xo_1 pc).isNone || (([0, 2, 4, 5, 6, 7, 8, 10, 13, 14, 15, 17, 18, 21, 24, 25] : List Nat).contains pc)) = true := by decide +kernel
theorem xo_1_top (pc : Nat) (h : 26 ≤ pc) : xo_1 pc = none := if_pos h
theorem xo_1_ok (pc : Nat) (r : Instr × Nat) (h : xo_1 pc = some r) : decode cX6_noneForEachPerson pc = .ok r := by
  rcases Nat.lt_or_ge pc 26 with hl | hl
  · have h1 := List.all_eq_true.mp xo_1_no pc (List.mem_range.mpr hl)
    rw [h] at h1
    simp only [Option.isNone_some, Bool.false_or, Bool.or_eq_true, List.contains_iff_mem, or_assoc] at h1
    rcases h1 with h1
    · have h2 := List.all_eq_true.mp xo_1_c0 pc h1
      rw [h] at h2
      exact of_decide_eq_true h2
  · rw [show xo_1 pc = none from if_pos hl] at h; cases h
/-- X0_init -/
def xo_2 (pc : Nat) : Option (Instr × Nat) := if 48 ≤ pc then none else if pc < 25 then (if pc < 11 then (if pc < 4 then (if pc < 1 then (if pc = 0 then some (.aload_n 0, 1) else none) else (if pc = 1 then some (.invokespecial 3, 3) else none)) else (if pc < 5 then (if pc = 4 then some (.aload_n 0, 1) else none) else (if pc < 8 then (if pc = 5 then some (.invokestatic 9, 3) else none) else (if pc = 8 then some (.putfield 13, 3) else none)))) else (if pc < 18 then (if pc < 12 then (if pc = 11 then some (.aload_n 0, 1) else none) else (if pc < 15 then (if pc = 12 then some (.invokestatic 9, 3) else none) else (if pc = 15 then some (.putfield 19, 3) else none))) else (if pc < 19 then (if pc = 18 then some (.aload_n 0, 1) else none) else (if pc < 22 then (if pc = 19 then some (.invokestatic 9, 3) else none) else (if pc = 22 then some (.putfield 22, 3) else none))))) else (if pc < 36 then (if pc < 29 then (if pc < 26 then (if pc = 25 then some (.aload_n 0, 1) else none) else (if pc = 26 then some (.invokestatic 9, 3) else none)) else (if pc < 32 then (if pc = 29 then some (.putfield 25, 3) else none) else (if pc < 33 then (if pc = 32 then some (.aload_n 0, 1) else none) else (if pc = 33 then some (.invokestatic 9, 3) else none)))) else (if pc < 42 then (if pc < 39 then (if pc = 36 then some (.putfield 28, 3) else none) else (if pc < 40 then (if pc = 39 then some (.aload_n 0, 1) else none) else (if pc = 40 then some (.bipush 20, 2) else none))) else (if pc < 44 then (if pc = 42 then some (.newarray .int, 2) else none) else (if pc < 47 then (if pc = 44 then some (.putfield 31, 3) else none) else (if pc = 47 then some (.return_, 1) else none)))))
set_option maxRecDepth 100000 in
theorem xo_2_c0 : ([0, 1, 4, 5, 8, 11, 12, 15, 18, 19, 22, 25, 26, 29, 32, 33, 36, 39, 40, 42, 44, 47] : List Nat).all (fun pc => match xo_2 pc with | none => true | some r => decide (decode cX0_init pc = .ok r)) = true := by decide +kernel
set_option maxRecDepth 100000 in
theorem xo_2_no : (List.range 48).all (fun pc => (xo_2 pc).isNone || (([0, 1, 4, 5, 8, 11, 12, 15, 18, 19, 22, 25, 26, 29, 32, 33, 36, 39, 40, 42, 44, 47] : List Nat).contains pc)) = true := by decide +kernel
theorem xo_2_top (pc : Nat) (h : 48 ≤ pc) : xo_2 pc = none := if_pos h
theorem xo_2_ok (pc : Nat) (r : Instr × Nat) (h : xo_2 pc = some r) : decode cX0_init pc = .ok r := by
  rcases Nat.lt_or_ge pc 48 with hl | hl
  · have h1 := List.all_eq_true.mp xo_2_no pc (List.mem_range.mpr hl)
    rw [h] at h1
    simp only [Option.isNone_some, Bool.false_or, Bool.or_eq_true, List.contains_iff_mem, or_assoc] at h1
    rcases h1 with h1
    · have h2 := List.all_eq_true.mp xo_2_c0 pc h1
      rw [h] at h2
      exact of_decide_eq_true h2
  · rw [show xo_2 pc = none from if_pos hl] at h; cases h
/-- X0_copyFrom -/
def xo_3 (pc : Nat) : Option (Instr × Nat) := if 99 ≤ pc then none else if pc < 49 then (if pc < 24 then (if pc < 10 then (if pc < 5 then (if pc < 1 then (if pc = 0 then some (.aload_n 1, 1) else none) else (if pc < 4 then (if pc = 1 then some (.getfield 13, 3) else none) else (if pc = 4 then some (.iconst 0, 1) else none))) else (if pc < 6 then (if pc = 5 then some (.aload_n 0, 1) else none) else (if pc < 9 then (if pc = 6 then some (.getfield 13, 3) else none) else (if pc = 9 then some (.iconst 0, 1) else none)))) else (if pc < 16 then (if pc < 12 then (if pc = 10 then some (.bipush 20, 2) else none) else (if pc < 15 then (if pc = 12 then some (.invokestatic 34, 3) else none) else (if pc = 15 then some (.aload_n 1, 1) else none))) else (if pc < 20 then (if pc < 19 then (if pc = 16 then some (.getfield 19, 3) else none) else (if pc = 19 then some (.iconst 0, 1) else none)) else (if pc < 21 then (if pc = 20 then some (.aload_n 0, 1) else none) else (if pc = 21 then some (.getfield 19, 3) else none))))) else (if pc < 35 then (if pc < 30 then (if pc < 25 then (if pc = 24 then some (.iconst 0, 1) else none) else (if pc < 27 then (if pc = 25 then some (.bipush 20, 2) else none) else (if pc = 27 then some (.invokestatic 34, 3) else none))) else (if pc < 31 then (if pc = 30 then some (.aload_n 1, 1) else none) else (if pc < 34 then (if pc = 31 then some (.getfield 22, 3) else none) else (if pc = 34 then some (.iconst 0, 1) else none)))) else (if pc < 40 then (if pc < 36 then (if pc = 35 then some (.aload_n 0, 1) else none) else (if pc < 39 then (if pc = 36 then some (.getfield 22, 3) else none) else (if pc = 39 then some (.iconst 0, 1) else none))) else (if pc < 45 then (if pc < 42 then (if pc = 40 then some (.bipush 20, 2) else none) else (if pc = 42 then some (.invokestatic 34, 3) else none)) else (if pc < 46 then (if pc = 45 then some (.aload_n 1, 1) else none) else (if pc = 46 then some (.getfield 25, 3) else none)))))) else (if pc < 72 then (if pc < 60 then (if pc < 54 then (if pc < 50 then (if pc = 49 then some (.iconst 0, 1) else none) else (if pc < 51 then (if pc = 50 then some (.aload_n 0, 1) else none) else (if pc = 51 then some (.getfield 25, 3) else none))) else (if pc < 55 then (if pc = 54 then some (.iconst 0, 1) else none) else (if pc < 57 then (if pc = 55 then some (.bipush 20, 2) else none) else (if pc = 57 then some (.invokestatic 34, 3) else none)))) else (if pc < 65 then (if pc < 61 then (if pc = 60 then some (.aload_n 1, 1) else none) else (if pc < 64 then (if pc = 61 then some (.getfield 28, 3) else none) else (if pc = 64 then some (.iconst 0, 1) else none))) else (if pc < 69 then (if pc < 66 then (if pc = 65 then some (.aload_n 0, 1) else none) else (if pc = 66 then some (.getfield 28, 3) else none)) else (if pc < 70 then (if pc = 69 then some (.iconst 0, 1) else none) else (if pc = 70 then some (.bipush 20, 2) else none))))) else (if pc < 85 then (if pc < 79 then (if pc < 75 then (if pc = 72 then some (.invokestatic 34, 3) else none) else (if pc < 76 then (if pc = 75 then some (.aload_n 1, 1) else none) else (if pc = 76 then some (.getfield 31, 3) else none))) else (if pc < 81 then (if pc < 80 then (if pc = 79 then some (.iconst 0, 1) else none) else (if pc = 80 then some (.aload_n 0, 1) else none)) else (if pc < 84 then (if pc = 81 then some (.getfield 31, 3) else none) else (if pc = 84 then some (.iconst 0, 1) else none)))) else (if pc < 91 then (if pc < 87 then (if pc = 85 then some (.bipush 20, 2) else none) else (if pc < 90 then (if pc = 87 then some (.invokestatic 34, 3) else none) else (if pc = 90 then some (.aload_n 0, 1) else none))) else (if pc < 95 then (if pc < 92 then (if pc = 91 then some (.aload_n 1, 1) else none) else (if pc = 92 then some (.getfield 40, 3) else none)) else (if pc < 98 then (if pc = 95 then some (.putfield 40, 3) else none) else (if pc = 98 then some (.return_, 1) else none))))))
set_option maxRecDepth 100000 in
theorem xo_3_c0 : ([0, 1, 4, 5, 6, 9, 10, 12, 15, 16, 19, 20, 21, 24, 25, 27, 30, 31, 34, 35, 36, 39, 40, 42, 45, 46, 49, 50, 51, 54, 55, 57, 60, 61, 64, 65, 66, 69, 70, 72, 75, 76, 79, 80, 81, 84, 85, 87, 90, 91] : List Nat).all (fun pc => match xo_3 pc with | none => true | some r => decide (decode cX0_copyFrom pc = .ok r)) = true := by decide +kernel
set_option maxRecDepth 100000 in
theorem xo_3_c1 : ([92, 95, 98] : List Nat).all (fun pc => match xo_3 pc with | none => true | some r => decide (decode cX0_copyFrom pc = .ok r)) = true := by decide +kernel
set_option maxRecDepth 100000 in
theorem xo_3_no : (List.range 99).all (fun pc => (xo_3 pc).isNone || (([0, 1, 4, 5, 6, 9, 10, 12, 15, 16, 19, 20, 21, 24, 25, 27, 30, 31, 34, 35, 36, 39, 40, 42, 45, 46, 49, 50, 51, 54, 55, 57, 60, 61, 64, 65, 66, 69, 70, 72, 75, 76, 79, 80, 81, 84, 85, 87, 90, 91] : List Nat).contains pc || ([92, 95, 98] : List Nat).contains pc)) = true := by decide +kernel
theorem xo_3_top (pc : Nat) (h : 99 ≤ pc) : xo_3 pc = none := if_pos h
theorem xo_3_ok (pc : Nat) (r : Instr × Nat) (h : xo_3 pc = some r) : decode cX0_copyFrom pc = .ok r := by
  rcases Nat.lt_or_ge pc 99 with hl | hl
  · have h1 := List.all_eq_true.mp xo_3_no pc (List.mem_range.mpr hl)
    rw [h] at h1
    simp only [Option.isNone_some, Bool.false_or, Bool.or_eq_true, List.contains_iff_mem, or_assoc] at h1
    rcases h1 with h1 | h1
    · have h2 := List.all_eq_true.mp xo_3_c0 pc h1
      rw [h] at h2
      exact of_decide_eq_true h2
    · have h2 := List.all_eq_true.mp xo_3_c1 pc h1
      rw [h] at h2
      exact of_decide_eq_true h2
  · rw [show xo_3 pc = none from if_pos hl] at h; cases h
/-- X0_isInRack -/
def xo_4 (pc : Nat) : Option (Instr × Nat) := if 17 ≤ pc then none else if pc < 8 then (if pc < 4 then (if pc < 1 then (if pc = 0 then some (.aload_n 0, 1) else none) else (if pc = 1 then some (.getfield 13, 3) else none)) else (if pc < 5 then (if pc = 4 then some (.iload_n 1, 1) else none) else (if pc < 6 then (if pc = 5 then some (.iaload, 1) else none) else (if pc = 6 then some (.bipush (-6), 2) else none)))) else (if pc < 12 then (if pc < 11 then (if pc = 8 then some (.if_icmp .eq 7, 3) else none) else (if pc = 11 then some (.iconst 1, 1) else none)) else (if pc < 15 then (if pc = 12 then some (.goto 4, 3) else none) else (if pc < 16 then (if pc = 15 then some (.iconst 0, 1) else none) else (if pc = 16 then some (.ireturn, 1) else none))))
set_option maxRecDepth 100000 in
theorem xo_4_c0 : ([0, 1, 4, 5, 6, 8, 11, 12, 15, 16] : List Nat).all (fun pc => match xo_4 pc with | none => true | some r => decide (decode cX0_isInRack pc = .ok r)) = true := by decide +kernel
set_option maxRecDepth 100000 in
theorem xo_4_no : (List.range 17).all (fun pc => (xo_4 pc).isNone || (([0, 1, 4, 5, 6, 8, 11, 12, 15, 16] : List Nat).contains pc)) = true := by decide +kernel
theorem xo_4_top (pc : Nat) (h : 17 ≤ pc) : xo_4 pc = none := if_pos h
theorem xo_4_ok (pc : Nat) (r : Instr × Nat) (h : xo_4 pc = some r) : decode cX0_isInRack pc = .ok r := by
  rcases Nat.lt_or_ge pc 17 with hl | hl
  · have h1 := List.all_eq_true.mp xo_4_no pc (List.mem_range.mpr hl)
    rw [h] at h1
    simp only [Option.isNone_some, Bool.false_or, Bool.or_eq_true, List.contains_iff_mem, or_assoc] at h1
    rcases h1 with h1
    · have h2 := List.all_eq_true.mp xo_4_c0 pc h1
      rw [h] at h2
      exact of_decide_eq_true h2
  · rw [show xo_4 pc = none from if_pos hl] at h; cases h
/-- X0_isTagged -/
def xo_5 (pc : Nat) : Option (Instr × Nat) := if 17 ≤ pc then none else if pc < 8 then (if pc < 4 then (if pc < 1 then (if pc = 0 then some (.aload_n 0, 1) else none) else (if pc = 1 then some (.getfield 25, 3) else none)) else (if pc < 5 then (if pc = 4 then some (.iload_n 1, 1) else none) else (if pc < 6 then (if pc = 5 then some (.iaload, 1) else none) else (if pc = 6 then some (.bipush (-6), 2) else none)))) else (if pc < 12 then (if pc < 11 then (if pc = 8 then some (.if_icmp .eq 7, 3) else none) else (if pc = 11 then some (.iconst 1, 1) else none)) else (if pc < 15 then (if pc = 12 then some (.goto 4, 3) else none) else (if pc < 16 then (if pc = 15 then some (.iconst 0, 1) else none) else (if pc = 16 then some (.ireturn, 1) else none))))
set_option maxRecDepth 100000 in
theorem xo_5_c0 : ([0, 1, 4, 5, 6, 8, 11, 12, 15, 16] : List Nat).all (fun pc => match xo_5 pc with | none => true | some r => decide (decode cX0_isTagged pc = .ok r)) = true := by decide +kernel
set_option maxRecDepth 100000 in
theorem xo_5_no : (List.range 17).all (fun pc => (xo_5 pc).isNone || (([0, 1, 4, 5, 6, 8, 11, 12, 15, 16] : List Nat).contains pc)) = true := by decide +kernel
theorem xo_5_top (pc : Nat) (h : 17 ≤ pc) : xo_5 pc = none := if_pos h
theorem xo_5_ok (pc : Nat) (r : Instr × Nat) (h : xo_5 pc = some r) : decode cX0_isTagged pc = .ok r := by
  rcases Nat.lt_or_ge pc 17 with hl | hl
  · have h1 := List.all_eq_true.mp xo_5_no pc (List.mem_range.mpr hl)
    rw [h] at h1
    simp only [Option.isNone_some, Bool.false_or, Bool.or_eq_true, List.contains_iff_mem, or_assoc] at h1
    rcases h1 with h1
    · have h2 := List.all_eq_true.mp xo_5_c0 pc h1
      rw [h] at h2
      exact of_decide_eq_true h2
  · rw [show xo_5 pc = none from if_pos hl] at h; cases h
/-- X0_isInPound -/
def xo_6 (pc : Nat) : Option (Instr × Nat) := if 17 ≤ pc then none else if pc < 8 then (if pc < 4 then (if pc < 1 then (if pc = 0 then some (.aload_n 0, 1) else none) else (if pc = 1 then some (.getfield 28, 3) else none)) else (if pc < 5 then (if pc = 4 then some (.iload_n 1, 1) else none) else (if pc < 6 then (if pc = 5 then some (.iaload, 1) else none) else (if pc = 6 then some (.bipush (-6), 2) else none)))) else (if pc < 12 then (if pc < 11 then (if pc = 8 then some (.if_icmp .eq 7, 3) else none) else (if pc = 11 then some (.iconst 1, 1) else none)) else (if pc < 15 then (if pc = 12 then some (.goto 4, 3) else none) else (if pc < 16 then (if pc = 15 then some (.iconst 0, 1) else none) else (if pc = 16 then some (.ireturn, 1) else none))))
set_option maxRecDepth 100000 in
theorem xo_6_c0 : ([0, 1, 4, 5, 6, 8, 11, 12, 15, 16] : List Nat).all (fun pc => match xo_6 pc with | none => true | some r => decide (decode cX0_isInPound pc = .ok r)) = true := by decide +kernel
set_option maxRecDepth 100000 in
theorem xo_6_no : (List.range 17).all (fun pc => (xo_6 pc).isNone || (([0, 1, 4, 5, 6, 8, 11, 12, 15, 16] : List Nat).contains pc)) = true := by decide +kernel
theorem xo_6_top (pc : Nat) (h : 17 ≤ pc) : xo_6 pc = none := if_pos h
theorem xo_6_ok (pc : Nat) (r : Instr × Nat) (h : xo_6 pc = some r) : decode cX0_isInPound pc = .ok r := by
  rcases Nat.lt_or_ge pc 17 with hl | hl
  · have h1 := List.all_eq_true.mp xo_6_no pc (List.mem_range.mpr hl)
    rw [h] at h1
    simp only [Option.isNone_some, Bool.false_or, Bool.or_eq_true, List.contains_iff_mem, or_assoc] at h1
    rcases h1 with h1
    · have h2 := List.all_eq_true.mp xo_6_c0 pc h1
      rw [h] at h2
      exact of_decide_eq_true h2
  · rw [show xo_6 pc = none from if_pos hl] at h; cases h
/-- X0_placeInRack -/
def xo_7 (pc : Nat) : Option (Instr × Nat) := if 23 ≤ pc then none else if pc < 12 then (if pc < 6 then (if pc < 4 then (if pc < 1 then (if pc = 0 then some (.aload_n 0, 1) else none) else (if pc = 1 then some (.getfield 13, 3) else none)) else (if pc < 5 then (if pc = 4 then some (.iload_n 1, 1) else none) else (if pc = 5 then some (.iload_n 2, 1) else none))) else (if pc < 8 then (if pc < 7 then (if pc = 6 then some (.iastore, 1) else none) else (if pc = 7 then some (.aload_n 0, 1) else none)) else (if pc < 11 then (if pc = 8 then some (.getfield 19, 3) else none) else (if pc = 11 then some (.iload_n 1, 1) else none)))) else (if pc < 18 then (if pc < 14 then (if pc < 13 then (if pc = 12 then some (.iload_n 3, 1) else none) else (if pc = 13 then some (.iastore, 1) else none)) else (if pc < 15 then (if pc = 14 then some (.aload_n 0, 1) else none) else (if pc = 15 then some (.getfield 22, 3) else none))) else (if pc < 21 then (if pc < 19 then (if pc = 18 then some (.iload_n 1, 1) else none) else (if pc = 19 then some (.iload 4, 2) else none)) else (if pc < 22 then (if pc = 21 then some (.iastore, 1) else none) else (if pc = 22 then some (.return_, 1) else none))))
set_option maxRecDepth 100000 in
theorem xo_7_c0 : ([0, 1, 4, 5, 6, 7, 8, 11, 12, 13, 14, 15, 18, 19, 21, 22] : List Nat).all (fun pc => match xo_7 pc with | none => true | some r => decide (decode cX0_placeInRack pc = .ok r)) = true := by decide +kernel
set_option maxRecDepth 100000 in
theorem xo_7_no : (List.range 23).all (fun pc => (xo_7 pc).isNone || (([0, 1, 4, 5, 6, 7, 8, 11, 12, 13, 14, 15, 18, 19, 21, 22] : List Nat).contains pc)) = true := by decide +kernel
theorem xo_7_top (pc : Nat) (h : 23 ≤ pc) : xo_7 pc = none := if_pos h
theorem xo_7_ok (pc : Nat) (r : Instr × Nat) (h : xo_7 pc = some r) : decode cX0_placeInRack pc = .ok r := by
  rcases Nat.lt_or_ge pc 23 with hl | hl
  · have h1 := List.all_eq_true.mp xo_7_no pc (List.mem_range.mpr hl)
    rw [h] at h1
    simp only [Option.isNone_some, Bool.false_or, Bool.or_eq_true, List.contains_iff_mem, or_assoc] at h1
    rcases h1 with h1
    · have h2 := List.all_eq_true.mp xo_7_c0 pc h1
      rw [h] at h2
      exact of_decide_eq_true h2
  · rw [show xo_7 pc = none from if_pos hl] at h; cases h
/-- X0_leaveRack -/
def xo_8 (pc : Nat) : Option (Instr × Nat) := if 33 ≤ pc then none else if pc < 16 then (if pc < 8 then (if pc < 4 then (if pc < 1 then (if pc = 0 then some (.aload_n 0, 1) else none) else (if pc = 1 then some (.getfield 13, 3) else none)) else (if pc < 5 then (if pc = 4 then some (.iload_n 1, 1) else none) else (if pc < 7 then (if pc = 5 then some (.bipush (-6), 2) else none) else (if pc = 7 then some (.iastore, 1) else none)))) else (if pc < 12 then (if pc < 9 then (if pc = 8 then some (.aload_n 0, 1) else none) else (if pc = 9 then some (.getfield 19, 3) else none)) else (if pc < 13 then (if pc = 12 then some (.iload_n 1, 1) else none) else (if pc < 15 then (if pc = 13 then some (.bipush (-6), 2) else none) else (if pc = 15 then some (.iastore, 1) else none))))) else (if pc < 24 then (if pc < 20 then (if pc < 17 then (if pc = 16 then some (.aload_n 0, 1) else none) else (if pc = 17 then some (.getfield 22, 3) else none)) else (if pc < 21 then (if pc = 20 then some (.iload_n 1, 1) else none) else (if pc < 23 then (if pc = 21 then some (.bipush (-6), 2) else none) else (if pc = 23 then some (.iastore, 1) else none)))) else (if pc < 29 then (if pc < 25 then (if pc = 24 then some (.aload_n 0, 1) else none) else (if pc < 28 then (if pc = 25 then some (.getfield 25, 3) else none) else (if pc = 28 then some (.iload_n 1, 1) else none))) else (if pc < 31 then (if pc = 29 then some (.bipush (-6), 2) else none) else (if pc < 32 then (if pc = 31 then some (.iastore, 1) else none) else (if pc = 32 then some (.return_, 1) else none)))))
set_option maxRecDepth 100000 in
theorem xo_8_c0 : ([0, 1, 4, 5, 7, 8, 9, 12, 13, 15, 16, 17, 20, 21, 23, 24, 25, 28, 29, 31, 32] : List Nat).all (fun pc => match xo_8 pc with | none => true | some r => decide (decode cX0_leaveRack pc = .ok r)) = true := by decide +kernel
set_option maxRecDepth 100000 in
theorem xo_8_no : (List.range 33).all (fun pc => (xo_8 pc).isNone || (([0, 1, 4, 5, 7, 8, 9, 12, 13, 15, 16, 17, 20, 21, 23, 24, 25, 28, 29, 31, 32] : List Nat).contains pc)) = true := by decide +kernel
theorem xo_8_top (pc : Nat) (h : 33 ≤ pc) : xo_8 pc = none := if_pos h
theorem xo_8_ok (pc : Nat) (r : Instr × Nat) (h : xo_8 pc = some r) : decode cX0_leaveRack pc = .ok r := by
  rcases Nat.lt_or_ge pc 33 with hl | hl
  · have h1 := List.all_eq_true.mp xo_8_no pc (List.mem_range.mpr hl)
    rw [h] at h1
    simp only [Option.isNone_some, Bool.false_or, Bool.or_eq_true, List.contains_iff_mem, or_assoc] at h1
    rcases h1 with h1
    · have h2 := List.all_eq_true.mp xo_8_c0 pc h1
      rw [h] at h2
      exact of_decide_eq_true h2
  · rw [show xo_8 pc = none from if_pos hl] at h; cases h
/-- X0_isDue -/
def xo_9 (pc : Nat) : Option (Instr × Nat) := if 34 ≤ pc then none else if pc < 18 then (if pc < 7 then (if pc < 4 then (if pc < 1 then (if pc = 0 then some (.aload_n 0, 1) else none) else (if pc = 1 then some (.getfield 13, 3) else none)) else (if pc < 5 then (if pc = 4 then some (.iload_n 1, 1) else none) else (if pc < 6 then (if pc = 5 then some (.iaload, 1) else none) else (if pc = 6 then some (.iload_n 2, 1) else none)))) else (if pc < 11 then (if pc < 10 then (if pc = 7 then some (.if_icmp .ne 25, 3) else none) else (if pc = 10 then some (.aload_n 0, 1) else none)) else (if pc < 12 then (if pc = 11 then some (.iload_n 1, 1) else none) else (if pc < 15 then (if pc = 12 then some (.invokevirtual 44, 3) else none) else (if pc = 15 then some (.ifCond .eq 17, 3) else none))))) else (if pc < 25 then (if pc < 22 then (if pc < 19 then (if pc = 18 then some (.aload_n 0, 1) else none) else (if pc = 19 then some (.getfield 25, 3) else none)) else (if pc < 23 then (if pc = 22 then some (.iload_n 1, 1) else none) else (if pc < 24 then (if pc = 23 then some (.iaload, 1) else none) else (if pc = 24 then some (.iload_n 3, 1) else none)))) else (if pc < 29 then (if pc < 28 then (if pc = 25 then some (.if_icmp .gt 7, 3) else none) else (if pc = 28 then some (.iconst 1, 1) else none)) else (if pc < 32 then (if pc = 29 then some (.goto 4, 3) else none) else (if pc < 33 then (if pc = 32 then some (.iconst 0, 1) else none) else (if pc = 33 then some (.ireturn, 1) else none)))))
set_option maxRecDepth 100000 in
theorem xo_9_c0 : ([0, 1, 4, 5, 6, 7, 10, 11, 12, 15, 18, 19, 22, 23, 24, 25, 28, 29, 32, 33] : List Nat).all (fun pc => match xo_9 pc with | none => true | some r => decide (decode cX0_isDue pc = .ok r)) = true := by decide +kernel
set_option maxRecDepth 100000 in
theorem xo_9_no : (List.range 34).all (fun pc => (xo_9 pc).isNone || (([0, 1, 4, 5, 6, 7, 10, 11, 12, 15, 18, 19, 22, 23, 24, 25, 28, 29, 32, 33] : List Nat).contains pc)) = true := by decide +kernel
theorem xo_9_top (pc : Nat) (h : 34 ≤ pc) : xo_9 pc = none := if_pos h
theorem xo_9_ok (pc : Nat) (r : Instr × Nat) (h : xo_9 pc = some r) : decode cX0_isDue pc = .ok r := by
  rcases Nat.lt_or_ge pc 34 with hl | hl
  · have h1 := List.all_eq_true.mp xo_9_no pc (List.mem_range.mpr hl)
    rw [h] at h1
    simp only [Option.isNone_some, Bool.false_or, Bool.or_eq_true, List.contains_iff_mem, or_assoc] at h1
    rcases h1 with h1
    · have h2 := List.all_eq_true.mp xo_9_c0 pc h1
      rw [h] at h2
      exact of_decide_eq_true h2
  · rw [show xo_9 pc = none from if_pos hl] at h; cases h
/-- X0_countTagged -/
def xo_10 (pc : Nat) : Option (Instr × Nat) := if 34 ≤ pc then none else if pc < 15 then (if pc < 5 then (if pc < 2 then (if pc < 1 then (if pc = 0 then some (.iconst 0, 1) else none) else (if pc = 1 then some (.istore_n 3, 1) else none)) else (if pc < 3 then (if pc = 2 then some (.iconst 0, 1) else none) else (if pc = 3 then some (.istore 4, 2) else none))) else (if pc < 9 then (if pc < 7 then (if pc = 5 then some (.iload 4, 2) else none) else (if pc = 7 then some (.bipush 20, 2) else none)) else (if pc < 12 then (if pc = 9 then some (.if_icmp .ge 23, 3) else none) else (if pc < 13 then (if pc = 12 then some (.aload_n 0, 1) else none) else (if pc = 13 then some (.iload 4, 2) else none))))) else (if pc < 23 then (if pc < 17 then (if pc < 16 then (if pc = 15 then some (.iload_n 1, 1) else none) else (if pc = 16 then some (.iload_n 2, 1) else none)) else (if pc < 20 then (if pc = 17 then some (.invokevirtual 48, 3) else none) else (if pc = 20 then some (.ifCond .eq 6, 3) else none))) else (if pc < 29 then (if pc < 26 then (if pc = 23 then some (.iinc 3 1, 3) else none) else (if pc = 26 then some (.iinc 4 1, 3) else none)) else (if pc < 32 then (if pc = 29 then some (.goto (-24), 3) else none) else (if pc < 33 then (if pc = 32 then some (.iload_n 3, 1) else none) else (if pc = 33 then some (.ireturn, 1) else none)))))
set_option maxRecDepth 100000 in
theorem xo_10_c0 : ([0, 1, 2, 3, 5, 7, 9, 12, 13, 15, 16, 17, 20, 23, 26, 29, 32, 33] : List Nat).all (fun pc => match xo_10 pc with | none => true | some r => decide (decode cX0_countTagged pc = .ok r)) = true := by decide +kernel
set_option maxRecDepth 100000 in
theorem xo_10_no : (List.range 34).all (fun pc => (xo_10 pc).isNone || (([0, 1, 2, 3, 5, 7, 9, 12, 13, 15, 16, 17, 20, 23, 26, 29, 32, 33] : List Nat).contains pc)) = true := by decide +kernel
theorem xo_10_top (pc : Nat) (h : 34 ≤ pc) : xo_10 pc = none := if_pos h
theorem xo_10_ok (pc : Nat) (r : Instr × Nat) (h : xo_10 pc = some r) : decode cX0_countTagged pc = .ok r := by
  rcases Nat.lt_or_ge pc 34 with hl | hl
  · have h1 := List.all_eq_true.mp xo_10_no pc (List.mem_range.mpr hl)
    rw [h] at h1
    simp only [Option.isNone_some, Bool.false_or, Bool.or_eq_true, List.contains_iff_mem, or_assoc] at h1
    rcases h1 with h1
    · have h2 := List.all_eq_true.mp xo_10_c0 pc h1
      rw [h] at h2
      exact of_decide_eq_true h2
  · rw [show xo_10 pc = none from if_pos hl] at h; cases h
/-- X0_takeTagged -/
def xo_11 (pc : Nat) : Option (Instr × Nat) := if 61 ≤ pc then none else if pc < 30 then (if pc < 14 then (if pc < 6 then (if pc < 3 then (if pc < 1 then (if pc = 0 then some (.iconst 0, 1) else none) else (if pc = 1 then some (.istore 4, 2) else none)) else (if pc < 4 then (if pc = 3 then some (.iconst 0, 1) else none) else (if pc = 4 then some (.istore 5, 2) else none))) else (if pc < 10 then (if pc < 8 then (if pc = 6 then some (.iload 5, 2) else none) else (if pc = 8 then some (.bipush 20, 2) else none)) else (if pc < 13 then (if pc = 10 then some (.if_icmp .ge 37, 3) else none) else (if pc = 13 then some (.aload_n 0, 1) else none)))) else (if pc < 21 then (if pc < 17 then (if pc < 16 then (if pc = 14 then some (.iload 5, 2) else none) else (if pc = 16 then some (.iload_n 1, 1) else none)) else (if pc < 18 then (if pc = 17 then some (.iload_n 2, 1) else none) else (if pc = 18 then some (.invokevirtual 48, 3) else none))) else (if pc < 25 then (if pc < 24 then (if pc = 21 then some (.ifCond .eq 20, 3) else none) else (if pc = 24 then some (.aload_n 0, 1) else none)) else (if pc < 27 then (if pc = 25 then some (.iload 5, 2) else none) else (if pc = 27 then some (.invokevirtual 52, 3) else none))))) else (if pc < 47 then (if pc < 37 then (if pc < 34 then (if pc < 31 then (if pc = 30 then some (.aload_n 0, 1) else none) else (if pc = 31 then some (.getfield 28, 3) else none)) else (if pc < 36 then (if pc = 34 then some (.iload 5, 2) else none) else (if pc = 36 then some (.iload_n 3, 1) else none))) else (if pc < 41 then (if pc < 38 then (if pc = 37 then some (.iastore, 1) else none) else (if pc = 38 then some (.iinc 4 1, 3) else none)) else (if pc < 44 then (if pc = 41 then some (.iinc 5 1, 3) else none) else (if pc = 44 then some (.goto (-38), 3) else none)))) else (if pc < 54 then (if pc < 49 then (if pc < 48 then (if pc = 47 then some (.aload_n 0, 1) else none) else (if pc = 48 then some (.dup, 1) else none)) else (if pc < 52 then (if pc = 49 then some (.getfield 40, 3) else none) else (if pc = 52 then some (.iload 4, 2) else none))) else (if pc < 58 then (if pc < 55 then (if pc = 54 then some (.iadd, 1) else none) else (if pc = 55 then some (.putfield 40, 3) else none)) else (if pc < 60 then (if pc = 58 then some (.iload 4, 2) else none) else (if pc = 60 then some (.ireturn, 1) else none)))))
set_option maxRecDepth 100000 in
theorem xo_11_c0 : ([0, 1, 3, 4, 6, 8, 10, 13, 14, 16, 17, 18, 21, 24, 25, 27, 30, 31, 34, 36, 37, 38, 41, 44, 47, 48, 49, 52, 54, 55, 58, 60] : List Nat).all (fun pc => match xo_11 pc with | none => true | some r => decide (decode cX0_takeTagged pc = .ok r)) = true := by decide +kernel
set_option maxRecDepth 100000 in
theorem xo_11_no : (List.range 61).all (fun pc => (xo_11 pc).isNone || (([0, 1, 3, 4, 6, 8, 10, 13, 14, 16, 17, 18, 21, 24, 25, 27, 30, 31, 34, 36, 37, 38, 41, 44, 47, 48, 49, 52, 54, 55, 58, 60] : List Nat).contains pc)) = true := by decide +kernel
theorem xo_11_top (pc : Nat) (h : 61 ≤ pc) : xo_11 pc = none := if_pos h
theorem xo_11_ok (pc : Nat) (r : Instr × Nat) (h : xo_11 pc = some r) : decode cX0_takeTagged pc = .ok r := by
  rcases Nat.lt_or_ge pc 61 with hl | hl
  · have h1 := List.all_eq_true.mp xo_11_no pc (List.mem_range.mpr hl)
    rw [h] at h1
    simp only [Option.isNone_some, Bool.false_or, Bool.or_eq_true, List.contains_iff_mem, or_assoc] at h1
    rcases h1 with h1
    · have h2 := List.all_eq_true.mp xo_11_c0 pc h1
      rw [h] at h2
      exact of_decide_eq_true h2
  · rw [show xo_11 pc = none from if_pos hl] at h; cases h
/-- X0_sellFromPound -/
def xo_12 (pc : Nat) : Option (Instr × Nat) := if 51 ≤ pc then none else if pc < 26 then (if pc < 10 then (if pc < 3 then (if pc < 1 then (if pc = 0 then some (.iconst 0, 1) else none) else (if pc < 2 then (if pc = 1 then some (.istore_n 2, 1) else none) else (if pc = 2 then some (.iload_n 2, 1) else none))) else (if pc < 8 then (if pc < 5 then (if pc = 3 then some (.bipush 20, 2) else none) else (if pc = 5 then some (.if_icmp .ge 45, 3) else none)) else (if pc < 9 then (if pc = 8 then some (.aload_n 0, 1) else none) else (if pc = 9 then some (.iload_n 2, 1) else none)))) else (if pc < 20 then (if pc < 16 then (if pc < 13 then (if pc = 10 then some (.invokevirtual 56, 3) else none) else (if pc = 13 then some (.ifCond .eq 31, 3) else none)) else (if pc < 17 then (if pc = 16 then some (.aload_n 0, 1) else none) else (if pc = 17 then some (.getfield 28, 3) else none))) else (if pc < 22 then (if pc < 21 then (if pc = 20 then some (.iload_n 2, 1) else none) else (if pc = 21 then some (.iaload, 1) else none)) else (if pc < 23 then (if pc = 22 then some (.iload_n 1, 1) else none) else (if pc = 23 then some (.if_icmp .gt 21, 3) else none))))) else (if pc < 39 then (if pc < 33 then (if pc < 30 then (if pc < 27 then (if pc = 26 then some (.aload_n 0, 1) else none) else (if pc = 27 then some (.getfield 28, 3) else none)) else (if pc < 31 then (if pc = 30 then some (.iload_n 2, 1) else none) else (if pc = 31 then some (.bipush (-6), 2) else none))) else (if pc < 35 then (if pc < 34 then (if pc = 33 then some (.iastore, 1) else none) else (if pc = 34 then some (.aload_n 0, 1) else none)) else (if pc < 38 then (if pc = 35 then some (.getfield 31, 3) else none) else (if pc = 38 then some (.iload_n 2, 1) else none)))) else (if pc < 43 then (if pc < 41 then (if pc < 40 then (if pc = 39 then some (.dup2, 1) else none) else (if pc = 40 then some (.iaload, 1) else none)) else (if pc < 42 then (if pc = 41 then some (.iconst 1, 1) else none) else (if pc = 42 then some (.iadd, 1) else none))) else (if pc < 47 then (if pc < 44 then (if pc = 43 then some (.iastore, 1) else none) else (if pc = 44 then some (.iinc 2 1, 3) else none)) else (if pc < 50 then (if pc = 47 then some (.goto (-45), 3) else none) else (if pc = 50 then some (.return_, 1) else none)))))
set_option maxRecDepth 100000 in
theorem xo_12_c0 : ([0, 1, 2, 3, 5, 8, 9, 10, 13, 16, 17, 20, 21, 22, 23, 26, 27, 30, 31, 33, 34, 35, 38, 39, 40, 41, 42, 43, 44, 47, 50] : List Nat).all (fun pc => match xo_12 pc with | none => true | some r => decide (decode cX0_sellFromPound pc = .ok r)) = true := by decide +kernel
set_option maxRecDepth 100000 in
theorem xo_12_no : (List.range 51).all (fun pc => (xo_12 pc).isNone || (([0, 1, 2, 3, 5, 8, 9, 10, 13, 16, 17, 20, 21, 22, 23, 26, 27, 30, 31, 33, 34, 35, 38, 39, 40, 41, 42, 43, 44, 47, 50] : List Nat).contains pc)) = true := by decide +kernel
theorem xo_12_top (pc : Nat) (h : 51 ≤ pc) : xo_12 pc = none := if_pos h
theorem xo_12_ok (pc : Nat) (r : Instr × Nat) (h : xo_12 pc = some r) : decode cX0_sellFromPound pc = .ok r := by
  rcases Nat.lt_or_ge pc 51 with hl | hl
  · have h1 := List.all_eq_true.mp xo_12_no pc (List.mem_range.mpr hl)
    rw [h] at h1
    simp only [Option.isNone_some, Bool.false_or, Bool.or_eq_true, List.contains_iff_mem, or_assoc] at h1
    rcases h1 with h1
    · have h2 := List.all_eq_true.mp xo_12_c0 pc h1
      rw [h] at h2
      exact of_decide_eq_true h2
  · rw [show xo_12 pc = none from if_pos hl] at h; cases h
/-- X0_racksTaken -/
def xo_13 (pc : Nat) : Option (Instr × Nat) := if 39 ≤ pc then none else if pc < 20 then (if pc < 7 then (if pc < 3 then (if pc < 1 then (if pc = 0 then some (.iconst 0, 1) else none) else (if pc < 2 then (if pc = 1 then some (.istore_n 2, 1) else none) else (if pc = 2 then some (.iconst 0, 1) else none))) else (if pc < 4 then (if pc = 3 then some (.istore_n 3, 1) else none) else (if pc < 5 then (if pc = 4 then some (.iload_n 3, 1) else none) else (if pc = 5 then some (.bipush 20, 2) else none)))) else (if pc < 14 then (if pc < 10 then (if pc = 7 then some (.if_icmp .ge 30, 3) else none) else (if pc < 11 then (if pc = 10 then some (.aload_n 0, 1) else none) else (if pc = 11 then some (.getfield 13, 3) else none))) else (if pc < 16 then (if pc < 15 then (if pc = 14 then some (.iload_n 3, 1) else none) else (if pc = 15 then some (.iaload, 1) else none)) else (if pc < 17 then (if pc = 16 then some (.iload_n 1, 1) else none) else (if pc = 17 then some (.if_icmp .ne 14, 3) else none))))) else (if pc < 28 then (if pc < 23 then (if pc < 21 then (if pc = 20 then some (.iload_n 2, 1) else none) else (if pc < 22 then (if pc = 21 then some (.iconst 1, 1) else none) else (if pc = 22 then some (.aload_n 0, 1) else none))) else (if pc < 26 then (if pc = 23 then some (.getfield 19, 3) else none) else (if pc < 27 then (if pc = 26 then some (.iload_n 3, 1) else none) else (if pc = 27 then some (.iaload, 1) else none)))) else (if pc < 31 then (if pc < 29 then (if pc = 28 then some (.ishl, 1) else none) else (if pc < 30 then (if pc = 29 then some (.ior, 1) else none) else (if pc = 30 then some (.istore_n 2, 1) else none))) else (if pc < 37 then (if pc < 34 then (if pc = 31 then some (.iinc 3 1, 3) else none) else (if pc = 34 then some (.goto (-30), 3) else none)) else (if pc < 38 then (if pc = 37 then some (.iload_n 2, 1) else none) else (if pc = 38 then some (.ireturn, 1) else none)))))
set_option maxRecDepth 100000 in
theorem xo_13_c0 : ([0, 1, 2, 3, 4, 5, 7, 10, 11, 14, 15, 16, 17, 20, 21, 22, 23, 26, 27, 28, 29, 30, 31, 34, 37, 38] : List Nat).all (fun pc => match xo_13 pc with | none => true | some r => decide (decode cX0_racksTaken pc = .ok r)) = true := by decide +kernel
set_option maxRecDepth 100000 in
theorem xo_13_no : (List.range 39).all (fun pc => (xo_13 pc).isNone || (([0, 1, 2, 3, 4, 5, 7, 10, 11, 14, 15, 16, 17, 20, 21, 22, 23, 26, 27, 28, 29, 30, 31, 34, 37, 38] : List Nat).contains pc)) = true := by decide +kernel
theorem xo_13_top (pc : Nat) (h : 39 ≤ pc) : xo_13 pc = none := if_pos h
theorem xo_13_ok (pc : Nat) (r : Instr × Nat) (h : xo_13 pc = some r) : decode cX0_racksTaken pc = .ok r := by
  rcases Nat.lt_or_ge pc 39 with hl | hl
  · have h1 := List.all_eq_true.mp xo_13_no pc (List.mem_range.mpr hl)
    rw [h] at h1
    simp only [Option.isNone_some, Bool.false_or, Bool.or_eq_true, List.contains_iff_mem, or_assoc] at h1
    rcases h1 with h1
    · have h2 := List.all_eq_true.mp xo_13_c0 pc h1
      rw [h] at h2
      exact of_decide_eq_true h2
  · rw [show xo_13 pc = none from if_pos hl] at h; cases h
/-- X0_racksTagged -/
def xo_14 (pc : Nat) : Option (Instr × Nat) := if 47 ≤ pc then none else if pc < 22 then (if pc < 10 then (if pc < 3 then (if pc < 1 then (if pc = 0 then some (.iconst 0, 1) else none) else (if pc < 2 then (if pc = 1 then some (.istore_n 2, 1) else none) else (if pc = 2 then some (.iconst 0, 1) else none))) else (if pc < 5 then (if pc < 4 then (if pc = 3 then some (.istore_n 3, 1) else none) else (if pc = 4 then some (.iload_n 3, 1) else none)) else (if pc < 7 then (if pc = 5 then some (.bipush 20, 2) else none) else (if pc = 7 then some (.if_icmp .ge 38, 3) else none)))) else (if pc < 16 then (if pc < 14 then (if pc < 11 then (if pc = 10 then some (.aload_n 0, 1) else none) else (if pc = 11 then some (.getfield 13, 3) else none)) else (if pc < 15 then (if pc = 14 then some (.iload_n 3, 1) else none) else (if pc = 15 then some (.iaload, 1) else none))) else (if pc < 20 then (if pc < 17 then (if pc = 16 then some (.iload_n 1, 1) else none) else (if pc = 17 then some (.if_icmp .ne 22, 3) else none)) else (if pc < 21 then (if pc = 20 then some (.aload_n 0, 1) else none) else (if pc = 21 then some (.iload_n 3, 1) else none))))) else (if pc < 35 then (if pc < 29 then (if pc < 25 then (if pc = 22 then some (.invokevirtual 44, 3) else none) else (if pc < 28 then (if pc = 25 then some (.ifCond .eq 14, 3) else none) else (if pc = 28 then some (.iload_n 2, 1) else none))) else (if pc < 31 then (if pc < 30 then (if pc = 29 then some (.iconst 1, 1) else none) else (if pc = 30 then some (.aload_n 0, 1) else none)) else (if pc < 34 then (if pc = 31 then some (.getfield 19, 3) else none) else (if pc = 34 then some (.iload_n 3, 1) else none)))) else (if pc < 39 then (if pc < 37 then (if pc < 36 then (if pc = 35 then some (.iaload, 1) else none) else (if pc = 36 then some (.ishl, 1) else none)) else (if pc < 38 then (if pc = 37 then some (.ior, 1) else none) else (if pc = 38 then some (.istore_n 2, 1) else none))) else (if pc < 45 then (if pc < 42 then (if pc = 39 then some (.iinc 3 1, 3) else none) else (if pc = 42 then some (.goto (-38), 3) else none)) else (if pc < 46 then (if pc = 45 then some (.iload_n 2, 1) else none) else (if pc = 46 then some (.ireturn, 1) else none)))))
set_option maxRecDepth 100000 in
theorem xo_14_c0 : ([0, 1, 2, 3, 4, 5, 7, 10, 11, 14, 15, 16, 17, 20, 21, 22, 25, 28, 29, 30, 31, 34, 35, 36, 37, 38, 39, 42, 45, 46] : List Nat).all (fun pc => match xo_14 pc with | none => true | some r => decide (decode cX0_racksTagged pc = .ok r)) = true := by decide +kernel
set_option maxRecDepth 100000 in
theorem xo_14_no : (List.range 47).all (fun pc => (xo_14 pc).isNone || (([0, 1, 2, 3, 4, 5, 7, 10, 11, 14, 15, 16, 17, 20, 21, 22, 25, 28, 29, 30, 31, 34, 35, 36, 37, 38, 39, 42, 45, 46] : List Nat).contains pc)) = true := by decide +kernel
theorem xo_14_top (pc : Nat) (h : 47 ≤ pc) : xo_14 pc = none := if_pos h
theorem xo_14_ok (pc : Nat) (r : Instr × Nat) (h : xo_14 pc = some r) : decode cX0_racksTagged pc = .ok r := by
  rcases Nat.lt_or_ge pc 47 with hl | hl
  · have h1 := List.all_eq_true.mp xo_14_no pc (List.mem_range.mpr hl)
    rw [h] at h1
    simp only [Option.isNone_some, Bool.false_or, Bool.or_eq_true, List.contains_iff_mem, or_assoc] at h1
    rcases h1 with h1
    · have h2 := List.all_eq_true.mp xo_14_c0 pc h1
      rw [h] at h2
      exact of_decide_eq_true h2
  · rw [show xo_14 pc = none from if_pos hl] at h; cases h
/-- X6_countPeople -/
def xo_15 (pc : Nat) : Option (Instr × Nat) := if 29 ≤ pc then none else if pc < 11 then (if pc < 4 then (if pc < 2 then (if pc < 1 then (if pc = 0 then some (.iconst 0, 1) else none) else (if pc = 1 then some (.istore_n 1, 1) else none)) else (if pc < 3 then (if pc = 2 then some (.iconst 0, 1) else none) else (if pc = 3 then some (.istore_n 2, 1) else none))) else (if pc < 6 then (if pc < 5 then (if pc = 4 then some (.iload_n 2, 1) else none) else (if pc = 5 then some (.aload_n 0, 1) else none)) else (if pc < 7 then (if pc = 6 then some (.arraylength, 1) else none) else (if pc < 10 then (if pc = 7 then some (.if_icmp .ge 20, 3) else none) else (if pc = 10 then some (.aload_n 0, 1) else none))))) else (if pc < 18 then (if pc < 13 then (if pc < 12 then (if pc = 11 then some (.iload_n 2, 1) else none) else (if pc = 12 then some (.iaload, 1) else none)) else (if pc < 15 then (if pc = 13 then some (.bipush (-6), 2) else none) else (if pc = 15 then some (.if_icmp .eq 6, 3) else none))) else (if pc < 24 then (if pc < 21 then (if pc = 18 then some (.iinc 1 1, 3) else none) else (if pc = 21 then some (.iinc 2 1, 3) else none)) else (if pc < 27 then (if pc = 24 then some (.goto (-20), 3) else none) else (if pc < 28 then (if pc = 27 then some (.iload_n 1, 1) else none) else (if pc = 28 then some (.ireturn, 1) else none)))))
set_option maxRecDepth 100000 in
theorem xo_15_c0 : ([0, 1, 2, 3, 4, 5, 6, 7, 10, 11, 12, 13, 15, 18, 21, 24, 27, 28] : List Nat).all (fun pc => match xo_15 pc with | none => true | some r => decide (decode cX6_countPeople pc = .ok r)) = true := by decide +kernel
set_option maxRecDepth 100000 in
theorem xo_15_no : (List.range 29).all (fun pc => (xo_15 pc).isNone || (([0, 1, 2, 3, 4, 5, 6, 7, 10, 11, 12, 13, 15, 18, 21, 24, 27, 28] : List Nat).contains pc)) = true := by decide +kernel
theorem xo_15_top (pc : Nat) (h : 29 ≤ pc) : xo_15 pc = none := if_pos h
theorem xo_15_ok (pc : Nat) (r : Instr × Nat) (h : xo_15 pc = some r) : decode cX6_countPeople pc = .ok r := by
  rcases Nat.lt_or_ge pc 29 with hl | hl
  · have h1 := List.all_eq_true.mp xo_15_no pc (List.mem_range.mpr hl)
    rw [h] at h1
    simp only [Option.isNone_some, Bool.false_or, Bool.or_eq_true, List.contains_iff_mem, or_assoc] at h1
    rcases h1 with h1
    · have h2 := List.all_eq_true.mp xo_15_c0 pc h1
      rw [h] at h2
      exact of_decide_eq_true h2
  · rw [show xo_15 pc = none from if_pos hl] at h; cases h
/-- X0_countInRacks -/
def xo_16 (pc : Nat) : Option (Instr × Nat) := if 8 ≤ pc then none else if pc < 4 then (if pc < 1 then (if pc = 0 then some (.aload_n 0, 1) else none) else (if pc = 1 then some (.getfield 13, 3) else none)) else (if pc < 7 then (if pc = 4 then some (.invokestatic 59, 3) else none) else (if pc = 7 then some (.ireturn, 1) else none))
set_option maxRecDepth 100000 in
theorem xo_16_c0 : ([0, 1, 4, 7] : List Nat).all (fun pc => match xo_16 pc with | none => true | some r => decide (decode cX0_countInRacks pc = .ok r)) = true := by decide +kernel
set_option maxRecDepth 100000 in
theorem xo_16_no : (List.range 8).all (fun pc => (xo_16 pc).isNone || (([0, 1, 4, 7] : List Nat).contains pc)) = true := by decide +kernel
theorem xo_16_top (pc : Nat) (h : 8 ≤ pc) : xo_16 pc = none := if_pos h
theorem xo_16_ok (pc : Nat) (r : Instr × Nat) (h : xo_16 pc = some r) : decode cX0_countInRacks pc = .ok r := by
  rcases Nat.lt_or_ge pc 8 with hl | hl
  · have h1 := List.all_eq_true.mp xo_16_no pc (List.mem_range.mpr hl)
    rw [h] at h1
    simp only [Option.isNone_some, Bool.false_or, Bool.or_eq_true, List.contains_iff_mem, or_assoc] at h1
    rcases h1 with h1
    · have h2 := List.all_eq_true.mp xo_16_c0 pc h1
      rw [h] at h2
      exact of_decide_eq_true h2
  · rw [show xo_16 pc = none from if_pos hl] at h; cases h
/-- X0_countAllTagged -/
def xo_17 (pc : Nat) : Option (Instr × Nat) := if 8 ≤ pc then none else if pc < 4 then (if pc < 1 then (if pc = 0 then some (.aload_n 0, 1) else none) else (if pc = 1 then some (.getfield 25, 3) else none)) else (if pc < 7 then (if pc = 4 then some (.invokestatic 59, 3) else none) else (if pc = 7 then some (.ireturn, 1) else none))
set_option maxRecDepth 100000 in
theorem xo_17_c0 : ([0, 1, 4, 7] : List Nat).all (fun pc => match xo_17 pc with | none => true | some r => decide (decode cX0_countAllTagged pc = .ok r)) = true := by decide +kernel
set_option maxRecDepth 100000 in
theorem xo_17_no : (List.range 8).all (fun pc => (xo_17 pc).isNone || (([0, 1, 4, 7] : List Nat).contains pc)) = true := by decide +kernel
theorem xo_17_top (pc : Nat) (h : 8 ≤ pc) : xo_17 pc = none := if_pos h
theorem xo_17_ok (pc : Nat) (r : Instr × Nat) (h : xo_17 pc = some r) : decode cX0_countAllTagged pc = .ok r := by
  rcases Nat.lt_or_ge pc 8 with hl | hl
  · have h1 := List.all_eq_true.mp xo_17_no pc (List.mem_range.mpr hl)
    rw [h] at h1
    simp only [Option.isNone_some, Bool.false_or, Bool.or_eq_true, List.contains_iff_mem, or_assoc] at h1
    rcases h1 with h1
    · have h2 := List.all_eq_true.mp xo_17_c0 pc h1
      rw [h] at h2
      exact of_decide_eq_true h2
  · rw [show xo_17 pc = none from if_pos hl] at h; cases h
/-- X0_countInPound -/
def xo_18 (pc : Nat) : Option (Instr × Nat) := if 8 ≤ pc then none else if pc < 4 then (if pc < 1 then (if pc = 0 then some (.aload_n 0, 1) else none) else (if pc = 1 then some (.getfield 28, 3) else none)) else (if pc < 7 then (if pc = 4 then some (.invokestatic 59, 3) else none) else (if pc = 7 then some (.ireturn, 1) else none))
set_option maxRecDepth 100000 in
theorem xo_18_c0 : ([0, 1, 4, 7] : List Nat).all (fun pc => match xo_18 pc with | none => true | some r => decide (decode cX0_countInPound pc = .ok r)) = true := by decide +kernel
set_option maxRecDepth 100000 in
theorem xo_18_no : (List.range 8).all (fun pc => (xo_18 pc).isNone || (([0, 1, 4, 7] : List Nat).contains pc)) = true := by decide +kernel
theorem xo_18_top (pc : Nat) (h : 8 ≤ pc) : xo_18 pc = none := if_pos h
theorem xo_18_ok (pc : Nat) (r : Instr × Nat) (h : xo_18 pc = some r) : decode cX0_countInPound pc = .ok r := by
  rcases Nat.lt_or_ge pc 8 with hl | hl
  · have h1 := List.all_eq_true.mp xo_18_no pc (List.mem_range.mpr hl)
    rw [h] at h1
    simp only [Option.isNone_some, Bool.false_or, Bool.or_eq_true, List.contains_iff_mem, or_assoc] at h1
    rcases h1 with h1
    · have h2 := List.all_eq_true.mp xo_18_c0 pc h1
      rw [h] at h2
      exact of_decide_eq_true h2
  · rw [show xo_18 pc = none from if_pos hl] at h; cases h
/-- X0_countSold -/
def xo_19 (pc : Nat) : Option (Instr × Nat) := if 27 ≤ pc then none else if pc < 12 then (if pc < 4 then (if pc < 2 then (if pc < 1 then (if pc = 0 then some (.iconst 0, 1) else none) else (if pc = 1 then some (.istore_n 1, 1) else none)) else (if pc < 3 then (if pc = 2 then some (.iconst 0, 1) else none) else (if pc = 3 then some (.istore_n 2, 1) else none))) else (if pc < 7 then (if pc < 5 then (if pc = 4 then some (.iload_n 2, 1) else none) else (if pc = 5 then some (.bipush 20, 2) else none)) else (if pc < 10 then (if pc = 7 then some (.if_icmp .ge 18, 3) else none) else (if pc < 11 then (if pc = 10 then some (.iload_n 1, 1) else none) else (if pc = 11 then some (.aload_n 0, 1) else none))))) else (if pc < 18 then (if pc < 16 then (if pc < 15 then (if pc = 12 then some (.getfield 31, 3) else none) else (if pc = 15 then some (.iload_n 2, 1) else none)) else (if pc < 17 then (if pc = 16 then some (.iaload, 1) else none) else (if pc = 17 then some (.iadd, 1) else none))) else (if pc < 22 then (if pc < 19 then (if pc = 18 then some (.istore_n 1, 1) else none) else (if pc = 19 then some (.iinc 2 1, 3) else none)) else (if pc < 25 then (if pc = 22 then some (.goto (-18), 3) else none) else (if pc < 26 then (if pc = 25 then some (.iload_n 1, 1) else none) else (if pc = 26 then some (.ireturn, 1) else none)))))
set_option maxRecDepth 100000 in
theorem xo_19_c0 : ([0, 1, 2, 3, 4, 5, 7, 10, 11, 12, 15, 16, 17, 18, 19, 22, 25, 26] : List Nat).all (fun pc => match xo_19 pc with | none => true | some r => decide (decode cX0_countSold pc = .ok r)) = true := by decide +kernel
set_option maxRecDepth 100000 in
theorem xo_19_no : (List.range 27).all (fun pc => (xo_19 pc).isNone || (([0, 1, 2, 3, 4, 5, 7, 10, 11, 12, 15, 16, 17, 18, 19, 22, 25, 26] : List Nat).contains pc)) = true := by decide +kernel
theorem xo_19_top (pc : Nat) (h : 27 ≤ pc) : xo_19 pc = none := if_pos h
theorem xo_19_ok (pc : Nat) (r : Instr × Nat) (h : xo_19 pc = some r) : decode cX0_countSold pc = .ok r := by
  rcases Nat.lt_or_ge pc 27 with hl | hl
  · have h1 := List.all_eq_true.mp xo_19_no pc (List.mem_range.mpr hl)
    rw [h] at h1
    simp only [Option.isNone_some, Bool.false_or, Bool.or_eq_true, List.contains_iff_mem, or_assoc] at h1
    rcases h1 with h1
    · have h2 := List.all_eq_true.mp xo_19_c0 pc h1
      rw [h] at h2
      exact of_decide_eq_true h2
  · rw [show xo_19 pc = none from if_pos hl] at h; cases h
/-- X3_init -/
def xo_20 (pc : Nat) : Option (Instr × Nat) := if 13 ≤ pc then none else if pc < 5 then (if pc < 1 then (if pc = 0 then some (.aload_n 0, 1) else none) else (if pc < 4 then (if pc = 1 then some (.invokespecial 3, 3) else none) else (if pc = 4 then some (.aload_n 0, 1) else none))) else (if pc < 9 then (if pc < 7 then (if pc = 5 then some (.bipush 60, 2) else none) else (if pc = 7 then some (.newarray .char, 2) else none)) else (if pc < 12 then (if pc = 9 then some (.putfield 9, 3) else none) else (if pc = 12 then some (.return_, 1) else none)))
set_option maxRecDepth 100000 in
theorem xo_20_c0 : ([0, 1, 4, 5, 7, 9, 12] : List Nat).all (fun pc => match xo_20 pc with | none => true | some r => decide (decode cX3_init pc = .ok r)) = true := by decide +kernel
set_option maxRecDepth 100000 in
theorem xo_20_no : (List.range 13).all (fun pc => (xo_20 pc).isNone || (([0, 1, 4, 5, 7, 9, 12] : List Nat).contains pc)) = true := by decide +kernel
theorem xo_20_top (pc : Nat) (h : 13 ≤ pc) : xo_20 pc = none := if_pos h
theorem xo_20_ok (pc : Nat) (r : Instr × Nat) (h : xo_20 pc = some r) : decode cX3_init pc = .ok r := by
  rcases Nat.lt_or_ge pc 13 with hl | hl
  · have h1 := List.all_eq_true.mp xo_20_no pc (List.mem_range.mpr hl)
    rw [h] at h1
    simp only [Option.isNone_some, Bool.false_or, Bool.or_eq_true, List.contains_iff_mem, or_assoc] at h1
    rcases h1 with h1
    · have h2 := List.all_eq_true.mp xo_20_c0 pc h1
      rw [h] at h2
      exact of_decide_eq_true h2
  · rw [show xo_20 pc = none from if_pos hl] at h; cases h
/-- X1_init -/
def xo_21 (pc : Nat) : Option (Instr × Nat) := if 16 ≤ pc then none else if pc < 8 then (if pc < 4 then (if pc < 1 then (if pc = 0 then some (.aload_n 0, 1) else none) else (if pc = 1 then some (.invokespecial 3, 3) else none)) else (if pc < 5 then (if pc = 4 then some (.aload_n 0, 1) else none) else (if pc = 5 then some (.new 9, 3) else none))) else (if pc < 12 then (if pc < 9 then (if pc = 8 then some (.dup, 1) else none) else (if pc = 9 then some (.invokespecial 11, 3) else none)) else (if pc < 15 then (if pc = 12 then some (.putfield 12, 3) else none) else (if pc = 15 then some (.return_, 1) else none)))
set_option maxRecDepth 100000 in
theorem xo_21_c0 : ([0, 1, 4, 5, 8, 9, 12, 15] : List Nat).all (fun pc => match xo_21 pc with | none => true | some r => decide (decode cX1_init pc = .ok r)) = true := by decide +kernel
set_option maxRecDepth 100000 in
theorem xo_21_no : (List.range 16).all (fun pc => (xo_21 pc).isNone || (([0, 1, 4, 5, 8, 9, 12, 15] : List Nat).contains pc)) = true := by decide +kernel
theorem xo_21_top (pc : Nat) (h : 16 ≤ pc) : xo_21 pc = none := if_pos h
theorem xo_21_ok (pc : Nat) (r : Instr × Nat) (h : xo_21 pc = some r) : decode cX1_init pc = .ok r := by
  rcases Nat.lt_or_ge pc 16 with hl | hl
  · have h1 := List.all_eq_true.mp xo_21_no pc (List.mem_range.mpr hl)
    rw [h] at h1
    simp only [Option.isNone_some, Bool.false_or, Bool.or_eq_true, List.contains_iff_mem, or_assoc] at h1
    rcases h1 with h1
    · have h2 := List.all_eq_true.mp xo_21_c0 pc h1
      rw [h] at h2
      exact of_decide_eq_true h2
  · rw [show xo_21 pc = none from if_pos hl] at h; cases h
/-- X1_goToStart -/
def xo_22 (pc : Nat) : Option (Instr × Nat) := if 6 ≤ pc then none else if pc < 2 then (if pc < 1 then (if pc = 0 then some (.aload_n 0, 1) else none) else (if pc = 1 then some (.iconst 0, 1) else none)) else (if pc < 5 then (if pc = 2 then some (.putfield 25, 3) else none) else (if pc = 5 then some (.return_, 1) else none))
set_option maxRecDepth 100000 in
theorem xo_22_c0 : ([0, 1, 2, 5] : List Nat).all (fun pc => match xo_22 pc with | none => true | some r => decide (decode cX1_goToStart pc = .ok r)) = true := by decide +kernel
set_option maxRecDepth 100000 in
theorem xo_22_no : (List.range 6).all (fun pc => (xo_22 pc).isNone || (([0, 1, 2, 5] : List Nat).contains pc)) = true := by decide +kernel
theorem xo_22_top (pc : Nat) (h : 6 ≤ pc) : xo_22 pc = none := if_pos h
theorem xo_22_ok (pc : Nat) (r : Instr × Nat) (h : xo_22 pc = some r) : decode cX1_goToStart pc = .ok r := by
  rcases Nat.lt_or_ge pc 6 with hl | hl
  · have h1 := List.all_eq_true.mp xo_22_no pc (List.mem_range.mpr hl)
    rw [h] at h1
    simp only [Option.isNone_some, Bool.false_or, Bool.or_eq_true, List.contains_iff_mem, or_assoc] at h1
    rcases h1 with h1
    · have h2 := List.all_eq_true.mp xo_22_c0 pc h1
      rw [h] at h2
      exact of_decide_eq_true h2
  · rw [show xo_22 pc = none from if_pos hl] at h; cases h
/-- X3_characterAt -/
def xo_23 (pc : Nat) : Option (Instr × Nat) := if 24 ≤ pc then none else if pc < 13 then (if pc < 5 then (if pc < 1 then (if pc = 0 then some (.iconst 0, 1) else none) else (if pc < 2 then (if pc = 1 then some (.iload_n 1, 1) else none) else (if pc = 2 then some (.if_icmp .gt 20, 3) else none))) else (if pc < 7 then (if pc < 6 then (if pc = 5 then some (.iload_n 1, 1) else none) else (if pc = 6 then some (.aload_n 0, 1) else none)) else (if pc < 10 then (if pc = 7 then some (.getfield 19, 3) else none) else (if pc = 10 then some (.if_icmp .ge 12, 3) else none)))) else (if pc < 18 then (if pc < 14 then (if pc = 13 then some (.aload_n 0, 1) else none) else (if pc < 17 then (if pc = 14 then some (.getfield 9, 3) else none) else (if pc = 17 then some (.iload_n 1, 1) else none))) else (if pc < 22 then (if pc < 19 then (if pc = 18 then some (.caload, 1) else none) else (if pc = 19 then some (.goto 4, 3) else none)) else (if pc < 23 then (if pc = 22 then some (.iconst 0, 1) else none) else (if pc = 23 then some (.ireturn, 1) else none))))
set_option maxRecDepth 100000 in
theorem xo_23_c0 : ([0, 1, 2, 5, 6, 7, 10, 13, 14, 17, 18, 19, 22, 23] : List Nat).all (fun pc => match xo_23 pc with | none => true | some r => decide (decode cX3_characterAt pc = .ok r)) = true := by decide +kernel
set_option maxRecDepth 100000 in
theorem xo_23_no : (List.range 24).all (fun pc => (xo_23 pc).isNone || (([0, 1, 2, 5, 6, 7, 10, 13, 14, 17, 18, 19, 22, 23] : List Nat).contains pc)) = true := by decide +kernel
theorem xo_23_top (pc : Nat) (h : 24 ≤ pc) : xo_23 pc = none := if_pos h
theorem xo_23_ok (pc : Nat) (r : Instr × Nat) (h : xo_23 pc = some r) : decode cX3_characterAt pc = .ok r := by
  rcases Nat.lt_or_ge pc 24 with hl | hl
  · have h1 := List.all_eq_true.mp xo_23_no pc (List.mem_range.mpr hl)
    rw [h] at h1
    simp only [Option.isNone_some, Bool.false_or, Bool.or_eq_true, List.contains_iff_mem, or_assoc] at h1
    rcases h1 with h1
    · have h2 := List.all_eq_true.mp xo_23_c0 pc h1
      rw [h] at h2
      exact of_decide_eq_true h2
  · rw [show xo_23 pc = none from if_pos hl] at h; cases h
/-- X1_readFrom -/
def xo_24 (pc : Nat) : Option (Instr × Nat) := if 41 ≤ pc then none else if pc < 22 then (if pc < 12 then (if pc < 5 then (if pc < 1 then (if pc = 0 then some (.aload_n 0, 1) else none) else (if pc < 4 then (if pc = 1 then some (.getfield 12, 3) else none) else (if pc = 4 then some (.aload_n 0, 1) else none))) else (if pc < 8 then (if pc = 5 then some (.getfield 25, 3) else none) else (if pc < 11 then (if pc = 8 then some (.invokevirtual 53, 3) else none) else (if pc = 11 then some (.istore_n 3, 1) else none)))) else (if pc < 17 then (if pc < 13 then (if pc = 12 then some (.iload_n 3, 1) else none) else (if pc < 14 then (if pc = 13 then some (.iload_n 1, 1) else none) else (if pc = 14 then some (.if_icmp .lt 8, 3) else none))) else (if pc < 18 then (if pc = 17 then some (.iload_n 3, 1) else none) else (if pc < 19 then (if pc = 18 then some (.iload_n 2, 1) else none) else (if pc = 19 then some (.if_icmp .le 5, 3) else none))))) else (if pc < 30 then (if pc < 25 then (if pc < 23 then (if pc = 22 then some (.iconst 0, 1) else none) else (if pc < 24 then (if pc = 23 then some (.ireturn, 1) else none) else (if pc = 24 then some (.aload_n 0, 1) else none))) else (if pc < 26 then (if pc = 25 then some (.iload_n 3, 1) else none) else (if pc < 29 then (if pc = 26 then some (.putfield 43, 3) else none) else (if pc = 29 then some (.aload_n 0, 1) else none)))) else (if pc < 35 then (if pc < 31 then (if pc = 30 then some (.dup, 1) else none) else (if pc < 34 then (if pc = 31 then some (.getfield 25, 3) else none) else (if pc = 34 then some (.iconst 1, 1) else none))) else (if pc < 39 then (if pc < 36 then (if pc = 35 then some (.iadd, 1) else none) else (if pc = 36 then some (.putfield 25, 3) else none)) else (if pc < 40 then (if pc = 39 then some (.iconst 1, 1) else none) else (if pc = 40 then some (.ireturn, 1) else none)))))
set_option maxRecDepth 100000 in
theorem xo_24_c0 : ([0, 1, 4, 5, 8, 11, 12, 13, 14, 17, 18, 19, 22, 23, 24, 25, 26, 29, 30, 31, 34, 35, 36, 39, 40] : List Nat).all (fun pc => match xo_24 pc with | none => true | some r => decide (decode cX1_readFrom pc = .ok r)) = true := by decide +kernel
set_option maxRecDepth 100000 in
theorem xo_24_no : (List.range 41).all (fun pc => (xo_24 pc).isNone || (([0, 1, 4, 5, 8, 11, 12, 13, 14, 17, 18, 19, 22, 23, 24, 25, 26, 29, 30, 31, 34, 35, 36, 39, 40] : List Nat).contains pc)) = true := by decide +kernel
theorem xo_24_top (pc : Nat) (h : 41 ≤ pc) : xo_24 pc = none := if_pos h
theorem xo_24_ok (pc : Nat) (r : Instr × Nat) (h : xo_24 pc = some r) : decode cX1_readFrom pc = .ok r := by
  rcases Nat.lt_or_ge pc 41 with hl | hl
  · have h1 := List.all_eq_true.mp xo_24_no pc (List.mem_range.mpr hl)
    rw [h] at h1
    simp only [Option.isNone_some, Bool.false_or, Bool.or_eq_true, List.contains_iff_mem, or_assoc] at h1
    rcases h1 with h1
    · have h2 := List.all_eq_true.mp xo_24_c0 pc h1
      rw [h] at h2
      exact of_decide_eq_true h2
  · rw [show xo_24 pc = none from if_pos hl] at h; cases h
end
section
/-- X1_readOne -/
def xo_25 (pc : Nat) : Option (Instr × Nat) := if 7 ≤ pc then none else if pc < 2 then (if pc < 1 then (if pc = 0 then some (.aload_n 0, 1) else none) else (if pc = 1 then some (.iload_n 1, 1) else none)) else (if pc < 3 then (if pc = 2 then some (.iload_n 1, 1) else none) else (if pc < 6 then (if pc = 3 then some (.invokevirtual 39, 3) else none) else (if pc = 6 then some (.ireturn, 1) else none)))
set_option maxRecDepth 100000 in
theorem xo_25_c0 : ([0, 1, 2, 3, 6] : List Nat).all (fun pc => match xo_25 pc with | none => true | some r => decide (decode cX1_readOne pc = .ok r)) = true := by decide +kernel
set_option maxRecDepth 100000 in
theorem xo_25_no : (List.range 7).all (fun pc => (xo_25 pc).isNone || (([0, 1, 2, 3, 6] : List Nat).contains pc)) = true := by decide +kernel
theorem xo_25_top (pc : Nat) (h : 7 ≤ pc) : xo_25 pc = none := if_pos h
theorem xo_25_ok (pc : Nat) (r : Instr × Nat) (h : xo_25 pc = some r) : decode cX1_readOne pc = .ok r := by
  rcases Nat.lt_or_ge pc 7 with hl | hl
  · have h1 := List.all_eq_true.mp xo_25_no pc (List.mem_range.mpr hl)
    rw [h] at h1
    simp only [Option.isNone_some, Bool.false_or, Bool.or_eq_true, List.contains_iff_mem, or_assoc] at h1
    rcases h1 with h1
    · have h2 := List.all_eq_true.mp xo_25_c0 pc h1
      rw [h] at h2
      exact of_decide_eq_true h2
  · rw [show xo_25 pc = none from if_pos hl] at h; cases h
/-- X1_readShed -/
def xo_26 (pc : Nat) : Option (Instr × Nat) := if 26 ≤ pc then none else if pc < 13 then (if pc < 5 then (if pc < 1 then (if pc = 0 then some (.aload_n 0, 1) else none) else (if pc < 3 then (if pc = 1 then some (.bipush 48, 2) else none) else (if pc = 3 then some (.bipush 50, 2) else none))) else (if pc < 11 then (if pc < 8 then (if pc = 5 then some (.invokevirtual 39, 3) else none) else (if pc = 8 then some (.ifCond .ne 5, 3) else none)) else (if pc < 12 then (if pc = 11 then some (.iconst 0, 1) else none) else (if pc = 12 then some (.ireturn, 1) else none)))) else (if pc < 20 then (if pc < 15 then (if pc < 14 then (if pc = 13 then some (.aload_n 0, 1) else none) else (if pc = 14 then some (.aload_n 0, 1) else none)) else (if pc < 18 then (if pc = 15 then some (.getfield 43, 3) else none) else (if pc = 18 then some (.bipush 48, 2) else none))) else (if pc < 24 then (if pc < 21 then (if pc = 20 then some (.isub, 1) else none) else (if pc = 21 then some (.putfield 66, 3) else none)) else (if pc < 25 then (if pc = 24 then some (.iconst 1, 1) else none) else (if pc = 25 then some (.ireturn, 1) else none))))
set_option maxRecDepth 100000 in
theorem xo_26_c0 : ([0, 1, 3, 5, 8, 11, 12, 13, 14, 15, 18, 20, 21, 24, 25] : List Nat).all (fun pc => match xo_26 pc with | none => true | some r => decide (decode cX1_readShed pc = .ok r)) = true := by decide +kernel
set_option maxRecDepth 100000 in
theorem xo_26_no : (List.range 26).all (fun pc => (xo_26 pc).isNone || (([0, 1, 3, 5, 8, 11, 12, 13, 14, 15, 18, 20, 21, 24, 25] : List Nat).contains pc)) = true := by decide +kernel
theorem xo_26_top (pc : Nat) (h : 26 ≤ pc) : xo_26 pc = none := if_pos h
theorem xo_26_ok (pc : Nat) (r : Instr × Nat) (h : xo_26 pc = some r) : decode cX1_readShed pc = .ok r := by
  rcases Nat.lt_or_ge pc 26 with hl | hl
  · have h1 := List.all_eq_true.mp xo_26_no pc (List.mem_range.mpr hl)
    rw [h] at h1
    simp only [Option.isNone_some, Bool.false_or, Bool.or_eq_true, List.contains_iff_mem, or_assoc] at h1
    rcases h1 with h1
    · have h2 := List.all_eq_true.mp xo_26_c0 pc h1
      rw [h] at h2
      exact of_decide_eq_true h2
  · rw [show xo_26 pc = none from if_pos hl] at h; cases h
/-- X1_readNumber -/
def xo_27 (pc : Nat) : Option (Instr × Nat) := if 56 ≤ pc then none else if pc < 27 then (if pc < 13 then (if pc < 5 then (if pc < 1 then (if pc = 0 then some (.aload_n 0, 1) else none) else (if pc < 3 then (if pc = 1 then some (.bipush 49, 2) else none) else (if pc = 3 then some (.bipush 57, 2) else none))) else (if pc < 11 then (if pc < 8 then (if pc = 5 then some (.invokevirtual 39, 3) else none) else (if pc = 8 then some (.ifCond .ne 5, 3) else none)) else (if pc < 12 then (if pc = 11 then some (.iconst 0, 1) else none) else (if pc = 12 then some (.ireturn, 1) else none)))) else (if pc < 20 then (if pc < 15 then (if pc < 14 then (if pc = 13 then some (.aload_n 0, 1) else none) else (if pc = 14 then some (.aload_n 0, 1) else none)) else (if pc < 18 then (if pc = 15 then some (.getfield 43, 3) else none) else (if pc = 18 then some (.bipush 48, 2) else none))) else (if pc < 24 then (if pc < 21 then (if pc = 20 then some (.isub, 1) else none) else (if pc = 21 then some (.putfield 69, 3) else none)) else (if pc < 25 then (if pc = 24 then some (.aload_n 0, 1) else none) else (if pc = 25 then some (.bipush 48, 2) else none))))) else (if pc < 43 then (if pc < 36 then (if pc < 32 then (if pc < 29 then (if pc = 27 then some (.bipush 57, 2) else none) else (if pc = 29 then some (.invokevirtual 39, 3) else none)) else (if pc < 35 then (if pc = 32 then some (.ifCond .eq 22, 3) else none) else (if pc = 35 then some (.aload_n 0, 1) else none))) else (if pc < 40 then (if pc < 37 then (if pc = 36 then some (.aload_n 0, 1) else none) else (if pc = 37 then some (.getfield 69, 3) else none)) else (if pc < 42 then (if pc = 40 then some (.bipush 10, 2) else none) else (if pc = 42 then some (.imul, 1) else none)))) else (if pc < 50 then (if pc < 47 then (if pc < 44 then (if pc = 43 then some (.aload_n 0, 1) else none) else (if pc = 44 then some (.getfield 43, 3) else none)) else (if pc < 48 then (if pc = 47 then some (.iadd, 1) else none) else (if pc = 48 then some (.bipush 48, 2) else none))) else (if pc < 54 then (if pc < 51 then (if pc = 50 then some (.isub, 1) else none) else (if pc = 51 then some (.putfield 69, 3) else none)) else (if pc < 55 then (if pc = 54 then some (.iconst 1, 1) else none) else (if pc = 55 then some (.ireturn, 1) else none)))))
set_option maxRecDepth 100000 in
theorem xo_27_c0 : ([0, 1, 3, 5, 8, 11, 12, 13, 14, 15, 18, 20, 21, 24, 25, 27, 29, 32, 35, 36, 37, 40, 42, 43, 44, 47, 48, 50, 51, 54, 55] : List Nat).all (fun pc => match xo_27 pc with | none => true | some r => decide (decode cX1_readNumber pc = .ok r)) = true := by decide +kernel
set_option maxRecDepth 100000 in
theorem xo_27_no : (List.range 56).all (fun pc => (xo_27 pc).isNone || (([0, 1, 3, 5, 8, 11, 12, 13, 14, 15, 18, 20, 21, 24, 25, 27, 29, 32, 35, 36, 37, 40, 42, 43, 44, 47, 48, 50, 51, 54, 55] : List Nat).contains pc)) = true := by decide +kernel
theorem xo_27_top (pc : Nat) (h : 56 ≤ pc) : xo_27 pc = none := if_pos h
theorem xo_27_ok (pc : Nat) (r : Instr × Nat) (h : xo_27 pc = some r) : decode cX1_readNumber pc = .ok r := by
  rcases Nat.lt_or_ge pc 56 with hl | hl
  · have h1 := List.all_eq_true.mp xo_27_no pc (List.mem_range.mpr hl)
    rw [h] at h1
    simp only [Option.isNone_some, Bool.false_or, Bool.or_eq_true, List.contains_iff_mem, or_assoc] at h1
    rcases h1 with h1
    · have h2 := List.all_eq_true.mp xo_27_c0 pc h1
      rw [h] at h2
      exact of_decide_eq_true h2
  · rw [show xo_27 pc = none from if_pos hl] at h; cases h
/-- X1_readDeedOfPerson -/
def xo_28 (pc : Nat) : Option (Instr × Nat) := if 95 ≤ pc then none else if pc < 48 then (if pc < 24 then (if pc < 9 then (if pc < 2 then (if pc < 1 then (if pc = 0 then some (.aload_n 0, 1) else none) else (if pc = 1 then some (.aload_n 0, 1) else none)) else (if pc < 5 then (if pc = 2 then some (.getfield 12, 3) else none) else (if pc < 6 then (if pc = 5 then some (.aload_n 0, 1) else none) else (if pc = 6 then some (.getfield 25, 3) else none)))) else (if pc < 16 then (if pc < 12 then (if pc = 9 then some (.invokevirtual 53, 3) else none) else (if pc < 15 then (if pc = 12 then some (.putfield 57, 3) else none) else (if pc = 15 then some (.aload_n 0, 1) else none))) else (if pc < 18 then (if pc = 16 then some (.bipush 63, 2) else none) else (if pc < 21 then (if pc = 18 then some (.invokevirtual 35, 3) else none) else (if pc = 21 then some (.ifCond .eq 32, 3) else none))))) else (if pc < 34 then (if pc < 28 then (if pc < 25 then (if pc = 24 then some (.aload_n 0, 1) else none) else (if pc = 25 then some (.invokevirtual 60, 3) else none)) else (if pc < 31 then (if pc = 28 then some (.ifCond .eq 23, 3) else none) else (if pc < 32 then (if pc = 31 then some (.aload_n 0, 1) else none) else (if pc = 32 then some (.bipush 58, 2) else none)))) else (if pc < 41 then (if pc < 37 then (if pc = 34 then some (.invokevirtual 35, 3) else none) else (if pc < 40 then (if pc = 37 then some (.ifCond .eq 14, 3) else none) else (if pc = 40 then some (.aload_n 0, 1) else none))) else (if pc < 44 then (if pc = 41 then some (.invokevirtual 63, 3) else none) else (if pc < 47 then (if pc = 44 then some (.ifCond .eq 7, 3) else none) else (if pc = 47 then some (.iconst 1, 1) else none)))))) else (if pc < 71 then (if pc < 56 then (if pc < 52 then (if pc < 51 then (if pc = 48 then some (.goto 4, 3) else none) else (if pc = 51 then some (.iconst 0, 1) else none)) else (if pc < 53 then (if pc = 52 then some (.ireturn, 1) else none) else (if pc < 54 then (if pc = 53 then some (.aload_n 0, 1) else none) else (if pc = 54 then some (.bipush 112, 2) else none)))) else (if pc < 63 then (if pc < 59 then (if pc = 56 then some (.invokevirtual 35, 3) else none) else (if pc < 62 then (if pc = 59 then some (.ifCond .ne 30, 3) else none) else (if pc = 62 then some (.aload_n 0, 1) else none))) else (if pc < 65 then (if pc = 63 then some (.bipush 114, 2) else none) else (if pc < 68 then (if pc = 65 then some (.invokevirtual 35, 3) else none) else (if pc = 68 then some (.ifCond .ne 21, 3) else none))))) else (if pc < 83 then (if pc < 77 then (if pc < 72 then (if pc = 71 then some (.aload_n 0, 1) else none) else (if pc < 74 then (if pc = 72 then some (.bipush 97, 2) else none) else (if pc = 74 then some (.invokevirtual 35, 3) else none))) else (if pc < 80 then (if pc = 77 then some (.ifCond .ne 12, 3) else none) else (if pc < 81 then (if pc = 80 then some (.aload_n 0, 1) else none) else (if pc = 81 then some (.bipush 102, 2) else none)))) else (if pc < 90 then (if pc < 86 then (if pc = 83 then some (.invokevirtual 35, 3) else none) else (if pc < 89 then (if pc = 86 then some (.ifCond .eq 7, 3) else none) else (if pc = 89 then some (.iconst 1, 1) else none))) else (if pc < 93 then (if pc = 90 then some (.goto 4, 3) else none) else (if pc < 94 then (if pc = 93 then some (.iconst 0, 1) else none) else (if pc = 94 then some (.ireturn, 1) else none))))))
set_option maxRecDepth 100000 in
theorem xo_28_c0 : ([0, 1, 2, 5, 6, 9, 12, 15, 16, 18, 21, 24, 25, 28, 31, 32, 34, 37, 40, 41, 44, 47, 48, 51, 52, 53, 54, 56, 59, 62, 63, 65, 68, 71, 72, 74, 77, 80, 81, 83, 86, 89, 90, 93, 94] : List Nat).all (fun pc => match xo_28 pc with | none => true | some r => decide (decode cX1_readDeedOfPerson pc = .ok r)) = true := by decide +kernel
set_option maxRecDepth 100000 in
theorem xo_28_no : (List.range 95).all (fun pc => (xo_28 pc).isNone || (([0, 1, 2, 5, 6, 9, 12, 15, 16, 18, 21, 24, 25, 28, 31, 32, 34, 37, 40, 41, 44, 47, 48, 51, 52, 53, 54, 56, 59, 62, 63, 65, 68, 71, 72, 74, 77, 80, 81, 83, 86, 89, 90, 93, 94] : List Nat).contains pc)) = true := by decide +kernel
theorem xo_28_top (pc : Nat) (h : 95 ≤ pc) : xo_28 pc = none := if_pos h
theorem xo_28_ok (pc : Nat) (r : Instr × Nat) (h : xo_28 pc = some r) : decode cX1_readDeedOfPerson pc = .ok r := by
  rcases Nat.lt_or_ge pc 95 with hl | hl
  · have h1 := List.all_eq_true.mp xo_28_no pc (List.mem_range.mpr hl)
    rw [h] at h1
    simp only [Option.isNone_some, Bool.false_or, Bool.or_eq_true, List.contains_iff_mem, or_assoc] at h1
    rcases h1 with h1
    · have h2 := List.all_eq_true.mp xo_28_c0 pc h1
      rw [h] at h2
      exact of_decide_eq_true h2
  · rw [show xo_28 pc = none from if_pos hl] at h; cases h
/-- X1_readDeed -/
def xo_29 (pc : Nat) : Option (Instr × Nat) := if 78 ≤ pc then none else if pc < 36 then (if pc < 18 then (if pc < 8 then (if pc < 3 then (if pc < 1 then (if pc = 0 then some (.aload_n 0, 1) else none) else (if pc = 1 then some (.bipush 65, 2) else none)) else (if pc < 5 then (if pc = 3 then some (.bipush 84, 2) else none) else (if pc = 5 then some (.invokevirtual 39, 3) else none))) else (if pc < 12 then (if pc < 11 then (if pc = 8 then some (.ifCond .eq 19, 3) else none) else (if pc = 11 then some (.aload_n 0, 1) else none)) else (if pc < 13 then (if pc = 12 then some (.aload_n 0, 1) else none) else (if pc < 16 then (if pc = 13 then some (.getfield 43, 3) else none) else (if pc = 16 then some (.bipush 65, 2) else none))))) else (if pc < 27 then (if pc < 22 then (if pc < 19 then (if pc = 18 then some (.isub, 1) else none) else (if pc = 19 then some (.putfield 47, 3) else none)) else (if pc < 23 then (if pc = 22 then some (.aload_n 0, 1) else none) else (if pc < 26 then (if pc = 23 then some (.invokevirtual 50, 3) else none) else (if pc = 26 then some (.ireturn, 1) else none)))) else (if pc < 29 then (if pc < 28 then (if pc = 27 then some (.aload_n 0, 1) else none) else (if pc = 28 then some (.aload_n 0, 1) else none)) else (if pc < 32 then (if pc = 29 then some (.getfield 12, 3) else none) else (if pc < 33 then (if pc = 32 then some (.aload_n 0, 1) else none) else (if pc = 33 then some (.getfield 25, 3) else none)))))) else (if pc < 57 then (if pc < 48 then (if pc < 42 then (if pc < 39 then (if pc = 36 then some (.invokevirtual 53, 3) else none) else (if pc = 39 then some (.putfield 57, 3) else none)) else (if pc < 43 then (if pc = 42 then some (.aload_n 0, 1) else none) else (if pc < 45 then (if pc = 43 then some (.bipush 115, 2) else none) else (if pc = 45 then some (.invokevirtual 35, 3) else none)))) else (if pc < 52 then (if pc < 51 then (if pc = 48 then some (.ifCond .eq 8, 3) else none) else (if pc = 51 then some (.aload_n 0, 1) else none)) else (if pc < 55 then (if pc = 52 then some (.invokevirtual 60, 3) else none) else (if pc < 56 then (if pc = 55 then some (.ireturn, 1) else none) else (if pc = 56 then some (.aload_n 0, 1) else none))))) else (if pc < 69 then (if pc < 62 then (if pc < 59 then (if pc = 57 then some (.bipush 46, 2) else none) else (if pc = 59 then some (.invokevirtual 35, 3) else none)) else (if pc < 65 then (if pc = 62 then some (.ifCond .eq 14, 3) else none) else (if pc < 66 then (if pc = 65 then some (.aload_n 0, 1) else none) else (if pc = 66 then some (.invokevirtual 63, 3) else none)))) else (if pc < 73 then (if pc < 72 then (if pc = 69 then some (.ifCond .eq 7, 3) else none) else (if pc = 72 then some (.iconst 1, 1) else none)) else (if pc < 76 then (if pc = 73 then some (.goto 4, 3) else none) else (if pc < 77 then (if pc = 76 then some (.iconst 0, 1) else none) else (if pc = 77 then some (.ireturn, 1) else none))))))
set_option maxRecDepth 100000 in
theorem xo_29_c0 : ([0, 1, 3, 5, 8, 11, 12, 13, 16, 18, 19, 22, 23, 26, 27, 28, 29, 32, 33, 36, 39, 42, 43, 45, 48, 51, 52, 55, 56, 57, 59, 62, 65, 66, 69, 72, 73, 76, 77] : List Nat).all (fun pc => match xo_29 pc with | none => true | some r => decide (decode cX1_readDeed pc = .ok r)) = true := by decide +kernel
set_option maxRecDepth 100000 in
theorem xo_29_no : (List.range 78).all (fun pc => (xo_29 pc).isNone || (([0, 1, 3, 5, 8, 11, 12, 13, 16, 18, 19, 22, 23, 26, 27, 28, 29, 32, 33, 36, 39, 42, 43, 45, 48, 51, 52, 55, 56, 57, 59, 62, 65, 66, 69, 72, 73, 76, 77] : List Nat).contains pc)) = true := by decide +kernel
theorem xo_29_top (pc : Nat) (h : 78 ≤ pc) : xo_29 pc = none := if_pos h
theorem xo_29_ok (pc : Nat) (r : Instr × Nat) (h : xo_29 pc = some r) : decode cX1_readDeed pc = .ok r := by
  rcases Nat.lt_or_ge pc 78 with hl | hl
  · have h1 := List.all_eq_true.mp xo_29_no pc (List.mem_range.mpr hl)
    rw [h] at h1
    simp only [Option.isNone_some, Bool.false_or, Bool.or_eq_true, List.contains_iff_mem, or_assoc] at h1
    rcases h1 with h1
    · have h2 := List.all_eq_true.mp xo_29_c0 pc h1
      rw [h] at h2
      exact of_decide_eq_true h2
  · rw [show xo_29 pc = none from if_pos hl] at h; cases h
/-- X1_readSemicolon -/
def xo_30 (pc : Nat) : Option (Instr × Nat) := if 7 ≤ pc then none else if pc < 3 then (if pc < 1 then (if pc = 0 then some (.aload_n 0, 1) else none) else (if pc = 1 then some (.bipush 59, 2) else none)) else (if pc < 6 then (if pc = 3 then some (.invokevirtual 35, 3) else none) else (if pc = 6 then some (.ireturn, 1) else none))
set_option maxRecDepth 100000 in
theorem xo_30_c0 : ([0, 1, 3, 6] : List Nat).all (fun pc => match xo_30 pc with | none => true | some r => decide (decode cX1_readSemicolon pc = .ok r)) = true := by decide +kernel
set_option maxRecDepth 100000 in
theorem xo_30_no : (List.range 7).all (fun pc => (xo_30 pc).isNone || (([0, 1, 3, 6] : List Nat).contains pc)) = true := by decide +kernel
theorem xo_30_top (pc : Nat) (h : 7 ≤ pc) : xo_30 pc = none := if_pos h
theorem xo_30_ok (pc : Nat) (r : Instr × Nat) (h : xo_30 pc = some r) : decode cX1_readSemicolon pc = .ok r := by
  rcases Nat.lt_or_ge pc 7 with hl | hl
  · have h1 := List.all_eq_true.mp xo_30_no pc (List.mem_range.mpr hl)
    rw [h] at h1
    simp only [Option.isNone_some, Bool.false_or, Bool.or_eq_true, List.contains_iff_mem, or_assoc] at h1
    rcases h1 with h1
    · have h2 := List.all_eq_true.mp xo_30_c0 pc h1
      rw [h] at h2
      exact of_decide_eq_true h2
  · rw [show xo_30 pc = none from if_pos hl] at h; cases h
/-- X1_findFault -/
def xo_31 (pc : Nat) : Option (Instr × Nat) := if 66 ≤ pc then none else if pc < 31 then (if pc < 13 then (if pc < 6 then (if pc < 4 then (if pc < 1 then (if pc = 0 then some (.aload_n 0, 1) else none) else (if pc = 1 then some (.invokevirtual 18, 3) else none)) else (if pc < 5 then (if pc = 4 then some (.iconst 0, 1) else none) else (if pc = 5 then some (.istore_n 1, 1) else none))) else (if pc < 9 then (if pc < 7 then (if pc = 6 then some (.iload_n 1, 1) else none) else (if pc = 7 then some (.bipush 60, 2) else none)) else (if pc < 12 then (if pc = 9 then some (.if_icmp .ge 52, 3) else none) else (if pc = 12 then some (.aload_n 0, 1) else none)))) else (if pc < 23 then (if pc < 19 then (if pc < 16 then (if pc = 13 then some (.invokevirtual 21, 3) else none) else (if pc = 16 then some (.ifCond .ne 8, 3) else none)) else (if pc < 20 then (if pc = 19 then some (.aload_n 0, 1) else none) else (if pc = 20 then some (.getfield 25, 3) else none))) else (if pc < 25 then (if pc < 24 then (if pc = 23 then some (.ireturn, 1) else none) else (if pc = 24 then some (.aload_n 0, 1) else none)) else (if pc < 28 then (if pc = 25 then some (.invokevirtual 29, 3) else none) else (if pc = 28 then some (.ifCond .ne 27, 3) else none))))) else (if pc < 50 then (if pc < 39 then (if pc < 35 then (if pc < 32 then (if pc = 31 then some (.aload_n 0, 1) else none) else (if pc = 32 then some (.getfield 25, 3) else none)) else (if pc < 36 then (if pc = 35 then some (.aload_n 0, 1) else none) else (if pc = 36 then some (.getfield 12, 3) else none))) else (if pc < 45 then (if pc < 42 then (if pc = 39 then some (.getfield 32, 3) else none) else (if pc = 42 then some (.if_icmp .ne 8, 3) else none)) else (if pc < 47 then (if pc = 45 then some (.bipush (-6), 2) else none) else (if pc = 47 then some (.goto 7, 3) else none)))) else (if pc < 58 then (if pc < 54 then (if pc < 51 then (if pc = 50 then some (.aload_n 0, 1) else none) else (if pc = 51 then some (.getfield 25, 3) else none)) else (if pc < 55 then (if pc = 54 then some (.ireturn, 1) else none) else (if pc = 55 then some (.iinc 1 1, 3) else none))) else (if pc < 62 then (if pc < 61 then (if pc = 58 then some (.goto (-52), 3) else none) else (if pc = 61 then some (.aload_n 0, 1) else none)) else (if pc < 65 then (if pc = 62 then some (.getfield 25, 3) else none) else (if pc = 65 then some (.ireturn, 1) else none)))))
set_option maxRecDepth 100000 in
theorem xo_31_c0 : ([0, 1, 4, 5, 6, 7, 9, 12, 13, 16, 19, 20, 23, 24, 25, 28, 31, 32, 35, 36, 39, 42, 45, 47, 50, 51, 54, 55, 58, 61, 62, 65] : List Nat).all (fun pc => match xo_31 pc with | none => true | some r => decide (decode cX1_findFault pc = .ok r)) = true := by decide +kernel
set_option maxRecDepth 100000 in
theorem xo_31_no : (List.range 66).all (fun pc => (xo_31 pc).isNone || (([0, 1, 4, 5, 6, 7, 9, 12, 13, 16, 19, 20, 23, 24, 25, 28, 31, 32, 35, 36, 39, 42, 45, 47, 50, 51, 54, 55, 58, 61, 62, 65] : List Nat).contains pc)) = true := by decide +kernel
theorem xo_31_top (pc : Nat) (h : 66 ≤ pc) : xo_31 pc = none := if_pos h
theorem xo_31_ok (pc : Nat) (r : Instr × Nat) (h : xo_31 pc = some r) : decode cX1_findFault pc = .ok r := by
  rcases Nat.lt_or_ge pc 66 with hl | hl
  · have h1 := List.all_eq_true.mp xo_31_no pc (List.mem_range.mpr hl)
    rw [h] at h1
    simp only [Option.isNone_some, Bool.false_or, Bool.or_eq_true, List.contains_iff_mem, or_assoc] at h1
    rcases h1 with h1
    · have h2 := List.all_eq_true.mp xo_31_c0 pc h1
      rw [h] at h2
      exact of_decide_eq_true h2
  · rw [show xo_31 pc = none from if_pos hl] at h; cases h
/-- X2_init -/
def xo_32 (pc : Nat) : Option (Instr × Nat) := if 14 ≤ pc then none else if pc < 5 then (if pc < 1 then (if pc = 0 then some (.aload_n 0, 1) else none) else (if pc < 4 then (if pc = 1 then some (.invokespecial 3, 3) else none) else (if pc = 4 then some (.aload_n 0, 1) else none))) else (if pc < 10 then (if pc < 7 then (if pc = 5 then some (.bipush 6, 2) else none) else (if pc = 7 then some (.anewarray 9, 3) else none)) else (if pc < 13 then (if pc = 10 then some (.putfield 11, 3) else none) else (if pc = 13 then some (.return_, 1) else none)))
set_option maxRecDepth 100000 in
theorem xo_32_c0 : ([0, 1, 4, 5, 7, 10, 13] : List Nat).all (fun pc => match xo_32 pc with | none => true | some r => decide (decode cX2_init pc = .ok r)) = true := by decide +kernel
set_option maxRecDepth 100000 in
theorem xo_32_no : (List.range 14).all (fun pc => (xo_32 pc).isNone || (([0, 1, 4, 5, 7, 10, 13] : List Nat).contains pc)) = true := by decide +kernel
theorem xo_32_top (pc : Nat) (h : 14 ≤ pc) : xo_32 pc = none := if_pos h
theorem xo_32_ok (pc : Nat) (r : Instr × Nat) (h : xo_32 pc = some r) : decode cX2_init pc = .ok r := by
  rcases Nat.lt_or_ge pc 14 with hl | hl
  · have h1 := List.all_eq_true.mp xo_32_no pc (List.mem_range.mpr hl)
    rw [h] at h1
    simp only [Option.isNone_some, Bool.false_or, Bool.or_eq_true, List.contains_iff_mem, or_assoc] at h1
    rcases h1 with h1
    · have h2 := List.all_eq_true.mp xo_32_c0 pc h1
      rw [h] at h2
      exact of_decide_eq_true h2
  · rw [show xo_32 pc = none from if_pos hl] at h; cases h
/-- X2_dropOldest -/
def xo_33 (pc : Nat) : Option (Instr × Nat) := if 53 ≤ pc then none else if pc < 26 then (if pc < 10 then (if pc < 6 then (if pc < 4 then (if pc < 1 then (if pc = 0 then some (.aload_n 0, 1) else none) else (if pc = 1 then some (.getfield 11, 3) else none)) else (if pc < 5 then (if pc = 4 then some (.iconst 0, 1) else none) else (if pc = 5 then some (.aaload, 1) else none))) else (if pc < 8 then (if pc < 7 then (if pc = 6 then some (.astore_n 1, 1) else none) else (if pc = 7 then some (.iconst 1, 1) else none)) else (if pc < 9 then (if pc = 8 then some (.istore_n 2, 1) else none) else (if pc = 9 then some (.iload_n 2, 1) else none)))) else (if pc < 19 then (if pc < 15 then (if pc < 12 then (if pc = 10 then some (.bipush 6, 2) else none) else (if pc = 12 then some (.if_icmp .ge 23, 3) else none)) else (if pc < 16 then (if pc = 15 then some (.aload_n 0, 1) else none) else (if pc = 16 then some (.getfield 11, 3) else none))) else (if pc < 21 then (if pc < 20 then (if pc = 19 then some (.iload_n 2, 1) else none) else (if pc = 20 then some (.iconst 1, 1) else none)) else (if pc < 22 then (if pc = 21 then some (.isub, 1) else none) else (if pc < 23 then (if pc = 22 then some (.aload_n 0, 1) else none) else (if pc = 23 then some (.getfield 11, 3) else none)))))) else (if pc < 40 then (if pc < 32 then (if pc < 28 then (if pc < 27 then (if pc = 26 then some (.iload_n 2, 1) else none) else (if pc = 27 then some (.aaload, 1) else none)) else (if pc < 29 then (if pc = 28 then some (.aastore, 1) else none) else (if pc = 29 then some (.iinc 2 1, 3) else none))) else (if pc < 36 then (if pc < 35 then (if pc = 32 then some (.goto (-23), 3) else none) else (if pc = 35 then some (.aload_n 0, 1) else none)) else (if pc < 39 then (if pc = 36 then some (.getfield 11, 3) else none) else (if pc = 39 then some (.iconst 5, 1) else none)))) else (if pc < 44 then (if pc < 42 then (if pc < 41 then (if pc = 40 then some (.aload_n 1, 1) else none) else (if pc = 41 then some (.aastore, 1) else none)) else (if pc < 43 then (if pc = 42 then some (.aload_n 0, 1) else none) else (if pc = 43 then some (.dup, 1) else none))) else (if pc < 48 then (if pc < 47 then (if pc = 44 then some (.getfield 17, 3) else none) else (if pc = 47 then some (.iconst 1, 1) else none)) else (if pc < 49 then (if pc = 48 then some (.isub, 1) else none) else (if pc < 52 then (if pc = 49 then some (.putfield 17, 3) else none) else (if pc = 52 then some (.return_, 1) else none))))))
set_option maxRecDepth 100000 in
theorem xo_33_c0 : ([0, 1, 4, 5, 6, 7, 8, 9, 10, 12, 15, 16, 19, 20, 21, 22, 23, 26, 27, 28, 29, 32, 35, 36, 39, 40, 41, 42, 43, 44, 47, 48, 49, 52] : List Nat).all (fun pc => match xo_33 pc with | none => true | some r => decide (decode cX2_dropOldest pc = .ok r)) = true := by decide +kernel
set_option maxRecDepth 100000 in
theorem xo_33_no : (List.range 53).all (fun pc => (xo_33 pc).isNone || (([0, 1, 4, 5, 6, 7, 8, 9, 10, 12, 15, 16, 19, 20, 21, 22, 23, 26, 27, 28, 29, 32, 35, 36, 39, 40, 41, 42, 43, 44, 47, 48, 49, 52] : List Nat).contains pc)) = true := by decide +kernel
theorem xo_33_top (pc : Nat) (h : 53 ≤ pc) : xo_33 pc = none := if_pos h
theorem xo_33_ok (pc : Nat) (r : Instr × Nat) (h : xo_33 pc = some r) : decode cX2_dropOldest pc = .ok r := by
  rcases Nat.lt_or_ge pc 53 with hl | hl
  · have h1 := List.all_eq_true.mp xo_33_no pc (List.mem_range.mpr hl)
    rw [h] at h1
    simp only [Option.isNone_some, Bool.false_or, Bool.or_eq_true, List.contains_iff_mem, or_assoc] at h1
    rcases h1 with h1
    · have h2 := List.all_eq_true.mp xo_33_c0 pc h1
      rw [h] at h2
      exact of_decide_eq_true h2
  · rw [show xo_33 pc = none from if_pos hl] at h; cases h
/-- X4_init -/
def xo_34 (pc : Nat) : Option (Instr × Nat) := if 67 ≤ pc then none else if pc < 31 then (if pc < 18 then (if pc < 8 then (if pc < 4 then (if pc < 1 then (if pc = 0 then some (.aload_n 0, 1) else none) else (if pc = 1 then some (.invokespecial 3, 3) else none)) else (if pc < 5 then (if pc = 4 then some (.aload_n 0, 1) else none) else (if pc = 5 then some (.invokestatic 9, 3) else none))) else (if pc < 12 then (if pc < 11 then (if pc = 8 then some (.putfield 13, 3) else none) else (if pc = 11 then some (.aload_n 0, 1) else none)) else (if pc < 15 then (if pc = 12 then some (.invokestatic 9, 3) else none) else (if pc = 15 then some (.putfield 19, 3) else none)))) else (if pc < 24 then (if pc < 20 then (if pc < 19 then (if pc = 18 then some (.aload_n 0, 1) else none) else (if pc = 19 then some (.iconst 3, 1) else none)) else (if pc < 23 then (if pc = 20 then some (.anewarray 22, 3) else none) else (if pc = 23 then some (.dup, 1) else none))) else (if pc < 28 then (if pc < 25 then (if pc = 24 then some (.iconst 0, 1) else none) else (if pc = 25 then some (.invokestatic 9, 3) else none)) else (if pc < 29 then (if pc = 28 then some (.aastore, 1) else none) else (if pc < 30 then (if pc = 29 then some (.dup, 1) else none) else (if pc = 30 then some (.iconst 1, 1) else none)))))) else (if pc < 46 then (if pc < 37 then (if pc < 35 then (if pc < 34 then (if pc = 31 then some (.invokestatic 9, 3) else none) else (if pc = 34 then some (.aastore, 1) else none)) else (if pc < 36 then (if pc = 35 then some (.dup, 1) else none) else (if pc = 36 then some (.iconst 2, 1) else none))) else (if pc < 41 then (if pc < 40 then (if pc = 37 then some (.invokestatic 9, 3) else none) else (if pc = 40 then some (.aastore, 1) else none)) else (if pc < 44 then (if pc = 41 then some (.putfield 23, 3) else none) else (if pc < 45 then (if pc = 44 then some (.aload_n 0, 1) else none) else (if pc = 45 then some (.iconst 3, 1) else none))))) else (if pc < 56 then (if pc < 52 then (if pc < 48 then (if pc = 46 then some (.bipush 20, 2) else none) else (if pc = 48 then some (.multianewarray 27 2, 4) else none)) else (if pc < 55 then (if pc = 52 then some (.putfield 28, 3) else none) else (if pc = 55 then some (.aload_n 0, 1) else none))) else (if pc < 59 then (if pc < 57 then (if pc = 56 then some (.iconst 3, 1) else none) else (if pc = 57 then some (.bipush 20, 2) else none)) else (if pc < 63 then (if pc = 59 then some (.multianewarray 27 2, 4) else none) else (if pc < 66 then (if pc = 63 then some (.putfield 31, 3) else none) else (if pc = 66 then some (.return_, 1) else none))))))
set_option maxRecDepth 100000 in
theorem xo_34_c0 : ([0, 1, 4, 5, 8, 11, 12, 15, 18, 19, 20, 23, 24, 25, 28, 29, 30, 31, 34, 35, 36, 37, 40, 41, 44, 45, 46, 48, 52, 55, 56, 57, 59, 63, 66] : List Nat).all (fun pc => match xo_34 pc with | none => true | some r => decide (decode cX4_init pc = .ok r)) = true := by decide +kernel
set_option maxRecDepth 100000 in
theorem xo_34_no : (List.range 67).all (fun pc => (xo_34 pc).isNone || (([0, 1, 4, 5, 8, 11, 12, 15, 18, 19, 20, 23, 24, 25, 28, 29, 30, 31, 34, 35, 36, 37, 40, 41, 44, 45, 46, 48, 52, 55, 56, 57, 59, 63, 66] : List Nat).contains pc)) = true := by decide +kernel
theorem xo_34_top (pc : Nat) (h : 67 ≤ pc) : xo_34 pc = none := if_pos h
theorem xo_34_ok (pc : Nat) (r : Instr × Nat) (h : xo_34 pc = some r) : decode cX4_init pc = .ok r := by
  rcases Nat.lt_or_ge pc 67 with hl | hl
  · have h1 := List.all_eq_true.mp xo_34_no pc (List.mem_range.mpr hl)
    rw [h] at h1
    simp only [Option.isNone_some, Bool.false_or, Bool.or_eq_true, List.contains_iff_mem, or_assoc] at h1
    rcases h1 with h1
    · have h2 := List.all_eq_true.mp xo_34_c0 pc h1
      rw [h] at h2
      exact of_decide_eq_true h2
  · rw [show xo_34 pc = none from if_pos hl] at h; cases h
/-- X5_init -/
def xo_35 (pc : Nat) : Option (Instr × Nat) := if 65 ≤ pc then none else if pc < 32 then (if pc < 18 then (if pc < 8 then (if pc < 4 then (if pc < 1 then (if pc = 0 then some (.aload_n 0, 1) else none) else (if pc = 1 then some (.invokespecial 3, 3) else none)) else (if pc < 5 then (if pc = 4 then some (.aload_n 0, 1) else none) else (if pc = 5 then some (.getstatic 9, 3) else none))) else (if pc < 14 then (if pc < 11 then (if pc = 8 then some (.invokevirtual 13, 3) else none) else (if pc = 11 then some (.checkcast 14, 3) else none)) else (if pc < 17 then (if pc = 14 then some (.putfield 18, 3) else none) else (if pc = 17 then some (.aload_n 0, 1) else none)))) else (if pc < 23 then (if pc < 21 then (if pc < 19 then (if pc = 18 then some (.iconst 3, 1) else none) else (if pc = 19 then some (.newarray .int, 2) else none)) else (if pc < 22 then (if pc = 21 then some (.dup, 1) else none) else (if pc = 22 then some (.iconst 0, 1) else none))) else (if pc < 27 then (if pc < 26 then (if pc = 23 then some (.sipush 255, 3) else none) else (if pc = 26 then some (.iastore, 1) else none)) else (if pc < 28 then (if pc = 27 then some (.dup, 1) else none) else (if pc < 29 then (if pc = 28 then some (.iconst 1, 1) else none) else (if pc = 29 then some (.sipush 255, 3) else none)))))) else (if pc < 46 then (if pc < 38 then (if pc < 34 then (if pc < 33 then (if pc = 32 then some (.iastore, 1) else none) else (if pc = 33 then some (.dup, 1) else none)) else (if pc < 35 then (if pc = 34 then some (.iconst 2, 1) else none) else (if pc = 35 then some (.sipush 255, 3) else none))) else (if pc < 42 then (if pc < 39 then (if pc = 38 then some (.iastore, 1) else none) else (if pc = 39 then some (.putfield 23, 3) else none)) else (if pc < 43 then (if pc = 42 then some (.aload_n 0, 1) else none) else (if pc = 43 then some (.new 26, 3) else none)))) else (if pc < 54 then (if pc < 50 then (if pc < 47 then (if pc = 46 then some (.dup, 1) else none) else (if pc = 47 then some (.invokespecial 28, 3) else none)) else (if pc < 53 then (if pc = 50 then some (.putfield 29, 3) else none) else (if pc = 53 then some (.aload_n 0, 1) else none))) else (if pc < 58 then (if pc < 57 then (if pc = 54 then some (.new 33, 3) else none) else (if pc = 57 then some (.dup, 1) else none)) else (if pc < 61 then (if pc = 58 then some (.invokespecial 35, 3) else none) else (if pc < 64 then (if pc = 61 then some (.putfield 36, 3) else none) else (if pc = 64 then some (.return_, 1) else none))))))
set_option maxRecDepth 100000 in
theorem xo_35_c0 : ([0, 1, 4, 5, 8, 11, 14, 17, 18, 19, 21, 22, 23, 26, 27, 28, 29, 32, 33, 34, 35, 38, 39, 42, 43, 46, 47, 50, 53, 54, 57, 58, 61, 64] : List Nat).all (fun pc => match xo_35 pc with | none => true | some r => decide (decode cX5_init pc = .ok r)) = true := by decide +kernel
set_option maxRecDepth 100000 in
theorem xo_35_no : (List.range 65).all (fun pc => (xo_35 pc).isNone || (([0, 1, 4, 5, 8, 11, 14, 17, 18, 19, 21, 22, 23, 26, 27, 28, 29, 32, 33, 34, 35, 38, 39, 42, 43, 46, 47, 50, 53, 54, 57, 58, 61, 64] : List Nat).contains pc)) = true := by decide +kernel
theorem xo_35_top (pc : Nat) (h : 65 ≤ pc) : xo_35 pc = none := if_pos h
theorem xo_35_ok (pc : Nat) (r : Instr × Nat) (h : xo_35 pc = some r) : decode cX5_init pc = .ok r := by
  rcases Nat.lt_or_ge pc 65 with hl | hl
  · have h1 := List.all_eq_true.mp xo_35_no pc (List.mem_range.mpr hl)
    rw [h] at h1
    simp only [Option.isNone_some, Bool.false_or, Bool.or_eq_true, List.contains_iff_mem, or_assoc] at h1
    rcases h1 with h1
    · have h2 := List.all_eq_true.mp xo_35_c0 pc h1
      rw [h] at h2
      exact of_decide_eq_true h2
  · rw [show xo_35 pc = none from if_pos hl] at h; cases h
/-- X4_copyFrom -/
def xo_36 (pc : Nat) : Option (Instr × Nat) := if 109 ≤ pc then none else if pc < 53 then (if pc < 30 then (if pc < 15 then (if pc < 6 then (if pc < 4 then (if pc < 1 then (if pc = 0 then some (.aload_n 1, 1) else none) else (if pc = 1 then some (.getfield 13, 3) else none)) else (if pc < 5 then (if pc = 4 then some (.iconst 0, 1) else none) else (if pc = 5 then some (.aload_n 0, 1) else none))) else (if pc < 10 then (if pc < 9 then (if pc = 6 then some (.getfield 13, 3) else none) else (if pc = 9 then some (.iconst 0, 1) else none)) else (if pc < 12 then (if pc = 10 then some (.bipush 20, 2) else none) else (if pc = 12 then some (.invokestatic 34, 3) else none)))) else (if pc < 21 then (if pc < 19 then (if pc < 16 then (if pc = 15 then some (.aload_n 1, 1) else none) else (if pc = 16 then some (.getfield 19, 3) else none)) else (if pc < 20 then (if pc = 19 then some (.iconst 0, 1) else none) else (if pc = 20 then some (.aload_n 0, 1) else none))) else (if pc < 25 then (if pc < 24 then (if pc = 21 then some (.getfield 19, 3) else none) else (if pc = 24 then some (.iconst 0, 1) else none)) else (if pc < 27 then (if pc = 25 then some (.bipush 20, 2) else none) else (if pc = 27 then some (.invokestatic 34, 3) else none))))) else (if pc < 42 then (if pc < 34 then (if pc < 32 then (if pc < 31 then (if pc = 30 then some (.iconst 0, 1) else none) else (if pc = 31 then some (.istore_n 2, 1) else none)) else (if pc < 33 then (if pc = 32 then some (.iload_n 2, 1) else none) else (if pc = 33 then some (.iconst 3, 1) else none))) else (if pc < 38 then (if pc < 37 then (if pc = 34 then some (.if_icmp .ge 66, 3) else none) else (if pc = 37 then some (.aload_n 1, 1) else none)) else (if pc < 41 then (if pc = 38 then some (.getfield 23, 3) else none) else (if pc = 41 then some (.iload_n 2, 1) else none)))) else (if pc < 48 then (if pc < 44 then (if pc < 43 then (if pc = 42 then some (.aaload, 1) else none) else (if pc = 43 then some (.iconst 0, 1) else none)) else (if pc < 45 then (if pc = 44 then some (.aload_n 0, 1) else none) else (if pc = 45 then some (.getfield 23, 3) else none))) else (if pc < 50 then (if pc < 49 then (if pc = 48 then some (.iload_n 2, 1) else none) else (if pc = 49 then some (.aaload, 1) else none)) else (if pc < 51 then (if pc = 50 then some (.iconst 0, 1) else none) else (if pc = 51 then some (.bipush 20, 2) else none)))))) else (if pc < 80 then (if pc < 67 then (if pc < 61 then (if pc < 57 then (if pc < 56 then (if pc = 53 then some (.invokestatic 34, 3) else none) else (if pc = 56 then some (.aload_n 1, 1) else none)) else (if pc < 60 then (if pc = 57 then some (.getfield 28, 3) else none) else (if pc = 60 then some (.iload_n 2, 1) else none))) else (if pc < 63 then (if pc < 62 then (if pc = 61 then some (.aaload, 1) else none) else (if pc = 62 then some (.iconst 0, 1) else none)) else (if pc < 64 then (if pc = 63 then some (.aload_n 0, 1) else none) else (if pc = 64 then some (.getfield 28, 3) else none)))) else (if pc < 72 then (if pc < 69 then (if pc < 68 then (if pc = 67 then some (.iload_n 2, 1) else none) else (if pc = 68 then some (.aaload, 1) else none)) else (if pc < 70 then (if pc = 69 then some (.iconst 0, 1) else none) else (if pc = 70 then some (.bipush 20, 2) else none))) else (if pc < 76 then (if pc < 75 then (if pc = 72 then some (.invokestatic 34, 3) else none) else (if pc = 75 then some (.aload_n 1, 1) else none)) else (if pc < 79 then (if pc = 76 then some (.getfield 31, 3) else none) else (if pc = 79 then some (.iload_n 2, 1) else none))))) else (if pc < 91 then (if pc < 86 then (if pc < 82 then (if pc < 81 then (if pc = 80 then some (.aaload, 1) else none) else (if pc = 81 then some (.iconst 0, 1) else none)) else (if pc < 83 then (if pc = 82 then some (.aload_n 0, 1) else none) else (if pc = 83 then some (.getfield 31, 3) else none))) else (if pc < 88 then (if pc < 87 then (if pc = 86 then some (.iload_n 2, 1) else none) else (if pc = 87 then some (.aaload, 1) else none)) else (if pc < 89 then (if pc = 88 then some (.iconst 0, 1) else none) else (if pc = 89 then some (.bipush 20, 2) else none)))) else (if pc < 101 then (if pc < 97 then (if pc < 94 then (if pc = 91 then some (.invokestatic 34, 3) else none) else (if pc = 94 then some (.iinc 2 1, 3) else none)) else (if pc < 100 then (if pc = 97 then some (.goto (-65), 3) else none) else (if pc = 100 then some (.aload_n 0, 1) else none))) else (if pc < 105 then (if pc < 102 then (if pc = 101 then some (.aload_n 1, 1) else none) else (if pc = 102 then some (.getfield 40, 3) else none)) else (if pc < 108 then (if pc = 105 then some (.putfield 40, 3) else none) else (if pc = 108 then some (.return_, 1) else none))))))
set_option maxRecDepth 100000 in
theorem xo_36_c0 : ([0, 1, 4, 5, 6, 9, 10, 12, 15, 16, 19, 20, 21, 24, 25, 27, 30, 31, 32, 33, 34, 37, 38, 41, 42, 43, 44, 45, 48, 49, 50, 51, 53, 56, 57, 60, 61, 62, 63, 64, 67, 68, 69, 70, 72] : List Nat).all (fun pc => match xo_36 pc with | none => true | some r => decide (decode cX4_copyFrom pc = .ok r)) = true := by decide +kernel
set_option maxRecDepth 100000 in
theorem xo_36_c1 : ([75, 76, 79, 80, 81, 82, 83, 86, 87, 88, 89, 91, 94, 97, 100, 101, 102, 105, 108] : List Nat).all (fun pc => match xo_36 pc with | none => true | some r => decide (decode cX4_copyFrom pc = .ok r)) = true := by decide +kernel
set_option maxRecDepth 100000 in
theorem xo_36_no : (List.range 109).all (fun pc => (xo_36 pc).isNone || (([0, 1, 4, 5, 6, 9, 10, 12, 15, 16, 19, 20, 21, 24, 25, 27, 30, 31, 32, 33, 34, 37, 38, 41, 42, 43, 44, 45, 48, 49, 50, 51, 53, 56, 57, 60, 61, 62, 63, 64, 67, 68, 69, 70, 72] : List Nat).contains pc || ([75, 76, 79, 80, 81, 82, 83, 86, 87, 88, 89, 91, 94, 97, 100, 101, 102, 105, 108] : List Nat).contains pc)) = true := by decide +kernel
theorem xo_36_top (pc : Nat) (h : 109 ≤ pc) : xo_36 pc = none := if_pos h
theorem xo_36_ok (pc : Nat) (r : Instr × Nat) (h : xo_36 pc = some r) : decode cX4_copyFrom pc = .ok r := by
  rcases Nat.lt_or_ge pc 109 with hl | hl
  · have h1 := List.all_eq_true.mp xo_36_no pc (List.mem_range.mpr hl)
    rw [h] at h1
    simp only [Option.isNone_some, Bool.false_or, Bool.or_eq_true, List.contains_iff_mem, or_assoc] at h1
    rcases h1 with h1 | h1
    · have h2 := List.all_eq_true.mp xo_36_c0 pc h1
      rw [h] at h2
      exact of_decide_eq_true h2
    · have h2 := List.all_eq_true.mp xo_36_c1 pc h1
      rw [h] at h2
      exact of_decide_eq_true h2
  · rw [show xo_36 pc = none from if_pos hl] at h; cases h
/-- X5_copyFrom -/
def xo_37 (pc : Nat) : Option (Instr × Nat) := if 59 ≤ pc then none else if pc < 25 then (if pc < 11 then (if pc < 5 then (if pc < 1 then (if pc = 0 then some (.aload_n 1, 1) else none) else (if pc < 4 then (if pc = 1 then some (.getfield 18, 3) else none) else (if pc = 4 then some (.iconst 0, 1) else none))) else (if pc < 9 then (if pc < 6 then (if pc = 5 then some (.aload_n 0, 1) else none) else (if pc = 6 then some (.getfield 18, 3) else none)) else (if pc < 10 then (if pc = 9 then some (.iconst 0, 1) else none) else (if pc = 10 then some (.iconst 4, 1) else none)))) else (if pc < 19 then (if pc < 15 then (if pc < 14 then (if pc = 11 then some (.invokestatic 40, 3) else none) else (if pc = 14 then some (.aload_n 1, 1) else none)) else (if pc < 18 then (if pc = 15 then some (.getfield 23, 3) else none) else (if pc = 18 then some (.iconst 0, 1) else none))) else (if pc < 23 then (if pc < 20 then (if pc = 19 then some (.aload_n 0, 1) else none) else (if pc = 20 then some (.getfield 23, 3) else none)) else (if pc < 24 then (if pc = 23 then some (.iconst 0, 1) else none) else (if pc = 24 then some (.iconst 3, 1) else none))))) else (if pc < 43 then (if pc < 33 then (if pc < 29 then (if pc < 28 then (if pc = 25 then some (.invokestatic 40, 3) else none) else (if pc = 28 then some (.aload_n 0, 1) else none)) else (if pc < 32 then (if pc = 29 then some (.getfield 29, 3) else none) else (if pc = 32 then some (.aload_n 1, 1) else none))) else (if pc < 39 then (if pc < 36 then (if pc = 33 then some (.getfield 29, 3) else none) else (if pc = 36 then some (.invokevirtual 46, 3) else none)) else (if pc < 40 then (if pc = 39 then some (.aload_n 0, 1) else none) else (if pc = 40 then some (.getfield 36, 3) else none)))) else (if pc < 51 then (if pc < 47 then (if pc < 44 then (if pc = 43 then some (.aload_n 1, 1) else none) else (if pc = 44 then some (.getfield 36, 3) else none)) else (if pc < 50 then (if pc = 47 then some (.invokevirtual 50, 3) else none) else (if pc = 50 then some (.aload_n 0, 1) else none))) else (if pc < 55 then (if pc < 52 then (if pc = 51 then some (.aload_n 1, 1) else none) else (if pc = 52 then some (.getfield 53, 3) else none)) else (if pc < 58 then (if pc = 55 then some (.putfield 53, 3) else none) else (if pc = 58 then some (.return_, 1) else none)))))
set_option maxRecDepth 100000 in
theorem xo_37_c0 : ([0, 1, 4, 5, 6, 9, 10, 11, 14, 15, 18, 19, 20, 23, 24, 25, 28, 29, 32, 33, 36, 39, 40, 43, 44, 47, 50, 51, 52, 55, 58] : List Nat).all (fun pc => match xo_37 pc with | none => true | some r => decide (decode cX5_copyFrom pc = .ok r)) = true := by decide +kernel
set_option maxRecDepth 100000 in
theorem xo_37_no : (List.range 59).all (fun pc => (xo_37 pc).isNone || (([0, 1, 4, 5, 6, 9, 10, 11, 14, 15, 18, 19, 20, 23, 24, 25, 28, 29, 32, 33, 36, 39, 40, 43, 44, 47, 50, 51, 52, 55, 58] : List Nat).contains pc)) = true := by decide +kernel
theorem xo_37_top (pc : Nat) (h : 59 ≤ pc) : xo_37 pc = none := if_pos h
theorem xo_37_ok (pc : Nat) (r : Instr × Nat) (h : xo_37 pc = some r) : decode cX5_copyFrom pc = .ok r := by
  rcases Nat.lt_or_ge pc 59 with hl | hl
  · have h1 := List.all_eq_true.mp xo_37_no pc (List.mem_range.mpr hl)
    rw [h] at h1
    simp only [Option.isNone_some, Bool.false_or, Bool.or_eq_true, List.contains_iff_mem, or_assoc] at h1
    rcases h1 with h1
    · have h2 := List.all_eq_true.mp xo_37_c0 pc h1
      rw [h] at h2
      exact of_decide_eq_true h2
  · rw [show xo_37 pc = none from if_pos hl] at h; cases h
/-- X6_copyInto -/
def xo_38 (pc : Nat) : Option (Instr × Nat) := if 23 ≤ pc then none else if pc < 14 then (if pc < 7 then (if pc < 1 then (if pc = 0 then some (.aload_n 0, 1) else none) else (if pc < 4 then (if pc = 1 then some (.ifnonnull 13, 3) else none) else (if pc = 4 then some (.new 9, 3) else none))) else (if pc < 8 then (if pc = 7 then some (.dup, 1) else none) else (if pc < 11 then (if pc = 8 then some (.invokespecial 11, 3) else none) else (if pc = 11 then some (.goto 4, 3) else none)))) else (if pc < 17 then (if pc < 15 then (if pc = 14 then some (.aload_n 0, 1) else none) else (if pc < 16 then (if pc = 15 then some (.astore_n 2, 1) else none) else (if pc = 16 then some (.aload_n 2, 1) else none))) else (if pc < 21 then (if pc < 18 then (if pc = 17 then some (.aload_n 1, 1) else none) else (if pc = 18 then some (.invokevirtual 40, 3) else none)) else (if pc < 22 then (if pc = 21 then some (.aload_n 2, 1) else none) else (if pc = 22 then some (.areturn, 1) else none))))
set_option maxRecDepth 100000 in
theorem xo_38_c0 : ([0, 1, 4, 7, 8, 11, 14, 15, 16, 17, 18, 21, 22] : List Nat).all (fun pc => match xo_38 pc with | none => true | some r => decide (decode cX6_copyInto pc = .ok r)) = true := by decide +kernel
set_option maxRecDepth 100000 in
theorem xo_38_no : (List.range 23).all (fun pc => (xo_38 pc).isNone || (([0, 1, 4, 7, 8, 11, 14, 15, 16, 17, 18, 21, 22] : List Nat).contains pc)) = true := by decide +kernel
theorem xo_38_top (pc : Nat) (h : 23 ≤ pc) : xo_38 pc = none := if_pos h
theorem xo_38_ok (pc : Nat) (r : Instr × Nat) (h : xo_38 pc = some r) : decode cX6_copyInto pc = .ok r := by
  rcases Nat.lt_or_ge pc 23 with hl | hl
  · have h1 := List.all_eq_true.mp xo_38_no pc (List.mem_range.mpr hl)
    rw [h] at h1
    simp only [Option.isNone_some, Bool.false_or, Bool.or_eq_true, List.contains_iff_mem, or_assoc] at h1
    rcases h1 with h1
    · have h2 := List.all_eq_true.mp xo_38_c0 pc h1
      rw [h] at h2
      exact of_decide_eq_true h2
  · rw [show xo_38 pc = none from if_pos hl] at h; cases h
/-- X2_record -/
def xo_39 (pc : Nat) : Option (Instr × Nat) := if 46 ≤ pc then none else if pc < 25 then (if pc < 13 then (if pc < 6 then (if pc < 1 then (if pc = 0 then some (.aload_n 0, 1) else none) else (if pc < 4 then (if pc = 1 then some (.getfield 17, 3) else none) else (if pc = 4 then some (.bipush 6, 2) else none))) else (if pc < 9 then (if pc = 6 then some (.if_icmp .ne 7, 3) else none) else (if pc < 10 then (if pc = 9 then some (.aload_n 0, 1) else none) else (if pc = 10 then some (.invokevirtual 21, 3) else none)))) else (if pc < 18 then (if pc < 14 then (if pc = 13 then some (.aload_n 0, 1) else none) else (if pc < 17 then (if pc = 14 then some (.getfield 11, 3) else none) else (if pc = 17 then some (.aload_n 0, 1) else none))) else (if pc < 21 then (if pc = 18 then some (.getfield 17, 3) else none) else (if pc < 22 then (if pc = 21 then some (.aload_n 0, 1) else none) else (if pc = 22 then some (.getfield 11, 3) else none))))) else (if pc < 35 then (if pc < 30 then (if pc < 26 then (if pc = 25 then some (.aload_n 0, 1) else none) else (if pc < 29 then (if pc = 26 then some (.getfield 17, 3) else none) else (if pc = 29 then some (.aaload, 1) else none))) else (if pc < 31 then (if pc = 30 then some (.aload_n 1, 1) else none) else (if pc < 34 then (if pc = 31 then some (.invokestatic 24, 3) else none) else (if pc = 34 then some (.aastore, 1) else none)))) else (if pc < 40 then (if pc < 36 then (if pc = 35 then some (.aload_n 0, 1) else none) else (if pc < 37 then (if pc = 36 then some (.dup, 1) else none) else (if pc = 37 then some (.getfield 17, 3) else none))) else (if pc < 42 then (if pc < 41 then (if pc = 40 then some (.iconst 1, 1) else none) else (if pc = 41 then some (.iadd, 1) else none)) else (if pc < 45 then (if pc = 42 then some (.putfield 17, 3) else none) else (if pc = 45 then some (.return_, 1) else none)))))
set_option maxRecDepth 100000 in
theorem xo_39_c0 : ([0, 1, 4, 6, 9, 10, 13, 14, 17, 18, 21, 22, 25, 26, 29, 30, 31, 34, 35, 36, 37, 40, 41, 42, 45] : List Nat).all (fun pc => match xo_39 pc with | none => true | some r => decide (decode cX2_record pc = .ok r)) = true := by decide +kernel
set_option maxRecDepth 100000 in
theorem xo_39_no : (List.range 46).all (fun pc => (xo_39 pc).isNone || (([0, 1, 4, 6, 9, 10, 13, 14, 17, 18, 21, 22, 25, 26, 29, 30, 31, 34, 35, 36, 37, 40, 41, 42, 45] : List Nat).contains pc)) = true := by decide +kernel
theorem xo_39_top (pc : Nat) (h : 46 ≤ pc) : xo_39 pc = none := if_pos h
theorem xo_39_ok (pc : Nat) (r : Instr × Nat) (h : xo_39 pc = some r) : decode cX2_record pc = .ok r := by
  rcases Nat.lt_or_ge pc 46 with hl | hl
  · have h1 := List.all_eq_true.mp xo_39_no pc (List.mem_range.mpr hl)
    rw [h] at h1
    simp only [Option.isNone_some, Bool.false_or, Bool.or_eq_true, List.contains_iff_mem, or_assoc] at h1
    rcases h1 with h1
    · have h2 := List.all_eq_true.mp xo_39_c0 pc h1
      rw [h] at h2
      exact of_decide_eq_true h2
  · rw [show xo_39 pc = none from if_pos hl] at h; cases h
/-- X2_takeBack -/
def xo_40 (pc : Nat) : Option (Instr × Nat) := if 44 ≤ pc then none else if pc < 22 then (if pc < 13 then (if pc < 7 then (if pc < 1 then (if pc = 0 then some (.aload_n 0, 1) else none) else (if pc < 4 then (if pc = 1 then some (.getfield 17, 3) else none) else (if pc = 4 then some (.ifCond .ne 5, 3) else none))) else (if pc < 9 then (if pc < 8 then (if pc = 7 then some (.iconst 0, 1) else none) else (if pc = 8 then some (.ireturn, 1) else none)) else (if pc < 10 then (if pc = 9 then some (.aload_n 0, 1) else none) else (if pc = 10 then some (.getfield 11, 3) else none)))) else (if pc < 18 then (if pc < 14 then (if pc = 13 then some (.aload_n 0, 1) else none) else (if pc < 17 then (if pc = 14 then some (.getfield 17, 3) else none) else (if pc = 17 then some (.iconst 1, 1) else none))) else (if pc < 20 then (if pc < 19 then (if pc = 18 then some (.isub, 1) else none) else (if pc = 19 then some (.aaload, 1) else none)) else (if pc < 21 then (if pc = 20 then some (.astore_n 2, 1) else none) else (if pc = 21 then some (.aload_n 2, 1) else none))))) else (if pc < 33 then (if pc < 27 then (if pc < 25 then (if pc = 22 then some (.ifnonnull 5, 3) else none) else (if pc < 26 then (if pc = 25 then some (.iconst 0, 1) else none) else (if pc = 26 then some (.ireturn, 1) else none))) else (if pc < 29 then (if pc < 28 then (if pc = 27 then some (.aload_n 1, 1) else none) else (if pc = 28 then some (.aload_n 2, 1) else none)) else (if pc < 32 then (if pc = 29 then some (.invokevirtual 28, 3) else none) else (if pc = 32 then some (.aload_n 0, 1) else none)))) else (if pc < 38 then (if pc < 34 then (if pc = 33 then some (.dup, 1) else none) else (if pc < 37 then (if pc = 34 then some (.getfield 17, 3) else none) else (if pc = 37 then some (.iconst 1, 1) else none))) else (if pc < 42 then (if pc < 39 then (if pc = 38 then some (.isub, 1) else none) else (if pc = 39 then some (.putfield 17, 3) else none)) else (if pc < 43 then (if pc = 42 then some (.iconst 1, 1) else none) else (if pc = 43 then some (.ireturn, 1) else none)))))
set_option maxRecDepth 100000 in
theorem xo_40_c0 : ([0, 1, 4, 7, 8, 9, 10, 13, 14, 17, 18, 19, 20, 21, 22, 25, 26, 27, 28, 29, 32, 33, 34, 37, 38, 39, 42, 43] : List Nat).all (fun pc => match xo_40 pc with | none => true | some r => decide (decode cX2_takeBack pc = .ok r)) = true := by decide +kernel
set_option maxRecDepth 100000 in
theorem xo_40_no : (List.range 44).all (fun pc => (xo_40 pc).isNone || (([0, 1, 4, 7, 8, 9, 10, 13, 14, 17, 18, 19, 20, 21, 22, 25, 26, 27, 28, 29, 32, 33, 34, 37, 38, 39, 42, 43] : List Nat).contains pc)) = true := by decide +kernel
theorem xo_40_top (pc : Nat) (h : 44 ≤ pc) : xo_40 pc = none := if_pos h
theorem xo_40_ok (pc : Nat) (r : Instr × Nat) (h : xo_40 pc = some r) : decode cX2_takeBack pc = .ok r := by
  rcases Nat.lt_or_ge pc 44 with hl | hl
  · have h1 := List.all_eq_true.mp xo_40_no pc (List.mem_range.mpr hl)
    rw [h] at h1
    simp only [Option.isNone_some, Bool.false_or, Bool.or_eq_true, List.contains_iff_mem, or_assoc] at h1
    rcases h1 with h1
    · have h2 := List.all_eq_true.mp xo_40_c0 pc h1
      rw [h] at h2
      exact of_decide_eq_true h2
  · rw [show xo_40 pc = none from if_pos hl] at h; cases h
/-- X3_codeAt -/
def xo_41 (pc : Nat) : Option (Instr × Nat) := if 12 ≤ pc then none else if pc < 5 then (if pc < 3 then (if pc < 1 then (if pc = 0 then some (.lload_n 0, 1) else none) else (if pc = 1 then some (.bipush 8, 2) else none)) else (if pc < 4 then (if pc = 3 then some (.iload_n 2, 1) else none) else (if pc = 4 then some (.imul, 1) else none))) else (if pc < 9 then (if pc < 6 then (if pc = 5 then some (.lushr, 1) else none) else (if pc = 6 then some (.ldc2_w 31, 3) else none)) else (if pc < 10 then (if pc = 9 then some (.land, 1) else none) else (if pc < 11 then (if pc = 10 then some (.l2i, 1) else none) else (if pc = 11 then some (.ireturn, 1) else none))))
set_option maxRecDepth 100000 in
theorem xo_41_c0 : ([0, 1, 3, 4, 5, 6, 9, 10, 11] : List Nat).all (fun pc => match xo_41 pc with | none => true | some r => decide (decode cX3_codeAt pc = .ok r)) = true := by decide +kernel
set_option maxRecDepth 100000 in
theorem xo_41_no : (List.range 12).all (fun pc => (xo_41 pc).isNone || (([0, 1, 3, 4, 5, 6, 9, 10, 11] : List Nat).contains pc)) = true := by decide +kernel
theorem xo_41_top (pc : Nat) (h : 12 ≤ pc) : xo_41 pc = none := if_pos h
theorem xo_41_ok (pc : Nat) (r : Instr × Nat) (h : xo_41 pc = some r) : decode cX3_codeAt pc = .ok r := by
  rcases Nat.lt_or_ge pc 12 with hl | hl
  · have h1 := List.all_eq_true.mp xo_41_no pc (List.mem_range.mpr hl)
    rw [h] at h1
    simp only [Option.isNone_some, Bool.false_or, Bool.or_eq_true, List.contains_iff_mem, or_assoc] at h1
    rcases h1 with h1
    · have h2 := List.all_eq_true.mp xo_41_c0 pc h1
      rw [h] at h2
      exact of_decide_eq_true h2
  · rw [show xo_41 pc = none from if_pos hl] at h; cases h
/-- X6_isFrom -/
def xo_42 (pc : Nat) : Option (Instr × Nat) := if 16 ≤ pc then none else if pc < 7 then (if pc < 2 then (if pc < 1 then (if pc = 0 then some (.iload_n 0, 1) else none) else (if pc = 1 then some (.iload_n 1, 1) else none)) else (if pc < 5 then (if pc = 2 then some (.if_icmp .gt 12, 3) else none) else (if pc < 6 then (if pc = 5 then some (.iload_n 1, 1) else none) else (if pc = 6 then some (.iload_n 2, 1) else none)))) else (if pc < 11 then (if pc < 10 then (if pc = 7 then some (.if_icmp .gt 7, 3) else none) else (if pc = 10 then some (.iconst 1, 1) else none)) else (if pc < 14 then (if pc = 11 then some (.goto 4, 3) else none) else (if pc < 15 then (if pc = 14 then some (.iconst 0, 1) else none) else (if pc = 15 then some (.ireturn, 1) else none))))
set_option maxRecDepth 100000 in
theorem xo_42_c0 : ([0, 1, 2, 5, 6, 7, 10, 11, 14, 15] : List Nat).all (fun pc => match xo_42 pc with | none => true | some r => decide (decode cX6_isFrom pc = .ok r)) = true := by decide +kernel
set_option maxRecDepth 100000 in
theorem xo_42_no : (List.range 16).all (fun pc => (xo_42 pc).isNone || (([0, 1, 2, 5, 6, 7, 10, 11, 14, 15] : List Nat).contains pc)) = true := by decide +kernel
theorem xo_42_top (pc : Nat) (h : 16 ≤ pc) : xo_42 pc = none := if_pos h
theorem xo_42_ok (pc : Nat) (r : Instr × Nat) (h : xo_42 pc = some r) : decode cX6_isFrom pc = .ok r := by
  rcases Nat.lt_or_ge pc 16 with hl | hl
  · have h1 := List.all_eq_true.mp xo_42_no pc (List.mem_range.mpr hl)
    rw [h] at h1
    simp only [Option.isNone_some, Bool.false_or, Bool.or_eq_true, List.contains_iff_mem, or_assoc] at h1
    rcases h1 with h1
    · have h2 := List.all_eq_true.mp xo_42_c0 pc h1
      rw [h] at h2
      exact of_decide_eq_true h2
  · rw [show xo_42 pc = none from if_pos hl] at h; cases h
/-- X3_countCharacters -/
def xo_43 (pc : Nat) : Option (Instr × Nat) := if 62 ≤ pc then none else if pc < 35 then (if pc < 12 then (if pc < 5 then (if pc < 2 then (if pc < 1 then (if pc = 0 then some (.iconst 0, 1) else none) else (if pc = 1 then some (.istore_n 2, 1) else none)) else (if pc < 3 then (if pc = 2 then some (.iload_n 2, 1) else none) else (if pc = 3 then some (.bipush 8, 2) else none))) else (if pc < 10 then (if pc < 8 then (if pc = 5 then some (.if_icmp .ge 24, 3) else none) else (if pc = 8 then some (.bipush 33, 2) else none)) else (if pc < 11 then (if pc = 10 then some (.lload_n 0, 1) else none) else (if pc = 11 then some (.iload_n 2, 1) else none)))) else (if pc < 23 then (if pc < 17 then (if pc < 15 then (if pc = 12 then some (.invokestatic 23, 3) else none) else (if pc = 15 then some (.bipush 126, 2) else none)) else (if pc < 20 then (if pc = 17 then some (.invokestatic 27, 3) else none) else (if pc = 20 then some (.ifCond .eq 9, 3) else none))) else (if pc < 29 then (if pc < 26 then (if pc = 23 then some (.iinc 2 1, 3) else none) else (if pc = 26 then some (.goto (-24), 3) else none)) else (if pc < 30 then (if pc = 29 then some (.iload_n 2, 1) else none) else (if pc < 32 then (if pc = 30 then some (.bipush 8, 2) else none) else (if pc = 32 then some (.if_icmp .eq 14, 3) else none)))))) else (if pc < 47 then (if pc < 40 then (if pc < 38 then (if pc < 36 then (if pc = 35 then some (.lload_n 0, 1) else none) else (if pc = 36 then some (.bipush 8, 2) else none)) else (if pc < 39 then (if pc = 38 then some (.iload_n 2, 1) else none) else (if pc = 39 then some (.imul, 1) else none))) else (if pc < 42 then (if pc < 41 then (if pc = 40 then some (.lushr, 1) else none) else (if pc = 41 then some (.lconst 0, 1) else none)) else (if pc < 43 then (if pc = 42 then some (.lcmp, 1) else none) else (if pc < 46 then (if pc = 43 then some (.ifCond .ne 7, 3) else none) else (if pc = 46 then some (.iconst 1, 1) else none))))) else (if pc < 53 then (if pc < 51 then (if pc < 50 then (if pc = 47 then some (.goto 4, 3) else none) else (if pc = 50 then some (.iconst 0, 1) else none)) else (if pc < 52 then (if pc = 51 then some (.istore_n 3, 1) else none) else (if pc = 52 then some (.iload_n 3, 1) else none))) else (if pc < 57 then (if pc < 56 then (if pc = 53 then some (.ifCond .eq 7, 3) else none) else (if pc = 56 then some (.iload_n 2, 1) else none)) else (if pc < 60 then (if pc = 57 then some (.goto 4, 3) else none) else (if pc < 61 then (if pc = 60 then some (.iconst 0, 1) else none) else (if pc = 61 then some (.ireturn, 1) else none))))))
set_option maxRecDepth 100000 in
theorem xo_43_c0 : ([0, 1, 2, 3, 5, 8, 10, 11, 12, 15, 17, 20, 23, 26, 29, 30, 32, 35, 36, 38, 39, 40, 41, 42, 43, 46, 47, 50, 51, 52, 53, 56, 57, 60, 61] : List Nat).all (fun pc => match xo_43 pc with | none => true | some r => decide (decode cX3_countCharacters pc = .ok r)) = true := by decide +kernel
set_option maxRecDepth 100000 in
theorem xo_43_no : (List.range 62).all (fun pc => (xo_43 pc).isNone || (([0, 1, 2, 3, 5, 8, 10, 11, 12, 15, 17, 20, 23, 26, 29, 30, 32, 35, 36, 38, 39, 40, 41, 42, 43, 46, 47, 50, 51, 52, 53, 56, 57, 60, 61] : List Nat).contains pc)) = true := by decide +kernel
theorem xo_43_top (pc : Nat) (h : 62 ≤ pc) : xo_43 pc = none := if_pos h
theorem xo_43_ok (pc : Nat) (r : Instr × Nat) (h : xo_43 pc = some r) : decode cX3_countCharacters pc = .ok r := by
  rcases Nat.lt_or_ge pc 62 with hl | hl
  · have h1 := List.all_eq_true.mp xo_43_no pc (List.mem_range.mpr hl)
    rw [h] at h1
    simp only [Option.isNone_some, Bool.false_or, Bool.or_eq_true, List.contains_iff_mem, or_assoc] at h1
    rcases h1 with h1
    · have h2 := List.all_eq_true.mp xo_43_c0 pc h1
      rw [h] at h2
      exact of_decide_eq_true h2
  · rw [show xo_43 pc = none from if_pos hl] at h; cases h
/-- X3_append -/
def xo_44 (pc : Nat) : Option (Instr × Nat) := if 73 ≤ pc then none else if pc < 33 then (if pc < 17 then (if pc < 9 then (if pc < 4 then (if pc < 1 then (if pc = 0 then some (.lload_n 1, 1) else none) else (if pc = 1 then some (.invokestatic 15, 3) else none)) else (if pc < 5 then (if pc = 4 then some (.istore_n 3, 1) else none) else (if pc < 6 then (if pc = 5 then some (.iload_n 3, 1) else none) else (if pc = 6 then some (.ifCond .ne 6, 3) else none)))) else (if pc < 12 then (if pc < 11 then (if pc = 9 then some (.bipush (-2), 2) else none) else (if pc = 11 then some (.ireturn, 1) else none)) else (if pc < 13 then (if pc = 12 then some (.aload_n 0, 1) else none) else (if pc < 16 then (if pc = 13 then some (.getfield 19, 3) else none) else (if pc = 16 then some (.iload_n 3, 1) else none))))) else (if pc < 26 then (if pc < 20 then (if pc < 18 then (if pc = 17 then some (.iadd, 1) else none) else (if pc = 18 then some (.bipush 60, 2) else none)) else (if pc < 23 then (if pc = 20 then some (.if_icmp .le 6, 3) else none) else (if pc < 25 then (if pc = 23 then some (.bipush (-4), 2) else none) else (if pc = 25 then some (.ireturn, 1) else none)))) else (if pc < 28 then (if pc < 27 then (if pc = 26 then some (.iload_n 3, 1) else none) else (if pc = 27 then some (.iconst 1, 1) else none)) else (if pc < 29 then (if pc = 28 then some (.isub, 1) else none) else (if pc < 31 then (if pc = 29 then some (.istore 4, 2) else none) else (if pc = 31 then some (.iload 4, 2) else none)))))) else (if pc < 52 then (if pc < 44 then (if pc < 37 then (if pc < 36 then (if pc = 33 then some (.ifCond .lt 35, 3) else none) else (if pc = 36 then some (.aload_n 0, 1) else none)) else (if pc < 40 then (if pc = 37 then some (.getfield 9, 3) else none) else (if pc < 41 then (if pc = 40 then some (.aload_n 0, 1) else none) else (if pc = 41 then some (.getfield 19, 3) else none)))) else (if pc < 47 then (if pc < 45 then (if pc = 44 then some (.lload_n 1, 1) else none) else (if pc = 45 then some (.iload 4, 2) else none)) else (if pc < 50 then (if pc = 47 then some (.invokestatic 23, 3) else none) else (if pc < 51 then (if pc = 50 then some (.i2c, 1) else none) else (if pc = 51 then some (.castore, 1) else none))))) else (if pc < 59 then (if pc < 54 then (if pc < 53 then (if pc = 52 then some (.aload_n 0, 1) else none) else (if pc = 53 then some (.dup, 1) else none)) else (if pc < 57 then (if pc = 54 then some (.getfield 19, 3) else none) else (if pc < 58 then (if pc = 57 then some (.iconst 1, 1) else none) else (if pc = 58 then some (.iadd, 1) else none)))) else (if pc < 68 then (if pc < 62 then (if pc = 59 then some (.putfield 19, 3) else none) else (if pc < 65 then (if pc = 62 then some (.iinc 4 (-1), 3) else none) else (if pc = 65 then some (.goto (-34), 3) else none))) else (if pc < 69 then (if pc = 68 then some (.aload_n 0, 1) else none) else (if pc < 72 then (if pc = 69 then some (.getfield 19, 3) else none) else (if pc = 72 then some (.ireturn, 1) else none))))))
set_option maxRecDepth 100000 in
theorem xo_44_c0 : ([0, 1, 4, 5, 6, 9, 11, 12, 13, 16, 17, 18, 20, 23, 25, 26, 27, 28, 29, 31, 33, 36, 37, 40, 41, 44, 45, 47, 50, 51, 52, 53, 54, 57, 58, 59, 62, 65, 68, 69, 72] : List Nat).all (fun pc => match xo_44 pc with | none => true | some r => decide (decode cX3_append pc = .ok r)) = true := by decide +kernel
set_option maxRecDepth 100000 in
theorem xo_44_no : (List.range 73).all (fun pc => (xo_44 pc).isNone || (([0, 1, 4, 5, 6, 9, 11, 12, 13, 16, 17, 18, 20, 23, 25, 26, 27, 28, 29, 31, 33, 36, 37, 40, 41, 44, 45, 47, 50, 51, 52, 53, 54, 57, 58, 59, 62, 65, 68, 69, 72] : List Nat).contains pc)) = true := by decide +kernel
theorem xo_44_top (pc : Nat) (h : 73 ≤ pc) : xo_44 pc = none := if_pos h
theorem xo_44_ok (pc : Nat) (r : Instr × Nat) (h : xo_44 pc = some r) : decode cX3_append pc = .ok r := by
  rcases Nat.lt_or_ge pc 73 with hl | hl
  · have h1 := List.all_eq_true.mp xo_44_no pc (List.mem_range.mpr hl)
    rw [h] at h1
    simp only [Option.isNone_some, Bool.false_or, Bool.or_eq_true, List.contains_iff_mem, or_assoc] at h1
    rcases h1 with h1
    · have h2 := List.all_eq_true.mp xo_44_c0 pc h1
      rw [h] at h2
      exact of_decide_eq_true h2
  · rw [show xo_44 pc = none from if_pos hl] at h; cases h
/-- X3_clear -/
def xo_45 (pc : Nat) : Option (Instr × Nat) := if 12 ≤ pc then none else if pc < 6 then (if pc < 4 then (if pc < 1 then (if pc = 0 then some (.aload_n 0, 1) else none) else (if pc = 1 then some (.getfield 19, 3) else none)) else (if pc < 5 then (if pc = 4 then some (.istore_n 1, 1) else none) else (if pc = 5 then some (.aload_n 0, 1) else none))) else (if pc < 10 then (if pc < 7 then (if pc = 6 then some (.iconst 0, 1) else none) else (if pc = 7 then some (.putfield 19, 3) else none)) else (if pc < 11 then (if pc = 10 then some (.iload_n 1, 1) else none) else (if pc = 11 then some (.ireturn, 1) else none)))
set_option maxRecDepth 100000 in
theorem xo_45_c0 : ([0, 1, 4, 5, 6, 7, 10, 11] : List Nat).all (fun pc => match xo_45 pc with | none => true | some r => decide (decode cX3_clear pc = .ok r)) = true := by decide +kernel
set_option maxRecDepth 100000 in
theorem xo_45_no : (List.range 12).all (fun pc => (xo_45 pc).isNone || (([0, 1, 4, 5, 6, 7, 10, 11] : List Nat).contains pc)) = true := by decide +kernel
theorem xo_45_top (pc : Nat) (h : 12 ≤ pc) : xo_45 pc = none := if_pos h
theorem xo_45_ok (pc : Nat) (r : Instr × Nat) (h : xo_45 pc = some r) : decode cX3_clear pc = .ok r := by
  rcases Nat.lt_or_ge pc 12 with hl | hl
  · have h1 := List.all_eq_true.mp xo_45_no pc (List.mem_range.mpr hl)
    rw [h] at h1
    simp only [Option.isNone_some, Bool.false_or, Bool.or_eq_true, List.contains_iff_mem, or_assoc] at h1
    rcases h1 with h1
    · have h2 := List.all_eq_true.mp xo_45_c0 pc h1
      rw [h] at h2
      exact of_decide_eq_true h2
  · rw [show xo_45 pc = none from if_pos hl] at h; cases h
/-- X6_isShed -/
def xo_46 (pc : Nat) : Option (Instr × Nat) := if 16 ≤ pc then none else if pc < 7 then (if pc < 2 then (if pc < 1 then (if pc = 0 then some (.iconst 0, 1) else none) else (if pc = 1 then some (.iload_n 0, 1) else none)) else (if pc < 5 then (if pc = 2 then some (.if_icmp .gt 12, 3) else none) else (if pc < 6 then (if pc = 5 then some (.iload_n 0, 1) else none) else (if pc = 6 then some (.iconst 3, 1) else none)))) else (if pc < 11 then (if pc < 10 then (if pc = 7 then some (.if_icmp .ge 7, 3) else none) else (if pc = 10 then some (.iconst 1, 1) else none)) else (if pc < 14 then (if pc = 11 then some (.goto 4, 3) else none) else (if pc < 15 then (if pc = 14 then some (.iconst 0, 1) else none) else (if pc = 15 then some (.ireturn, 1) else none))))
set_option maxRecDepth 100000 in
theorem xo_46_c0 : ([0, 1, 2, 5, 6, 7, 10, 11, 14, 15] : List Nat).all (fun pc => match xo_46 pc with | none => true | some r => decide (decode cX6_isShed pc = .ok r)) = true := by decide +kernel
set_option maxRecDepth 100000 in
theorem xo_46_no : (List.range 16).all (fun pc => (xo_46 pc).isNone || (([0, 1, 2, 5, 6, 7, 10, 11, 14, 15] : List Nat).contains pc)) = true := by decide +kernel
theorem xo_46_top (pc : Nat) (h : 16 ≤ pc) : xo_46 pc = none := if_pos h
theorem xo_46_ok (pc : Nat) (r : Instr × Nat) (h : xo_46 pc = some r) : decode cX6_isShed pc = .ok r := by
  rcases Nat.lt_or_ge pc 16 with hl | hl
  · have h1 := List.all_eq_true.mp xo_46_no pc (List.mem_range.mpr hl)
    rw [h] at h1
    simp only [Option.isNone_some, Bool.false_or, Bool.or_eq_true, List.contains_iff_mem, or_assoc] at h1
    rcases h1 with h1
    · have h2 := List.all_eq_true.mp xo_46_c0 pc h1
      rw [h] at h2
      exact of_decide_eq_true h2
  · rw [show xo_46 pc = none from if_pos hl] at h; cases h
/-- X4_hasPermit -/
def xo_47 (pc : Nat) : Option (Instr × Nat) := if 10 ≤ pc then none else if pc < 5 then (if pc < 1 then (if pc = 0 then some (.aload_n 0, 1) else none) else (if pc < 4 then (if pc = 1 then some (.getfield 13, 3) else none) else (if pc = 4 then some (.iload_n 1, 1) else none))) else (if pc < 6 then (if pc = 5 then some (.iaload, 1) else none) else (if pc < 9 then (if pc = 6 then some (.invokestatic 44, 3) else none) else (if pc = 9 then some (.ireturn, 1) else none)))
set_option maxRecDepth 100000 in
theorem xo_47_c0 : ([0, 1, 4, 5, 6, 9] : List Nat).all (fun pc => match xo_47 pc with | none => true | some r => decide (decode cX4_hasPermit pc = .ok r)) = true := by decide +kernel
set_option maxRecDepth 100000 in
theorem xo_47_no : (List.range 10).all (fun pc => (xo_47 pc).isNone || (([0, 1, 4, 5, 6, 9] : List Nat).contains pc)) = true := by decide +kernel
theorem xo_47_top (pc : Nat) (h : 10 ≤ pc) : xo_47 pc = none := if_pos h
theorem xo_47_ok (pc : Nat) (r : Instr × Nat) (h : xo_47 pc = some r) : decode cX4_hasPermit pc = .ok r := by
  rcases Nat.lt_or_ge pc 10 with hl | hl
  · have h1 := List.all_eq_true.mp xo_47_no pc (List.mem_range.mpr hl)
    rw [h] at h1
    simp only [Option.isNone_some, Bool.false_or, Bool.or_eq_true, List.contains_iff_mem, or_assoc] at h1
    rcases h1 with h1
    · have h2 := List.all_eq_true.mp xo_47_c0 pc h1
      rw [h] at h2
      exact of_decide_eq_true h2
  · rw [show xo_47 pc = none from if_pos hl] at h; cases h
/-- X4_waitsFor -/
def xo_48 (pc : Nat) : Option (Instr × Nat) := if 19 ≤ pc then none else if pc < 8 then (if pc < 5 then (if pc < 1 then (if pc = 0 then some (.aload_n 0, 1) else none) else (if pc < 4 then (if pc = 1 then some (.getfield 23, 3) else none) else (if pc = 4 then some (.iload_n 2, 1) else none))) else (if pc < 6 then (if pc = 5 then some (.aaload, 1) else none) else (if pc < 7 then (if pc = 6 then some (.iload_n 1, 1) else none) else (if pc = 7 then some (.iaload, 1) else none)))) else (if pc < 14 then (if pc < 10 then (if pc = 8 then some (.bipush (-6), 2) else none) else (if pc < 13 then (if pc = 10 then some (.if_icmp .eq 7, 3) else none) else (if pc = 13 then some (.iconst 1, 1) else none))) else (if pc < 17 then (if pc = 14 then some (.goto 4, 3) else none) else (if pc < 18 then (if pc = 17 then some (.iconst 0, 1) else none) else (if pc = 18 then some (.ireturn, 1) else none))))
set_option maxRecDepth 100000 in
theorem xo_48_c0 : ([0, 1, 4, 5, 6, 7, 8, 10, 13, 14, 17, 18] : List Nat).all (fun pc => match xo_48 pc with | none => true | some r => decide (decode cX4_waitsFor pc = .ok r)) = true := by decide +kernel
set_option maxRecDepth 100000 in
theorem xo_48_no : (List.range 19).all (fun pc => (xo_48 pc).isNone || (([0, 1, 4, 5, 6, 7, 8, 10, 13, 14, 17, 18] : List Nat).contains pc)) = true := by decide +kernel
theorem xo_48_top (pc : Nat) (h : 19 ≤ pc) : xo_48 pc = none := if_pos h
theorem xo_48_ok (pc : Nat) (r : Instr × Nat) (h : xo_48 pc = some r) : decode cX4_waitsFor pc = .ok r := by
  rcases Nat.lt_or_ge pc 19 with hl | hl
  · have h1 := List.all_eq_true.mp xo_48_no pc (List.mem_range.mpr hl)
    rw [h] at h1
    simp only [Option.isNone_some, Bool.false_or, Bool.or_eq_true, List.contains_iff_mem, or_assoc] at h1
    rcases h1 with h1
    · have h2 := List.all_eq_true.mp xo_48_c0 pc h1
      rw [h] at h2
      exact of_decide_eq_true h2
  · rw [show xo_48 pc = none from if_pos hl] at h; cases h
/-- X4_shedsWaitedFor -/
def xo_49 (pc : Nat) : Option (Instr × Nat) := if 32 ≤ pc then none else if pc < 15 then (if pc < 5 then (if pc < 2 then (if pc < 1 then (if pc = 0 then some (.iconst 0, 1) else none) else (if pc = 1 then some (.istore_n 2, 1) else none)) else (if pc < 3 then (if pc = 2 then some (.iconst 0, 1) else none) else (if pc < 4 then (if pc = 3 then some (.istore_n 3, 1) else none) else (if pc = 4 then some (.iload_n 3, 1) else none)))) else (if pc < 10 then (if pc < 6 then (if pc = 5 then some (.iconst 3, 1) else none) else (if pc < 9 then (if pc = 6 then some (.if_icmp .ge 24, 3) else none) else (if pc = 9 then some (.aload_n 0, 1) else none))) else (if pc < 11 then (if pc = 10 then some (.iload_n 1, 1) else none) else (if pc < 12 then (if pc = 11 then some (.iload_n 3, 1) else none) else (if pc = 12 then some (.invokevirtual 52, 3) else none))))) else (if pc < 22 then (if pc < 19 then (if pc < 18 then (if pc = 15 then some (.ifCond .eq 9, 3) else none) else (if pc = 18 then some (.iload_n 2, 1) else none)) else (if pc < 20 then (if pc = 19 then some (.iconst 1, 1) else none) else (if pc < 21 then (if pc = 20 then some (.iload_n 3, 1) else none) else (if pc = 21 then some (.ishl, 1) else none)))) else (if pc < 27 then (if pc < 23 then (if pc = 22 then some (.ior, 1) else none) else (if pc < 24 then (if pc = 23 then some (.istore_n 2, 1) else none) else (if pc = 24 then some (.iinc 3 1, 3) else none))) else (if pc < 30 then (if pc = 27 then some (.goto (-23), 3) else none) else (if pc < 31 then (if pc = 30 then some (.iload_n 2, 1) else none) else (if pc = 31 then some (.ireturn, 1) else none)))))
set_option maxRecDepth 100000 in
theorem xo_49_c0 : ([0, 1, 2, 3, 4, 5, 6, 9, 10, 11, 12, 15, 18, 19, 20, 21, 22, 23, 24, 27, 30, 31] : List Nat).all (fun pc => match xo_49 pc with | none => true | some r => decide (decode cX4_shedsWaitedFor pc = .ok r)) = true := by decide +kernel
set_option maxRecDepth 100000 in
theorem xo_49_no : (List.range 32).all (fun pc => (xo_49 pc).isNone || (([0, 1, 2, 3, 4, 5, 6, 9, 10, 11, 12, 15, 18, 19, 20, 21, 22, 23, 24, 27, 30, 31] : List Nat).contains pc)) = true := by decide +kernel
theorem xo_49_top (pc : Nat) (h : 32 ≤ pc) : xo_49 pc = none := if_pos h
theorem xo_49_ok (pc : Nat) (r : Instr × Nat) (h : xo_49 pc = some r) : decode cX4_shedsWaitedFor pc = .ok r := by
  rcases Nat.lt_or_ge pc 32 with hl | hl
  · have h1 := List.all_eq_true.mp xo_49_no pc (List.mem_range.mpr hl)
    rw [h] at h1
    simp only [Option.isNone_some, Bool.false_or, Bool.or_eq_true, List.contains_iff_mem, or_assoc] at h1
    rcases h1 with h1
    · have h2 := List.all_eq_true.mp xo_49_c0 pc h1
      rw [h] at h2
      exact of_decide_eq_true h2
  · rw [show xo_49 pc = none from if_pos hl] at h; cases h
end
section
/-- X4_waitsForSome -/
def xo_50 (pc : Nat) : Option (Instr × Nat) := if 14 ≤ pc then none else if pc < 8 then (if pc < 2 then (if pc < 1 then (if pc = 0 then some (.aload_n 0, 1) else none) else (if pc = 1 then some (.iload_n 1, 1) else none)) else (if pc < 5 then (if pc = 2 then some (.invokevirtual 48, 3) else none) else (if pc = 5 then some (.ifCond .eq 7, 3) else none))) else (if pc < 12 then (if pc < 9 then (if pc = 8 then some (.iconst 1, 1) else none) else (if pc = 9 then some (.goto 4, 3) else none)) else (if pc < 13 then (if pc = 12 then some (.iconst 0, 1) else none) else (if pc = 13 then some (.ireturn, 1) else none)))
set_option maxRecDepth 100000 in
theorem xo_50_c0 : ([0, 1, 2, 5, 8, 9, 12, 13] : List Nat).all (fun pc => match xo_50 pc with | none => true | some r => decide (decode cX4_waitsForSome pc = .ok r)) = true := by decide +kernel
set_option maxRecDepth 100000 in
theorem xo_50_no : (List.range 14).all (fun pc => (xo_50 pc).isNone || (([0, 1, 2, 5, 8, 9, 12, 13] : List Nat).contains pc)) = true := by decide +kernel
theorem xo_50_top (pc : Nat) (h : 14 ≤ pc) : xo_50 pc = none := if_pos h
theorem xo_50_ok (pc : Nat) (r : Instr × Nat) (h : xo_50 pc = some r) : decode cX4_waitsForSome pc = .ok r := by
  rcases Nat.lt_or_ge pc 14 with hl | hl
  · have h1 := List.all_eq_true.mp xo_50_no pc (List.mem_range.mpr hl)
    rw [h] at h1
    simp only [Option.isNone_some, Bool.false_or, Bool.or_eq_true, List.contains_iff_mem, or_assoc] at h1
    rcases h1 with h1
    · have h2 := List.all_eq_true.mp xo_50_c0 pc h1
      rw [h] at h2
      exact of_decide_eq_true h2
  · rw [show xo_50 pc = none from if_pos hl] at h; cases h
/-- X4_countOf -/
def xo_51 (pc : Nat) : Option (Instr × Nat) := if 31 ≤ pc then none else if pc < 14 then (if pc < 4 then (if pc < 2 then (if pc < 1 then (if pc = 0 then some (.iconst 0, 1) else none) else (if pc = 1 then some (.istore_n 2, 1) else none)) else (if pc < 3 then (if pc = 2 then some (.iconst 0, 1) else none) else (if pc = 3 then some (.istore_n 3, 1) else none))) else (if pc < 7 then (if pc < 5 then (if pc = 4 then some (.iload_n 3, 1) else none) else (if pc = 5 then some (.bipush 20, 2) else none)) else (if pc < 10 then (if pc = 7 then some (.if_icmp .ge 22, 3) else none) else (if pc < 11 then (if pc = 10 then some (.aload_n 0, 1) else none) else (if pc = 11 then some (.getfield 13, 3) else none))))) else (if pc < 20 then (if pc < 16 then (if pc < 15 then (if pc = 14 then some (.iload_n 3, 1) else none) else (if pc = 15 then some (.iaload, 1) else none)) else (if pc < 17 then (if pc = 16 then some (.iload_n 1, 1) else none) else (if pc = 17 then some (.if_icmp .ne 6, 3) else none))) else (if pc < 26 then (if pc < 23 then (if pc = 20 then some (.iinc 2 1, 3) else none) else (if pc = 23 then some (.iinc 3 1, 3) else none)) else (if pc < 29 then (if pc = 26 then some (.goto (-22), 3) else none) else (if pc < 30 then (if pc = 29 then some (.iload_n 2, 1) else none) else (if pc = 30 then some (.ireturn, 1) else none)))))
set_option maxRecDepth 100000 in
theorem xo_51_c0 : ([0, 1, 2, 3, 4, 5, 7, 10, 11, 14, 15, 16, 17, 20, 23, 26, 29, 30] : List Nat).all (fun pc => match xo_51 pc with | none => true | some r => decide (decode cX4_countOf pc = .ok r)) = true := by decide +kernel
set_option maxRecDepth 100000 in
theorem xo_51_no : (List.range 31).all (fun pc => (xo_51 pc).isNone || (([0, 1, 2, 3, 4, 5, 7, 10, 11, 14, 15, 16, 17, 20, 23, 26, 29, 30] : List Nat).contains pc)) = true := by decide +kernel
theorem xo_51_top (pc : Nat) (h : 31 ≤ pc) : xo_51 pc = none := if_pos h
theorem xo_51_ok (pc : Nat) (r : Instr × Nat) (h : xo_51 pc = some r) : decode cX4_countOf pc = .ok r := by
  rcases Nat.lt_or_ge pc 31 with hl | hl
  · have h1 := List.all_eq_true.mp xo_51_no pc (List.mem_range.mpr hl)
    rw [h] at h1
    simp only [Option.isNone_some, Bool.false_or, Bool.or_eq_true, List.contains_iff_mem, or_assoc] at h1
    rcases h1 with h1
    · have h2 := List.all_eq_true.mp xo_51_c0 pc h1
      rw [h] at h2
      exact of_decide_eq_true h2
  · rw [show xo_51 pc = none from if_pos hl] at h; cases h
/-- X4_countAll -/
def xo_52 (pc : Nat) : Option (Instr × Nat) := if 8 ≤ pc then none else if pc < 4 then (if pc < 1 then (if pc = 0 then some (.aload_n 0, 1) else none) else (if pc = 1 then some (.getfield 13, 3) else none)) else (if pc < 7 then (if pc = 4 then some (.invokestatic 56, 3) else none) else (if pc = 7 then some (.ireturn, 1) else none))
set_option maxRecDepth 100000 in
theorem xo_52_c0 : ([0, 1, 4, 7] : List Nat).all (fun pc => match xo_52 pc with | none => true | some r => decide (decode cX4_countAll pc = .ok r)) = true := by decide +kernel
set_option maxRecDepth 100000 in
theorem xo_52_no : (List.range 8).all (fun pc => (xo_52 pc).isNone || (([0, 1, 4, 7] : List Nat).contains pc)) = true := by decide +kernel
theorem xo_52_top (pc : Nat) (h : 8 ≤ pc) : xo_52 pc = none := if_pos h
theorem xo_52_ok (pc : Nat) (r : Instr × Nat) (h : xo_52 pc = some r) : decode cX4_countAll pc = .ok r := by
  rcases Nat.lt_or_ge pc 8 with hl | hl
  · have h1 := List.all_eq_true.mp xo_52_no pc (List.mem_range.mpr hl)
    rw [h] at h1
    simp only [Option.isNone_some, Bool.false_or, Bool.or_eq_true, List.contains_iff_mem, or_assoc] at h1
    rcases h1 with h1
    · have h2 := List.all_eq_true.mp xo_52_c0 pc h1
      rw [h] at h2
      exact of_decide_eq_true h2
  · rw [show xo_52 pc = none from if_pos hl] at h; cases h
/-- X4_countWaiting -/
def xo_53 (pc : Nat) : Option (Instr × Nat) := if 10 ≤ pc then none else if pc < 5 then (if pc < 1 then (if pc = 0 then some (.aload_n 0, 1) else none) else (if pc < 4 then (if pc = 1 then some (.getfield 23, 3) else none) else (if pc = 4 then some (.iload_n 1, 1) else none))) else (if pc < 6 then (if pc = 5 then some (.aaload, 1) else none) else (if pc < 9 then (if pc = 6 then some (.invokestatic 56, 3) else none) else (if pc = 9 then some (.ireturn, 1) else none)))
set_option maxRecDepth 100000 in
theorem xo_53_c0 : ([0, 1, 4, 5, 6, 9] : List Nat).all (fun pc => match xo_53 pc with | none => true | some r => decide (decode cX4_countWaiting pc = .ok r)) = true := by decide +kernel
set_option maxRecDepth 100000 in
theorem xo_53_no : (List.range 10).all (fun pc => (xo_53 pc).isNone || (([0, 1, 4, 5, 6, 9] : List Nat).contains pc)) = true := by decide +kernel
theorem xo_53_top (pc : Nat) (h : 10 ≤ pc) : xo_53 pc = none := if_pos h
theorem xo_53_ok (pc : Nat) (r : Instr × Nat) (h : xo_53 pc = some r) : decode cX4_countWaiting pc = .ok r := by
  rcases Nat.lt_or_ge pc 10 with hl | hl
  · have h1 := List.all_eq_true.mp xo_53_no pc (List.mem_range.mpr hl)
    rw [h] at h1
    simp only [Option.isNone_some, Bool.false_or, Bool.or_eq_true, List.contains_iff_mem, or_assoc] at h1
    rcases h1 with h1
    · have h2 := List.all_eq_true.mp xo_53_c0 pc h1
      rw [h] at h2
      exact of_decide_eq_true h2
  · rw [show xo_53 pc = none from if_pos hl] at h; cases h
/-- X4_countAllWaiting -/
def xo_54 (pc : Nat) : Option (Instr × Nat) := if 29 ≤ pc then none else if pc < 11 then (if pc < 4 then (if pc < 2 then (if pc < 1 then (if pc = 0 then some (.iconst 0, 1) else none) else (if pc = 1 then some (.istore_n 1, 1) else none)) else (if pc < 3 then (if pc = 2 then some (.iconst 0, 1) else none) else (if pc = 3 then some (.istore_n 2, 1) else none))) else (if pc < 7 then (if pc < 5 then (if pc = 4 then some (.iload_n 2, 1) else none) else (if pc = 5 then some (.bipush 20, 2) else none)) else (if pc < 10 then (if pc = 7 then some (.if_icmp .ge 20, 3) else none) else (if pc = 10 then some (.aload_n 0, 1) else none)))) else (if pc < 21 then (if pc < 15 then (if pc < 12 then (if pc = 11 then some (.iload_n 2, 1) else none) else (if pc = 12 then some (.invokevirtual 60, 3) else none)) else (if pc < 18 then (if pc = 15 then some (.ifCond .eq 6, 3) else none) else (if pc = 18 then some (.iinc 1 1, 3) else none))) else (if pc < 27 then (if pc < 24 then (if pc = 21 then some (.iinc 2 1, 3) else none) else (if pc = 24 then some (.goto (-20), 3) else none)) else (if pc < 28 then (if pc = 27 then some (.iload_n 1, 1) else none) else (if pc = 28 then some (.ireturn, 1) else none))))
set_option maxRecDepth 100000 in
theorem xo_54_c0 : ([0, 1, 2, 3, 4, 5, 7, 10, 11, 12, 15, 18, 21, 24, 27, 28] : List Nat).all (fun pc => match xo_54 pc with | none => true | some r => decide (decode cX4_countAllWaiting pc = .ok r)) = true := by decide +kernel
set_option maxRecDepth 100000 in
theorem xo_54_no : (List.range 29).all (fun pc => (xo_54 pc).isNone || (([0, 1, 2, 3, 4, 5, 7, 10, 11, 12, 15, 18, 21, 24, 27, 28] : List Nat).contains pc)) = true := by decide +kernel
theorem xo_54_top (pc : Nat) (h : 29 ≤ pc) : xo_54 pc = none := if_pos h
theorem xo_54_ok (pc : Nat) (r : Instr × Nat) (h : xo_54 pc = some r) : decode cX4_countAllWaiting pc = .ok r := by
  rcases Nat.lt_or_ge pc 29 with hl | hl
  · have h1 := List.all_eq_true.mp xo_54_no pc (List.mem_range.mpr hl)
    rw [h] at h1
    simp only [Option.isNone_some, Bool.false_or, Bool.or_eq_true, List.contains_iff_mem, or_assoc] at h1
    rcases h1 with h1
    · have h2 := List.all_eq_true.mp xo_54_c0 pc h1
      rw [h] at h2
      exact of_decide_eq_true h2
  · rw [show xo_54 pc = none from if_pos hl] at h; cases h
/-- X4_leaveLists -/
def xo_55 (pc : Nat) : Option (Instr × Nat) := if 81 ≤ pc then none else if pc < 37 then (if pc < 16 then (if pc < 8 then (if pc < 3 then (if pc < 1 then (if pc = 0 then some (.iconst 0, 1) else none) else (if pc < 2 then (if pc = 1 then some (.istore_n 2, 1) else none) else (if pc = 2 then some (.iload_n 2, 1) else none))) else (if pc < 4 then (if pc = 3 then some (.iconst 3, 1) else none) else (if pc < 7 then (if pc = 4 then some (.if_icmp .ge 76, 3) else none) else (if pc = 7 then some (.aload_n 0, 1) else none)))) else (if pc < 13 then (if pc < 11 then (if pc = 8 then some (.getfield 23, 3) else none) else (if pc < 12 then (if pc = 11 then some (.iload_n 2, 1) else none) else (if pc = 12 then some (.aaload, 1) else none))) else (if pc < 14 then (if pc = 13 then some (.iload_n 1, 1) else none) else (if pc < 15 then (if pc = 14 then some (.iaload, 1) else none) else (if pc = 15 then some (.istore_n 3, 1) else none))))) else (if pc < 25 then (if pc < 21 then (if pc < 17 then (if pc = 16 then some (.aload_n 0, 1) else none) else (if pc < 20 then (if pc = 17 then some (.getfield 23, 3) else none) else (if pc = 20 then some (.iload_n 2, 1) else none))) else (if pc < 22 then (if pc = 21 then some (.aaload, 1) else none) else (if pc < 23 then (if pc = 22 then some (.iload_n 1, 1) else none) else (if pc = 23 then some (.bipush (-6), 2) else none)))) else (if pc < 29 then (if pc < 26 then (if pc = 25 then some (.iastore, 1) else none) else (if pc < 27 then (if pc = 26 then some (.iconst 0, 1) else none) else (if pc = 27 then some (.istore 4, 2) else none))) else (if pc < 32 then (if pc < 30 then (if pc = 29 then some (.iload_n 3, 1) else none) else (if pc = 30 then some (.bipush (-6), 2) else none)) else (if pc < 35 then (if pc = 32 then some (.if_icmp .eq 42, 3) else none) else (if pc = 35 then some (.iload 4, 2) else none)))))) else (if pc < 59 then (if pc < 48 then (if pc < 43 then (if pc < 39 then (if pc = 37 then some (.bipush 20, 2) else none) else (if pc < 42 then (if pc = 39 then some (.if_icmp .ge 35, 3) else none) else (if pc = 42 then some (.aload_n 0, 1) else none))) else (if pc < 46 then (if pc = 43 then some (.getfield 23, 3) else none) else (if pc < 47 then (if pc = 46 then some (.iload_n 2, 1) else none) else (if pc = 47 then some (.aaload, 1) else none)))) else (if pc < 52 then (if pc < 50 then (if pc = 48 then some (.iload 4, 2) else none) else (if pc < 51 then (if pc = 50 then some (.iaload, 1) else none) else (if pc = 51 then some (.iload_n 3, 1) else none))) else (if pc < 55 then (if pc = 52 then some (.if_icmp .le 16, 3) else none) else (if pc < 56 then (if pc = 55 then some (.aload_n 0, 1) else none) else (if pc = 56 then some (.getfield 23, 3) else none))))) else (if pc < 66 then (if pc < 63 then (if pc < 60 then (if pc = 59 then some (.iload_n 2, 1) else none) else (if pc < 61 then (if pc = 60 then some (.aaload, 1) else none) else (if pc = 61 then some (.iload 4, 2) else none))) else (if pc < 64 then (if pc = 63 then some (.dup2, 1) else none) else (if pc < 65 then (if pc = 64 then some (.iaload, 1) else none) else (if pc = 65 then some (.iconst 1, 1) else none)))) else (if pc < 71 then (if pc < 67 then (if pc = 66 then some (.isub, 1) else none) else (if pc < 68 then (if pc = 67 then some (.iastore, 1) else none) else (if pc = 68 then some (.iinc 4 1, 3) else none))) else (if pc < 77 then (if pc < 74 then (if pc = 71 then some (.goto (-42), 3) else none) else (if pc = 74 then some (.iinc 2 1, 3) else none)) else (if pc < 80 then (if pc = 77 then some (.goto (-75), 3) else none) else (if pc = 80 then some (.return_, 1) else none))))))
set_option maxRecDepth 100000 in
theorem xo_55_c0 : ([0, 1, 2, 3, 4, 7, 8, 11, 12, 13, 14, 15, 16, 17, 20, 21, 22, 23, 25, 26, 27, 29, 30, 32, 35, 37, 39, 42, 43, 46, 47, 48, 50, 51, 52, 55, 56, 59, 60, 61, 63, 64, 65, 66, 67, 68, 71, 74, 77, 80] : List Nat).all (fun pc => match xo_55 pc with | none => true | some r => decide (decode cX4_leaveLists pc = .ok r)) = true := by decide +kernel
set_option maxRecDepth 100000 in
theorem xo_55_no : (List.range 81).all (fun pc => (xo_55 pc).isNone || (([0, 1, 2, 3, 4, 7, 8, 11, 12, 13, 14, 15, 16, 17, 20, 21, 22, 23, 25, 26, 27, 29, 30, 32, 35, 37, 39, 42, 43, 46, 47, 48, 50, 51, 52, 55, 56, 59, 60, 61, 63, 64, 65, 66, 67, 68, 71, 74, 77, 80] : List Nat).contains pc)) = true := by decide +kernel
theorem xo_55_top (pc : Nat) (h : 81 ≤ pc) : xo_55 pc = none := if_pos h
theorem xo_55_ok (pc : Nat) (r : Instr × Nat) (h : xo_55 pc = some r) : decode cX4_leaveLists pc = .ok r := by
  rcases Nat.lt_or_ge pc 81 with hl | hl
  · have h1 := List.all_eq_true.mp xo_55_no pc (List.mem_range.mpr hl)
    rw [h] at h1
    simp only [Option.isNone_some, Bool.false_or, Bool.or_eq_true, List.contains_iff_mem, or_assoc] at h1
    rcases h1 with h1
    · have h2 := List.all_eq_true.mp xo_55_c0 pc h1
      rw [h] at h2
      exact of_decide_eq_true h2
  · rw [show xo_55 pc = none from if_pos hl] at h; cases h
/-- X4_give -/
def xo_56 (pc : Nat) : Option (Instr × Nat) := if 35 ≤ pc then none else if pc < 17 then (if pc < 8 then (if pc < 5 then (if pc < 1 then (if pc = 0 then some (.aload_n 0, 1) else none) else (if pc < 4 then (if pc = 1 then some (.getfield 13, 3) else none) else (if pc = 4 then some (.iload_n 1, 1) else none))) else (if pc < 6 then (if pc = 5 then some (.iload_n 2, 1) else none) else (if pc < 7 then (if pc = 6 then some (.iastore, 1) else none) else (if pc = 7 then some (.aload_n 0, 1) else none)))) else (if pc < 14 then (if pc < 11 then (if pc = 8 then some (.getfield 19, 3) else none) else (if pc < 12 then (if pc = 11 then some (.iload_n 1, 1) else none) else (if pc = 12 then some (.iload 4, 2) else none))) else (if pc < 15 then (if pc = 14 then some (.iload_n 3, 1) else none) else (if pc < 16 then (if pc = 15 then some (.iadd, 1) else none) else (if pc = 16 then some (.iconst 1, 1) else none))))) else (if pc < 25 then (if pc < 20 then (if pc < 18 then (if pc = 17 then some (.isub, 1) else none) else (if pc < 19 then (if pc = 18 then some (.iastore, 1) else none) else (if pc = 19 then some (.aload_n 0, 1) else none))) else (if pc < 21 then (if pc = 20 then some (.dup, 1) else none) else (if pc < 24 then (if pc = 21 then some (.getfield 40, 3) else none) else (if pc = 24 then some (.iconst 1, 1) else none)))) else (if pc < 30 then (if pc < 26 then (if pc = 25 then some (.iadd, 1) else none) else (if pc < 29 then (if pc = 26 then some (.putfield 40, 3) else none) else (if pc = 29 then some (.aload_n 0, 1) else none))) else (if pc < 31 then (if pc = 30 then some (.iload_n 1, 1) else none) else (if pc < 34 then (if pc = 31 then some (.invokevirtual 63, 3) else none) else (if pc = 34 then some (.return_, 1) else none)))))
set_option maxRecDepth 100000 in
theorem xo_56_c0 : ([0, 1, 4, 5, 6, 7, 8, 11, 12, 14, 15, 16, 17, 18, 19, 20, 21, 24, 25, 26, 29, 30, 31, 34] : List Nat).all (fun pc => match xo_56 pc with | none => true | some r => decide (decode cX4_give pc = .ok r)) = true := by decide +kernel
set_option maxRecDepth 100000 in
theorem xo_56_no : (List.range 35).all (fun pc => (xo_56 pc).isNone || (([0, 1, 4, 5, 6, 7, 8, 11, 12, 14, 15, 16, 17, 18, 19, 20, 21, 24, 25, 26, 29, 30, 31, 34] : List Nat).contains pc)) = true := by decide +kernel
theorem xo_56_top (pc : Nat) (h : 35 ≤ pc) : xo_56 pc = none := if_pos h
theorem xo_56_ok (pc : Nat) (r : Instr × Nat) (h : xo_56 pc = some r) : decode cX4_give pc = .ok r := by
  rcases Nat.lt_or_ge pc 35 with hl | hl
  · have h1 := List.all_eq_true.mp xo_56_no pc (List.mem_range.mpr hl)
    rw [h] at h1
    simp only [Option.isNone_some, Bool.false_or, Bool.or_eq_true, List.contains_iff_mem, or_assoc] at h1
    rcases h1 with h1
    · have h2 := List.all_eq_true.mp xo_56_c0 pc h1
      rw [h] at h2
      exact of_decide_eq_true h2
  · rw [show xo_56 pc = none from if_pos hl] at h; cases h
/-- X4_end -/
def xo_57 (pc : Nat) : Option (Instr × Nat) := if 17 ≤ pc then none else if pc < 8 then (if pc < 4 then (if pc < 1 then (if pc = 0 then some (.aload_n 0, 1) else none) else (if pc = 1 then some (.getfield 13, 3) else none)) else (if pc < 5 then (if pc = 4 then some (.iload_n 1, 1) else none) else (if pc < 7 then (if pc = 5 then some (.bipush (-6), 2) else none) else (if pc = 7 then some (.iastore, 1) else none)))) else (if pc < 13 then (if pc < 9 then (if pc = 8 then some (.aload_n 0, 1) else none) else (if pc < 12 then (if pc = 9 then some (.getfield 19, 3) else none) else (if pc = 12 then some (.iload_n 1, 1) else none))) else (if pc < 15 then (if pc = 13 then some (.bipush (-6), 2) else none) else (if pc < 16 then (if pc = 15 then some (.iastore, 1) else none) else (if pc = 16 then some (.return_, 1) else none))))
set_option maxRecDepth 100000 in
theorem xo_57_c0 : ([0, 1, 4, 5, 7, 8, 9, 12, 13, 15, 16] : List Nat).all (fun pc => match xo_57 pc with | none => true | some r => decide (decode cX4_end pc = .ok r)) = true := by decide +kernel
set_option maxRecDepth 100000 in
theorem xo_57_no : (List.range 17).all (fun pc => (xo_57 pc).isNone || (([0, 1, 4, 5, 7, 8, 9, 12, 13, 15, 16] : List Nat).contains pc)) = true := by decide +kernel
theorem xo_57_top (pc : Nat) (h : 17 ≤ pc) : xo_57 pc = none := if_pos h
theorem xo_57_ok (pc : Nat) (r : Instr × Nat) (h : xo_57 pc = some r) : decode cX4_end pc = .ok r := by
  rcases Nat.lt_or_ge pc 17 with hl | hl
  · have h1 := List.all_eq_true.mp xo_57_no pc (List.mem_range.mpr hl)
    rw [h] at h1
    simp only [Option.isNone_some, Bool.false_or, Bool.or_eq_true, List.contains_iff_mem, or_assoc] at h1
    rcases h1 with h1
    · have h2 := List.all_eq_true.mp xo_57_c0 pc h1
      rw [h] at h2
      exact of_decide_eq_true h2
  · rw [show xo_57 pc = none from if_pos hl] at h; cases h
/-- X4_endBefore -/
def xo_58 (pc : Nat) : Option (Instr × Nat) := if 38 ≤ pc then none else if pc < 17 then (if pc < 8 then (if pc < 2 then (if pc < 1 then (if pc = 0 then some (.iconst 0, 1) else none) else (if pc = 1 then some (.istore_n 2, 1) else none)) else (if pc < 3 then (if pc = 2 then some (.iload_n 2, 1) else none) else (if pc < 5 then (if pc = 3 then some (.bipush 20, 2) else none) else (if pc = 5 then some (.if_icmp .ge 32, 3) else none)))) else (if pc < 10 then (if pc < 9 then (if pc = 8 then some (.aload_n 0, 1) else none) else (if pc = 9 then some (.iload_n 2, 1) else none)) else (if pc < 13 then (if pc = 10 then some (.invokevirtual 67, 3) else none) else (if pc < 16 then (if pc = 13 then some (.ifCond .eq 18, 3) else none) else (if pc = 16 then some (.aload_n 0, 1) else none))))) else (if pc < 26 then (if pc < 21 then (if pc < 20 then (if pc = 17 then some (.getfield 19, 3) else none) else (if pc = 20 then some (.iload_n 2, 1) else none)) else (if pc < 22 then (if pc = 21 then some (.iaload, 1) else none) else (if pc < 23 then (if pc = 22 then some (.iload_n 1, 1) else none) else (if pc = 23 then some (.if_icmp .ge 8, 3) else none)))) else (if pc < 31 then (if pc < 27 then (if pc = 26 then some (.aload_n 0, 1) else none) else (if pc < 28 then (if pc = 27 then some (.iload_n 2, 1) else none) else (if pc = 28 then some (.invokevirtual 70, 3) else none))) else (if pc < 34 then (if pc = 31 then some (.iinc 2 1, 3) else none) else (if pc < 37 then (if pc = 34 then some (.goto (-32), 3) else none) else (if pc = 37 then some (.return_, 1) else none)))))
set_option maxRecDepth 100000 in
theorem xo_58_c0 : ([0, 1, 2, 3, 5, 8, 9, 10, 13, 16, 17, 20, 21, 22, 23, 26, 27, 28, 31, 34, 37] : List Nat).all (fun pc => match xo_58 pc with | none => true | some r => decide (decode cX4_endBefore pc = .ok r)) = true := by decide +kernel
set_option maxRecDepth 100000 in
theorem xo_58_no : (List.range 38).all (fun pc => (xo_58 pc).isNone || (([0, 1, 2, 3, 5, 8, 9, 10, 13, 16, 17, 20, 21, 22, 23, 26, 27, 28, 31, 34, 37] : List Nat).contains pc)) = true := by decide +kernel
theorem xo_58_top (pc : Nat) (h : 38 ≤ pc) : xo_58 pc = none := if_pos h
theorem xo_58_ok (pc : Nat) (r : Instr × Nat) (h : xo_58 pc = some r) : decode cX4_endBefore pc = .ok r := by
  rcases Nat.lt_or_ge pc 38 with hl | hl
  · have h1 := List.all_eq_true.mp xo_58_no pc (List.mem_range.mpr hl)
    rw [h] at h1
    simp only [Option.isNone_some, Bool.false_or, Bool.or_eq_true, List.contains_iff_mem, or_assoc] at h1
    rcases h1 with h1
    · have h2 := List.all_eq_true.mp xo_58_c0 pc h1
      rw [h] at h2
      exact of_decide_eq_true h2
  · rw [show xo_58 pc = none from if_pos hl] at h; cases h
/-- X4_queue -/
def xo_59 (pc : Nat) : Option (Instr × Nat) := if 41 ≤ pc then none else if pc < 22 then (if pc < 12 then (if pc < 5 then (if pc < 1 then (if pc = 0 then some (.aload_n 0, 1) else none) else (if pc < 2 then (if pc = 1 then some (.iload_n 2, 1) else none) else (if pc = 2 then some (.invokevirtual 73, 3) else none))) else (if pc < 8 then (if pc < 7 then (if pc = 5 then some (.istore 5, 2) else none) else (if pc = 7 then some (.aload_n 0, 1) else none)) else (if pc < 11 then (if pc = 8 then some (.getfield 23, 3) else none) else (if pc = 11 then some (.iload_n 2, 1) else none)))) else (if pc < 16 then (if pc < 13 then (if pc = 12 then some (.aaload, 1) else none) else (if pc < 14 then (if pc = 13 then some (.iload_n 1, 1) else none) else (if pc = 14 then some (.iload 5, 2) else none))) else (if pc < 18 then (if pc < 17 then (if pc = 16 then some (.iastore, 1) else none) else (if pc = 17 then some (.aload_n 0, 1) else none)) else (if pc < 21 then (if pc = 18 then some (.getfield 28, 3) else none) else (if pc = 21 then some (.iload_n 2, 1) else none))))) else (if pc < 31 then (if pc < 25 then (if pc < 23 then (if pc = 22 then some (.aaload, 1) else none) else (if pc < 24 then (if pc = 23 then some (.iload_n 1, 1) else none) else (if pc = 24 then some (.iload_n 3, 1) else none))) else (if pc < 27 then (if pc < 26 then (if pc = 25 then some (.iastore, 1) else none) else (if pc = 26 then some (.aload_n 0, 1) else none)) else (if pc < 30 then (if pc = 27 then some (.getfield 31, 3) else none) else (if pc = 30 then some (.iload_n 2, 1) else none)))) else (if pc < 36 then (if pc < 33 then (if pc < 32 then (if pc = 31 then some (.aaload, 1) else none) else (if pc = 32 then some (.iload_n 1, 1) else none)) else (if pc < 35 then (if pc = 33 then some (.iload 4, 2) else none) else (if pc = 35 then some (.iastore, 1) else none))) else (if pc < 39 then (if pc < 38 then (if pc = 36 then some (.iload 5, 2) else none) else (if pc = 38 then some (.iconst 1, 1) else none)) else (if pc < 40 then (if pc = 39 then some (.iadd, 1) else none) else (if pc = 40 then some (.ireturn, 1) else none)))))
set_option maxRecDepth 100000 in
theorem xo_59_c0 : ([0, 1, 2, 5, 7, 8, 11, 12, 13, 14, 16, 17, 18, 21, 22, 23, 24, 25, 26, 27, 30, 31, 32, 33, 35, 36, 38, 39, 40] : List Nat).all (fun pc => match xo_59 pc with | none => true | some r => decide (decode cX4_queue pc = .ok r)) = true := by decide +kernel
set_option maxRecDepth 100000 in
theorem xo_59_no : (List.range 41).all (fun pc => (xo_59 pc).isNone || (([0, 1, 2, 5, 7, 8, 11, 12, 13, 14, 16, 17, 18, 21, 22, 23, 24, 25, 26, 27, 30, 31, 32, 33, 35, 36, 38, 39, 40] : List Nat).contains pc)) = true := by decide +kernel
theorem xo_59_top (pc : Nat) (h : 41 ≤ pc) : xo_59 pc = none := if_pos h
theorem xo_59_ok (pc : Nat) (r : Instr × Nat) (h : xo_59 pc = some r) : decode cX4_queue pc = .ok r := by
  rcases Nat.lt_or_ge pc 41 with hl | hl
  · have h1 := List.all_eq_true.mp xo_59_no pc (List.mem_range.mpr hl)
    rw [h] at h1
    simp only [Option.isNone_some, Bool.false_or, Bool.or_eq_true, List.contains_iff_mem, or_assoc] at h1
    rcases h1 with h1
    · have h2 := List.all_eq_true.mp xo_59_c0 pc h1
      rw [h] at h2
      exact of_decide_eq_true h2
  · rw [show xo_59 pc = none from if_pos hl] at h; cases h
/-- X4_whoIsAt -/
def xo_60 (pc : Nat) : Option (Instr × Nat) := if 40 ≤ pc then none else if pc < 21 then (if pc < 9 then (if pc < 3 then (if pc < 1 then (if pc = 0 then some (.iconst 0, 1) else none) else (if pc < 2 then (if pc = 1 then some (.istore_n 3, 1) else none) else (if pc = 2 then some (.iload_n 3, 1) else none))) else (if pc < 5 then (if pc = 3 then some (.bipush 20, 2) else none) else (if pc < 8 then (if pc = 5 then some (.if_icmp .ge 32, 3) else none) else (if pc = 8 then some (.aload_n 0, 1) else none)))) else (if pc < 14 then (if pc < 10 then (if pc = 9 then some (.iload_n 3, 1) else none) else (if pc < 11 then (if pc = 10 then some (.iload_n 1, 1) else none) else (if pc = 11 then some (.invokevirtual 52, 3) else none))) else (if pc < 17 then (if pc = 14 then some (.ifCond .eq 17, 3) else none) else (if pc < 18 then (if pc = 17 then some (.aload_n 0, 1) else none) else (if pc = 18 then some (.getfield 23, 3) else none))))) else (if pc < 29 then (if pc < 24 then (if pc < 22 then (if pc = 21 then some (.iload_n 1, 1) else none) else (if pc < 23 then (if pc = 22 then some (.aaload, 1) else none) else (if pc = 23 then some (.iload_n 3, 1) else none))) else (if pc < 25 then (if pc = 24 then some (.iaload, 1) else none) else (if pc < 26 then (if pc = 25 then some (.iload_n 2, 1) else none) else (if pc = 26 then some (.if_icmp .ne 5, 3) else none)))) else (if pc < 34 then (if pc < 30 then (if pc = 29 then some (.iload_n 3, 1) else none) else (if pc < 31 then (if pc = 30 then some (.ireturn, 1) else none) else (if pc = 31 then some (.iinc 3 1, 3) else none))) else (if pc < 37 then (if pc = 34 then some (.goto (-32), 3) else none) else (if pc < 39 then (if pc = 37 then some (.bipush (-6), 2) else none) else (if pc = 39 then some (.ireturn, 1) else none)))))
set_option maxRecDepth 100000 in
theorem xo_60_c0 : ([0, 1, 2, 3, 5, 8, 9, 10, 11, 14, 17, 18, 21, 22, 23, 24, 25, 26, 29, 30, 31, 34, 37, 39] : List Nat).all (fun pc => match xo_60 pc with | none => true | some r => decide (decode cX4_whoIsAt pc = .ok r)) = true := by decide +kernel
set_option maxRecDepth 100000 in
theorem xo_60_no : (List.range 40).all (fun pc => (xo_60 pc).isNone || (([0, 1, 2, 3, 5, 8, 9, 10, 11, 14, 17, 18, 21, 22, 23, 24, 25, 26, 29, 30, 31, 34, 37, 39] : List Nat).contains pc)) = true := by decide +kernel
theorem xo_60_top (pc : Nat) (h : 40 ≤ pc) : xo_60 pc = none := if_pos h
theorem xo_60_ok (pc : Nat) (r : Instr × Nat) (h : xo_60 pc = some r) : decode cX4_whoIsAt pc = .ok r := by
  rcases Nat.lt_or_ge pc 40 with hl | hl
  · have h1 := List.all_eq_true.mp xo_60_no pc (List.mem_range.mpr hl)
    rw [h] at h1
    simp only [Option.isNone_some, Bool.false_or, Bool.or_eq_true, List.contains_iff_mem, or_assoc] at h1
    rcases h1 with h1
    · have h2 := List.all_eq_true.mp xo_60_c0 pc h1
      rw [h] at h2
      exact of_decide_eq_true h2
  · rw [show xo_60 pc = none from if_pos hl] at h; cases h
/-- X6_isPerson -/
def xo_61 (pc : Nat) : Option (Instr × Nat) := if 17 ≤ pc then none else if pc < 8 then (if pc < 2 then (if pc < 1 then (if pc = 0 then some (.iconst 0, 1) else none) else (if pc = 1 then some (.iload_n 0, 1) else none)) else (if pc < 5 then (if pc = 2 then some (.if_icmp .gt 13, 3) else none) else (if pc < 6 then (if pc = 5 then some (.iload_n 0, 1) else none) else (if pc = 6 then some (.bipush 20, 2) else none)))) else (if pc < 12 then (if pc < 11 then (if pc = 8 then some (.if_icmp .ge 7, 3) else none) else (if pc = 11 then some (.iconst 1, 1) else none)) else (if pc < 15 then (if pc = 12 then some (.goto 4, 3) else none) else (if pc < 16 then (if pc = 15 then some (.iconst 0, 1) else none) else (if pc = 16 then some (.ireturn, 1) else none))))
set_option maxRecDepth 100000 in
theorem xo_61_c0 : ([0, 1, 2, 5, 6, 8, 11, 12, 15, 16] : List Nat).all (fun pc => match xo_61 pc with | none => true | some r => decide (decode cX6_isPerson pc = .ok r)) = true := by decide +kernel
set_option maxRecDepth 100000 in
theorem xo_61_no : (List.range 17).all (fun pc => (xo_61 pc).isNone || (([0, 1, 2, 5, 6, 8, 11, 12, 15, 16] : List Nat).contains pc)) = true := by decide +kernel
theorem xo_61_top (pc : Nat) (h : 17 ≤ pc) : xo_61 pc = none := if_pos h
theorem xo_61_ok (pc : Nat) (r : Instr × Nat) (h : xo_61 pc = some r) : decode cX6_isPerson pc = .ok r := by
  rcases Nat.lt_or_ge pc 17 with hl | hl
  · have h1 := List.all_eq_true.mp xo_61_no pc (List.mem_range.mpr hl)
    rw [h] at h1
    simp only [Option.isNone_some, Bool.false_or, Bool.or_eq_true, List.contains_iff_mem, or_assoc] at h1
    rcases h1 with h1
    · have h2 := List.all_eq_true.mp xo_61_c0 pc h1
      rw [h] at h2
      exact of_decide_eq_true h2
  · rw [show xo_61 pc = none from if_pos hl] at h; cases h
/-- X4_aboutPlace -/
def xo_62 (pc : Nat) : Option (Instr × Nat) := if 70 ≤ pc then none else if pc < 48 then (if pc < 13 then (if pc < 3 then (if pc < 1 then (if pc = 0 then some (.aload_n 0, 1) else none) else (if pc < 2 then (if pc = 1 then some (.iload_n 1, 1) else none) else (if pc = 2 then some (.iload_n 2, 1) else none))) else (if pc < 8 then (if pc < 6 then (if pc = 3 then some (.invokevirtual 76, 3) else none) else (if pc = 6 then some (.istore 4, 2) else none)) else (if pc < 10 then (if pc = 8 then some (.iload 4, 2) else none) else (if pc = 10 then some (.invokestatic 80, 3) else none)))) else (if pc < 19 then (if pc < 17 then (if pc < 16 then (if pc = 13 then some (.ifCond .ne 5, 3) else none) else (if pc = 16 then some (.iconst (-1), 1) else none)) else (if pc < 18 then (if pc = 17 then some (.ireturn, 1) else none) else (if pc = 18 then some (.iload_n 3, 1) else none))) else (if pc < 46 then (if pc < 44 then (if pc = 19 then some (.tableswitch 48 0 2 #[25, 28, 38], 25) else none) else (if pc = 44 then some (.iload 4, 2) else none)) else (if pc < 47 then (if pc = 46 then some (.ireturn, 1) else none) else (if pc = 47 then some (.aload_n 0, 1) else none))))) else (if pc < 58 then (if pc < 53 then (if pc < 51 then (if pc = 48 then some (.getfield 28, 3) else none) else (if pc < 52 then (if pc = 51 then some (.iload_n 1, 1) else none) else (if pc = 52 then some (.aaload, 1) else none))) else (if pc < 56 then (if pc < 55 then (if pc = 53 then some (.iload 4, 2) else none) else (if pc = 55 then some (.iaload, 1) else none)) else (if pc < 57 then (if pc = 56 then some (.ireturn, 1) else none) else (if pc = 57 then some (.aload_n 0, 1) else none)))) else (if pc < 65 then (if pc < 62 then (if pc < 61 then (if pc = 58 then some (.getfield 31, 3) else none) else (if pc = 61 then some (.iload_n 1, 1) else none)) else (if pc < 63 then (if pc = 62 then some (.aaload, 1) else none) else (if pc = 63 then some (.iload 4, 2) else none))) else (if pc < 67 then (if pc < 66 then (if pc = 65 then some (.iaload, 1) else none) else (if pc = 66 then some (.ireturn, 1) else none)) else (if pc < 69 then (if pc = 67 then some (.bipush (-2), 2) else none) else (if pc = 69 then some (.ireturn, 1) else none)))))
set_option maxRecDepth 100000 in
theorem xo_62_c0 : ([0, 1, 2, 3, 6, 8, 10, 13, 16, 17, 18, 19, 44, 46, 47, 48, 51, 52, 53, 55, 56, 57, 58, 61, 62, 63, 65, 66, 67, 69] : List Nat).all (fun pc => match xo_62 pc with | none => true | some r => decide (decode cX4_aboutPlace pc = .ok r)) = true := by decide +kernel
set_option maxRecDepth 100000 in
theorem xo_62_no : (List.range 70).all (fun pc => (xo_62 pc).isNone || (([0, 1, 2, 3, 6, 8, 10, 13, 16, 17, 18, 19, 44, 46, 47, 48, 51, 52, 53, 55, 56, 57, 58, 61, 62, 63, 65, 66, 67, 69] : List Nat).contains pc)) = true := by decide +kernel
theorem xo_62_top (pc : Nat) (h : 70 ≤ pc) : xo_62 pc = none := if_pos h
theorem xo_62_ok (pc : Nat) (r : Instr × Nat) (h : xo_62 pc = some r) : decode cX4_aboutPlace pc = .ok r := by
  rcases Nat.lt_or_ge pc 70 with hl | hl
  · have h1 := List.all_eq_true.mp xo_62_no pc (List.mem_range.mpr hl)
    rw [h] at h1
    simp only [Option.isNone_some, Bool.false_or, Bool.or_eq_true, List.contains_iff_mem, or_assoc] at h1
    rcases h1 with h1
    · have h2 := List.all_eq_true.mp xo_62_c0 pc h1
      rw [h] at h2
      exact of_decide_eq_true h2
  · rw [show xo_62 pc = none from if_pos hl] at h; cases h
/-- J6_bitCount_0f7a4 -/
def xo_63 (pc : Nat) : Option (Instr × Nat) := if 53 ≤ pc then none else if pc < 27 then (if pc < 14 then (if pc < 7 then (if pc < 2 then (if pc < 1 then (if pc = 0 then some (.iload_n 0, 1) else none) else (if pc = 1 then some (.iload_n 0, 1) else none)) else (if pc < 3 then (if pc = 2 then some (.iconst 1, 1) else none) else (if pc < 4 then (if pc = 3 then some (.iushr, 1) else none) else (if pc = 4 then some (.ldc_w 265, 3) else none)))) else (if pc < 9 then (if pc < 8 then (if pc = 7 then some (.iand, 1) else none) else (if pc = 8 then some (.isub, 1) else none)) else (if pc < 10 then (if pc = 9 then some (.istore_n 0, 1) else none) else (if pc < 11 then (if pc = 10 then some (.iload_n 0, 1) else none) else (if pc = 11 then some (.ldc_w 266, 3) else none))))) else (if pc < 21 then (if pc < 16 then (if pc < 15 then (if pc = 14 then some (.iand, 1) else none) else (if pc = 15 then some (.iload_n 0, 1) else none)) else (if pc < 17 then (if pc = 16 then some (.iconst 2, 1) else none) else (if pc < 18 then (if pc = 17 then some (.iushr, 1) else none) else (if pc = 18 then some (.ldc_w 266, 3) else none)))) else (if pc < 24 then (if pc < 22 then (if pc = 21 then some (.iand, 1) else none) else (if pc < 23 then (if pc = 22 then some (.iadd, 1) else none) else (if pc = 23 then some (.istore_n 0, 1) else none))) else (if pc < 25 then (if pc = 24 then some (.iload_n 0, 1) else none) else (if pc < 26 then (if pc = 25 then some (.iload_n 0, 1) else none) else (if pc = 26 then some (.iconst 4, 1) else none)))))) else (if pc < 40 then (if pc < 34 then (if pc < 29 then (if pc < 28 then (if pc = 27 then some (.iushr, 1) else none) else (if pc = 28 then some (.iadd, 1) else none)) else (if pc < 32 then (if pc = 29 then some (.ldc_w 267, 3) else none) else (if pc < 33 then (if pc = 32 then some (.iand, 1) else none) else (if pc = 33 then some (.istore_n 0, 1) else none)))) else (if pc < 36 then (if pc < 35 then (if pc = 34 then some (.iload_n 0, 1) else none) else (if pc = 35 then some (.iload_n 0, 1) else none)) else (if pc < 38 then (if pc = 36 then some (.bipush 8, 2) else none) else (if pc < 39 then (if pc = 38 then some (.iushr, 1) else none) else (if pc = 39 then some (.iadd, 1) else none))))) else (if pc < 46 then (if pc < 42 then (if pc < 41 then (if pc = 40 then some (.istore_n 0, 1) else none) else (if pc = 41 then some (.iload_n 0, 1) else none)) else (if pc < 43 then (if pc = 42 then some (.iload_n 0, 1) else none) else (if pc < 45 then (if pc = 43 then some (.bipush 16, 2) else none) else (if pc = 45 then some (.iushr, 1) else none)))) else (if pc < 49 then (if pc < 47 then (if pc = 46 then some (.iadd, 1) else none) else (if pc < 48 then (if pc = 47 then some (.istore_n 0, 1) else none) else (if pc = 48 then some (.iload_n 0, 1) else none))) else (if pc < 51 then (if pc = 49 then some (.bipush 63, 2) else none) else (if pc < 52 then (if pc = 51 then some (.iand, 1) else none) else (if pc = 52 then some (.ireturn, 1) else none))))))
set_option maxRecDepth 100000 in
theorem xo_63_c0 : ([0, 1, 2, 3, 4, 7, 8, 9, 10, 11, 14, 15, 16, 17, 18, 21, 22, 23, 24, 25, 26, 27, 28, 29, 32, 33, 34, 35, 36, 38, 39, 40, 41, 42, 43, 45, 46, 47, 48, 49, 51, 52] : List Nat).all (fun pc => match xo_63 pc with | none => true | some r => decide (decode cJ6_bitCount_0f7a4 pc = .ok r)) = true := by decide +kernel
set_option maxRecDepth 100000 in
theorem xo_63_no : (List.range 53).all (fun pc => (xo_63 pc).isNone || (([0, 1, 2, 3, 4, 7, 8, 9, 10, 11, 14, 15, 16, 17, 18, 21, 22, 23, 24, 25, 26, 27, 28, 29, 32, 33, 34, 35, 36, 38, 39, 40, 41, 42, 43, 45, 46, 47, 48, 49, 51, 52] : List Nat).contains pc)) = true := by decide +kernel
theorem xo_63_top (pc : Nat) (h : 53 ≤ pc) : xo_63 pc = none := if_pos h
theorem xo_63_ok (pc : Nat) (r : Instr × Nat) (h : xo_63 pc = some r) : decode cJ6_bitCount_0f7a4 pc = .ok r := by
  rcases Nat.lt_or_ge pc 53 with hl | hl
  · have h1 := List.all_eq_true.mp xo_63_no pc (List.mem_range.mpr hl)
    rw [h] at h1
    simp only [Option.isNone_some, Bool.false_or, Bool.or_eq_true, List.contains_iff_mem, or_assoc] at h1
    rcases h1 with h1
    · have h2 := List.all_eq_true.mp xo_63_c0 pc h1
      rw [h] at h2
      exact of_decide_eq_true h2
  · rw [show xo_63 pc = none from if_pos hl] at h; cases h
/-- X5_permitsToGive -/
def xo_64 (pc : Nat) : Option (Instr × Nat) := if 17 ≤ pc then none else if pc < 9 then (if pc < 4 then (if pc < 1 then (if pc = 0 then some (.aload_n 0, 1) else none) else (if pc = 1 then some (.getfield 23, 3) else none)) else (if pc < 5 then (if pc = 4 then some (.iload_n 1, 1) else none) else (if pc < 6 then (if pc = 5 then some (.iaload, 1) else none) else (if pc = 6 then some (.invokestatic 159, 3) else none)))) else (if pc < 14 then (if pc < 10 then (if pc = 9 then some (.aload_n 0, 1) else none) else (if pc < 13 then (if pc = 10 then some (.getfield 18, 3) else none) else (if pc = 13 then some (.iconst 0, 1) else none))) else (if pc < 15 then (if pc = 14 then some (.iaload, 1) else none) else (if pc < 16 then (if pc = 15 then some (.iadd, 1) else none) else (if pc = 16 then some (.ireturn, 1) else none))))
set_option maxRecDepth 100000 in
theorem xo_64_c0 : ([0, 1, 4, 5, 6, 9, 10, 13, 14, 15, 16] : List Nat).all (fun pc => match xo_64 pc with | none => true | some r => decide (decode cX5_permitsToGive pc = .ok r)) = true := by decide +kernel
set_option maxRecDepth 100000 in
theorem xo_64_no : (List.range 17).all (fun pc => (xo_64 pc).isNone || (([0, 1, 4, 5, 6, 9, 10, 13, 14, 15, 16] : List Nat).contains pc)) = true := by decide +kernel
theorem xo_64_top (pc : Nat) (h : 17 ≤ pc) : xo_64 pc = none := if_pos h
theorem xo_64_ok (pc : Nat) (r : Instr × Nat) (h : xo_64 pc = some r) : decode cX5_permitsToGive pc = .ok r := by
  rcases Nat.lt_or_ge pc 17 with hl | hl
  · have h1 := List.all_eq_true.mp xo_64_no pc (List.mem_range.mpr hl)
    rw [h] at h1
    simp only [Option.isNone_some, Bool.false_or, Bool.or_eq_true, List.contains_iff_mem, or_assoc] at h1
    rcases h1 with h1
    · have h2 := List.all_eq_true.mp xo_64_c0 pc h1
      rw [h] at h2
      exact of_decide_eq_true h2
  · rw [show xo_64 pc = none from if_pos hl] at h; cases h
/-- X5_moveUp -/
def xo_65 (pc : Nat) : Option (Instr × Nat) := if 87 ≤ pc then none else if pc < 35 then (if pc < 17 then (if pc < 7 then (if pc < 2 then (if pc < 1 then (if pc = 0 then some (.iconst 0, 1) else none) else (if pc = 1 then some (.istore_n 1, 1) else none)) else (if pc < 3 then (if pc = 2 then some (.iload_n 1, 1) else none) else (if pc < 4 then (if pc = 3 then some (.iconst 3, 1) else none) else (if pc = 4 then some (.if_icmp .ge 82, 3) else none)))) else (if pc < 12 then (if pc < 8 then (if pc = 7 then some (.aload_n 0, 1) else none) else (if pc < 9 then (if pc = 8 then some (.iload_n 1, 1) else none) else (if pc = 9 then some (.invokevirtual 88, 3) else none))) else (if pc < 13 then (if pc = 12 then some (.aload_n 0, 1) else none) else (if pc < 16 then (if pc = 13 then some (.getfield 29, 3) else none) else (if pc = 16 then some (.iload_n 1, 1) else none))))) else (if pc < 25 then (if pc < 22 then (if pc < 20 then (if pc = 17 then some (.invokevirtual 84, 3) else none) else (if pc < 21 then (if pc = 20 then some (.isub, 1) else none) else (if pc = 21 then some (.istore_n 2, 1) else none))) else (if pc < 23 then (if pc = 22 then some (.iconst 0, 1) else none) else (if pc < 24 then (if pc = 23 then some (.istore_n 3, 1) else none) else (if pc = 24 then some (.iload_n 3, 1) else none)))) else (if pc < 30 then (if pc < 26 then (if pc = 25 then some (.iload_n 2, 1) else none) else (if pc < 29 then (if pc = 26 then some (.if_icmp .ge 54, 3) else none) else (if pc = 29 then some (.aload_n 0, 1) else none))) else (if pc < 33 then (if pc = 30 then some (.getfield 29, 3) else none) else (if pc < 34 then (if pc = 33 then some (.iload_n 1, 1) else none) else (if pc = 34 then some (.iconst 0, 1) else none)))))) else (if pc < 62 then (if pc < 49 then (if pc < 42 then (if pc < 38 then (if pc = 35 then some (.invokevirtual 176, 3) else none) else (if pc < 40 then (if pc = 38 then some (.istore 4, 2) else none) else (if pc = 40 then some (.iload 4, 2) else none))) else (if pc < 45 then (if pc = 42 then some (.invokestatic 70, 3) else none) else (if pc < 48 then (if pc = 45 then some (.ifCond .eq 29, 3) else none) else (if pc = 48 then some (.aload_n 0, 1) else none)))) else (if pc < 55 then (if pc < 52 then (if pc = 49 then some (.getfield 29, 3) else none) else (if pc < 54 then (if pc = 52 then some (.iload 4, 2) else none) else (if pc = 54 then some (.iload_n 1, 1) else none))) else (if pc < 56 then (if pc = 55 then some (.aload_n 0, 1) else none) else (if pc < 59 then (if pc = 56 then some (.getfield 29, 3) else none) else (if pc = 59 then some (.getfield 180, 3) else none))))) else (if pc < 71 then (if pc < 66 then (if pc < 63 then (if pc = 62 then some (.iload_n 1, 1) else none) else (if pc < 64 then (if pc = 63 then some (.aaload, 1) else none) else (if pc = 64 then some (.iload 4, 2) else none))) else (if pc < 67 then (if pc = 66 then some (.iaload, 1) else none) else (if pc < 68 then (if pc = 67 then some (.aload_n 0, 1) else none) else (if pc = 68 then some (.getfield 53, 3) else none)))) else (if pc < 80 then (if pc < 74 then (if pc = 71 then some (.invokevirtual 94, 3) else none) else (if pc < 77 then (if pc = 74 then some (.iinc 3 1, 3) else none) else (if pc = 77 then some (.goto (-53), 3) else none))) else (if pc < 83 then (if pc = 80 then some (.iinc 1 1, 3) else none) else (if pc < 86 then (if pc = 83 then some (.goto (-81), 3) else none) else (if pc = 86 then some (.return_, 1) else none))))))
set_option maxRecDepth 100000 in
theorem xo_65_c0 : ([0, 1, 2, 3, 4, 7, 8, 9, 12, 13, 16, 17, 20, 21, 22, 23, 24, 25, 26, 29, 30, 33, 34, 35, 38, 40, 42, 45, 48, 49, 52, 54, 55, 56, 59, 62, 63, 64, 66, 67, 68, 71, 74, 77, 80, 83, 86] : List Nat).all (fun pc => match xo_65 pc with | none => true | some r => decide (decode cX5_moveUp pc = .ok r)) = true := by decide +kernel
set_option maxRecDepth 100000 in
theorem xo_65_no : (List.range 87).all (fun pc => (xo_65 pc).isNone || (([0, 1, 2, 3, 4, 7, 8, 9, 12, 13, 16, 17, 20, 21, 22, 23, 24, 25, 26, 29, 30, 33, 34, 35, 38, 40, 42, 45, 48, 49, 52, 54, 55, 56, 59, 62, 63, 64, 66, 67, 68, 71, 74, 77, 80, 83, 86] : List Nat).contains pc)) = true := by decide +kernel
theorem xo_65_top (pc : Nat) (h : 87 ≤ pc) : xo_65 pc = none := if_pos h
theorem xo_65_ok (pc : Nat) (r : Instr × Nat) (h : xo_65 pc = some r) : decode cX5_moveUp pc = .ok r := by
  rcases Nat.lt_or_ge pc 87 with hl | hl
  · have h1 := List.all_eq_true.mp xo_65_no pc (List.mem_range.mpr hl)
    rw [h] at h1
    simp only [Option.isNone_some, Bool.false_or, Bool.or_eq_true, List.contains_iff_mem, or_assoc] at h1
    rcases h1 with h1
    · have h2 := List.all_eq_true.mp xo_65_c0 pc h1
      rw [h] at h2
      exact of_decide_eq_true h2
  · rw [show xo_65 pc = none from if_pos hl] at h; cases h
/-- X5_changeSetting -/
def xo_66 (pc : Nat) : Option (Instr × Nat) := if 49 ≤ pc then none else if pc < 28 then (if pc < 13 then (if pc < 3 then (if pc < 1 then (if pc = 0 then some (.iconst 0, 1) else none) else (if pc < 2 then (if pc = 1 then some (.iload_n 1, 1) else none) else (if pc = 2 then some (.iconst 3, 1) else none))) else (if pc < 9 then (if pc < 6 then (if pc = 3 then some (.invokestatic 57, 3) else none) else (if pc = 6 then some (.ifCond .eq 20, 3) else none)) else (if pc < 12 then (if pc = 9 then some (.getstatic 61, 3) else none) else (if pc = 12 then some (.iload_n 1, 1) else none)))) else (if pc < 19 then (if pc < 15 then (if pc < 14 then (if pc = 13 then some (.iaload, 1) else none) else (if pc = 14 then some (.iload_n 2, 1) else none)) else (if pc < 18 then (if pc = 15 then some (.getstatic 64, 3) else none) else (if pc = 18 then some (.iload_n 1, 1) else none))) else (if pc < 23 then (if pc < 20 then (if pc = 19 then some (.iaload, 1) else none) else (if pc = 20 then some (.invokestatic 57, 3) else none)) else (if pc < 26 then (if pc = 23 then some (.ifCond .ne 6, 3) else none) else (if pc = 26 then some (.bipush (-2), 2) else none))))) else (if pc < 37 then (if pc < 33 then (if pc < 29 then (if pc = 28 then some (.ireturn, 1) else none) else (if pc < 30 then (if pc = 29 then some (.aload_n 0, 1) else none) else (if pc = 30 then some (.getfield 18, 3) else none))) else (if pc < 35 then (if pc < 34 then (if pc = 33 then some (.iload_n 1, 1) else none) else (if pc = 34 then some (.iaload, 1) else none)) else (if pc < 36 then (if pc = 35 then some (.istore_n 3, 1) else none) else (if pc = 36 then some (.aload_n 0, 1) else none)))) else (if pc < 43 then (if pc < 41 then (if pc < 40 then (if pc = 37 then some (.getfield 18, 3) else none) else (if pc = 40 then some (.iload_n 1, 1) else none)) else (if pc < 42 then (if pc = 41 then some (.iload_n 2, 1) else none) else (if pc = 42 then some (.iastore, 1) else none))) else (if pc < 47 then (if pc < 44 then (if pc = 43 then some (.aload_n 0, 1) else none) else (if pc = 44 then some (.invokevirtual 67, 3) else none)) else (if pc < 48 then (if pc = 47 then some (.iload_n 3, 1) else none) else (if pc = 48 then some (.ireturn, 1) else none)))))
set_option maxRecDepth 100000 in
theorem xo_66_c0 : ([0, 1, 2, 3, 6, 9, 12, 13, 14, 15, 18, 19, 20, 23, 26, 28, 29, 30, 33, 34, 35, 36, 37, 40, 41, 42, 43, 44, 47, 48] : List Nat).all (fun pc => match xo_66 pc with | none => true | some r => decide (decode cX5_changeSetting pc = .ok r)) = true := by decide +kernel
set_option maxRecDepth 100000 in
theorem xo_66_no : (List.range 49).all (fun pc => (xo_66 pc).isNone || (([0, 1, 2, 3, 6, 9, 12, 13, 14, 15, 18, 19, 20, 23, 26, 28, 29, 30, 33, 34, 35, 36, 37, 40, 41, 42, 43, 44, 47, 48] : List Nat).contains pc)) = true := by decide +kernel
theorem xo_66_top (pc : Nat) (h : 49 ≤ pc) : xo_66 pc = none := if_pos h
theorem xo_66_ok (pc : Nat) (r : Instr × Nat) (h : xo_66 pc = some r) : decode cX5_changeSetting pc = .ok r := by
  rcases Nat.lt_or_ge pc 49 with hl | hl
  · have h1 := List.all_eq_true.mp xo_66_no pc (List.mem_range.mpr hl)
    rw [h] at h1
    simp only [Option.isNone_some, Bool.false_or, Bool.or_eq_true, List.contains_iff_mem, or_assoc] at h1
    rcases h1 with h1
    · have h2 := List.all_eq_true.mp xo_66_c0 pc h1
      rw [h] at h2
      exact of_decide_eq_true h2
  · rw [show xo_66 pc = none from if_pos hl] at h; cases h
/-- X5_askFor -/
def xo_67 (pc : Nat) : Option (Instr × Nat) := if 113 ≤ pc then none else if pc < 59 then (if pc < 29 then (if pc < 15 then (if pc < 7 then (if pc < 1 then (if pc = 0 then some (.iload_n 1, 1) else none) else (if pc < 4 then (if pc = 1 then some (.invokestatic 70, 3) else none) else (if pc = 4 then some (.ifCond .eq 10, 3) else none))) else (if pc < 11 then (if pc < 8 then (if pc = 7 then some (.iload_n 2, 1) else none) else (if pc = 8 then some (.invokestatic 74, 3) else none)) else (if pc < 14 then (if pc = 11 then some (.ifCond .ne 5, 3) else none) else (if pc = 14 then some (.iconst (-1), 1) else none)))) else (if pc < 20 then (if pc < 17 then (if pc < 16 then (if pc = 15 then some (.ireturn, 1) else none) else (if pc = 16 then some (.iconst 1, 1) else none)) else (if pc < 18 then (if pc = 17 then some (.iload_n 3, 1) else none) else (if pc = 18 then some (.bipush 99, 2) else none))) else (if pc < 26 then (if pc < 23 then (if pc = 20 then some (.invokestatic 57, 3) else none) else (if pc = 23 then some (.ifCond .ne 6, 3) else none)) else (if pc < 28 then (if pc = 26 then some (.bipush (-2), 2) else none) else (if pc = 28 then some (.ireturn, 1) else none))))) else (if pc < 44 then (if pc < 34 then (if pc < 30 then (if pc = 29 then some (.aload_n 0, 1) else none) else (if pc < 33 then (if pc = 30 then some (.getfield 29, 3) else none) else (if pc = 33 then some (.iload_n 1, 1) else none))) else (if pc < 40 then (if pc < 37 then (if pc = 34 then some (.invokevirtual 77, 3) else none) else (if pc = 37 then some (.ifCond .ne 15, 3) else none)) else (if pc < 41 then (if pc = 40 then some (.aload_n 0, 1) else none) else (if pc = 41 then some (.getfield 29, 3) else none)))) else (if pc < 52 then (if pc < 46 then (if pc < 45 then (if pc = 44 then some (.iload_n 1, 1) else none) else (if pc = 45 then some (.iload_n 2, 1) else none)) else (if pc < 49 then (if pc = 46 then some (.invokevirtual 80, 3) else none) else (if pc = 49 then some (.ifCond .eq 6, 3) else none))) else (if pc < 55 then (if pc < 54 then (if pc = 52 then some (.bipush (-5), 2) else none) else (if pc = 54 then some (.ireturn, 1) else none)) else (if pc < 56 then (if pc = 55 then some (.aload_n 0, 1) else none) else (if pc = 56 then some (.getfield 29, 3) else none)))))) else (if pc < 88 then (if pc < 72 then (if pc < 64 then (if pc < 60 then (if pc = 59 then some (.iload_n 2, 1) else none) else (if pc < 63 then (if pc = 60 then some (.invokevirtual 84, 3) else none) else (if pc = 63 then some (.aload_n 0, 1) else none))) else (if pc < 68 then (if pc < 65 then (if pc = 64 then some (.iload_n 2, 1) else none) else (if pc = 65 then some (.invokevirtual 88, 3) else none)) else (if pc < 71 then (if pc = 68 then some (.if_icmp .ge 30, 3) else none) else (if pc = 71 then some (.aload_n 0, 1) else none)))) else (if pc < 82 then (if pc < 76 then (if pc < 75 then (if pc = 72 then some (.getfield 29, 3) else none) else (if pc = 75 then some (.iload_n 2, 1) else none)) else (if pc < 79 then (if pc = 76 then some (.invokevirtual 91, 3) else none) else (if pc = 79 then some (.ifCond .ne 19, 3) else none))) else (if pc < 86 then (if pc < 83 then (if pc = 82 then some (.aload_n 0, 1) else none) else (if pc = 83 then some (.getfield 29, 3) else none)) else (if pc < 87 then (if pc = 86 then some (.iload_n 1, 1) else none) else (if pc = 87 then some (.iload_n 2, 1) else none))))) else (if pc < 99 then (if pc < 93 then (if pc < 89 then (if pc = 88 then some (.iload_n 3, 1) else none) else (if pc < 90 then (if pc = 89 then some (.aload_n 0, 1) else none) else (if pc = 90 then some (.getfield 53, 3) else none))) else (if pc < 97 then (if pc < 96 then (if pc = 93 then some (.invokevirtual 94, 3) else none) else (if pc = 96 then some (.iconst 0, 1) else none)) else (if pc < 98 then (if pc = 97 then some (.ireturn, 1) else none) else (if pc = 98 then some (.aload_n 0, 1) else none)))) else (if pc < 105 then (if pc < 103 then (if pc < 102 then (if pc = 99 then some (.getfield 29, 3) else none) else (if pc = 102 then some (.iload_n 1, 1) else none)) else (if pc < 104 then (if pc = 103 then some (.iload_n 2, 1) else none) else (if pc = 104 then some (.iload_n 3, 1) else none))) else (if pc < 109 then (if pc < 106 then (if pc = 105 then some (.aload_n 0, 1) else none) else (if pc = 106 then some (.getfield 53, 3) else none)) else (if pc < 112 then (if pc = 109 then some (.invokevirtual 98, 3) else none) else (if pc = 112 then some (.ireturn, 1) else none))))))
set_option maxRecDepth 100000 in
theorem xo_67_c0 : ([0, 1, 4, 7, 8, 11, 14, 15, 16, 17, 18, 20, 23, 26, 28, 29, 30, 33, 34, 37, 40, 41, 44, 45, 46, 49, 52, 54, 55, 56, 59, 60, 63, 64, 65, 68, 71, 72, 75, 76, 79, 82, 83, 86] : List Nat).all (fun pc => match xo_67 pc with | none => true | some r => decide (decode cX5_askFor pc = .ok r)) = true := by decide +kernel
set_option maxRecDepth 100000 in
theorem xo_67_c1 : ([87, 88, 89, 90, 93, 96, 97, 98, 99, 102, 103, 104, 105, 106, 109, 112] : List Nat).all (fun pc => match xo_67 pc with | none => true | some r => decide (decode cX5_askFor pc = .ok r)) = true := by decide +kernel
set_option maxRecDepth 100000 in
theorem xo_67_no : (List.range 113).all (fun pc => (xo_67 pc).isNone || (([0, 1, 4, 7, 8, 11, 14, 15, 16, 17, 18, 20, 23, 26, 28, 29, 30, 33, 34, 37, 40, 41, 44, 45, 46, 49, 52, 54, 55, 56, 59, 60, 63, 64, 65, 68, 71, 72, 75, 76, 79, 82, 83, 86] : List Nat).contains pc || ([87, 88, 89, 90, 93, 96, 97, 98, 99, 102, 103, 104, 105, 106, 109, 112] : List Nat).contains pc)) = true := by decide +kernel
theorem xo_67_top (pc : Nat) (h : 113 ≤ pc) : xo_67 pc = none := if_pos h
theorem xo_67_ok (pc : Nat) (r : Instr × Nat) (h : xo_67 pc = some r) : decode cX5_askFor pc = .ok r := by
  rcases Nat.lt_or_ge pc 113 with hl | hl
  · have h1 := List.all_eq_true.mp xo_67_no pc (List.mem_range.mpr hl)
    rw [h] at h1
    simp only [Option.isNone_some, Bool.false_or, Bool.or_eq_true, List.contains_iff_mem, or_assoc] at h1
    rcases h1 with h1 | h1
    · have h2 := List.all_eq_true.mp xo_67_c0 pc h1
      rw [h] at h2
      exact of_decide_eq_true h2
    · have h2 := List.all_eq_true.mp xo_67_c1 pc h1
      rw [h] at h2
      exact of_decide_eq_true h2
  · rw [show xo_67 pc = none from if_pos hl] at h; cases h
/-- X5_giveUpAll -/
def xo_68 (pc : Nat) : Option (Instr × Nat) := if 88 ≤ pc then none else if pc < 46 then (if pc < 21 then (if pc < 9 then (if pc < 4 then (if pc < 1 then (if pc = 0 then some (.iload_n 1, 1) else none) else (if pc = 1 then some (.invokestatic 70, 3) else none)) else (if pc < 7 then (if pc = 4 then some (.ifCond .ne 5, 3) else none) else (if pc < 8 then (if pc = 7 then some (.iconst (-1), 1) else none) else (if pc = 8 then some (.ireturn, 1) else none)))) else (if pc < 14 then (if pc < 10 then (if pc = 9 then some (.aload_n 0, 1) else none) else (if pc < 13 then (if pc = 10 then some (.getfield 29, 3) else none) else (if pc = 13 then some (.iload_n 1, 1) else none))) else (if pc < 17 then (if pc = 14 then some (.invokevirtual 77, 3) else none) else (if pc < 20 then (if pc = 17 then some (.ifCond .ne 17, 3) else none) else (if pc = 20 then some (.aload_n 0, 1) else none))))) else (if pc < 34 then (if pc < 28 then (if pc < 24 then (if pc = 21 then some (.getfield 29, 3) else none) else (if pc < 25 then (if pc = 24 then some (.iload_n 1, 1) else none) else (if pc = 25 then some (.invokevirtual 102, 3) else none))) else (if pc < 31 then (if pc = 28 then some (.ifCond .ne 6, 3) else none) else (if pc < 33 then (if pc = 31 then some (.bipush (-5), 2) else none) else (if pc = 33 then some (.ireturn, 1) else none)))) else (if pc < 39 then (if pc < 35 then (if pc = 34 then some (.aload_n 0, 1) else none) else (if pc < 38 then (if pc = 35 then some (.getfield 29, 3) else none) else (if pc = 38 then some (.iload_n 1, 1) else none))) else (if pc < 42 then (if pc = 39 then some (.invokevirtual 77, 3) else none) else (if pc < 45 then (if pc = 42 then some (.ifCond .eq 22, 3) else none) else (if pc = 45 then some (.aload_n 0, 1) else none)))))) else (if pc < 66 then (if pc < 58 then (if pc < 53 then (if pc < 49 then (if pc = 46 then some (.getfield 29, 3) else none) else (if pc < 52 then (if pc = 49 then some (.getfield 105, 3) else none) else (if pc = 52 then some (.iload_n 1, 1) else none))) else (if pc < 54 then (if pc = 53 then some (.iaload, 1) else none) else (if pc < 55 then (if pc = 54 then some (.aload_n 0, 1) else none) else (if pc = 55 then some (.getfield 53, 3) else none)))) else (if pc < 61 then (if pc < 59 then (if pc = 58 then some (.isub, 1) else none) else (if pc < 60 then (if pc = 59 then some (.iconst 1, 1) else none) else (if pc = 60 then some (.iadd, 1) else none))) else (if pc < 64 then (if pc = 61 then some (.goto 4, 3) else none) else (if pc < 65 then (if pc = 64 then some (.iconst 0, 1) else none) else (if pc = 65 then some (.istore_n 2, 1) else none))))) else (if pc < 78 then (if pc < 71 then (if pc < 67 then (if pc = 66 then some (.aload_n 0, 1) else none) else (if pc < 70 then (if pc = 67 then some (.getfield 29, 3) else none) else (if pc = 70 then some (.iload_n 1, 1) else none))) else (if pc < 74 then (if pc = 71 then some (.invokevirtual 108, 3) else none) else (if pc < 75 then (if pc = 74 then some (.aload_n 0, 1) else none) else (if pc = 75 then some (.getfield 29, 3) else none)))) else (if pc < 83 then (if pc < 79 then (if pc = 78 then some (.iload_n 1, 1) else none) else (if pc < 82 then (if pc = 79 then some (.invokevirtual 112, 3) else none) else (if pc = 82 then some (.aload_n 0, 1) else none))) else (if pc < 86 then (if pc = 83 then some (.invokevirtual 67, 3) else none) else (if pc < 87 then (if pc = 86 then some (.iload_n 2, 1) else none) else (if pc = 87 then some (.ireturn, 1) else none))))))
set_option maxRecDepth 100000 in
theorem xo_68_c0 : ([0, 1, 4, 7, 8, 9, 10, 13, 14, 17, 20, 21, 24, 25, 28, 31, 33, 34, 35, 38, 39, 42, 45, 46, 49, 52, 53, 54, 55, 58, 59, 60, 61, 64, 65, 66, 67, 70, 71, 74, 75, 78, 79, 82, 83, 86, 87] : List Nat).all (fun pc => match xo_68 pc with | none => true | some r => decide (decode cX5_giveUpAll pc = .ok r)) = true := by decide +kernel
set_option maxRecDepth 100000 in
theorem xo_68_no : (List.range 88).all (fun pc => (xo_68 pc).isNone || (([0, 1, 4, 7, 8, 9, 10, 13, 14, 17, 20, 21, 24, 25, 28, 31, 33, 34, 35, 38, 39, 42, 45, 46, 49, 52, 53, 54, 55, 58, 59, 60, 61, 64, 65, 66, 67, 70, 71, 74, 75, 78, 79, 82, 83, 86, 87] : List Nat).contains pc)) = true := by decide +kernel
theorem xo_68_top (pc : Nat) (h : 88 ≤ pc) : xo_68 pc = none := if_pos h
theorem xo_68_ok (pc : Nat) (r : Instr × Nat) (h : xo_68 pc = some r) : decode cX5_giveUpAll pc = .ok r := by
  rcases Nat.lt_or_ge pc 88 with hl | hl
  · have h1 := List.all_eq_true.mp xo_68_no pc (List.mem_range.mpr hl)
    rw [h] at h1
    simp only [Option.isNone_some, Bool.false_or, Bool.or_eq_true, List.contains_iff_mem, or_assoc] at h1
    rcases h1 with h1
    · have h2 := List.all_eq_true.mp xo_68_c0 pc h1
      rw [h] at h2
      exact of_decide_eq_true h2
  · rw [show xo_68 pc = none from if_pos hl] at h; cases h
/-- X5_lengthen -/
def xo_69 (pc : Nat) : Option (Instr × Nat) := if 78 ≤ pc then none else if pc < 41 then (if pc < 19 then (if pc < 9 then (if pc < 4 then (if pc < 1 then (if pc = 0 then some (.iload_n 1, 1) else none) else (if pc = 1 then some (.invokestatic 70, 3) else none)) else (if pc < 7 then (if pc = 4 then some (.ifCond .ne 5, 3) else none) else (if pc < 8 then (if pc = 7 then some (.iconst (-1), 1) else none) else (if pc = 8 then some (.ireturn, 1) else none)))) else (if pc < 11 then (if pc < 10 then (if pc = 9 then some (.iconst 1, 1) else none) else (if pc = 10 then some (.iload_n 2, 1) else none)) else (if pc < 13 then (if pc = 11 then some (.bipush 99, 2) else none) else (if pc < 16 then (if pc = 13 then some (.invokestatic 57, 3) else none) else (if pc = 16 then some (.ifCond .ne 6, 3) else none))))) else (if pc < 27 then (if pc < 22 then (if pc < 21 then (if pc = 19 then some (.bipush (-2), 2) else none) else (if pc = 21 then some (.ireturn, 1) else none)) else (if pc < 23 then (if pc = 22 then some (.aload_n 0, 1) else none) else (if pc < 26 then (if pc = 23 then some (.getfield 29, 3) else none) else (if pc = 26 then some (.iload_n 1, 1) else none)))) else (if pc < 34 then (if pc < 30 then (if pc = 27 then some (.invokevirtual 77, 3) else none) else (if pc < 33 then (if pc = 30 then some (.ifCond .eq 22, 3) else none) else (if pc = 33 then some (.aload_n 0, 1) else none))) else (if pc < 37 then (if pc = 34 then some (.getfield 29, 3) else none) else (if pc < 38 then (if pc = 37 then some (.aload_n 0, 1) else none) else (if pc = 38 then some (.getfield 29, 3) else none)))))) else (if pc < 63 then (if pc < 52 then (if pc < 45 then (if pc < 44 then (if pc = 41 then some (.getfield 115, 3) else none) else (if pc = 44 then some (.iload_n 1, 1) else none)) else (if pc < 46 then (if pc = 45 then some (.iaload, 1) else none) else (if pc < 49 then (if pc = 46 then some (.invokevirtual 91, 3) else none) else (if pc = 49 then some (.ifCond .le 6, 3) else none)))) else (if pc < 56 then (if pc < 54 then (if pc = 52 then some (.bipush (-5), 2) else none) else (if pc < 55 then (if pc = 54 then some (.ireturn, 1) else none) else (if pc = 55 then some (.aload_n 0, 1) else none))) else (if pc < 59 then (if pc = 56 then some (.getfield 29, 3) else none) else (if pc < 62 then (if pc = 59 then some (.getfield 105, 3) else none) else (if pc = 62 then some (.iload_n 1, 1) else none))))) else (if pc < 68 then (if pc < 65 then (if pc < 64 then (if pc = 63 then some (.dup2, 1) else none) else (if pc = 64 then some (.iaload, 1) else none)) else (if pc < 66 then (if pc = 65 then some (.iload_n 2, 1) else none) else (if pc < 67 then (if pc = 66 then some (.iadd, 1) else none) else (if pc = 67 then some (.iastore, 1) else none)))) else (if pc < 75 then (if pc < 69 then (if pc = 68 then some (.aload_n 0, 1) else none) else (if pc < 72 then (if pc = 69 then some (.getfield 29, 3) else none) else (if pc = 72 then some (.getfield 105, 3) else none))) else (if pc < 76 then (if pc = 75 then some (.iload_n 1, 1) else none) else (if pc < 77 then (if pc = 76 then some (.iaload, 1) else none) else (if pc = 77 then some (.ireturn, 1) else none))))))
set_option maxRecDepth 100000 in
theorem xo_69_c0 : ([0, 1, 4, 7, 8, 9, 10, 11, 13, 16, 19, 21, 22, 23, 26, 27, 30, 33, 34, 37, 38, 41, 44, 45, 46, 49, 52, 54, 55, 56, 59, 62, 63, 64, 65, 66, 67, 68, 69, 72, 75, 76, 77] : List Nat).all (fun pc => match xo_69 pc with | none => true | some r => decide (decode cX5_lengthen pc = .ok r)) = true := by decide +kernel
set_option maxRecDepth 100000 in
theorem xo_69_no : (List.range 78).all (fun pc => (xo_69 pc).isNone || (([0, 1, 4, 7, 8, 9, 10, 11, 13, 16, 19, 21, 22, 23, 26, 27, 30, 33, 34, 37, 38, 41, 44, 45, 46, 49, 52, 54, 55, 56, 59, 62, 63, 64, 65, 66, 67, 68, 69, 72, 75, 76, 77] : List Nat).contains pc)) = true := by decide +kernel
theorem xo_69_top (pc : Nat) (h : 78 ≤ pc) : xo_69 pc = none := if_pos h
theorem xo_69_ok (pc : Nat) (r : Instr × Nat) (h : xo_69 pc = some r) : decode cX5_lengthen pc = .ok r := by
  rcases Nat.lt_or_ge pc 78 with hl | hl
  · have h1 := List.all_eq_true.mp xo_69_no pc (List.mem_range.mpr hl)
    rw [h] at h1
    simp only [Option.isNone_some, Bool.false_or, Bool.or_eq_true, List.contains_iff_mem, or_assoc] at h1
    rcases h1 with h1
    · have h2 := List.all_eq_true.mp xo_69_c0 pc h1
      rw [h] at h2
      exact of_decide_eq_true h2
  · rw [show xo_69 pc = none from if_pos hl] at h; cases h
/-- X5_lowestFreeRack -/
def xo_70 (pc : Nat) : Option (Instr × Nat) := if 46 ≤ pc then none else if pc < 21 then (if pc < 11 then (if pc < 5 then (if pc < 1 then (if pc = 0 then some (.aload_n 0, 1) else none) else (if pc < 4 then (if pc = 1 then some (.getfield 23, 3) else none) else (if pc = 4 then some (.iload_n 1, 1) else none))) else (if pc < 7 then (if pc < 6 then (if pc = 5 then some (.iaload, 1) else none) else (if pc = 6 then some (.aload_n 0, 1) else none)) else (if pc < 10 then (if pc = 7 then some (.getfield 36, 3) else none) else (if pc = 10 then some (.iload_n 1, 1) else none)))) else (if pc < 17 then (if pc < 15 then (if pc < 14 then (if pc = 11 then some (.invokevirtual 184, 3) else none) else (if pc = 14 then some (.iconst (-1), 1) else none)) else (if pc < 16 then (if pc = 15 then some (.ixor, 1) else none) else (if pc = 16 then some (.iand, 1) else none))) else (if pc < 19 then (if pc < 18 then (if pc = 17 then some (.istore_n 2, 1) else none) else (if pc = 18 then some (.iconst 0, 1) else none)) else (if pc < 20 then (if pc = 19 then some (.istore_n 3, 1) else none) else (if pc = 20 then some (.iload_n 3, 1) else none))))) else (if pc < 31 then (if pc < 27 then (if pc < 23 then (if pc = 21 then some (.bipush 8, 2) else none) else (if pc < 26 then (if pc = 23 then some (.if_icmp .ge 20, 3) else none) else (if pc = 26 then some (.iload_n 2, 1) else none))) else (if pc < 29 then (if pc < 28 then (if pc = 27 then some (.iload_n 3, 1) else none) else (if pc = 28 then some (.ishr, 1) else none)) else (if pc < 30 then (if pc = 29 then some (.iconst 1, 1) else none) else (if pc = 30 then some (.iand, 1) else none)))) else (if pc < 37 then (if pc < 35 then (if pc < 32 then (if pc = 31 then some (.iconst 1, 1) else none) else (if pc = 32 then some (.if_icmp .ne 5, 3) else none)) else (if pc < 36 then (if pc = 35 then some (.iload_n 3, 1) else none) else (if pc = 36 then some (.ireturn, 1) else none))) else (if pc < 43 then (if pc < 40 then (if pc = 37 then some (.iinc 3 1, 3) else none) else (if pc = 40 then some (.goto (-20), 3) else none)) else (if pc < 45 then (if pc = 43 then some (.bipush (-6), 2) else none) else (if pc = 45 then some (.ireturn, 1) else none)))))
set_option maxRecDepth 100000 in
theorem xo_70_c0 : ([0, 1, 4, 5, 6, 7, 10, 11, 14, 15, 16, 17, 18, 19, 20, 21, 23, 26, 27, 28, 29, 30, 31, 32, 35, 36, 37, 40, 43, 45] : List Nat).all (fun pc => match xo_70 pc with | none => true | some r => decide (decode cX5_lowestFreeRack pc = .ok r)) = true := by decide +kernel
set_option maxRecDepth 100000 in
theorem xo_70_no : (List.range 46).all (fun pc => (xo_70 pc).isNone || (([0, 1, 4, 5, 6, 7, 10, 11, 14, 15, 16, 17, 18, 19, 20, 21, 23, 26, 27, 28, 29, 30, 31, 32, 35, 36, 37, 40, 43, 45] : List Nat).contains pc)) = true := by decide +kernel
theorem xo_70_top (pc : Nat) (h : 46 ≤ pc) : xo_70 pc = none := if_pos h
theorem xo_70_ok (pc : Nat) (r : Instr × Nat) (h : xo_70 pc = some r) : decode cX5_lowestFreeRack pc = .ok r := by
  rcases Nat.lt_or_ge pc 46 with hl | hl
  · have h1 := List.all_eq_true.mp xo_70_no pc (List.mem_range.mpr hl)
    rw [h] at h1
    simp only [Option.isNone_some, Bool.false_or, Bool.or_eq_true, List.contains_iff_mem, or_assoc] at h1
    rcases h1 with h1
    · have h2 := List.all_eq_true.mp xo_70_c0 pc h1
      rw [h] at h2
      exact of_decide_eq_true h2
  · rw [show xo_70 pc = none from if_pos hl] at h; cases h
/-- X5_parkBicycle -/
def xo_71 (pc : Nat) : Option (Instr × Nat) := if 86 ≤ pc then none else if pc < 46 then (if pc < 21 then (if pc < 9 then (if pc < 4 then (if pc < 1 then (if pc = 0 then some (.iload_n 1, 1) else none) else (if pc = 1 then some (.invokestatic 70, 3) else none)) else (if pc < 7 then (if pc = 4 then some (.ifCond .ne 5, 3) else none) else (if pc < 8 then (if pc = 7 then some (.iconst (-1), 1) else none) else (if pc = 8 then some (.ireturn, 1) else none)))) else (if pc < 14 then (if pc < 10 then (if pc = 9 then some (.aload_n 0, 1) else none) else (if pc < 13 then (if pc = 10 then some (.getfield 29, 3) else none) else (if pc = 13 then some (.iload_n 1, 1) else none))) else (if pc < 17 then (if pc = 14 then some (.invokevirtual 77, 3) else none) else (if pc < 20 then (if pc = 17 then some (.ifCond .eq 25, 3) else none) else (if pc = 20 then some (.aload_n 0, 1) else none))))) else (if pc < 35 then (if pc < 28 then (if pc < 24 then (if pc = 21 then some (.getfield 36, 3) else none) else (if pc < 25 then (if pc = 24 then some (.iload_n 1, 1) else none) else (if pc = 25 then some (.invokevirtual 118, 3) else none))) else (if pc < 31 then (if pc = 28 then some (.ifCond .ne 14, 3) else none) else (if pc < 32 then (if pc = 31 then some (.aload_n 0, 1) else none) else (if pc = 32 then some (.getfield 36, 3) else none)))) else (if pc < 42 then (if pc < 36 then (if pc = 35 then some (.iload_n 1, 1) else none) else (if pc < 39 then (if pc = 36 then some (.invokevirtual 121, 3) else none) else (if pc = 39 then some (.ifCond .eq 6, 3) else none))) else (if pc < 44 then (if pc = 42 then some (.bipush (-5), 2) else none) else (if pc < 45 then (if pc = 44 then some (.ireturn, 1) else none) else (if pc = 45 then some (.aload_n 0, 1) else none)))))) else (if pc < 67 then (if pc < 56 then (if pc < 53 then (if pc < 49 then (if pc = 46 then some (.getfield 29, 3) else none) else (if pc < 52 then (if pc = 49 then some (.getfield 115, 3) else none) else (if pc = 52 then some (.iload_n 1, 1) else none))) else (if pc < 54 then (if pc = 53 then some (.iaload, 1) else none) else (if pc < 55 then (if pc = 54 then some (.istore_n 2, 1) else none) else (if pc = 55 then some (.aload_n 0, 1) else none)))) else (if pc < 61 then (if pc < 57 then (if pc = 56 then some (.iload_n 2, 1) else none) else (if pc < 60 then (if pc = 57 then some (.invokevirtual 124, 3) else none) else (if pc = 60 then some (.istore_n 3, 1) else none))) else (if pc < 62 then (if pc = 61 then some (.iload_n 3, 1) else none) else (if pc < 64 then (if pc = 62 then some (.bipush (-6), 2) else none) else (if pc = 64 then some (.if_icmp .ne 6, 3) else none))))) else (if pc < 76 then (if pc < 71 then (if pc < 69 then (if pc = 67 then some (.bipush (-4), 2) else none) else (if pc < 70 then (if pc = 69 then some (.ireturn, 1) else none) else (if pc = 70 then some (.aload_n 0, 1) else none))) else (if pc < 74 then (if pc = 71 then some (.getfield 36, 3) else none) else (if pc < 75 then (if pc = 74 then some (.iload_n 1, 1) else none) else (if pc = 75 then some (.iload_n 2, 1) else none)))) else (if pc < 81 then (if pc < 77 then (if pc = 76 then some (.iload_n 3, 1) else none) else (if pc < 78 then (if pc = 77 then some (.aload_n 0, 1) else none) else (if pc = 78 then some (.getfield 53, 3) else none))) else (if pc < 84 then (if pc = 81 then some (.invokevirtual 127, 3) else none) else (if pc < 85 then (if pc = 84 then some (.iload_n 3, 1) else none) else (if pc = 85 then some (.ireturn, 1) else none))))))
set_option maxRecDepth 100000 in
theorem xo_71_c0 : ([0, 1, 4, 7, 8, 9, 10, 13, 14, 17, 20, 21, 24, 25, 28, 31, 32, 35, 36, 39, 42, 44, 45, 46, 49, 52, 53, 54, 55, 56, 57, 60, 61, 62, 64, 67, 69, 70, 71, 74, 75, 76, 77, 78, 81, 84, 85] : List Nat).all (fun pc => match xo_71 pc with | none => true | some r => decide (decode cX5_parkBicycle pc = .ok r)) = true := by decide +kernel
set_option maxRecDepth 100000 in
theorem xo_71_no : (List.range 86).all (fun pc => (xo_71 pc).isNone || (([0, 1, 4, 7, 8, 9, 10, 13, 14, 17, 20, 21, 24, 25, 28, 31, 32, 35, 36, 39, 42, 44, 45, 46, 49, 52, 53, 54, 55, 56, 57, 60, 61, 62, 64, 67, 69, 70, 71, 74, 75, 76, 77, 78, 81, 84, 85] : List Nat).contains pc)) = true := by decide +kernel
theorem xo_71_top (pc : Nat) (h : 86 ≤ pc) : xo_71 pc = none := if_pos h
theorem xo_71_ok (pc : Nat) (r : Instr × Nat) (h : xo_71 pc = some r) : decode cX5_parkBicycle pc = .ok r := by
  rcases Nat.lt_or_ge pc 86 with hl | hl
  · have h1 := List.all_eq_true.mp xo_71_no pc (List.mem_range.mpr hl)
    rw [h] at h1
    simp only [Option.isNone_some, Bool.false_or, Bool.or_eq_true, List.contains_iff_mem, or_assoc] at h1
    rcases h1 with h1
    · have h2 := List.all_eq_true.mp xo_71_c0 pc h1
      rw [h] at h2
      exact of_decide_eq_true h2
  · rw [show xo_71 pc = none from if_pos hl] at h; cases h
/-- X5_rideAway -/
def xo_72 (pc : Nat) : Option (Instr × Nat) := if 48 ≤ pc then none else if pc < 24 then (if pc < 10 then (if pc < 7 then (if pc < 1 then (if pc = 0 then some (.iload_n 1, 1) else none) else (if pc < 4 then (if pc = 1 then some (.invokestatic 70, 3) else none) else (if pc = 4 then some (.ifCond .ne 5, 3) else none))) else (if pc < 8 then (if pc = 7 then some (.iconst (-1), 1) else none) else (if pc < 9 then (if pc = 8 then some (.ireturn, 1) else none) else (if pc = 9 then some (.aload_n 0, 1) else none)))) else (if pc < 17 then (if pc < 13 then (if pc = 10 then some (.getfield 36, 3) else none) else (if pc < 14 then (if pc = 13 then some (.iload_n 1, 1) else none) else (if pc = 14 then some (.invokevirtual 118, 3) else none))) else (if pc < 22 then (if pc < 20 then (if pc = 17 then some (.ifCond .ne 6, 3) else none) else (if pc = 20 then some (.bipush (-5), 2) else none)) else (if pc < 23 then (if pc = 22 then some (.ireturn, 1) else none) else (if pc = 23 then some (.aload_n 0, 1) else none))))) else (if pc < 37 then (if pc < 31 then (if pc < 27 then (if pc = 24 then some (.getfield 53, 3) else none) else (if pc < 28 then (if pc = 27 then some (.aload_n 0, 1) else none) else (if pc = 28 then some (.getfield 36, 3) else none))) else (if pc < 35 then (if pc < 34 then (if pc = 31 then some (.getfield 130, 3) else none) else (if pc = 34 then some (.iload_n 1, 1) else none)) else (if pc < 36 then (if pc = 35 then some (.iaload, 1) else none) else (if pc = 36 then some (.isub, 1) else none)))) else (if pc < 42 then (if pc < 38 then (if pc = 37 then some (.istore_n 2, 1) else none) else (if pc < 39 then (if pc = 38 then some (.aload_n 0, 1) else none) else (if pc = 39 then some (.getfield 36, 3) else none))) else (if pc < 46 then (if pc < 43 then (if pc = 42 then some (.iload_n 1, 1) else none) else (if pc = 43 then some (.invokevirtual 133, 3) else none)) else (if pc < 47 then (if pc = 46 then some (.iload_n 2, 1) else none) else (if pc = 47 then some (.ireturn, 1) else none)))))
set_option maxRecDepth 100000 in
theorem xo_72_c0 : ([0, 1, 4, 7, 8, 9, 10, 13, 14, 17, 20, 22, 23, 24, 27, 28, 31, 34, 35, 36, 37, 38, 39, 42, 43, 46, 47] : List Nat).all (fun pc => match xo_72 pc with | none => true | some r => decide (decode cX5_rideAway pc = .ok r)) = true := by decide +kernel
set_option maxRecDepth 100000 in
theorem xo_72_no : (List.range 48).all (fun pc => (xo_72 pc).isNone || (([0, 1, 4, 7, 8, 9, 10, 13, 14, 17, 20, 22, 23, 24, 27, 28, 31, 34, 35, 36, 37, 38, 39, 42, 43, 46, 47] : List Nat).contains pc)) = true := by decide +kernel
theorem xo_72_top (pc : Nat) (h : 48 ≤ pc) : xo_72 pc = none := if_pos h
theorem xo_72_ok (pc : Nat) (r : Instr × Nat) (h : xo_72 pc = some r) : decode cX5_rideAway pc = .ok r := by
  rcases Nat.lt_or_ge pc 48 with hl | hl
  · have h1 := List.all_eq_true.mp xo_72_no pc (List.mem_range.mpr hl)
    rw [h] at h1
    simp only [Option.isNone_some, Bool.false_or, Bool.or_eq_true, List.contains_iff_mem, or_assoc] at h1
    rcases h1 with h1
    · have h2 := List.all_eq_true.mp xo_72_c0 pc h1
      rw [h] at h2
      exact of_decide_eq_true h2
  · rw [show xo_72 pc = none from if_pos hl] at h; cases h
/-- X5_answerFor -/
def xo_73 (pc : Nat) : Option (Instr × Nat) := if 66 ≤ pc then none else if pc < 35 then (if pc < 17 then (if pc < 8 then (if pc < 4 then (if pc < 1 then (if pc = 0 then some (.iload_n 1, 1) else none) else (if pc = 1 then some (.invokestatic 70, 3) else none)) else (if pc < 7 then (if pc = 4 then some (.ifCond .ne 5, 3) else none) else (if pc = 7 then some (.iconst (-1), 1) else none))) else (if pc < 10 then (if pc < 9 then (if pc = 8 then some (.ireturn, 1) else none) else (if pc = 9 then some (.aload_n 0, 1) else none)) else (if pc < 13 then (if pc = 10 then some (.getfield 36, 3) else none) else (if pc < 14 then (if pc = 13 then some (.iload_n 1, 1) else none) else (if pc = 14 then some (.invokevirtual 118, 3) else none))))) else (if pc < 24 then (if pc < 22 then (if pc < 20 then (if pc = 17 then some (.ifCond .ne 6, 3) else none) else (if pc = 20 then some (.bipush (-5), 2) else none)) else (if pc < 23 then (if pc = 22 then some (.ireturn, 1) else none) else (if pc = 23 then some (.aload_n 0, 1) else none))) else (if pc < 28 then (if pc < 27 then (if pc = 24 then some (.getfield 36, 3) else none) else (if pc = 27 then some (.iload_n 1, 1) else none)) else (if pc < 31 then (if pc = 28 then some (.invokevirtual 136, 3) else none) else (if pc < 34 then (if pc = 31 then some (.ifCond .eq 7, 3) else none) else (if pc = 34 then some (.iconst 1, 1) else none)))))) else (if pc < 52 then (if pc < 41 then (if pc < 39 then (if pc < 38 then (if pc = 35 then some (.goto 4, 3) else none) else (if pc = 38 then some (.iconst 0, 1) else none)) else (if pc < 40 then (if pc = 39 then some (.istore_n 2, 1) else none) else (if pc = 40 then some (.aload_n 0, 1) else none))) else (if pc < 47 then (if pc < 44 then (if pc = 41 then some (.getfield 36, 3) else none) else (if pc = 44 then some (.getfield 130, 3) else none)) else (if pc < 48 then (if pc = 47 then some (.iload_n 1, 1) else none) else (if pc < 49 then (if pc = 48 then some (.aload_n 0, 1) else none) else (if pc = 49 then some (.getfield 53, 3) else none))))) else (if pc < 60 then (if pc < 54 then (if pc < 53 then (if pc = 52 then some (.iastore, 1) else none) else (if pc = 53 then some (.aload_n 0, 1) else none)) else (if pc < 57 then (if pc = 54 then some (.getfield 36, 3) else none) else (if pc = 57 then some (.getfield 139, 3) else none))) else (if pc < 63 then (if pc < 61 then (if pc = 60 then some (.iload_n 1, 1) else none) else (if pc = 61 then some (.bipush (-6), 2) else none)) else (if pc < 64 then (if pc = 63 then some (.iastore, 1) else none) else (if pc < 65 then (if pc = 64 then some (.iload_n 2, 1) else none) else (if pc = 65 then some (.ireturn, 1) else none))))))
set_option maxRecDepth 100000 in
theorem xo_73_c0 : ([0, 1, 4, 7, 8, 9, 10, 13, 14, 17, 20, 22, 23, 24, 27, 28, 31, 34, 35, 38, 39, 40, 41, 44, 47, 48, 49, 52, 53, 54, 57, 60, 61, 63, 64, 65] : List Nat).all (fun pc => match xo_73 pc with | none => true | some r => decide (decode cX5_answerFor pc = .ok r)) = true := by decide +kernel
set_option maxRecDepth 100000 in
theorem xo_73_no : (List.range 66).all (fun pc => (xo_73 pc).isNone || (([0, 1, 4, 7, 8, 9, 10, 13, 14, 17, 20, 22, 23, 24, 27, 28, 31, 34, 35, 38, 39, 40, 41, 44, 47, 48, 49, 52, 53, 54, 57, 60, 61, 63, 64, 65] : List Nat).contains pc)) = true := by decide +kernel
theorem xo_73_top (pc : Nat) (h : 66 ≤ pc) : xo_73 pc = none := if_pos h
theorem xo_73_ok (pc : Nat) (r : Instr × Nat) (h : xo_73 pc = some r) : decode cX5_answerFor pc = .ok r := by
  rcases Nat.lt_or_ge pc 66 with hl | hl
  · have h1 := List.all_eq_true.mp xo_73_no pc (List.mem_range.mpr hl)
    rw [h] at h1
    simp only [Option.isNone_some, Bool.false_or, Bool.or_eq_true, List.contains_iff_mem, or_assoc] at h1
    rcases h1 with h1
    · have h2 := List.all_eq_true.mp xo_73_c0 pc h1
      rw [h] at h2
      exact of_decide_eq_true h2
  · rw [show xo_73 pc = none from if_pos hl] at h; cases h
/-- X5_fetchFromPound -/
def xo_74 (pc : Nat) : Option (Instr × Nat) := if 51 ≤ pc then none else if pc < 27 then (if pc < 13 then (if pc < 7 then (if pc < 1 then (if pc = 0 then some (.iload_n 1, 1) else none) else (if pc < 4 then (if pc = 1 then some (.invokestatic 70, 3) else none) else (if pc = 4 then some (.ifCond .ne 5, 3) else none))) else (if pc < 9 then (if pc < 8 then (if pc = 7 then some (.iconst (-1), 1) else none) else (if pc = 8 then some (.ireturn, 1) else none)) else (if pc < 10 then (if pc = 9 then some (.aload_n 0, 1) else none) else (if pc = 10 then some (.getfield 36, 3) else none)))) else (if pc < 20 then (if pc < 14 then (if pc = 13 then some (.iload_n 1, 1) else none) else (if pc < 17 then (if pc = 14 then some (.invokevirtual 121, 3) else none) else (if pc = 17 then some (.ifCond .ne 6, 3) else none))) else (if pc < 23 then (if pc < 22 then (if pc = 20 then some (.bipush (-5), 2) else none) else (if pc = 22 then some (.ireturn, 1) else none)) else (if pc < 24 then (if pc = 23 then some (.aload_n 0, 1) else none) else (if pc = 24 then some (.getfield 53, 3) else none))))) else (if pc < 38 then (if pc < 34 then (if pc < 28 then (if pc = 27 then some (.aload_n 0, 1) else none) else (if pc < 31 then (if pc = 28 then some (.getfield 36, 3) else none) else (if pc = 31 then some (.getfield 142, 3) else none))) else (if pc < 36 then (if pc < 35 then (if pc = 34 then some (.iload_n 1, 1) else none) else (if pc = 35 then some (.iaload, 1) else none)) else (if pc < 37 then (if pc = 36 then some (.isub, 1) else none) else (if pc = 37 then some (.istore_n 2, 1) else none)))) else (if pc < 46 then (if pc < 42 then (if pc < 39 then (if pc = 38 then some (.aload_n 0, 1) else none) else (if pc = 39 then some (.getfield 36, 3) else none)) else (if pc < 45 then (if pc = 42 then some (.getfield 142, 3) else none) else (if pc = 45 then some (.iload_n 1, 1) else none))) else (if pc < 49 then (if pc < 48 then (if pc = 46 then some (.bipush (-6), 2) else none) else (if pc = 48 then some (.iastore, 1) else none)) else (if pc < 50 then (if pc = 49 then some (.iload_n 2, 1) else none) else (if pc = 50 then some (.ireturn, 1) else none)))))
set_option maxRecDepth 100000 in
theorem xo_74_c0 : ([0, 1, 4, 7, 8, 9, 10, 13, 14, 17, 20, 22, 23, 24, 27, 28, 31, 34, 35, 36, 37, 38, 39, 42, 45, 46, 48, 49, 50] : List Nat).all (fun pc => match xo_74 pc with | none => true | some r => decide (decode cX5_fetchFromPound pc = .ok r)) = true := by decide +kernel
set_option maxRecDepth 100000 in
theorem xo_74_no : (List.range 51).all (fun pc => (xo_74 pc).isNone || (([0, 1, 4, 7, 8, 9, 10, 13, 14, 17, 20, 22, 23, 24, 27, 28, 31, 34, 35, 36, 37, 38, 39, 42, 45, 46, 48, 49, 50] : List Nat).contains pc)) = true := by decide +kernel
theorem xo_74_top (pc : Nat) (h : 51 ≤ pc) : xo_74 pc = none := if_pos h
theorem xo_74_ok (pc : Nat) (r : Instr × Nat) (h : xo_74 pc = some r) : decode cX5_fetchFromPound pc = .ok r := by
  rcases Nat.lt_or_ge pc 51 with hl | hl
  · have h1 := List.all_eq_true.mp xo_74_no pc (List.mem_range.mpr hl)
    rw [h] at h1
    simp only [Option.isNone_some, Bool.false_or, Bool.or_eq_true, List.contains_iff_mem, or_assoc] at h1
    rcases h1 with h1
    · have h2 := List.all_eq_true.mp xo_74_c0 pc h1
      rw [h] at h2
      exact of_decide_eq_true h2
  · rw [show xo_74 pc = none from if_pos hl] at h; cases h
end
section
/-- X5_isWithoutPermit -/
def xo_75 (pc : Nat) : Option (Instr × Nat) := if 27 ≤ pc then none else if pc < 13 then (if pc < 7 then (if pc < 1 then (if pc = 0 then some (.aload_n 0, 1) else none) else (if pc < 4 then (if pc = 1 then some (.getfield 29, 3) else none) else (if pc = 4 then some (.getfield 115, 3) else none))) else (if pc < 9 then (if pc < 8 then (if pc = 7 then some (.iload_n 1, 1) else none) else (if pc = 8 then some (.iaload, 1) else none)) else (if pc < 10 then (if pc = 9 then some (.aload_n 0, 1) else none) else (if pc = 10 then some (.getfield 36, 3) else none)))) else (if pc < 21 then (if pc < 17 then (if pc < 16 then (if pc = 13 then some (.getfield 145, 3) else none) else (if pc = 16 then some (.iload_n 1, 1) else none)) else (if pc < 18 then (if pc = 17 then some (.iaload, 1) else none) else (if pc = 18 then some (.if_icmp .eq 7, 3) else none))) else (if pc < 25 then (if pc < 22 then (if pc = 21 then some (.iconst 1, 1) else none) else (if pc = 22 then some (.goto 4, 3) else none)) else (if pc < 26 then (if pc = 25 then some (.iconst 0, 1) else none) else (if pc = 26 then some (.ireturn, 1) else none))))
set_option maxRecDepth 100000 in
theorem xo_75_c0 : ([0, 1, 4, 7, 8, 9, 10, 13, 16, 17, 18, 21, 22, 25, 26] : List Nat).all (fun pc => match xo_75 pc with | none => true | some r => decide (decode cX5_isWithoutPermit pc = .ok r)) = true := by decide +kernel
set_option maxRecDepth 100000 in
theorem xo_75_no : (List.range 27).all (fun pc => (xo_75 pc).isNone || (([0, 1, 4, 7, 8, 9, 10, 13, 16, 17, 18, 21, 22, 25, 26] : List Nat).contains pc)) = true := by decide +kernel
theorem xo_75_top (pc : Nat) (h : 27 ≤ pc) : xo_75 pc = none := if_pos h
theorem xo_75_ok (pc : Nat) (r : Instr × Nat) (h : xo_75 pc = some r) : decode cX5_isWithoutPermit pc = .ok r := by
  rcases Nat.lt_or_ge pc 27 with hl | hl
  · have h1 := List.all_eq_true.mp xo_75_no pc (List.mem_range.mpr hl)
    rw [h] at h1
    simp only [Option.isNone_some, Bool.false_or, Bool.or_eq_true, List.contains_iff_mem, or_assoc] at h1
    rcases h1 with h1
    · have h2 := List.all_eq_true.mp xo_75_c0 pc h1
      rw [h] at h2
      exact of_decide_eq_true h2
  · rw [show xo_75 pc = none from if_pos hl] at h; cases h
/-- X5_looksAbandoned -/
def xo_76 (pc : Nat) : Option (Instr × Nat) := if 37 ≤ pc then none else if pc < 18 then (if pc < 11 then (if pc < 4 then (if pc < 1 then (if pc = 0 then some (.aload_n 0, 1) else none) else (if pc = 1 then some (.getfield 53, 3) else none)) else (if pc < 5 then (if pc = 4 then some (.aload_n 0, 1) else none) else (if pc < 8 then (if pc = 5 then some (.getfield 36, 3) else none) else (if pc = 8 then some (.getfield 130, 3) else none)))) else (if pc < 13 then (if pc < 12 then (if pc = 11 then some (.iload_n 1, 1) else none) else (if pc = 12 then some (.iaload, 1) else none)) else (if pc < 14 then (if pc = 13 then some (.isub, 1) else none) else (if pc < 15 then (if pc = 14 then some (.aload_n 0, 1) else none) else (if pc = 15 then some (.getfield 18, 3) else none))))) else (if pc < 25 then (if pc < 20 then (if pc < 19 then (if pc = 18 then some (.iconst 1, 1) else none) else (if pc = 19 then some (.iaload, 1) else none)) else (if pc < 23 then (if pc = 20 then some (.if_icmp .ge 11, 3) else none) else (if pc < 24 then (if pc = 23 then some (.aload_n 0, 1) else none) else (if pc = 24 then some (.iload_n 1, 1) else none)))) else (if pc < 32 then (if pc < 28 then (if pc = 25 then some (.invokevirtual 187, 3) else none) else (if pc < 31 then (if pc = 28 then some (.ifCond .eq 7, 3) else none) else (if pc = 31 then some (.iconst 1, 1) else none))) else (if pc < 35 then (if pc = 32 then some (.goto 4, 3) else none) else (if pc < 36 then (if pc = 35 then some (.iconst 0, 1) else none) else (if pc = 36 then some (.ireturn, 1) else none)))))
set_option maxRecDepth 100000 in
theorem xo_76_c0 : ([0, 1, 4, 5, 8, 11, 12, 13, 14, 15, 18, 19, 20, 23, 24, 25, 28, 31, 32, 35, 36] : List Nat).all (fun pc => match xo_76 pc with | none => true | some r => decide (decode cX5_looksAbandoned pc = .ok r)) = true := by decide +kernel
set_option maxRecDepth 100000 in
theorem xo_76_no : (List.range 37).all (fun pc => (xo_76 pc).isNone || (([0, 1, 4, 5, 8, 11, 12, 13, 14, 15, 18, 19, 20, 23, 24, 25, 28, 31, 32, 35, 36] : List Nat).contains pc)) = true := by decide +kernel
theorem xo_76_top (pc : Nat) (h : 37 ≤ pc) : xo_76 pc = none := if_pos h
theorem xo_76_ok (pc : Nat) (r : Instr × Nat) (h : xo_76 pc = some r) : decode cX5_looksAbandoned pc = .ok r := by
  rcases Nat.lt_or_ge pc 37 with hl | hl
  · have h1 := List.all_eq_true.mp xo_76_no pc (List.mem_range.mpr hl)
    rw [h] at h1
    simp only [Option.isNone_some, Bool.false_or, Bool.or_eq_true, List.contains_iff_mem, or_assoc] at h1
    rcases h1 with h1
    · have h2 := List.all_eq_true.mp xo_76_c0 pc h1
      rw [h] at h2
      exact of_decide_eq_true h2
  · rw [show xo_76 pc = none from if_pos hl] at h; cases h
/-- X5_latestDueTag -/
def xo_77 (pc : Nat) : Option (Instr × Nat) := if 14 ≤ pc then none else if pc < 7 then (if pc < 4 then (if pc < 1 then (if pc = 0 then some (.aload_n 0, 1) else none) else (if pc = 1 then some (.getfield 53, 3) else none)) else (if pc < 5 then (if pc = 4 then some (.iload_n 1, 1) else none) else (if pc < 6 then (if pc = 5 then some (.iadd, 1) else none) else (if pc = 6 then some (.aload_n 0, 1) else none)))) else (if pc < 11 then (if pc < 10 then (if pc = 7 then some (.getfield 18, 3) else none) else (if pc = 10 then some (.iconst 2, 1) else none)) else (if pc < 12 then (if pc = 11 then some (.iaload, 1) else none) else (if pc < 13 then (if pc = 12 then some (.isub, 1) else none) else (if pc = 13 then some (.ireturn, 1) else none))))
set_option maxRecDepth 100000 in
theorem xo_77_c0 : ([0, 1, 4, 5, 6, 7, 10, 11, 12, 13] : List Nat).all (fun pc => match xo_77 pc with | none => true | some r => decide (decode cX5_latestDueTag pc = .ok r)) = true := by decide +kernel
set_option maxRecDepth 100000 in
theorem xo_77_no : (List.range 14).all (fun pc => (xo_77 pc).isNone || (([0, 1, 4, 5, 6, 7, 10, 11, 12, 13] : List Nat).contains pc)) = true := by decide +kernel
theorem xo_77_top (pc : Nat) (h : 14 ≤ pc) : xo_77 pc = none := if_pos h
theorem xo_77_ok (pc : Nat) (r : Instr × Nat) (h : xo_77 pc = some r) : decode cX5_latestDueTag pc = .ok r := by
  rcases Nat.lt_or_ge pc 14 with hl | hl
  · have h1 := List.all_eq_true.mp xo_77_no pc (List.mem_range.mpr hl)
    rw [h] at h1
    simp only [Option.isNone_some, Bool.false_or, Bool.or_eq_true, List.contains_iff_mem, or_assoc] at h1
    rcases h1 with h1
    · have h2 := List.all_eq_true.mp xo_77_c0 pc h1
      rw [h] at h2
      exact of_decide_eq_true h2
  · rw [show xo_77 pc = none from if_pos hl] at h; cases h
/-- X5_sweepShed -/
def xo_78 (pc : Nat) : Option (Instr × Nat) := if 86 ≤ pc then none else if pc < 41 then (if pc < 18 then (if pc < 9 then (if pc < 4 then (if pc < 1 then (if pc = 0 then some (.iload_n 1, 1) else none) else (if pc = 1 then some (.invokestatic 74, 3) else none)) else (if pc < 7 then (if pc = 4 then some (.ifCond .ne 5, 3) else none) else (if pc < 8 then (if pc = 7 then some (.iconst (-1), 1) else none) else (if pc = 8 then some (.ireturn, 1) else none)))) else (if pc < 12 then (if pc < 10 then (if pc = 9 then some (.iconst 0, 1) else none) else (if pc < 11 then (if pc = 10 then some (.istore_n 2, 1) else none) else (if pc = 11 then some (.iload_n 2, 1) else none))) else (if pc < 14 then (if pc = 12 then some (.bipush 20, 2) else none) else (if pc < 17 then (if pc = 14 then some (.if_icmp .ge 54, 3) else none) else (if pc = 17 then some (.aload_n 0, 1) else none))))) else (if pc < 27 then (if pc < 24 then (if pc < 21 then (if pc = 18 then some (.getfield 36, 3) else none) else (if pc = 21 then some (.getfield 145, 3) else none)) else (if pc < 25 then (if pc = 24 then some (.iload_n 2, 1) else none) else (if pc < 26 then (if pc = 25 then some (.iaload, 1) else none) else (if pc = 26 then some (.iload_n 1, 1) else none)))) else (if pc < 34 then (if pc < 30 then (if pc = 27 then some (.if_icmp .ne 35, 3) else none) else (if pc < 31 then (if pc = 30 then some (.aload_n 0, 1) else none) else (if pc = 31 then some (.getfield 36, 3) else none))) else (if pc < 35 then (if pc = 34 then some (.iload_n 2, 1) else none) else (if pc < 38 then (if pc = 35 then some (.invokevirtual 136, 3) else none) else (if pc = 38 then some (.ifCond .ne 24, 3) else none)))))) else (if pc < 62 then (if pc < 50 then (if pc < 43 then (if pc < 42 then (if pc = 41 then some (.aload_n 0, 1) else none) else (if pc = 42 then some (.iload_n 2, 1) else none)) else (if pc < 46 then (if pc = 43 then some (.invokevirtual 146, 3) else none) else (if pc < 49 then (if pc = 46 then some (.ifCond .eq 16, 3) else none) else (if pc = 49 then some (.aload_n 0, 1) else none)))) else (if pc < 57 then (if pc < 53 then (if pc = 50 then some (.getfield 36, 3) else none) else (if pc < 56 then (if pc = 53 then some (.getfield 139, 3) else none) else (if pc = 56 then some (.iload_n 2, 1) else none))) else (if pc < 58 then (if pc = 57 then some (.aload_n 0, 1) else none) else (if pc < 61 then (if pc = 58 then some (.getfield 53, 3) else none) else (if pc = 61 then some (.iastore, 1) else none))))) else (if pc < 74 then (if pc < 69 then (if pc < 65 then (if pc = 62 then some (.iinc 2 1, 3) else none) else (if pc < 68 then (if pc = 65 then some (.goto (-54), 3) else none) else (if pc = 68 then some (.aload_n 0, 1) else none))) else (if pc < 72 then (if pc = 69 then some (.getfield 36, 3) else none) else (if pc < 73 then (if pc = 72 then some (.iload_n 1, 1) else none) else (if pc = 73 then some (.aload_n 0, 1) else none)))) else (if pc < 79 then (if pc < 75 then (if pc = 74 then some (.iconst 0, 1) else none) else (if pc < 78 then (if pc = 75 then some (.invokevirtual 149, 3) else none) else (if pc = 78 then some (.aload_n 0, 1) else none))) else (if pc < 82 then (if pc = 79 then some (.getfield 53, 3) else none) else (if pc < 85 then (if pc = 82 then some (.invokevirtual 152, 3) else none) else (if pc = 85 then some (.ireturn, 1) else none))))))
set_option maxRecDepth 100000 in
theorem xo_78_c0 : ([0, 1, 4, 7, 8, 9, 10, 11, 12, 14, 17, 18, 21, 24, 25, 26, 27, 30, 31, 34, 35, 38, 41, 42, 43, 46, 49, 50, 53, 56, 57, 58, 61, 62, 65, 68, 69, 72, 73, 74, 75, 78, 79, 82, 85] : List Nat).all (fun pc => match xo_78 pc with | none => true | some r => decide (decode cX5_sweepShed pc = .ok r)) = true := by decide +kernel
set_option maxRecDepth 100000 in
theorem xo_78_no : (List.range 86).all (fun pc => (xo_78 pc).isNone || (([0, 1, 4, 7, 8, 9, 10, 11, 12, 14, 17, 18, 21, 24, 25, 26, 27, 30, 31, 34, 35, 38, 41, 42, 43, 46, 49, 50, 53, 56, 57, 58, 61, 62, 65, 68, 69, 72, 73, 74, 75, 78, 79, 82, 85] : List Nat).contains pc)) = true := by decide +kernel
theorem xo_78_top (pc : Nat) (h : 86 ≤ pc) : xo_78 pc = none := if_pos h
theorem xo_78_ok (pc : Nat) (r : Instr × Nat) (h : xo_78 pc = some r) : decode cX5_sweepShed pc = .ok r := by
  rcases Nat.lt_or_ge pc 86 with hl | hl
  · have h1 := List.all_eq_true.mp xo_78_no pc (List.mem_range.mpr hl)
    rw [h] at h1
    simp only [Option.isNone_some, Bool.false_or, Bool.or_eq_true, List.contains_iff_mem, or_assoc] at h1
    rcases h1 with h1
    · have h2 := List.all_eq_true.mp xo_78_c0 pc h1
      rw [h] at h2
      exact of_decide_eq_true h2
  · rw [show xo_78 pc = none from if_pos hl] at h; cases h
/-- X6_isRack -/
def xo_79 (pc : Nat) : Option (Instr × Nat) := if 17 ≤ pc then none else if pc < 8 then (if pc < 2 then (if pc < 1 then (if pc = 0 then some (.iconst 0, 1) else none) else (if pc = 1 then some (.iload_n 0, 1) else none)) else (if pc < 5 then (if pc = 2 then some (.if_icmp .gt 13, 3) else none) else (if pc < 6 then (if pc = 5 then some (.iload_n 0, 1) else none) else (if pc = 6 then some (.bipush 8, 2) else none)))) else (if pc < 12 then (if pc < 11 then (if pc = 8 then some (.if_icmp .ge 7, 3) else none) else (if pc = 11 then some (.iconst 1, 1) else none)) else (if pc < 15 then (if pc = 12 then some (.goto 4, 3) else none) else (if pc < 16 then (if pc = 15 then some (.iconst 0, 1) else none) else (if pc = 16 then some (.ireturn, 1) else none))))
set_option maxRecDepth 100000 in
theorem xo_79_c0 : ([0, 1, 2, 5, 6, 8, 11, 12, 15, 16] : List Nat).all (fun pc => match xo_79 pc with | none => true | some r => decide (decode cX6_isRack pc = .ok r)) = true := by decide +kernel
set_option maxRecDepth 100000 in
theorem xo_79_no : (List.range 17).all (fun pc => (xo_79 pc).isNone || (([0, 1, 2, 5, 6, 8, 11, 12, 15, 16] : List Nat).contains pc)) = true := by decide +kernel
theorem xo_79_top (pc : Nat) (h : 17 ≤ pc) : xo_79 pc = none := if_pos h
theorem xo_79_ok (pc : Nat) (r : Instr × Nat) (h : xo_79 pc = some r) : decode cX6_isRack pc = .ok r := by
  rcases Nat.lt_or_ge pc 17 with hl | hl
  · have h1 := List.all_eq_true.mp xo_79_no pc (List.mem_range.mpr hl)
    rw [h] at h1
    simp only [Option.isNone_some, Bool.false_or, Bool.or_eq_true, List.contains_iff_mem, or_assoc] at h1
    rcases h1 with h1
    · have h2 := List.all_eq_true.mp xo_79_c0 pc h1
      rw [h] at h2
      exact of_decide_eq_true h2
  · rw [show xo_79 pc = none from if_pos hl] at h; cases h
/-- X5_changeUse -/
def xo_80 (pc : Nat) : Option (Instr × Nat) := if 72 ≤ pc then none else if pc < 37 then (if pc < 21 then (if pc < 11 then (if pc < 4 then (if pc < 1 then (if pc = 0 then some (.iload_n 1, 1) else none) else (if pc = 1 then some (.invokestatic 74, 3) else none)) else (if pc < 7 then (if pc = 4 then some (.ifCond .eq 10, 3) else none) else (if pc < 8 then (if pc = 7 then some (.iload_n 2, 1) else none) else (if pc = 8 then some (.invokestatic 156, 3) else none)))) else (if pc < 16 then (if pc < 14 then (if pc = 11 then some (.ifCond .ne 5, 3) else none) else (if pc < 15 then (if pc = 14 then some (.iconst (-1), 1) else none) else (if pc = 15 then some (.ireturn, 1) else none))) else (if pc < 17 then (if pc = 16 then some (.aload_n 0, 1) else none) else (if pc < 20 then (if pc = 17 then some (.getfield 23, 3) else none) else (if pc = 20 then some (.iload_n 1, 1) else none))))) else (if pc < 26 then (if pc < 23 then (if pc < 22 then (if pc = 21 then some (.iaload, 1) else none) else (if pc = 22 then some (.iload_n 2, 1) else none)) else (if pc < 24 then (if pc = 23 then some (.ishr, 1) else none) else (if pc < 25 then (if pc = 24 then some (.iconst 1, 1) else none) else (if pc = 25 then some (.iand, 1) else none)))) else (if pc < 31 then (if pc < 27 then (if pc = 26 then some (.iconst 1, 1) else none) else (if pc < 30 then (if pc = 27 then some (.if_icmp .ne 7, 3) else none) else (if pc = 30 then some (.iconst 1, 1) else none))) else (if pc < 34 then (if pc = 31 then some (.goto 4, 3) else none) else (if pc < 35 then (if pc = 34 then some (.iconst 0, 1) else none) else (if pc = 35 then some (.istore 4, 2) else none)))))) else (if pc < 54 then (if pc < 46 then (if pc < 40 then (if pc < 39 then (if pc = 37 then some (.iload 4, 2) else none) else (if pc = 39 then some (.iload_n 3, 1) else none)) else (if pc < 43 then (if pc = 40 then some (.if_icmp .ne 6, 3) else none) else (if pc < 45 then (if pc = 43 then some (.bipush (-5), 2) else none) else (if pc = 45 then some (.ireturn, 1) else none)))) else (if pc < 51 then (if pc < 47 then (if pc = 46 then some (.aload_n 0, 1) else none) else (if pc < 50 then (if pc = 47 then some (.getfield 23, 3) else none) else (if pc = 50 then some (.iload_n 1, 1) else none))) else (if pc < 52 then (if pc = 51 then some (.dup2, 1) else none) else (if pc < 53 then (if pc = 52 then some (.iaload, 1) else none) else (if pc = 53 then some (.iconst 1, 1) else none))))) else (if pc < 62 then (if pc < 57 then (if pc < 55 then (if pc = 54 then some (.iload_n 2, 1) else none) else (if pc < 56 then (if pc = 55 then some (.ishl, 1) else none) else (if pc = 56 then some (.ixor, 1) else none))) else (if pc < 58 then (if pc = 57 then some (.iastore, 1) else none) else (if pc < 59 then (if pc = 58 then some (.aload_n 0, 1) else none) else (if pc = 59 then some (.invokevirtual 67, 3) else none)))) else (if pc < 67 then (if pc < 63 then (if pc = 62 then some (.aload_n 0, 1) else none) else (if pc < 66 then (if pc = 63 then some (.getfield 23, 3) else none) else (if pc = 66 then some (.iload_n 1, 1) else none))) else (if pc < 68 then (if pc = 67 then some (.iaload, 1) else none) else (if pc < 71 then (if pc = 68 then some (.invokestatic 159, 3) else none) else (if pc = 71 then some (.ireturn, 1) else none))))))
set_option maxRecDepth 100000 in
theorem xo_80_c0 : ([0, 1, 4, 7, 8, 11, 14, 15, 16, 17, 20, 21, 22, 23, 24, 25, 26, 27, 30, 31, 34, 35, 37, 39, 40, 43, 45, 46, 47, 50, 51, 52, 53, 54, 55, 56, 57, 58, 59, 62, 63, 66, 67, 68, 71] : List Nat).all (fun pc => match xo_80 pc with | none => true | some r => decide (decode cX5_changeUse pc = .ok r)) = true := by decide +kernel
set_option maxRecDepth 100000 in
theorem xo_80_no : (List.range 72).all (fun pc => (xo_80 pc).isNone || (([0, 1, 4, 7, 8, 11, 14, 15, 16, 17, 20, 21, 22, 23, 24, 25, 26, 27, 30, 31, 34, 35, 37, 39, 40, 43, 45, 46, 47, 50, 51, 52, 53, 54, 55, 56, 57, 58, 59, 62, 63, 66, 67, 68, 71] : List Nat).contains pc)) = true := by decide +kernel
theorem xo_80_top (pc : Nat) (h : 72 ≤ pc) : xo_80 pc = none := if_pos h
theorem xo_80_ok (pc : Nat) (r : Instr × Nat) (h : xo_80 pc = some r) : decode cX5_changeUse pc = .ok r := by
  rcases Nat.lt_or_ge pc 72 with hl | hl
  · have h1 := List.all_eq_true.mp xo_80_no pc (List.mem_range.mpr hl)
    rw [h] at h1
    simp only [Option.isNone_some, Bool.false_or, Bool.or_eq_true, List.contains_iff_mem, or_assoc] at h1
    rcases h1 with h1
    · have h2 := List.all_eq_true.mp xo_80_c0 pc h1
      rw [h] at h2
      exact of_decide_eq_true h2
  · rw [show xo_80 pc = none from if_pos hl] at h; cases h
/-- X5_beginDay -/
def xo_81 (pc : Nat) : Option (Instr × Nat) := if 44 ≤ pc then none else if pc < 22 then (if pc < 10 then (if pc < 5 then (if pc < 1 then (if pc = 0 then some (.aload_n 0, 1) else none) else (if pc < 2 then (if pc = 1 then some (.dup, 1) else none) else (if pc = 2 then some (.getfield 53, 3) else none))) else (if pc < 6 then (if pc = 5 then some (.iconst 1, 1) else none) else (if pc < 7 then (if pc = 6 then some (.iadd, 1) else none) else (if pc = 7 then some (.putfield 53, 3) else none)))) else (if pc < 15 then (if pc < 11 then (if pc = 10 then some (.aload_n 0, 1) else none) else (if pc < 14 then (if pc = 11 then some (.getfield 29, 3) else none) else (if pc = 14 then some (.aload_n 0, 1) else none))) else (if pc < 18 then (if pc = 15 then some (.getfield 53, 3) else none) else (if pc < 21 then (if pc = 18 then some (.invokevirtual 170, 3) else none) else (if pc = 21 then some (.aload_n 0, 1) else none))))) else (if pc < 34 then (if pc < 29 then (if pc < 25 then (if pc = 22 then some (.getfield 36, 3) else none) else (if pc < 26 then (if pc = 25 then some (.aload_n 0, 1) else none) else (if pc = 26 then some (.getfield 53, 3) else none))) else (if pc < 30 then (if pc = 29 then some (.aload_n 0, 1) else none) else (if pc < 33 then (if pc = 30 then some (.getfield 18, 3) else none) else (if pc = 33 then some (.iconst 3, 1) else none)))) else (if pc < 39 then (if pc < 35 then (if pc = 34 then some (.iaload, 1) else none) else (if pc < 36 then (if pc = 35 then some (.isub, 1) else none) else (if pc = 36 then some (.invokevirtual 173, 3) else none))) else (if pc < 40 then (if pc = 39 then some (.aload_n 0, 1) else none) else (if pc < 43 then (if pc = 40 then some (.invokevirtual 67, 3) else none) else (if pc = 43 then some (.return_, 1) else none)))))
set_option maxRecDepth 100000 in
theorem xo_81_c0 : ([0, 1, 2, 5, 6, 7, 10, 11, 14, 15, 18, 21, 22, 25, 26, 29, 30, 33, 34, 35, 36, 39, 40, 43] : List Nat).all (fun pc => match xo_81 pc with | none => true | some r => decide (decode cX5_beginDay pc = .ok r)) = true := by decide +kernel
set_option maxRecDepth 100000 in
theorem xo_81_no : (List.range 44).all (fun pc => (xo_81 pc).isNone || (([0, 1, 2, 5, 6, 7, 10, 11, 14, 15, 18, 21, 22, 25, 26, 29, 30, 33, 34, 35, 36, 39, 40, 43] : List Nat).contains pc)) = true := by decide +kernel
theorem xo_81_top (pc : Nat) (h : 44 ≤ pc) : xo_81 pc = none := if_pos h
theorem xo_81_ok (pc : Nat) (r : Instr × Nat) (h : xo_81 pc = some r) : decode cX5_beginDay pc = .ok r := by
  rcases Nat.lt_or_ge pc 44 with hl | hl
  · have h1 := List.all_eq_true.mp xo_81_no pc (List.mem_range.mpr hl)
    rw [h] at h1
    simp only [Option.isNone_some, Bool.false_or, Bool.or_eq_true, List.contains_iff_mem, or_assoc] at h1
    rcases h1 with h1
    · have h2 := List.all_eq_true.mp xo_81_c0 pc h1
      rw [h] at h2
      exact of_decide_eq_true h2
  · rw [show xo_81 pc = none from if_pos hl] at h; cases h
/-- X5_letPass -/
def xo_82 (pc : Nat) : Option (Instr × Nat) := if 63 ≤ pc then none else if pc < 32 then (if pc < 14 then (if pc < 7 then (if pc < 2 then (if pc < 1 then (if pc = 0 then some (.iconst 1, 1) else none) else (if pc = 1 then some (.iload_n 1, 1) else none)) else (if pc < 4 then (if pc = 2 then some (.bipush 99, 2) else none) else (if pc = 4 then some (.invokestatic 57, 3) else none))) else (if pc < 12 then (if pc < 10 then (if pc = 7 then some (.ifCond .ne 6, 3) else none) else (if pc = 10 then some (.bipush (-2), 2) else none)) else (if pc < 13 then (if pc = 12 then some (.ireturn, 1) else none) else (if pc = 13 then some (.aload_n 0, 1) else none)))) else (if pc < 22 then (if pc < 18 then (if pc < 17 then (if pc = 14 then some (.getfield 53, 3) else none) else (if pc = 17 then some (.iload_n 1, 1) else none)) else (if pc < 19 then (if pc = 18 then some (.iadd, 1) else none) else (if pc = 19 then some (.sipush 9999, 3) else none))) else (if pc < 27 then (if pc < 25 then (if pc = 22 then some (.if_icmp .le 6, 3) else none) else (if pc = 25 then some (.bipush (-4), 2) else none)) else (if pc < 28 then (if pc = 27 then some (.ireturn, 1) else none) else (if pc < 29 then (if pc = 28 then some (.aload_n 0, 1) else none) else (if pc = 29 then some (.getfield 29, 3) else none)))))) else (if pc < 44 then (if pc < 38 then (if pc < 36 then (if pc < 35 then (if pc = 32 then some (.getfield 164, 3) else none) else (if pc = 35 then some (.istore_n 2, 1) else none)) else (if pc < 37 then (if pc = 36 then some (.iconst 0, 1) else none) else (if pc = 37 then some (.istore_n 3, 1) else none))) else (if pc < 40 then (if pc < 39 then (if pc = 38 then some (.iload_n 3, 1) else none) else (if pc = 39 then some (.iload_n 1, 1) else none)) else (if pc < 43 then (if pc = 40 then some (.if_icmp .ge 13, 3) else none) else (if pc = 43 then some (.aload_n 0, 1) else none)))) else (if pc < 54 then (if pc < 50 then (if pc < 47 then (if pc = 44 then some (.invokevirtual 167, 3) else none) else (if pc = 47 then some (.iinc 3 1, 3) else none)) else (if pc < 53 then (if pc = 50 then some (.goto (-12), 3) else none) else (if pc = 53 then some (.aload_n 0, 1) else none))) else (if pc < 60 then (if pc < 57 then (if pc = 54 then some (.getfield 29, 3) else none) else (if pc = 57 then some (.getfield 164, 3) else none)) else (if pc < 61 then (if pc = 60 then some (.iload_n 2, 1) else none) else (if pc < 62 then (if pc = 61 then some (.isub, 1) else none) else (if pc = 62 then some (.ireturn, 1) else none))))))
set_option maxRecDepth 100000 in
theorem xo_82_c0 : ([0, 1, 2, 4, 7, 10, 12, 13, 14, 17, 18, 19, 22, 25, 27, 28, 29, 32, 35, 36, 37, 38, 39, 40, 43, 44, 47, 50, 53, 54, 57, 60, 61, 62] : List Nat).all (fun pc => match xo_82 pc with | none => true | some r => decide (decode cX5_letPass pc = .ok r)) = true := by decide +kernel
set_option maxRecDepth 100000 in
theorem xo_82_no : (List.range 63).all (fun pc => (xo_82 pc).isNone || (([0, 1, 2, 4, 7, 10, 12, 13, 14, 17, 18, 19, 22, 25, 27, 28, 29, 32, 35, 36, 37, 38, 39, 40, 43, 44, 47, 50, 53, 54, 57, 60, 61, 62] : List Nat).contains pc)) = true := by decide +kernel
theorem xo_82_top (pc : Nat) (h : 63 ≤ pc) : xo_82 pc = none := if_pos h
theorem xo_82_ok (pc : Nat) (r : Instr × Nat) (h : xo_82 pc = some r) : decode cX5_letPass pc = .ok r := by
  rcases Nat.lt_or_ge pc 63 with hl | hl
  · have h1 := List.all_eq_true.mp xo_82_no pc (List.mem_range.mpr hl)
    rw [h] at h1
    simp only [Option.isNone_some, Bool.false_or, Bool.or_eq_true, List.contains_iff_mem, or_assoc] at h1
    rcases h1 with h1
    · have h2 := List.all_eq_true.mp xo_82_c0 pc h1
      rw [h] at h2
      exact of_decide_eq_true h2
  · rw [show xo_82 pc = none from if_pos hl] at h; cases h
/-- X5_passUntilPermit -/
def xo_83 (pc : Nat) : Option (Instr × Nat) := if 35 ≤ pc then none else if pc < 17 then (if pc < 6 then (if pc < 2 then (if pc < 1 then (if pc = 0 then some (.iconst 1, 1) else none) else (if pc = 1 then some (.istore_n 2, 1) else none)) else (if pc < 3 then (if pc = 2 then some (.iload_n 2, 1) else none) else (if pc = 3 then some (.sipush 300, 3) else none))) else (if pc < 10 then (if pc < 9 then (if pc = 6 then some (.if_icmp .gt 26, 3) else none) else (if pc = 9 then some (.aload_n 0, 1) else none)) else (if pc < 13 then (if pc = 10 then some (.invokevirtual 167, 3) else none) else (if pc < 14 then (if pc = 13 then some (.aload_n 0, 1) else none) else (if pc = 14 then some (.getfield 29, 3) else none))))) else (if pc < 25 then (if pc < 21 then (if pc < 18 then (if pc = 17 then some (.iload_n 1, 1) else none) else (if pc = 18 then some (.invokevirtual 77, 3) else none)) else (if pc < 24 then (if pc = 21 then some (.ifCond .eq 5, 3) else none) else (if pc = 24 then some (.iload_n 2, 1) else none))) else (if pc < 29 then (if pc < 26 then (if pc = 25 then some (.ireturn, 1) else none) else (if pc = 26 then some (.iinc 2 1, 3) else none)) else (if pc < 32 then (if pc = 29 then some (.goto (-27), 3) else none) else (if pc < 34 then (if pc = 32 then some (.bipush (-6), 2) else none) else (if pc = 34 then some (.ireturn, 1) else none)))))
set_option maxRecDepth 100000 in
theorem xo_83_c0 : ([0, 1, 2, 3, 6, 9, 10, 13, 14, 17, 18, 21, 24, 25, 26, 29, 32, 34] : List Nat).all (fun pc => match xo_83 pc with | none => true | some r => decide (decode cX5_passUntilPermit pc = .ok r)) = true := by decide +kernel
set_option maxRecDepth 100000 in
theorem xo_83_no : (List.range 35).all (fun pc => (xo_83 pc).isNone || (([0, 1, 2, 3, 6, 9, 10, 13, 14, 17, 18, 21, 24, 25, 26, 29, 32, 34] : List Nat).contains pc)) = true := by decide +kernel
theorem xo_83_top (pc : Nat) (h : 35 ≤ pc) : xo_83 pc = none := if_pos h
theorem xo_83_ok (pc : Nat) (r : Instr × Nat) (h : xo_83 pc = some r) : decode cX5_passUntilPermit pc = .ok r := by
  rcases Nat.lt_or_ge pc 35 with hl | hl
  · have h1 := List.all_eq_true.mp xo_83_no pc (List.mem_range.mpr hl)
    rw [h] at h1
    simp only [Option.isNone_some, Bool.false_or, Bool.or_eq_true, List.contains_iff_mem, or_assoc] at h1
    rcases h1 with h1
    · have h2 := List.all_eq_true.mp xo_83_c0 pc h1
      rw [h] at h2
      exact of_decide_eq_true h2
  · rw [show xo_83 pc = none from if_pos hl] at h; cases h
/-- X5_aboutPerson -/
def xo_84 (pc : Nat) : Option (Instr × Nat) := if 186 ≤ pc then none else if pc < 116 then (if pc < 81 then (if pc < 63 then (if pc < 56 then (if pc < 52 then (if pc < 1 then (if pc = 0 then some (.iload_n 2, 1) else none) else (if pc = 1 then some (.tableswitch 182 0 8 #[51, 61, 71, 80, 90, 100, 131, 141, 172], 51) else none)) else (if pc < 53 then (if pc = 52 then some (.aload_n 0, 1) else none) else (if pc = 53 then some (.getfield 29, 3) else none))) else (if pc < 60 then (if pc < 59 then (if pc = 56 then some (.getfield 115, 3) else none) else (if pc = 59 then some (.iload_n 1, 1) else none)) else (if pc < 61 then (if pc = 60 then some (.iaload, 1) else none) else (if pc < 62 then (if pc = 61 then some (.ireturn, 1) else none) else (if pc = 62 then some (.aload_n 0, 1) else none))))) else (if pc < 72 then (if pc < 69 then (if pc < 66 then (if pc = 63 then some (.getfield 29, 3) else none) else (if pc = 66 then some (.getfield 105, 3) else none)) else (if pc < 70 then (if pc = 69 then some (.iload_n 1, 1) else none) else (if pc < 71 then (if pc = 70 then some (.iaload, 1) else none) else (if pc = 71 then some (.ireturn, 1) else none)))) else (if pc < 76 then (if pc < 73 then (if pc = 72 then some (.aload_n 0, 1) else none) else (if pc = 73 then some (.getfield 29, 3) else none)) else (if pc < 77 then (if pc = 76 then some (.iload_n 1, 1) else none) else (if pc < 80 then (if pc = 77 then some (.invokevirtual 190, 3) else none) else (if pc = 80 then some (.ireturn, 1) else none)))))) else (if pc < 98 then (if pc < 89 then (if pc < 85 then (if pc < 82 then (if pc = 81 then some (.aload_n 0, 1) else none) else (if pc = 82 then some (.getfield 36, 3) else none)) else (if pc < 88 then (if pc = 85 then some (.getfield 145, 3) else none) else (if pc = 88 then some (.iload_n 1, 1) else none))) else (if pc < 91 then (if pc < 90 then (if pc = 89 then some (.iaload, 1) else none) else (if pc = 90 then some (.ireturn, 1) else none)) else (if pc < 92 then (if pc = 91 then some (.aload_n 0, 1) else none) else (if pc < 95 then (if pc = 92 then some (.getfield 36, 3) else none) else (if pc = 95 then some (.getfield 193, 3) else none))))) else (if pc < 105 then (if pc < 100 then (if pc < 99 then (if pc = 98 then some (.iload_n 1, 1) else none) else (if pc = 99 then some (.iaload, 1) else none)) else (if pc < 101 then (if pc = 100 then some (.ireturn, 1) else none) else (if pc < 102 then (if pc = 101 then some (.aload_n 0, 1) else none) else (if pc = 102 then some (.getfield 36, 3) else none)))) else (if pc < 109 then (if pc < 106 then (if pc = 105 then some (.iload_n 1, 1) else none) else (if pc = 106 then some (.invokevirtual 118, 3) else none)) else (if pc < 112 then (if pc = 109 then some (.ifCond .eq 20, 3) else none) else (if pc < 113 then (if pc = 112 then some (.aload_n 0, 1) else none) else (if pc = 113 then some (.getfield 53, 3) else none))))))) else (if pc < 150 then (if pc < 132 then (if pc < 124 then (if pc < 120 then (if pc < 117 then (if pc = 116 then some (.aload_n 0, 1) else none) else (if pc = 117 then some (.getfield 36, 3) else none)) else (if pc < 123 then (if pc = 120 then some (.getfield 130, 3) else none) else (if pc = 123 then some (.iload_n 1, 1) else none))) else (if pc < 126 then (if pc < 125 then (if pc = 124 then some (.iaload, 1) else none) else (if pc = 125 then some (.isub, 1) else none)) else (if pc < 129 then (if pc = 126 then some (.goto 5, 3) else none) else (if pc < 131 then (if pc = 129 then some (.bipush (-6), 2) else none) else (if pc = 131 then some (.ireturn, 1) else none))))) else (if pc < 141 then (if pc < 136 then (if pc < 133 then (if pc = 132 then some (.aload_n 0, 1) else none) else (if pc = 133 then some (.getfield 36, 3) else none)) else (if pc < 139 then (if pc = 136 then some (.getfield 139, 3) else none) else (if pc < 140 then (if pc = 139 then some (.iload_n 1, 1) else none) else (if pc = 140 then some (.iaload, 1) else none)))) else (if pc < 143 then (if pc < 142 then (if pc = 141 then some (.ireturn, 1) else none) else (if pc = 142 then some (.aload_n 0, 1) else none)) else (if pc < 146 then (if pc = 143 then some (.getfield 36, 3) else none) else (if pc < 147 then (if pc = 146 then some (.iload_n 1, 1) else none) else (if pc = 147 then some (.invokevirtual 121, 3) else none)))))) else (if pc < 170 then (if pc < 161 then (if pc < 154 then (if pc < 153 then (if pc = 150 then some (.ifCond .eq 20, 3) else none) else (if pc = 153 then some (.aload_n 0, 1) else none)) else (if pc < 157 then (if pc = 154 then some (.getfield 53, 3) else none) else (if pc < 158 then (if pc = 157 then some (.aload_n 0, 1) else none) else (if pc = 158 then some (.getfield 36, 3) else none)))) else (if pc < 165 then (if pc < 164 then (if pc = 161 then some (.getfield 142, 3) else none) else (if pc = 164 then some (.iload_n 1, 1) else none)) else (if pc < 166 then (if pc = 165 then some (.iaload, 1) else none) else (if pc < 167 then (if pc = 166 then some (.isub, 1) else none) else (if pc = 167 then some (.goto 5, 3) else none))))) else (if pc < 180 then (if pc < 173 then (if pc < 172 then (if pc = 170 then some (.bipush (-6), 2) else none) else (if pc = 172 then some (.ireturn, 1) else none)) else (if pc < 174 then (if pc = 173 then some (.aload_n 0, 1) else none) else (if pc < 177 then (if pc = 174 then some (.getfield 36, 3) else none) else (if pc = 177 then some (.getfield 196, 3) else none)))) else (if pc < 182 then (if pc < 181 then (if pc = 180 then some (.iload_n 1, 1) else none) else (if pc = 181 then some (.iaload, 1) else none)) else (if pc < 183 then (if pc = 182 then some (.ireturn, 1) else none) else (if pc < 185 then (if pc = 183 then some (.bipush (-2), 2) else none) else (if pc = 185 then some (.ireturn, 1) else none)))))))
set_option maxRecDepth 100000 in
theorem xo_84_c0 : ([0, 1, 52, 53, 56, 59, 60, 61, 62, 63, 66, 69, 70, 71, 72, 73, 76, 77, 80, 81, 82, 85, 88, 89, 90, 91] : List Nat).all (fun pc => match xo_84 pc with | none => true | some r => decide (decode cX5_aboutPerson pc = .ok r)) = true := by decide +kernel
set_option maxRecDepth 100000 in
theorem xo_84_c1 : ([92, 95, 98, 99, 100, 101, 102, 105, 106, 109, 112, 113, 116, 117, 120, 123, 124, 125, 126, 129, 131, 132, 133, 136, 139, 140] : List Nat).all (fun pc => match xo_84 pc with | none => true | some r => decide (decode cX5_aboutPerson pc = .ok r)) = true := by decide +kernel
set_option maxRecDepth 100000 in
theorem xo_84_c2 : ([141, 142, 143, 146, 147, 150, 153, 154, 157, 158, 161, 164, 165, 166, 167, 170, 172, 173, 174, 177, 180, 181, 182, 183, 185] : List Nat).all (fun pc => match xo_84 pc with | none => true | some r => decide (decode cX5_aboutPerson pc = .ok r)) = true := by decide +kernel
set_option maxRecDepth 100000 in
theorem xo_84_no : (List.range 186).all (fun pc => (xo_84 pc).isNone || (([0, 1, 52, 53, 56, 59, 60, 61, 62, 63, 66, 69, 70, 71, 72, 73, 76, 77, 80, 81, 82, 85, 88, 89, 90, 91] : List Nat).contains pc || ([92, 95, 98, 99, 100, 101, 102, 105, 106, 109, 112, 113, 116, 117, 120, 123, 124, 125, 126, 129, 131, 132, 133, 136, 139, 140] : List Nat).contains pc || ([141, 142, 143, 146, 147, 150, 153, 154, 157, 158, 161, 164, 165, 166, 167, 170, 172, 173, 174, 177, 180, 181, 182, 183, 185] : List Nat).contains pc)) = true := by decide +kernel
theorem xo_84_top (pc : Nat) (h : 186 ≤ pc) : xo_84 pc = none := if_pos h
theorem xo_84_ok (pc : Nat) (r : Instr × Nat) (h : xo_84 pc = some r) : decode cX5_aboutPerson pc = .ok r := by
  rcases Nat.lt_or_ge pc 186 with hl | hl
  · have h1 := List.all_eq_true.mp xo_84_no pc (List.mem_range.mpr hl)
    rw [h] at h1
    simp only [Option.isNone_some, Bool.false_or, Bool.or_eq_true, List.contains_iff_mem, or_assoc] at h1
    rcases h1 with h1 | h1 | h1
    · have h2 := List.all_eq_true.mp xo_84_c0 pc h1
      rw [h] at h2
      exact of_decide_eq_true h2
    · have h2 := List.all_eq_true.mp xo_84_c1 pc h1
      rw [h] at h2
      exact of_decide_eq_true h2
    · have h2 := List.all_eq_true.mp xo_84_c2 pc h1
      rw [h] at h2
      exact of_decide_eq_true h2
  · rw [show xo_84 pc = none from if_pos hl] at h; cases h
/-- X5_racksWithoutPermit -/
def xo_85 (pc : Nat) : Option (Instr × Nat) := if 53 ≤ pc then none else if pc < 25 then (if pc < 11 then (if pc < 4 then (if pc < 2 then (if pc < 1 then (if pc = 0 then some (.iconst 0, 1) else none) else (if pc = 1 then some (.istore_n 2, 1) else none)) else (if pc < 3 then (if pc = 2 then some (.iconst 0, 1) else none) else (if pc = 3 then some (.istore_n 3, 1) else none))) else (if pc < 7 then (if pc < 5 then (if pc = 4 then some (.iload_n 3, 1) else none) else (if pc = 5 then some (.bipush 20, 2) else none)) else (if pc < 10 then (if pc = 7 then some (.if_icmp .ge 44, 3) else none) else (if pc = 10 then some (.aload_n 0, 1) else none)))) else (if pc < 19 then (if pc < 17 then (if pc < 14 then (if pc = 11 then some (.getfield 36, 3) else none) else (if pc = 14 then some (.getfield 145, 3) else none)) else (if pc < 18 then (if pc = 17 then some (.iload_n 3, 1) else none) else (if pc = 18 then some (.iaload, 1) else none))) else (if pc < 23 then (if pc < 20 then (if pc = 19 then some (.iload_n 1, 1) else none) else (if pc = 20 then some (.if_icmp .ne 25, 3) else none)) else (if pc < 24 then (if pc = 23 then some (.aload_n 0, 1) else none) else (if pc = 24 then some (.iload_n 3, 1) else none))))) else (if pc < 41 then (if pc < 33 then (if pc < 31 then (if pc < 28 then (if pc = 25 then some (.invokevirtual 187, 3) else none) else (if pc = 28 then some (.ifCond .eq 17, 3) else none)) else (if pc < 32 then (if pc = 31 then some (.iload_n 2, 1) else none) else (if pc = 32 then some (.iconst 1, 1) else none))) else (if pc < 37 then (if pc < 34 then (if pc = 33 then some (.aload_n 0, 1) else none) else (if pc = 34 then some (.getfield 36, 3) else none)) else (if pc < 40 then (if pc = 37 then some (.getfield 193, 3) else none) else (if pc = 40 then some (.iload_n 3, 1) else none)))) else (if pc < 45 then (if pc < 43 then (if pc < 42 then (if pc = 41 then some (.iaload, 1) else none) else (if pc = 42 then some (.ishl, 1) else none)) else (if pc < 44 then (if pc = 43 then some (.ior, 1) else none) else (if pc = 44 then some (.istore_n 2, 1) else none))) else (if pc < 51 then (if pc < 48 then (if pc = 45 then some (.iinc 3 1, 3) else none) else (if pc = 48 then some (.goto (-44), 3) else none)) else (if pc < 52 then (if pc = 51 then some (.iload_n 2, 1) else none) else (if pc = 52 then some (.ireturn, 1) else none)))))
set_option maxRecDepth 100000 in
theorem xo_85_c0 : ([0, 1, 2, 3, 4, 5, 7, 10, 11, 14, 17, 18, 19, 20, 23, 24, 25, 28, 31, 32, 33, 34, 37, 40, 41, 42, 43, 44, 45, 48, 51, 52] : List Nat).all (fun pc => match xo_85 pc with | none => true | some r => decide (decode cX5_racksWithoutPermit pc = .ok r)) = true := by decide +kernel
set_option maxRecDepth 100000 in
theorem xo_85_no : (List.range 53).all (fun pc => (xo_85 pc).isNone || (([0, 1, 2, 3, 4, 5, 7, 10, 11, 14, 17, 18, 19, 20, 23, 24, 25, 28, 31, 32, 33, 34, 37, 40, 41, 42, 43, 44, 45, 48, 51, 52] : List Nat).contains pc)) = true := by decide +kernel
theorem xo_85_top (pc : Nat) (h : 53 ≤ pc) : xo_85 pc = none := if_pos h
theorem xo_85_ok (pc : Nat) (r : Instr × Nat) (h : xo_85 pc = some r) : decode cX5_racksWithoutPermit pc = .ok r := by
  rcases Nat.lt_or_ge pc 53 with hl | hl
  · have h1 := List.all_eq_true.mp xo_85_no pc (List.mem_range.mpr hl)
    rw [h] at h1
    simp only [Option.isNone_some, Bool.false_or, Bool.or_eq_true, List.contains_iff_mem, or_assoc] at h1
    rcases h1 with h1
    · have h2 := List.all_eq_true.mp xo_85_c0 pc h1
      rw [h] at h2
      exact of_decide_eq_true h2
  · rw [show xo_85 pc = none from if_pos hl] at h; cases h
/-- X5_aboutShed -/
def xo_86 (pc : Nat) : Option (Instr × Nat) := if 102 ≤ pc then none else if pc < 70 then (if pc < 53 then (if pc < 48 then (if pc < 44 then (if pc < 1 then (if pc = 0 then some (.iload_n 2, 1) else none) else (if pc = 1 then some (.tableswitch 98 0 6 #[43, 50, 56, 65, 74, 83, 92], 43) else none)) else (if pc < 45 then (if pc = 44 then some (.aload_n 0, 1) else none) else (if pc = 45 then some (.getfield 23, 3) else none))) else (if pc < 50 then (if pc < 49 then (if pc = 48 then some (.iload_n 1, 1) else none) else (if pc = 49 then some (.iaload, 1) else none)) else (if pc < 51 then (if pc = 50 then some (.ireturn, 1) else none) else (if pc < 52 then (if pc = 51 then some (.aload_n 0, 1) else none) else (if pc = 52 then some (.iload_n 1, 1) else none))))) else (if pc < 61 then (if pc < 57 then (if pc < 56 then (if pc = 53 then some (.invokevirtual 88, 3) else none) else (if pc = 56 then some (.ireturn, 1) else none)) else (if pc < 58 then (if pc = 57 then some (.aload_n 0, 1) else none) else (if pc = 58 then some (.getfield 29, 3) else none))) else (if pc < 65 then (if pc < 62 then (if pc = 61 then some (.iload_n 1, 1) else none) else (if pc = 62 then some (.invokevirtual 84, 3) else none)) else (if pc < 66 then (if pc = 65 then some (.ireturn, 1) else none) else (if pc < 67 then (if pc = 66 then some (.aload_n 0, 1) else none) else (if pc = 67 then some (.getfield 29, 3) else none)))))) else (if pc < 85 then (if pc < 76 then (if pc < 74 then (if pc < 71 then (if pc = 70 then some (.iload_n 1, 1) else none) else (if pc = 71 then some (.invokevirtual 91, 3) else none)) else (if pc < 75 then (if pc = 74 then some (.ireturn, 1) else none) else (if pc = 75 then some (.aload_n 0, 1) else none))) else (if pc < 80 then (if pc < 79 then (if pc = 76 then some (.getfield 36, 3) else none) else (if pc = 79 then some (.iload_n 1, 1) else none)) else (if pc < 83 then (if pc = 80 then some (.invokevirtual 184, 3) else none) else (if pc < 84 then (if pc = 83 then some (.ireturn, 1) else none) else (if pc = 84 then some (.aload_n 0, 1) else none))))) else (if pc < 94 then (if pc < 89 then (if pc < 88 then (if pc = 85 then some (.getfield 36, 3) else none) else (if pc = 88 then some (.iload_n 1, 1) else none)) else (if pc < 92 then (if pc = 89 then some (.invokevirtual 199, 3) else none) else (if pc < 93 then (if pc = 92 then some (.ireturn, 1) else none) else (if pc = 93 then some (.aload_n 0, 1) else none)))) else (if pc < 98 then (if pc < 95 then (if pc = 94 then some (.iload_n 1, 1) else none) else (if pc = 95 then some (.invokevirtual 202, 3) else none)) else (if pc < 99 then (if pc = 98 then some (.ireturn, 1) else none) else (if pc < 101 then (if pc = 99 then some (.bipush (-2), 2) else none) else (if pc = 101 then some (.ireturn, 1) else none))))))
set_option maxRecDepth 100000 in
theorem xo_86_c0 : ([0, 1, 44, 45, 48, 49, 50, 51, 52, 53, 56, 57, 58, 61, 62, 65, 66, 67, 70, 71, 74, 75, 76, 79, 80, 83, 84, 85, 88, 89, 92, 93, 94, 95, 98, 99, 101] : List Nat).all (fun pc => match xo_86 pc with | none => true | some r => decide (decode cX5_aboutShed pc = .ok r)) = true := by decide +kernel
set_option maxRecDepth 100000 in
theorem xo_86_no : (List.range 102).all (fun pc => (xo_86 pc).isNone || (([0, 1, 44, 45, 48, 49, 50, 51, 52, 53, 56, 57, 58, 61, 62, 65, 66, 67, 70, 71, 74, 75, 76, 79, 80, 83, 84, 85, 88, 89, 92, 93, 94, 95, 98, 99, 101] : List Nat).contains pc)) = true := by decide +kernel
theorem xo_86_top (pc : Nat) (h : 102 ≤ pc) : xo_86 pc = none := if_pos h
theorem xo_86_ok (pc : Nat) (r : Instr × Nat) (h : xo_86 pc = some r) : decode cX5_aboutShed pc = .ok r := by
  rcases Nat.lt_or_ge pc 102 with hl | hl
  · have h1 := List.all_eq_true.mp xo_86_no pc (List.mem_range.mpr hl)
    rw [h] at h1
    simp only [Option.isNone_some, Bool.false_or, Bool.or_eq_true, List.contains_iff_mem, or_assoc] at h1
    rcases h1 with h1
    · have h2 := List.all_eq_true.mp xo_86_c0 pc h1
      rw [h] at h2
      exact of_decide_eq_true h2
  · rw [show xo_86 pc = none from if_pos hl] at h; cases h
/-- X5_aboutAll -/
def xo_87 (pc : Nat) : Option (Instr × Nat) := if 147 ≤ pc then none else if pc < 104 then (if pc < 81 then (if pc < 73 then (if pc < 68 then (if pc < 1 then (if pc = 0 then some (.iload_n 1, 1) else none) else (if pc = 1 then some (.tableswitch 143 0 12 #[67, 67, 67, 67, 74, 79, 87, 95, 103, 111, 119, 127, 135], 67) else none)) else (if pc < 69 then (if pc = 68 then some (.aload_n 0, 1) else none) else (if pc < 72 then (if pc = 69 then some (.getfield 18, 3) else none) else (if pc = 72 then some (.iload_n 1, 1) else none)))) else (if pc < 76 then (if pc < 74 then (if pc = 73 then some (.iaload, 1) else none) else (if pc < 75 then (if pc = 74 then some (.ireturn, 1) else none) else (if pc = 75 then some (.aload_n 0, 1) else none))) else (if pc < 79 then (if pc = 76 then some (.getfield 53, 3) else none) else (if pc < 80 then (if pc = 79 then some (.ireturn, 1) else none) else (if pc = 80 then some (.aload_n 0, 1) else none))))) else (if pc < 92 then (if pc < 87 then (if pc < 84 then (if pc = 81 then some (.getfield 29, 3) else none) else (if pc = 84 then some (.invokevirtual 205, 3) else none)) else (if pc < 88 then (if pc = 87 then some (.ireturn, 1) else none) else (if pc < 89 then (if pc = 88 then some (.aload_n 0, 1) else none) else (if pc = 89 then some (.getfield 29, 3) else none)))) else (if pc < 97 then (if pc < 95 then (if pc = 92 then some (.invokevirtual 209, 3) else none) else (if pc < 96 then (if pc = 95 then some (.ireturn, 1) else none) else (if pc = 96 then some (.aload_n 0, 1) else none))) else (if pc < 100 then (if pc = 97 then some (.getfield 36, 3) else none) else (if pc < 103 then (if pc = 100 then some (.invokevirtual 212, 3) else none) else (if pc = 103 then some (.ireturn, 1) else none)))))) else (if pc < 127 then (if pc < 113 then (if pc < 108 then (if pc < 105 then (if pc = 104 then some (.aload_n 0, 1) else none) else (if pc = 105 then some (.getfield 36, 3) else none)) else (if pc < 111 then (if pc = 108 then some (.invokevirtual 215, 3) else none) else (if pc < 112 then (if pc = 111 then some (.ireturn, 1) else none) else (if pc = 112 then some (.aload_n 0, 1) else none)))) else (if pc < 120 then (if pc < 116 then (if pc = 113 then some (.getfield 36, 3) else none) else (if pc < 119 then (if pc = 116 then some (.invokevirtual 218, 3) else none) else (if pc = 119 then some (.ireturn, 1) else none))) else (if pc < 121 then (if pc = 120 then some (.aload_n 0, 1) else none) else (if pc < 124 then (if pc = 121 then some (.getfield 36, 3) else none) else (if pc = 124 then some (.invokevirtual 221, 3) else none))))) else (if pc < 136 then (if pc < 129 then (if pc < 128 then (if pc = 127 then some (.ireturn, 1) else none) else (if pc = 128 then some (.aload_n 0, 1) else none)) else (if pc < 132 then (if pc = 129 then some (.getfield 36, 3) else none) else (if pc < 135 then (if pc = 132 then some (.getfield 224, 3) else none) else (if pc = 135 then some (.ireturn, 1) else none)))) else (if pc < 143 then (if pc < 137 then (if pc = 136 then some (.aload_n 0, 1) else none) else (if pc < 140 then (if pc = 137 then some (.getfield 29, 3) else none) else (if pc = 140 then some (.getfield 164, 3) else none))) else (if pc < 144 then (if pc = 143 then some (.ireturn, 1) else none) else (if pc < 146 then (if pc = 144 then some (.bipush (-2), 2) else none) else (if pc = 146 then some (.ireturn, 1) else none))))))
set_option maxRecDepth 100000 in
theorem xo_87_c0 : ([0, 1, 68, 69, 72, 73, 74, 75, 76, 79, 80, 81, 84, 87, 88, 89, 92, 95, 96, 97, 100, 103, 104, 105, 108, 111, 112, 113, 116, 119, 120, 121, 124, 127] : List Nat).all (fun pc => match xo_87 pc with | none => true | some r => decide (decode cX5_aboutAll pc = .ok r)) = true := by decide +kernel
set_option maxRecDepth 100000 in
theorem xo_87_c1 : ([128, 129, 132, 135, 136, 137, 140, 143, 144, 146] : List Nat).all (fun pc => match xo_87 pc with | none => true | some r => decide (decode cX5_aboutAll pc = .ok r)) = true := by decide +kernel
set_option maxRecDepth 100000 in
theorem xo_87_no : (List.range 147).all (fun pc => (xo_87 pc).isNone || (([0, 1, 68, 69, 72, 73, 74, 75, 76, 79, 80, 81, 84, 87, 88, 89, 92, 95, 96, 97, 100, 103, 104, 105, 108, 111, 112, 113, 116, 119, 120, 121, 124, 127] : List Nat).contains pc || ([128, 129, 132, 135, 136, 137, 140, 143, 144, 146] : List Nat).contains pc)) = true := by decide +kernel
theorem xo_87_top (pc : Nat) (h : 147 ≤ pc) : xo_87 pc = none := if_pos h
theorem xo_87_ok (pc : Nat) (r : Instr × Nat) (h : xo_87 pc = some r) : decode cX5_aboutAll pc = .ok r := by
  rcases Nat.lt_or_ge pc 147 with hl | hl
  · have h1 := List.all_eq_true.mp xo_87_no pc (List.mem_range.mpr hl)
    rw [h] at h1
    simp only [Option.isNone_some, Bool.false_or, Bool.or_eq_true, List.contains_iff_mem, or_assoc] at h1
    rcases h1 with h1 | h1
    · have h2 := List.all_eq_true.mp xo_87_c0 pc h1
      rw [h] at h2
      exact of_decide_eq_true h2
    · have h2 := List.all_eq_true.mp xo_87_c1 pc h1
      rw [h] at h2
      exact of_decide_eq_true h2
  · rw [show xo_87 pc = none from if_pos hl] at h; cases h
/-- X6_init -/
def xo_88 (pc : Nat) : Option (Instr × Nat) := if 68 ≤ pc then none else if pc < 34 then (if pc < 16 then (if pc < 8 then (if pc < 4 then (if pc < 1 then (if pc = 0 then some (.aload_n 0, 1) else none) else (if pc = 1 then some (.invokespecial 3, 3) else none)) else (if pc < 5 then (if pc = 4 then some (.aload_n 0, 1) else none) else (if pc = 5 then some (.new 9, 3) else none))) else (if pc < 12 then (if pc < 9 then (if pc = 8 then some (.dup, 1) else none) else (if pc = 9 then some (.invokespecial 11, 3) else none)) else (if pc < 15 then (if pc = 12 then some (.putfield 12, 3) else none) else (if pc = 15 then some (.aload_n 0, 1) else none)))) else (if pc < 26 then (if pc < 20 then (if pc < 19 then (if pc = 16 then some (.new 9, 3) else none) else (if pc = 19 then some (.dup, 1) else none)) else (if pc < 23 then (if pc = 20 then some (.invokespecial 11, 3) else none) else (if pc = 23 then some (.putfield 16, 3) else none))) else (if pc < 30 then (if pc < 27 then (if pc = 26 then some (.aload_n 0, 1) else none) else (if pc = 27 then some (.new 9, 3) else none)) else (if pc < 31 then (if pc = 30 then some (.dup, 1) else none) else (if pc = 31 then some (.invokespecial 11, 3) else none))))) else (if pc < 50 then (if pc < 42 then (if pc < 38 then (if pc < 37 then (if pc = 34 then some (.putfield 19, 3) else none) else (if pc = 37 then some (.aload_n 0, 1) else none)) else (if pc < 41 then (if pc = 38 then some (.new 22, 3) else none) else (if pc = 41 then some (.dup, 1) else none))) else (if pc < 48 then (if pc < 45 then (if pc = 42 then some (.invokespecial 24, 3) else none) else (if pc = 45 then some (.putfield 25, 3) else none)) else (if pc < 49 then (if pc = 48 then some (.aload_n 0, 1) else none) else (if pc = 49 then some (.iconst 2, 1) else none)))) else (if pc < 60 then (if pc < 56 then (if pc < 53 then (if pc = 50 then some (.anewarray 9, 3) else none) else (if pc = 53 then some (.putfield 29, 3) else none)) else (if pc < 57 then (if pc = 56 then some (.aload_n 0, 1) else none) else (if pc = 57 then some (.new 33, 3) else none))) else (if pc < 64 then (if pc < 61 then (if pc = 60 then some (.dup, 1) else none) else (if pc = 61 then some (.invokespecial 35, 3) else none)) else (if pc < 67 then (if pc = 64 then some (.putfield 36, 3) else none) else (if pc = 67 then some (.return_, 1) else none)))))
set_option maxRecDepth 100000 in
theorem xo_88_c0 : ([0, 1, 4, 5, 8, 9, 12, 15, 16, 19, 20, 23, 26, 27, 30, 31, 34, 37, 38, 41, 42, 45, 48, 49, 50, 53, 56, 57, 60, 61, 64, 67] : List Nat).all (fun pc => match xo_88 pc with | none => true | some r => decide (decode cX6_init pc = .ok r)) = true := by decide +kernel
set_option maxRecDepth 100000 in
theorem xo_88_no : (List.range 68).all (fun pc => (xo_88 pc).isNone || (([0, 1, 4, 5, 8, 9, 12, 15, 16, 19, 20, 23, 26, 27, 30, 31, 34, 37, 38, 41, 42, 45, 48, 49, 50, 53, 56, 57, 60, 61, 64, 67] : List Nat).contains pc)) = true := by decide +kernel
theorem xo_88_top (pc : Nat) (h : 68 ≤ pc) : xo_88 pc = none := if_pos h
theorem xo_88_ok (pc : Nat) (r : Instr × Nat) (h : xo_88 pc = some r) : decode cX6_init pc = .ok r := by
  rcases Nat.lt_or_ge pc 68 with hl | hl
  · have h1 := List.all_eq_true.mp xo_88_no pc (List.mem_range.mpr hl)
    rw [h] at h1
    simp only [Option.isNone_some, Bool.false_or, Bool.or_eq_true, List.contains_iff_mem, or_assoc] at h1
    rcases h1 with h1
    · have h2 := List.all_eq_true.mp xo_88_c0 pc h1
      rw [h] at h2
      exact of_decide_eq_true h2
  · rw [show xo_88 pc = none from if_pos hl] at h; cases h
/-- X6_recorded -/
def xo_89 (pc : Nat) : Option (Instr × Nat) := if 17 ≤ pc then none else if pc < 8 then (if pc < 4 then (if pc < 1 then (if pc = 0 then some (.iload_n 1, 1) else none) else (if pc = 1 then some (.ifCond .lt 14, 3) else none)) else (if pc < 5 then (if pc = 4 then some (.aload_n 0, 1) else none) else (if pc = 5 then some (.getfield 25, 3) else none))) else (if pc < 12 then (if pc < 9 then (if pc = 8 then some (.aload_n 0, 1) else none) else (if pc = 9 then some (.getfield 16, 3) else none)) else (if pc < 15 then (if pc = 12 then some (.invokevirtual 183, 3) else none) else (if pc < 16 then (if pc = 15 then some (.iload_n 1, 1) else none) else (if pc = 16 then some (.ireturn, 1) else none))))
set_option maxRecDepth 100000 in
theorem xo_89_c0 : ([0, 1, 4, 5, 8, 9, 12, 15, 16] : List Nat).all (fun pc => match xo_89 pc with | none => true | some r => decide (decode cX6_recorded pc = .ok r)) = true := by decide +kernel
set_option maxRecDepth 100000 in
theorem xo_89_no : (List.range 17).all (fun pc => (xo_89 pc).isNone || (([0, 1, 4, 5, 8, 9, 12, 15, 16] : List Nat).contains pc)) = true := by decide +kernel
theorem xo_89_top (pc : Nat) (h : 17 ≤ pc) : xo_89 pc = none := if_pos h
theorem xo_89_ok (pc : Nat) (r : Instr × Nat) (h : xo_89 pc = some r) : decode cX6_recorded pc = .ok r := by
  rcases Nat.lt_or_ge pc 17 with hl | hl
  · have h1 := List.all_eq_true.mp xo_89_no pc (List.mem_range.mpr hl)
    rw [h] at h1
    simp only [Option.isNone_some, Bool.false_or, Bool.or_eq_true, List.contains_iff_mem, or_assoc] at h1
    rcases h1 with h1
    · have h2 := List.all_eq_true.mp xo_89_c0 pc h1
      rw [h] at h2
      exact of_decide_eq_true h2
  · rw [show xo_89 pc = none from if_pos hl] at h; cases h
/-- X6_set -/
def xo_90 (pc : Nat) : Option (Instr × Nat) := if 25 ≤ pc then none else if pc < 12 then (if pc < 5 then (if pc < 1 then (if pc = 0 then some (.aload_n 0, 1) else none) else (if pc < 4 then (if pc = 1 then some (.getfield 16, 3) else none) else (if pc = 4 then some (.aload_n 0, 1) else none))) else (if pc < 8 then (if pc = 5 then some (.getfield 12, 3) else none) else (if pc < 11 then (if pc = 8 then some (.invokevirtual 40, 3) else none) else (if pc = 11 then some (.aload_n 0, 1) else none)))) else (if pc < 17 then (if pc < 13 then (if pc = 12 then some (.aload_n 0, 1) else none) else (if pc < 16 then (if pc = 13 then some (.getfield 12, 3) else none) else (if pc = 16 then some (.iload_n 1, 1) else none))) else (if pc < 21 then (if pc < 18 then (if pc = 17 then some (.iload_n 2, 1) else none) else (if pc = 18 then some (.invokevirtual 44, 3) else none)) else (if pc < 24 then (if pc = 21 then some (.invokevirtual 48, 3) else none) else (if pc = 24 then some (.ireturn, 1) else none))))
set_option maxRecDepth 100000 in
theorem xo_90_c0 : ([0, 1, 4, 5, 8, 11, 12, 13, 16, 17, 18, 21, 24] : List Nat).all (fun pc => match xo_90 pc with | none => true | some r => decide (decode cX6_set pc = .ok r)) = true := by decide +kernel
set_option maxRecDepth 100000 in
theorem xo_90_no : (List.range 25).all (fun pc => (xo_90 pc).isNone || (([0, 1, 4, 5, 8, 11, 12, 13, 16, 17, 18, 21, 24] : List Nat).contains pc)) = true := by decide +kernel
theorem xo_90_top (pc : Nat) (h : 25 ≤ pc) : xo_90 pc = none := if_pos h
theorem xo_90_ok (pc : Nat) (r : Instr × Nat) (h : xo_90 pc = some r) : decode cX6_set pc = .ok r := by
  rcases Nat.lt_or_ge pc 25 with hl | hl
  · have h1 := List.all_eq_true.mp xo_90_no pc (List.mem_range.mpr hl)
    rw [h] at h1
    simp only [Option.isNone_some, Bool.false_or, Bool.or_eq_true, List.contains_iff_mem, or_assoc] at h1
    rcases h1 with h1
    · have h2 := List.all_eq_true.mp xo_90_c0 pc h1
      rw [h] at h2
      exact of_decide_eq_true h2
  · rw [show xo_90 pc = none from if_pos hl] at h; cases h
/-- X6_ask -/
def xo_91 (pc : Nat) : Option (Instr × Nat) := if 26 ≤ pc then none else if pc < 13 then (if pc < 5 then (if pc < 1 then (if pc = 0 then some (.aload_n 0, 1) else none) else (if pc < 4 then (if pc = 1 then some (.getfield 16, 3) else none) else (if pc = 4 then some (.aload_n 0, 1) else none))) else (if pc < 11 then (if pc < 8 then (if pc = 5 then some (.getfield 12, 3) else none) else (if pc = 8 then some (.invokevirtual 40, 3) else none)) else (if pc < 12 then (if pc = 11 then some (.aload_n 0, 1) else none) else (if pc = 12 then some (.aload_n 0, 1) else none)))) else (if pc < 18 then (if pc < 16 then (if pc = 13 then some (.getfield 12, 3) else none) else (if pc < 17 then (if pc = 16 then some (.iload_n 1, 1) else none) else (if pc = 17 then some (.iload_n 2, 1) else none))) else (if pc < 22 then (if pc < 19 then (if pc = 18 then some (.iload_n 3, 1) else none) else (if pc = 19 then some (.invokevirtual 52, 3) else none)) else (if pc < 25 then (if pc = 22 then some (.invokevirtual 48, 3) else none) else (if pc = 25 then some (.ireturn, 1) else none))))
set_option maxRecDepth 100000 in
theorem xo_91_c0 : ([0, 1, 4, 5, 8, 11, 12, 13, 16, 17, 18, 19, 22, 25] : List Nat).all (fun pc => match xo_91 pc with | none => true | some r => decide (decode cX6_ask pc = .ok r)) = true := by decide +kernel
set_option maxRecDepth 100000 in
theorem xo_91_no : (List.range 26).all (fun pc => (xo_91 pc).isNone || (([0, 1, 4, 5, 8, 11, 12, 13, 16, 17, 18, 19, 22, 25] : List Nat).contains pc)) = true := by decide +kernel
theorem xo_91_top (pc : Nat) (h : 26 ≤ pc) : xo_91 pc = none := if_pos h
theorem xo_91_ok (pc : Nat) (r : Instr × Nat) (h : xo_91 pc = some r) : decode cX6_ask pc = .ok r := by
  rcases Nat.lt_or_ge pc 26 with hl | hl
  · have h1 := List.all_eq_true.mp xo_91_no pc (List.mem_range.mpr hl)
    rw [h] at h1
    simp only [Option.isNone_some, Bool.false_or, Bool.or_eq_true, List.contains_iff_mem, or_assoc] at h1
    rcases h1 with h1
    · have h2 := List.all_eq_true.mp xo_91_c0 pc h1
      rw [h] at h2
      exact of_decide_eq_true h2
  · rw [show xo_91 pc = none from if_pos hl] at h; cases h
/-- X6_giveUp -/
def xo_92 (pc : Nat) : Option (Instr × Nat) := if 24 ≤ pc then none else if pc < 12 then (if pc < 5 then (if pc < 1 then (if pc = 0 then some (.aload_n 0, 1) else none) else (if pc < 4 then (if pc = 1 then some (.getfield 16, 3) else none) else (if pc = 4 then some (.aload_n 0, 1) else none))) else (if pc < 8 then (if pc = 5 then some (.getfield 12, 3) else none) else (if pc < 11 then (if pc = 8 then some (.invokevirtual 40, 3) else none) else (if pc = 11 then some (.aload_n 0, 1) else none)))) else (if pc < 17 then (if pc < 13 then (if pc = 12 then some (.aload_n 0, 1) else none) else (if pc < 16 then (if pc = 13 then some (.getfield 12, 3) else none) else (if pc = 16 then some (.iload_n 1, 1) else none))) else (if pc < 20 then (if pc = 17 then some (.invokevirtual 56, 3) else none) else (if pc < 23 then (if pc = 20 then some (.invokevirtual 48, 3) else none) else (if pc = 23 then some (.ireturn, 1) else none))))
set_option maxRecDepth 100000 in
theorem xo_92_c0 : ([0, 1, 4, 5, 8, 11, 12, 13, 16, 17, 20, 23] : List Nat).all (fun pc => match xo_92 pc with | none => true | some r => decide (decode cX6_giveUp pc = .ok r)) = true := by decide +kernel
set_option maxRecDepth 100000 in
theorem xo_92_no : (List.range 24).all (fun pc => (xo_92 pc).isNone || (([0, 1, 4, 5, 8, 11, 12, 13, 16, 17, 20, 23] : List Nat).contains pc)) = true := by decide +kernel
theorem xo_92_top (pc : Nat) (h : 24 ≤ pc) : xo_92 pc = none := if_pos h
theorem xo_92_ok (pc : Nat) (r : Instr × Nat) (h : xo_92 pc = some r) : decode cX6_giveUp pc = .ok r := by
  rcases Nat.lt_or_ge pc 24 with hl | hl
  · have h1 := List.all_eq_true.mp xo_92_no pc (List.mem_range.mpr hl)
    rw [h] at h1
    simp only [Option.isNone_some, Bool.false_or, Bool.or_eq_true, List.contains_iff_mem, or_assoc] at h1
    rcases h1 with h1
    · have h2 := List.all_eq_true.mp xo_92_c0 pc h1
      rw [h] at h2
      exact of_decide_eq_true h2
  · rw [show xo_92 pc = none from if_pos hl] at h; cases h
/-- X6_prolong -/
def xo_93 (pc : Nat) : Option (Instr × Nat) := if 25 ≤ pc then none else if pc < 12 then (if pc < 5 then (if pc < 1 then (if pc = 0 then some (.aload_n 0, 1) else none) else (if pc < 4 then (if pc = 1 then some (.getfield 16, 3) else none) else (if pc = 4 then some (.aload_n 0, 1) else none))) else (if pc < 8 then (if pc = 5 then some (.getfield 12, 3) else none) else (if pc < 11 then (if pc = 8 then some (.invokevirtual 40, 3) else none) else (if pc = 11 then some (.aload_n 0, 1) else none)))) else (if pc < 17 then (if pc < 13 then (if pc = 12 then some (.aload_n 0, 1) else none) else (if pc < 16 then (if pc = 13 then some (.getfield 12, 3) else none) else (if pc = 16 then some (.iload_n 1, 1) else none))) else (if pc < 21 then (if pc < 18 then (if pc = 17 then some (.iload_n 2, 1) else none) else (if pc = 18 then some (.invokevirtual 59, 3) else none)) else (if pc < 24 then (if pc = 21 then some (.invokevirtual 48, 3) else none) else (if pc = 24 then some (.ireturn, 1) else none))))
set_option maxRecDepth 100000 in
theorem xo_93_c0 : ([0, 1, 4, 5, 8, 11, 12, 13, 16, 17, 18, 21, 24] : List Nat).all (fun pc => match xo_93 pc with | none => true | some r => decide (decode cX6_prolong pc = .ok r)) = true := by decide +kernel
set_option maxRecDepth 100000 in
theorem xo_93_no : (List.range 25).all (fun pc => (xo_93 pc).isNone || (([0, 1, 4, 5, 8, 11, 12, 13, 16, 17, 18, 21, 24] : List Nat).contains pc)) = true := by decide +kernel
theorem xo_93_top (pc : Nat) (h : 25 ≤ pc) : xo_93 pc = none := if_pos h
theorem xo_93_ok (pc : Nat) (r : Instr × Nat) (h : xo_93 pc = some r) : decode cX6_prolong pc = .ok r := by
  rcases Nat.lt_or_ge pc 25 with hl | hl
  · have h1 := List.all_eq_true.mp xo_93_no pc (List.mem_range.mpr hl)
    rw [h] at h1
    simp only [Option.isNone_some, Bool.false_or, Bool.or_eq_true, List.contains_iff_mem, or_assoc] at h1
    rcases h1 with h1
    · have h2 := List.all_eq_true.mp xo_93_c0 pc h1
      rw [h] at h2
      exact of_decide_eq_true h2
  · rw [show xo_93 pc = none from if_pos hl] at h; cases h
/-- X6_park -/
def xo_94 (pc : Nat) : Option (Instr × Nat) := if 24 ≤ pc then none else if pc < 12 then (if pc < 5 then (if pc < 1 then (if pc = 0 then some (.aload_n 0, 1) else none) else (if pc < 4 then (if pc = 1 then some (.getfield 16, 3) else none) else (if pc = 4 then some (.aload_n 0, 1) else none))) else (if pc < 8 then (if pc = 5 then some (.getfield 12, 3) else none) else (if pc < 11 then (if pc = 8 then some (.invokevirtual 40, 3) else none) else (if pc = 11 then some (.aload_n 0, 1) else none)))) else (if pc < 17 then (if pc < 13 then (if pc = 12 then some (.aload_n 0, 1) else none) else (if pc < 16 then (if pc = 13 then some (.getfield 12, 3) else none) else (if pc = 16 then some (.iload_n 1, 1) else none))) else (if pc < 20 then (if pc = 17 then some (.invokevirtual 62, 3) else none) else (if pc < 23 then (if pc = 20 then some (.invokevirtual 48, 3) else none) else (if pc = 23 then some (.ireturn, 1) else none))))
set_option maxRecDepth 100000 in
theorem xo_94_c0 : ([0, 1, 4, 5, 8, 11, 12, 13, 16, 17, 20, 23] : List Nat).all (fun pc => match xo_94 pc with | none => true | some r => decide (decode cX6_park pc = .ok r)) = true := by decide +kernel
set_option maxRecDepth 100000 in
theorem xo_94_no : (List.range 24).all (fun pc => (xo_94 pc).isNone || (([0, 1, 4, 5, 8, 11, 12, 13, 16, 17, 20, 23] : List Nat).contains pc)) = true := by decide +kernel
theorem xo_94_top (pc : Nat) (h : 24 ≤ pc) : xo_94 pc = none := if_pos h
theorem xo_94_ok (pc : Nat) (r : Instr × Nat) (h : xo_94 pc = some r) : decode cX6_park pc = .ok r := by
  rcases Nat.lt_or_ge pc 24 with hl | hl
  · have h1 := List.all_eq_true.mp xo_94_no pc (List.mem_range.mpr hl)
    rw [h] at h1
    simp only [Option.isNone_some, Bool.false_or, Bool.or_eq_true, List.contains_iff_mem, or_assoc] at h1
    rcases h1 with h1
    · have h2 := List.all_eq_true.mp xo_94_c0 pc h1
      rw [h] at h2
      exact of_decide_eq_true h2
  · rw [show xo_94 pc = none from if_pos hl] at h; cases h
/-- X6_ride -/
def xo_95 (pc : Nat) : Option (Instr × Nat) := if 24 ≤ pc then none else if pc < 12 then (if pc < 5 then (if pc < 1 then (if pc = 0 then some (.aload_n 0, 1) else none) else (if pc < 4 then (if pc = 1 then some (.getfield 16, 3) else none) else (if pc = 4 then some (.aload_n 0, 1) else none))) else (if pc < 8 then (if pc = 5 then some (.getfield 12, 3) else none) else (if pc < 11 then (if pc = 8 then some (.invokevirtual 40, 3) else none) else (if pc = 11 then some (.aload_n 0, 1) else none)))) else (if pc < 17 then (if pc < 13 then (if pc = 12 then some (.aload_n 0, 1) else none) else (if pc < 16 then (if pc = 13 then some (.getfield 12, 3) else none) else (if pc = 16 then some (.iload_n 1, 1) else none))) else (if pc < 20 then (if pc = 17 then some (.invokevirtual 65, 3) else none) else (if pc < 23 then (if pc = 20 then some (.invokevirtual 48, 3) else none) else (if pc = 23 then some (.ireturn, 1) else none))))
set_option maxRecDepth 100000 in
theorem xo_95_c0 : ([0, 1, 4, 5, 8, 11, 12, 13, 16, 17, 20, 23] : List Nat).all (fun pc => match xo_95 pc with | none => true | some r => decide (decode cX6_ride pc = .ok r)) = true := by decide +kernel
set_option maxRecDepth 100000 in
theorem xo_95_no : (List.range 24).all (fun pc => (xo_95 pc).isNone || (([0, 1, 4, 5, 8, 11, 12, 13, 16, 17, 20, 23] : List Nat).contains pc)) = true := by decide +kernel
theorem xo_95_top (pc : Nat) (h : 24 ≤ pc) : xo_95 pc = none := if_pos h
theorem xo_95_ok (pc : Nat) (r : Instr × Nat) (h : xo_95 pc = some r) : decode cX6_ride pc = .ok r := by
  rcases Nat.lt_or_ge pc 24 with hl | hl
  · have h1 := List.all_eq_true.mp xo_95_no pc (List.mem_range.mpr hl)
    rw [h] at h1
    simp only [Option.isNone_some, Bool.false_or, Bool.or_eq_true, List.contains_iff_mem, or_assoc] at h1
    rcases h1 with h1
    · have h2 := List.all_eq_true.mp xo_95_c0 pc h1
      rw [h] at h2
      exact of_decide_eq_true h2
  · rw [show xo_95 pc = none from if_pos hl] at h; cases h
/-- X6_answer -/
def xo_96 (pc : Nat) : Option (Instr × Nat) := if 24 ≤ pc then none else if pc < 12 then (if pc < 5 then (if pc < 1 then (if pc = 0 then some (.aload_n 0, 1) else none) else (if pc < 4 then (if pc = 1 then some (.getfield 16, 3) else none) else (if pc = 4 then some (.aload_n 0, 1) else none))) else (if pc < 8 then (if pc = 5 then some (.getfield 12, 3) else none) else (if pc < 11 then (if pc = 8 then some (.invokevirtual 40, 3) else none) else (if pc = 11 then some (.aload_n 0, 1) else none)))) else (if pc < 17 then (if pc < 13 then (if pc = 12 then some (.aload_n 0, 1) else none) else (if pc < 16 then (if pc = 13 then some (.getfield 12, 3) else none) else (if pc = 16 then some (.iload_n 1, 1) else none))) else (if pc < 20 then (if pc = 17 then some (.invokevirtual 68, 3) else none) else (if pc < 23 then (if pc = 20 then some (.invokevirtual 48, 3) else none) else (if pc = 23 then some (.ireturn, 1) else none))))
set_option maxRecDepth 100000 in
theorem xo_96_c0 : ([0, 1, 4, 5, 8, 11, 12, 13, 16, 17, 20, 23] : List Nat).all (fun pc => match xo_96 pc with | none => true | some r => decide (decode cX6_answer pc = .ok r)) = true := by decide +kernel
set_option maxRecDepth 100000 in
theorem xo_96_no : (List.range 24).all (fun pc => (xo_96 pc).isNone || (([0, 1, 4, 5, 8, 11, 12, 13, 16, 17, 20, 23] : List Nat).contains pc)) = true := by decide +kernel
theorem xo_96_top (pc : Nat) (h : 24 ≤ pc) : xo_96 pc = none := if_pos h
theorem xo_96_ok (pc : Nat) (r : Instr × Nat) (h : xo_96 pc = some r) : decode cX6_answer pc = .ok r := by
  rcases Nat.lt_or_ge pc 24 with hl | hl
  · have h1 := List.all_eq_true.mp xo_96_no pc (List.mem_range.mpr hl)
    rw [h] at h1
    simp only [Option.isNone_some, Bool.false_or, Bool.or_eq_true, List.contains_iff_mem, or_assoc] at h1
    rcases h1 with h1
    · have h2 := List.all_eq_true.mp xo_96_c0 pc h1
      rw [h] at h2
      exact of_decide_eq_true h2
  · rw [show xo_96 pc = none from if_pos hl] at h; cases h
/-- X6_fetch -/
def xo_97 (pc : Nat) : Option (Instr × Nat) := if 24 ≤ pc then none else if pc < 12 then (if pc < 5 then (if pc < 1 then (if pc = 0 then some (.aload_n 0, 1) else none) else (if pc < 4 then (if pc = 1 then some (.getfield 16, 3) else none) else (if pc = 4 then some (.aload_n 0, 1) else none))) else (if pc < 8 then (if pc = 5 then some (.getfield 12, 3) else none) else (if pc < 11 then (if pc = 8 then some (.invokevirtual 40, 3) else none) else (if pc = 11 then some (.aload_n 0, 1) else none)))) else (if pc < 17 then (if pc < 13 then (if pc = 12 then some (.aload_n 0, 1) else none) else (if pc < 16 then (if pc = 13 then some (.getfield 12, 3) else none) else (if pc = 16 then some (.iload_n 1, 1) else none))) else (if pc < 20 then (if pc = 17 then some (.invokevirtual 71, 3) else none) else (if pc < 23 then (if pc = 20 then some (.invokevirtual 48, 3) else none) else (if pc = 23 then some (.ireturn, 1) else none))))
set_option maxRecDepth 100000 in
theorem xo_97_c0 : ([0, 1, 4, 5, 8, 11, 12, 13, 16, 17, 20, 23] : List Nat).all (fun pc => match xo_97 pc with | none => true | some r => decide (decode cX6_fetch pc = .ok r)) = true := by decide +kernel
set_option maxRecDepth 100000 in
theorem xo_97_no : (List.range 24).all (fun pc => (xo_97 pc).isNone || (([0, 1, 4, 5, 8, 11, 12, 13, 16, 17, 20, 23] : List Nat).contains pc)) = true := by decide +kernel
theorem xo_97_top (pc : Nat) (h : 24 ≤ pc) : xo_97 pc = none := if_pos h
theorem xo_97_ok (pc : Nat) (r : Instr × Nat) (h : xo_97 pc = some r) : decode cX6_fetch pc = .ok r := by
  rcases Nat.lt_or_ge pc 24 with hl | hl
  · have h1 := List.all_eq_true.mp xo_97_no pc (List.mem_range.mpr hl)
    rw [h] at h1
    simp only [Option.isNone_some, Bool.false_or, Bool.or_eq_true, List.contains_iff_mem, or_assoc] at h1
    rcases h1 with h1
    · have h2 := List.all_eq_true.mp xo_97_c0 pc h1
      rw [h] at h2
      exact of_decide_eq_true h2
  · rw [show xo_97 pc = none from if_pos hl] at h; cases h
/-- X6_sweep -/
def xo_98 (pc : Nat) : Option (Instr × Nat) := if 24 ≤ pc then none else if pc < 12 then (if pc < 5 then (if pc < 1 then (if pc = 0 then some (.aload_n 0, 1) else none) else (if pc < 4 then (if pc = 1 then some (.getfield 16, 3) else none) else (if pc = 4 then some (.aload_n 0, 1) else none))) else (if pc < 8 then (if pc = 5 then some (.getfield 12, 3) else none) else (if pc < 11 then (if pc = 8 then some (.invokevirtual 40, 3) else none) else (if pc = 11 then some (.aload_n 0, 1) else none)))) else (if pc < 17 then (if pc < 13 then (if pc = 12 then some (.aload_n 0, 1) else none) else (if pc < 16 then (if pc = 13 then some (.getfield 12, 3) else none) else (if pc = 16 then some (.iload_n 1, 1) else none))) else (if pc < 20 then (if pc = 17 then some (.invokevirtual 74, 3) else none) else (if pc < 23 then (if pc = 20 then some (.invokevirtual 48, 3) else none) else (if pc = 23 then some (.ireturn, 1) else none))))
set_option maxRecDepth 100000 in
theorem xo_98_c0 : ([0, 1, 4, 5, 8, 11, 12, 13, 16, 17, 20, 23] : List Nat).all (fun pc => match xo_98 pc with | none => true | some r => decide (decode cX6_sweep pc = .ok r)) = true := by decide +kernel
set_option maxRecDepth 100000 in
theorem xo_98_no : (List.range 24).all (fun pc => (xo_98 pc).isNone || (([0, 1, 4, 5, 8, 11, 12, 13, 16, 17, 20, 23] : List Nat).contains pc)) = true := by decide +kernel
theorem xo_98_top (pc : Nat) (h : 24 ≤ pc) : xo_98 pc = none := if_pos h
theorem xo_98_ok (pc : Nat) (r : Instr × Nat) (h : xo_98 pc = some r) : decode cX6_sweep pc = .ok r := by
  rcases Nat.lt_or_ge pc 24 with hl | hl
  · have h1 := List.all_eq_true.mp xo_98_no pc (List.mem_range.mpr hl)
    rw [h] at h1
    simp only [Option.isNone_some, Bool.false_or, Bool.or_eq_true, List.contains_iff_mem, or_assoc] at h1
    rcases h1 with h1
    · have h2 := List.all_eq_true.mp xo_98_c0 pc h1
      rw [h] at h2
      exact of_decide_eq_true h2
  · rw [show xo_98 pc = none from if_pos hl] at h; cases h
/-- X6_use -/
def xo_99 (pc : Nat) : Option (Instr × Nat) := if 26 ≤ pc then none else if pc < 13 then (if pc < 5 then (if pc < 1 then (if pc = 0 then some (.aload_n 0, 1) else none) else (if pc < 4 then (if pc = 1 then some (.getfield 16, 3) else none) else (if pc = 4 then some (.aload_n 0, 1) else none))) else (if pc < 11 then (if pc < 8 then (if pc = 5 then some (.getfield 12, 3) else none) else (if pc = 8 then some (.invokevirtual 40, 3) else none)) else (if pc < 12 then (if pc = 11 then some (.aload_n 0, 1) else none) else (if pc = 12 then some (.aload_n 0, 1) else none)))) else (if pc < 18 then (if pc < 16 then (if pc = 13 then some (.getfield 12, 3) else none) else (if pc < 17 then (if pc = 16 then some (.iload_n 1, 1) else none) else (if pc = 17 then some (.iload_n 2, 1) else none))) else (if pc < 22 then (if pc < 19 then (if pc = 18 then some (.iload_n 3, 1) else none) else (if pc = 19 then some (.invokevirtual 77, 3) else none)) else (if pc < 25 then (if pc = 22 then some (.invokevirtual 48, 3) else none) else (if pc = 25 then some (.ireturn, 1) else none))))
set_option maxRecDepth 100000 in
theorem xo_99_c0 : ([0, 1, 4, 5, 8, 11, 12, 13, 16, 17, 18, 19, 22, 25] : List Nat).all (fun pc => match xo_99 pc with | none => true | some r => decide (decode cX6_use pc = .ok r)) = true := by decide +kernel
set_option maxRecDepth 100000 in
theorem xo_99_no : (List.range 26).all (fun pc => (xo_99 pc).isNone || (([0, 1, 4, 5, 8, 11, 12, 13, 16, 17, 18, 19, 22, 25] : List Nat).contains pc)) = true := by decide +kernel
theorem xo_99_top (pc : Nat) (h : 26 ≤ pc) : xo_99 pc = none := if_pos h
theorem xo_99_ok (pc : Nat) (r : Instr × Nat) (h : xo_99 pc = some r) : decode cX6_use pc = .ok r := by
  rcases Nat.lt_or_ge pc 26 with hl | hl
  · have h1 := List.all_eq_true.mp xo_99_no pc (List.mem_range.mpr hl)
    rw [h] at h1
    simp only [Option.isNone_some, Bool.false_or, Bool.or_eq_true, List.contains_iff_mem, or_assoc] at h1
    rcases h1 with h1
    · have h2 := List.all_eq_true.mp xo_99_c0 pc h1
      rw [h] at h2
      exact of_decide_eq_true h2
  · rw [show xo_99 pc = none from if_pos hl] at h; cases h
end
section
/-- X6_pass -/
def xo_100 (pc : Nat) : Option (Instr × Nat) := if 24 ≤ pc then none else if pc < 12 then (if pc < 5 then (if pc < 1 then (if pc = 0 then some (.aload_n 0, 1) else none) else (if pc < 4 then (if pc = 1 then some (.getfield 16, 3) else none) else (if pc = 4 then some (.aload_n 0, 1) else none))) else (if pc < 8 then (if pc = 5 then some (.getfield 12, 3) else none) else (if pc < 11 then (if pc = 8 then some (.invokevirtual 40, 3) else none) else (if pc = 11 then some (.aload_n 0, 1) else none)))) else (if pc < 17 then (if pc < 13 then (if pc = 12 then some (.aload_n 0, 1) else none) else (if pc < 16 then (if pc = 13 then some (.getfield 12, 3) else none) else (if pc = 16 then some (.iload_n 1, 1) else none))) else (if pc < 20 then (if pc = 17 then some (.invokevirtual 81, 3) else none) else (if pc < 23 then (if pc = 20 then some (.invokevirtual 48, 3) else none) else (if pc = 23 then some (.ireturn, 1) else none))))
set_option maxRecDepth 100000 in
theorem xo_100_c0 : ([0, 1, 4, 5, 8, 11, 12, 13, 16, 17, 20, 23] : List Nat).all (fun pc => match xo_100 pc with | none => true | some r => decide (decode cX6_pass pc = .ok r)) = true := by decide +kernel
set_option maxRecDepth 100000 in
theorem xo_100_no : (List.range 24).all (fun pc => (xo_100 pc).isNone || (([0, 1, 4, 5, 8, 11, 12, 13, 16, 17, 20, 23] : List Nat).contains pc)) = true := by decide +kernel
theorem xo_100_top (pc : Nat) (h : 24 ≤ pc) : xo_100 pc = none := if_pos h
theorem xo_100_ok (pc : Nat) (r : Instr × Nat) (h : xo_100 pc = some r) : decode cX6_pass pc = .ok r := by
  rcases Nat.lt_or_ge pc 24 with hl | hl
  · have h1 := List.all_eq_true.mp xo_100_no pc (List.mem_range.mpr hl)
    rw [h] at h1
    simp only [Option.isNone_some, Bool.false_or, Bool.or_eq_true, List.contains_iff_mem, or_assoc] at h1
    rcases h1 with h1
    · have h2 := List.all_eq_true.mp xo_100_c0 pc h1
      rw [h] at h2
      exact of_decide_eq_true h2
  · rw [show xo_100 pc = none from if_pos hl] at h; cases h
/-- X6_doDeed -/
def xo_101 (pc : Nat) : Option (Instr × Nat) := if 183 ≤ pc then none else if pc < 119 then (if pc < 86 then (if pc < 69 then (if pc < 7 then (if pc < 1 then (if pc = 0 then some (.aload_n 0, 1) else none) else (if pc < 4 then (if pc = 1 then some (.getfield 36, 3) else none) else (if pc = 4 then some (.getfield 186, 3) else none))) else (if pc < 65 then (if pc < 64 then (if pc = 7 then some (.lookupswitch 161 #[(63, 57), (97, 116), (102, 131), (112, 86), (114, 101), (115, 146)], 57) else none) else (if pc = 64 then some (.aload_n 0, 1) else none)) else (if pc < 68 then (if pc = 65 then some (.getfield 12, 3) else none) else (if pc = 68 then some (.aload_n 0, 1) else none)))) else (if pc < 76 then (if pc < 72 then (if pc = 69 then some (.getfield 36, 3) else none) else (if pc < 75 then (if pc = 72 then some (.getfield 189, 3) else none) else (if pc = 75 then some (.aload_n 0, 1) else none))) else (if pc < 82 then (if pc < 79 then (if pc = 76 then some (.getfield 36, 3) else none) else (if pc = 79 then some (.getfield 192, 3) else none)) else (if pc < 83 then (if pc = 82 then some (.aload_n 0, 1) else none) else (if pc = 83 then some (.getfield 36, 3) else none))))) else (if pc < 101 then (if pc < 93 then (if pc < 89 then (if pc = 86 then some (.getfield 195, 3) else none) else (if pc < 92 then (if pc = 89 then some (.invokevirtual 52, 3) else none) else (if pc = 92 then some (.ireturn, 1) else none))) else (if pc < 97 then (if pc < 94 then (if pc = 93 then some (.aload_n 0, 1) else none) else (if pc = 94 then some (.getfield 12, 3) else none)) else (if pc < 98 then (if pc = 97 then some (.aload_n 0, 1) else none) else (if pc = 98 then some (.getfield 36, 3) else none)))) else (if pc < 109 then (if pc < 107 then (if pc < 104 then (if pc = 101 then some (.getfield 189, 3) else none) else (if pc = 104 then some (.invokevirtual 62, 3) else none)) else (if pc < 108 then (if pc = 107 then some (.ireturn, 1) else none) else (if pc = 108 then some (.aload_n 0, 1) else none))) else (if pc < 113 then (if pc < 112 then (if pc = 109 then some (.getfield 12, 3) else none) else (if pc = 112 then some (.aload_n 0, 1) else none)) else (if pc < 116 then (if pc = 113 then some (.getfield 36, 3) else none) else (if pc = 116 then some (.getfield 189, 3) else none)))))) else (if pc < 152 then (if pc < 134 then (if pc < 124 then (if pc < 122 then (if pc = 119 then some (.invokevirtual 65, 3) else none) else (if pc < 123 then (if pc = 122 then some (.ireturn, 1) else none) else (if pc = 123 then some (.aload_n 0, 1) else none))) else (if pc < 128 then (if pc < 127 then (if pc = 124 then some (.getfield 12, 3) else none) else (if pc = 127 then some (.aload_n 0, 1) else none)) else (if pc < 131 then (if pc = 128 then some (.getfield 36, 3) else none) else (if pc = 131 then some (.getfield 189, 3) else none)))) else (if pc < 142 then (if pc < 138 then (if pc < 137 then (if pc = 134 then some (.invokevirtual 68, 3) else none) else (if pc = 137 then some (.ireturn, 1) else none)) else (if pc < 139 then (if pc = 138 then some (.aload_n 0, 1) else none) else (if pc = 139 then some (.getfield 12, 3) else none))) else (if pc < 146 then (if pc < 143 then (if pc = 142 then some (.aload_n 0, 1) else none) else (if pc = 143 then some (.getfield 36, 3) else none)) else (if pc < 149 then (if pc = 146 then some (.getfield 189, 3) else none) else (if pc = 149 then some (.invokevirtual 71, 3) else none))))) else (if pc < 167 then (if pc < 157 then (if pc < 153 then (if pc = 152 then some (.ireturn, 1) else none) else (if pc < 154 then (if pc = 153 then some (.aload_n 0, 1) else none) else (if pc = 154 then some (.getfield 12, 3) else none))) else (if pc < 161 then (if pc < 158 then (if pc = 157 then some (.aload_n 0, 1) else none) else (if pc = 158 then some (.getfield 36, 3) else none)) else (if pc < 164 then (if pc = 161 then some (.getfield 192, 3) else none) else (if pc = 164 then some (.invokevirtual 74, 3) else none)))) else (if pc < 173 then (if pc < 169 then (if pc < 168 then (if pc = 167 then some (.ireturn, 1) else none) else (if pc = 168 then some (.aload_n 0, 1) else none)) else (if pc < 172 then (if pc = 169 then some (.getfield 12, 3) else none) else (if pc = 172 then some (.aload_n 0, 1) else none))) else (if pc < 179 then (if pc < 176 then (if pc = 173 then some (.getfield 36, 3) else none) else (if pc = 176 then some (.getfield 195, 3) else none)) else (if pc < 182 then (if pc = 179 then some (.invokevirtual 81, 3) else none) else (if pc = 182 then some (.ireturn, 1) else none))))))
set_option maxRecDepth 100000 in
theorem xo_101_c0 : ([0, 1, 4, 7, 64, 65, 68, 69, 72, 75, 76, 79, 82, 83, 86, 89, 92, 93, 94, 97, 98, 101, 104, 107, 108, 109, 112] : List Nat).all (fun pc => match xo_101 pc with | none => true | some r => decide (decode cX6_doDeed pc = .ok r)) = true := by decide +kernel
set_option maxRecDepth 100000 in
theorem xo_101_c1 : ([113, 116, 119, 122, 123, 124, 127, 128, 131, 134, 137, 138, 139, 142, 143, 146, 149, 152, 153, 154, 157, 158, 161, 164, 167, 168, 169] : List Nat).all (fun pc => match xo_101 pc with | none => true | some r => decide (decode cX6_doDeed pc = .ok r)) = true := by decide +kernel
set_option maxRecDepth 100000 in
theorem xo_101_c2 : ([172, 173, 176, 179, 182] : List Nat).all (fun pc => match xo_101 pc with | none => true | some r => decide (decode cX6_doDeed pc = .ok r)) = true := by decide +kernel
set_option maxRecDepth 100000 in
theorem xo_101_no : (List.range 183).all (fun pc => (xo_101 pc).isNone || (([0, 1, 4, 7, 64, 65, 68, 69, 72, 75, 76, 79, 82, 83, 86, 89, 92, 93, 94, 97, 98, 101, 104, 107, 108, 109, 112] : List Nat).contains pc || ([113, 116, 119, 122, 123, 124, 127, 128, 131, 134, 137, 138, 139, 142, 143, 146, 149, 152, 153, 154, 157, 158, 161, 164, 167, 168, 169] : List Nat).contains pc || ([172, 173, 176, 179, 182] : List Nat).contains pc)) = true := by decide +kernel
theorem xo_101_top (pc : Nat) (h : 183 ≤ pc) : xo_101 pc = none := if_pos h
theorem xo_101_ok (pc : Nat) (r : Instr × Nat) (h : xo_101 pc = some r) : decode cX6_doDeed pc = .ok r := by
  rcases Nat.lt_or_ge pc 183 with hl | hl
  · have h1 := List.all_eq_true.mp xo_101_no pc (List.mem_range.mpr hl)
    rw [h] at h1
    simp only [Option.isNone_some, Bool.false_or, Bool.or_eq_true, List.contains_iff_mem, or_assoc] at h1
    rcases h1 with h1 | h1 | h1
    · have h2 := List.all_eq_true.mp xo_101_c0 pc h1
      rw [h] at h2
      exact of_decide_eq_true h2
    · have h2 := List.all_eq_true.mp xo_101_c1 pc h1
      rw [h] at h2
      exact of_decide_eq_true h2
    · have h2 := List.all_eq_true.mp xo_101_c2 pc h1
      rw [h] at h2
      exact of_decide_eq_true h2
  · rw [show xo_101 pc = none from if_pos hl] at h; cases h
/-- X6_run -/
def xo_102 (pc : Nat) : Option (Instr × Nat) := if 94 ≤ pc then none else if pc < 43 then (if pc < 23 then (if pc < 12 then (if pc < 4 then (if pc < 1 then (if pc = 0 then some (.aload_n 0, 1) else none) else (if pc = 1 then some (.getfield 36, 3) else none)) else (if pc < 7 then (if pc = 4 then some (.invokevirtual 84, 3) else none) else (if pc < 9 then (if pc = 7 then some (.bipush (-6), 2) else none) else (if pc = 9 then some (.if_icmp .eq 6, 3) else none)))) else (if pc < 16 then (if pc < 14 then (if pc = 12 then some (.bipush (-3), 2) else none) else (if pc < 15 then (if pc = 14 then some (.ireturn, 1) else none) else (if pc = 15 then some (.aload_n 0, 1) else none))) else (if pc < 19 then (if pc = 16 then some (.getfield 16, 3) else none) else (if pc < 20 then (if pc = 19 then some (.aload_n 0, 1) else none) else (if pc = 20 then some (.getfield 12, 3) else none))))) else (if pc < 34 then (if pc < 27 then (if pc < 26 then (if pc = 23 then some (.invokevirtual 40, 3) else none) else (if pc = 26 then some (.aload_n 0, 1) else none)) else (if pc < 30 then (if pc = 27 then some (.getfield 36, 3) else none) else (if pc < 33 then (if pc = 30 then some (.invokevirtual 88, 3) else none) else (if pc = 33 then some (.iconst 0, 1) else none)))) else (if pc < 37 then (if pc < 35 then (if pc = 34 then some (.istore_n 1, 1) else none) else (if pc < 36 then (if pc = 35 then some (.iconst 0, 1) else none) else (if pc = 36 then some (.istore_n 2, 1) else none))) else (if pc < 38 then (if pc = 37 then some (.iload_n 2, 1) else none) else (if pc < 40 then (if pc = 38 then some (.bipush 60, 2) else none) else (if pc = 40 then some (.if_icmp .ge 37, 3) else none)))))) else (if pc < 70 then (if pc < 54 then (if pc < 47 then (if pc < 44 then (if pc = 43 then some (.aload_n 0, 1) else none) else (if pc = 44 then some (.getfield 36, 3) else none)) else (if pc < 50 then (if pc = 47 then some (.invokevirtual 91, 3) else none) else (if pc < 53 then (if pc = 50 then some (.ifCond .eq 27, 3) else none) else (if pc = 53 then some (.aload_n 0, 1) else none)))) else (if pc < 63 then (if pc < 57 then (if pc = 54 then some (.invokevirtual 95, 3) else none) else (if pc < 60 then (if pc = 57 then some (.ifCond .lt 6, 3) else none) else (if pc = 60 then some (.iinc 1 1, 3) else none))) else (if pc < 64 then (if pc = 63 then some (.aload_n 0, 1) else none) else (if pc < 67 then (if pc = 64 then some (.getfield 36, 3) else none) else (if pc = 67 then some (.invokevirtual 98, 3) else none))))) else (if pc < 84 then (if pc < 77 then (if pc < 71 then (if pc = 70 then some (.pop, 1) else none) else (if pc < 74 then (if pc = 71 then some (.iinc 2 1, 3) else none) else (if pc = 74 then some (.goto (-37), 3) else none))) else (if pc < 78 then (if pc = 77 then some (.aload_n 0, 1) else none) else (if pc < 81 then (if pc = 78 then some (.getfield 36, 3) else none) else (if pc = 81 then some (.getfield 101, 3) else none)))) else (if pc < 89 then (if pc < 87 then (if pc = 84 then some (.invokevirtual 105, 3) else none) else (if pc < 88 then (if pc = 87 then some (.pop, 1) else none) else (if pc = 88 then some (.aload_n 0, 1) else none))) else (if pc < 90 then (if pc = 89 then some (.iload_n 1, 1) else none) else (if pc < 93 then (if pc = 90 then some (.invokevirtual 48, 3) else none) else (if pc = 93 then some (.ireturn, 1) else none))))))
set_option maxRecDepth 100000 in
theorem xo_102_c0 : ([0, 1, 4, 7, 9, 12, 14, 15, 16, 19, 20, 23, 26, 27, 30, 33, 34, 35, 36, 37, 38, 40, 43, 44, 47, 50, 53, 54, 57, 60, 63, 64, 67, 70, 71, 74, 77, 78, 81, 84, 87, 88, 89, 90, 93] : List Nat).all (fun pc => match xo_102 pc with | none => true | some r => decide (decode cX6_run pc = .ok r)) = true := by decide +kernel
set_option maxRecDepth 100000 in
theorem xo_102_no : (List.range 94).all (fun pc => (xo_102 pc).isNone || (([0, 1, 4, 7, 9, 12, 14, 15, 16, 19, 20, 23, 26, 27, 30, 33, 34, 35, 36, 37, 38, 40, 43, 44, 47, 50, 53, 54, 57, 60, 63, 64, 67, 70, 71, 74, 77, 78, 81, 84, 87, 88, 89, 90, 93] : List Nat).contains pc)) = true := by decide +kernel
theorem xo_102_top (pc : Nat) (h : 94 ≤ pc) : xo_102 pc = none := if_pos h
theorem xo_102_ok (pc : Nat) (r : Instr × Nat) (h : xo_102 pc = some r) : decode cX6_run pc = .ok r := by
  rcases Nat.lt_or_ge pc 94 with hl | hl
  · have h1 := List.all_eq_true.mp xo_102_no pc (List.mem_range.mpr hl)
    rw [h] at h1
    simp only [Option.isNone_some, Bool.false_or, Bool.or_eq_true, List.contains_iff_mem, or_assoc] at h1
    rcases h1 with h1
    · have h2 := List.all_eq_true.mp xo_102_c0 pc h1
      rw [h] at h2
      exact of_decide_eq_true h2
  · rw [show xo_102 pc = none from if_pos hl] at h; cases h
/-- X6_person -/
def xo_103 (pc : Nat) : Option (Instr × Nat) := if 19 ≤ pc then none else if pc < 9 then (if pc < 4 then (if pc < 1 then (if pc = 0 then some (.iload_n 1, 1) else none) else (if pc = 1 then some (.invokestatic 110, 3) else none)) else (if pc < 7 then (if pc = 4 then some (.ifCond .ne 5, 3) else none) else (if pc < 8 then (if pc = 7 then some (.iconst (-1), 1) else none) else (if pc = 8 then some (.ireturn, 1) else none)))) else (if pc < 14 then (if pc < 10 then (if pc = 9 then some (.aload_n 0, 1) else none) else (if pc < 13 then (if pc = 10 then some (.getfield 12, 3) else none) else (if pc = 13 then some (.iload_n 1, 1) else none))) else (if pc < 15 then (if pc = 14 then some (.iload_n 2, 1) else none) else (if pc < 18 then (if pc = 15 then some (.invokevirtual 114, 3) else none) else (if pc = 18 then some (.ireturn, 1) else none))))
set_option maxRecDepth 100000 in
theorem xo_103_c0 : ([0, 1, 4, 7, 8, 9, 10, 13, 14, 15, 18] : List Nat).all (fun pc => match xo_103 pc with | none => true | some r => decide (decode cX6_person pc = .ok r)) = true := by decide +kernel
set_option maxRecDepth 100000 in
theorem xo_103_no : (List.range 19).all (fun pc => (xo_103 pc).isNone || (([0, 1, 4, 7, 8, 9, 10, 13, 14, 15, 18] : List Nat).contains pc)) = true := by decide +kernel
theorem xo_103_top (pc : Nat) (h : 19 ≤ pc) : xo_103 pc = none := if_pos h
theorem xo_103_ok (pc : Nat) (r : Instr × Nat) (h : xo_103 pc = some r) : decode cX6_person pc = .ok r := by
  rcases Nat.lt_or_ge pc 19 with hl | hl
  · have h1 := List.all_eq_true.mp xo_103_no pc (List.mem_range.mpr hl)
    rw [h] at h1
    simp only [Option.isNone_some, Bool.false_or, Bool.or_eq_true, List.contains_iff_mem, or_assoc] at h1
    rcases h1 with h1
    · have h2 := List.all_eq_true.mp xo_103_c0 pc h1
      rw [h] at h2
      exact of_decide_eq_true h2
  · rw [show xo_103 pc = none from if_pos hl] at h; cases h
/-- X6_shed -/
def xo_104 (pc : Nat) : Option (Instr × Nat) := if 19 ≤ pc then none else if pc < 9 then (if pc < 4 then (if pc < 1 then (if pc = 0 then some (.iload_n 1, 1) else none) else (if pc = 1 then some (.invokestatic 117, 3) else none)) else (if pc < 7 then (if pc = 4 then some (.ifCond .ne 5, 3) else none) else (if pc < 8 then (if pc = 7 then some (.iconst (-1), 1) else none) else (if pc = 8 then some (.ireturn, 1) else none)))) else (if pc < 14 then (if pc < 10 then (if pc = 9 then some (.aload_n 0, 1) else none) else (if pc < 13 then (if pc = 10 then some (.getfield 12, 3) else none) else (if pc = 13 then some (.iload_n 1, 1) else none))) else (if pc < 15 then (if pc = 14 then some (.iload_n 2, 1) else none) else (if pc < 18 then (if pc = 15 then some (.invokevirtual 120, 3) else none) else (if pc = 18 then some (.ireturn, 1) else none))))
set_option maxRecDepth 100000 in
theorem xo_104_c0 : ([0, 1, 4, 7, 8, 9, 10, 13, 14, 15, 18] : List Nat).all (fun pc => match xo_104 pc with | none => true | some r => decide (decode cX6_shed pc = .ok r)) = true := by decide +kernel
set_option maxRecDepth 100000 in
theorem xo_104_no : (List.range 19).all (fun pc => (xo_104 pc).isNone || (([0, 1, 4, 7, 8, 9, 10, 13, 14, 15, 18] : List Nat).contains pc)) = true := by decide +kernel
theorem xo_104_top (pc : Nat) (h : 19 ≤ pc) : xo_104 pc = none := if_pos h
theorem xo_104_ok (pc : Nat) (r : Instr × Nat) (h : xo_104 pc = some r) : decode cX6_shed pc = .ok r := by
  rcases Nat.lt_or_ge pc 19 with hl | hl
  · have h1 := List.all_eq_true.mp xo_104_no pc (List.mem_range.mpr hl)
    rw [h] at h1
    simp only [Option.isNone_some, Bool.false_or, Bool.or_eq_true, List.contains_iff_mem, or_assoc] at h1
    rcases h1 with h1
    · have h2 := List.all_eq_true.mp xo_104_c0 pc h1
      rw [h] at h2
      exact of_decide_eq_true h2
  · rw [show xo_104 pc = none from if_pos hl] at h; cases h
/-- X6_waiting -/
def xo_105 (pc : Nat) : Option (Instr × Nat) := if 23 ≤ pc then none else if pc < 10 then (if pc < 7 then (if pc < 1 then (if pc = 0 then some (.iload_n 1, 1) else none) else (if pc < 4 then (if pc = 1 then some (.invokestatic 117, 3) else none) else (if pc = 4 then some (.ifCond .ne 5, 3) else none))) else (if pc < 8 then (if pc = 7 then some (.iconst (-1), 1) else none) else (if pc < 9 then (if pc = 8 then some (.ireturn, 1) else none) else (if pc = 9 then some (.aload_n 0, 1) else none)))) else (if pc < 17 then (if pc < 13 then (if pc = 10 then some (.getfield 12, 3) else none) else (if pc < 16 then (if pc = 13 then some (.getfield 123, 3) else none) else (if pc = 16 then some (.iload_n 1, 1) else none))) else (if pc < 19 then (if pc < 18 then (if pc = 17 then some (.iload_n 2, 1) else none) else (if pc = 18 then some (.iload_n 3, 1) else none)) else (if pc < 22 then (if pc = 19 then some (.invokevirtual 127, 3) else none) else (if pc = 22 then some (.ireturn, 1) else none))))
set_option maxRecDepth 100000 in
theorem xo_105_c0 : ([0, 1, 4, 7, 8, 9, 10, 13, 16, 17, 18, 19, 22] : List Nat).all (fun pc => match xo_105 pc with | none => true | some r => decide (decode cX6_waiting pc = .ok r)) = true := by decide +kernel
set_option maxRecDepth 100000 in
theorem xo_105_no : (List.range 23).all (fun pc => (xo_105 pc).isNone || (([0, 1, 4, 7, 8, 9, 10, 13, 16, 17, 18, 19, 22] : List Nat).contains pc)) = true := by decide +kernel
theorem xo_105_top (pc : Nat) (h : 23 ≤ pc) : xo_105 pc = none := if_pos h
theorem xo_105_ok (pc : Nat) (r : Instr × Nat) (h : xo_105 pc = some r) : decode cX6_waiting pc = .ok r := by
  rcases Nat.lt_or_ge pc 23 with hl | hl
  · have h1 := List.all_eq_true.mp xo_105_no pc (List.mem_range.mpr hl)
    rw [h] at h1
    simp only [Option.isNone_some, Bool.false_or, Bool.or_eq_true, List.contains_iff_mem, or_assoc] at h1
    rcases h1 with h1
    · have h2 := List.all_eq_true.mp xo_105_c0 pc h1
      rw [h] at h2
      exact of_decide_eq_true h2
  · rw [show xo_105 pc = none from if_pos hl] at h; cases h
/-- X6_count -/
def xo_106 (pc : Nat) : Option (Instr × Nat) := if 56 ≤ pc then none else if pc < 40 then (if pc < 32 then (if pc < 28 then (if pc < 1 then (if pc = 0 then some (.iload_n 1, 1) else none) else (if pc = 1 then some (.lookupswitch 46 #[(13, 27), (14, 38)], 27) else none)) else (if pc < 29 then (if pc = 28 then some (.aload_n 0, 1) else none) else (if pc = 29 then some (.getfield 36, 3) else none))) else (if pc < 38 then (if pc < 35 then (if pc = 32 then some (.getfield 101, 3) else none) else (if pc = 35 then some (.getfield 132, 3) else none)) else (if pc < 39 then (if pc = 38 then some (.ireturn, 1) else none) else (if pc = 39 then some (.aload_n 0, 1) else none)))) else (if pc < 48 then (if pc < 46 then (if pc < 43 then (if pc = 40 then some (.getfield 25, 3) else none) else (if pc = 43 then some (.getfield 136, 3) else none)) else (if pc < 47 then (if pc = 46 then some (.ireturn, 1) else none) else (if pc = 47 then some (.aload_n 0, 1) else none))) else (if pc < 52 then (if pc < 51 then (if pc = 48 then some (.getfield 12, 3) else none) else (if pc = 51 then some (.iload_n 1, 1) else none)) else (if pc < 55 then (if pc = 52 then some (.invokevirtual 137, 3) else none) else (if pc = 55 then some (.ireturn, 1) else none))))
set_option maxRecDepth 100000 in
theorem xo_106_c0 : ([0, 1, 28, 29, 32, 35, 38, 39, 40, 43, 46, 47, 48, 51, 52, 55] : List Nat).all (fun pc => match xo_106 pc with | none => true | some r => decide (decode cX6_count pc = .ok r)) = true := by decide +kernel
set_option maxRecDepth 100000 in
theorem xo_106_no : (List.range 56).all (fun pc => (xo_106 pc).isNone || (([0, 1, 28, 29, 32, 35, 38, 39, 40, 43, 46, 47, 48, 51, 52, 55] : List Nat).contains pc)) = true := by decide +kernel
theorem xo_106_top (pc : Nat) (h : 56 ≤ pc) : xo_106 pc = none := if_pos h
theorem xo_106_ok (pc : Nat) (r : Instr × Nat) (h : xo_106 pc = some r) : decode cX6_count pc = .ok r := by
  rcases Nat.lt_or_ge pc 56 with hl | hl
  · have h1 := List.all_eq_true.mp xo_106_no pc (List.mem_range.mpr hl)
    rw [h] at h1
    simp only [Option.isNone_some, Bool.false_or, Bool.or_eq_true, List.contains_iff_mem, or_assoc] at h1
    rcases h1 with h1
    · have h2 := List.all_eq_true.mp xo_106_c0 pc h1
      rw [h] at h2
      exact of_decide_eq_true h2
  · rw [show xo_106 pc = none from if_pos hl] at h; cases h
/-- X6_untilPermit -/
def xo_107 (pc : Nat) : Option (Instr × Nat) := if 46 ≤ pc then none else if pc < 23 then (if pc < 9 then (if pc < 4 then (if pc < 1 then (if pc = 0 then some (.iload_n 1, 1) else none) else (if pc = 1 then some (.invokestatic 110, 3) else none)) else (if pc < 7 then (if pc = 4 then some (.ifCond .ne 5, 3) else none) else (if pc < 8 then (if pc = 7 then some (.iconst (-1), 1) else none) else (if pc = 8 then some (.ireturn, 1) else none)))) else (if pc < 16 then (if pc < 10 then (if pc = 9 then some (.aload_n 0, 1) else none) else (if pc < 13 then (if pc = 10 then some (.getfield 12, 3) else none) else (if pc = 13 then some (.getfield 123, 3) else none))) else (if pc < 17 then (if pc = 16 then some (.iload_n 1, 1) else none) else (if pc < 20 then (if pc = 17 then some (.invokevirtual 140, 3) else none) else (if pc = 20 then some (.ifCond .ne 6, 3) else none))))) else (if pc < 34 then (if pc < 27 then (if pc < 25 then (if pc = 23 then some (.bipush (-5), 2) else none) else (if pc < 26 then (if pc = 25 then some (.ireturn, 1) else none) else (if pc = 26 then some (.aload_n 0, 1) else none))) else (if pc < 30 then (if pc = 27 then some (.getfield 19, 3) else none) else (if pc < 31 then (if pc = 30 then some (.aload_n 0, 1) else none) else (if pc = 31 then some (.getfield 12, 3) else none)))) else (if pc < 41 then (if pc < 37 then (if pc = 34 then some (.invokevirtual 40, 3) else none) else (if pc < 38 then (if pc = 37 then some (.aload_n 0, 1) else none) else (if pc = 38 then some (.getfield 19, 3) else none))) else (if pc < 42 then (if pc = 41 then some (.iload_n 1, 1) else none) else (if pc < 45 then (if pc = 42 then some (.invokevirtual 143, 3) else none) else (if pc = 45 then some (.ireturn, 1) else none)))))
set_option maxRecDepth 100000 in
theorem xo_107_c0 : ([0, 1, 4, 7, 8, 9, 10, 13, 16, 17, 20, 23, 25, 26, 27, 30, 31, 34, 37, 38, 41, 42, 45] : List Nat).all (fun pc => match xo_107 pc with | none => true | some r => decide (decode cX6_untilPermit pc = .ok r)) = true := by decide +kernel
set_option maxRecDepth 100000 in
theorem xo_107_no : (List.range 46).all (fun pc => (xo_107 pc).isNone || (([0, 1, 4, 7, 8, 9, 10, 13, 16, 17, 20, 23, 25, 26, 27, 30, 31, 34, 37, 38, 41, 42, 45] : List Nat).contains pc)) = true := by decide +kernel
theorem xo_107_top (pc : Nat) (h : 46 ≤ pc) : xo_107 pc = none := if_pos h
theorem xo_107_ok (pc : Nat) (r : Instr × Nat) (h : xo_107 pc = some r) : decode cX6_untilPermit pc = .ok r := by
  rcases Nat.lt_or_ge pc 46 with hl | hl
  · have h1 := List.all_eq_true.mp xo_107_no pc (List.mem_range.mpr hl)
    rw [h] at h1
    simp only [Option.isNone_some, Bool.false_or, Bool.or_eq_true, List.contains_iff_mem, or_assoc] at h1
    rcases h1 with h1
    · have h2 := List.all_eq_true.mp xo_107_c0 pc h1
      rw [h] at h2
      exact of_decide_eq_true h2
  · rw [show xo_107 pc = none from if_pos hl] at h; cases h
/-- X6_daysToWaitFor -/
def xo_108 (pc : Nat) : Option (Instr × Nat) := if 41 ≤ pc then none else if pc < 18 then (if pc < 11 then (if pc < 4 then (if pc < 1 then (if pc = 0 then some (.aload_n 0, 1) else none) else (if pc = 1 then some (.getfield 19, 3) else none)) else (if pc < 5 then (if pc = 4 then some (.aload_n 0, 1) else none) else (if pc < 8 then (if pc = 5 then some (.getfield 12, 3) else none) else (if pc = 8 then some (.invokevirtual 40, 3) else none)))) else (if pc < 15 then (if pc < 12 then (if pc = 11 then some (.aload_n 0, 1) else none) else (if pc = 12 then some (.getfield 19, 3) else none)) else (if pc < 16 then (if pc = 15 then some (.iload_n 1, 1) else none) else (if pc < 17 then (if pc = 16 then some (.iload_n 2, 1) else none) else (if pc = 17 then some (.iload_n 3, 1) else none))))) else (if pc < 29 then (if pc < 23 then (if pc < 21 then (if pc = 18 then some (.invokevirtual 52, 3) else none) else (if pc = 21 then some (.istore 4, 2) else none)) else (if pc < 25 then (if pc = 23 then some (.iload 4, 2) else none) else (if pc < 28 then (if pc = 25 then some (.ifCond .ne 7, 3) else none) else (if pc = 28 then some (.iconst 0, 1) else none)))) else (if pc < 36 then (if pc < 32 then (if pc = 29 then some (.goto 11, 3) else none) else (if pc < 33 then (if pc = 32 then some (.aload_n 0, 1) else none) else (if pc = 33 then some (.getfield 19, 3) else none))) else (if pc < 37 then (if pc = 36 then some (.iload_n 1, 1) else none) else (if pc < 40 then (if pc = 37 then some (.invokevirtual 143, 3) else none) else (if pc = 40 then some (.ireturn, 1) else none)))))
set_option maxRecDepth 100000 in
theorem xo_108_c0 : ([0, 1, 4, 5, 8, 11, 12, 15, 16, 17, 18, 21, 23, 25, 28, 29, 32, 33, 36, 37, 40] : List Nat).all (fun pc => match xo_108 pc with | none => true | some r => decide (decode cX6_daysToWaitFor pc = .ok r)) = true := by decide +kernel
set_option maxRecDepth 100000 in
theorem xo_108_no : (List.range 41).all (fun pc => (xo_108 pc).isNone || (([0, 1, 4, 5, 8, 11, 12, 15, 16, 17, 18, 21, 23, 25, 28, 29, 32, 33, 36, 37, 40] : List Nat).contains pc)) = true := by decide +kernel
theorem xo_108_top (pc : Nat) (h : 41 ≤ pc) : xo_108 pc = none := if_pos h
theorem xo_108_ok (pc : Nat) (r : Instr × Nat) (h : xo_108 pc = some r) : decode cX6_daysToWaitFor pc = .ok r := by
  rcases Nat.lt_or_ge pc 41 with hl | hl
  · have h1 := List.all_eq_true.mp xo_108_no pc (List.mem_range.mpr hl)
    rw [h] at h1
    simp only [Option.isNone_some, Bool.false_or, Bool.or_eq_true, List.contains_iff_mem, or_assoc] at h1
    rcases h1 with h1
    · have h2 := List.all_eq_true.mp xo_108_c0 pc h1
      rw [h] at h2
      exact of_decide_eq_true h2
  · rw [show xo_108 pc = none from if_pos hl] at h; cases h
/-- X6_bestShed -/
def xo_109 (pc : Nat) : Option (Instr × Nat) := if 136 ≤ pc then none else if pc < 66 then (if pc < 30 then (if pc < 13 then (if pc < 8 then (if pc < 4 then (if pc < 1 then (if pc = 0 then some (.iload_n 1, 1) else none) else (if pc = 1 then some (.invokestatic 110, 3) else none)) else (if pc < 7 then (if pc = 4 then some (.ifCond .ne 5, 3) else none) else (if pc = 7 then some (.iconst (-1), 1) else none))) else (if pc < 10 then (if pc < 9 then (if pc = 8 then some (.ireturn, 1) else none) else (if pc = 9 then some (.iconst 1, 1) else none)) else (if pc < 11 then (if pc = 10 then some (.iload_n 2, 1) else none) else (if pc = 11 then some (.bipush 99, 2) else none)))) else (if pc < 21 then (if pc < 19 then (if pc < 16 then (if pc = 13 then some (.invokestatic 146, 3) else none) else (if pc = 16 then some (.ifCond .eq 12, 3) else none)) else (if pc < 20 then (if pc = 19 then some (.iconst 0, 1) else none) else (if pc = 20 then some (.iload_n 3, 1) else none))) else (if pc < 25 then (if pc < 22 then (if pc = 21 then some (.iconst 1, 1) else none) else (if pc = 22 then some (.invokestatic 146, 3) else none)) else (if pc < 28 then (if pc = 25 then some (.ifCond .ne 6, 3) else none) else (if pc = 28 then some (.bipush (-2), 2) else none))))) else (if pc < 46 then (if pc < 38 then (if pc < 32 then (if pc < 31 then (if pc = 30 then some (.ireturn, 1) else none) else (if pc = 31 then some (.aload_n 0, 1) else none)) else (if pc < 35 then (if pc = 32 then some (.getfield 12, 3) else none) else (if pc = 35 then some (.getfield 123, 3) else none))) else (if pc < 42 then (if pc < 39 then (if pc = 38 then some (.iload_n 1, 1) else none) else (if pc = 39 then some (.invokevirtual 150, 3) else none)) else (if pc < 45 then (if pc = 42 then some (.ifCond .ne 17, 3) else none) else (if pc = 45 then some (.aload_n 0, 1) else none)))) else (if pc < 56 then (if pc < 52 then (if pc < 49 then (if pc = 46 then some (.getfield 12, 3) else none) else (if pc = 49 then some (.getfield 123, 3) else none)) else (if pc < 53 then (if pc = 52 then some (.iload_n 1, 1) else none) else (if pc = 53 then some (.invokevirtual 140, 3) else none))) else (if pc < 61 then (if pc < 59 then (if pc = 56 then some (.ifCond .eq 6, 3) else none) else (if pc = 59 then some (.bipush (-5), 2) else none)) else (if pc < 62 then (if pc = 61 then some (.ireturn, 1) else none) else (if pc < 64 then (if pc = 62 then some (.bipush (-6), 2) else none) else (if pc = 64 then some (.istore 4, 2) else none))))))) else (if pc < 98 then (if pc < 80 then (if pc < 73 then (if pc < 70 then (if pc < 68 then (if pc = 66 then some (.bipush (-6), 2) else none) else (if pc = 68 then some (.istore 5, 2) else none)) else (if pc < 71 then (if pc = 70 then some (.iconst 0, 1) else none) else (if pc = 71 then some (.istore 6, 2) else none))) else (if pc < 76 then (if pc < 75 then (if pc = 73 then some (.iload 6, 2) else none) else (if pc = 75 then some (.iconst 3, 1) else none)) else (if pc < 79 then (if pc = 76 then some (.if_icmp .ge 48, 3) else none) else (if pc = 79 then some (.aload_n 0, 1) else none)))) else (if pc < 87 then (if pc < 83 then (if pc < 81 then (if pc = 80 then some (.iload_n 1, 1) else none) else (if pc = 81 then some (.iload 6, 2) else none)) else (if pc < 84 then (if pc = 83 then some (.iload_n 2, 1) else none) else (if pc = 84 then some (.invokevirtual 153, 3) else none))) else (if pc < 91 then (if pc < 89 then (if pc = 87 then some (.istore 7, 2) else none) else (if pc = 89 then some (.iload 7, 2) else none)) else (if pc < 93 then (if pc = 91 then some (.bipush (-6), 2) else none) else (if pc < 96 then (if pc = 93 then some (.if_icmp .eq 25, 3) else none) else (if pc = 96 then some (.iload 4, 2) else none)))))) else (if pc < 116 then (if pc < 107 then (if pc < 103 then (if pc < 100 then (if pc = 98 then some (.bipush (-6), 2) else none) else (if pc = 100 then some (.if_icmp .eq 10, 3) else none)) else (if pc < 105 then (if pc = 103 then some (.iload 7, 2) else none) else (if pc = 105 then some (.iload 5, 2) else none))) else (if pc < 112 then (if pc < 110 then (if pc = 107 then some (.if_icmp .ge 11, 3) else none) else (if pc = 110 then some (.iload 6, 2) else none)) else (if pc < 114 then (if pc = 112 then some (.istore 4, 2) else none) else (if pc = 114 then some (.iload 7, 2) else none)))) else (if pc < 125 then (if pc < 121 then (if pc < 118 then (if pc = 116 then some (.istore 5, 2) else none) else (if pc = 118 then some (.iinc 6 1, 3) else none)) else (if pc < 124 then (if pc = 121 then some (.goto (-48), 3) else none) else (if pc = 124 then some (.iload_n 3, 1) else none))) else (if pc < 130 then (if pc < 128 then (if pc = 125 then some (.ifCond .ne 8, 3) else none) else (if pc = 128 then some (.iload 4, 2) else none)) else (if pc < 133 then (if pc = 130 then some (.goto 5, 3) else none) else (if pc < 135 then (if pc = 133 then some (.iload 5, 2) else none) else (if pc = 135 then some (.ireturn, 1) else none)))))))
set_option maxRecDepth 100000 in
theorem xo_109_c0 : ([0, 1, 4, 7, 8, 9, 10, 11, 13, 16, 19, 20, 21, 22, 25, 28, 30, 31, 32, 35, 38, 39, 42, 45, 46, 49, 52, 53, 56, 59, 61, 62, 64, 66, 68, 70] : List Nat).all (fun pc => match xo_109 pc with | none => true | some r => decide (decode cX6_bestShed pc = .ok r)) = true := by decide +kernel
set_option maxRecDepth 100000 in
theorem xo_109_c1 : ([71, 73, 75, 76, 79, 80, 81, 83, 84, 87, 89, 91, 93, 96, 98, 100, 103, 105, 107, 110, 112, 114, 116, 118, 121, 124, 125, 128, 130, 133, 135] : List Nat).all (fun pc => match xo_109 pc with | none => true | some r => decide (decode cX6_bestShed pc = .ok r)) = true := by decide +kernel
set_option maxRecDepth 100000 in
theorem xo_109_no : (List.range 136).all (fun pc => (xo_109 pc).isNone || (([0, 1, 4, 7, 8, 9, 10, 11, 13, 16, 19, 20, 21, 22, 25, 28, 30, 31, 32, 35, 38, 39, 42, 45, 46, 49, 52, 53, 56, 59, 61, 62, 64, 66, 68, 70] : List Nat).contains pc || ([71, 73, 75, 76, 79, 80, 81, 83, 84, 87, 89, 91, 93, 96, 98, 100, 103, 105, 107, 110, 112, 114, 116, 118, 121, 124, 125, 128, 130, 133, 135] : List Nat).contains pc)) = true := by decide +kernel
theorem xo_109_top (pc : Nat) (h : 136 ≤ pc) : xo_109 pc = none := if_pos h
theorem xo_109_ok (pc : Nat) (r : Instr × Nat) (h : xo_109 pc = some r) : decode cX6_bestShed pc = .ok r := by
  rcases Nat.lt_or_ge pc 136 with hl | hl
  · have h1 := List.all_eq_true.mp xo_109_no pc (List.mem_range.mpr hl)
    rw [h] at h1
    simp only [Option.isNone_some, Bool.false_or, Bool.or_eq_true, List.contains_iff_mem, or_assoc] at h1
    rcases h1 with h1 | h1
    · have h2 := List.all_eq_true.mp xo_109_c0 pc h1
      rw [h] at h2
      exact of_decide_eq_true h2
    · have h2 := List.all_eq_true.mp xo_109_c1 pc h1
      rw [h] at h2
      exact of_decide_eq_true h2
  · rw [show xo_109 pc = none from if_pos hl] at h; cases h
/-- X6_ifSwept -/
def xo_110 (pc : Nat) : Option (Instr × Nat) := if 42 ≤ pc then none else if pc < 21 then (if pc < 9 then (if pc < 4 then (if pc < 1 then (if pc = 0 then some (.iload_n 1, 1) else none) else (if pc = 1 then some (.invokestatic 117, 3) else none)) else (if pc < 7 then (if pc = 4 then some (.ifCond .ne 5, 3) else none) else (if pc < 8 then (if pc = 7 then some (.iconst (-1), 1) else none) else (if pc = 8 then some (.ireturn, 1) else none)))) else (if pc < 13 then (if pc < 10 then (if pc = 9 then some (.iconst 0, 1) else none) else (if pc < 11 then (if pc = 10 then some (.iload_n 2, 1) else none) else (if pc = 11 then some (.bipush 99, 2) else none))) else (if pc < 16 then (if pc = 13 then some (.invokestatic 146, 3) else none) else (if pc < 19 then (if pc = 16 then some (.ifCond .ne 6, 3) else none) else (if pc = 19 then some (.bipush (-2), 2) else none))))) else (if pc < 30 then (if pc < 23 then (if pc < 22 then (if pc = 21 then some (.ireturn, 1) else none) else (if pc = 22 then some (.aload_n 0, 1) else none)) else (if pc < 26 then (if pc = 23 then some (.getfield 12, 3) else none) else (if pc < 29 then (if pc = 26 then some (.getfield 156, 3) else none) else (if pc = 29 then some (.iload_n 1, 1) else none)))) else (if pc < 35 then (if pc < 31 then (if pc = 30 then some (.aload_n 0, 1) else none) else (if pc < 34 then (if pc = 31 then some (.getfield 12, 3) else none) else (if pc = 34 then some (.iload_n 2, 1) else none))) else (if pc < 38 then (if pc = 35 then some (.invokevirtual 160, 3) else none) else (if pc < 41 then (if pc = 38 then some (.invokevirtual 163, 3) else none) else (if pc = 41 then some (.ireturn, 1) else none)))))
set_option maxRecDepth 100000 in
theorem xo_110_c0 : ([0, 1, 4, 7, 8, 9, 10, 11, 13, 16, 19, 21, 22, 23, 26, 29, 30, 31, 34, 35, 38, 41] : List Nat).all (fun pc => match xo_110 pc with | none => true | some r => decide (decode cX6_ifSwept pc = .ok r)) = true := by decide +kernel
set_option maxRecDepth 100000 in
theorem xo_110_no : (List.range 42).all (fun pc => (xo_110 pc).isNone || (([0, 1, 4, 7, 8, 9, 10, 11, 13, 16, 19, 21, 22, 23, 26, 29, 30, 31, 34, 35, 38, 41] : List Nat).contains pc)) = true := by decide +kernel
theorem xo_110_top (pc : Nat) (h : 42 ≤ pc) : xo_110 pc = none := if_pos h
theorem xo_110_ok (pc : Nat) (r : Instr × Nat) (h : xo_110 pc = some r) : decode cX6_ifSwept pc = .ok r := by
  rcases Nat.lt_or_ge pc 42 with hl | hl
  · have h1 := List.all_eq_true.mp xo_110_no pc (List.mem_range.mpr hl)
    rw [h] at h1
    simp only [Option.isNone_some, Bool.false_or, Bool.or_eq_true, List.contains_iff_mem, or_assoc] at h1
    rcases h1 with h1
    · have h2 := List.all_eq_true.mp xo_110_c0 pc h1
      rw [h] at h2
      exact of_decide_eq_true h2
  · rw [show xo_110 pc = none from if_pos hl] at h; cases h
/-- X6_put -/
def xo_111 (pc : Nat) : Option (Instr × Nat) := if 12 ≤ pc then none else if pc < 7 then (if pc < 1 then (if pc = 0 then some (.aload_n 0, 1) else none) else (if pc < 4 then (if pc = 1 then some (.getfield 36, 3) else none) else (if pc = 4 then some (.getfield 101, 3) else none))) else (if pc < 8 then (if pc = 7 then some (.lload_n 1, 1) else none) else (if pc < 11 then (if pc = 8 then some (.invokevirtual 168, 3) else none) else (if pc = 11 then some (.ireturn, 1) else none)))
set_option maxRecDepth 100000 in
theorem xo_111_c0 : ([0, 1, 4, 7, 8, 11] : List Nat).all (fun pc => match xo_111 pc with | none => true | some r => decide (decode cX6_put pc = .ok r)) = true := by decide +kernel
set_option maxRecDepth 100000 in
theorem xo_111_no : (List.range 12).all (fun pc => (xo_111 pc).isNone || (([0, 1, 4, 7, 8, 11] : List Nat).contains pc)) = true := by decide +kernel
theorem xo_111_top (pc : Nat) (h : 12 ≤ pc) : xo_111 pc = none := if_pos h
theorem xo_111_ok (pc : Nat) (r : Instr × Nat) (h : xo_111 pc = some r) : decode cX6_put pc = .ok r := by
  rcases Nat.lt_or_ge pc 12 with hl | hl
  · have h1 := List.all_eq_true.mp xo_111_no pc (List.mem_range.mpr hl)
    rw [h] at h1
    simp only [Option.isNone_some, Bool.false_or, Bool.or_eq_true, List.contains_iff_mem, or_assoc] at h1
    rcases h1 with h1
    · have h2 := List.all_eq_true.mp xo_111_c0 pc h1
      rw [h] at h2
      exact of_decide_eq_true h2
  · rw [show xo_111 pc = none from if_pos hl] at h; cases h
/-- X6_wipe -/
def xo_112 (pc : Nat) : Option (Instr × Nat) := if 11 ≤ pc then none else if pc < 4 then (if pc < 1 then (if pc = 0 then some (.aload_n 0, 1) else none) else (if pc = 1 then some (.getfield 36, 3) else none)) else (if pc < 7 then (if pc = 4 then some (.getfield 101, 3) else none) else (if pc < 10 then (if pc = 7 then some (.invokevirtual 105, 3) else none) else (if pc = 10 then some (.ireturn, 1) else none)))
set_option maxRecDepth 100000 in
theorem xo_112_c0 : ([0, 1, 4, 7, 10] : List Nat).all (fun pc => match xo_112 pc with | none => true | some r => decide (decode cX6_wipe pc = .ok r)) = true := by decide +kernel
set_option maxRecDepth 100000 in
theorem xo_112_no : (List.range 11).all (fun pc => (xo_112 pc).isNone || (([0, 1, 4, 7, 10] : List Nat).contains pc)) = true := by decide +kernel
theorem xo_112_top (pc : Nat) (h : 11 ≤ pc) : xo_112 pc = none := if_pos h
theorem xo_112_ok (pc : Nat) (r : Instr × Nat) (h : xo_112 pc = some r) : decode cX6_wipe pc = .ok r := by
  rcases Nat.lt_or_ge pc 11 with hl | hl
  · have h1 := List.all_eq_true.mp xo_112_no pc (List.mem_range.mpr hl)
    rw [h] at h1
    simp only [Option.isNone_some, Bool.false_or, Bool.or_eq_true, List.contains_iff_mem, or_assoc] at h1
    rcases h1 with h1
    · have h2 := List.all_eq_true.mp xo_112_c0 pc h1
      rw [h] at h2
      exact of_decide_eq_true h2
  · rw [show xo_112 pc = none from if_pos hl] at h; cases h
/-- X6_fault -/
def xo_113 (pc : Nat) : Option (Instr × Nat) := if 8 ≤ pc then none else if pc < 4 then (if pc < 1 then (if pc = 0 then some (.aload_n 0, 1) else none) else (if pc = 1 then some (.getfield 36, 3) else none)) else (if pc < 7 then (if pc = 4 then some (.invokevirtual 84, 3) else none) else (if pc = 7 then some (.ireturn, 1) else none))
set_option maxRecDepth 100000 in
theorem xo_113_c0 : ([0, 1, 4, 7] : List Nat).all (fun pc => match xo_113 pc with | none => true | some r => decide (decode cX6_fault pc = .ok r)) = true := by decide +kernel
set_option maxRecDepth 100000 in
theorem xo_113_no : (List.range 8).all (fun pc => (xo_113 pc).isNone || (([0, 1, 4, 7] : List Nat).contains pc)) = true := by decide +kernel
theorem xo_113_top (pc : Nat) (h : 8 ≤ pc) : xo_113 pc = none := if_pos h
theorem xo_113_ok (pc : Nat) (r : Instr × Nat) (h : xo_113 pc = some r) : decode cX6_fault pc = .ok r := by
  rcases Nat.lt_or_ge pc 8 with hl | hl
  · have h1 := List.all_eq_true.mp xo_113_no pc (List.mem_range.mpr hl)
    rw [h] at h1
    simp only [Option.isNone_some, Bool.false_or, Bool.or_eq_true, List.contains_iff_mem, or_assoc] at h1
    rcases h1 with h1
    · have h2 := List.all_eq_true.mp xo_113_c0 pc h1
      rw [h] at h2
      exact of_decide_eq_true h2
  · rw [show xo_113 pc = none from if_pos hl] at h; cases h
/-- X6_undo -/
def xo_114 (pc : Nat) : Option (Instr × Nat) := if 25 ≤ pc then none else if pc < 14 then (if pc < 5 then (if pc < 1 then (if pc = 0 then some (.aload_n 0, 1) else none) else (if pc < 4 then (if pc = 1 then some (.getfield 25, 3) else none) else (if pc = 4 then some (.aload_n 0, 1) else none))) else (if pc < 8 then (if pc = 5 then some (.getfield 12, 3) else none) else (if pc < 11 then (if pc = 8 then some (.invokevirtual 172, 3) else none) else (if pc = 11 then some (.ifCond .ne 6, 3) else none)))) else (if pc < 18 then (if pc < 16 then (if pc = 14 then some (.bipush (-5), 2) else none) else (if pc < 17 then (if pc = 16 then some (.ireturn, 1) else none) else (if pc = 17 then some (.aload_n 0, 1) else none))) else (if pc < 21 then (if pc = 18 then some (.getfield 25, 3) else none) else (if pc < 24 then (if pc = 21 then some (.getfield 136, 3) else none) else (if pc = 24 then some (.ireturn, 1) else none))))
set_option maxRecDepth 100000 in
theorem xo_114_c0 : ([0, 1, 4, 5, 8, 11, 14, 16, 17, 18, 21, 24] : List Nat).all (fun pc => match xo_114 pc with | none => true | some r => decide (decode cX6_undo pc = .ok r)) = true := by decide +kernel
set_option maxRecDepth 100000 in
theorem xo_114_no : (List.range 25).all (fun pc => (xo_114 pc).isNone || (([0, 1, 4, 5, 8, 11, 14, 16, 17, 18, 21, 24] : List Nat).contains pc)) = true := by decide +kernel
theorem xo_114_top (pc : Nat) (h : 25 ≤ pc) : xo_114 pc = none := if_pos h
theorem xo_114_ok (pc : Nat) (r : Instr × Nat) (h : xo_114 pc = some r) : decode cX6_undo pc = .ok r := by
  rcases Nat.lt_or_ge pc 25 with hl | hl
  · have h1 := List.all_eq_true.mp xo_114_no pc (List.mem_range.mpr hl)
    rw [h] at h1
    simp only [Option.isNone_some, Bool.false_or, Bool.or_eq_true, List.contains_iff_mem, or_assoc] at h1
    rcases h1 with h1
    · have h2 := List.all_eq_true.mp xo_114_c0 pc h1
      rw [h] at h2
      exact of_decide_eq_true h2
  · rw [show xo_114 pc = none from if_pos hl] at h; cases h
/-- X6_save -/
def xo_115 (pc : Nat) : Option (Instr × Nat) := if 39 ≤ pc then none else if pc < 18 then (if pc < 9 then (if pc < 2 then (if pc < 1 then (if pc = 0 then some (.iconst 0, 1) else none) else (if pc = 1 then some (.iload_n 1, 1) else none)) else (if pc < 3 then (if pc = 2 then some (.iconst 1, 1) else none) else (if pc < 6 then (if pc = 3 then some (.invokestatic 146, 3) else none) else (if pc = 6 then some (.ifCond .ne 6, 3) else none)))) else (if pc < 13 then (if pc < 11 then (if pc = 9 then some (.bipush (-2), 2) else none) else (if pc < 12 then (if pc = 11 then some (.ireturn, 1) else none) else (if pc = 12 then some (.aload_n 0, 1) else none))) else (if pc < 16 then (if pc = 13 then some (.getfield 29, 3) else none) else (if pc < 17 then (if pc = 16 then some (.iload_n 1, 1) else none) else (if pc = 17 then some (.aload_n 0, 1) else none))))) else (if pc < 27 then (if pc < 22 then (if pc < 21 then (if pc = 18 then some (.getfield 29, 3) else none) else (if pc = 21 then some (.iload_n 1, 1) else none)) else (if pc < 23 then (if pc = 22 then some (.aaload, 1) else none) else (if pc < 24 then (if pc = 23 then some (.aload_n 0, 1) else none) else (if pc = 24 then some (.getfield 12, 3) else none)))) else (if pc < 32 then (if pc < 30 then (if pc = 27 then some (.invokestatic 176, 3) else none) else (if pc < 31 then (if pc = 30 then some (.aastore, 1) else none) else (if pc = 31 then some (.aload_n 0, 1) else none))) else (if pc < 35 then (if pc = 32 then some (.getfield 12, 3) else none) else (if pc < 38 then (if pc = 35 then some (.getfield 180, 3) else none) else (if pc = 38 then some (.ireturn, 1) else none)))))
set_option maxRecDepth 100000 in
theorem xo_115_c0 : ([0, 1, 2, 3, 6, 9, 11, 12, 13, 16, 17, 18, 21, 22, 23, 24, 27, 30, 31, 32, 35, 38] : List Nat).all (fun pc => match xo_115 pc with | none => true | some r => decide (decode cX6_save pc = .ok r)) = true := by decide +kernel
set_option maxRecDepth 100000 in
theorem xo_115_no : (List.range 39).all (fun pc => (xo_115 pc).isNone || (([0, 1, 2, 3, 6, 9, 11, 12, 13, 16, 17, 18, 21, 22, 23, 24, 27, 30, 31, 32, 35, 38] : List Nat).contains pc)) = true := by decide +kernel
theorem xo_115_top (pc : Nat) (h : 39 ≤ pc) : xo_115 pc = none := if_pos h
theorem xo_115_ok (pc : Nat) (r : Instr × Nat) (h : xo_115 pc = some r) : decode cX6_save pc = .ok r := by
  rcases Nat.lt_or_ge pc 39 with hl | hl
  · have h1 := List.all_eq_true.mp xo_115_no pc (List.mem_range.mpr hl)
    rw [h] at h1
    simp only [Option.isNone_some, Bool.false_or, Bool.or_eq_true, List.contains_iff_mem, or_assoc] at h1
    rcases h1 with h1
    · have h2 := List.all_eq_true.mp xo_115_c0 pc h1
      rw [h] at h2
      exact of_decide_eq_true h2
  · rw [show xo_115 pc = none from if_pos hl] at h; cases h
/-- X6_restore -/
def xo_116 (pc : Nat) : Option (Instr × Nat) := if 57 ≤ pc then none else if pc < 25 then (if pc < 12 then (if pc < 3 then (if pc < 1 then (if pc = 0 then some (.iconst 0, 1) else none) else (if pc < 2 then (if pc = 1 then some (.iload_n 1, 1) else none) else (if pc = 2 then some (.iconst 1, 1) else none))) else (if pc < 9 then (if pc < 6 then (if pc = 3 then some (.invokestatic 146, 3) else none) else (if pc = 6 then some (.ifCond .ne 6, 3) else none)) else (if pc < 11 then (if pc = 9 then some (.bipush (-2), 2) else none) else (if pc = 11 then some (.ireturn, 1) else none)))) else (if pc < 18 then (if pc < 16 then (if pc < 13 then (if pc = 12 then some (.aload_n 0, 1) else none) else (if pc = 13 then some (.getfield 29, 3) else none)) else (if pc < 17 then (if pc = 16 then some (.iload_n 1, 1) else none) else (if pc = 17 then some (.aaload, 1) else none))) else (if pc < 20 then (if pc < 19 then (if pc = 18 then some (.astore_n 2, 1) else none) else (if pc = 19 then some (.aload_n 2, 1) else none)) else (if pc < 23 then (if pc = 20 then some (.ifnonnull 6, 3) else none) else (if pc = 23 then some (.bipush (-5), 2) else none))))) else (if pc < 41 then (if pc < 31 then (if pc < 27 then (if pc < 26 then (if pc = 25 then some (.ireturn, 1) else none) else (if pc = 26 then some (.aload_n 0, 1) else none)) else (if pc < 30 then (if pc = 27 then some (.getfield 16, 3) else none) else (if pc = 30 then some (.aload_n 0, 1) else none))) else (if pc < 37 then (if pc < 34 then (if pc = 31 then some (.getfield 12, 3) else none) else (if pc = 34 then some (.invokevirtual 40, 3) else none)) else (if pc < 38 then (if pc = 37 then some (.aload_n 0, 1) else none) else (if pc = 38 then some (.getfield 12, 3) else none)))) else (if pc < 47 then (if pc < 45 then (if pc < 42 then (if pc = 41 then some (.aload_n 2, 1) else none) else (if pc = 42 then some (.invokevirtual 40, 3) else none)) else (if pc < 46 then (if pc = 45 then some (.aload_n 0, 1) else none) else (if pc = 46 then some (.aload_n 0, 1) else none))) else (if pc < 53 then (if pc < 50 then (if pc = 47 then some (.getfield 12, 3) else none) else (if pc = 50 then some (.getfield 180, 3) else none)) else (if pc < 56 then (if pc = 53 then some (.invokevirtual 48, 3) else none) else (if pc = 56 then some (.ireturn, 1) else none)))))
set_option maxRecDepth 100000 in
theorem xo_116_c0 : ([0, 1, 2, 3, 6, 9, 11, 12, 13, 16, 17, 18, 19, 20, 23, 25, 26, 27, 30, 31, 34, 37, 38, 41, 42, 45, 46, 47, 50, 53, 56] : List Nat).all (fun pc => match xo_116 pc with | none => true | some r => decide (decode cX6_restore pc = .ok r)) = true := by decide +kernel
set_option maxRecDepth 100000 in
theorem xo_116_no : (List.range 57).all (fun pc => (xo_116 pc).isNone || (([0, 1, 2, 3, 6, 9, 11, 12, 13, 16, 17, 18, 19, 20, 23, 25, 26, 27, 30, 31, 34, 37, 38, 41, 42, 45, 46, 47, 50, 53, 56] : List Nat).contains pc)) = true := by decide +kernel
theorem xo_116_top (pc : Nat) (h : 57 ≤ pc) : xo_116 pc = none := if_pos h
theorem xo_116_ok (pc : Nat) (r : Instr × Nat) (h : xo_116 pc = some r) : decode cX6_restore pc = .ok r := by
  rcases Nat.lt_or_ge pc 57 with hl | hl
  · have h1 := List.all_eq_true.mp xo_116_no pc (List.mem_range.mpr hl)
    rw [h] at h1
    simp only [Option.isNone_some, Bool.false_or, Bool.or_eq_true, List.contains_iff_mem, or_assoc] at h1
    rcases h1 with h1
    · have h2 := List.all_eq_true.mp xo_116_c0 pc h1
      rw [h] at h2
      exact of_decide_eq_true h2
  · rw [show xo_116 pc = none from if_pos hl] at h; cases h
/-- X7_personAt -/
def xo_117 (pc : Nat) : Option (Instr × Nat) := if 10 ≤ pc then none else if pc < 6 then (if pc < 3 then (if pc < 1 then (if pc = 0 then some (.iload_n 0, 1) else none) else (if pc = 1 then some (.bipush 14, 2) else none)) else (if pc < 4 then (if pc = 3 then some (.iadd, 1) else none) else (if pc = 4 then some (.bipush 8, 2) else none))) else (if pc < 8 then (if pc < 7 then (if pc = 6 then some (.iload_n 1, 1) else none) else (if pc = 7 then some (.imul, 1) else none)) else (if pc < 9 then (if pc = 8 then some (.iadd, 1) else none) else (if pc = 9 then some (.ireturn, 1) else none)))
set_option maxRecDepth 100000 in
theorem xo_117_c0 : ([0, 1, 3, 4, 6, 7, 8, 9] : List Nat).all (fun pc => match xo_117 pc with | none => true | some r => decide (decode cX7_personAt pc = .ok r)) = true := by decide +kernel
set_option maxRecDepth 100000 in
theorem xo_117_no : (List.range 10).all (fun pc => (xo_117 pc).isNone || (([0, 1, 3, 4, 6, 7, 8, 9] : List Nat).contains pc)) = true := by decide +kernel
theorem xo_117_top (pc : Nat) (h : 10 ≤ pc) : xo_117 pc = none := if_pos h
theorem xo_117_ok (pc : Nat) (r : Instr × Nat) (h : xo_117 pc = some r) : decode cX7_personAt pc = .ok r := by
  rcases Nat.lt_or_ge pc 10 with hl | hl
  · have h1 := List.all_eq_true.mp xo_117_no pc (List.mem_range.mpr hl)
    rw [h] at h1
    simp only [Option.isNone_some, Bool.false_or, Bool.or_eq_true, List.contains_iff_mem, or_assoc] at h1
    rcases h1 with h1
    · have h2 := List.all_eq_true.mp xo_117_c0 pc h1
      rw [h] at h2
      exact of_decide_eq_true h2
  · rw [show xo_117 pc = none from if_pos hl] at h; cases h
/-- X7_init -/
def xo_118 (pc : Nat) : Option (Instr × Nat) := if 111 ≤ pc then none else if pc < 54 then (if pc < 29 then (if pc < 14 then (if pc < 5 then (if pc < 1 then (if pc = 0 then some (.aload_n 0, 1) else none) else (if pc < 4 then (if pc = 1 then some (.invokespecial 1, 3) else none) else (if pc = 4 then some (.aload_n 0, 1) else none))) else (if pc < 10 then (if pc < 8 then (if pc = 5 then some (.sipush 3540, 3) else none) else (if pc = 8 then some (.newarray .int, 2) else none)) else (if pc < 13 then (if pc = 10 then some (.putfield 7, 3) else none) else (if pc = 13 then some (.aload_n 0, 1) else none)))) else (if pc < 21 then (if pc < 17 then (if pc < 15 then (if pc = 14 then some (.iconst 2, 1) else none) else (if pc = 15 then some (.newarray .boolean, 2) else none)) else (if pc < 20 then (if pc = 17 then some (.putfield 13, 3) else none) else (if pc = 20 then some (.aload_n 0, 1) else none))) else (if pc < 25 then (if pc < 23 then (if pc = 21 then some (.bipush 60, 2) else none) else (if pc = 23 then some (.newarray .int, 2) else none)) else (if pc < 28 then (if pc = 25 then some (.putfield 17, 3) else none) else (if pc = 28 then some (.aload_n 0, 1) else none))))) else (if pc < 42 then (if pc < 35 then (if pc < 33 then (if pc < 32 then (if pc = 29 then some (.getfield 7, 3) else none) else (if pc = 32 then some (.iconst 0, 1) else none)) else (if pc < 34 then (if pc = 33 then some (.iconst 1, 1) else none) else (if pc = 34 then some (.iastore, 1) else none))) else (if pc < 39 then (if pc < 36 then (if pc = 35 then some (.aload_n 0, 1) else none) else (if pc = 36 then some (.getfield 7, 3) else none)) else (if pc < 40 then (if pc = 39 then some (.iconst 1, 1) else none) else (if pc = 40 then some (.bipush 10, 2) else none)))) else (if pc < 48 then (if pc < 44 then (if pc < 43 then (if pc = 42 then some (.iastore, 1) else none) else (if pc = 43 then some (.aload_n 0, 1) else none)) else (if pc < 47 then (if pc = 44 then some (.getfield 7, 3) else none) else (if pc = 47 then some (.iconst 2, 1) else none))) else (if pc < 50 then (if pc < 49 then (if pc = 48 then some (.iconst 5, 1) else none) else (if pc = 49 then some (.iastore, 1) else none)) else (if pc < 51 then (if pc = 50 then some (.aload_n 0, 1) else none) else (if pc = 51 then some (.getfield 7, 3) else none)))))) else (if pc < 79 then (if pc < 66 then (if pc < 59 then (if pc < 57 then (if pc < 55 then (if pc = 54 then some (.iconst 3, 1) else none) else (if pc = 55 then some (.bipush 20, 2) else none)) else (if pc < 58 then (if pc = 57 then some (.iastore, 1) else none) else (if pc = 58 then some (.iconst 0, 1) else none))) else (if pc < 61 then (if pc < 60 then (if pc = 59 then some (.istore_n 1, 1) else none) else (if pc = 60 then some (.iload_n 1, 1) else none)) else (if pc < 63 then (if pc = 61 then some (.bipush 20, 2) else none) else (if pc = 63 then some (.if_icmp .ge 47, 3) else none)))) else (if pc < 71 then (if pc < 68 then (if pc < 67 then (if pc = 66 then some (.iconst 0, 1) else none) else (if pc = 67 then some (.istore_n 2, 1) else none)) else (if pc < 69 then (if pc = 68 then some (.iload_n 2, 1) else none) else (if pc = 69 then some (.bipush 8, 2) else none))) else (if pc < 75 then (if pc < 74 then (if pc = 71 then some (.if_icmp .ge 33, 3) else none) else (if pc = 74 then some (.aload_n 0, 1) else none)) else (if pc < 78 then (if pc = 75 then some (.getfield 7, 3) else none) else (if pc = 78 then some (.iconst 0, 1) else none))))) else (if pc < 92 then (if pc < 85 then (if pc < 83 then (if pc < 80 then (if pc = 79 then some (.iload_n 1, 1) else none) else (if pc = 80 then some (.invokestatic 20, 3) else none)) else (if pc < 84 then (if pc = 83 then some (.iload_n 2, 1) else none) else (if pc = 84 then some (.iadd, 1) else none))) else (if pc < 88 then (if pc < 86 then (if pc = 85 then some (.iload_n 2, 1) else none) else (if pc = 86 then some (.bipush 7, 2) else none)) else (if pc < 91 then (if pc = 88 then some (.if_icmp .ne 7, 3) else none) else (if pc = 91 then some (.iconst 0, 1) else none)))) else (if pc < 101 then (if pc < 97 then (if pc < 95 then (if pc = 92 then some (.goto 5, 3) else none) else (if pc = 95 then some (.bipush (-6), 2) else none)) else (if pc < 98 then (if pc = 97 then some (.iastore, 1) else none) else (if pc = 98 then some (.iinc 2 1, 3) else none))) else (if pc < 107 then (if pc < 104 then (if pc = 101 then some (.goto (-33), 3) else none) else (if pc = 104 then some (.iinc 1 1, 3) else none)) else (if pc < 110 then (if pc = 107 then some (.goto (-47), 3) else none) else (if pc = 110 then some (.return_, 1) else none))))))
set_option maxRecDepth 100000 in
theorem xo_118_c0 : ([0, 1, 4, 5, 8, 10, 13, 14, 15, 17, 20, 21, 23, 25, 28, 29, 32, 33, 34, 35, 36, 39, 40, 42, 43, 44, 47, 48, 49, 50, 51, 54, 55, 57, 58, 59, 60, 61, 63, 66, 67, 68, 69, 71, 74] : List Nat).all (fun pc => match xo_118 pc with | none => true | some r => decide (decode cX7_init pc = .ok r)) = true := by decide +kernel
set_option maxRecDepth 100000 in
theorem xo_118_c1 : ([75, 78, 79, 80, 83, 84, 85, 86, 88, 91, 92, 95, 97, 98, 101, 104, 107, 110] : List Nat).all (fun pc => match xo_118 pc with | none => true | some r => decide (decode cX7_init pc = .ok r)) = true := by decide +kernel
set_option maxRecDepth 100000 in
theorem xo_118_no : (List.range 111).all (fun pc => (xo_118 pc).isNone || (([0, 1, 4, 5, 8, 10, 13, 14, 15, 17, 20, 21, 23, 25, 28, 29, 32, 33, 34, 35, 36, 39, 40, 42, 43, 44, 47, 48, 49, 50, 51, 54, 55, 57, 58, 59, 60, 61, 63, 66, 67, 68, 69, 71, 74] : List Nat).contains pc || ([75, 78, 79, 80, 83, 84, 85, 86, 88, 91, 92, 95, 97, 98, 101, 104, 107, 110] : List Nat).contains pc)) = true := by decide +kernel
theorem xo_118_top (pc : Nat) (h : 111 ≤ pc) : xo_118 pc = none := if_pos h
theorem xo_118_ok (pc : Nat) (r : Instr × Nat) (h : xo_118 pc = some r) : decode cX7_init pc = .ok r := by
  rcases Nat.lt_or_ge pc 111 with hl | hl
  · have h1 := List.all_eq_true.mp xo_118_no pc (List.mem_range.mpr hl)
    rw [h] at h1
    simp only [Option.isNone_some, Bool.false_or, Bool.or_eq_true, List.contains_iff_mem, or_assoc] at h1
    rcases h1 with h1 | h1
    · have h2 := List.all_eq_true.mp xo_118_c0 pc h1
      rw [h] at h2
      exact of_decide_eq_true h2
    · have h2 := List.all_eq_true.mp xo_118_c1 pc h1
      rw [h] at h2
      exact of_decide_eq_true h2
  · rw [show xo_118 pc = none from if_pos hl] at h; cases h
/-- X7_in -/
def xo_119 (pc : Nat) : Option (Instr × Nat) := if 19 ≤ pc then none else if pc < 9 then (if pc < 3 then (if pc < 1 then (if pc = 0 then some (.lload_n 0, 1) else none) else (if pc < 2 then (if pc = 1 then some (.lload_n 2, 1) else none) else (if pc = 2 then some (.lcmp, 1) else none))) else (if pc < 6 then (if pc = 3 then some (.ifCond .lt 14, 3) else none) else (if pc < 7 then (if pc = 6 then some (.lload_n 0, 1) else none) else (if pc = 7 then some (.lload 4, 2) else none)))) else (if pc < 14 then (if pc < 10 then (if pc = 9 then some (.lcmp, 1) else none) else (if pc < 13 then (if pc = 10 then some (.ifCond .gt 7, 3) else none) else (if pc = 13 then some (.iconst 1, 1) else none))) else (if pc < 17 then (if pc = 14 then some (.goto 4, 3) else none) else (if pc < 18 then (if pc = 17 then some (.iconst 0, 1) else none) else (if pc = 18 then some (.ireturn, 1) else none))))
set_option maxRecDepth 100000 in
theorem xo_119_c0 : ([0, 1, 2, 3, 6, 7, 9, 10, 13, 14, 17, 18] : List Nat).all (fun pc => match xo_119 pc with | none => true | some r => decide (decode cX7_in pc = .ok r)) = true := by decide +kernel
set_option maxRecDepth 100000 in
theorem xo_119_no : (List.range 19).all (fun pc => (xo_119 pc).isNone || (([0, 1, 2, 3, 6, 7, 9, 10, 13, 14, 17, 18] : List Nat).contains pc)) = true := by decide +kernel
theorem xo_119_top (pc : Nat) (h : 19 ≤ pc) : xo_119 pc = none := if_pos h
theorem xo_119_ok (pc : Nat) (r : Instr × Nat) (h : xo_119 pc = some r) : decode cX7_in pc = .ok r := by
  rcases Nat.lt_or_ge pc 19 with hl | hl
  · have h1 := List.all_eq_true.mp xo_119_no pc (List.mem_range.mpr hl)
    rw [h] at h1
    simp only [Option.isNone_some, Bool.false_or, Bool.or_eq_true, List.contains_iff_mem, or_assoc] at h1
    rcases h1 with h1
    · have h2 := List.all_eq_true.mp xo_119_c0 pc h1
      rw [h] at h2
      exact of_decide_eq_true h2
  · rw [show xo_119 pc = none from if_pos hl] at h; cases h
/-- X7_flag -/
def xo_120 (pc : Nat) : Option (Instr × Nat) := if 10 ≤ pc then none else if pc < 5 then (if pc < 1 then (if pc = 0 then some (.iload_n 0, 1) else none) else (if pc < 4 then (if pc = 1 then some (.ifCond .eq 7, 3) else none) else (if pc = 4 then some (.iconst 1, 1) else none))) else (if pc < 8 then (if pc = 5 then some (.goto 4, 3) else none) else (if pc < 9 then (if pc = 8 then some (.iconst 0, 1) else none) else (if pc = 9 then some (.ireturn, 1) else none)))
set_option maxRecDepth 100000 in
theorem xo_120_c0 : ([0, 1, 4, 5, 8, 9] : List Nat).all (fun pc => match xo_120 pc with | none => true | some r => decide (decode cX7_flag pc = .ok r)) = true := by decide +kernel
set_option maxRecDepth 100000 in
theorem xo_120_no : (List.range 10).all (fun pc => (xo_120 pc).isNone || (([0, 1, 4, 5, 8, 9] : List Nat).contains pc)) = true := by decide +kernel
theorem xo_120_top (pc : Nat) (h : 10 ≤ pc) : xo_120 pc = none := if_pos h
theorem xo_120_ok (pc : Nat) (r : Instr × Nat) (h : xo_120 pc = some r) : decode cX7_flag pc = .ok r := by
  rcases Nat.lt_or_ge pc 10 with hl | hl
  · have h1 := List.all_eq_true.mp xo_120_no pc (List.mem_range.mpr hl)
    rw [h] at h1
    simp only [Option.isNone_some, Bool.false_or, Bool.or_eq_true, List.contains_iff_mem, or_assoc] at h1
    rcases h1 with h1
    · have h2 := List.all_eq_true.mp xo_120_c0 pc h1
      rw [h] at h2
      exact of_decide_eq_true h2
  · rw [show xo_120 pc = none from if_pos hl] at h; cases h
/-- X7_copies -/
def xo_121 (pc : Nat) : Option (Instr × Nat) := if 40 ≤ pc then none else if pc < 20 then (if pc < 10 then (if pc < 3 then (if pc < 1 then (if pc = 0 then some (.iconst 0, 1) else none) else (if pc < 2 then (if pc = 1 then some (.istore_n 3, 1) else none) else (if pc = 2 then some (.iload_n 3, 1) else none))) else (if pc < 6 then (if pc = 3 then some (.sipush 354, 3) else none) else (if pc < 9 then (if pc = 6 then some (.if_icmp .ge 33, 3) else none) else (if pc = 9 then some (.aload_n 0, 1) else none)))) else (if pc < 17 then (if pc < 13 then (if pc = 10 then some (.getfield 7, 3) else none) else (if pc < 16 then (if pc = 13 then some (.sipush 354, 3) else none) else (if pc = 16 then some (.iload_n 2, 1) else none))) else (if pc < 18 then (if pc = 17 then some (.imul, 1) else none) else (if pc < 19 then (if pc = 18 then some (.iload_n 3, 1) else none) else (if pc = 19 then some (.iadd, 1) else none))))) else (if pc < 30 then (if pc < 27 then (if pc < 21 then (if pc = 20 then some (.aload_n 0, 1) else none) else (if pc < 24 then (if pc = 21 then some (.getfield 7, 3) else none) else (if pc = 24 then some (.sipush 354, 3) else none))) else (if pc < 28 then (if pc = 27 then some (.iload_n 1, 1) else none) else (if pc < 29 then (if pc = 28 then some (.imul, 1) else none) else (if pc = 29 then some (.iload_n 3, 1) else none)))) else (if pc < 33 then (if pc < 31 then (if pc = 30 then some (.iadd, 1) else none) else (if pc < 32 then (if pc = 31 then some (.iaload, 1) else none) else (if pc = 32 then some (.iastore, 1) else none))) else (if pc < 36 then (if pc = 33 then some (.iinc 3 1, 3) else none) else (if pc < 39 then (if pc = 36 then some (.goto (-34), 3) else none) else (if pc = 39 then some (.return_, 1) else none)))))
set_option maxRecDepth 100000 in
theorem xo_121_c0 : ([0, 1, 2, 3, 6, 9, 10, 13, 16, 17, 18, 19, 20, 21, 24, 27, 28, 29, 30, 31, 32, 33, 36, 39] : List Nat).all (fun pc => match xo_121 pc with | none => true | some r => decide (decode cX7_copies pc = .ok r)) = true := by decide +kernel
set_option maxRecDepth 100000 in
theorem xo_121_no : (List.range 40).all (fun pc => (xo_121 pc).isNone || (([0, 1, 2, 3, 6, 9, 10, 13, 16, 17, 18, 19, 20, 21, 24, 27, 28, 29, 30, 31, 32, 33, 36, 39] : List Nat).contains pc)) = true := by decide +kernel
theorem xo_121_top (pc : Nat) (h : 40 ≤ pc) : xo_121 pc = none := if_pos h
theorem xo_121_ok (pc : Nat) (r : Instr × Nat) (h : xo_121 pc = some r) : decode cX7_copies pc = .ok r := by
  rcases Nat.lt_or_ge pc 40 with hl | hl
  · have h1 := List.all_eq_true.mp xo_121_no pc (List.mem_range.mpr hl)
    rw [h] at h1
    simp only [Option.isNone_some, Bool.false_or, Bool.or_eq_true, List.contains_iff_mem, or_assoc] at h1
    rcases h1 with h1
    · have h2 := List.all_eq_true.mp xo_121_c0 pc h1
      rw [h] at h2
      exact of_decide_eq_true h2
  · rw [show xo_121 pc = none from if_pos hl] at h; cases h
/-- X7_changes -/
def xo_122 (pc : Nat) : Option (Instr × Nat) := if 61 ≤ pc then none else if pc < 31 then (if pc < 14 then (if pc < 9 then (if pc < 4 then (if pc < 1 then (if pc = 0 then some (.aload_n 0, 1) else none) else (if pc = 1 then some (.getfield 24, 3) else none)) else (if pc < 6 then (if pc = 4 then some (.bipush 6, 2) else none) else (if pc = 6 then some (.if_icmp .ne 35, 3) else none))) else (if pc < 11 then (if pc < 10 then (if pc = 9 then some (.iconst 1, 1) else none) else (if pc = 10 then some (.istore_n 1, 1) else none)) else (if pc < 12 then (if pc = 11 then some (.iload_n 1, 1) else none) else (if pc = 12 then some (.bipush 6, 2) else none)))) else (if pc < 20 then (if pc < 18 then (if pc < 17 then (if pc = 14 then some (.if_icmp .ge 17, 3) else none) else (if pc = 17 then some (.aload_n 0, 1) else none)) else (if pc < 19 then (if pc = 18 then some (.iload_n 1, 1) else none) else (if pc = 19 then some (.iconst 1, 1) else none))) else (if pc < 22 then (if pc < 21 then (if pc = 20 then some (.iadd, 1) else none) else (if pc = 21 then some (.iload_n 1, 1) else none)) else (if pc < 25 then (if pc = 22 then some (.invokevirtual 28, 3) else none) else (if pc < 28 then (if pc = 25 then some (.iinc 1 1, 3) else none) else (if pc = 28 then some (.goto (-17), 3) else none)))))) else (if pc < 46 then (if pc < 37 then (if pc < 33 then (if pc < 32 then (if pc = 31 then some (.aload_n 0, 1) else none) else (if pc = 32 then some (.dup, 1) else none)) else (if pc < 36 then (if pc = 33 then some (.getfield 24, 3) else none) else (if pc = 36 then some (.iconst 1, 1) else none))) else (if pc < 41 then (if pc < 38 then (if pc = 37 then some (.isub, 1) else none) else (if pc = 38 then some (.putfield 24, 3) else none)) else (if pc < 42 then (if pc = 41 then some (.aload_n 0, 1) else none) else (if pc < 43 then (if pc = 42 then some (.dup, 1) else none) else (if pc = 43 then some (.getfield 24, 3) else none))))) else (if pc < 52 then (if pc < 48 then (if pc < 47 then (if pc = 46 then some (.iconst 1, 1) else none) else (if pc = 47 then some (.iadd, 1) else none)) else (if pc < 51 then (if pc = 48 then some (.putfield 24, 3) else none) else (if pc = 51 then some (.aload_n 0, 1) else none))) else (if pc < 54 then (if pc < 53 then (if pc = 52 then some (.iconst 0, 1) else none) else (if pc = 53 then some (.aload_n 0, 1) else none)) else (if pc < 57 then (if pc = 54 then some (.getfield 24, 3) else none) else (if pc < 60 then (if pc = 57 then some (.invokevirtual 28, 3) else none) else (if pc = 60 then some (.return_, 1) else none))))))
set_option maxRecDepth 100000 in
theorem xo_122_c0 : ([0, 1, 4, 6, 9, 10, 11, 12, 14, 17, 18, 19, 20, 21, 22, 25, 28, 31, 32, 33, 36, 37, 38, 41, 42, 43, 46, 47, 48, 51, 52, 53, 54, 57, 60] : List Nat).all (fun pc => match xo_122 pc with | none => true | some r => decide (decode cX7_changes pc = .ok r)) = true := by decide +kernel
set_option maxRecDepth 100000 in
theorem xo_122_no : (List.range 61).all (fun pc => (xo_122 pc).isNone || (([0, 1, 4, 6, 9, 10, 11, 12, 14, 17, 18, 19, 20, 21, 22, 25, 28, 31, 32, 33, 36, 37, 38, 41, 42, 43, 46, 47, 48, 51, 52, 53, 54, 57, 60] : List Nat).contains pc)) = true := by decide +kernel
theorem xo_122_top (pc : Nat) (h : 61 ≤ pc) : xo_122 pc = none := if_pos h
theorem xo_122_ok (pc : Nat) (r : Instr × Nat) (h : xo_122 pc = some r) : decode cX7_changes pc = .ok r := by
  rcases Nat.lt_or_ge pc 61 with hl | hl
  · have h1 := List.all_eq_true.mp xo_122_no pc (List.mem_range.mpr hl)
    rw [h] at h1
    simp only [Option.isNone_some, Bool.false_or, Bool.or_eq_true, List.contains_iff_mem, or_assoc] at h1
    rcases h1 with h1
    · have h2 := List.all_eq_true.mp xo_122_c0 pc h1
      rw [h] at h2
      exact of_decide_eq_true h2
  · rw [show xo_122 pc = none from if_pos hl] at h; cases h
/-- X7_placeAt -/
def xo_123 (pc : Nat) : Option (Instr × Nat) := if 15 ≤ pc then none else if pc < 9 then (if pc < 5 then (if pc < 1 then (if pc = 0 then some (.iload_n 0, 1) else none) else (if pc < 4 then (if pc = 1 then some (.sipush 174, 3) else none) else (if pc = 4 then some (.iadd, 1) else none))) else (if pc < 6 then (if pc = 5 then some (.iconst 3, 1) else none) else (if pc < 8 then (if pc = 6 then some (.bipush 20, 2) else none) else (if pc = 8 then some (.iload_n 1, 1) else none)))) else (if pc < 12 then (if pc < 10 then (if pc = 9 then some (.imul, 1) else none) else (if pc < 11 then (if pc = 10 then some (.iload_n 2, 1) else none) else (if pc = 11 then some (.iadd, 1) else none))) else (if pc < 13 then (if pc = 12 then some (.imul, 1) else none) else (if pc < 14 then (if pc = 13 then some (.iadd, 1) else none) else (if pc = 14 then some (.ireturn, 1) else none))))
set_option maxRecDepth 100000 in
theorem xo_123_c0 : ([0, 1, 4, 5, 6, 8, 9, 10, 11, 12, 13, 14] : List Nat).all (fun pc => match xo_123 pc with | none => true | some r => decide (decode cX7_placeAt pc = .ok r)) = true := by decide +kernel
set_option maxRecDepth 100000 in
theorem xo_123_no : (List.range 15).all (fun pc => (xo_123 pc).isNone || (([0, 1, 4, 5, 6, 8, 9, 10, 11, 12, 13, 14] : List Nat).contains pc)) = true := by decide +kernel
theorem xo_123_top (pc : Nat) (h : 15 ≤ pc) : xo_123 pc = none := if_pos h
theorem xo_123_ok (pc : Nat) (r : Instr × Nat) (h : xo_123 pc = some r) : decode cX7_placeAt pc = .ok r := by
  rcases Nat.lt_or_ge pc 15 with hl | hl
  · have h1 := List.all_eq_true.mp xo_123_no pc (List.mem_range.mpr hl)
    rw [h] at h1
    simp only [Option.isNone_some, Bool.false_or, Bool.or_eq_true, List.contains_iff_mem, or_assoc] at h1
    rcases h1 with h1
    · have h2 := List.all_eq_true.mp xo_123_c0 pc h1
      rw [h] at h2
      exact of_decide_eq_true h2
  · rw [show xo_123 pc = none from if_pos hl] at h; cases h
/-- X7_racksInUse -/
def xo_124 (pc : Nat) : Option (Instr × Nat) := if 41 ≤ pc then none else if pc < 22 then (if pc < 12 then (if pc < 3 then (if pc < 1 then (if pc = 0 then some (.iconst 0, 1) else none) else (if pc < 2 then (if pc = 1 then some (.istore_n 3, 1) else none) else (if pc = 2 then some (.iconst 0, 1) else none))) else (if pc < 7 then (if pc < 5 then (if pc = 3 then some (.istore 4, 2) else none) else (if pc = 5 then some (.iload 4, 2) else none)) else (if pc < 9 then (if pc = 7 then some (.bipush 8, 2) else none) else (if pc = 9 then some (.if_icmp .ge 30, 3) else none)))) else (if pc < 15 then (if pc < 13 then (if pc = 12 then some (.iload_n 3, 1) else none) else (if pc < 14 then (if pc = 13 then some (.iconst 1, 1) else none) else (if pc = 14 then some (.aload_n 0, 1) else none))) else (if pc < 19 then (if pc < 18 then (if pc = 15 then some (.getfield 7, 3) else none) else (if pc = 18 then some (.iload_n 1, 1) else none)) else (if pc < 21 then (if pc = 19 then some (.bipush 8, 2) else none) else (if pc = 21 then some (.iadd, 1) else none))))) else (if pc < 30 then (if pc < 25 then (if pc < 23 then (if pc = 22 then some (.iload_n 2, 1) else none) else (if pc < 24 then (if pc = 23 then some (.iadd, 1) else none) else (if pc = 24 then some (.iaload, 1) else none))) else (if pc < 28 then (if pc < 27 then (if pc = 25 then some (.iload 4, 2) else none) else (if pc = 27 then some (.ishr, 1) else none)) else (if pc < 29 then (if pc = 28 then some (.iconst 1, 1) else none) else (if pc = 29 then some (.iand, 1) else none)))) else (if pc < 33 then (if pc < 31 then (if pc = 30 then some (.isub, 1) else none) else (if pc < 32 then (if pc = 31 then some (.iadd, 1) else none) else (if pc = 32 then some (.istore_n 3, 1) else none))) else (if pc < 39 then (if pc < 36 then (if pc = 33 then some (.iinc 4 1, 3) else none) else (if pc = 36 then some (.goto (-31), 3) else none)) else (if pc < 40 then (if pc = 39 then some (.iload_n 3, 1) else none) else (if pc = 40 then some (.ireturn, 1) else none)))))
set_option maxRecDepth 100000 in
theorem xo_124_c0 : ([0, 1, 2, 3, 5, 7, 9, 12, 13, 14, 15, 18, 19, 21, 22, 23, 24, 25, 27, 28, 29, 30, 31, 32, 33, 36, 39, 40] : List Nat).all (fun pc => match xo_124 pc with | none => true | some r => decide (decode cX7_racksInUse pc = .ok r)) = true := by decide +kernel
set_option maxRecDepth 100000 in
theorem xo_124_no : (List.range 41).all (fun pc => (xo_124 pc).isNone || (([0, 1, 2, 3, 5, 7, 9, 12, 13, 14, 15, 18, 19, 21, 22, 23, 24, 25, 27, 28, 29, 30, 31, 32, 33, 36, 39, 40] : List Nat).contains pc)) = true := by decide +kernel
theorem xo_124_top (pc : Nat) (h : 41 ≤ pc) : xo_124 pc = none := if_pos h
theorem xo_124_ok (pc : Nat) (r : Instr × Nat) (h : xo_124 pc = some r) : decode cX7_racksInUse pc = .ok r := by
  rcases Nat.lt_or_ge pc 41 with hl | hl
  · have h1 := List.all_eq_true.mp xo_124_no pc (List.mem_range.mpr hl)
    rw [h] at h1
    simp only [Option.isNone_some, Bool.false_or, Bool.or_eq_true, List.contains_iff_mem, or_assoc] at h1
    rcases h1 with h1
    · have h2 := List.all_eq_true.mp xo_124_c0 pc h1
      rw [h] at h2
      exact of_decide_eq_true h2
  · rw [show xo_124 pc = none from if_pos hl] at h; cases h
end
section
/-- X7_permits -/
def xo_125 (pc : Nat) : Option (Instr × Nat) := if 16 ≤ pc then none else if pc < 10 then (if pc < 3 then (if pc < 1 then (if pc = 0 then some (.aload_n 0, 1) else none) else (if pc < 2 then (if pc = 1 then some (.iload_n 1, 1) else none) else (if pc = 2 then some (.iload_n 2, 1) else none))) else (if pc < 6 then (if pc = 3 then some (.invokevirtual 32, 3) else none) else (if pc < 7 then (if pc = 6 then some (.aload_n 0, 1) else none) else (if pc = 7 then some (.getfield 7, 3) else none)))) else (if pc < 13 then (if pc < 11 then (if pc = 10 then some (.iload_n 1, 1) else none) else (if pc < 12 then (if pc = 11 then some (.iconst 0, 1) else none) else (if pc = 12 then some (.iadd, 1) else none))) else (if pc < 14 then (if pc = 13 then some (.iaload, 1) else none) else (if pc < 15 then (if pc = 14 then some (.iadd, 1) else none) else (if pc = 15 then some (.ireturn, 1) else none))))
set_option maxRecDepth 100000 in
theorem xo_125_c0 : ([0, 1, 2, 3, 6, 7, 10, 11, 12, 13, 14, 15] : List Nat).all (fun pc => match xo_125 pc with | none => true | some r => decide (decode cX7_permits pc = .ok r)) = true := by decide +kernel
set_option maxRecDepth 100000 in
theorem xo_125_no : (List.range 16).all (fun pc => (xo_125 pc).isNone || (([0, 1, 2, 3, 6, 7, 10, 11, 12, 13, 14, 15] : List Nat).contains pc)) = true := by decide +kernel
theorem xo_125_top (pc : Nat) (h : 16 ≤ pc) : xo_125 pc = none := if_pos h
theorem xo_125_ok (pc : Nat) (r : Instr × Nat) (h : xo_125 pc = some r) : decode cX7_permits pc = .ok r := by
  rcases Nat.lt_or_ge pc 16 with hl | hl
  · have h1 := List.all_eq_true.mp xo_125_no pc (List.mem_range.mpr hl)
    rw [h] at h1
    simp only [Option.isNone_some, Bool.false_or, Bool.or_eq_true, List.contains_iff_mem, or_assoc] at h1
    rcases h1 with h1
    · have h2 := List.all_eq_true.mp xo_125_c0 pc h1
      rw [h] at h2
      exact of_decide_eq_true h2
  · rw [show xo_125 pc = none from if_pos hl] at h; cases h
/-- X7_given -/
def xo_126 (pc : Nat) : Option (Instr × Nat) := if 46 ≤ pc then none else if pc < 23 then (if pc < 9 then (if pc < 3 then (if pc < 1 then (if pc = 0 then some (.iconst 0, 1) else none) else (if pc < 2 then (if pc = 1 then some (.istore_n 3, 1) else none) else (if pc = 2 then some (.iconst 0, 1) else none))) else (if pc < 5 then (if pc = 3 then some (.istore 4, 2) else none) else (if pc < 7 then (if pc = 5 then some (.iload 4, 2) else none) else (if pc = 7 then some (.bipush 20, 2) else none)))) else (if pc < 14 then (if pc < 12 then (if pc = 9 then some (.if_icmp .ge 35, 3) else none) else (if pc < 13 then (if pc = 12 then some (.iload_n 3, 1) else none) else (if pc = 13 then some (.aload_n 0, 1) else none))) else (if pc < 18 then (if pc < 17 then (if pc = 14 then some (.getfield 7, 3) else none) else (if pc = 17 then some (.iload_n 1, 1) else none)) else (if pc < 20 then (if pc = 18 then some (.iload 4, 2) else none) else (if pc = 20 then some (.invokestatic 20, 3) else none))))) else (if pc < 33 then (if pc < 28 then (if pc < 24 then (if pc = 23 then some (.iaload, 1) else none) else (if pc < 25 then (if pc = 24 then some (.iload_n 2, 1) else none) else (if pc = 25 then some (.if_icmp .ne 7, 3) else none))) else (if pc < 29 then (if pc = 28 then some (.iconst 1, 1) else none) else (if pc < 32 then (if pc = 29 then some (.goto 4, 3) else none) else (if pc = 32 then some (.iconst 0, 1) else none)))) else (if pc < 38 then (if pc < 36 then (if pc = 33 then some (.invokestatic 35, 3) else none) else (if pc < 37 then (if pc = 36 then some (.iadd, 1) else none) else (if pc = 37 then some (.istore_n 3, 1) else none))) else (if pc < 44 then (if pc < 41 then (if pc = 38 then some (.iinc 4 1, 3) else none) else (if pc = 41 then some (.goto (-36), 3) else none)) else (if pc < 45 then (if pc = 44 then some (.iload_n 3, 1) else none) else (if pc = 45 then some (.ireturn, 1) else none)))))
set_option maxRecDepth 100000 in
theorem xo_126_c0 : ([0, 1, 2, 3, 5, 7, 9, 12, 13, 14, 17, 18, 20, 23, 24, 25, 28, 29, 32, 33, 36, 37, 38, 41, 44, 45] : List Nat).all (fun pc => match xo_126 pc with | none => true | some r => decide (decode cX7_given pc = .ok r)) = true := by decide +kernel
set_option maxRecDepth 100000 in
theorem xo_126_no : (List.range 46).all (fun pc => (xo_126 pc).isNone || (([0, 1, 2, 3, 5, 7, 9, 12, 13, 14, 17, 18, 20, 23, 24, 25, 28, 29, 32, 33, 36, 37, 38, 41, 44, 45] : List Nat).contains pc)) = true := by decide +kernel
theorem xo_126_top (pc : Nat) (h : 46 ≤ pc) : xo_126 pc = none := if_pos h
theorem xo_126_ok (pc : Nat) (r : Instr × Nat) (h : xo_126 pc = some r) : decode cX7_given pc = .ok r := by
  rcases Nat.lt_or_ge pc 46 with hl | hl
  · have h1 := List.all_eq_true.mp xo_126_no pc (List.mem_range.mpr hl)
    rw [h] at h1
    simp only [Option.isNone_some, Bool.false_or, Bool.or_eq_true, List.contains_iff_mem, or_assoc] at h1
    rcases h1 with h1
    · have h2 := List.all_eq_true.mp xo_126_c0 pc h1
      rw [h] at h2
      exact of_decide_eq_true h2
  · rw [show xo_126 pc = none from if_pos hl] at h; cases h
/-- X7_placeOf -/
def xo_127 (pc : Nat) : Option (Instr × Nat) := if 57 ≤ pc then none else if pc < 24 then (if pc < 13 then (if pc < 5 then (if pc < 2 then (if pc = 0 then some (.bipush (-6), 2) else none) else (if pc < 4 then (if pc = 2 then some (.istore 4, 2) else none) else (if pc = 4 then some (.iconst 0, 1) else none))) else (if pc < 9 then (if pc < 7 then (if pc = 5 then some (.istore 5, 2) else none) else (if pc = 7 then some (.iload 5, 2) else none)) else (if pc < 10 then (if pc = 9 then some (.aload_n 0, 1) else none) else (if pc = 10 then some (.getfield 7, 3) else none)))) else (if pc < 18 then (if pc < 16 then (if pc < 14 then (if pc = 13 then some (.iload_n 1, 1) else none) else (if pc = 14 then some (.bipush 11, 2) else none)) else (if pc < 17 then (if pc = 16 then some (.iadd, 1) else none) else (if pc = 17 then some (.iload_n 2, 1) else none))) else (if pc < 20 then (if pc < 19 then (if pc = 18 then some (.iadd, 1) else none) else (if pc = 19 then some (.iaload, 1) else none)) else (if pc < 23 then (if pc = 20 then some (.if_icmp .ge 34, 3) else none) else (if pc = 23 then some (.aload_n 0, 1) else none))))) else (if pc < 39 then (if pc < 31 then (if pc < 28 then (if pc < 27 then (if pc = 24 then some (.getfield 7, 3) else none) else (if pc = 27 then some (.iload_n 1, 1) else none)) else (if pc < 29 then (if pc = 28 then some (.iload_n 2, 1) else none) else (if pc = 29 then some (.iload 5, 2) else none))) else (if pc < 35 then (if pc < 34 then (if pc = 31 then some (.invokestatic 39, 3) else none) else (if pc = 34 then some (.iaload, 1) else none)) else (if pc < 36 then (if pc = 35 then some (.iload_n 3, 1) else none) else (if pc = 36 then some (.if_icmp .ne 8, 3) else none)))) else (if pc < 48 then (if pc < 44 then (if pc < 41 then (if pc = 39 then some (.iload 5, 2) else none) else (if pc = 41 then some (.goto 5, 3) else none)) else (if pc < 46 then (if pc = 44 then some (.iload 4, 2) else none) else (if pc = 46 then some (.istore 4, 2) else none))) else (if pc < 54 then (if pc < 51 then (if pc = 48 then some (.iinc 5 1, 3) else none) else (if pc = 51 then some (.goto (-44), 3) else none)) else (if pc < 56 then (if pc = 54 then some (.iload 4, 2) else none) else (if pc = 56 then some (.ireturn, 1) else none)))))
set_option maxRecDepth 100000 in
theorem xo_127_c0 : ([0, 2, 4, 5, 7, 9, 10, 13, 14, 16, 17, 18, 19, 20, 23, 24, 27, 28, 29, 31, 34, 35, 36, 39, 41, 44, 46, 48, 51, 54, 56] : List Nat).all (fun pc => match xo_127 pc with | none => true | some r => decide (decode cX7_placeOf pc = .ok r)) = true := by decide +kernel
set_option maxRecDepth 100000 in
theorem xo_127_no : (List.range 57).all (fun pc => (xo_127 pc).isNone || (([0, 2, 4, 5, 7, 9, 10, 13, 14, 16, 17, 18, 19, 20, 23, 24, 27, 28, 29, 31, 34, 35, 36, 39, 41, 44, 46, 48, 51, 54, 56] : List Nat).contains pc)) = true := by decide +kernel
theorem xo_127_top (pc : Nat) (h : 57 ≤ pc) : xo_127 pc = none := if_pos h
theorem xo_127_ok (pc : Nat) (r : Instr × Nat) (h : xo_127 pc = some r) : decode cX7_placeOf pc = .ok r := by
  rcases Nat.lt_or_ge pc 57 with hl | hl
  · have h1 := List.all_eq_true.mp xo_127_no pc (List.mem_range.mpr hl)
    rw [h] at h1
    simp only [Option.isNone_some, Bool.false_or, Bool.or_eq_true, List.contains_iff_mem, or_assoc] at h1
    rcases h1 with h1
    · have h2 := List.all_eq_true.mp xo_127_c0 pc h1
      rw [h] at h2
      exact of_decide_eq_true h2
  · rw [show xo_127 pc = none from if_pos hl] at h; cases h
/-- X7_waitsFor -/
def xo_128 (pc : Nat) : Option (Instr × Nat) := if 43 ≤ pc then none else if pc < 20 then (if pc < 8 then (if pc < 3 then (if pc < 1 then (if pc = 0 then some (.iconst 0, 1) else none) else (if pc < 2 then (if pc = 1 then some (.istore_n 3, 1) else none) else (if pc = 2 then some (.iconst 0, 1) else none))) else (if pc < 5 then (if pc = 3 then some (.istore 4, 2) else none) else (if pc < 7 then (if pc = 5 then some (.iload 4, 2) else none) else (if pc = 7 then some (.iconst 3, 1) else none)))) else (if pc < 13 then (if pc < 11 then (if pc = 8 then some (.if_icmp .ge 33, 3) else none) else (if pc < 12 then (if pc = 11 then some (.iload_n 3, 1) else none) else (if pc = 12 then some (.aload_n 0, 1) else none))) else (if pc < 16 then (if pc < 14 then (if pc = 13 then some (.iload_n 1, 1) else none) else (if pc = 14 then some (.iload 4, 2) else none)) else (if pc < 17 then (if pc = 16 then some (.iload_n 2, 1) else none) else (if pc = 17 then some (.invokevirtual 43, 3) else none))))) else (if pc < 32 then (if pc < 26 then (if pc < 22 then (if pc = 20 then some (.bipush (-6), 2) else none) else (if pc < 25 then (if pc = 22 then some (.if_icmp .ne 7, 3) else none) else (if pc = 25 then some (.iconst 0, 1) else none))) else (if pc < 29 then (if pc = 26 then some (.goto 7, 3) else none) else (if pc < 30 then (if pc = 29 then some (.iconst 1, 1) else none) else (if pc = 30 then some (.iload 4, 2) else none)))) else (if pc < 35 then (if pc < 33 then (if pc = 32 then some (.ishl, 1) else none) else (if pc < 34 then (if pc = 33 then some (.ior, 1) else none) else (if pc = 34 then some (.istore_n 3, 1) else none))) else (if pc < 41 then (if pc < 38 then (if pc = 35 then some (.iinc 4 1, 3) else none) else (if pc = 38 then some (.goto (-33), 3) else none)) else (if pc < 42 then (if pc = 41 then some (.iload_n 3, 1) else none) else (if pc = 42 then some (.ireturn, 1) else none)))))
set_option maxRecDepth 100000 in
theorem xo_128_c0 : ([0, 1, 2, 3, 5, 7, 8, 11, 12, 13, 14, 16, 17, 20, 22, 25, 26, 29, 30, 32, 33, 34, 35, 38, 41, 42] : List Nat).all (fun pc => match xo_128 pc with | none => true | some r => decide (decode cX7_waitsFor pc = .ok r)) = true := by decide +kernel
set_option maxRecDepth 100000 in
theorem xo_128_no : (List.range 43).all (fun pc => (xo_128 pc).isNone || (([0, 1, 2, 3, 5, 7, 8, 11, 12, 13, 14, 16, 17, 20, 22, 25, 26, 29, 30, 32, 33, 34, 35, 38, 41, 42] : List Nat).contains pc)) = true := by decide +kernel
theorem xo_128_top (pc : Nat) (h : 43 ≤ pc) : xo_128 pc = none := if_pos h
theorem xo_128_ok (pc : Nat) (r : Instr × Nat) (h : xo_128 pc = some r) : decode cX7_waitsFor pc = .ok r := by
  rcases Nat.lt_or_ge pc 43 with hl | hl
  · have h1 := List.all_eq_true.mp xo_128_no pc (List.mem_range.mpr hl)
    rw [h] at h1
    simp only [Option.isNone_some, Bool.false_or, Bool.or_eq_true, List.contains_iff_mem, or_assoc] at h1
    rcases h1 with h1
    · have h2 := List.all_eq_true.mp xo_128_c0 pc h1
      rw [h] at h2
      exact of_decide_eq_true h2
  · rw [show xo_128 pc = none from if_pos hl] at h; cases h
/-- X7_leavesLists -/
def xo_129 (pc : Nat) : Option (Instr × Nat) := if 97 ≤ pc then none else if pc < 42 then (if pc < 23 then (if pc < 9 then (if pc < 3 then (if pc < 1 then (if pc = 0 then some (.iconst 0, 1) else none) else (if pc < 2 then (if pc = 1 then some (.istore_n 3, 1) else none) else (if pc = 2 then some (.iload_n 3, 1) else none))) else (if pc < 7 then (if pc < 4 then (if pc = 3 then some (.iconst 3, 1) else none) else (if pc = 4 then some (.if_icmp .ge 92, 3) else none)) else (if pc < 8 then (if pc = 7 then some (.aload_n 0, 1) else none) else (if pc = 8 then some (.iload_n 1, 1) else none)))) else (if pc < 14 then (if pc < 10 then (if pc = 9 then some (.iload_n 3, 1) else none) else (if pc < 11 then (if pc = 10 then some (.iload_n 2, 1) else none) else (if pc = 11 then some (.invokevirtual 43, 3) else none))) else (if pc < 18 then (if pc < 16 then (if pc = 14 then some (.istore 4, 2) else none) else (if pc = 16 then some (.iload 4, 2) else none)) else (if pc < 20 then (if pc = 18 then some (.bipush (-6), 2) else none) else (if pc = 20 then some (.if_icmp .eq 70, 3) else none))))) else (if pc < 33 then (if pc < 28 then (if pc < 24 then (if pc = 23 then some (.aload_n 0, 1) else none) else (if pc < 27 then (if pc = 24 then some (.getfield 7, 3) else none) else (if pc = 27 then some (.iload_n 1, 1) else none))) else (if pc < 31 then (if pc < 30 then (if pc = 28 then some (.bipush 11, 2) else none) else (if pc = 30 then some (.iadd, 1) else none)) else (if pc < 32 then (if pc = 31 then some (.iload_n 3, 1) else none) else (if pc = 32 then some (.iadd, 1) else none)))) else (if pc < 37 then (if pc < 35 then (if pc < 34 then (if pc = 33 then some (.dup2, 1) else none) else (if pc = 34 then some (.iaload, 1) else none)) else (if pc < 36 then (if pc = 35 then some (.iconst 1, 1) else none) else (if pc = 36 then some (.isub, 1) else none))) else (if pc < 39 then (if pc < 38 then (if pc = 37 then some (.iastore, 1) else none) else (if pc = 38 then some (.iload_n 1, 1) else none)) else (if pc < 40 then (if pc = 39 then some (.iload_n 3, 1) else none) else (if pc = 40 then some (.iload 4, 2) else none)))))) else (if pc < 68 then (if pc < 55 then (if pc < 49 then (if pc < 45 then (if pc = 42 then some (.invokestatic 39, 3) else none) else (if pc < 47 then (if pc = 45 then some (.istore 5, 2) else none) else (if pc = 47 then some (.iload 5, 2) else none))) else (if pc < 51 then (if pc < 50 then (if pc = 49 then some (.iload_n 1, 1) else none) else (if pc = 50 then some (.iload_n 3, 1) else none)) else (if pc < 52 then (if pc = 51 then some (.aload_n 0, 1) else none) else (if pc = 52 then some (.getfield 7, 3) else none)))) else (if pc < 60 then (if pc < 58 then (if pc < 56 then (if pc = 55 then some (.iload_n 1, 1) else none) else (if pc = 56 then some (.bipush 11, 2) else none)) else (if pc < 59 then (if pc = 58 then some (.iadd, 1) else none) else (if pc = 59 then some (.iload_n 3, 1) else none))) else (if pc < 62 then (if pc < 61 then (if pc = 60 then some (.iadd, 1) else none) else (if pc = 61 then some (.iaload, 1) else none)) else (if pc < 65 then (if pc = 62 then some (.invokestatic 39, 3) else none) else (if pc = 65 then some (.if_icmp .ge 25, 3) else none))))) else (if pc < 81 then (if pc < 74 then (if pc < 69 then (if pc = 68 then some (.aload_n 0, 1) else none) else (if pc < 72 then (if pc = 69 then some (.getfield 7, 3) else none) else (if pc = 72 then some (.iload 5, 2) else none))) else (if pc < 78 then (if pc < 75 then (if pc = 74 then some (.aload_n 0, 1) else none) else (if pc = 75 then some (.getfield 7, 3) else none)) else (if pc < 80 then (if pc = 78 then some (.iload 5, 2) else none) else (if pc = 80 then some (.iconst 3, 1) else none)))) else (if pc < 87 then (if pc < 83 then (if pc < 82 then (if pc = 81 then some (.iadd, 1) else none) else (if pc = 82 then some (.iaload, 1) else none)) else (if pc < 84 then (if pc = 83 then some (.iastore, 1) else none) else (if pc = 84 then some (.iinc 5 1, 3) else none))) else (if pc < 93 then (if pc < 90 then (if pc = 87 then some (.goto (-40), 3) else none) else (if pc = 90 then some (.iinc 3 1, 3) else none)) else (if pc < 96 then (if pc = 93 then some (.goto (-91), 3) else none) else (if pc = 96 then some (.return_, 1) else none))))))
set_option maxRecDepth 100000 in
theorem xo_129_c0 : ([0, 1, 2, 3, 4, 7, 8, 9, 10, 11, 14, 16, 18, 20, 23, 24, 27, 28, 30, 31, 32, 33, 34, 35, 36, 37, 38, 39, 40, 42, 45, 47, 49, 50, 51, 52, 55, 56, 58, 59, 60, 61, 62, 65, 68, 69, 72, 74, 75, 78, 80] : List Nat).all (fun pc => match xo_129 pc with | none => true | some r => decide (decode cX7_leavesLists pc = .ok r)) = true := by decide +kernel
set_option maxRecDepth 100000 in
theorem xo_129_c1 : ([81, 82, 83, 84, 87, 90, 93, 96] : List Nat).all (fun pc => match xo_129 pc with | none => true | some r => decide (decode cX7_leavesLists pc = .ok r)) = true := by decide +kernel
set_option maxRecDepth 100000 in
theorem xo_129_no : (List.range 97).all (fun pc => (xo_129 pc).isNone || (([0, 1, 2, 3, 4, 7, 8, 9, 10, 11, 14, 16, 18, 20, 23, 24, 27, 28, 30, 31, 32, 33, 34, 35, 36, 37, 38, 39, 40, 42, 45, 47, 49, 50, 51, 52, 55, 56, 58, 59, 60, 61, 62, 65, 68, 69, 72, 74, 75, 78, 80] : List Nat).contains pc || ([81, 82, 83, 84, 87, 90, 93, 96] : List Nat).contains pc)) = true := by decide +kernel
theorem xo_129_top (pc : Nat) (h : 97 ≤ pc) : xo_129 pc = none := if_pos h
theorem xo_129_ok (pc : Nat) (r : Instr × Nat) (h : xo_129 pc = some r) : decode cX7_leavesLists pc = .ok r := by
  rcases Nat.lt_or_ge pc 97 with hl | hl
  · have h1 := List.all_eq_true.mp xo_129_no pc (List.mem_range.mpr hl)
    rw [h] at h1
    simp only [Option.isNone_some, Bool.false_or, Bool.or_eq_true, List.contains_iff_mem, or_assoc] at h1
    rcases h1 with h1 | h1
    · have h2 := List.all_eq_true.mp xo_129_c0 pc h1
      rw [h] at h2
      exact of_decide_eq_true h2
    · have h2 := List.all_eq_true.mp xo_129_c1 pc h1
      rw [h] at h2
      exact of_decide_eq_true h2
  · rw [show xo_129 pc = none from if_pos hl] at h; cases h
/-- X7_getsPermit -/
def xo_130 (pc : Nat) : Option (Instr × Nat) := if 56 ≤ pc then none else if pc < 30 then (if pc < 16 then (if pc < 9 then (if pc < 4 then (if pc < 1 then (if pc = 0 then some (.aload_n 0, 1) else none) else (if pc = 1 then some (.getfield 7, 3) else none)) else (if pc < 5 then (if pc = 4 then some (.iload_n 1, 1) else none) else (if pc < 6 then (if pc = 5 then some (.iload_n 2, 1) else none) else (if pc = 6 then some (.invokestatic 20, 3) else none)))) else (if pc < 11 then (if pc < 10 then (if pc = 9 then some (.iload_n 3, 1) else none) else (if pc = 10 then some (.iastore, 1) else none)) else (if pc < 12 then (if pc = 11 then some (.aload_n 0, 1) else none) else (if pc < 15 then (if pc = 12 then some (.getfield 7, 3) else none) else (if pc = 15 then some (.iload_n 1, 1) else none))))) else (if pc < 23 then (if pc < 20 then (if pc < 17 then (if pc = 16 then some (.iload_n 2, 1) else none) else (if pc = 17 then some (.invokestatic 20, 3) else none)) else (if pc < 21 then (if pc = 20 then some (.iconst 1, 1) else none) else (if pc < 22 then (if pc = 21 then some (.iadd, 1) else none) else (if pc = 22 then some (.aload_n 0, 1) else none)))) else (if pc < 27 then (if pc < 26 then (if pc = 23 then some (.getfield 7, 3) else none) else (if pc = 26 then some (.iload_n 1, 1) else none)) else (if pc < 28 then (if pc = 27 then some (.iconst 4, 1) else none) else (if pc < 29 then (if pc = 28 then some (.iadd, 1) else none) else (if pc = 29 then some (.iaload, 1) else none)))))) else (if pc < 44 then (if pc < 36 then (if pc < 33 then (if pc < 32 then (if pc = 30 then some (.iload 4, 2) else none) else (if pc = 32 then some (.iadd, 1) else none)) else (if pc < 34 then (if pc = 33 then some (.iconst 1, 1) else none) else (if pc < 35 then (if pc = 34 then some (.isub, 1) else none) else (if pc = 35 then some (.iastore, 1) else none)))) else (if pc < 40 then (if pc < 37 then (if pc = 36 then some (.aload_n 0, 1) else none) else (if pc = 37 then some (.getfield 7, 3) else none)) else (if pc < 41 then (if pc = 40 then some (.iload_n 1, 1) else none) else (if pc < 43 then (if pc = 41 then some (.bipush 7, 2) else none) else (if pc = 43 then some (.iadd, 1) else none))))) else (if pc < 49 then (if pc < 46 then (if pc < 45 then (if pc = 44 then some (.dup2, 1) else none) else (if pc = 45 then some (.iaload, 1) else none)) else (if pc < 47 then (if pc = 46 then some (.iconst 1, 1) else none) else (if pc < 48 then (if pc = 47 then some (.iadd, 1) else none) else (if pc = 48 then some (.iastore, 1) else none)))) else (if pc < 51 then (if pc < 50 then (if pc = 49 then some (.aload_n 0, 1) else none) else (if pc = 50 then some (.iload_n 1, 1) else none)) else (if pc < 52 then (if pc = 51 then some (.iload_n 2, 1) else none) else (if pc < 55 then (if pc = 52 then some (.invokevirtual 46, 3) else none) else (if pc = 55 then some (.return_, 1) else none))))))
set_option maxRecDepth 100000 in
theorem xo_130_c0 : ([0, 1, 4, 5, 6, 9, 10, 11, 12, 15, 16, 17, 20, 21, 22, 23, 26, 27, 28, 29, 30, 32, 33, 34, 35, 36, 37, 40, 41, 43, 44, 45, 46, 47, 48, 49, 50, 51, 52, 55] : List Nat).all (fun pc => match xo_130 pc with | none => true | some r => decide (decode cX7_getsPermit pc = .ok r)) = true := by decide +kernel
set_option maxRecDepth 100000 in
theorem xo_130_no : (List.range 56).all (fun pc => (xo_130 pc).isNone || (([0, 1, 4, 5, 6, 9, 10, 11, 12, 15, 16, 17, 20, 21, 22, 23, 26, 27, 28, 29, 30, 32, 33, 34, 35, 36, 37, 40, 41, 43, 44, 45, 46, 47, 48, 49, 50, 51, 52, 55] : List Nat).contains pc)) = true := by decide +kernel
theorem xo_130_top (pc : Nat) (h : 56 ≤ pc) : xo_130 pc = none := if_pos h
theorem xo_130_ok (pc : Nat) (r : Instr × Nat) (h : xo_130 pc = some r) : decode cX7_getsPermit pc = .ok r := by
  rcases Nat.lt_or_ge pc 56 with hl | hl
  · have h1 := List.all_eq_true.mp xo_130_no pc (List.mem_range.mpr hl)
    rw [h] at h1
    simp only [Option.isNone_some, Bool.false_or, Bool.or_eq_true, List.contains_iff_mem, or_assoc] at h1
    rcases h1 with h1
    · have h2 := List.all_eq_true.mp xo_130_c0 pc h1
      rw [h] at h2
      exact of_decide_eq_true h2
  · rw [show xo_130 pc = none from if_pos hl] at h; cases h
/-- X7_movesUp -/
def xo_131 (pc : Nat) : Option (Instr × Nat) := if 82 ≤ pc then none else if pc < 38 then (if pc < 17 then (if pc < 6 then (if pc < 3 then (if pc < 1 then (if pc = 0 then some (.iconst 0, 1) else none) else (if pc < 2 then (if pc = 1 then some (.istore_n 2, 1) else none) else (if pc = 2 then some (.iconst 0, 1) else none))) else (if pc < 4 then (if pc = 3 then some (.istore_n 3, 1) else none) else (if pc < 5 then (if pc = 4 then some (.iload_n 3, 1) else none) else (if pc = 5 then some (.iconst 3, 1) else none)))) else (if pc < 13 then (if pc < 9 then (if pc = 6 then some (.if_icmp .ge 74, 3) else none) else (if pc < 10 then (if pc = 9 then some (.aload_n 0, 1) else none) else (if pc = 10 then some (.getfield 7, 3) else none))) else (if pc < 14 then (if pc = 13 then some (.iload_n 1, 1) else none) else (if pc < 16 then (if pc = 14 then some (.bipush 11, 2) else none) else (if pc = 16 then some (.iadd, 1) else none))))) else (if pc < 25 then (if pc < 20 then (if pc < 18 then (if pc = 17 then some (.iload_n 3, 1) else none) else (if pc < 19 then (if pc = 18 then some (.iadd, 1) else none) else (if pc = 19 then some (.iaload, 1) else none))) else (if pc < 23 then (if pc = 20 then some (.ifCond .le 54, 3) else none) else (if pc < 24 then (if pc = 23 then some (.aload_n 0, 1) else none) else (if pc = 24 then some (.iload_n 1, 1) else none)))) else (if pc < 30 then (if pc < 26 then (if pc = 25 then some (.iload_n 3, 1) else none) else (if pc < 29 then (if pc = 26 then some (.invokevirtual 49, 3) else none) else (if pc = 29 then some (.aload_n 0, 1) else none))) else (if pc < 32 then (if pc < 31 then (if pc = 30 then some (.iload_n 1, 1) else none) else (if pc = 31 then some (.iload_n 3, 1) else none)) else (if pc < 35 then (if pc = 32 then some (.invokevirtual 52, 3) else none) else (if pc = 35 then some (.if_icmp .ge 39, 3) else none)))))) else (if pc < 57 then (if pc < 46 then (if pc < 41 then (if pc < 39 then (if pc = 38 then some (.aload_n 0, 1) else none) else (if pc < 40 then (if pc = 39 then some (.iload_n 1, 1) else none) else (if pc = 40 then some (.aload_n 0, 1) else none))) else (if pc < 44 then (if pc = 41 then some (.getfield 7, 3) else none) else (if pc < 45 then (if pc = 44 then some (.iload_n 1, 1) else none) else (if pc = 45 then some (.iload_n 3, 1) else none)))) else (if pc < 51 then (if pc < 47 then (if pc = 46 then some (.iconst 0, 1) else none) else (if pc < 50 then (if pc = 47 then some (.invokestatic 39, 3) else none) else (if pc = 50 then some (.iaload, 1) else none))) else (if pc < 53 then (if pc < 52 then (if pc = 51 then some (.iload_n 3, 1) else none) else (if pc = 52 then some (.aload_n 0, 1) else none)) else (if pc < 56 then (if pc = 53 then some (.getfield 7, 3) else none) else (if pc = 56 then some (.iload_n 1, 1) else none))))) else (if pc < 65 then (if pc < 62 then (if pc < 58 then (if pc = 57 then some (.iload_n 3, 1) else none) else (if pc < 59 then (if pc = 58 then some (.iconst 0, 1) else none) else (if pc = 59 then some (.invokestatic 39, 3) else none))) else (if pc < 63 then (if pc = 62 then some (.iconst 1, 1) else none) else (if pc < 64 then (if pc = 63 then some (.iadd, 1) else none) else (if pc = 64 then some (.iaload, 1) else none)))) else (if pc < 74 then (if pc < 68 then (if pc = 65 then some (.invokevirtual 55, 3) else none) else (if pc < 71 then (if pc = 68 then some (.iinc 2 1, 3) else none) else (if pc = 71 then some (.goto (-62), 3) else none))) else (if pc < 80 then (if pc < 77 then (if pc = 74 then some (.iinc 3 1, 3) else none) else (if pc = 77 then some (.goto (-73), 3) else none)) else (if pc < 81 then (if pc = 80 then some (.iload_n 2, 1) else none) else (if pc = 81 then some (.ireturn, 1) else none))))))
set_option maxRecDepth 100000 in
theorem xo_131_c0 : ([0, 1, 2, 3, 4, 5, 6, 9, 10, 13, 14, 16, 17, 18, 19, 20, 23, 24, 25, 26, 29, 30, 31, 32, 35, 38, 39, 40, 41, 44, 45, 46, 47, 50, 51, 52, 53, 56, 57, 58, 59, 62, 63, 64, 65, 68, 71, 74, 77, 80, 81] : List Nat).all (fun pc => match xo_131 pc with | none => true | some r => decide (decode cX7_movesUp pc = .ok r)) = true := by decide +kernel
set_option maxRecDepth 100000 in
theorem xo_131_no : (List.range 82).all (fun pc => (xo_131 pc).isNone || (([0, 1, 2, 3, 4, 5, 6, 9, 10, 13, 14, 16, 17, 18, 19, 20, 23, 24, 25, 26, 29, 30, 31, 32, 35, 38, 39, 40, 41, 44, 45, 46, 47, 50, 51, 52, 53, 56, 57, 58, 59, 62, 63, 64, 65, 68, 71, 74, 77, 80, 81] : List Nat).contains pc)) = true := by decide +kernel
theorem xo_131_top (pc : Nat) (h : 82 ≤ pc) : xo_131 pc = none := if_pos h
theorem xo_131_ok (pc : Nat) (r : Instr × Nat) (h : xo_131 pc = some r) : decode cX7_movesUp pc = .ok r := by
  rcases Nat.lt_or_ge pc 82 with hl | hl
  · have h1 := List.all_eq_true.mp xo_131_no pc (List.mem_range.mpr hl)
    rw [h] at h1
    simp only [Option.isNone_some, Bool.false_or, Bool.or_eq_true, List.contains_iff_mem, or_assoc] at h1
    rcases h1 with h1
    · have h2 := List.all_eq_true.mp xo_131_c0 pc h1
      rw [h] at h2
      exact of_decide_eq_true h2
  · rw [show xo_131 pc = none from if_pos hl] at h; cases h
/-- X7_asksFor -/
def xo_132 (pc : Nat) : Option (Instr × Nat) := if 121 ≤ pc then none else if pc < 64 then (if pc < 31 then (if pc < 16 then (if pc < 7 then (if pc < 2 then (if pc < 1 then (if pc = 0 then some (.aload_n 0, 1) else none) else (if pc = 1 then some (.iload_n 1, 1) else none)) else (if pc < 3 then (if pc = 2 then some (.iload_n 3, 1) else none) else (if pc < 6 then (if pc = 3 then some (.invokevirtual 49, 3) else none) else (if pc = 6 then some (.aload_n 0, 1) else none)))) else (if pc < 9 then (if pc < 8 then (if pc = 7 then some (.iload_n 1, 1) else none) else (if pc = 8 then some (.iload_n 3, 1) else none)) else (if pc < 12 then (if pc = 9 then some (.invokevirtual 52, 3) else none) else (if pc < 15 then (if pc = 12 then some (.if_icmp .ge 28, 3) else none) else (if pc = 15 then some (.aload_n 0, 1) else none))))) else (if pc < 24 then (if pc < 20 then (if pc < 19 then (if pc = 16 then some (.getfield 7, 3) else none) else (if pc = 19 then some (.iload_n 1, 1) else none)) else (if pc < 22 then (if pc = 20 then some (.bipush 11, 2) else none) else (if pc < 23 then (if pc = 22 then some (.iadd, 1) else none) else (if pc = 23 then some (.iload_n 3, 1) else none)))) else (if pc < 26 then (if pc < 25 then (if pc = 24 then some (.iadd, 1) else none) else (if pc = 25 then some (.iaload, 1) else none)) else (if pc < 29 then (if pc = 26 then some (.ifCond .ne 14, 3) else none) else (if pc < 30 then (if pc = 29 then some (.aload_n 0, 1) else none) else (if pc = 30 then some (.iload_n 1, 1) else none)))))) else (if pc < 46 then (if pc < 39 then (if pc < 33 then (if pc < 32 then (if pc = 31 then some (.iload_n 2, 1) else none) else (if pc = 32 then some (.iload_n 3, 1) else none)) else (if pc < 35 then (if pc = 33 then some (.iload 4, 2) else none) else (if pc < 38 then (if pc = 35 then some (.invokevirtual 55, 3) else none) else (if pc = 38 then some (.iconst 0, 1) else none)))) else (if pc < 41 then (if pc < 40 then (if pc = 39 then some (.ireturn, 1) else none) else (if pc = 40 then some (.iload_n 1, 1) else none)) else (if pc < 42 then (if pc = 41 then some (.iload_n 3, 1) else none) else (if pc < 43 then (if pc = 42 then some (.aload_n 0, 1) else none) else (if pc = 43 then some (.getfield 7, 3) else none))))) else (if pc < 52 then (if pc < 49 then (if pc < 47 then (if pc = 46 then some (.iload_n 1, 1) else none) else (if pc = 47 then some (.bipush 11, 2) else none)) else (if pc < 50 then (if pc = 49 then some (.iadd, 1) else none) else (if pc < 51 then (if pc = 50 then some (.iload_n 3, 1) else none) else (if pc = 51 then some (.iadd, 1) else none)))) else (if pc < 58 then (if pc < 53 then (if pc = 52 then some (.iaload, 1) else none) else (if pc < 56 then (if pc = 53 then some (.invokestatic 39, 3) else none) else (if pc = 56 then some (.istore 5, 2) else none))) else (if pc < 59 then (if pc = 58 then some (.aload_n 0, 1) else none) else (if pc < 62 then (if pc = 59 then some (.getfield 7, 3) else none) else (if pc = 62 then some (.iload 5, 2) else none))))))) else (if pc < 94 then (if pc < 78 then (if pc < 72 then (if pc < 66 then (if pc < 65 then (if pc = 64 then some (.iload_n 2, 1) else none) else (if pc = 65 then some (.iastore, 1) else none)) else (if pc < 67 then (if pc = 66 then some (.aload_n 0, 1) else none) else (if pc < 70 then (if pc = 67 then some (.getfield 7, 3) else none) else (if pc = 70 then some (.iload 5, 2) else none)))) else (if pc < 74 then (if pc < 73 then (if pc = 72 then some (.iconst 1, 1) else none) else (if pc = 73 then some (.iadd, 1) else none)) else (if pc < 76 then (if pc = 74 then some (.iload 4, 2) else none) else (if pc < 77 then (if pc = 76 then some (.iastore, 1) else none) else (if pc = 77 then some (.aload_n 0, 1) else none))))) else (if pc < 86 then (if pc < 83 then (if pc < 81 then (if pc = 78 then some (.getfield 7, 3) else none) else (if pc = 81 then some (.iload 5, 2) else none)) else (if pc < 84 then (if pc = 83 then some (.iconst 2, 1) else none) else (if pc < 85 then (if pc = 84 then some (.iadd, 1) else none) else (if pc = 85 then some (.aload_n 0, 1) else none)))) else (if pc < 91 then (if pc < 89 then (if pc = 86 then some (.getfield 7, 3) else none) else (if pc < 90 then (if pc = 89 then some (.iload_n 1, 1) else none) else (if pc = 90 then some (.iconst 4, 1) else none))) else (if pc < 92 then (if pc = 91 then some (.iadd, 1) else none) else (if pc < 93 then (if pc = 92 then some (.iaload, 1) else none) else (if pc = 93 then some (.iastore, 1) else none)))))) else (if pc < 107 then (if pc < 102 then (if pc < 98 then (if pc < 95 then (if pc = 94 then some (.aload_n 0, 1) else none) else (if pc = 95 then some (.getfield 7, 3) else none)) else (if pc < 99 then (if pc = 98 then some (.iload_n 1, 1) else none) else (if pc < 101 then (if pc = 99 then some (.bipush 11, 2) else none) else (if pc = 101 then some (.iadd, 1) else none)))) else (if pc < 104 then (if pc < 103 then (if pc = 102 then some (.iload_n 3, 1) else none) else (if pc = 103 then some (.iadd, 1) else none)) else (if pc < 105 then (if pc = 104 then some (.dup2, 1) else none) else (if pc < 106 then (if pc = 105 then some (.iaload, 1) else none) else (if pc = 106 then some (.iconst 1, 1) else none))))) else (if pc < 114 then (if pc < 109 then (if pc < 108 then (if pc = 107 then some (.iadd, 1) else none) else (if pc = 108 then some (.iastore, 1) else none)) else (if pc < 110 then (if pc = 109 then some (.aload_n 0, 1) else none) else (if pc < 113 then (if pc = 110 then some (.getfield 7, 3) else none) else (if pc = 113 then some (.iload_n 1, 1) else none)))) else (if pc < 118 then (if pc < 116 then (if pc = 114 then some (.bipush 11, 2) else none) else (if pc < 117 then (if pc = 116 then some (.iadd, 1) else none) else (if pc = 117 then some (.iload_n 3, 1) else none))) else (if pc < 119 then (if pc = 118 then some (.iadd, 1) else none) else (if pc < 120 then (if pc = 119 then some (.iaload, 1) else none) else (if pc = 120 then some (.ireturn, 1) else none)))))))
set_option maxRecDepth 100000 in
theorem xo_132_c0 : ([0, 1, 2, 3, 6, 7, 8, 9, 12, 15, 16, 19, 20, 22, 23, 24, 25, 26, 29, 30, 31, 32, 33, 35, 38, 39, 40, 41, 42, 43, 46, 47, 49, 50, 51, 52, 53, 56, 58, 59, 62] : List Nat).all (fun pc => match xo_132 pc with | none => true | some r => decide (decode cX7_asksFor pc = .ok r)) = true := by decide +kernel
set_option maxRecDepth 100000 in
theorem xo_132_c1 : ([64, 65, 66, 67, 70, 72, 73, 74, 76, 77, 78, 81, 83, 84, 85, 86, 89, 90, 91, 92, 93, 94, 95, 98, 99, 101, 102, 103, 104, 105, 106, 107, 108, 109, 110, 113, 114, 116, 117, 118, 119] : List Nat).all (fun pc => match xo_132 pc with | none => true | some r => decide (decode cX7_asksFor pc = .ok r)) = true := by decide +kernel
set_option maxRecDepth 100000 in
theorem xo_132_c2 : ([120] : List Nat).all (fun pc => match xo_132 pc with | none => true | some r => decide (decode cX7_asksFor pc = .ok r)) = true := by decide +kernel
set_option maxRecDepth 100000 in
theorem xo_132_no : (List.range 121).all (fun pc => (xo_132 pc).isNone || (([0, 1, 2, 3, 6, 7, 8, 9, 12, 15, 16, 19, 20, 22, 23, 24, 25, 26, 29, 30, 31, 32, 33, 35, 38, 39, 40, 41, 42, 43, 46, 47, 49, 50, 51, 52, 53, 56, 58, 59, 62] : List Nat).contains pc || ([64, 65, 66, 67, 70, 72, 73, 74, 76, 77, 78, 81, 83, 84, 85, 86, 89, 90, 91, 92, 93, 94, 95, 98, 99, 101, 102, 103, 104, 105, 106, 107, 108, 109, 110, 113, 114, 116, 117, 118, 119] : List Nat).contains pc || ([120] : List Nat).contains pc)) = true := by decide +kernel
theorem xo_132_top (pc : Nat) (h : 121 ≤ pc) : xo_132 pc = none := if_pos h
theorem xo_132_ok (pc : Nat) (r : Instr × Nat) (h : xo_132 pc = some r) : decode cX7_asksFor pc = .ok r := by
  rcases Nat.lt_or_ge pc 121 with hl | hl
  · have h1 := List.all_eq_true.mp xo_132_no pc (List.mem_range.mpr hl)
    rw [h] at h1
    simp only [Option.isNone_some, Bool.false_or, Bool.or_eq_true, List.contains_iff_mem, or_assoc] at h1
    rcases h1 with h1 | h1 | h1
    · have h2 := List.all_eq_true.mp xo_132_c0 pc h1
      rw [h] at h2
      exact of_decide_eq_true h2
    · have h2 := List.all_eq_true.mp xo_132_c1 pc h1
      rw [h] at h2
      exact of_decide_eq_true h2
    · have h2 := List.all_eq_true.mp xo_132_c2 pc h1
      rw [h] at h2
      exact of_decide_eq_true h2
  · rw [show xo_132 pc = none from if_pos hl] at h; cases h
/-- X7_endsPermit -/
def xo_133 (pc : Nat) : Option (Instr × Nat) := if 27 ≤ pc then none else if pc < 13 then (if pc < 6 then (if pc < 4 then (if pc < 1 then (if pc = 0 then some (.aload_n 0, 1) else none) else (if pc = 1 then some (.getfield 7, 3) else none)) else (if pc < 5 then (if pc = 4 then some (.iload_n 1, 1) else none) else (if pc = 5 then some (.iload_n 2, 1) else none))) else (if pc < 11 then (if pc < 9 then (if pc = 6 then some (.invokestatic 20, 3) else none) else (if pc = 9 then some (.bipush (-6), 2) else none)) else (if pc < 12 then (if pc = 11 then some (.iastore, 1) else none) else (if pc = 12 then some (.aload_n 0, 1) else none)))) else (if pc < 21 then (if pc < 17 then (if pc < 16 then (if pc = 13 then some (.getfield 7, 3) else none) else (if pc = 16 then some (.iload_n 1, 1) else none)) else (if pc < 18 then (if pc = 17 then some (.iload_n 2, 1) else none) else (if pc = 18 then some (.invokestatic 20, 3) else none))) else (if pc < 23 then (if pc < 22 then (if pc = 21 then some (.iconst 1, 1) else none) else (if pc = 22 then some (.iadd, 1) else none)) else (if pc < 25 then (if pc = 23 then some (.bipush (-6), 2) else none) else (if pc < 26 then (if pc = 25 then some (.iastore, 1) else none) else (if pc = 26 then some (.return_, 1) else none)))))
set_option maxRecDepth 100000 in
theorem xo_133_c0 : ([0, 1, 4, 5, 6, 9, 11, 12, 13, 16, 17, 18, 21, 22, 23, 25, 26] : List Nat).all (fun pc => match xo_133 pc with | none => true | some r => decide (decode cX7_endsPermit pc = .ok r)) = true := by decide +kernel
set_option maxRecDepth 100000 in
theorem xo_133_no : (List.range 27).all (fun pc => (xo_133 pc).isNone || (([0, 1, 4, 5, 6, 9, 11, 12, 13, 16, 17, 18, 21, 22, 23, 25, 26] : List Nat).contains pc)) = true := by decide +kernel
theorem xo_133_top (pc : Nat) (h : 27 ≤ pc) : xo_133 pc = none := if_pos h
theorem xo_133_ok (pc : Nat) (r : Instr × Nat) (h : xo_133 pc = some r) : decode cX7_endsPermit pc = .ok r := by
  rcases Nat.lt_or_ge pc 27 with hl | hl
  · have h1 := List.all_eq_true.mp xo_133_no pc (List.mem_range.mpr hl)
    rw [h] at h1
    simp only [Option.isNone_some, Bool.false_or, Bool.or_eq_true, List.contains_iff_mem, or_assoc] at h1
    rcases h1 with h1
    · have h2 := List.all_eq_true.mp xo_133_c0 pc h1
      rw [h] at h2
      exact of_decide_eq_true h2
  · rw [show xo_133 pc = none from if_pos hl] at h; cases h
/-- X7_day -/
def xo_134 (pc : Nat) : Option (Instr × Nat) := if 153 ≤ pc then none else if pc < 77 then (if pc < 37 then (if pc < 14 then (if pc < 8 then (if pc < 5 then (if pc < 1 then (if pc = 0 then some (.aload_n 0, 1) else none) else (if pc < 4 then (if pc = 1 then some (.getfield 7, 3) else none) else (if pc = 4 then some (.iload_n 1, 1) else none))) else (if pc < 6 then (if pc = 5 then some (.iconst 4, 1) else none) else (if pc < 7 then (if pc = 6 then some (.iadd, 1) else none) else (if pc = 7 then some (.dup2, 1) else none)))) else (if pc < 11 then (if pc < 9 then (if pc = 8 then some (.iaload, 1) else none) else (if pc < 10 then (if pc = 9 then some (.iconst 1, 1) else none) else (if pc = 10 then some (.iadd, 1) else none))) else (if pc < 12 then (if pc = 11 then some (.iastore, 1) else none) else (if pc < 13 then (if pc = 12 then some (.iconst 0, 1) else none) else (if pc = 13 then some (.istore_n 2, 1) else none))))) else (if pc < 25 then (if pc < 20 then (if pc < 15 then (if pc = 14 then some (.iload_n 2, 1) else none) else (if pc < 17 then (if pc = 15 then some (.bipush 20, 2) else none) else (if pc = 17 then some (.if_icmp .ge 130, 3) else none))) else (if pc < 21 then (if pc = 20 then some (.iload_n 1, 1) else none) else (if pc < 22 then (if pc = 21 then some (.iload_n 2, 1) else none) else (if pc = 22 then some (.invokestatic 20, 3) else none)))) else (if pc < 30 then (if pc < 26 then (if pc = 25 then some (.istore_n 3, 1) else none) else (if pc < 27 then (if pc = 26 then some (.aload_n 0, 1) else none) else (if pc = 27 then some (.getfield 7, 3) else none))) else (if pc < 32 then (if pc < 31 then (if pc = 30 then some (.iload_n 3, 1) else none) else (if pc = 31 then some (.iaload, 1) else none)) else (if pc < 34 then (if pc = 32 then some (.bipush (-6), 2) else none) else (if pc = 34 then some (.if_icmp .eq 28, 3) else none)))))) else (if pc < 56 then (if pc < 45 then (if pc < 42 then (if pc < 38 then (if pc = 37 then some (.aload_n 0, 1) else none) else (if pc < 41 then (if pc = 38 then some (.getfield 7, 3) else none) else (if pc = 41 then some (.iload_n 3, 1) else none))) else (if pc < 43 then (if pc = 42 then some (.iconst 1, 1) else none) else (if pc < 44 then (if pc = 43 then some (.iadd, 1) else none) else (if pc = 44 then some (.iaload, 1) else none)))) else (if pc < 50 then (if pc < 46 then (if pc = 45 then some (.aload_n 0, 1) else none) else (if pc < 49 then (if pc = 46 then some (.getfield 7, 3) else none) else (if pc = 49 then some (.iload_n 1, 1) else none))) else (if pc < 52 then (if pc < 51 then (if pc = 50 then some (.iconst 4, 1) else none) else (if pc = 51 then some (.iadd, 1) else none)) else (if pc < 53 then (if pc = 52 then some (.iaload, 1) else none) else (if pc = 53 then some (.if_icmp .ge 9, 3) else none))))) else (if pc < 66 then (if pc < 59 then (if pc < 57 then (if pc = 56 then some (.aload_n 0, 1) else none) else (if pc < 58 then (if pc = 57 then some (.iload_n 1, 1) else none) else (if pc = 58 then some (.iload_n 2, 1) else none))) else (if pc < 62 then (if pc = 59 then some (.invokevirtual 59, 3) else none) else (if pc < 63 then (if pc = 62 then some (.aload_n 0, 1) else none) else (if pc = 63 then some (.getfield 7, 3) else none)))) else (if pc < 70 then (if pc < 67 then (if pc = 66 then some (.iload_n 3, 1) else none) else (if pc < 69 then (if pc = 67 then some (.bipush 6, 2) else none) else (if pc = 69 then some (.iadd, 1) else none))) else (if pc < 73 then (if pc < 71 then (if pc = 70 then some (.iaload, 1) else none) else (if pc = 71 then some (.bipush (-6), 2) else none)) else (if pc < 76 then (if pc = 73 then some (.if_icmp .eq 68, 3) else none) else (if pc = 76 then some (.aload_n 0, 1) else none))))))) else (if pc < 116 then (if pc < 95 then (if pc < 85 then (if pc < 82 then (if pc < 80 then (if pc = 77 then some (.getfield 7, 3) else none) else (if pc < 81 then (if pc = 80 then some (.iload_n 1, 1) else none) else (if pc = 81 then some (.iconst 4, 1) else none))) else (if pc < 83 then (if pc = 82 then some (.iadd, 1) else none) else (if pc < 84 then (if pc = 83 then some (.iaload, 1) else none) else (if pc = 84 then some (.aload_n 0, 1) else none)))) else (if pc < 91 then (if pc < 88 then (if pc = 85 then some (.getfield 7, 3) else none) else (if pc < 89 then (if pc = 88 then some (.iload_n 3, 1) else none) else (if pc = 89 then some (.bipush 6, 2) else none))) else (if pc < 93 then (if pc < 92 then (if pc = 91 then some (.iadd, 1) else none) else (if pc = 92 then some (.iaload, 1) else none)) else (if pc < 94 then (if pc = 93 then some (.isub, 1) else none) else (if pc = 94 then some (.aload_n 0, 1) else none))))) else (if pc < 105 then (if pc < 100 then (if pc < 98 then (if pc = 95 then some (.getfield 7, 3) else none) else (if pc < 99 then (if pc = 98 then some (.iload_n 1, 1) else none) else (if pc = 99 then some (.iconst 3, 1) else none))) else (if pc < 101 then (if pc = 100 then some (.iadd, 1) else none) else (if pc < 102 then (if pc = 101 then some (.iaload, 1) else none) else (if pc = 102 then some (.if_icmp .lt 39, 3) else none)))) else (if pc < 110 then (if pc < 106 then (if pc = 105 then some (.aload_n 0, 1) else none) else (if pc < 109 then (if pc = 106 then some (.getfield 7, 3) else none) else (if pc = 109 then some (.iload_n 3, 1) else none))) else (if pc < 113 then (if pc < 112 then (if pc = 110 then some (.bipush 6, 2) else none) else (if pc = 112 then some (.iadd, 1) else none)) else (if pc < 115 then (if pc = 113 then some (.bipush (-6), 2) else none) else (if pc = 115 then some (.iastore, 1) else none)))))) else (if pc < 134 then (if pc < 125 then (if pc < 121 then (if pc < 117 then (if pc = 116 then some (.aload_n 0, 1) else none) else (if pc < 120 then (if pc = 117 then some (.getfield 7, 3) else none) else (if pc = 120 then some (.iload_n 3, 1) else none))) else (if pc < 123 then (if pc = 121 then some (.bipush 7, 2) else none) else (if pc < 124 then (if pc = 123 then some (.iadd, 1) else none) else (if pc = 124 then some (.dup2, 1) else none)))) else (if pc < 128 then (if pc < 126 then (if pc = 125 then some (.iaload, 1) else none) else (if pc < 127 then (if pc = 126 then some (.iconst 1, 1) else none) else (if pc = 127 then some (.iadd, 1) else none))) else (if pc < 130 then (if pc < 129 then (if pc = 128 then some (.iastore, 1) else none) else (if pc = 129 then some (.aload_n 0, 1) else none)) else (if pc < 133 then (if pc = 130 then some (.getfield 7, 3) else none) else (if pc = 133 then some (.iload_n 1, 1) else none))))) else (if pc < 140 then (if pc < 137 then (if pc < 135 then (if pc = 134 then some (.iconst 5, 1) else none) else (if pc < 136 then (if pc = 135 then some (.iadd, 1) else none) else (if pc = 136 then some (.dup2, 1) else none))) else (if pc < 138 then (if pc = 137 then some (.iaload, 1) else none) else (if pc < 139 then (if pc = 138 then some (.iconst 1, 1) else none) else (if pc = 139 then some (.iadd, 1) else none)))) else (if pc < 147 then (if pc < 141 then (if pc = 140 then some (.iastore, 1) else none) else (if pc < 144 then (if pc = 141 then some (.iinc 2 1, 3) else none) else (if pc = 144 then some (.goto (-130), 3) else none))) else (if pc < 149 then (if pc < 148 then (if pc = 147 then some (.aload_n 0, 1) else none) else (if pc = 148 then some (.iload_n 1, 1) else none)) else (if pc < 152 then (if pc = 149 then some (.invokevirtual 62, 3) else none) else (if pc = 152 then some (.ireturn, 1) else none)))))))
set_option maxRecDepth 100000 in
theorem xo_134_c0 : ([0, 1, 4, 5, 6, 7, 8, 9, 10, 11, 12, 13, 14, 15, 17, 20, 21, 22, 25, 26, 27, 30, 31, 32, 34, 37, 38, 41, 42, 43, 44, 45] : List Nat).all (fun pc => match xo_134 pc with | none => true | some r => decide (decode cX7_day pc = .ok r)) = true := by decide +kernel
set_option maxRecDepth 100000 in
theorem xo_134_c1 : ([46, 49, 50, 51, 52, 53, 56, 57, 58, 59, 62, 63, 66, 67, 69, 70, 71, 73, 76, 77, 80, 81, 82, 83, 84, 85, 88, 89, 91, 92, 93, 94] : List Nat).all (fun pc => match xo_134 pc with | none => true | some r => decide (decode cX7_day pc = .ok r)) = true := by decide +kernel
set_option maxRecDepth 100000 in
theorem xo_134_c2 : ([95, 98, 99, 100, 101, 102, 105, 106, 109, 110, 112, 113, 115, 116, 117, 120, 121, 123, 124, 125, 126, 127, 128, 129, 130, 133, 134, 135, 136, 137, 138, 139] : List Nat).all (fun pc => match xo_134 pc with | none => true | some r => decide (decode cX7_day pc = .ok r)) = true := by decide +kernel
set_option maxRecDepth 100000 in
theorem xo_134_c3 : ([140, 141, 144, 147, 148, 149, 152] : List Nat).all (fun pc => match xo_134 pc with | none => true | some r => decide (decode cX7_day pc = .ok r)) = true := by decide +kernel
set_option maxRecDepth 100000 in
theorem xo_134_no : (List.range 153).all (fun pc => (xo_134 pc).isNone || (([0, 1, 4, 5, 6, 7, 8, 9, 10, 11, 12, 13, 14, 15, 17, 20, 21, 22, 25, 26, 27, 30, 31, 32, 34, 37, 38, 41, 42, 43, 44, 45] : List Nat).contains pc || ([46, 49, 50, 51, 52, 53, 56, 57, 58, 59, 62, 63, 66, 67, 69, 70, 71, 73, 76, 77, 80, 81, 82, 83, 84, 85, 88, 89, 91, 92, 93, 94] : List Nat).contains pc || ([95, 98, 99, 100, 101, 102, 105, 106, 109, 110, 112, 113, 115, 116, 117, 120, 121, 123, 124, 125, 126, 127, 128, 129, 130, 133, 134, 135, 136, 137, 138, 139] : List Nat).contains pc || ([140, 141, 144, 147, 148, 149, 152] : List Nat).contains pc)) = true := by decide +kernel
theorem xo_134_top (pc : Nat) (h : 153 ≤ pc) : xo_134 pc = none := if_pos h
theorem xo_134_ok (pc : Nat) (r : Instr × Nat) (h : xo_134 pc = some r) : decode cX7_day pc = .ok r := by
  rcases Nat.lt_or_ge pc 153 with hl | hl
  · have h1 := List.all_eq_true.mp xo_134_no pc (List.mem_range.mpr hl)
    rw [h] at h1
    simp only [Option.isNone_some, Bool.false_or, Bool.or_eq_true, List.contains_iff_mem, or_assoc] at h1
    rcases h1 with h1 | h1 | h1 | h1
    · have h2 := List.all_eq_true.mp xo_134_c0 pc h1
      rw [h] at h2
      exact of_decide_eq_true h2
    · have h2 := List.all_eq_true.mp xo_134_c1 pc h1
      rw [h] at h2
      exact of_decide_eq_true h2
    · have h2 := List.all_eq_true.mp xo_134_c2 pc h1
      rw [h] at h2
      exact of_decide_eq_true h2
    · have h2 := List.all_eq_true.mp xo_134_c3 pc h1
      rw [h] at h2
      exact of_decide_eq_true h2
  · rw [show xo_134 pc = none from if_pos hl] at h; cases h
/-- X7_days -/
def xo_135 (pc : Nat) : Option (Instr × Nat) := if 27 ≤ pc then none else if pc < 12 then (if pc < 5 then (if pc < 2 then (if pc < 1 then (if pc = 0 then some (.iconst 0, 1) else none) else (if pc = 1 then some (.istore_n 3, 1) else none)) else (if pc < 3 then (if pc = 2 then some (.iconst 0, 1) else none) else (if pc = 3 then some (.istore 4, 2) else none))) else (if pc < 8 then (if pc < 7 then (if pc = 5 then some (.iload 4, 2) else none) else (if pc = 7 then some (.iload_n 2, 1) else none)) else (if pc < 11 then (if pc = 8 then some (.if_icmp .ge 17, 3) else none) else (if pc = 11 then some (.iload_n 3, 1) else none)))) else (if pc < 18 then (if pc < 14 then (if pc < 13 then (if pc = 12 then some (.aload_n 0, 1) else none) else (if pc = 13 then some (.iload_n 1, 1) else none)) else (if pc < 17 then (if pc = 14 then some (.invokevirtual 66, 3) else none) else (if pc = 17 then some (.iadd, 1) else none))) else (if pc < 22 then (if pc < 19 then (if pc = 18 then some (.istore_n 3, 1) else none) else (if pc = 19 then some (.iinc 4 1, 3) else none)) else (if pc < 25 then (if pc = 22 then some (.goto (-17), 3) else none) else (if pc < 26 then (if pc = 25 then some (.iload_n 3, 1) else none) else (if pc = 26 then some (.ireturn, 1) else none)))))
set_option maxRecDepth 100000 in
theorem xo_135_c0 : ([0, 1, 2, 3, 5, 7, 8, 11, 12, 13, 14, 17, 18, 19, 22, 25, 26] : List Nat).all (fun pc => match xo_135 pc with | none => true | some r => decide (decode cX7_days pc = .ok r)) = true := by decide +kernel
set_option maxRecDepth 100000 in
theorem xo_135_no : (List.range 27).all (fun pc => (xo_135 pc).isNone || (([0, 1, 2, 3, 5, 7, 8, 11, 12, 13, 14, 17, 18, 19, 22, 25, 26] : List Nat).contains pc)) = true := by decide +kernel
theorem xo_135_top (pc : Nat) (h : 27 ≤ pc) : xo_135 pc = none := if_pos h
theorem xo_135_ok (pc : Nat) (r : Instr × Nat) (h : xo_135 pc = some r) : decode cX7_days pc = .ok r := by
  rcases Nat.lt_or_ge pc 27 with hl | hl
  · have h1 := List.all_eq_true.mp xo_135_no pc (List.mem_range.mpr hl)
    rw [h] at h1
    simp only [Option.isNone_some, Bool.false_or, Bool.or_eq_true, List.contains_iff_mem, or_assoc] at h1
    rcases h1 with h1
    · have h2 := List.all_eq_true.mp xo_135_c0 pc h1
      rw [h] at h2
      exact of_decide_eq_true h2
  · rw [show xo_135 pc = none from if_pos hl] at h; cases h
/-- X7_isInRack -/
def xo_136 (pc : Nat) : Option (Instr × Nat) := if 23 ≤ pc then none else if pc < 11 then (if pc < 5 then (if pc < 1 then (if pc = 0 then some (.aload_n 0, 1) else none) else (if pc < 4 then (if pc = 1 then some (.getfield 7, 3) else none) else (if pc = 4 then some (.iload_n 1, 1) else none))) else (if pc < 9 then (if pc < 6 then (if pc = 5 then some (.iload_n 2, 1) else none) else (if pc = 6 then some (.invokestatic 20, 3) else none)) else (if pc < 10 then (if pc = 9 then some (.iconst 2, 1) else none) else (if pc = 10 then some (.iadd, 1) else none)))) else (if pc < 17 then (if pc < 12 then (if pc = 11 then some (.iaload, 1) else none) else (if pc < 14 then (if pc = 12 then some (.bipush (-6), 2) else none) else (if pc = 14 then some (.if_icmp .eq 7, 3) else none))) else (if pc < 21 then (if pc < 18 then (if pc = 17 then some (.iconst 1, 1) else none) else (if pc = 18 then some (.goto 4, 3) else none)) else (if pc < 22 then (if pc = 21 then some (.iconst 0, 1) else none) else (if pc = 22 then some (.ireturn, 1) else none))))
set_option maxRecDepth 100000 in
theorem xo_136_c0 : ([0, 1, 4, 5, 6, 9, 10, 11, 12, 14, 17, 18, 21, 22] : List Nat).all (fun pc => match xo_136 pc with | none => true | some r => decide (decode cX7_isInRack pc = .ok r)) = true := by decide +kernel
set_option maxRecDepth 100000 in
theorem xo_136_no : (List.range 23).all (fun pc => (xo_136 pc).isNone || (([0, 1, 4, 5, 6, 9, 10, 11, 12, 14, 17, 18, 21, 22] : List Nat).contains pc)) = true := by decide +kernel
theorem xo_136_top (pc : Nat) (h : 23 ≤ pc) : xo_136 pc = none := if_pos h
theorem xo_136_ok (pc : Nat) (r : Instr × Nat) (h : xo_136 pc = some r) : decode cX7_isInRack pc = .ok r := by
  rcases Nat.lt_or_ge pc 23 with hl | hl
  · have h1 := List.all_eq_true.mp xo_136_no pc (List.mem_range.mpr hl)
    rw [h] at h1
    simp only [Option.isNone_some, Bool.false_or, Bool.or_eq_true, List.contains_iff_mem, or_assoc] at h1
    rcases h1 with h1
    · have h2 := List.all_eq_true.mp xo_136_c0 pc h1
      rw [h] at h2
      exact of_decide_eq_true h2
  · rw [show xo_136 pc = none from if_pos hl] at h; cases h
/-- X7_owner -/
def xo_137 (pc : Nat) : Option (Instr × Nat) := if 66 ≤ pc then none else if pc < 31 then (if pc < 15 then (if pc < 7 then (if pc < 4 then (if pc < 2 then (if pc = 0 then some (.bipush (-6), 2) else none) else (if pc = 2 then some (.istore 4, 2) else none)) else (if pc < 5 then (if pc = 4 then some (.iconst 0, 1) else none) else (if pc = 5 then some (.istore 5, 2) else none))) else (if pc < 11 then (if pc < 9 then (if pc = 7 then some (.iload 5, 2) else none) else (if pc = 9 then some (.bipush 20, 2) else none)) else (if pc < 14 then (if pc = 11 then some (.if_icmp .ge 52, 3) else none) else (if pc = 14 then some (.iload_n 1, 1) else none)))) else (if pc < 23 then (if pc < 20 then (if pc < 17 then (if pc = 15 then some (.iload 5, 2) else none) else (if pc = 17 then some (.invokestatic 20, 3) else none)) else (if pc < 22 then (if pc = 20 then some (.istore 6, 2) else none) else (if pc = 22 then some (.aload_n 0, 1) else none))) else (if pc < 28 then (if pc < 26 then (if pc = 23 then some (.getfield 7, 3) else none) else (if pc = 26 then some (.iload 6, 2) else none)) else (if pc < 29 then (if pc = 28 then some (.iconst 2, 1) else none) else (if pc < 30 then (if pc = 29 then some (.iadd, 1) else none) else (if pc = 30 then some (.iaload, 1) else none)))))) else (if pc < 45 then (if pc < 39 then (if pc < 35 then (if pc < 32 then (if pc = 31 then some (.iload_n 2, 1) else none) else (if pc = 32 then some (.if_icmp .ne 21, 3) else none)) else (if pc < 36 then (if pc = 35 then some (.aload_n 0, 1) else none) else (if pc = 36 then some (.getfield 7, 3) else none))) else (if pc < 42 then (if pc < 41 then (if pc = 39 then some (.iload 6, 2) else none) else (if pc = 41 then some (.iconst 3, 1) else none)) else (if pc < 43 then (if pc = 42 then some (.iadd, 1) else none) else (if pc < 44 then (if pc = 43 then some (.iaload, 1) else none) else (if pc = 44 then some (.iload_n 3, 1) else none))))) else (if pc < 55 then (if pc < 50 then (if pc < 48 then (if pc = 45 then some (.if_icmp .ne 8, 3) else none) else (if pc = 48 then some (.iload 5, 2) else none)) else (if pc < 53 then (if pc = 50 then some (.goto 5, 3) else none) else (if pc = 53 then some (.iload 4, 2) else none))) else (if pc < 60 then (if pc < 57 then (if pc = 55 then some (.istore 4, 2) else none) else (if pc = 57 then some (.iinc 5 1, 3) else none)) else (if pc < 63 then (if pc = 60 then some (.goto (-53), 3) else none) else (if pc < 65 then (if pc = 63 then some (.iload 4, 2) else none) else (if pc = 65 then some (.ireturn, 1) else none))))))
set_option maxRecDepth 100000 in
theorem xo_137_c0 : ([0, 2, 4, 5, 7, 9, 11, 14, 15, 17, 20, 22, 23, 26, 28, 29, 30, 31, 32, 35, 36, 39, 41, 42, 43, 44, 45, 48, 50, 53, 55, 57, 60, 63, 65] : List Nat).all (fun pc => match xo_137 pc with | none => true | some r => decide (decode cX7_owner pc = .ok r)) = true := by decide +kernel
set_option maxRecDepth 100000 in
theorem xo_137_no : (List.range 66).all (fun pc => (xo_137 pc).isNone || (([0, 2, 4, 5, 7, 9, 11, 14, 15, 17, 20, 22, 23, 26, 28, 29, 30, 31, 32, 35, 36, 39, 41, 42, 43, 44, 45, 48, 50, 53, 55, 57, 60, 63, 65] : List Nat).contains pc)) = true := by decide +kernel
theorem xo_137_top (pc : Nat) (h : 66 ≤ pc) : xo_137 pc = none := if_pos h
theorem xo_137_ok (pc : Nat) (r : Instr × Nat) (h : xo_137 pc = some r) : decode cX7_owner pc = .ok r := by
  rcases Nat.lt_or_ge pc 66 with hl | hl
  · have h1 := List.all_eq_true.mp xo_137_no pc (List.mem_range.mpr hl)
    rw [h] at h1
    simp only [Option.isNone_some, Bool.false_or, Bool.or_eq_true, List.contains_iff_mem, or_assoc] at h1
    rcases h1 with h1
    · have h2 := List.all_eq_true.mp xo_137_c0 pc h1
      rw [h] at h2
      exact of_decide_eq_true h2
  · rw [show xo_137 pc = none from if_pos hl] at h; cases h
/-- X7_leavesRack -/
def xo_138 (pc : Nat) : Option (Instr × Nat) := if 47 ≤ pc then none else if pc < 23 then (if pc < 12 then (if pc < 6 then (if pc < 2 then (if pc < 1 then (if pc = 0 then some (.iload_n 1, 1) else none) else (if pc = 1 then some (.iload_n 2, 1) else none)) else (if pc < 5 then (if pc = 2 then some (.invokestatic 20, 3) else none) else (if pc = 5 then some (.istore_n 3, 1) else none))) else (if pc < 10 then (if pc < 7 then (if pc = 6 then some (.aload_n 0, 1) else none) else (if pc = 7 then some (.getfield 7, 3) else none)) else (if pc < 11 then (if pc = 10 then some (.iload_n 3, 1) else none) else (if pc = 11 then some (.iconst 2, 1) else none)))) else (if pc < 17 then (if pc < 15 then (if pc < 13 then (if pc = 12 then some (.iadd, 1) else none) else (if pc = 13 then some (.bipush (-6), 2) else none)) else (if pc < 16 then (if pc = 15 then some (.iastore, 1) else none) else (if pc = 16 then some (.aload_n 0, 1) else none))) else (if pc < 21 then (if pc < 20 then (if pc = 17 then some (.getfield 7, 3) else none) else (if pc = 20 then some (.iload_n 3, 1) else none)) else (if pc < 22 then (if pc = 21 then some (.iconst 3, 1) else none) else (if pc = 22 then some (.iadd, 1) else none))))) else (if pc < 35 then (if pc < 30 then (if pc < 26 then (if pc < 25 then (if pc = 23 then some (.bipush (-6), 2) else none) else (if pc = 25 then some (.iastore, 1) else none)) else (if pc < 27 then (if pc = 26 then some (.aload_n 0, 1) else none) else (if pc = 27 then some (.getfield 7, 3) else none))) else (if pc < 32 then (if pc < 31 then (if pc = 30 then some (.iload_n 3, 1) else none) else (if pc = 31 then some (.iconst 4, 1) else none)) else (if pc < 33 then (if pc = 32 then some (.iadd, 1) else none) else (if pc = 33 then some (.bipush (-6), 2) else none)))) else (if pc < 41 then (if pc < 37 then (if pc < 36 then (if pc = 35 then some (.iastore, 1) else none) else (if pc = 36 then some (.aload_n 0, 1) else none)) else (if pc < 40 then (if pc = 37 then some (.getfield 7, 3) else none) else (if pc = 40 then some (.iload_n 3, 1) else none))) else (if pc < 43 then (if pc < 42 then (if pc = 41 then some (.iconst 5, 1) else none) else (if pc = 42 then some (.iadd, 1) else none)) else (if pc < 45 then (if pc = 43 then some (.bipush (-6), 2) else none) else (if pc < 46 then (if pc = 45 then some (.iastore, 1) else none) else (if pc = 46 then some (.return_, 1) else none))))))
set_option maxRecDepth 100000 in
theorem xo_138_c0 : ([0, 1, 2, 5, 6, 7, 10, 11, 12, 13, 15, 16, 17, 20, 21, 22, 23, 25, 26, 27, 30, 31, 32, 33, 35, 36, 37, 40, 41, 42, 43, 45, 46] : List Nat).all (fun pc => match xo_138 pc with | none => true | some r => decide (decode cX7_leavesRack pc = .ok r)) = true := by decide +kernel
set_option maxRecDepth 100000 in
theorem xo_138_no : (List.range 47).all (fun pc => (xo_138 pc).isNone || (([0, 1, 2, 5, 6, 7, 10, 11, 12, 13, 15, 16, 17, 20, 21, 22, 23, 25, 26, 27, 30, 31, 32, 33, 35, 36, 37, 40, 41, 42, 43, 45, 46] : List Nat).contains pc)) = true := by decide +kernel
theorem xo_138_top (pc : Nat) (h : 47 ≤ pc) : xo_138 pc = none := if_pos h
theorem xo_138_ok (pc : Nat) (r : Instr × Nat) (h : xo_138 pc = some r) : decode cX7_leavesRack pc = .ok r := by
  rcases Nat.lt_or_ge pc 47 with hl | hl
  · have h1 := List.all_eq_true.mp xo_138_no pc (List.mem_range.mpr hl)
    rw [h] at h1
    simp only [Option.isNone_some, Bool.false_or, Bool.or_eq_true, List.contains_iff_mem, or_assoc] at h1
    rcases h1 with h1
    · have h2 := List.all_eq_true.mp xo_138_c0 pc h1
      rw [h] at h2
      exact of_decide_eq_true h2
  · rw [show xo_138 pc = none from if_pos hl] at h; cases h
/-- X7_sweeps -/
def xo_139 (pc : Nat) : Option (Instr × Nat) := if 232 ≤ pc then none else if pc < 120 then (if pc < 60 then (if pc < 29 then (if pc < 13 then (if pc < 5 then (if pc < 2 then (if pc < 1 then (if pc = 0 then some (.iconst 0, 1) else none) else (if pc = 1 then some (.istore_n 3, 1) else none)) else (if pc < 3 then (if pc = 2 then some (.iconst 0, 1) else none) else (if pc = 3 then some (.istore 4, 2) else none))) else (if pc < 9 then (if pc < 7 then (if pc = 5 then some (.iload 4, 2) else none) else (if pc = 7 then some (.bipush 20, 2) else none)) else (if pc < 12 then (if pc = 9 then some (.if_icmp .ge 221, 3) else none) else (if pc = 12 then some (.iload_n 1, 1) else none)))) else (if pc < 21 then (if pc < 18 then (if pc < 15 then (if pc = 13 then some (.iload 4, 2) else none) else (if pc = 15 then some (.invokestatic 20, 3) else none)) else (if pc < 20 then (if pc = 18 then some (.istore 5, 2) else none) else (if pc = 20 then some (.aload_n 0, 1) else none))) else (if pc < 26 then (if pc < 24 then (if pc = 21 then some (.getfield 7, 3) else none) else (if pc = 24 then some (.iload 5, 2) else none)) else (if pc < 27 then (if pc = 26 then some (.iconst 2, 1) else none) else (if pc < 28 then (if pc = 27 then some (.iadd, 1) else none) else (if pc = 28 then some (.iaload, 1) else none)))))) else (if pc < 44 then (if pc < 37 then (if pc < 33 then (if pc < 30 then (if pc = 29 then some (.iload_n 2, 1) else none) else (if pc = 30 then some (.if_icmp .ne 194, 3) else none)) else (if pc < 34 then (if pc = 33 then some (.aload_n 0, 1) else none) else (if pc = 34 then some (.getfield 7, 3) else none))) else (if pc < 40 then (if pc < 39 then (if pc = 37 then some (.iload 5, 2) else none) else (if pc = 39 then some (.iconst 5, 1) else none)) else (if pc < 41 then (if pc = 40 then some (.iadd, 1) else none) else (if pc < 42 then (if pc = 41 then some (.iaload, 1) else none) else (if pc = 42 then some (.bipush (-6), 2) else none))))) else (if pc < 52 then (if pc < 48 then (if pc < 47 then (if pc = 44 then some (.if_icmp .eq 7, 3) else none) else (if pc = 47 then some (.iconst 1, 1) else none)) else (if pc < 51 then (if pc = 48 then some (.goto 4, 3) else none) else (if pc = 51 then some (.iconst 0, 1) else none))) else (if pc < 55 then (if pc < 54 then (if pc = 52 then some (.istore 6, 2) else none) else (if pc = 54 then some (.aload_n 0, 1) else none)) else (if pc < 58 then (if pc = 55 then some (.getfield 7, 3) else none) else (if pc < 59 then (if pc = 58 then some (.iload_n 1, 1) else none) else (if pc = 59 then some (.iconst 4, 1) else none))))))) else (if pc < 87 then (if pc < 72 then (if pc < 66 then (if pc < 62 then (if pc < 61 then (if pc = 60 then some (.iadd, 1) else none) else (if pc = 61 then some (.iaload, 1) else none)) else (if pc < 63 then (if pc = 62 then some (.aload_n 0, 1) else none) else (if pc = 63 then some (.getfield 7, 3) else none))) else (if pc < 69 then (if pc < 68 then (if pc = 66 then some (.iload 5, 2) else none) else (if pc = 68 then some (.iconst 4, 1) else none)) else (if pc < 70 then (if pc = 69 then some (.iadd, 1) else none) else (if pc < 71 then (if pc = 70 then some (.iaload, 1) else none) else (if pc = 71 then some (.isub, 1) else none))))) else (if pc < 78 then (if pc < 76 then (if pc < 73 then (if pc = 72 then some (.aload_n 0, 1) else none) else (if pc = 73 then some (.getfield 7, 3) else none)) else (if pc < 77 then (if pc = 76 then some (.iload_n 1, 1) else none) else (if pc = 77 then some (.iconst 1, 1) else none))) else (if pc < 80 then (if pc < 79 then (if pc = 78 then some (.iadd, 1) else none) else (if pc = 79 then some (.iaload, 1) else none)) else (if pc < 83 then (if pc = 80 then some (.if_icmp .lt 7, 3) else none) else (if pc < 84 then (if pc = 83 then some (.iconst 1, 1) else none) else (if pc = 84 then some (.goto 4, 3) else none)))))) else (if pc < 103 then (if pc < 94 then (if pc < 90 then (if pc < 88 then (if pc = 87 then some (.iconst 0, 1) else none) else (if pc = 88 then some (.istore 7, 2) else none)) else (if pc < 91 then (if pc = 90 then some (.aload_n 0, 1) else none) else (if pc = 91 then some (.getfield 7, 3) else none))) else (if pc < 97 then (if pc < 96 then (if pc = 94 then some (.iload 5, 2) else none) else (if pc = 96 then some (.iconst 5, 1) else none)) else (if pc < 98 then (if pc = 97 then some (.iadd, 1) else none) else (if pc < 100 then (if pc = 98 then some (.iload 6, 2) else none) else (if pc = 100 then some (.ifCond .ne 30, 3) else none))))) else (if pc < 112 then (if pc < 108 then (if pc < 105 then (if pc = 103 then some (.iload 7, 2) else none) else (if pc = 105 then some (.ifCond .ne 14, 3) else none)) else (if pc < 109 then (if pc = 108 then some (.aload_n 0, 1) else none) else (if pc = 109 then some (.getfield 7, 3) else none))) else (if pc < 115 then (if pc < 114 then (if pc = 112 then some (.iload 5, 2) else none) else (if pc = 114 then some (.iaload, 1) else none)) else (if pc < 116 then (if pc = 115 then some (.iload_n 2, 1) else none) else (if pc < 119 then (if pc = 116 then some (.if_icmp .eq 14, 3) else none) else (if pc = 119 then some (.aload_n 0, 1) else none)))))))) else (if pc < 176 then (if pc < 148 then (if pc < 136 then (if pc < 126 then (if pc < 124 then (if pc < 123 then (if pc = 120 then some (.getfield 7, 3) else none) else (if pc = 123 then some (.iload_n 1, 1) else none)) else (if pc < 125 then (if pc = 124 then some (.iconst 4, 1) else none) else (if pc = 125 then some (.iadd, 1) else none))) else (if pc < 130 then (if pc < 127 then (if pc = 126 then some (.iaload, 1) else none) else (if pc = 127 then some (.goto 12, 3) else none)) else (if pc < 131 then (if pc = 130 then some (.aload_n 0, 1) else none) else (if pc < 134 then (if pc = 131 then some (.getfield 7, 3) else none) else (if pc = 134 then some (.iload 5, 2) else none))))) else (if pc < 140 then (if pc < 138 then (if pc < 137 then (if pc = 136 then some (.iconst 5, 1) else none) else (if pc = 137 then some (.iadd, 1) else none)) else (if pc < 139 then (if pc = 138 then some (.iaload, 1) else none) else (if pc = 139 then some (.iastore, 1) else none))) else (if pc < 144 then (if pc < 141 then (if pc = 140 then some (.aload_n 0, 1) else none) else (if pc = 141 then some (.getfield 7, 3) else none)) else (if pc < 146 then (if pc = 144 then some (.iload 5, 2) else none) else (if pc < 147 then (if pc = 146 then some (.iconst 5, 1) else none) else (if pc = 147 then some (.iadd, 1) else none)))))) else (if pc < 162 then (if pc < 155 then (if pc < 151 then (if pc < 149 then (if pc = 148 then some (.iaload, 1) else none) else (if pc = 149 then some (.bipush (-6), 2) else none)) else (if pc < 154 then (if pc = 151 then some (.if_icmp .eq 73, 3) else none) else (if pc = 154 then some (.aload_n 0, 1) else none))) else (if pc < 159 then (if pc < 158 then (if pc = 155 then some (.getfield 7, 3) else none) else (if pc = 158 then some (.iload_n 1, 1) else none)) else (if pc < 160 then (if pc = 159 then some (.iconst 4, 1) else none) else (if pc < 161 then (if pc = 160 then some (.iadd, 1) else none) else (if pc = 161 then some (.iaload, 1) else none))))) else (if pc < 169 then (if pc < 166 then (if pc < 163 then (if pc = 162 then some (.aload_n 0, 1) else none) else (if pc = 163 then some (.getfield 7, 3) else none)) else (if pc < 168 then (if pc = 166 then some (.iload 5, 2) else none) else (if pc = 168 then some (.iconst 5, 1) else none))) else (if pc < 171 then (if pc < 170 then (if pc = 169 then some (.iadd, 1) else none) else (if pc = 170 then some (.iaload, 1) else none)) else (if pc < 172 then (if pc = 171 then some (.isub, 1) else none) else (if pc < 173 then (if pc = 172 then some (.aload_n 0, 1) else none) else (if pc = 173 then some (.getfield 7, 3) else none))))))) else (if pc < 205 then (if pc < 190 then (if pc < 180 then (if pc < 178 then (if pc < 177 then (if pc = 176 then some (.iload_n 1, 1) else none) else (if pc = 177 then some (.iconst 2, 1) else none)) else (if pc < 179 then (if pc = 178 then some (.iadd, 1) else none) else (if pc = 179 then some (.iaload, 1) else none))) else (if pc < 184 then (if pc < 183 then (if pc = 180 then some (.if_icmp .lt 44, 3) else none) else (if pc = 183 then some (.aload_n 0, 1) else none)) else (if pc < 185 then (if pc = 184 then some (.iload_n 1, 1) else none) else (if pc < 187 then (if pc = 185 then some (.iload 4, 2) else none) else (if pc = 187 then some (.invokevirtual 69, 3) else none))))) else (if pc < 198 then (if pc < 194 then (if pc < 191 then (if pc = 190 then some (.aload_n 0, 1) else none) else (if pc = 191 then some (.getfield 7, 3) else none)) else (if pc < 196 then (if pc = 194 then some (.iload 5, 2) else none) else (if pc = 196 then some (.bipush 6, 2) else none))) else (if pc < 200 then (if pc < 199 then (if pc = 198 then some (.iadd, 1) else none) else (if pc = 199 then some (.aload_n 0, 1) else none)) else (if pc < 203 then (if pc = 200 then some (.getfield 7, 3) else none) else (if pc < 204 then (if pc = 203 then some (.iload_n 1, 1) else none) else (if pc = 204 then some (.iconst 4, 1) else none)))))) else (if pc < 217 then (if pc < 209 then (if pc < 207 then (if pc < 206 then (if pc = 205 then some (.iadd, 1) else none) else (if pc = 206 then some (.iaload, 1) else none)) else (if pc < 208 then (if pc = 207 then some (.iastore, 1) else none) else (if pc = 208 then some (.aload_n 0, 1) else none))) else (if pc < 213 then (if pc < 212 then (if pc = 209 then some (.getfield 7, 3) else none) else (if pc = 212 then some (.iload_n 1, 1) else none)) else (if pc < 215 then (if pc = 213 then some (.bipush 6, 2) else none) else (if pc < 216 then (if pc = 215 then some (.iadd, 1) else none) else (if pc = 216 then some (.dup2, 1) else none))))) else (if pc < 221 then (if pc < 219 then (if pc < 218 then (if pc = 217 then some (.iaload, 1) else none) else (if pc = 218 then some (.iconst 1, 1) else none)) else (if pc < 220 then (if pc = 219 then some (.iadd, 1) else none) else (if pc = 220 then some (.iastore, 1) else none))) else (if pc < 227 then (if pc < 224 then (if pc = 221 then some (.iinc 3 1, 3) else none) else (if pc = 224 then some (.iinc 4 1, 3) else none)) else (if pc < 230 then (if pc = 227 then some (.goto (-222), 3) else none) else (if pc < 231 then (if pc = 230 then some (.iload_n 3, 1) else none) else (if pc = 231 then some (.ireturn, 1) else none))))))))
set_option maxRecDepth 100000 in
theorem xo_139_c0 : ([0, 1, 2, 3, 5, 7, 9, 12, 13, 15, 18, 20, 21, 24, 26, 27, 28, 29, 30, 33, 34] : List Nat).all (fun pc => match xo_139 pc with | none => true | some r => decide (decode cX7_sweeps pc = .ok r)) = true := by decide +kernel
set_option maxRecDepth 100000 in
theorem xo_139_c1 : ([37, 39, 40, 41, 42, 44, 47, 48, 51, 52, 54, 55, 58, 59, 60, 61, 62, 63, 66, 68, 69] : List Nat).all (fun pc => match xo_139 pc with | none => true | some r => decide (decode cX7_sweeps pc = .ok r)) = true := by decide +kernel
set_option maxRecDepth 100000 in
theorem xo_139_c2 : ([70, 71, 72, 73, 76, 77, 78, 79, 80, 83, 84, 87, 88, 90, 91, 94, 96, 97, 98, 100, 103] : List Nat).all (fun pc => match xo_139 pc with | none => true | some r => decide (decode cX7_sweeps pc = .ok r)) = true := by decide +kernel
set_option maxRecDepth 100000 in
theorem xo_139_c3 : ([105, 108, 109, 112, 114, 115, 116, 119, 120, 123, 124, 125, 126, 127, 130, 131, 134, 136, 137, 138, 139] : List Nat).all (fun pc => match xo_139 pc with | none => true | some r => decide (decode cX7_sweeps pc = .ok r)) = true := by decide +kernel
set_option maxRecDepth 100000 in
theorem xo_139_c4 : ([140, 141, 144, 146, 147, 148, 149, 151, 154, 155, 158, 159, 160, 161, 162, 163, 166, 168, 169, 170, 171] : List Nat).all (fun pc => match xo_139 pc with | none => true | some r => decide (decode cX7_sweeps pc = .ok r)) = true := by decide +kernel
set_option maxRecDepth 100000 in
theorem xo_139_c5 : ([172, 173, 176, 177, 178, 179, 180, 183, 184, 185, 187, 190, 191, 194, 196, 198, 199, 200, 203, 204, 205] : List Nat).all (fun pc => match xo_139 pc with | none => true | some r => decide (decode cX7_sweeps pc = .ok r)) = true := by decide +kernel
set_option maxRecDepth 100000 in
theorem xo_139_c6 : ([206, 207, 208, 209, 212, 213, 215, 216, 217, 218, 219, 220, 221, 224, 227, 230, 231] : List Nat).all (fun pc => match xo_139 pc with | none => true | some r => decide (decode cX7_sweeps pc = .ok r)) = true := by decide +kernel
set_option maxRecDepth 100000 in
theorem xo_139_no : (List.range 232).all (fun pc => (xo_139 pc).isNone || (([0, 1, 2, 3, 5, 7, 9, 12, 13, 15, 18, 20, 21, 24, 26, 27, 28, 29, 30, 33, 34] : List Nat).contains pc || ([37, 39, 40, 41, 42, 44, 47, 48, 51, 52, 54, 55, 58, 59, 60, 61, 62, 63, 66, 68, 69] : List Nat).contains pc || ([70, 71, 72, 73, 76, 77, 78, 79, 80, 83, 84, 87, 88, 90, 91, 94, 96, 97, 98, 100, 103] : List Nat).contains pc || ([105, 108, 109, 112, 114, 115, 116, 119, 120, 123, 124, 125, 126, 127, 130, 131, 134, 136, 137, 138, 139] : List Nat).contains pc || ([140, 141, 144, 146, 147, 148, 149, 151, 154, 155, 158, 159, 160, 161, 162, 163, 166, 168, 169, 170, 171] : List Nat).contains pc || ([172, 173, 176, 177, 178, 179, 180, 183, 184, 185, 187, 190, 191, 194, 196, 198, 199, 200, 203, 204, 205] : List Nat).contains pc || ([206, 207, 208, 209, 212, 213, 215, 216, 217, 218, 219, 220, 221, 224, 227, 230, 231] : List Nat).contains pc)) = true := by decide +kernel
theorem xo_139_top (pc : Nat) (h : 232 ≤ pc) : xo_139 pc = none := if_pos h
theorem xo_139_ok (pc : Nat) (r : Instr × Nat) (h : xo_139 pc = some r) : decode cX7_sweeps pc = .ok r := by
  rcases Nat.lt_or_ge pc 232 with hl | hl
  · have h1 := List.all_eq_true.mp xo_139_no pc (List.mem_range.mpr hl)
    rw [h] at h1
    simp only [Option.isNone_some, Bool.false_or, Bool.or_eq_true, List.contains_iff_mem, or_assoc] at h1
    rcases h1 with h1 | h1 | h1 | h1 | h1 | h1 | h1
    · have h2 := List.all_eq_true.mp xo_139_c0 pc h1
      rw [h] at h2
      exact of_decide_eq_true h2
    · have h2 := List.all_eq_true.mp xo_139_c1 pc h1
      rw [h] at h2
      exact of_decide_eq_true h2
    · have h2 := List.all_eq_true.mp xo_139_c2 pc h1
      rw [h] at h2
      exact of_decide_eq_true h2
    · have h2 := List.all_eq_true.mp xo_139_c3 pc h1
      rw [h] at h2
      exact of_decide_eq_true h2
    · have h2 := List.all_eq_true.mp xo_139_c4 pc h1
      rw [h] at h2
      exact of_decide_eq_true h2
    · have h2 := List.all_eq_true.mp xo_139_c5 pc h1
      rw [h] at h2
      exact of_decide_eq_true h2
    · have h2 := List.all_eq_true.mp xo_139_c6 pc h1
      rw [h] at h2
      exact of_decide_eq_true h2
  · rw [show xo_139 pc = none from if_pos hl] at h; cases h
/-- X7_freeRack -/
def xo_140 (pc : Nat) : Option (Instr × Nat) := if 71 ≤ pc then none else if pc < 32 then (if pc < 19 then (if pc < 9 then (if pc < 3 then (if pc < 2 then (if pc = 0 then some (.bipush (-6), 2) else none) else (if pc = 2 then some (.istore_n 3, 1) else none)) else (if pc < 5 then (if pc = 3 then some (.bipush 7, 2) else none) else (if pc < 7 then (if pc = 5 then some (.istore 4, 2) else none) else (if pc = 7 then some (.iload 4, 2) else none)))) else (if pc < 13 then (if pc < 12 then (if pc = 9 then some (.ifCond .lt 60, 3) else none) else (if pc = 12 then some (.aload_n 0, 1) else none)) else (if pc < 16 then (if pc = 13 then some (.getfield 7, 3) else none) else (if pc < 17 then (if pc = 16 then some (.iload_n 1, 1) else none) else (if pc = 17 then some (.bipush 8, 2) else none))))) else (if pc < 25 then (if pc < 21 then (if pc < 20 then (if pc = 19 then some (.iadd, 1) else none) else (if pc = 20 then some (.iload_n 2, 1) else none)) else (if pc < 22 then (if pc = 21 then some (.iadd, 1) else none) else (if pc < 23 then (if pc = 22 then some (.iaload, 1) else none) else (if pc = 23 then some (.iload 4, 2) else none)))) else (if pc < 27 then (if pc < 26 then (if pc = 25 then some (.ishr, 1) else none) else (if pc = 26 then some (.iconst 1, 1) else none)) else (if pc < 28 then (if pc = 27 then some (.iand, 1) else none) else (if pc < 31 then (if pc = 28 then some (.ifCond .ne 20, 3) else none) else (if pc = 31 then some (.aload_n 0, 1) else none)))))) else (if pc < 51 then (if pc < 41 then (if pc < 34 then (if pc < 33 then (if pc = 32 then some (.iload_n 1, 1) else none) else (if pc = 33 then some (.iload_n 2, 1) else none)) else (if pc < 36 then (if pc = 34 then some (.iload 4, 2) else none) else (if pc < 39 then (if pc = 36 then some (.invokevirtual 72, 3) else none) else (if pc = 39 then some (.bipush (-6), 2) else none)))) else (if pc < 45 then (if pc < 44 then (if pc = 41 then some (.if_icmp .ne 7, 3) else none) else (if pc = 44 then some (.iconst 1, 1) else none)) else (if pc < 48 then (if pc = 45 then some (.goto 4, 3) else none) else (if pc < 49 then (if pc = 48 then some (.iconst 0, 1) else none) else (if pc = 49 then some (.istore 5, 2) else none))))) else (if pc < 62 then (if pc < 56 then (if pc < 53 then (if pc = 51 then some (.iload 5, 2) else none) else (if pc = 53 then some (.ifCond .eq 8, 3) else none)) else (if pc < 58 then (if pc = 56 then some (.iload 4, 2) else none) else (if pc < 61 then (if pc = 58 then some (.goto 4, 3) else none) else (if pc = 61 then some (.iload_n 3, 1) else none)))) else (if pc < 66 then (if pc < 63 then (if pc = 62 then some (.istore_n 3, 1) else none) else (if pc = 63 then some (.iinc 4 (-1), 3) else none)) else (if pc < 69 then (if pc = 66 then some (.goto (-59), 3) else none) else (if pc < 70 then (if pc = 69 then some (.iload_n 3, 1) else none) else (if pc = 70 then some (.ireturn, 1) else none))))))
set_option maxRecDepth 100000 in
theorem xo_140_c0 : ([0, 2, 3, 5, 7, 9, 12, 13, 16, 17, 19, 20, 21, 22, 23, 25, 26, 27, 28, 31, 32, 33, 34, 36, 39, 41, 44, 45, 48, 49, 51, 53, 56, 58, 61, 62, 63, 66, 69, 70] : List Nat).all (fun pc => match xo_140 pc with | none => true | some r => decide (decode cX7_freeRack pc = .ok r)) = true := by decide +kernel
set_option maxRecDepth 100000 in
theorem xo_140_no : (List.range 71).all (fun pc => (xo_140 pc).isNone || (([0, 2, 3, 5, 7, 9, 12, 13, 16, 17, 19, 20, 21, 22, 23, 25, 26, 27, 28, 31, 32, 33, 34, 36, 39, 41, 44, 45, 48, 49, 51, 53, 56, 58, 61, 62, 63, 66, 69, 70] : List Nat).contains pc)) = true := by decide +kernel
theorem xo_140_top (pc : Nat) (h : 71 ≤ pc) : xo_140 pc = none := if_pos h
theorem xo_140_ok (pc : Nat) (r : Instr × Nat) (h : xo_140 pc = some r) : decode cX7_freeRack pc = .ok r := by
  rcases Nat.lt_or_ge pc 71 with hl | hl
  · have h1 := List.all_eq_true.mp xo_140_no pc (List.mem_range.mpr hl)
    rw [h] at h1
    simp only [Option.isNone_some, Bool.false_or, Bool.or_eq_true, List.contains_iff_mem, or_assoc] at h1
    rcases h1 with h1
    · have h2 := List.all_eq_true.mp xo_140_c0 pc h1
      rw [h] at h2
      exact of_decide_eq_true h2
  · rw [show xo_140 pc = none from if_pos hl] at h; cases h
/-- X7_isPerson -/
def xo_141 (pc : Nat) : Option (Instr × Nat) := if 10 ≤ pc then none else if pc < 3 then (if pc < 1 then (if pc = 0 then some (.iload_n 0, 1) else none) else (if pc < 2 then (if pc = 1 then some (.i2l, 1) else none) else (if pc = 2 then some (.lconst 0, 1) else none))) else (if pc < 6 then (if pc = 3 then some (.ldc2_w 75, 3) else none) else (if pc < 9 then (if pc = 6 then some (.invokestatic 77, 3) else none) else (if pc = 9 then some (.ireturn, 1) else none)))
set_option maxRecDepth 100000 in
theorem xo_141_c0 : ([0, 1, 2, 3, 6, 9] : List Nat).all (fun pc => match xo_141 pc with | none => true | some r => decide (decode cX7_isPerson pc = .ok r)) = true := by decide +kernel
set_option maxRecDepth 100000 in
theorem xo_141_no : (List.range 10).all (fun pc => (xo_141 pc).isNone || (([0, 1, 2, 3, 6, 9] : List Nat).contains pc)) = true := by decide +kernel
theorem xo_141_top (pc : Nat) (h : 10 ≤ pc) : xo_141 pc = none := if_pos h
theorem xo_141_ok (pc : Nat) (r : Instr × Nat) (h : xo_141 pc = some r) : decode cX7_isPerson pc = .ok r := by
  rcases Nat.lt_or_ge pc 10 with hl | hl
  · have h1 := List.all_eq_true.mp xo_141_no pc (List.mem_range.mpr hl)
    rw [h] at h1
    simp only [Option.isNone_some, Bool.false_or, Bool.or_eq_true, List.contains_iff_mem, or_assoc] at h1
    rcases h1 with h1
    · have h2 := List.all_eq_true.mp xo_141_c0 pc h1
      rw [h] at h2
      exact of_decide_eq_true h2
  · rw [show xo_141 pc = none from if_pos hl] at h; cases h
/-- X7_isShed -/
def xo_142 (pc : Nat) : Option (Instr × Nat) := if 10 ≤ pc then none else if pc < 3 then (if pc < 1 then (if pc = 0 then some (.iload_n 0, 1) else none) else (if pc < 2 then (if pc = 1 then some (.i2l, 1) else none) else (if pc = 2 then some (.lconst 0, 1) else none))) else (if pc < 6 then (if pc = 3 then some (.ldc2_w 81, 3) else none) else (if pc < 9 then (if pc = 6 then some (.invokestatic 77, 3) else none) else (if pc = 9 then some (.ireturn, 1) else none)))
set_option maxRecDepth 100000 in
theorem xo_142_c0 : ([0, 1, 2, 3, 6, 9] : List Nat).all (fun pc => match xo_142 pc with | none => true | some r => decide (decode cX7_isShed pc = .ok r)) = true := by decide +kernel
set_option maxRecDepth 100000 in
theorem xo_142_no : (List.range 10).all (fun pc => (xo_142 pc).isNone || (([0, 1, 2, 3, 6, 9] : List Nat).contains pc)) = true := by decide +kernel
theorem xo_142_top (pc : Nat) (h : 10 ≤ pc) : xo_142 pc = none := if_pos h
theorem xo_142_ok (pc : Nat) (r : Instr × Nat) (h : xo_142 pc = some r) : decode cX7_isShed pc = .ok r := by
  rcases Nat.lt_or_ge pc 10 with hl | hl
  · have h1 := List.all_eq_true.mp xo_142_no pc (List.mem_range.mpr hl)
    rw [h] at h1
    simp only [Option.isNone_some, Bool.false_or, Bool.or_eq_true, List.contains_iff_mem, or_assoc] at h1
    rcases h1 with h1
    · have h2 := List.all_eq_true.mp xo_142_c0 pc h1
      rw [h] at h2
      exact of_decide_eq_true h2
  · rw [show xo_142 pc = none from if_pos hl] at h; cases h
/-- X7_areDays -/
def xo_143 (pc : Nat) : Option (Instr × Nat) := if 10 ≤ pc then none else if pc < 3 then (if pc < 1 then (if pc = 0 then some (.iload_n 0, 1) else none) else (if pc < 2 then (if pc = 1 then some (.i2l, 1) else none) else (if pc = 2 then some (.lconst 1, 1) else none))) else (if pc < 6 then (if pc = 3 then some (.ldc2_w 83, 3) else none) else (if pc < 9 then (if pc = 6 then some (.invokestatic 77, 3) else none) else (if pc = 9 then some (.ireturn, 1) else none)))
set_option maxRecDepth 100000 in
theorem xo_143_c0 : ([0, 1, 2, 3, 6, 9] : List Nat).all (fun pc => match xo_143 pc with | none => true | some r => decide (decode cX7_areDays pc = .ok r)) = true := by decide +kernel
set_option maxRecDepth 100000 in
theorem xo_143_no : (List.range 10).all (fun pc => (xo_143 pc).isNone || (([0, 1, 2, 3, 6, 9] : List Nat).contains pc)) = true := by decide +kernel
theorem xo_143_top (pc : Nat) (h : 10 ≤ pc) : xo_143 pc = none := if_pos h
theorem xo_143_ok (pc : Nat) (r : Instr × Nat) (h : xo_143 pc = some r) : decode cX7_areDays pc = .ok r := by
  rcases Nat.lt_or_ge pc 10 with hl | hl
  · have h1 := List.all_eq_true.mp xo_143_no pc (List.mem_range.mpr hl)
    rw [h] at h1
    simp only [Option.isNone_some, Bool.false_or, Bool.or_eq_true, List.contains_iff_mem, or_assoc] at h1
    rcases h1 with h1
    · have h2 := List.all_eq_true.mp xo_143_c0 pc h1
      rw [h] at h2
      exact of_decide_eq_true h2
  · rw [show xo_143 pc = none from if_pos hl] at h; cases h
/-- X7_hasPermit -/
def xo_144 (pc : Nat) : Option (Instr × Nat) := if 21 ≤ pc then none else if pc < 10 then (if pc < 5 then (if pc < 1 then (if pc = 0 then some (.aload_n 0, 1) else none) else (if pc < 4 then (if pc = 1 then some (.getfield 7, 3) else none) else (if pc = 4 then some (.iconst 0, 1) else none))) else (if pc < 6 then (if pc = 5 then some (.iload_n 1, 1) else none) else (if pc < 9 then (if pc = 6 then some (.invokestatic 20, 3) else none) else (if pc = 9 then some (.iaload, 1) else none)))) else (if pc < 16 then (if pc < 12 then (if pc = 10 then some (.bipush (-6), 2) else none) else (if pc < 15 then (if pc = 12 then some (.if_icmp .eq 7, 3) else none) else (if pc = 15 then some (.iconst 1, 1) else none))) else (if pc < 19 then (if pc = 16 then some (.goto 4, 3) else none) else (if pc < 20 then (if pc = 19 then some (.iconst 0, 1) else none) else (if pc = 20 then some (.ireturn, 1) else none))))
set_option maxRecDepth 100000 in
theorem xo_144_c0 : ([0, 1, 4, 5, 6, 9, 10, 12, 15, 16, 19, 20] : List Nat).all (fun pc => match xo_144 pc with | none => true | some r => decide (decode cX7_hasPermit pc = .ok r)) = true := by decide +kernel
set_option maxRecDepth 100000 in
theorem xo_144_no : (List.range 21).all (fun pc => (xo_144 pc).isNone || (([0, 1, 4, 5, 6, 9, 10, 12, 15, 16, 19, 20] : List Nat).contains pc)) = true := by decide +kernel
theorem xo_144_top (pc : Nat) (h : 21 ≤ pc) : xo_144 pc = none := if_pos h
theorem xo_144_ok (pc : Nat) (r : Instr × Nat) (h : xo_144 pc = some r) : decode cX7_hasPermit pc = .ok r := by
  rcases Nat.lt_or_ge pc 21 with hl | hl
  · have h1 := List.all_eq_true.mp xo_144_no pc (List.mem_range.mpr hl)
    rw [h] at h1
    simp only [Option.isNone_some, Bool.false_or, Bool.or_eq_true, List.contains_iff_mem, or_assoc] at h1
    rcases h1 with h1
    · have h2 := List.all_eq_true.mp xo_144_c0 pc h1
      rw [h] at h2
      exact of_decide_eq_true h2
  · rw [show xo_144 pc = none from if_pos hl] at h; cases h
/-- X7_askError -/
def xo_145 (pc : Nat) : Option (Instr × Nat) := if 53 ≤ pc then none else if pc < 27 then (if pc < 15 then (if pc < 7 then (if pc < 1 then (if pc = 0 then some (.iload_n 1, 1) else none) else (if pc < 4 then (if pc = 1 then some (.invokestatic 85, 3) else none) else (if pc = 4 then some (.ifCond .eq 10, 3) else none))) else (if pc < 11 then (if pc < 8 then (if pc = 7 then some (.iload_n 2, 1) else none) else (if pc = 8 then some (.invokestatic 89, 3) else none)) else (if pc < 14 then (if pc = 11 then some (.ifCond .ne 5, 3) else none) else (if pc = 14 then some (.iconst (-1), 1) else none)))) else (if pc < 20 then (if pc < 16 then (if pc = 15 then some (.ireturn, 1) else none) else (if pc < 17 then (if pc = 16 then some (.iload_n 3, 1) else none) else (if pc = 17 then some (.invokestatic 92, 3) else none))) else (if pc < 25 then (if pc < 23 then (if pc = 20 then some (.ifCond .ne 6, 3) else none) else (if pc = 23 then some (.bipush (-2), 2) else none)) else (if pc < 26 then (if pc = 25 then some (.ireturn, 1) else none) else (if pc = 26 then some (.aload_n 0, 1) else none))))) else (if pc < 38 then (if pc < 34 then (if pc < 28 then (if pc = 27 then some (.iload_n 1, 1) else none) else (if pc < 31 then (if pc = 28 then some (.invokevirtual 95, 3) else none) else (if pc = 31 then some (.ifCond .ne 15, 3) else none))) else (if pc < 36 then (if pc < 35 then (if pc = 34 then some (.aload_n 0, 1) else none) else (if pc = 35 then some (.iconst 0, 1) else none)) else (if pc < 37 then (if pc = 36 then some (.iload_n 2, 1) else none) else (if pc = 37 then some (.iload_n 1, 1) else none)))) else (if pc < 46 then (if pc < 41 then (if pc = 38 then some (.invokevirtual 43, 3) else none) else (if pc < 43 then (if pc = 41 then some (.bipush (-6), 2) else none) else (if pc = 43 then some (.if_icmp .eq 8, 3) else none))) else (if pc < 51 then (if pc < 48 then (if pc = 46 then some (.bipush (-5), 2) else none) else (if pc = 48 then some (.goto 4, 3) else none)) else (if pc < 52 then (if pc = 51 then some (.iconst 0, 1) else none) else (if pc = 52 then some (.ireturn, 1) else none)))))
set_option maxRecDepth 100000 in
theorem xo_145_c0 : ([0, 1, 4, 7, 8, 11, 14, 15, 16, 17, 20, 23, 25, 26, 27, 28, 31, 34, 35, 36, 37, 38, 41, 43, 46, 48, 51, 52] : List Nat).all (fun pc => match xo_145 pc with | none => true | some r => decide (decode cX7_askError pc = .ok r)) = true := by decide +kernel
set_option maxRecDepth 100000 in
theorem xo_145_no : (List.range 53).all (fun pc => (xo_145 pc).isNone || (([0, 1, 4, 7, 8, 11, 14, 15, 16, 17, 20, 23, 25, 26, 27, 28, 31, 34, 35, 36, 37, 38, 41, 43, 46, 48, 51, 52] : List Nat).contains pc)) = true := by decide +kernel
theorem xo_145_top (pc : Nat) (h : 53 ≤ pc) : xo_145 pc = none := if_pos h
theorem xo_145_ok (pc : Nat) (r : Instr × Nat) (h : xo_145 pc = some r) : decode cX7_askError pc = .ok r := by
  rcases Nat.lt_or_ge pc 53 with hl | hl
  · have h1 := List.all_eq_true.mp xo_145_no pc (List.mem_range.mpr hl)
    rw [h] at h1
    simp only [Option.isNone_some, Bool.false_or, Bool.or_eq_true, List.contains_iff_mem, or_assoc] at h1
    rcases h1 with h1
    · have h2 := List.all_eq_true.mp xo_145_c0 pc h1
      rw [h] at h2
      exact of_decide_eq_true h2
  · rw [show xo_145 pc = none from if_pos hl] at h; cases h
/-- X7_parkError -/
def xo_146 (pc : Nat) : Option (Instr × Nat) := if 74 ≤ pc then none else if pc < 37 then (if pc < 18 then (if pc < 9 then (if pc < 4 then (if pc < 1 then (if pc = 0 then some (.iload_n 1, 1) else none) else (if pc = 1 then some (.invokestatic 85, 3) else none)) else (if pc < 7 then (if pc = 4 then some (.ifCond .ne 5, 3) else none) else (if pc < 8 then (if pc = 7 then some (.iconst (-1), 1) else none) else (if pc = 8 then some (.ireturn, 1) else none)))) else (if pc < 11 then (if pc < 10 then (if pc = 9 then some (.aload_n 0, 1) else none) else (if pc = 10 then some (.iload_n 1, 1) else none)) else (if pc < 14 then (if pc = 11 then some (.invokevirtual 95, 3) else none) else (if pc < 17 then (if pc = 14 then some (.ifCond .eq 30, 3) else none) else (if pc = 17 then some (.aload_n 0, 1) else none))))) else (if pc < 27 then (if pc < 20 then (if pc < 19 then (if pc = 18 then some (.iconst 0, 1) else none) else (if pc = 19 then some (.iload_n 1, 1) else none)) else (if pc < 23 then (if pc = 20 then some (.invokevirtual 98, 3) else none) else (if pc < 26 then (if pc = 23 then some (.ifCond .ne 21, 3) else none) else (if pc = 26 then some (.aload_n 0, 1) else none)))) else (if pc < 31 then (if pc < 30 then (if pc = 27 then some (.getfield 7, 3) else none) else (if pc = 30 then some (.iconst 0, 1) else none)) else (if pc < 32 then (if pc = 31 then some (.iload_n 1, 1) else none) else (if pc < 35 then (if pc = 32 then some (.invokestatic 20, 3) else none) else (if pc = 35 then some (.bipush 6, 2) else none)))))) else (if pc < 53 then (if pc < 46 then (if pc < 39 then (if pc < 38 then (if pc = 37 then some (.iadd, 1) else none) else (if pc = 38 then some (.iaload, 1) else none)) else (if pc < 41 then (if pc = 39 then some (.bipush (-6), 2) else none) else (if pc < 44 then (if pc = 41 then some (.if_icmp .eq 6, 3) else none) else (if pc = 44 then some (.bipush (-5), 2) else none)))) else (if pc < 48 then (if pc < 47 then (if pc = 46 then some (.ireturn, 1) else none) else (if pc = 47 then some (.aload_n 0, 1) else none)) else (if pc < 49 then (if pc = 48 then some (.iconst 0, 1) else none) else (if pc < 50 then (if pc = 49 then some (.aload_n 0, 1) else none) else (if pc = 50 then some (.getfield 7, 3) else none))))) else (if pc < 62 then (if pc < 55 then (if pc < 54 then (if pc = 53 then some (.iconst 0, 1) else none) else (if pc = 54 then some (.iload_n 1, 1) else none)) else (if pc < 58 then (if pc = 55 then some (.invokestatic 20, 3) else none) else (if pc < 59 then (if pc = 58 then some (.iaload, 1) else none) else (if pc = 59 then some (.invokevirtual 102, 3) else none)))) else (if pc < 69 then (if pc < 64 then (if pc = 62 then some (.bipush (-6), 2) else none) else (if pc < 67 then (if pc = 64 then some (.if_icmp .ne 8, 3) else none) else (if pc = 67 then some (.bipush (-4), 2) else none))) else (if pc < 72 then (if pc = 69 then some (.goto 4, 3) else none) else (if pc < 73 then (if pc = 72 then some (.iconst 0, 1) else none) else (if pc = 73 then some (.ireturn, 1) else none))))))
set_option maxRecDepth 100000 in
theorem xo_146_c0 : ([0, 1, 4, 7, 8, 9, 10, 11, 14, 17, 18, 19, 20, 23, 26, 27, 30, 31, 32, 35, 37, 38, 39, 41, 44, 46, 47, 48, 49, 50, 53, 54, 55, 58, 59, 62, 64, 67, 69, 72, 73] : List Nat).all (fun pc => match xo_146 pc with | none => true | some r => decide (decode cX7_parkError pc = .ok r)) = true := by decide +kernel
set_option maxRecDepth 100000 in
theorem xo_146_no : (List.range 74).all (fun pc => (xo_146 pc).isNone || (([0, 1, 4, 7, 8, 9, 10, 11, 14, 17, 18, 19, 20, 23, 26, 27, 30, 31, 32, 35, 37, 38, 39, 41, 44, 46, 47, 48, 49, 50, 53, 54, 55, 58, 59, 62, 64, 67, 69, 72, 73] : List Nat).contains pc)) = true := by decide +kernel
theorem xo_146_top (pc : Nat) (h : 74 ≤ pc) : xo_146 pc = none := if_pos h
theorem xo_146_ok (pc : Nat) (r : Instr × Nat) (h : xo_146 pc = some r) : decode cX7_parkError pc = .ok r := by
  rcases Nat.lt_or_ge pc 74 with hl | hl
  · have h1 := List.all_eq_true.mp xo_146_no pc (List.mem_range.mpr hl)
    rw [h] at h1
    simp only [Option.isNone_some, Bool.false_or, Bool.or_eq_true, List.contains_iff_mem, or_assoc] at h1
    rcases h1 with h1
    · have h2 := List.all_eq_true.mp xo_146_c0 pc h1
      rw [h] at h2
      exact of_decide_eq_true h2
  · rw [show xo_146 pc = none from if_pos hl] at h; cases h
/-- X7_rackError -/
def xo_147 (pc : Nat) : Option (Instr × Nat) := if 27 ≤ pc then none else if pc < 13 then (if pc < 7 then (if pc < 1 then (if pc = 0 then some (.iload_n 1, 1) else none) else (if pc < 4 then (if pc = 1 then some (.invokestatic 85, 3) else none) else (if pc = 4 then some (.ifCond .ne 7, 3) else none))) else (if pc < 11 then (if pc < 8 then (if pc = 7 then some (.iconst (-1), 1) else none) else (if pc = 8 then some (.goto 18, 3) else none)) else (if pc < 12 then (if pc = 11 then some (.aload_n 0, 1) else none) else (if pc = 12 then some (.iconst 0, 1) else none)))) else (if pc < 20 then (if pc < 14 then (if pc = 13 then some (.iload_n 1, 1) else none) else (if pc < 17 then (if pc = 14 then some (.invokevirtual 98, 3) else none) else (if pc = 17 then some (.ifCond .eq 7, 3) else none))) else (if pc < 24 then (if pc < 21 then (if pc = 20 then some (.iconst 0, 1) else none) else (if pc = 21 then some (.goto 5, 3) else none)) else (if pc < 26 then (if pc = 24 then some (.bipush (-5), 2) else none) else (if pc = 26 then some (.ireturn, 1) else none))))
set_option maxRecDepth 100000 in
theorem xo_147_c0 : ([0, 1, 4, 7, 8, 11, 12, 13, 14, 17, 20, 21, 24, 26] : List Nat).all (fun pc => match xo_147 pc with | none => true | some r => decide (decode cX7_rackError pc = .ok r)) = true := by decide +kernel
set_option maxRecDepth 100000 in
theorem xo_147_no : (List.range 27).all (fun pc => (xo_147 pc).isNone || (([0, 1, 4, 7, 8, 11, 12, 13, 14, 17, 20, 21, 24, 26] : List Nat).contains pc)) = true := by decide +kernel
theorem xo_147_top (pc : Nat) (h : 27 ≤ pc) : xo_147 pc = none := if_pos h
theorem xo_147_ok (pc : Nat) (r : Instr × Nat) (h : xo_147 pc = some r) : decode cX7_rackError pc = .ok r := by
  rcases Nat.lt_or_ge pc 27 with hl | hl
  · have h1 := List.all_eq_true.mp xo_147_no pc (List.mem_range.mpr hl)
    rw [h] at h1
    simp only [Option.isNone_some, Bool.false_or, Bool.or_eq_true, List.contains_iff_mem, or_assoc] at h1
    rcases h1 with h1
    · have h2 := List.all_eq_true.mp xo_147_c0 pc h1
      rw [h] at h2
      exact of_decide_eq_true h2
  · rw [show xo_147 pc = none from if_pos hl] at h; cases h
/-- X7_fetchError -/
def xo_148 (pc : Nat) : Option (Instr × Nat) := if 36 ≤ pc then none else if pc < 17 then (if pc < 8 then (if pc < 4 then (if pc < 1 then (if pc = 0 then some (.iload_n 1, 1) else none) else (if pc = 1 then some (.invokestatic 85, 3) else none)) else (if pc < 7 then (if pc = 4 then some (.ifCond .ne 7, 3) else none) else (if pc = 7 then some (.iconst (-1), 1) else none))) else (if pc < 12 then (if pc < 11 then (if pc = 8 then some (.goto 27, 3) else none) else (if pc = 11 then some (.aload_n 0, 1) else none)) else (if pc < 15 then (if pc = 12 then some (.getfield 7, 3) else none) else (if pc < 16 then (if pc = 15 then some (.iconst 0, 1) else none) else (if pc = 16 then some (.iload_n 1, 1) else none))))) else (if pc < 26 then (if pc < 22 then (if pc < 20 then (if pc = 17 then some (.invokestatic 20, 3) else none) else (if pc = 20 then some (.bipush 6, 2) else none)) else (if pc < 23 then (if pc = 22 then some (.iadd, 1) else none) else (if pc < 24 then (if pc = 23 then some (.iaload, 1) else none) else (if pc = 24 then some (.bipush (-6), 2) else none)))) else (if pc < 31 then (if pc < 29 then (if pc = 26 then some (.if_icmp .ne 8, 3) else none) else (if pc = 29 then some (.bipush (-5), 2) else none)) else (if pc < 34 then (if pc = 31 then some (.goto 4, 3) else none) else (if pc < 35 then (if pc = 34 then some (.iconst 0, 1) else none) else (if pc = 35 then some (.ireturn, 1) else none)))))
set_option maxRecDepth 100000 in
theorem xo_148_c0 : ([0, 1, 4, 7, 8, 11, 12, 15, 16, 17, 20, 22, 23, 24, 26, 29, 31, 34, 35] : List Nat).all (fun pc => match xo_148 pc with | none => true | some r => decide (decode cX7_fetchError pc = .ok r)) = true := by decide +kernel
set_option maxRecDepth 100000 in
theorem xo_148_no : (List.range 36).all (fun pc => (xo_148 pc).isNone || (([0, 1, 4, 7, 8, 11, 12, 15, 16, 17, 20, 22, 23, 24, 26, 29, 31, 34, 35] : List Nat).contains pc)) = true := by decide +kernel
theorem xo_148_top (pc : Nat) (h : 36 ≤ pc) : xo_148 pc = none := if_pos h
theorem xo_148_ok (pc : Nat) (r : Instr × Nat) (h : xo_148 pc = some r) : decode cX7_fetchError pc = .ok r := by
  rcases Nat.lt_or_ge pc 36 with hl | hl
  · have h1 := List.all_eq_true.mp xo_148_no pc (List.mem_range.mpr hl)
    rw [h] at h1
    simp only [Option.isNone_some, Bool.false_or, Bool.or_eq_true, List.contains_iff_mem, or_assoc] at h1
    rcases h1 with h1
    · have h2 := List.all_eq_true.mp xo_148_c0 pc h1
      rw [h] at h2
      exact of_decide_eq_true h2
  · rw [show xo_148 pc = none from if_pos hl] at h; cases h
/-- X7_passError -/
def xo_149 (pc : Nat) : Option (Instr × Nat) := if 33 ≤ pc then none else if pc < 17 then (if pc < 9 then (if pc < 4 then (if pc < 1 then (if pc = 0 then some (.iload_n 1, 1) else none) else (if pc = 1 then some (.invokestatic 92, 3) else none)) else (if pc < 7 then (if pc = 4 then some (.ifCond .ne 8, 3) else none) else (if pc = 7 then some (.bipush (-2), 2) else none))) else (if pc < 13 then (if pc < 12 then (if pc = 9 then some (.goto 23, 3) else none) else (if pc = 12 then some (.aload_n 0, 1) else none)) else (if pc < 16 then (if pc = 13 then some (.getfield 7, 3) else none) else (if pc = 16 then some (.iconst 4, 1) else none)))) else (if pc < 23 then (if pc < 19 then (if pc < 18 then (if pc = 17 then some (.iaload, 1) else none) else (if pc = 18 then some (.iload_n 1, 1) else none)) else (if pc < 20 then (if pc = 19 then some (.iadd, 1) else none) else (if pc = 20 then some (.sipush 9999, 3) else none))) else (if pc < 28 then (if pc < 26 then (if pc = 23 then some (.if_icmp .le 8, 3) else none) else (if pc = 26 then some (.bipush (-4), 2) else none)) else (if pc < 31 then (if pc = 28 then some (.goto 4, 3) else none) else (if pc < 32 then (if pc = 31 then some (.iconst 0, 1) else none) else (if pc = 32 then some (.ireturn, 1) else none)))))
set_option maxRecDepth 100000 in
theorem xo_149_c0 : ([0, 1, 4, 7, 9, 12, 13, 16, 17, 18, 19, 20, 23, 26, 28, 31, 32] : List Nat).all (fun pc => match xo_149 pc with | none => true | some r => decide (decode cX7_passError pc = .ok r)) = true := by decide +kernel
set_option maxRecDepth 100000 in
theorem xo_149_no : (List.range 33).all (fun pc => (xo_149 pc).isNone || (([0, 1, 4, 7, 9, 12, 13, 16, 17, 18, 19, 20, 23, 26, 28, 31, 32] : List Nat).contains pc)) = true := by decide +kernel
theorem xo_149_top (pc : Nat) (h : 33 ≤ pc) : xo_149 pc = none := if_pos h
theorem xo_149_ok (pc : Nat) (r : Instr × Nat) (h : xo_149 pc = some r) : decode cX7_passError pc = .ok r := by
  rcases Nat.lt_or_ge pc 33 with hl | hl
  · have h1 := List.all_eq_true.mp xo_149_no pc (List.mem_range.mpr hl)
    rw [h] at h1
    simp only [Option.isNone_some, Bool.false_or, Bool.or_eq_true, List.contains_iff_mem, or_assoc] at h1
    rcases h1 with h1
    · have h2 := List.all_eq_true.mp xo_149_c0 pc h1
      rw [h] at h2
      exact of_decide_eq_true h2
  · rw [show xo_149 pc = none from if_pos hl] at h; cases h
end
section
/-- X7_parks -/
def xo_150 (pc : Nat) : Option (Instr × Nat) := if 67 ≤ pc then none else if pc < 36 then (if pc < 18 then (if pc < 8 then (if pc < 5 then (if pc < 1 then (if pc = 0 then some (.iconst 0, 1) else none) else (if pc < 2 then (if pc = 1 then some (.iload_n 1, 1) else none) else (if pc = 2 then some (.invokestatic 20, 3) else none))) else (if pc < 6 then (if pc = 5 then some (.istore_n 2, 1) else none) else (if pc < 7 then (if pc = 6 then some (.aload_n 0, 1) else none) else (if pc = 7 then some (.iconst 0, 1) else none)))) else (if pc < 13 then (if pc < 9 then (if pc = 8 then some (.aload_n 0, 1) else none) else (if pc < 12 then (if pc = 9 then some (.getfield 7, 3) else none) else (if pc = 12 then some (.iload_n 2, 1) else none))) else (if pc < 14 then (if pc = 13 then some (.iaload, 1) else none) else (if pc < 17 then (if pc = 14 then some (.invokevirtual 102, 3) else none) else (if pc = 17 then some (.istore_n 3, 1) else none))))) else (if pc < 26 then (if pc < 23 then (if pc < 19 then (if pc = 18 then some (.aload_n 0, 1) else none) else (if pc < 22 then (if pc = 19 then some (.getfield 7, 3) else none) else (if pc = 22 then some (.iload_n 2, 1) else none))) else (if pc < 24 then (if pc = 23 then some (.iconst 2, 1) else none) else (if pc < 25 then (if pc = 24 then some (.iadd, 1) else none) else (if pc = 25 then some (.aload_n 0, 1) else none)))) else (if pc < 31 then (if pc < 29 then (if pc = 26 then some (.getfield 7, 3) else none) else (if pc < 30 then (if pc = 29 then some (.iload_n 2, 1) else none) else (if pc = 30 then some (.iaload, 1) else none))) else (if pc < 32 then (if pc = 31 then some (.iastore, 1) else none) else (if pc < 33 then (if pc = 32 then some (.aload_n 0, 1) else none) else (if pc = 33 then some (.getfield 7, 3) else none)))))) else (if pc < 52 then (if pc < 42 then (if pc < 39 then (if pc < 37 then (if pc = 36 then some (.iload_n 2, 1) else none) else (if pc < 38 then (if pc = 37 then some (.iconst 3, 1) else none) else (if pc = 38 then some (.iadd, 1) else none))) else (if pc < 40 then (if pc = 39 then some (.iload_n 3, 1) else none) else (if pc < 41 then (if pc = 40 then some (.iastore, 1) else none) else (if pc = 41 then some (.aload_n 0, 1) else none)))) else (if pc < 47 then (if pc < 45 then (if pc = 42 then some (.getfield 7, 3) else none) else (if pc < 46 then (if pc = 45 then some (.iload_n 2, 1) else none) else (if pc = 46 then some (.iconst 4, 1) else none))) else (if pc < 48 then (if pc = 47 then some (.iadd, 1) else none) else (if pc < 49 then (if pc = 48 then some (.aload_n 0, 1) else none) else (if pc = 49 then some (.getfield 7, 3) else none))))) else (if pc < 60 then (if pc < 55 then (if pc < 53 then (if pc = 52 then some (.iconst 4, 1) else none) else (if pc < 54 then (if pc = 53 then some (.iaload, 1) else none) else (if pc = 54 then some (.iastore, 1) else none))) else (if pc < 56 then (if pc = 55 then some (.aload_n 0, 1) else none) else (if pc < 59 then (if pc = 56 then some (.getfield 7, 3) else none) else (if pc = 59 then some (.iload_n 2, 1) else none)))) else (if pc < 64 then (if pc < 61 then (if pc = 60 then some (.iconst 5, 1) else none) else (if pc < 62 then (if pc = 61 then some (.iadd, 1) else none) else (if pc = 62 then some (.bipush (-6), 2) else none))) else (if pc < 65 then (if pc = 64 then some (.iastore, 1) else none) else (if pc < 66 then (if pc = 65 then some (.iload_n 3, 1) else none) else (if pc = 66 then some (.ireturn, 1) else none))))))
set_option maxRecDepth 100000 in
theorem xo_150_c0 : ([0, 1, 2, 5, 6, 7, 8, 9, 12, 13, 14, 17, 18, 19, 22, 23, 24, 25, 26, 29, 30, 31, 32, 33, 36, 37, 38, 39, 40, 41, 42, 45, 46, 47, 48, 49, 52, 53, 54, 55, 56, 59, 60, 61, 62, 64, 65, 66] : List Nat).all (fun pc => match xo_150 pc with | none => true | some r => decide (decode cX7_parks pc = .ok r)) = true := by decide +kernel
set_option maxRecDepth 100000 in
theorem xo_150_no : (List.range 67).all (fun pc => (xo_150 pc).isNone || (([0, 1, 2, 5, 6, 7, 8, 9, 12, 13, 14, 17, 18, 19, 22, 23, 24, 25, 26, 29, 30, 31, 32, 33, 36, 37, 38, 39, 40, 41, 42, 45, 46, 47, 48, 49, 52, 53, 54, 55, 56, 59, 60, 61, 62, 64, 65, 66] : List Nat).contains pc)) = true := by decide +kernel
theorem xo_150_top (pc : Nat) (h : 67 ≤ pc) : xo_150 pc = none := if_pos h
theorem xo_150_ok (pc : Nat) (r : Instr × Nat) (h : xo_150 pc = some r) : decode cX7_parks pc = .ok r := by
  rcases Nat.lt_or_ge pc 67 with hl | hl
  · have h1 := List.all_eq_true.mp xo_150_no pc (List.mem_range.mpr hl)
    rw [h] at h1
    simp only [Option.isNone_some, Bool.false_or, Bool.or_eq_true, List.contains_iff_mem, or_assoc] at h1
    rcases h1 with h1
    · have h2 := List.all_eq_true.mp xo_150_c0 pc h1
      rw [h] at h2
      exact of_decide_eq_true h2
  · rw [show xo_150 pc = none from if_pos hl] at h; cases h
/-- X7_rides -/
def xo_151 (pc : Nat) : Option (Instr × Nat) := if 28 ≤ pc then none else if pc < 16 then (if pc < 7 then (if pc < 4 then (if pc < 1 then (if pc = 0 then some (.aload_n 0, 1) else none) else (if pc = 1 then some (.getfield 7, 3) else none)) else (if pc < 5 then (if pc = 4 then some (.iconst 4, 1) else none) else (if pc < 6 then (if pc = 5 then some (.iaload, 1) else none) else (if pc = 6 then some (.aload_n 0, 1) else none)))) else (if pc < 11 then (if pc < 10 then (if pc = 7 then some (.getfield 7, 3) else none) else (if pc = 10 then some (.iconst 0, 1) else none)) else (if pc < 12 then (if pc = 11 then some (.iload_n 1, 1) else none) else (if pc < 15 then (if pc = 12 then some (.invokestatic 20, 3) else none) else (if pc = 15 then some (.iconst 4, 1) else none))))) else (if pc < 21 then (if pc < 18 then (if pc < 17 then (if pc = 16 then some (.iadd, 1) else none) else (if pc = 17 then some (.iaload, 1) else none)) else (if pc < 19 then (if pc = 18 then some (.isub, 1) else none) else (if pc < 20 then (if pc = 19 then some (.istore_n 2, 1) else none) else (if pc = 20 then some (.aload_n 0, 1) else none)))) else (if pc < 23 then (if pc < 22 then (if pc = 21 then some (.iconst 0, 1) else none) else (if pc = 22 then some (.iload_n 1, 1) else none)) else (if pc < 26 then (if pc = 23 then some (.invokevirtual 69, 3) else none) else (if pc < 27 then (if pc = 26 then some (.iload_n 2, 1) else none) else (if pc = 27 then some (.ireturn, 1) else none)))))
set_option maxRecDepth 100000 in
theorem xo_151_c0 : ([0, 1, 4, 5, 6, 7, 10, 11, 12, 15, 16, 17, 18, 19, 20, 21, 22, 23, 26, 27] : List Nat).all (fun pc => match xo_151 pc with | none => true | some r => decide (decode cX7_rides pc = .ok r)) = true := by decide +kernel
set_option maxRecDepth 100000 in
theorem xo_151_no : (List.range 28).all (fun pc => (xo_151 pc).isNone || (([0, 1, 4, 5, 6, 7, 10, 11, 12, 15, 16, 17, 18, 19, 20, 21, 22, 23, 26, 27] : List Nat).contains pc)) = true := by decide +kernel
theorem xo_151_top (pc : Nat) (h : 28 ≤ pc) : xo_151 pc = none := if_pos h
theorem xo_151_ok (pc : Nat) (r : Instr × Nat) (h : xo_151 pc = some r) : decode cX7_rides pc = .ok r := by
  rcases Nat.lt_or_ge pc 28 with hl | hl
  · have h1 := List.all_eq_true.mp xo_151_no pc (List.mem_range.mpr hl)
    rw [h] at h1
    simp only [Option.isNone_some, Bool.false_or, Bool.or_eq_true, List.contains_iff_mem, or_assoc] at h1
    rcases h1 with h1
    · have h2 := List.all_eq_true.mp xo_151_c0 pc h1
      rw [h] at h2
      exact of_decide_eq_true h2
  · rw [show xo_151 pc = none from if_pos hl] at h; cases h
/-- X7_answers -/
def xo_152 (pc : Nat) : Option (Instr × Nat) := if 54 ≤ pc then none else if pc < 29 then (if pc < 13 then (if pc < 6 then (if pc < 2 then (if pc < 1 then (if pc = 0 then some (.iconst 0, 1) else none) else (if pc = 1 then some (.iload_n 1, 1) else none)) else (if pc < 5 then (if pc = 2 then some (.invokestatic 20, 3) else none) else (if pc = 5 then some (.istore_n 2, 1) else none))) else (if pc < 10 then (if pc < 7 then (if pc = 6 then some (.aload_n 0, 1) else none) else (if pc = 7 then some (.getfield 7, 3) else none)) else (if pc < 11 then (if pc = 10 then some (.iload_n 2, 1) else none) else (if pc < 12 then (if pc = 11 then some (.iconst 5, 1) else none) else (if pc = 12 then some (.iadd, 1) else none))))) else (if pc < 20 then (if pc < 16 then (if pc < 14 then (if pc = 13 then some (.iaload, 1) else none) else (if pc = 14 then some (.bipush (-6), 2) else none)) else (if pc < 19 then (if pc = 16 then some (.if_icmp .eq 7, 3) else none) else (if pc = 19 then some (.iconst 1, 1) else none))) else (if pc < 24 then (if pc < 23 then (if pc = 20 then some (.goto 4, 3) else none) else (if pc = 23 then some (.iconst 0, 1) else none)) else (if pc < 27 then (if pc = 24 then some (.invokestatic 35, 3) else none) else (if pc < 28 then (if pc = 27 then some (.istore_n 3, 1) else none) else (if pc = 28 then some (.aload_n 0, 1) else none)))))) else (if pc < 43 then (if pc < 35 then (if pc < 33 then (if pc < 32 then (if pc = 29 then some (.getfield 7, 3) else none) else (if pc = 32 then some (.iload_n 2, 1) else none)) else (if pc < 34 then (if pc = 33 then some (.iconst 5, 1) else none) else (if pc = 34 then some (.iadd, 1) else none))) else (if pc < 38 then (if pc < 37 then (if pc = 35 then some (.bipush (-6), 2) else none) else (if pc = 37 then some (.iastore, 1) else none)) else (if pc < 39 then (if pc = 38 then some (.aload_n 0, 1) else none) else (if pc < 42 then (if pc = 39 then some (.getfield 7, 3) else none) else (if pc = 42 then some (.iload_n 2, 1) else none))))) else (if pc < 49 then (if pc < 45 then (if pc < 44 then (if pc = 43 then some (.iconst 4, 1) else none) else (if pc = 44 then some (.iadd, 1) else none)) else (if pc < 46 then (if pc = 45 then some (.aload_n 0, 1) else none) else (if pc = 46 then some (.getfield 7, 3) else none))) else (if pc < 51 then (if pc < 50 then (if pc = 49 then some (.iconst 4, 1) else none) else (if pc = 50 then some (.iaload, 1) else none)) else (if pc < 52 then (if pc = 51 then some (.iastore, 1) else none) else (if pc < 53 then (if pc = 52 then some (.iload_n 3, 1) else none) else (if pc = 53 then some (.ireturn, 1) else none))))))
set_option maxRecDepth 100000 in
theorem xo_152_c0 : ([0, 1, 2, 5, 6, 7, 10, 11, 12, 13, 14, 16, 19, 20, 23, 24, 27, 28, 29, 32, 33, 34, 35, 37, 38, 39, 42, 43, 44, 45, 46, 49, 50, 51, 52, 53] : List Nat).all (fun pc => match xo_152 pc with | none => true | some r => decide (decode cX7_answers pc = .ok r)) = true := by decide +kernel
set_option maxRecDepth 100000 in
theorem xo_152_no : (List.range 54).all (fun pc => (xo_152 pc).isNone || (([0, 1, 2, 5, 6, 7, 10, 11, 12, 13, 14, 16, 19, 20, 23, 24, 27, 28, 29, 32, 33, 34, 35, 37, 38, 39, 42, 43, 44, 45, 46, 49, 50, 51, 52, 53] : List Nat).contains pc)) = true := by decide +kernel
theorem xo_152_top (pc : Nat) (h : 54 ≤ pc) : xo_152 pc = none := if_pos h
theorem xo_152_ok (pc : Nat) (r : Instr × Nat) (h : xo_152 pc = some r) : decode cX7_answers pc = .ok r := by
  rcases Nat.lt_or_ge pc 54 with hl | hl
  · have h1 := List.all_eq_true.mp xo_152_no pc (List.mem_range.mpr hl)
    rw [h] at h1
    simp only [Option.isNone_some, Bool.false_or, Bool.or_eq_true, List.contains_iff_mem, or_assoc] at h1
    rcases h1 with h1
    · have h2 := List.all_eq_true.mp xo_152_c0 pc h1
      rw [h] at h2
      exact of_decide_eq_true h2
  · rw [show xo_152 pc = none from if_pos hl] at h; cases h
/-- X7_fetches -/
def xo_153 (pc : Nat) : Option (Instr × Nat) := if 36 ≤ pc then none else if pc < 19 then (if pc < 10 then (if pc < 5 then (if pc < 1 then (if pc = 0 then some (.iconst 0, 1) else none) else (if pc < 2 then (if pc = 1 then some (.iload_n 1, 1) else none) else (if pc = 2 then some (.invokestatic 20, 3) else none))) else (if pc < 6 then (if pc = 5 then some (.istore_n 2, 1) else none) else (if pc < 7 then (if pc = 6 then some (.aload_n 0, 1) else none) else (if pc = 7 then some (.getfield 7, 3) else none)))) else (if pc < 13 then (if pc < 11 then (if pc = 10 then some (.iconst 4, 1) else none) else (if pc < 12 then (if pc = 11 then some (.iaload, 1) else none) else (if pc = 12 then some (.aload_n 0, 1) else none))) else (if pc < 16 then (if pc = 13 then some (.getfield 7, 3) else none) else (if pc < 17 then (if pc = 16 then some (.iload_n 2, 1) else none) else (if pc = 17 then some (.bipush 6, 2) else none))))) else (if pc < 27 then (if pc < 22 then (if pc < 20 then (if pc = 19 then some (.iadd, 1) else none) else (if pc < 21 then (if pc = 20 then some (.iaload, 1) else none) else (if pc = 21 then some (.isub, 1) else none))) else (if pc < 23 then (if pc = 22 then some (.istore_n 3, 1) else none) else (if pc < 24 then (if pc = 23 then some (.aload_n 0, 1) else none) else (if pc = 24 then some (.getfield 7, 3) else none)))) else (if pc < 31 then (if pc < 28 then (if pc = 27 then some (.iload_n 2, 1) else none) else (if pc < 30 then (if pc = 28 then some (.bipush 6, 2) else none) else (if pc = 30 then some (.iadd, 1) else none))) else (if pc < 34 then (if pc < 33 then (if pc = 31 then some (.bipush (-6), 2) else none) else (if pc = 33 then some (.iastore, 1) else none)) else (if pc < 35 then (if pc = 34 then some (.iload_n 3, 1) else none) else (if pc = 35 then some (.ireturn, 1) else none)))))
set_option maxRecDepth 100000 in
theorem xo_153_c0 : ([0, 1, 2, 5, 6, 7, 10, 11, 12, 13, 16, 17, 19, 20, 21, 22, 23, 24, 27, 28, 30, 31, 33, 34, 35] : List Nat).all (fun pc => match xo_153 pc with | none => true | some r => decide (decode cX7_fetches pc = .ok r)) = true := by decide +kernel
set_option maxRecDepth 100000 in
theorem xo_153_no : (List.range 36).all (fun pc => (xo_153 pc).isNone || (([0, 1, 2, 5, 6, 7, 10, 11, 12, 13, 16, 17, 19, 20, 21, 22, 23, 24, 27, 28, 30, 31, 33, 34, 35] : List Nat).contains pc)) = true := by decide +kernel
theorem xo_153_top (pc : Nat) (h : 36 ≤ pc) : xo_153 pc = none := if_pos h
theorem xo_153_ok (pc : Nat) (r : Instr × Nat) (h : xo_153 pc = some r) : decode cX7_fetches pc = .ok r := by
  rcases Nat.lt_or_ge pc 36 with hl | hl
  · have h1 := List.all_eq_true.mp xo_153_no pc (List.mem_range.mpr hl)
    rw [h] at h1
    simp only [Option.isNone_some, Bool.false_or, Bool.or_eq_true, List.contains_iff_mem, or_assoc] at h1
    rcases h1 with h1
    · have h2 := List.all_eq_true.mp xo_153_c0 pc h1
      rw [h] at h2
      exact of_decide_eq_true h2
  · rw [show xo_153 pc = none from if_pos hl] at h; cases h
/-- X7_isValue -/
def xo_154 (pc : Nat) : Option (Instr × Nat) := if 74 ≤ pc then none else if pc < 52 then (if pc < 41 then (if pc < 33 then (if pc < 1 then (if pc = 0 then some (.iload_n 0, 1) else none) else (if pc < 32 then (if pc = 1 then some (.tableswitch 71 0 3 #[31, 41, 51, 61], 31) else none) else (if pc = 32 then some (.iload_n 1, 1) else none))) else (if pc < 35 then (if pc < 34 then (if pc = 33 then some (.i2l, 1) else none) else (if pc = 34 then some (.lconst 0, 1) else none)) else (if pc < 38 then (if pc = 35 then some (.ldc2_w 105, 3) else none) else (if pc = 38 then some (.invokestatic 77, 3) else none)))) else (if pc < 44 then (if pc < 42 then (if pc = 41 then some (.ireturn, 1) else none) else (if pc < 43 then (if pc = 42 then some (.iload_n 1, 1) else none) else (if pc = 43 then some (.i2l, 1) else none))) else (if pc < 48 then (if pc < 45 then (if pc = 44 then some (.lconst 1, 1) else none) else (if pc = 45 then some (.ldc2_w 107, 3) else none)) else (if pc < 51 then (if pc = 48 then some (.invokestatic 77, 3) else none) else (if pc = 51 then some (.ireturn, 1) else none))))) else (if pc < 63 then (if pc < 55 then (if pc < 53 then (if pc = 52 then some (.iload_n 1, 1) else none) else (if pc < 54 then (if pc = 53 then some (.i2l, 1) else none) else (if pc = 54 then some (.lconst 1, 1) else none))) else (if pc < 61 then (if pc < 58 then (if pc = 55 then some (.ldc2_w 109, 3) else none) else (if pc = 58 then some (.invokestatic 77, 3) else none)) else (if pc < 62 then (if pc = 61 then some (.ireturn, 1) else none) else (if pc = 62 then some (.iload_n 1, 1) else none)))) else (if pc < 68 then (if pc < 64 then (if pc = 63 then some (.i2l, 1) else none) else (if pc < 65 then (if pc = 64 then some (.lconst 1, 1) else none) else (if pc = 65 then some (.ldc2_w 83, 3) else none))) else (if pc < 72 then (if pc < 71 then (if pc = 68 then some (.invokestatic 77, 3) else none) else (if pc = 71 then some (.ireturn, 1) else none)) else (if pc < 73 then (if pc = 72 then some (.iconst 0, 1) else none) else (if pc = 73 then some (.ireturn, 1) else none)))))
set_option maxRecDepth 100000 in
theorem xo_154_c0 : ([0, 1, 32, 33, 34, 35, 38, 41, 42, 43, 44, 45, 48, 51, 52, 53, 54, 55, 58, 61, 62, 63, 64, 65, 68, 71, 72, 73] : List Nat).all (fun pc => match xo_154 pc with | none => true | some r => decide (decode cX7_isValue pc = .ok r)) = true := by decide +kernel
set_option maxRecDepth 100000 in
theorem xo_154_no : (List.range 74).all (fun pc => (xo_154 pc).isNone || (([0, 1, 32, 33, 34, 35, 38, 41, 42, 43, 44, 45, 48, 51, 52, 53, 54, 55, 58, 61, 62, 63, 64, 65, 68, 71, 72, 73] : List Nat).contains pc)) = true := by decide +kernel
theorem xo_154_top (pc : Nat) (h : 74 ≤ pc) : xo_154 pc = none := if_pos h
theorem xo_154_ok (pc : Nat) (r : Instr × Nat) (h : xo_154 pc = some r) : decode cX7_isValue pc = .ok r := by
  rcases Nat.lt_or_ge pc 74 with hl | hl
  · have h1 := List.all_eq_true.mp xo_154_no pc (List.mem_range.mpr hl)
    rw [h] at h1
    simp only [Option.isNone_some, Bool.false_or, Bool.or_eq_true, List.contains_iff_mem, or_assoc] at h1
    rcases h1 with h1
    · have h2 := List.all_eq_true.mp xo_154_c0 pc h1
      rw [h] at h2
      exact of_decide_eq_true h2
  · rw [show xo_154 pc = none from if_pos hl] at h; cases h
/-- X7_set -/
def xo_155 (pc : Nat) : Option (Instr × Nat) := if 38 ≤ pc then none else if pc < 21 then (if pc < 11 then (if pc < 5 then (if pc < 1 then (if pc = 0 then some (.iload_n 1, 1) else none) else (if pc < 2 then (if pc = 1 then some (.iload_n 2, 1) else none) else (if pc = 2 then some (.invokestatic 111, 3) else none))) else (if pc < 8 then (if pc = 5 then some (.ifCond .ne 6, 3) else none) else (if pc < 10 then (if pc = 8 then some (.bipush (-2), 2) else none) else (if pc = 10 then some (.ireturn, 1) else none)))) else (if pc < 16 then (if pc < 12 then (if pc = 11 then some (.aload_n 0, 1) else none) else (if pc < 15 then (if pc = 12 then some (.invokevirtual 114, 3) else none) else (if pc = 15 then some (.aload_n 0, 1) else none))) else (if pc < 19 then (if pc = 16 then some (.getfield 7, 3) else none) else (if pc < 20 then (if pc = 19 then some (.iload_n 1, 1) else none) else (if pc = 20 then some (.iaload, 1) else none))))) else (if pc < 29 then (if pc < 26 then (if pc < 22 then (if pc = 21 then some (.istore_n 3, 1) else none) else (if pc < 23 then (if pc = 22 then some (.aload_n 0, 1) else none) else (if pc = 23 then some (.getfield 7, 3) else none))) else (if pc < 27 then (if pc = 26 then some (.iload_n 1, 1) else none) else (if pc < 28 then (if pc = 27 then some (.iload_n 2, 1) else none) else (if pc = 28 then some (.iastore, 1) else none)))) else (if pc < 34 then (if pc < 30 then (if pc = 29 then some (.aload_n 0, 1) else none) else (if pc < 31 then (if pc = 30 then some (.iconst 0, 1) else none) else (if pc = 31 then some (.invokevirtual 62, 3) else none))) else (if pc < 36 then (if pc = 34 then some (.istore 4, 2) else none) else (if pc < 37 then (if pc = 36 then some (.iload_n 3, 1) else none) else (if pc = 37 then some (.ireturn, 1) else none)))))
set_option maxRecDepth 100000 in
theorem xo_155_c0 : ([0, 1, 2, 5, 8, 10, 11, 12, 15, 16, 19, 20, 21, 22, 23, 26, 27, 28, 29, 30, 31, 34, 36, 37] : List Nat).all (fun pc => match xo_155 pc with | none => true | some r => decide (decode cX7_set pc = .ok r)) = true := by decide +kernel
set_option maxRecDepth 100000 in
theorem xo_155_no : (List.range 38).all (fun pc => (xo_155 pc).isNone || (([0, 1, 2, 5, 8, 10, 11, 12, 15, 16, 19, 20, 21, 22, 23, 26, 27, 28, 29, 30, 31, 34, 36, 37] : List Nat).contains pc)) = true := by decide +kernel
theorem xo_155_top (pc : Nat) (h : 38 ≤ pc) : xo_155 pc = none := if_pos h
theorem xo_155_ok (pc : Nat) (r : Instr × Nat) (h : xo_155 pc = some r) : decode cX7_set pc = .ok r := by
  rcases Nat.lt_or_ge pc 38 with hl | hl
  · have h1 := List.all_eq_true.mp xo_155_no pc (List.mem_range.mpr hl)
    rw [h] at h1
    simp only [Option.isNone_some, Bool.false_or, Bool.or_eq_true, List.contains_iff_mem, or_assoc] at h1
    rcases h1 with h1
    · have h2 := List.all_eq_true.mp xo_155_c0 pc h1
      rw [h] at h2
      exact of_decide_eq_true h2
  · rw [show xo_155 pc = none from if_pos hl] at h; cases h
/-- X7_ask -/
def xo_156 (pc : Nat) : Option (Instr × Nat) := if 30 ≤ pc then none else if pc < 16 then (if pc < 4 then (if pc < 2 then (if pc < 1 then (if pc = 0 then some (.aload_n 0, 1) else none) else (if pc = 1 then some (.iload_n 1, 1) else none)) else (if pc < 3 then (if pc = 2 then some (.iload_n 2, 1) else none) else (if pc = 3 then some (.iload_n 3, 1) else none))) else (if pc < 9 then (if pc < 7 then (if pc = 4 then some (.invokevirtual 117, 3) else none) else (if pc = 7 then some (.istore 4, 2) else none)) else (if pc < 11 then (if pc = 9 then some (.iload 4, 2) else none) else (if pc < 14 then (if pc = 11 then some (.ifCond .eq 6, 3) else none) else (if pc = 14 then some (.iload 4, 2) else none))))) else (if pc < 23 then (if pc < 18 then (if pc < 17 then (if pc = 16 then some (.ireturn, 1) else none) else (if pc = 17 then some (.aload_n 0, 1) else none)) else (if pc < 21 then (if pc = 18 then some (.invokevirtual 114, 3) else none) else (if pc < 22 then (if pc = 21 then some (.aload_n 0, 1) else none) else (if pc = 22 then some (.iconst 0, 1) else none)))) else (if pc < 25 then (if pc < 24 then (if pc = 23 then some (.iload_n 1, 1) else none) else (if pc = 24 then some (.iload_n 2, 1) else none)) else (if pc < 26 then (if pc = 25 then some (.iload_n 3, 1) else none) else (if pc < 29 then (if pc = 26 then some (.invokevirtual 120, 3) else none) else (if pc = 29 then some (.ireturn, 1) else none)))))
set_option maxRecDepth 100000 in
theorem xo_156_c0 : ([0, 1, 2, 3, 4, 7, 9, 11, 14, 16, 17, 18, 21, 22, 23, 24, 25, 26, 29] : List Nat).all (fun pc => match xo_156 pc with | none => true | some r => decide (decode cX7_ask pc = .ok r)) = true := by decide +kernel
set_option maxRecDepth 100000 in
theorem xo_156_no : (List.range 30).all (fun pc => (xo_156 pc).isNone || (([0, 1, 2, 3, 4, 7, 9, 11, 14, 16, 17, 18, 21, 22, 23, 24, 25, 26, 29] : List Nat).contains pc)) = true := by decide +kernel
theorem xo_156_top (pc : Nat) (h : 30 ≤ pc) : xo_156 pc = none := if_pos h
theorem xo_156_ok (pc : Nat) (r : Instr × Nat) (h : xo_156 pc = some r) : decode cX7_ask pc = .ok r := by
  rcases Nat.lt_or_ge pc 30 with hl | hl
  · have h1 := List.all_eq_true.mp xo_156_no pc (List.mem_range.mpr hl)
    rw [h] at h1
    simp only [Option.isNone_some, Bool.false_or, Bool.or_eq_true, List.contains_iff_mem, or_assoc] at h1
    rcases h1 with h1
    · have h2 := List.all_eq_true.mp xo_156_c0 pc h1
      rw [h] at h2
      exact of_decide_eq_true h2
  · rw [show xo_156 pc = none from if_pos hl] at h; cases h
/-- X7_giveUp -/
def xo_157 (pc : Nat) : Option (Instr × Nat) := if 87 ≤ pc then none else if pc < 50 then (if pc < 23 then (if pc < 10 then (if pc < 7 then (if pc < 1 then (if pc = 0 then some (.iload_n 1, 1) else none) else (if pc < 4 then (if pc = 1 then some (.invokestatic 85, 3) else none) else (if pc = 4 then some (.ifCond .ne 5, 3) else none))) else (if pc < 8 then (if pc = 7 then some (.iconst (-1), 1) else none) else (if pc < 9 then (if pc = 8 then some (.ireturn, 1) else none) else (if pc = 9 then some (.aload_n 0, 1) else none)))) else (if pc < 17 then (if pc < 11 then (if pc = 10 then some (.iload_n 1, 1) else none) else (if pc < 14 then (if pc = 11 then some (.invokevirtual 95, 3) else none) else (if pc = 14 then some (.ifCond .ne 15, 3) else none))) else (if pc < 19 then (if pc < 18 then (if pc = 17 then some (.aload_n 0, 1) else none) else (if pc = 18 then some (.iconst 0, 1) else none)) else (if pc < 20 then (if pc = 19 then some (.iload_n 1, 1) else none) else (if pc = 20 then some (.invokevirtual 124, 3) else none))))) else (if pc < 35 then (if pc < 29 then (if pc < 26 then (if pc = 23 then some (.ifCond .ne 6, 3) else none) else (if pc < 28 then (if pc = 26 then some (.bipush (-5), 2) else none) else (if pc = 28 then some (.ireturn, 1) else none))) else (if pc < 33 then (if pc < 30 then (if pc = 29 then some (.aload_n 0, 1) else none) else (if pc = 30 then some (.invokevirtual 114, 3) else none)) else (if pc < 34 then (if pc = 33 then some (.aload_n 0, 1) else none) else (if pc = 34 then some (.iload_n 1, 1) else none)))) else (if pc < 42 then (if pc < 38 then (if pc = 35 then some (.invokevirtual 95, 3) else none) else (if pc < 41 then (if pc = 38 then some (.ifCond .eq 27, 3) else none) else (if pc = 41 then some (.aload_n 0, 1) else none))) else (if pc < 46 then (if pc < 45 then (if pc = 42 then some (.getfield 7, 3) else none) else (if pc = 45 then some (.iconst 0, 1) else none)) else (if pc < 47 then (if pc = 46 then some (.iload_n 1, 1) else none) else (if pc = 47 then some (.invokestatic 20, 3) else none)))))) else (if pc < 67 then (if pc < 58 then (if pc < 53 then (if pc < 51 then (if pc = 50 then some (.iconst 1, 1) else none) else (if pc < 52 then (if pc = 51 then some (.iadd, 1) else none) else (if pc = 52 then some (.iaload, 1) else none))) else (if pc < 54 then (if pc = 53 then some (.aload_n 0, 1) else none) else (if pc < 57 then (if pc = 54 then some (.getfield 7, 3) else none) else (if pc = 57 then some (.iconst 4, 1) else none)))) else (if pc < 61 then (if pc < 59 then (if pc = 58 then some (.iaload, 1) else none) else (if pc < 60 then (if pc = 59 then some (.isub, 1) else none) else (if pc = 60 then some (.iconst 1, 1) else none))) else (if pc < 65 then (if pc < 62 then (if pc = 61 then some (.iadd, 1) else none) else (if pc = 62 then some (.goto 4, 3) else none)) else (if pc < 66 then (if pc = 65 then some (.iconst 0, 1) else none) else (if pc = 66 then some (.istore_n 2, 1) else none))))) else (if pc < 76 then (if pc < 70 then (if pc < 68 then (if pc = 67 then some (.aload_n 0, 1) else none) else (if pc < 69 then (if pc = 68 then some (.iconst 0, 1) else none) else (if pc = 69 then some (.iload_n 1, 1) else none))) else (if pc < 74 then (if pc < 73 then (if pc = 70 then some (.invokevirtual 59, 3) else none) else (if pc = 73 then some (.aload_n 0, 1) else none)) else (if pc < 75 then (if pc = 74 then some (.iconst 0, 1) else none) else (if pc = 75 then some (.iload_n 1, 1) else none)))) else (if pc < 81 then (if pc < 79 then (if pc = 76 then some (.invokevirtual 46, 3) else none) else (if pc < 80 then (if pc = 79 then some (.aload_n 0, 1) else none) else (if pc = 80 then some (.iconst 0, 1) else none))) else (if pc < 85 then (if pc < 84 then (if pc = 81 then some (.invokevirtual 62, 3) else none) else (if pc = 84 then some (.istore_n 3, 1) else none)) else (if pc < 86 then (if pc = 85 then some (.iload_n 2, 1) else none) else (if pc = 86 then some (.ireturn, 1) else none))))))
set_option maxRecDepth 100000 in
theorem xo_157_c0 : ([0, 1, 4, 7, 8, 9, 10, 11, 14, 17, 18, 19, 20, 23, 26, 28, 29, 30, 33, 34, 35, 38, 41, 42, 45, 46, 47, 50, 51, 52, 53, 54, 57, 58, 59, 60, 61, 62, 65, 66, 67, 68, 69, 70, 73, 74, 75, 76, 79, 80, 81, 84, 85, 86] : List Nat).all (fun pc => match xo_157 pc with | none => true | some r => decide (decode cX7_giveUp pc = .ok r)) = true := by decide +kernel
set_option maxRecDepth 100000 in
theorem xo_157_no : (List.range 87).all (fun pc => (xo_157 pc).isNone || (([0, 1, 4, 7, 8, 9, 10, 11, 14, 17, 18, 19, 20, 23, 26, 28, 29, 30, 33, 34, 35, 38, 41, 42, 45, 46, 47, 50, 51, 52, 53, 54, 57, 58, 59, 60, 61, 62, 65, 66, 67, 68, 69, 70, 73, 74, 75, 76, 79, 80, 81, 84, 85, 86] : List Nat).contains pc)) = true := by decide +kernel
theorem xo_157_top (pc : Nat) (h : 87 ≤ pc) : xo_157 pc = none := if_pos h
theorem xo_157_ok (pc : Nat) (r : Instr × Nat) (h : xo_157 pc = some r) : decode cX7_giveUp pc = .ok r := by
  rcases Nat.lt_or_ge pc 87 with hl | hl
  · have h1 := List.all_eq_true.mp xo_157_no pc (List.mem_range.mpr hl)
    rw [h] at h1
    simp only [Option.isNone_some, Bool.false_or, Bool.or_eq_true, List.contains_iff_mem, or_assoc] at h1
    rcases h1 with h1
    · have h2 := List.all_eq_true.mp xo_157_c0 pc h1
      rw [h] at h2
      exact of_decide_eq_true h2
  · rw [show xo_157 pc = none from if_pos hl] at h; cases h
/-- X7_prolong -/
def xo_158 (pc : Nat) : Option (Instr × Nat) := if 78 ≤ pc then none else if pc < 44 then (if pc < 21 then (if pc < 10 then (if pc < 7 then (if pc < 1 then (if pc = 0 then some (.iload_n 1, 1) else none) else (if pc < 4 then (if pc = 1 then some (.invokestatic 85, 3) else none) else (if pc = 4 then some (.ifCond .ne 5, 3) else none))) else (if pc < 8 then (if pc = 7 then some (.iconst (-1), 1) else none) else (if pc < 9 then (if pc = 8 then some (.ireturn, 1) else none) else (if pc = 9 then some (.iload_n 2, 1) else none)))) else (if pc < 18 then (if pc < 13 then (if pc = 10 then some (.invokestatic 92, 3) else none) else (if pc < 16 then (if pc = 13 then some (.ifCond .ne 6, 3) else none) else (if pc = 16 then some (.bipush (-2), 2) else none))) else (if pc < 19 then (if pc = 18 then some (.ireturn, 1) else none) else (if pc < 20 then (if pc = 19 then some (.iconst 0, 1) else none) else (if pc = 20 then some (.iload_n 1, 1) else none))))) else (if pc < 33 then (if pc < 26 then (if pc < 24 then (if pc = 21 then some (.invokestatic 20, 3) else none) else (if pc < 25 then (if pc = 24 then some (.istore_n 3, 1) else none) else (if pc = 25 then some (.aload_n 0, 1) else none))) else (if pc < 27 then (if pc = 26 then some (.iload_n 1, 1) else none) else (if pc < 30 then (if pc = 27 then some (.invokevirtual 95, 3) else none) else (if pc = 30 then some (.ifCond .eq 20, 3) else none)))) else (if pc < 39 then (if pc < 34 then (if pc = 33 then some (.aload_n 0, 1) else none) else (if pc < 37 then (if pc = 34 then some (.getfield 7, 3) else none) else (if pc = 37 then some (.bipush 11, 2) else none))) else (if pc < 40 then (if pc = 39 then some (.aload_n 0, 1) else none) else (if pc < 43 then (if pc = 40 then some (.getfield 7, 3) else none) else (if pc = 43 then some (.iload_n 3, 1) else none)))))) else (if pc < 63 then (if pc < 53 then (if pc < 47 then (if pc < 45 then (if pc = 44 then some (.iaload, 1) else none) else (if pc < 46 then (if pc = 45 then some (.iadd, 1) else none) else (if pc = 46 then some (.iaload, 1) else none))) else (if pc < 50 then (if pc = 47 then some (.ifCond .le 6, 3) else none) else (if pc < 52 then (if pc = 50 then some (.bipush (-5), 2) else none) else (if pc = 52 then some (.ireturn, 1) else none)))) else (if pc < 58 then (if pc < 54 then (if pc = 53 then some (.aload_n 0, 1) else none) else (if pc < 57 then (if pc = 54 then some (.invokevirtual 114, 3) else none) else (if pc = 57 then some (.aload_n 0, 1) else none))) else (if pc < 61 then (if pc = 58 then some (.getfield 7, 3) else none) else (if pc < 62 then (if pc = 61 then some (.iload_n 3, 1) else none) else (if pc = 62 then some (.iconst 1, 1) else none))))) else (if pc < 69 then (if pc < 66 then (if pc < 64 then (if pc = 63 then some (.iadd, 1) else none) else (if pc < 65 then (if pc = 64 then some (.dup2, 1) else none) else (if pc = 65 then some (.iaload, 1) else none))) else (if pc < 67 then (if pc = 66 then some (.iload_n 2, 1) else none) else (if pc < 68 then (if pc = 67 then some (.iadd, 1) else none) else (if pc = 68 then some (.iastore, 1) else none)))) else (if pc < 74 then (if pc < 70 then (if pc = 69 then some (.aload_n 0, 1) else none) else (if pc < 73 then (if pc = 70 then some (.getfield 7, 3) else none) else (if pc = 73 then some (.iload_n 3, 1) else none))) else (if pc < 76 then (if pc < 75 then (if pc = 74 then some (.iconst 1, 1) else none) else (if pc = 75 then some (.iadd, 1) else none)) else (if pc < 77 then (if pc = 76 then some (.iaload, 1) else none) else (if pc = 77 then some (.ireturn, 1) else none))))))
set_option maxRecDepth 100000 in
theorem xo_158_c0 : ([0, 1, 4, 7, 8, 9, 10, 13, 16, 18, 19, 20, 21, 24, 25, 26, 27, 30, 33, 34, 37, 39, 40, 43, 44, 45, 46, 47, 50, 52, 53, 54, 57, 58, 61, 62, 63, 64, 65, 66, 67, 68, 69, 70, 73, 74, 75, 76, 77] : List Nat).all (fun pc => match xo_158 pc with | none => true | some r => decide (decode cX7_prolong pc = .ok r)) = true := by decide +kernel
set_option maxRecDepth 100000 in
theorem xo_158_no : (List.range 78).all (fun pc => (xo_158 pc).isNone || (([0, 1, 4, 7, 8, 9, 10, 13, 16, 18, 19, 20, 21, 24, 25, 26, 27, 30, 33, 34, 37, 39, 40, 43, 44, 45, 46, 47, 50, 52, 53, 54, 57, 58, 61, 62, 63, 64, 65, 66, 67, 68, 69, 70, 73, 74, 75, 76, 77] : List Nat).contains pc)) = true := by decide +kernel
theorem xo_158_top (pc : Nat) (h : 78 ≤ pc) : xo_158 pc = none := if_pos h
theorem xo_158_ok (pc : Nat) (r : Instr × Nat) (h : xo_158 pc = some r) : decode cX7_prolong pc = .ok r := by
  rcases Nat.lt_or_ge pc 78 with hl | hl
  · have h1 := List.all_eq_true.mp xo_158_no pc (List.mem_range.mpr hl)
    rw [h] at h1
    simp only [Option.isNone_some, Bool.false_or, Bool.or_eq_true, List.contains_iff_mem, or_assoc] at h1
    rcases h1 with h1
    · have h2 := List.all_eq_true.mp xo_158_c0 pc h1
      rw [h] at h2
      exact of_decide_eq_true h2
  · rw [show xo_158 pc = none from if_pos hl] at h; cases h
/-- X7_park -/
def xo_159 (pc : Nat) : Option (Instr × Nat) := if 22 ≤ pc then none else if pc < 11 then (if pc < 5 then (if pc < 1 then (if pc = 0 then some (.aload_n 0, 1) else none) else (if pc < 2 then (if pc = 1 then some (.iload_n 1, 1) else none) else (if pc = 2 then some (.invokevirtual 127, 3) else none))) else (if pc < 7 then (if pc < 6 then (if pc = 5 then some (.istore_n 2, 1) else none) else (if pc = 6 then some (.iload_n 2, 1) else none)) else (if pc < 10 then (if pc = 7 then some (.ifCond .eq 5, 3) else none) else (if pc = 10 then some (.iload_n 2, 1) else none)))) else (if pc < 16 then (if pc < 12 then (if pc = 11 then some (.ireturn, 1) else none) else (if pc < 13 then (if pc = 12 then some (.aload_n 0, 1) else none) else (if pc = 13 then some (.invokevirtual 114, 3) else none))) else (if pc < 18 then (if pc < 17 then (if pc = 16 then some (.aload_n 0, 1) else none) else (if pc = 17 then some (.iload_n 1, 1) else none)) else (if pc < 21 then (if pc = 18 then some (.invokevirtual 130, 3) else none) else (if pc = 21 then some (.ireturn, 1) else none))))
set_option maxRecDepth 100000 in
theorem xo_159_c0 : ([0, 1, 2, 5, 6, 7, 10, 11, 12, 13, 16, 17, 18, 21] : List Nat).all (fun pc => match xo_159 pc with | none => true | some r => decide (decode cX7_park pc = .ok r)) = true := by decide +kernel
set_option maxRecDepth 100000 in
theorem xo_159_no : (List.range 22).all (fun pc => (xo_159 pc).isNone || (([0, 1, 2, 5, 6, 7, 10, 11, 12, 13, 16, 17, 18, 21] : List Nat).contains pc)) = true := by decide +kernel
theorem xo_159_top (pc : Nat) (h : 22 ≤ pc) : xo_159 pc = none := if_pos h
theorem xo_159_ok (pc : Nat) (r : Instr × Nat) (h : xo_159 pc = some r) : decode cX7_park pc = .ok r := by
  rcases Nat.lt_or_ge pc 22 with hl | hl
  · have h1 := List.all_eq_true.mp xo_159_no pc (List.mem_range.mpr hl)
    rw [h] at h1
    simp only [Option.isNone_some, Bool.false_or, Bool.or_eq_true, List.contains_iff_mem, or_assoc] at h1
    rcases h1 with h1
    · have h2 := List.all_eq_true.mp xo_159_c0 pc h1
      rw [h] at h2
      exact of_decide_eq_true h2
  · rw [show xo_159 pc = none from if_pos hl] at h; cases h
/-- X7_ride -/
def xo_160 (pc : Nat) : Option (Instr × Nat) := if 22 ≤ pc then none else if pc < 11 then (if pc < 5 then (if pc < 1 then (if pc = 0 then some (.aload_n 0, 1) else none) else (if pc < 2 then (if pc = 1 then some (.iload_n 1, 1) else none) else (if pc = 2 then some (.invokevirtual 133, 3) else none))) else (if pc < 7 then (if pc < 6 then (if pc = 5 then some (.istore_n 2, 1) else none) else (if pc = 6 then some (.iload_n 2, 1) else none)) else (if pc < 10 then (if pc = 7 then some (.ifCond .eq 5, 3) else none) else (if pc = 10 then some (.iload_n 2, 1) else none)))) else (if pc < 16 then (if pc < 12 then (if pc = 11 then some (.ireturn, 1) else none) else (if pc < 13 then (if pc = 12 then some (.aload_n 0, 1) else none) else (if pc = 13 then some (.invokevirtual 114, 3) else none))) else (if pc < 18 then (if pc < 17 then (if pc = 16 then some (.aload_n 0, 1) else none) else (if pc = 17 then some (.iload_n 1, 1) else none)) else (if pc < 21 then (if pc = 18 then some (.invokevirtual 136, 3) else none) else (if pc = 21 then some (.ireturn, 1) else none))))
set_option maxRecDepth 100000 in
theorem xo_160_c0 : ([0, 1, 2, 5, 6, 7, 10, 11, 12, 13, 16, 17, 18, 21] : List Nat).all (fun pc => match xo_160 pc with | none => true | some r => decide (decode cX7_ride pc = .ok r)) = true := by decide +kernel
set_option maxRecDepth 100000 in
theorem xo_160_no : (List.range 22).all (fun pc => (xo_160 pc).isNone || (([0, 1, 2, 5, 6, 7, 10, 11, 12, 13, 16, 17, 18, 21] : List Nat).contains pc)) = true := by decide +kernel
theorem xo_160_top (pc : Nat) (h : 22 ≤ pc) : xo_160 pc = none := if_pos h
theorem xo_160_ok (pc : Nat) (r : Instr × Nat) (h : xo_160 pc = some r) : decode cX7_ride pc = .ok r := by
  rcases Nat.lt_or_ge pc 22 with hl | hl
  · have h1 := List.all_eq_true.mp xo_160_no pc (List.mem_range.mpr hl)
    rw [h] at h1
    simp only [Option.isNone_some, Bool.false_or, Bool.or_eq_true, List.contains_iff_mem, or_assoc] at h1
    rcases h1 with h1
    · have h2 := List.all_eq_true.mp xo_160_c0 pc h1
      rw [h] at h2
      exact of_decide_eq_true h2
  · rw [show xo_160 pc = none from if_pos hl] at h; cases h
/-- X7_answer -/
def xo_161 (pc : Nat) : Option (Instr × Nat) := if 22 ≤ pc then none else if pc < 11 then (if pc < 5 then (if pc < 1 then (if pc = 0 then some (.aload_n 0, 1) else none) else (if pc < 2 then (if pc = 1 then some (.iload_n 1, 1) else none) else (if pc = 2 then some (.invokevirtual 133, 3) else none))) else (if pc < 7 then (if pc < 6 then (if pc = 5 then some (.istore_n 2, 1) else none) else (if pc = 6 then some (.iload_n 2, 1) else none)) else (if pc < 10 then (if pc = 7 then some (.ifCond .eq 5, 3) else none) else (if pc = 10 then some (.iload_n 2, 1) else none)))) else (if pc < 16 then (if pc < 12 then (if pc = 11 then some (.ireturn, 1) else none) else (if pc < 13 then (if pc = 12 then some (.aload_n 0, 1) else none) else (if pc = 13 then some (.invokevirtual 114, 3) else none))) else (if pc < 18 then (if pc < 17 then (if pc = 16 then some (.aload_n 0, 1) else none) else (if pc = 17 then some (.iload_n 1, 1) else none)) else (if pc < 21 then (if pc = 18 then some (.invokevirtual 139, 3) else none) else (if pc = 21 then some (.ireturn, 1) else none))))
set_option maxRecDepth 100000 in
theorem xo_161_c0 : ([0, 1, 2, 5, 6, 7, 10, 11, 12, 13, 16, 17, 18, 21] : List Nat).all (fun pc => match xo_161 pc with | none => true | some r => decide (decode cX7_answer pc = .ok r)) = true := by decide +kernel
set_option maxRecDepth 100000 in
theorem xo_161_no : (List.range 22).all (fun pc => (xo_161 pc).isNone || (([0, 1, 2, 5, 6, 7, 10, 11, 12, 13, 16, 17, 18, 21] : List Nat).contains pc)) = true := by decide +kernel
theorem xo_161_top (pc : Nat) (h : 22 ≤ pc) : xo_161 pc = none := if_pos h
theorem xo_161_ok (pc : Nat) (r : Instr × Nat) (h : xo_161 pc = some r) : decode cX7_answer pc = .ok r := by
  rcases Nat.lt_or_ge pc 22 with hl | hl
  · have h1 := List.all_eq_true.mp xo_161_no pc (List.mem_range.mpr hl)
    rw [h] at h1
    simp only [Option.isNone_some, Bool.false_or, Bool.or_eq_true, List.contains_iff_mem, or_assoc] at h1
    rcases h1 with h1
    · have h2 := List.all_eq_true.mp xo_161_c0 pc h1
      rw [h] at h2
      exact of_decide_eq_true h2
  · rw [show xo_161 pc = none from if_pos hl] at h; cases h
/-- X7_fetch -/
def xo_162 (pc : Nat) : Option (Instr × Nat) := if 22 ≤ pc then none else if pc < 11 then (if pc < 5 then (if pc < 1 then (if pc = 0 then some (.aload_n 0, 1) else none) else (if pc < 2 then (if pc = 1 then some (.iload_n 1, 1) else none) else (if pc = 2 then some (.invokevirtual 142, 3) else none))) else (if pc < 7 then (if pc < 6 then (if pc = 5 then some (.istore_n 2, 1) else none) else (if pc = 6 then some (.iload_n 2, 1) else none)) else (if pc < 10 then (if pc = 7 then some (.ifCond .eq 5, 3) else none) else (if pc = 10 then some (.iload_n 2, 1) else none)))) else (if pc < 16 then (if pc < 12 then (if pc = 11 then some (.ireturn, 1) else none) else (if pc < 13 then (if pc = 12 then some (.aload_n 0, 1) else none) else (if pc = 13 then some (.invokevirtual 114, 3) else none))) else (if pc < 18 then (if pc < 17 then (if pc = 16 then some (.aload_n 0, 1) else none) else (if pc = 17 then some (.iload_n 1, 1) else none)) else (if pc < 21 then (if pc = 18 then some (.invokevirtual 145, 3) else none) else (if pc = 21 then some (.ireturn, 1) else none))))
set_option maxRecDepth 100000 in
theorem xo_162_c0 : ([0, 1, 2, 5, 6, 7, 10, 11, 12, 13, 16, 17, 18, 21] : List Nat).all (fun pc => match xo_162 pc with | none => true | some r => decide (decode cX7_fetch pc = .ok r)) = true := by decide +kernel
set_option maxRecDepth 100000 in
theorem xo_162_no : (List.range 22).all (fun pc => (xo_162 pc).isNone || (([0, 1, 2, 5, 6, 7, 10, 11, 12, 13, 16, 17, 18, 21] : List Nat).contains pc)) = true := by decide +kernel
theorem xo_162_top (pc : Nat) (h : 22 ≤ pc) : xo_162 pc = none := if_pos h
theorem xo_162_ok (pc : Nat) (r : Instr × Nat) (h : xo_162 pc = some r) : decode cX7_fetch pc = .ok r := by
  rcases Nat.lt_or_ge pc 22 with hl | hl
  · have h1 := List.all_eq_true.mp xo_162_no pc (List.mem_range.mpr hl)
    rw [h] at h1
    simp only [Option.isNone_some, Bool.false_or, Bool.or_eq_true, List.contains_iff_mem, or_assoc] at h1
    rcases h1 with h1
    · have h2 := List.all_eq_true.mp xo_162_c0 pc h1
      rw [h] at h2
      exact of_decide_eq_true h2
  · rw [show xo_162 pc = none from if_pos hl] at h; cases h
/-- X7_sweep -/
def xo_163 (pc : Nat) : Option (Instr × Nat) := if 20 ≤ pc then none else if pc < 10 then (if pc < 7 then (if pc < 1 then (if pc = 0 then some (.iload_n 1, 1) else none) else (if pc < 4 then (if pc = 1 then some (.invokestatic 89, 3) else none) else (if pc = 4 then some (.ifCond .ne 5, 3) else none))) else (if pc < 8 then (if pc = 7 then some (.iconst (-1), 1) else none) else (if pc < 9 then (if pc = 8 then some (.ireturn, 1) else none) else (if pc = 9 then some (.aload_n 0, 1) else none)))) else (if pc < 15 then (if pc < 13 then (if pc = 10 then some (.invokevirtual 114, 3) else none) else (if pc < 14 then (if pc = 13 then some (.aload_n 0, 1) else none) else (if pc = 14 then some (.iconst 0, 1) else none))) else (if pc < 16 then (if pc = 15 then some (.iload_n 1, 1) else none) else (if pc < 19 then (if pc = 16 then some (.invokevirtual 148, 3) else none) else (if pc = 19 then some (.ireturn, 1) else none))))
set_option maxRecDepth 100000 in
theorem xo_163_c0 : ([0, 1, 4, 7, 8, 9, 10, 13, 14, 15, 16, 19] : List Nat).all (fun pc => match xo_163 pc with | none => true | some r => decide (decode cX7_sweep pc = .ok r)) = true := by decide +kernel
set_option maxRecDepth 100000 in
theorem xo_163_no : (List.range 20).all (fun pc => (xo_163 pc).isNone || (([0, 1, 4, 7, 8, 9, 10, 13, 14, 15, 16, 19] : List Nat).contains pc)) = true := by decide +kernel
theorem xo_163_top (pc : Nat) (h : 20 ≤ pc) : xo_163 pc = none := if_pos h
theorem xo_163_ok (pc : Nat) (r : Instr × Nat) (h : xo_163 pc = some r) : decode cX7_sweep pc = .ok r := by
  rcases Nat.lt_or_ge pc 20 with hl | hl
  · have h1 := List.all_eq_true.mp xo_163_no pc (List.mem_range.mpr hl)
    rw [h] at h1
    simp only [Option.isNone_some, Bool.false_or, Bool.or_eq_true, List.contains_iff_mem, or_assoc] at h1
    rcases h1 with h1
    · have h2 := List.all_eq_true.mp xo_163_c0 pc h1
      rw [h] at h2
      exact of_decide_eq_true h2
  · rw [show xo_163 pc = none from if_pos hl] at h; cases h
/-- X7_use -/
def xo_164 (pc : Nat) : Option (Instr × Nat) := if 85 ≤ pc then none else if pc < 43 then (if pc < 25 then (if pc < 10 then (if pc < 7 then (if pc < 1 then (if pc = 0 then some (.iload_n 1, 1) else none) else (if pc < 4 then (if pc = 1 then some (.invokestatic 89, 3) else none) else (if pc = 4 then some (.ifCond .eq 15, 3) else none))) else (if pc < 8 then (if pc = 7 then some (.iload_n 2, 1) else none) else (if pc < 9 then (if pc = 8 then some (.i2l, 1) else none) else (if pc = 9 then some (.lconst 0, 1) else none)))) else (if pc < 19 then (if pc < 13 then (if pc = 10 then some (.ldc2_w 151, 3) else none) else (if pc < 16 then (if pc = 13 then some (.invokestatic 77, 3) else none) else (if pc = 16 then some (.ifCond .ne 5, 3) else none))) else (if pc < 21 then (if pc < 20 then (if pc = 19 then some (.iconst (-1), 1) else none) else (if pc = 20 then some (.ireturn, 1) else none)) else (if pc < 22 then (if pc = 21 then some (.aload_n 0, 1) else none) else (if pc = 22 then some (.getfield 7, 3) else none))))) else (if pc < 32 then (if pc < 29 then (if pc < 27 then (if pc = 25 then some (.bipush 8, 2) else none) else (if pc < 28 then (if pc = 27 then some (.iload_n 1, 1) else none) else (if pc = 28 then some (.iadd, 1) else none))) else (if pc < 30 then (if pc = 29 then some (.iaload, 1) else none) else (if pc < 31 then (if pc = 30 then some (.iload_n 2, 1) else none) else (if pc = 31 then some (.ishr, 1) else none)))) else (if pc < 35 then (if pc < 33 then (if pc = 32 then some (.iconst 1, 1) else none) else (if pc < 34 then (if pc = 33 then some (.iand, 1) else none) else (if pc = 34 then some (.iload_n 3, 1) else none))) else (if pc < 39 then (if pc < 38 then (if pc = 35 then some (.ifCond .ne 7, 3) else none) else (if pc = 38 then some (.iconst 1, 1) else none)) else (if pc < 42 then (if pc = 39 then some (.goto 4, 3) else none) else (if pc = 42 then some (.iconst 0, 1) else none)))))) else (if pc < 66 then (if pc < 56 then (if pc < 51 then (if pc < 46 then (if pc = 43 then some (.invokestatic 35, 3) else none) else (if pc < 49 then (if pc = 46 then some (.if_icmp .ne 6, 3) else none) else (if pc = 49 then some (.bipush (-5), 2) else none))) else (if pc < 52 then (if pc = 51 then some (.ireturn, 1) else none) else (if pc < 53 then (if pc = 52 then some (.aload_n 0, 1) else none) else (if pc = 53 then some (.invokevirtual 114, 3) else none)))) else (if pc < 62 then (if pc < 57 then (if pc = 56 then some (.aload_n 0, 1) else none) else (if pc < 60 then (if pc = 57 then some (.getfield 7, 3) else none) else (if pc = 60 then some (.bipush 8, 2) else none))) else (if pc < 64 then (if pc < 63 then (if pc = 62 then some (.iload_n 1, 1) else none) else (if pc = 63 then some (.iadd, 1) else none)) else (if pc < 65 then (if pc = 64 then some (.dup2, 1) else none) else (if pc = 65 then some (.iaload, 1) else none))))) else (if pc < 73 then (if pc < 69 then (if pc < 67 then (if pc = 66 then some (.iconst 1, 1) else none) else (if pc < 68 then (if pc = 67 then some (.iload_n 2, 1) else none) else (if pc = 68 then some (.ishl, 1) else none))) else (if pc < 71 then (if pc < 70 then (if pc = 69 then some (.ixor, 1) else none) else (if pc = 70 then some (.iastore, 1) else none)) else (if pc < 72 then (if pc = 71 then some (.aload_n 0, 1) else none) else (if pc = 72 then some (.iconst 0, 1) else none)))) else (if pc < 79 then (if pc < 76 then (if pc = 73 then some (.invokevirtual 62, 3) else none) else (if pc < 78 then (if pc = 76 then some (.istore 4, 2) else none) else (if pc = 78 then some (.aload_n 0, 1) else none))) else (if pc < 81 then (if pc < 80 then (if pc = 79 then some (.iconst 0, 1) else none) else (if pc = 80 then some (.iload_n 1, 1) else none)) else (if pc < 84 then (if pc = 81 then some (.invokevirtual 32, 3) else none) else (if pc = 84 then some (.ireturn, 1) else none))))))
set_option maxRecDepth 100000 in
theorem xo_164_c0 : ([0, 1, 4, 7, 8, 9, 10, 13, 16, 19, 20, 21, 22, 25, 27, 28, 29, 30, 31, 32, 33, 34, 35, 38, 39, 42, 43, 46, 49, 51, 52, 53, 56, 57, 60, 62, 63, 64, 65, 66, 67, 68, 69, 70, 71, 72, 73, 76, 78, 79, 80, 81, 84] : List Nat).all (fun pc => match xo_164 pc with | none => true | some r => decide (decode cX7_use pc = .ok r)) = true := by decide +kernel
set_option maxRecDepth 100000 in
theorem xo_164_no : (List.range 85).all (fun pc => (xo_164 pc).isNone || (([0, 1, 4, 7, 8, 9, 10, 13, 16, 19, 20, 21, 22, 25, 27, 28, 29, 30, 31, 32, 33, 34, 35, 38, 39, 42, 43, 46, 49, 51, 52, 53, 56, 57, 60, 62, 63, 64, 65, 66, 67, 68, 69, 70, 71, 72, 73, 76, 78, 79, 80, 81, 84] : List Nat).contains pc)) = true := by decide +kernel
theorem xo_164_top (pc : Nat) (h : 85 ≤ pc) : xo_164 pc = none := if_pos h
theorem xo_164_ok (pc : Nat) (r : Instr × Nat) (h : xo_164 pc = some r) : decode cX7_use pc = .ok r := by
  rcases Nat.lt_or_ge pc 85 with hl | hl
  · have h1 := List.all_eq_true.mp xo_164_no pc (List.mem_range.mpr hl)
    rw [h] at h1
    simp only [Option.isNone_some, Bool.false_or, Bool.or_eq_true, List.contains_iff_mem, or_assoc] at h1
    rcases h1 with h1
    · have h2 := List.all_eq_true.mp xo_164_c0 pc h1
      rw [h] at h2
      exact of_decide_eq_true h2
  · rw [show xo_164 pc = none from if_pos hl] at h; cases h
/-- X7_pass -/
def xo_165 (pc : Nat) : Option (Instr × Nat) := if 23 ≤ pc then none else if pc < 11 then (if pc < 5 then (if pc < 1 then (if pc = 0 then some (.aload_n 0, 1) else none) else (if pc < 2 then (if pc = 1 then some (.iload_n 1, 1) else none) else (if pc = 2 then some (.invokevirtual 153, 3) else none))) else (if pc < 7 then (if pc < 6 then (if pc = 5 then some (.istore_n 2, 1) else none) else (if pc = 6 then some (.iload_n 2, 1) else none)) else (if pc < 10 then (if pc = 7 then some (.ifCond .eq 5, 3) else none) else (if pc = 10 then some (.iload_n 2, 1) else none)))) else (if pc < 17 then (if pc < 13 then (if pc < 12 then (if pc = 11 then some (.ireturn, 1) else none) else (if pc = 12 then some (.aload_n 0, 1) else none)) else (if pc < 16 then (if pc = 13 then some (.invokevirtual 114, 3) else none) else (if pc = 16 then some (.aload_n 0, 1) else none))) else (if pc < 19 then (if pc < 18 then (if pc = 17 then some (.iconst 0, 1) else none) else (if pc = 18 then some (.iload_n 1, 1) else none)) else (if pc < 22 then (if pc = 19 then some (.invokevirtual 156, 3) else none) else (if pc = 22 then some (.ireturn, 1) else none))))
set_option maxRecDepth 100000 in
theorem xo_165_c0 : ([0, 1, 2, 5, 6, 7, 10, 11, 12, 13, 16, 17, 18, 19, 22] : List Nat).all (fun pc => match xo_165 pc with | none => true | some r => decide (decode cX7_pass pc = .ok r)) = true := by decide +kernel
set_option maxRecDepth 100000 in
theorem xo_165_no : (List.range 23).all (fun pc => (xo_165 pc).isNone || (([0, 1, 2, 5, 6, 7, 10, 11, 12, 13, 16, 17, 18, 19, 22] : List Nat).contains pc)) = true := by decide +kernel
theorem xo_165_top (pc : Nat) (h : 23 ≤ pc) : xo_165 pc = none := if_pos h
theorem xo_165_ok (pc : Nat) (r : Instr × Nat) (h : xo_165 pc = some r) : decode cX7_pass pc = .ok r := by
  rcases Nat.lt_or_ge pc 23 with hl | hl
  · have h1 := List.all_eq_true.mp xo_165_no pc (List.mem_range.mpr hl)
    rw [h] at h1
    simp only [Option.isNone_some, Bool.false_or, Bool.or_eq_true, List.contains_iff_mem, or_assoc] at h1
    rcases h1 with h1
    · have h2 := List.all_eq_true.mp xo_165_c0 pc h1
      rw [h] at h2
      exact of_decide_eq_true h2
  · rw [show xo_165 pc = none from if_pos hl] at h; cases h
/-- X7_daysSince -/
def xo_166 (pc : Nat) : Option (Instr × Nat) := if 20 ≤ pc then none else if pc < 12 then (if pc < 6 then (if pc < 1 then (if pc = 0 then some (.iload_n 1, 1) else none) else (if pc < 3 then (if pc = 1 then some (.bipush (-6), 2) else none) else (if pc = 3 then some (.if_icmp .ne 8, 3) else none))) else (if pc < 8 then (if pc = 6 then some (.bipush (-6), 2) else none) else (if pc < 11 then (if pc = 8 then some (.goto 11, 3) else none) else (if pc = 11 then some (.aload_n 0, 1) else none)))) else (if pc < 17 then (if pc < 15 then (if pc = 12 then some (.getfield 7, 3) else none) else (if pc < 16 then (if pc = 15 then some (.iconst 4, 1) else none) else (if pc = 16 then some (.iaload, 1) else none))) else (if pc < 18 then (if pc = 17 then some (.iload_n 1, 1) else none) else (if pc < 19 then (if pc = 18 then some (.isub, 1) else none) else (if pc = 19 then some (.ireturn, 1) else none))))
set_option maxRecDepth 100000 in
theorem xo_166_c0 : ([0, 1, 3, 6, 8, 11, 12, 15, 16, 17, 18, 19] : List Nat).all (fun pc => match xo_166 pc with | none => true | some r => decide (decode cX7_daysSince pc = .ok r)) = true := by decide +kernel
set_option maxRecDepth 100000 in
theorem xo_166_no : (List.range 20).all (fun pc => (xo_166 pc).isNone || (([0, 1, 3, 6, 8, 11, 12, 15, 16, 17, 18, 19] : List Nat).contains pc)) = true := by decide +kernel
theorem xo_166_top (pc : Nat) (h : 20 ≤ pc) : xo_166 pc = none := if_pos h
theorem xo_166_ok (pc : Nat) (r : Instr × Nat) (h : xo_166 pc = some r) : decode cX7_daysSince pc = .ok r := by
  rcases Nat.lt_or_ge pc 20 with hl | hl
  · have h1 := List.all_eq_true.mp xo_166_no pc (List.mem_range.mpr hl)
    rw [h] at h1
    simp only [Option.isNone_some, Bool.false_or, Bool.or_eq_true, List.contains_iff_mem, or_assoc] at h1
    rcases h1 with h1
    · have h2 := List.all_eq_true.mp xo_166_c0 pc h1
      rw [h] at h2
      exact of_decide_eq_true h2
  · rw [show xo_166 pc = none from if_pos hl] at h; cases h
/-- X7_person -/
def xo_167 (pc : Nat) : Option (Instr × Nat) := if 146 ≤ pc then none else if pc < 97 then (if pc < 76 then (if pc < 14 then (if pc < 8 then (if pc < 4 then (if pc < 1 then (if pc = 0 then some (.iload_n 1, 1) else none) else (if pc = 1 then some (.invokestatic 85, 3) else none)) else (if pc < 7 then (if pc = 4 then some (.ifCond .ne 5, 3) else none) else (if pc = 7 then some (.iconst (-1), 1) else none))) else (if pc < 10 then (if pc < 9 then (if pc = 8 then some (.ireturn, 1) else none) else (if pc = 9 then some (.iconst 0, 1) else none)) else (if pc < 11 then (if pc = 10 then some (.iload_n 1, 1) else none) else (if pc = 11 then some (.invokestatic 20, 3) else none)))) else (if pc < 69 then (if pc < 16 then (if pc < 15 then (if pc = 14 then some (.istore_n 3, 1) else none) else (if pc = 15 then some (.iload_n 2, 1) else none)) else (if pc < 68 then (if pc = 16 then some (.tableswitch 127 0 8 #[52, 52, 61, 68, 68, 81, 94, 103, 117], 52) else none) else (if pc = 68 then some (.aload_n 0, 1) else none))) else (if pc < 73 then (if pc < 72 then (if pc = 69 then some (.getfield 7, 3) else none) else (if pc = 72 then some (.iload_n 3, 1) else none)) else (if pc < 74 then (if pc = 73 then some (.iload_n 2, 1) else none) else (if pc < 75 then (if pc = 74 then some (.iadd, 1) else none) else (if pc = 75 then some (.iaload, 1) else none)))))) else (if pc < 88 then (if pc < 80 then (if pc < 78 then (if pc < 77 then (if pc = 76 then some (.ireturn, 1) else none) else (if pc = 77 then some (.aload_n 0, 1) else none)) else (if pc < 79 then (if pc = 78 then some (.iconst 0, 1) else none) else (if pc = 79 then some (.iload_n 1, 1) else none))) else (if pc < 84 then (if pc < 83 then (if pc = 80 then some (.invokevirtual 124, 3) else none) else (if pc = 83 then some (.ireturn, 1) else none)) else (if pc < 85 then (if pc = 84 then some (.aload_n 0, 1) else none) else (if pc = 85 then some (.getfield 7, 3) else none)))) else (if pc < 92 then (if pc < 90 then (if pc < 89 then (if pc = 88 then some (.iload_n 3, 1) else none) else (if pc = 89 then some (.iconst 2, 1) else none)) else (if pc < 91 then (if pc = 90 then some (.iadd, 1) else none) else (if pc = 91 then some (.iload_n 2, 1) else none))) else (if pc < 94 then (if pc < 93 then (if pc = 92 then some (.iadd, 1) else none) else (if pc = 93 then some (.iconst 3, 1) else none)) else (if pc < 95 then (if pc = 94 then some (.isub, 1) else none) else (if pc < 96 then (if pc = 95 then some (.iaload, 1) else none) else (if pc = 96 then some (.ireturn, 1) else none))))))) else (if pc < 120 then (if pc < 109 then (if pc < 103 then (if pc < 99 then (if pc < 98 then (if pc = 97 then some (.aload_n 0, 1) else none) else (if pc = 98 then some (.aload_n 0, 1) else none)) else (if pc < 102 then (if pc = 99 then some (.getfield 7, 3) else none) else (if pc = 102 then some (.iload_n 3, 1) else none))) else (if pc < 105 then (if pc < 104 then (if pc = 103 then some (.iconst 4, 1) else none) else (if pc = 104 then some (.iadd, 1) else none)) else (if pc < 106 then (if pc = 105 then some (.iaload, 1) else none) else (if pc = 106 then some (.invokevirtual 159, 3) else none)))) else (if pc < 115 then (if pc < 111 then (if pc < 110 then (if pc = 109 then some (.ireturn, 1) else none) else (if pc = 110 then some (.aload_n 0, 1) else none)) else (if pc < 114 then (if pc = 111 then some (.getfield 7, 3) else none) else (if pc = 114 then some (.iload_n 3, 1) else none))) else (if pc < 117 then (if pc < 116 then (if pc = 115 then some (.iconst 5, 1) else none) else (if pc = 116 then some (.iadd, 1) else none)) else (if pc < 118 then (if pc = 117 then some (.iaload, 1) else none) else (if pc < 119 then (if pc = 118 then some (.ireturn, 1) else none) else (if pc = 119 then some (.aload_n 0, 1) else none)))))) else (if pc < 133 then (if pc < 127 then (if pc < 124 then (if pc < 121 then (if pc = 120 then some (.aload_n 0, 1) else none) else (if pc = 121 then some (.getfield 7, 3) else none)) else (if pc < 125 then (if pc = 124 then some (.iload_n 3, 1) else none) else (if pc = 125 then some (.bipush 6, 2) else none))) else (if pc < 129 then (if pc < 128 then (if pc = 127 then some (.iadd, 1) else none) else (if pc = 128 then some (.iaload, 1) else none)) else (if pc < 132 then (if pc = 129 then some (.invokevirtual 159, 3) else none) else (if pc = 132 then some (.ireturn, 1) else none)))) else (if pc < 140 then (if pc < 137 then (if pc < 134 then (if pc = 133 then some (.aload_n 0, 1) else none) else (if pc = 134 then some (.getfield 7, 3) else none)) else (if pc < 138 then (if pc = 137 then some (.iload_n 3, 1) else none) else (if pc = 138 then some (.bipush 7, 2) else none))) else (if pc < 142 then (if pc < 141 then (if pc = 140 then some (.iadd, 1) else none) else (if pc = 141 then some (.iaload, 1) else none)) else (if pc < 143 then (if pc = 142 then some (.ireturn, 1) else none) else (if pc < 145 then (if pc = 143 then some (.bipush (-2), 2) else none) else (if pc = 145 then some (.ireturn, 1) else none)))))))
set_option maxRecDepth 100000 in
theorem xo_167_c0 : ([0, 1, 4, 7, 8, 9, 10, 11, 14, 15, 16, 68, 69, 72, 73, 74, 75, 76, 77, 78, 79, 80, 83, 84, 85, 88, 89, 90, 91, 92, 93, 94, 95, 96] : List Nat).all (fun pc => match xo_167 pc with | none => true | some r => decide (decode cX7_person pc = .ok r)) = true := by decide +kernel
set_option maxRecDepth 100000 in
theorem xo_167_c1 : ([97, 98, 99, 102, 103, 104, 105, 106, 109, 110, 111, 114, 115, 116, 117, 118, 119, 120, 121, 124, 125, 127, 128, 129, 132, 133, 134, 137, 138, 140, 141, 142, 143, 145] : List Nat).all (fun pc => match xo_167 pc with | none => true | some r => decide (decode cX7_person pc = .ok r)) = true := by decide +kernel
set_option maxRecDepth 100000 in
theorem xo_167_no : (List.range 146).all (fun pc => (xo_167 pc).isNone || (([0, 1, 4, 7, 8, 9, 10, 11, 14, 15, 16, 68, 69, 72, 73, 74, 75, 76, 77, 78, 79, 80, 83, 84, 85, 88, 89, 90, 91, 92, 93, 94, 95, 96] : List Nat).contains pc || ([97, 98, 99, 102, 103, 104, 105, 106, 109, 110, 111, 114, 115, 116, 117, 118, 119, 120, 121, 124, 125, 127, 128, 129, 132, 133, 134, 137, 138, 140, 141, 142, 143, 145] : List Nat).contains pc)) = true := by decide +kernel
theorem xo_167_top (pc : Nat) (h : 146 ≤ pc) : xo_167 pc = none := if_pos h
theorem xo_167_ok (pc : Nat) (r : Instr × Nat) (h : xo_167 pc = some r) : decode cX7_person pc = .ok r := by
  rcases Nat.lt_or_ge pc 146 with hl | hl
  · have h1 := List.all_eq_true.mp xo_167_no pc (List.mem_range.mpr hl)
    rw [h] at h1
    simp only [Option.isNone_some, Bool.false_or, Bool.or_eq_true, List.contains_iff_mem, or_assoc] at h1
    rcases h1 with h1 | h1
    · have h2 := List.all_eq_true.mp xo_167_c0 pc h1
      rw [h] at h2
      exact of_decide_eq_true h2
    · have h2 := List.all_eq_true.mp xo_167_c1 pc h1
      rw [h] at h2
      exact of_decide_eq_true h2
  · rw [show xo_167 pc = none from if_pos hl] at h; cases h
/-- X7_racks -/
def xo_168 (pc : Nat) : Option (Instr × Nat) := if 104 ≤ pc then none else if pc < 51 then (if pc < 24 then (if pc < 12 then (if pc < 3 then (if pc < 1 then (if pc = 0 then some (.iconst 0, 1) else none) else (if pc < 2 then (if pc = 1 then some (.istore_n 3, 1) else none) else (if pc = 2 then some (.iconst 0, 1) else none))) else (if pc < 7 then (if pc < 5 then (if pc = 3 then some (.istore 4, 2) else none) else (if pc = 5 then some (.iload 4, 2) else none)) else (if pc < 9 then (if pc = 7 then some (.bipush 8, 2) else none) else (if pc = 9 then some (.if_icmp .ge 93, 3) else none)))) else (if pc < 15 then (if pc < 13 then (if pc = 12 then some (.aload_n 0, 1) else none) else (if pc < 14 then (if pc = 13 then some (.iconst 0, 1) else none) else (if pc = 14 then some (.iload_n 1, 1) else none))) else (if pc < 20 then (if pc < 17 then (if pc = 15 then some (.iload 4, 2) else none) else (if pc = 17 then some (.invokevirtual 72, 3) else none)) else (if pc < 22 then (if pc = 20 then some (.istore 5, 2) else none) else (if pc = 22 then some (.iload 5, 2) else none))))) else (if pc < 36 then (if pc < 30 then (if pc < 26 then (if pc = 24 then some (.bipush (-6), 2) else none) else (if pc < 29 then (if pc = 26 then some (.if_icmp .eq 56, 3) else none) else (if pc = 29 then some (.iload_n 2, 1) else none))) else (if pc < 34 then (if pc < 31 then (if pc = 30 then some (.iconst 4, 1) else none) else (if pc = 31 then some (.if_icmp .eq 47, 3) else none)) else (if pc < 35 then (if pc = 34 then some (.iload_n 2, 1) else none) else (if pc = 35 then some (.iconst 5, 1) else none)))) else (if pc < 44 then (if pc < 40 then (if pc < 39 then (if pc = 36 then some (.if_icmp .ne 21, 3) else none) else (if pc = 39 then some (.aload_n 0, 1) else none)) else (if pc < 43 then (if pc = 40 then some (.getfield 7, 3) else none) else (if pc = 43 then some (.iconst 0, 1) else none))) else (if pc < 49 then (if pc < 46 then (if pc = 44 then some (.iload 5, 2) else none) else (if pc = 46 then some (.invokestatic 20, 3) else none)) else (if pc < 50 then (if pc = 49 then some (.iconst 5, 1) else none) else (if pc = 50 then some (.iadd, 1) else none)))))) else (if pc < 78 then (if pc < 64 then (if pc < 57 then (if pc < 52 then (if pc = 51 then some (.iaload, 1) else none) else (if pc < 54 then (if pc = 52 then some (.bipush (-6), 2) else none) else (if pc = 54 then some (.if_icmp .ne 24, 3) else none))) else (if pc < 60 then (if pc < 58 then (if pc = 57 then some (.iload_n 2, 1) else none) else (if pc = 58 then some (.bipush 6, 2) else none)) else (if pc < 63 then (if pc = 60 then some (.if_icmp .ne 22, 3) else none) else (if pc = 63 then some (.aload_n 0, 1) else none)))) else (if pc < 70 then (if pc < 67 then (if pc = 64 then some (.getfield 7, 3) else none) else (if pc < 68 then (if pc = 67 then some (.iconst 0, 1) else none) else (if pc = 68 then some (.iload 5, 2) else none))) else (if pc < 74 then (if pc < 73 then (if pc = 70 then some (.invokestatic 20, 3) else none) else (if pc = 73 then some (.iaload, 1) else none)) else (if pc < 75 then (if pc = 74 then some (.iload_n 1, 1) else none) else (if pc = 75 then some (.if_icmp .eq 7, 3) else none))))) else (if pc < 91 then (if pc < 83 then (if pc < 79 then (if pc = 78 then some (.iconst 1, 1) else none) else (if pc < 82 then (if pc = 79 then some (.goto 4, 3) else none) else (if pc = 82 then some (.iconst 0, 1) else none))) else (if pc < 86 then (if pc < 85 then (if pc = 83 then some (.istore 6, 2) else none) else (if pc = 85 then some (.iload_n 3, 1) else none)) else (if pc < 88 then (if pc = 86 then some (.iload 6, 2) else none) else (if pc = 88 then some (.invokestatic 35, 3) else none)))) else (if pc < 96 then (if pc < 94 then (if pc < 93 then (if pc = 91 then some (.iload 4, 2) else none) else (if pc = 93 then some (.ishl, 1) else none)) else (if pc < 95 then (if pc = 94 then some (.ior, 1) else none) else (if pc = 95 then some (.istore_n 3, 1) else none))) else (if pc < 102 then (if pc < 99 then (if pc = 96 then some (.iinc 4 1, 3) else none) else (if pc = 99 then some (.goto (-94), 3) else none)) else (if pc < 103 then (if pc = 102 then some (.iload_n 3, 1) else none) else (if pc = 103 then some (.ireturn, 1) else none))))))
set_option maxRecDepth 100000 in
theorem xo_168_c0 : ([0, 1, 2, 3, 5, 7, 9, 12, 13, 14, 15, 17, 20, 22, 24, 26, 29, 30, 31, 34, 35, 36, 39, 40, 43, 44, 46, 49, 50, 51, 52, 54, 57, 58, 60, 63, 64, 67, 68, 70, 73, 74, 75, 78, 79, 82, 83, 85] : List Nat).all (fun pc => match xo_168 pc with | none => true | some r => decide (decode cX7_racks pc = .ok r)) = true := by decide +kernel
set_option maxRecDepth 100000 in
theorem xo_168_c1 : ([86, 88, 91, 93, 94, 95, 96, 99, 102, 103] : List Nat).all (fun pc => match xo_168 pc with | none => true | some r => decide (decode cX7_racks pc = .ok r)) = true := by decide +kernel
set_option maxRecDepth 100000 in
theorem xo_168_no : (List.range 104).all (fun pc => (xo_168 pc).isNone || (([0, 1, 2, 3, 5, 7, 9, 12, 13, 14, 15, 17, 20, 22, 24, 26, 29, 30, 31, 34, 35, 36, 39, 40, 43, 44, 46, 49, 50, 51, 52, 54, 57, 58, 60, 63, 64, 67, 68, 70, 73, 74, 75, 78, 79, 82, 83, 85] : List Nat).contains pc || ([86, 88, 91, 93, 94, 95, 96, 99, 102, 103] : List Nat).contains pc)) = true := by decide +kernel
theorem xo_168_top (pc : Nat) (h : 104 ≤ pc) : xo_168 pc = none := if_pos h
theorem xo_168_ok (pc : Nat) (r : Instr × Nat) (h : xo_168 pc = some r) : decode cX7_racks pc = .ok r := by
  rcases Nat.lt_or_ge pc 104 with hl | hl
  · have h1 := List.all_eq_true.mp xo_168_no pc (List.mem_range.mpr hl)
    rw [h] at h1
    simp only [Option.isNone_some, Bool.false_or, Bool.or_eq_true, List.contains_iff_mem, or_assoc] at h1
    rcases h1 with h1 | h1
    · have h2 := List.all_eq_true.mp xo_168_c0 pc h1
      rw [h] at h2
      exact of_decide_eq_true h2
    · have h2 := List.all_eq_true.mp xo_168_c1 pc h1
      rw [h] at h2
      exact of_decide_eq_true h2
  · rw [show xo_168 pc = none from if_pos hl] at h; cases h
/-- X7_shed -/
def xo_169 (pc : Nat) : Option (Instr × Nat) := if 100 ≤ pc then none else if pc < 72 then (if pc < 59 then (if pc < 9 then (if pc < 4 then (if pc < 1 then (if pc = 0 then some (.iload_n 1, 1) else none) else (if pc = 1 then some (.invokestatic 89, 3) else none)) else (if pc < 7 then (if pc = 4 then some (.ifCond .ne 5, 3) else none) else (if pc < 8 then (if pc = 7 then some (.iconst (-1), 1) else none) else (if pc = 8 then some (.ireturn, 1) else none)))) else (if pc < 52 then (if pc < 10 then (if pc = 9 then some (.iload_n 2, 1) else none) else (if pc = 10 then some (.tableswitch 87 0 6 #[42, 56, 63, 70, 80, 80, 80], 42) else none)) else (if pc < 55 then (if pc = 52 then some (.sipush 255, 3) else none) else (if pc < 56 then (if pc = 55 then some (.aload_n 0, 1) else none) else (if pc = 56 then some (.getfield 7, 3) else none))))) else (if pc < 65 then (if pc < 62 then (if pc < 61 then (if pc = 59 then some (.bipush 8, 2) else none) else (if pc = 61 then some (.iload_n 1, 1) else none)) else (if pc < 63 then (if pc = 62 then some (.iadd, 1) else none) else (if pc < 64 then (if pc = 63 then some (.iaload, 1) else none) else (if pc = 64 then some (.isub, 1) else none)))) else (if pc < 67 then (if pc < 66 then (if pc = 65 then some (.ireturn, 1) else none) else (if pc = 66 then some (.aload_n 0, 1) else none)) else (if pc < 68 then (if pc = 67 then some (.iconst 0, 1) else none) else (if pc < 69 then (if pc = 68 then some (.iload_n 1, 1) else none) else (if pc = 69 then some (.invokevirtual 52, 3) else none)))))) else (if pc < 87 then (if pc < 79 then (if pc < 74 then (if pc < 73 then (if pc = 72 then some (.ireturn, 1) else none) else (if pc = 73 then some (.aload_n 0, 1) else none)) else (if pc < 75 then (if pc = 74 then some (.iconst 0, 1) else none) else (if pc < 76 then (if pc = 75 then some (.iload_n 1, 1) else none) else (if pc = 76 then some (.invokevirtual 49, 3) else none)))) else (if pc < 81 then (if pc < 80 then (if pc = 79 then some (.ireturn, 1) else none) else (if pc = 80 then some (.aload_n 0, 1) else none)) else (if pc < 84 then (if pc = 81 then some (.getfield 7, 3) else none) else (if pc < 86 then (if pc = 84 then some (.bipush 11, 2) else none) else (if pc = 86 then some (.iload_n 1, 1) else none))))) else (if pc < 92 then (if pc < 89 then (if pc < 88 then (if pc = 87 then some (.iadd, 1) else none) else (if pc = 88 then some (.iaload, 1) else none)) else (if pc < 90 then (if pc = 89 then some (.ireturn, 1) else none) else (if pc < 91 then (if pc = 90 then some (.aload_n 0, 1) else none) else (if pc = 91 then some (.iload_n 1, 1) else none)))) else (if pc < 96 then (if pc < 93 then (if pc = 92 then some (.iload_n 2, 1) else none) else (if pc = 93 then some (.invokevirtual 162, 3) else none)) else (if pc < 97 then (if pc = 96 then some (.ireturn, 1) else none) else (if pc < 99 then (if pc = 97 then some (.bipush (-2), 2) else none) else (if pc = 99 then some (.ireturn, 1) else none))))))
set_option maxRecDepth 100000 in
theorem xo_169_c0 : ([0, 1, 4, 7, 8, 9, 10, 52, 55, 56, 59, 61, 62, 63, 64, 65, 66, 67, 68, 69, 72, 73, 74, 75, 76, 79, 80, 81, 84, 86, 87, 88, 89, 90, 91, 92, 93, 96, 97, 99] : List Nat).all (fun pc => match xo_169 pc with | none => true | some r => decide (decode cX7_shed pc = .ok r)) = true := by decide +kernel
set_option maxRecDepth 100000 in
theorem xo_169_no : (List.range 100).all (fun pc => (xo_169 pc).isNone || (([0, 1, 4, 7, 8, 9, 10, 52, 55, 56, 59, 61, 62, 63, 64, 65, 66, 67, 68, 69, 72, 73, 74, 75, 76, 79, 80, 81, 84, 86, 87, 88, 89, 90, 91, 92, 93, 96, 97, 99] : List Nat).contains pc)) = true := by decide +kernel
theorem xo_169_top (pc : Nat) (h : 100 ≤ pc) : xo_169 pc = none := if_pos h
theorem xo_169_ok (pc : Nat) (r : Instr × Nat) (h : xo_169 pc = some r) : decode cX7_shed pc = .ok r := by
  rcases Nat.lt_or_ge pc 100 with hl | hl
  · have h1 := List.all_eq_true.mp xo_169_no pc (List.mem_range.mpr hl)
    rw [h] at h1
    simp only [Option.isNone_some, Bool.false_or, Bool.or_eq_true, List.contains_iff_mem, or_assoc] at h1
    rcases h1 with h1
    · have h2 := List.all_eq_true.mp xo_169_c0 pc h1
      rw [h] at h2
      exact of_decide_eq_true h2
  · rw [show xo_169 pc = none from if_pos hl] at h; cases h
/-- X7_waiting -/
def xo_170 (pc : Nat) : Option (Instr × Nat) := if 61 ≤ pc then none else if pc < 29 then (if pc < 16 then (if pc < 8 then (if pc < 4 then (if pc < 1 then (if pc = 0 then some (.iload_n 1, 1) else none) else (if pc = 1 then some (.invokestatic 89, 3) else none)) else (if pc < 7 then (if pc = 4 then some (.ifCond .eq 24, 3) else none) else (if pc = 7 then some (.iload_n 2, 1) else none))) else (if pc < 10 then (if pc < 9 then (if pc = 8 then some (.i2l, 1) else none) else (if pc = 9 then some (.lconst 0, 1) else none)) else (if pc < 11 then (if pc = 10 then some (.aload_n 0, 1) else none) else (if pc < 14 then (if pc = 11 then some (.getfield 7, 3) else none) else (if pc = 14 then some (.bipush 11, 2) else none))))) else (if pc < 20 then (if pc < 18 then (if pc < 17 then (if pc = 16 then some (.iload_n 1, 1) else none) else (if pc = 17 then some (.iadd, 1) else none)) else (if pc < 19 then (if pc = 18 then some (.iaload, 1) else none) else (if pc = 19 then some (.iconst 1, 1) else none))) else (if pc < 22 then (if pc < 21 then (if pc = 20 then some (.isub, 1) else none) else (if pc = 21 then some (.i2l, 1) else none)) else (if pc < 25 then (if pc = 22 then some (.invokestatic 77, 3) else none) else (if pc < 28 then (if pc = 25 then some (.ifCond .ne 5, 3) else none) else (if pc = 28 then some (.iconst (-1), 1) else none)))))) else (if pc < 46 then (if pc < 33 then (if pc < 31 then (if pc < 30 then (if pc = 29 then some (.ireturn, 1) else none) else (if pc = 30 then some (.iload_n 3, 1) else none)) else (if pc < 32 then (if pc = 31 then some (.i2l, 1) else none) else (if pc = 32 then some (.lconst 0, 1) else none))) else (if pc < 39 then (if pc < 36 then (if pc = 33 then some (.ldc2_w 81, 3) else none) else (if pc = 36 then some (.invokestatic 77, 3) else none)) else (if pc < 42 then (if pc = 39 then some (.ifCond .eq 19, 3) else none) else (if pc < 43 then (if pc = 42 then some (.aload_n 0, 1) else none) else (if pc = 43 then some (.getfield 7, 3) else none))))) else (if pc < 53 then (if pc < 48 then (if pc < 47 then (if pc = 46 then some (.iconst 0, 1) else none) else (if pc = 47 then some (.iload_n 1, 1) else none)) else (if pc < 49 then (if pc = 48 then some (.iload_n 2, 1) else none) else (if pc < 52 then (if pc = 49 then some (.invokestatic 39, 3) else none) else (if pc = 52 then some (.iload_n 3, 1) else none)))) else (if pc < 55 then (if pc < 54 then (if pc = 53 then some (.iadd, 1) else none) else (if pc = 54 then some (.iaload, 1) else none)) else (if pc < 58 then (if pc = 55 then some (.goto 5, 3) else none) else (if pc < 60 then (if pc = 58 then some (.bipush (-2), 2) else none) else (if pc = 60 then some (.ireturn, 1) else none))))))
set_option maxRecDepth 100000 in
theorem xo_170_c0 : ([0, 1, 4, 7, 8, 9, 10, 11, 14, 16, 17, 18, 19, 20, 21, 22, 25, 28, 29, 30, 31, 32, 33, 36, 39, 42, 43, 46, 47, 48, 49, 52, 53, 54, 55, 58, 60] : List Nat).all (fun pc => match xo_170 pc with | none => true | some r => decide (decode cX7_waiting pc = .ok r)) = true := by decide +kernel
set_option maxRecDepth 100000 in
theorem xo_170_no : (List.range 61).all (fun pc => (xo_170 pc).isNone || (([0, 1, 4, 7, 8, 9, 10, 11, 14, 16, 17, 18, 19, 20, 21, 22, 25, 28, 29, 30, 31, 32, 33, 36, 39, 42, 43, 46, 47, 48, 49, 52, 53, 54, 55, 58, 60] : List Nat).contains pc)) = true := by decide +kernel
theorem xo_170_top (pc : Nat) (h : 61 ≤ pc) : xo_170 pc = none := if_pos h
theorem xo_170_ok (pc : Nat) (r : Instr × Nat) (h : xo_170 pc = some r) : decode cX7_waiting pc = .ok r := by
  rcases Nat.lt_or_ge pc 61 with hl | hl
  · have h1 := List.all_eq_true.mp xo_170_no pc (List.mem_range.mpr hl)
    rw [h] at h1
    simp only [Option.isNone_some, Bool.false_or, Bool.or_eq_true, List.contains_iff_mem, or_assoc] at h1
    rcases h1 with h1
    · have h2 := List.all_eq_true.mp xo_170_c0 pc h1
      rw [h] at h2
      exact of_decide_eq_true h2
  · rw [show xo_170 pc = none from if_pos hl] at h; cases h
/-- X7_people -/
def xo_171 (pc : Nat) : Option (Instr × Nat) := if 119 ≤ pc then none else if pc < 55 then (if pc < 24 then (if pc < 11 then (if pc < 4 then (if pc < 2 then (if pc < 1 then (if pc = 0 then some (.iconst 0, 1) else none) else (if pc = 1 then some (.istore_n 2, 1) else none)) else (if pc < 3 then (if pc = 2 then some (.iconst 0, 1) else none) else (if pc = 3 then some (.istore_n 3, 1) else none))) else (if pc < 7 then (if pc < 5 then (if pc = 4 then some (.iload_n 3, 1) else none) else (if pc = 5 then some (.bipush 20, 2) else none)) else (if pc < 10 then (if pc = 7 then some (.if_icmp .ge 110, 3) else none) else (if pc = 10 then some (.iconst 0, 1) else none)))) else (if pc < 18 then (if pc < 15 then (if pc < 12 then (if pc = 11 then some (.iload_n 3, 1) else none) else (if pc = 12 then some (.invokestatic 20, 3) else none)) else (if pc < 17 then (if pc = 15 then some (.istore 4, 2) else none) else (if pc = 17 then some (.iload_n 2, 1) else none))) else (if pc < 20 then (if pc < 19 then (if pc = 18 then some (.iload_n 1, 1) else none) else (if pc = 19 then some (.iconst 5, 1) else none)) else (if pc < 23 then (if pc = 20 then some (.if_icmp .ne 23, 3) else none) else (if pc = 23 then some (.aload_n 0, 1) else none))))) else (if pc < 40 then (if pc < 32 then (if pc < 29 then (if pc < 27 then (if pc = 24 then some (.getfield 7, 3) else none) else (if pc = 27 then some (.iload 4, 2) else none)) else (if pc < 30 then (if pc = 29 then some (.iaload, 1) else none) else (if pc = 30 then some (.bipush (-6), 2) else none))) else (if pc < 36 then (if pc < 35 then (if pc = 32 then some (.if_icmp .eq 7, 3) else none) else (if pc = 35 then some (.iconst 1, 1) else none)) else (if pc < 39 then (if pc = 36 then some (.goto 70, 3) else none) else (if pc = 39 then some (.iconst 0, 1) else none)))) else (if pc < 49 then (if pc < 44 then (if pc < 43 then (if pc = 40 then some (.goto 66, 3) else none) else (if pc = 43 then some (.iload_n 1, 1) else none)) else (if pc < 46 then (if pc = 44 then some (.bipush 6, 2) else none) else (if pc = 46 then some (.if_icmp .ne 20, 3) else none))) else (if pc < 51 then (if pc < 50 then (if pc = 49 then some (.aload_n 0, 1) else none) else (if pc = 50 then some (.iconst 0, 1) else none)) else (if pc < 52 then (if pc = 51 then some (.iload_n 3, 1) else none) else (if pc = 52 then some (.invokevirtual 124, 3) else none)))))) else (if pc < 88 then (if pc < 72 then (if pc < 63 then (if pc < 59 then (if pc < 58 then (if pc = 55 then some (.ifCond .eq 7, 3) else none) else (if pc = 58 then some (.iconst 1, 1) else none)) else (if pc < 62 then (if pc = 59 then some (.goto 47, 3) else none) else (if pc = 62 then some (.iconst 0, 1) else none))) else (if pc < 67 then (if pc < 66 then (if pc = 63 then some (.goto 43, 3) else none) else (if pc = 66 then some (.aload_n 0, 1) else none)) else (if pc < 70 then (if pc = 67 then some (.getfield 7, 3) else none) else (if pc = 70 then some (.iload 4, 2) else none)))) else (if pc < 79 then (if pc < 75 then (if pc < 73 then (if pc = 72 then some (.iload_n 1, 1) else none) else (if pc = 73 then some (.bipush 7, 2) else none)) else (if pc < 78 then (if pc = 75 then some (.if_icmp .ne 7, 3) else none) else (if pc = 78 then some (.iconst 2, 1) else none))) else (if pc < 83 then (if pc < 82 then (if pc = 79 then some (.goto 15, 3) else none) else (if pc = 82 then some (.iload_n 1, 1) else none)) else (if pc < 85 then (if pc = 83 then some (.bipush 8, 2) else none) else (if pc = 85 then some (.if_icmp .ne 7, 3) else none))))) else (if pc < 102 then (if pc < 95 then (if pc < 92 then (if pc < 89 then (if pc = 88 then some (.iconst 5, 1) else none) else (if pc = 89 then some (.goto 5, 3) else none)) else (if pc < 94 then (if pc = 92 then some (.bipush 6, 2) else none) else (if pc = 94 then some (.iadd, 1) else none))) else (if pc < 98 then (if pc < 96 then (if pc = 95 then some (.iaload, 1) else none) else (if pc = 96 then some (.bipush (-6), 2) else none)) else (if pc < 101 then (if pc = 98 then some (.if_icmp .eq 7, 3) else none) else (if pc = 101 then some (.iconst 1, 1) else none)))) else (if pc < 110 then (if pc < 106 then (if pc < 105 then (if pc = 102 then some (.goto 4, 3) else none) else (if pc = 105 then some (.iconst 0, 1) else none)) else (if pc < 109 then (if pc = 106 then some (.invokestatic 35, 3) else none) else (if pc = 109 then some (.iadd, 1) else none))) else (if pc < 114 then (if pc < 111 then (if pc = 110 then some (.istore_n 2, 1) else none) else (if pc = 111 then some (.iinc 3 1, 3) else none)) else (if pc < 117 then (if pc = 114 then some (.goto (-110), 3) else none) else (if pc < 118 then (if pc = 117 then some (.iload_n 2, 1) else none) else (if pc = 118 then some (.ireturn, 1) else none)))))))
set_option maxRecDepth 100000 in
theorem xo_171_c0 : ([0, 1, 2, 3, 4, 5, 7, 10, 11, 12, 15, 17, 18, 19, 20, 23, 24, 27, 29, 30, 32, 35, 36, 39, 40, 43, 44, 46, 49, 50, 51, 52, 55, 58, 59, 62, 63, 66, 67, 70, 72, 73] : List Nat).all (fun pc => match xo_171 pc with | none => true | some r => decide (decode cX7_people pc = .ok r)) = true := by decide +kernel
set_option maxRecDepth 100000 in
theorem xo_171_c1 : ([75, 78, 79, 82, 83, 85, 88, 89, 92, 94, 95, 96, 98, 101, 102, 105, 106, 109, 110, 111, 114, 117, 118] : List Nat).all (fun pc => match xo_171 pc with | none => true | some r => decide (decode cX7_people pc = .ok r)) = true := by decide +kernel
set_option maxRecDepth 100000 in
theorem xo_171_no : (List.range 119).all (fun pc => (xo_171 pc).isNone || (([0, 1, 2, 3, 4, 5, 7, 10, 11, 12, 15, 17, 18, 19, 20, 23, 24, 27, 29, 30, 32, 35, 36, 39, 40, 43, 44, 46, 49, 50, 51, 52, 55, 58, 59, 62, 63, 66, 67, 70, 72, 73] : List Nat).contains pc || ([75, 78, 79, 82, 83, 85, 88, 89, 92, 94, 95, 96, 98, 101, 102, 105, 106, 109, 110, 111, 114, 117, 118] : List Nat).contains pc)) = true := by decide +kernel
theorem xo_171_top (pc : Nat) (h : 119 ≤ pc) : xo_171 pc = none := if_pos h
theorem xo_171_ok (pc : Nat) (r : Instr × Nat) (h : xo_171 pc = some r) : decode cX7_people pc = .ok r := by
  rcases Nat.lt_or_ge pc 119 with hl | hl
  · have h1 := List.all_eq_true.mp xo_171_no pc (List.mem_range.mpr hl)
    rw [h] at h1
    simp only [Option.isNone_some, Bool.false_or, Bool.or_eq_true, List.contains_iff_mem, or_assoc] at h1
    rcases h1 with h1 | h1
    · have h2 := List.all_eq_true.mp xo_171_c0 pc h1
      rw [h] at h2
      exact of_decide_eq_true h2
    · have h2 := List.all_eq_true.mp xo_171_c1 pc h1
      rw [h] at h2
      exact of_decide_eq_true h2
  · rw [show xo_171 pc = none from if_pos hl] at h; cases h
/-- X7_count -/
def xo_172 (pc : Nat) : Option (Instr × Nat) := if 125 ≤ pc then none else if pc < 97 then (if pc < 84 then (if pc < 80 then (if pc < 76 then (if pc < 1 then (if pc = 0 then some (.iload_n 1, 1) else none) else (if pc = 1 then some (.tableswitch 121 0 14 #[75, 75, 75, 75, 75, 82, 82, 82, 82, 82, 88, 95, 103, 111, 116], 75) else none)) else (if pc < 77 then (if pc = 76 then some (.aload_n 0, 1) else none) else (if pc = 77 then some (.getfield 7, 3) else none))) else (if pc < 82 then (if pc < 81 then (if pc = 80 then some (.iload_n 1, 1) else none) else (if pc = 81 then some (.iaload, 1) else none)) else (if pc < 83 then (if pc = 82 then some (.ireturn, 1) else none) else (if pc = 83 then some (.aload_n 0, 1) else none)))) else (if pc < 90 then (if pc < 88 then (if pc < 85 then (if pc = 84 then some (.iload_n 1, 1) else none) else (if pc = 85 then some (.invokevirtual 165, 3) else none)) else (if pc < 89 then (if pc = 88 then some (.ireturn, 1) else none) else (if pc = 89 then some (.aload_n 0, 1) else none))) else (if pc < 94 then (if pc < 93 then (if pc = 90 then some (.getfield 7, 3) else none) else (if pc = 93 then some (.iconst 5, 1) else none)) else (if pc < 95 then (if pc = 94 then some (.iaload, 1) else none) else (if pc < 96 then (if pc = 95 then some (.ireturn, 1) else none) else (if pc = 96 then some (.aload_n 0, 1) else none)))))) else (if pc < 111 then (if pc < 104 then (if pc < 102 then (if pc < 100 then (if pc = 97 then some (.getfield 7, 3) else none) else (if pc = 100 then some (.bipush 6, 2) else none)) else (if pc < 103 then (if pc = 102 then some (.iaload, 1) else none) else (if pc = 103 then some (.ireturn, 1) else none))) else (if pc < 108 then (if pc < 105 then (if pc = 104 then some (.aload_n 0, 1) else none) else (if pc = 105 then some (.getfield 7, 3) else none)) else (if pc < 110 then (if pc = 108 then some (.bipush 7, 2) else none) else (if pc = 110 then some (.iaload, 1) else none)))) else (if pc < 117 then (if pc < 113 then (if pc < 112 then (if pc = 111 then some (.ireturn, 1) else none) else (if pc = 112 then some (.aload_n 0, 1) else none)) else (if pc < 116 then (if pc = 113 then some (.getfield 168, 3) else none) else (if pc = 116 then some (.ireturn, 1) else none))) else (if pc < 121 then (if pc < 118 then (if pc = 117 then some (.aload_n 0, 1) else none) else (if pc = 118 then some (.getfield 24, 3) else none)) else (if pc < 122 then (if pc = 121 then some (.ireturn, 1) else none) else (if pc < 124 then (if pc = 122 then some (.bipush (-2), 2) else none) else (if pc = 124 then some (.ireturn, 1) else none))))))
set_option maxRecDepth 100000 in
theorem xo_172_c0 : ([0, 1, 76, 77, 80, 81, 82, 83, 84, 85, 88, 89, 90, 93, 94, 95, 96, 97, 100, 102, 103, 104, 105, 108, 110, 111, 112, 113, 116, 117, 118, 121, 122, 124] : List Nat).all (fun pc => match xo_172 pc with | none => true | some r => decide (decode cX7_count pc = .ok r)) = true := by decide +kernel
set_option maxRecDepth 100000 in
theorem xo_172_no : (List.range 125).all (fun pc => (xo_172 pc).isNone || (([0, 1, 76, 77, 80, 81, 82, 83, 84, 85, 88, 89, 90, 93, 94, 95, 96, 97, 100, 102, 103, 104, 105, 108, 110, 111, 112, 113, 116, 117, 118, 121, 122, 124] : List Nat).contains pc)) = true := by decide +kernel
theorem xo_172_top (pc : Nat) (h : 125 ≤ pc) : xo_172 pc = none := if_pos h
theorem xo_172_ok (pc : Nat) (r : Instr × Nat) (h : xo_172 pc = some r) : decode cX7_count pc = .ok r := by
  rcases Nat.lt_or_ge pc 125 with hl | hl
  · have h1 := List.all_eq_true.mp xo_172_no pc (List.mem_range.mpr hl)
    rw [h] at h1
    simp only [Option.isNone_some, Bool.false_or, Bool.or_eq_true, List.contains_iff_mem, or_assoc] at h1
    rcases h1 with h1
    · have h2 := List.all_eq_true.mp xo_172_c0 pc h1
      rw [h] at h2
      exact of_decide_eq_true h2
  · rw [show xo_172 pc = none from if_pos hl] at h; cases h
/-- X7_daysTo -/
def xo_173 (pc : Nat) : Option (Instr × Nat) := if 63 ≤ pc then none else if pc < 29 then (if pc < 14 then (if pc < 6 then (if pc < 4 then (if pc < 3 then (if pc = 0 then some (.sipush 3186, 3) else none) else (if pc = 3 then some (.istore_n 2, 1) else none)) else (if pc < 5 then (if pc = 4 then some (.iconst 0, 1) else none) else (if pc = 5 then some (.istore_n 3, 1) else none))) else (if pc < 10 then (if pc < 7 then (if pc = 6 then some (.iload_n 3, 1) else none) else (if pc = 7 then some (.sipush 300, 3) else none)) else (if pc < 13 then (if pc = 10 then some (.if_icmp .ge 31, 3) else none) else (if pc = 13 then some (.aload_n 0, 1) else none)))) else (if pc < 22 then (if pc < 18 then (if pc < 17 then (if pc = 14 then some (.getfield 7, 3) else none) else (if pc = 17 then some (.iload_n 2, 1) else none)) else (if pc < 19 then (if pc = 18 then some (.iload_n 1, 1) else none) else (if pc = 19 then some (.invokestatic 20, 3) else none))) else (if pc < 25 then (if pc < 23 then (if pc = 22 then some (.iaload, 1) else none) else (if pc = 23 then some (.bipush (-6), 2) else none)) else (if pc < 28 then (if pc = 25 then some (.if_icmp .ne 16, 3) else none) else (if pc = 28 then some (.aload_n 0, 1) else none))))) else (if pc < 46 then (if pc < 38 then (if pc < 33 then (if pc < 30 then (if pc = 29 then some (.iload_n 2, 1) else none) else (if pc = 30 then some (.invokevirtual 66, 3) else none)) else (if pc < 35 then (if pc = 33 then some (.istore 4, 2) else none) else (if pc = 35 then some (.iinc 3 1, 3) else none))) else (if pc < 42 then (if pc < 41 then (if pc = 38 then some (.goto (-32), 3) else none) else (if pc = 41 then some (.aload_n 0, 1) else none)) else (if pc < 45 then (if pc = 42 then some (.getfield 7, 3) else none) else (if pc = 45 then some (.iload_n 2, 1) else none)))) else (if pc < 53 then (if pc < 50 then (if pc < 47 then (if pc = 46 then some (.iload_n 1, 1) else none) else (if pc = 47 then some (.invokestatic 20, 3) else none)) else (if pc < 51 then (if pc = 50 then some (.iaload, 1) else none) else (if pc = 51 then some (.bipush (-6), 2) else none))) else (if pc < 58 then (if pc < 56 then (if pc = 53 then some (.if_icmp .ne 8, 3) else none) else (if pc = 56 then some (.bipush (-6), 2) else none)) else (if pc < 61 then (if pc = 58 then some (.goto 4, 3) else none) else (if pc < 62 then (if pc = 61 then some (.iload_n 3, 1) else none) else (if pc = 62 then some (.ireturn, 1) else none))))))
set_option maxRecDepth 100000 in
theorem xo_173_c0 : ([0, 3, 4, 5, 6, 7, 10, 13, 14, 17, 18, 19, 22, 23, 25, 28, 29, 30, 33, 35, 38, 41, 42, 45, 46, 47, 50, 51, 53, 56, 58, 61, 62] : List Nat).all (fun pc => match xo_173 pc with | none => true | some r => decide (decode cX7_daysTo pc = .ok r)) = true := by decide +kernel
set_option maxRecDepth 100000 in
theorem xo_173_no : (List.range 63).all (fun pc => (xo_173 pc).isNone || (([0, 3, 4, 5, 6, 7, 10, 13, 14, 17, 18, 19, 22, 23, 25, 28, 29, 30, 33, 35, 38, 41, 42, 45, 46, 47, 50, 51, 53, 56, 58, 61, 62] : List Nat).contains pc)) = true := by decide +kernel
theorem xo_173_top (pc : Nat) (h : 63 ≤ pc) : xo_173 pc = none := if_pos h
theorem xo_173_ok (pc : Nat) (r : Instr × Nat) (h : xo_173 pc = some r) : decode cX7_daysTo pc = .ok r := by
  rcases Nat.lt_or_ge pc 63 with hl | hl
  · have h1 := List.all_eq_true.mp xo_173_no pc (List.mem_range.mpr hl)
    rw [h] at h1
    simp only [Option.isNone_some, Bool.false_or, Bool.or_eq_true, List.contains_iff_mem, or_assoc] at h1
    rcases h1 with h1
    · have h2 := List.all_eq_true.mp xo_173_c0 pc h1
      rw [h] at h2
      exact of_decide_eq_true h2
  · rw [show xo_173 pc = none from if_pos hl] at h; cases h
/-- X7_untilPermit -/
def xo_174 (pc : Nat) : Option (Instr × Nat) := if 34 ≤ pc then none else if pc < 18 then (if pc < 9 then (if pc < 4 then (if pc < 1 then (if pc = 0 then some (.iload_n 1, 1) else none) else (if pc = 1 then some (.invokestatic 85, 3) else none)) else (if pc < 7 then (if pc = 4 then some (.ifCond .ne 5, 3) else none) else (if pc < 8 then (if pc = 7 then some (.iconst (-1), 1) else none) else (if pc = 8 then some (.ireturn, 1) else none)))) else (if pc < 11 then (if pc < 10 then (if pc = 9 then some (.aload_n 0, 1) else none) else (if pc = 10 then some (.iconst 0, 1) else none)) else (if pc < 12 then (if pc = 11 then some (.iload_n 1, 1) else none) else (if pc < 15 then (if pc = 12 then some (.invokevirtual 124, 3) else none) else (if pc = 15 then some (.ifCond .ne 6, 3) else none))))) else (if pc < 25 then (if pc < 21 then (if pc < 20 then (if pc = 18 then some (.bipush (-5), 2) else none) else (if pc = 20 then some (.ireturn, 1) else none)) else (if pc < 22 then (if pc = 21 then some (.aload_n 0, 1) else none) else (if pc < 23 then (if pc = 22 then some (.iconst 0, 1) else none) else (if pc = 23 then some (.bipush 9, 2) else none)))) else (if pc < 29 then (if pc < 28 then (if pc = 25 then some (.invokevirtual 28, 3) else none) else (if pc = 28 then some (.aload_n 0, 1) else none)) else (if pc < 30 then (if pc = 29 then some (.iload_n 1, 1) else none) else (if pc < 33 then (if pc = 30 then some (.invokevirtual 171, 3) else none) else (if pc = 33 then some (.ireturn, 1) else none)))))
set_option maxRecDepth 100000 in
theorem xo_174_c0 : ([0, 1, 4, 7, 8, 9, 10, 11, 12, 15, 18, 20, 21, 22, 23, 25, 28, 29, 30, 33] : List Nat).all (fun pc => match xo_174 pc with | none => true | some r => decide (decode cX7_untilPermit pc = .ok r)) = true := by decide +kernel
set_option maxRecDepth 100000 in
theorem xo_174_no : (List.range 34).all (fun pc => (xo_174 pc).isNone || (([0, 1, 4, 7, 8, 9, 10, 11, 12, 15, 18, 20, 21, 22, 23, 25, 28, 29, 30, 33] : List Nat).contains pc)) = true := by decide +kernel
theorem xo_174_top (pc : Nat) (h : 34 ≤ pc) : xo_174 pc = none := if_pos h
theorem xo_174_ok (pc : Nat) (r : Instr × Nat) (h : xo_174 pc = some r) : decode cX7_untilPermit pc = .ok r := by
  rcases Nat.lt_or_ge pc 34 with hl | hl
  · have h1 := List.all_eq_true.mp xo_174_no pc (List.mem_range.mpr hl)
    rw [h] at h1
    simp only [Option.isNone_some, Bool.false_or, Bool.or_eq_true, List.contains_iff_mem, or_assoc] at h1
    rcases h1 with h1
    · have h2 := List.all_eq_true.mp xo_174_c0 pc h1
      rw [h] at h2
      exact of_decide_eq_true h2
  · rw [show xo_174 pc = none from if_pos hl] at h; cases h
end
section
/-- X7_bestShed -/
def xo_175 (pc : Nat) : Option (Instr × Nat) := if 167 ≤ pc then none else if pc < 77 then (if pc < 38 then (if pc < 18 then (if pc < 9 then (if pc < 4 then (if pc < 1 then (if pc = 0 then some (.iload_n 1, 1) else none) else (if pc = 1 then some (.invokestatic 85, 3) else none)) else (if pc < 7 then (if pc = 4 then some (.ifCond .ne 5, 3) else none) else (if pc < 8 then (if pc = 7 then some (.iconst (-1), 1) else none) else (if pc = 8 then some (.ireturn, 1) else none)))) else (if pc < 13 then (if pc < 10 then (if pc = 9 then some (.iload_n 2, 1) else none) else (if pc = 10 then some (.invokestatic 92, 3) else none)) else (if pc < 16 then (if pc = 13 then some (.ifCond .eq 13, 3) else none) else (if pc < 17 then (if pc = 16 then some (.iload_n 3, 1) else none) else (if pc = 17 then some (.i2l, 1) else none))))) else (if pc < 28 then (if pc < 20 then (if pc < 19 then (if pc = 18 then some (.lconst 0, 1) else none) else (if pc = 19 then some (.lconst 1, 1) else none)) else (if pc < 23 then (if pc = 20 then some (.invokestatic 77, 3) else none) else (if pc < 26 then (if pc = 23 then some (.ifCond .ne 6, 3) else none) else (if pc = 26 then some (.bipush (-2), 2) else none)))) else (if pc < 31 then (if pc < 29 then (if pc = 28 then some (.ireturn, 1) else none) else (if pc < 30 then (if pc = 29 then some (.aload_n 0, 1) else none) else (if pc = 30 then some (.iload_n 1, 1) else none))) else (if pc < 34 then (if pc = 31 then some (.invokevirtual 95, 3) else none) else (if pc < 37 then (if pc = 34 then some (.ifCond .ne 12, 3) else none) else (if pc = 37 then some (.aload_n 0, 1) else none)))))) else (if pc < 57 then (if pc < 48 then (if pc < 40 then (if pc < 39 then (if pc = 38 then some (.iconst 0, 1) else none) else (if pc = 39 then some (.iload_n 1, 1) else none)) else (if pc < 43 then (if pc = 40 then some (.invokevirtual 124, 3) else none) else (if pc < 46 then (if pc = 43 then some (.ifCond .eq 6, 3) else none) else (if pc = 46 then some (.bipush (-5), 2) else none)))) else (if pc < 51 then (if pc < 49 then (if pc = 48 then some (.ireturn, 1) else none) else (if pc = 49 then some (.bipush (-6), 2) else none)) else (if pc < 53 then (if pc = 51 then some (.istore 4, 2) else none) else (if pc < 55 then (if pc = 53 then some (.bipush (-6), 2) else none) else (if pc = 55 then some (.istore 5, 2) else none))))) else (if pc < 66 then (if pc < 60 then (if pc < 58 then (if pc = 57 then some (.iconst 0, 1) else none) else (if pc = 58 then some (.istore 6, 2) else none)) else (if pc < 62 then (if pc = 60 then some (.iload 6, 2) else none) else (if pc < 63 then (if pc = 62 then some (.iconst 3, 1) else none) else (if pc = 63 then some (.if_icmp .ge 92, 3) else none)))) else (if pc < 70 then (if pc < 67 then (if pc = 66 then some (.aload_n 0, 1) else none) else (if pc < 68 then (if pc = 67 then some (.iconst 0, 1) else none) else (if pc = 68 then some (.bipush 9, 2) else none))) else (if pc < 73 then (if pc = 70 then some (.invokevirtual 28, 3) else none) else (if pc < 74 then (if pc = 73 then some (.aload_n 0, 1) else none) else (if pc = 74 then some (.sipush 3186, 3) else none))))))) else (if pc < 119 then (if pc < 95 then (if pc < 86 then (if pc < 80 then (if pc < 78 then (if pc = 77 then some (.iload_n 1, 1) else none) else (if pc = 78 then some (.iload 6, 2) else none)) else (if pc < 81 then (if pc = 80 then some (.iload_n 2, 1) else none) else (if pc < 84 then (if pc = 81 then some (.invokevirtual 120, 3) else none) else (if pc = 84 then some (.istore 7, 2) else none)))) else (if pc < 88 then (if pc < 87 then (if pc = 86 then some (.aload_n 0, 1) else none) else (if pc = 87 then some (.iload_n 1, 1) else none)) else (if pc < 91 then (if pc = 88 then some (.invokevirtual 171, 3) else none) else (if pc < 93 then (if pc = 91 then some (.istore 8, 2) else none) else (if pc = 93 then some (.iload 8, 2) else none))))) else (if pc < 107 then (if pc < 100 then (if pc < 97 then (if pc = 95 then some (.bipush (-6), 2) else none) else (if pc = 97 then some (.if_icmp .eq 21, 3) else none)) else (if pc < 102 then (if pc = 100 then some (.iload 4, 2) else none) else (if pc < 104 then (if pc = 102 then some (.bipush (-6), 2) else none) else (if pc = 104 then some (.if_icmp .eq 10, 3) else none)))) else (if pc < 114 then (if pc < 109 then (if pc = 107 then some (.iload 8, 2) else none) else (if pc < 111 then (if pc = 109 then some (.iload 5, 2) else none) else (if pc = 111 then some (.if_icmp .ge 7, 3) else none))) else (if pc < 115 then (if pc = 114 then some (.iconst 1, 1) else none) else (if pc < 118 then (if pc = 115 then some (.goto 4, 3) else none) else (if pc = 118 then some (.iconst 0, 1) else none)))))) else (if pc < 142 then (if pc < 131 then (if pc < 123 then (if pc < 121 then (if pc = 119 then some (.istore 9, 2) else none) else (if pc = 121 then some (.iload 9, 2) else none)) else (if pc < 126 then (if pc = 123 then some (.ifCond .eq 8, 3) else none) else (if pc < 128 then (if pc = 126 then some (.iload 6, 2) else none) else (if pc = 128 then some (.goto 5, 3) else none)))) else (if pc < 135 then (if pc < 133 then (if pc = 131 then some (.iload 4, 2) else none) else (if pc = 133 then some (.istore 4, 2) else none)) else (if pc < 137 then (if pc = 135 then some (.iload 9, 2) else none) else (if pc < 140 then (if pc = 137 then some (.ifCond .eq 8, 3) else none) else (if pc = 140 then some (.iload 8, 2) else none))))) else (if pc < 155 then (if pc < 147 then (if pc < 145 then (if pc = 142 then some (.goto 5, 3) else none) else (if pc = 145 then some (.iload 5, 2) else none)) else (if pc < 149 then (if pc = 147 then some (.istore 5, 2) else none) else (if pc < 152 then (if pc = 149 then some (.iinc 6 1, 3) else none) else (if pc = 152 then some (.goto (-92), 3) else none)))) else (if pc < 161 then (if pc < 156 then (if pc = 155 then some (.iload_n 3, 1) else none) else (if pc < 159 then (if pc = 156 then some (.ifCond .ne 8, 3) else none) else (if pc = 159 then some (.iload 4, 2) else none))) else (if pc < 164 then (if pc = 161 then some (.goto 5, 3) else none) else (if pc < 166 then (if pc = 164 then some (.iload 5, 2) else none) else (if pc = 166 then some (.ireturn, 1) else none)))))))
set_option maxRecDepth 100000 in
theorem xo_175_c0 : ([0, 1, 4, 7, 8, 9, 10, 13, 16, 17, 18, 19, 20, 23, 26, 28, 29, 30, 31, 34, 37, 38, 39, 40, 43, 46, 48, 49, 51] : List Nat).all (fun pc => match xo_175 pc with | none => true | some r => decide (decode cX7_bestShed pc = .ok r)) = true := by decide +kernel
set_option maxRecDepth 100000 in
theorem xo_175_c1 : ([53, 55, 57, 58, 60, 62, 63, 66, 67, 68, 70, 73, 74, 77, 78, 80, 81, 84, 86, 87, 88, 91, 93, 95, 97, 100, 102, 104, 107] : List Nat).all (fun pc => match xo_175 pc with | none => true | some r => decide (decode cX7_bestShed pc = .ok r)) = true := by decide +kernel
set_option maxRecDepth 100000 in
theorem xo_175_c2 : ([109, 111, 114, 115, 118, 119, 121, 123, 126, 128, 131, 133, 135, 137, 140, 142, 145, 147, 149, 152, 155, 156, 159, 161, 164, 166] : List Nat).all (fun pc => match xo_175 pc with | none => true | some r => decide (decode cX7_bestShed pc = .ok r)) = true := by decide +kernel
set_option maxRecDepth 100000 in
theorem xo_175_no : (List.range 167).all (fun pc => (xo_175 pc).isNone || (([0, 1, 4, 7, 8, 9, 10, 13, 16, 17, 18, 19, 20, 23, 26, 28, 29, 30, 31, 34, 37, 38, 39, 40, 43, 46, 48, 49, 51] : List Nat).contains pc || ([53, 55, 57, 58, 60, 62, 63, 66, 67, 68, 70, 73, 74, 77, 78, 80, 81, 84, 86, 87, 88, 91, 93, 95, 97, 100, 102, 104, 107] : List Nat).contains pc || ([109, 111, 114, 115, 118, 119, 121, 123, 126, 128, 131, 133, 135, 137, 140, 142, 145, 147, 149, 152, 155, 156, 159, 161, 164, 166] : List Nat).contains pc)) = true := by decide +kernel
theorem xo_175_top (pc : Nat) (h : 167 ≤ pc) : xo_175 pc = none := if_pos h
theorem xo_175_ok (pc : Nat) (r : Instr × Nat) (h : xo_175 pc = some r) : decode cX7_bestShed pc = .ok r := by
  rcases Nat.lt_or_ge pc 167 with hl | hl
  · have h1 := List.all_eq_true.mp xo_175_no pc (List.mem_range.mpr hl)
    rw [h] at h1
    simp only [Option.isNone_some, Bool.false_or, Bool.or_eq_true, List.contains_iff_mem, or_assoc] at h1
    rcases h1 with h1 | h1 | h1
    · have h2 := List.all_eq_true.mp xo_175_c0 pc h1
      rw [h] at h2
      exact of_decide_eq_true h2
    · have h2 := List.all_eq_true.mp xo_175_c1 pc h1
      rw [h] at h2
      exact of_decide_eq_true h2
    · have h2 := List.all_eq_true.mp xo_175_c2 pc h1
      rw [h] at h2
      exact of_decide_eq_true h2
  · rw [show xo_175 pc = none from if_pos hl] at h; cases h
/-- X7_ifSwept -/
def xo_176 (pc : Nat) : Option (Instr × Nat) := if 49 ≤ pc then none else if pc < 24 then (if pc < 10 then (if pc < 7 then (if pc < 1 then (if pc = 0 then some (.iload_n 1, 1) else none) else (if pc < 4 then (if pc = 1 then some (.invokestatic 89, 3) else none) else (if pc = 4 then some (.ifCond .ne 5, 3) else none))) else (if pc < 8 then (if pc = 7 then some (.iconst (-1), 1) else none) else (if pc < 9 then (if pc = 8 then some (.ireturn, 1) else none) else (if pc = 9 then some (.iload_n 2, 1) else none)))) else (if pc < 15 then (if pc < 11 then (if pc = 10 then some (.i2l, 1) else none) else (if pc < 12 then (if pc = 11 then some (.lconst 0, 1) else none) else (if pc = 12 then some (.ldc2_w 83, 3) else none))) else (if pc < 21 then (if pc < 18 then (if pc = 15 then some (.invokestatic 77, 3) else none) else (if pc = 18 then some (.ifCond .ne 6, 3) else none)) else (if pc < 23 then (if pc = 21 then some (.bipush (-2), 2) else none) else (if pc = 23 then some (.ireturn, 1) else none))))) else (if pc < 36 then (if pc < 28 then (if pc < 25 then (if pc = 24 then some (.aload_n 0, 1) else none) else (if pc < 26 then (if pc = 25 then some (.iconst 0, 1) else none) else (if pc = 26 then some (.bipush 9, 2) else none))) else (if pc < 32 then (if pc < 31 then (if pc = 28 then some (.invokevirtual 28, 3) else none) else (if pc = 31 then some (.aload_n 0, 1) else none)) else (if pc < 35 then (if pc = 32 then some (.sipush 3186, 3) else none) else (if pc = 35 then some (.iload_n 2, 1) else none)))) else (if pc < 41 then (if pc < 39 then (if pc = 36 then some (.invokevirtual 156, 3) else none) else (if pc < 40 then (if pc = 39 then some (.istore_n 3, 1) else none) else (if pc = 40 then some (.aload_n 0, 1) else none))) else (if pc < 45 then (if pc < 44 then (if pc = 41 then some (.sipush 3186, 3) else none) else (if pc = 44 then some (.iload_n 1, 1) else none)) else (if pc < 48 then (if pc = 45 then some (.invokevirtual 148, 3) else none) else (if pc = 48 then some (.ireturn, 1) else none)))))
set_option maxRecDepth 100000 in
theorem xo_176_c0 : ([0, 1, 4, 7, 8, 9, 10, 11, 12, 15, 18, 21, 23, 24, 25, 26, 28, 31, 32, 35, 36, 39, 40, 41, 44, 45, 48] : List Nat).all (fun pc => match xo_176 pc with | none => true | some r => decide (decode cX7_ifSwept pc = .ok r)) = true := by decide +kernel
set_option maxRecDepth 100000 in
theorem xo_176_no : (List.range 49).all (fun pc => (xo_176 pc).isNone || (([0, 1, 4, 7, 8, 9, 10, 11, 12, 15, 18, 21, 23, 24, 25, 26, 28, 31, 32, 35, 36, 39, 40, 41, 44, 45, 48] : List Nat).contains pc)) = true := by decide +kernel
theorem xo_176_top (pc : Nat) (h : 49 ≤ pc) : xo_176 pc = none := if_pos h
theorem xo_176_ok (pc : Nat) (r : Instr × Nat) (h : xo_176 pc = some r) : decode cX7_ifSwept pc = .ok r := by
  rcases Nat.lt_or_ge pc 49 with hl | hl
  · have h1 := List.all_eq_true.mp xo_176_no pc (List.mem_range.mpr hl)
    rw [h] at h1
    simp only [Option.isNone_some, Bool.false_or, Bool.or_eq_true, List.contains_iff_mem, or_assoc] at h1
    rcases h1 with h1
    · have h2 := List.all_eq_true.mp xo_176_c0 pc h1
      rw [h] at h2
      exact of_decide_eq_true h2
  · rw [show xo_176 pc = none from if_pos hl] at h; cases h
/-- X7_charactersOf -/
def xo_177 (pc : Nat) : Option (Instr × Nat) := if 53 ≤ pc then none else if pc < 29 then (if pc < 12 then (if pc < 3 then (if pc < 1 then (if pc = 0 then some (.lload_n 0, 1) else none) else (if pc < 2 then (if pc = 1 then some (.lstore_n 2, 1) else none) else (if pc = 2 then some (.iconst 0, 1) else none))) else (if pc < 7 then (if pc < 5 then (if pc = 3 then some (.istore 4, 2) else none) else (if pc = 5 then some (.iload 4, 2) else none)) else (if pc < 9 then (if pc = 7 then some (.bipush 8, 2) else none) else (if pc = 9 then some (.if_icmp .ge 31, 3) else none)))) else (if pc < 17 then (if pc < 13 then (if pc = 12 then some (.lload_n 2, 1) else none) else (if pc < 16 then (if pc = 13 then some (.ldc2_w 174, 3) else none) else (if pc = 16 then some (.land, 1) else none))) else (if pc < 23 then (if pc < 20 then (if pc = 17 then some (.ldc2_w 176, 3) else none) else (if pc = 20 then some (.ldc2_w 178, 3) else none)) else (if pc < 26 then (if pc = 23 then some (.invokestatic 77, 3) else none) else (if pc = 26 then some (.ifCond .eq 14, 3) else none))))) else (if pc < 41 then (if pc < 33 then (if pc < 30 then (if pc = 29 then some (.lload_n 2, 1) else none) else (if pc < 32 then (if pc = 30 then some (.bipush 8, 2) else none) else (if pc = 32 then some (.lushr, 1) else none))) else (if pc < 37 then (if pc < 34 then (if pc = 33 then some (.lstore_n 2, 1) else none) else (if pc = 34 then some (.iinc 4 1, 3) else none)) else (if pc < 40 then (if pc = 37 then some (.goto (-32), 3) else none) else (if pc = 40 then some (.lload_n 2, 1) else none)))) else (if pc < 46 then (if pc < 42 then (if pc = 41 then some (.lconst 0, 1) else none) else (if pc < 43 then (if pc = 42 then some (.lcmp, 1) else none) else (if pc = 43 then some (.ifCond .ne 8, 3) else none))) else (if pc < 51 then (if pc < 48 then (if pc = 46 then some (.iload 4, 2) else none) else (if pc = 48 then some (.goto 4, 3) else none)) else (if pc < 52 then (if pc = 51 then some (.iconst 0, 1) else none) else (if pc = 52 then some (.ireturn, 1) else none)))))
set_option maxRecDepth 100000 in
theorem xo_177_c0 : ([0, 1, 2, 3, 5, 7, 9, 12, 13, 16, 17, 20, 23, 26, 29, 30, 32, 33, 34, 37, 40, 41, 42, 43, 46, 48, 51, 52] : List Nat).all (fun pc => match xo_177 pc with | none => true | some r => decide (decode cX7_charactersOf pc = .ok r)) = true := by decide +kernel
set_option maxRecDepth 100000 in
theorem xo_177_no : (List.range 53).all (fun pc => (xo_177 pc).isNone || (([0, 1, 2, 3, 5, 7, 9, 12, 13, 16, 17, 20, 23, 26, 29, 30, 32, 33, 34, 37, 40, 41, 42, 43, 46, 48, 51, 52] : List Nat).contains pc)) = true := by decide +kernel
theorem xo_177_top (pc : Nat) (h : 53 ≤ pc) : xo_177 pc = none := if_pos h
theorem xo_177_ok (pc : Nat) (r : Instr × Nat) (h : xo_177 pc = some r) : decode cX7_charactersOf pc = .ok r := by
  rcases Nat.lt_or_ge pc 53 with hl | hl
  · have h1 := List.all_eq_true.mp xo_177_no pc (List.mem_range.mpr hl)
    rw [h] at h1
    simp only [Option.isNone_some, Bool.false_or, Bool.or_eq_true, List.contains_iff_mem, or_assoc] at h1
    rcases h1 with h1
    · have h2 := List.all_eq_true.mp xo_177_c0 pc h1
      rw [h] at h2
      exact of_decide_eq_true h2
  · rw [show xo_177 pc = none from if_pos hl] at h; cases h
/-- X7_put -/
def xo_178 (pc : Nat) : Option (Instr × Nat) := if 84 ≤ pc then none else if pc < 45 then (if pc < 20 then (if pc < 11 then (if pc < 5 then (if pc < 1 then (if pc = 0 then some (.lload_n 1, 1) else none) else (if pc < 4 then (if pc = 1 then some (.invokestatic 180, 3) else none) else (if pc = 4 then some (.istore_n 3, 1) else none))) else (if pc < 6 then (if pc = 5 then some (.iload_n 3, 1) else none) else (if pc < 9 then (if pc = 6 then some (.ifCond .ne 6, 3) else none) else (if pc = 9 then some (.bipush (-2), 2) else none)))) else (if pc < 16 then (if pc < 12 then (if pc = 11 then some (.ireturn, 1) else none) else (if pc < 13 then (if pc = 12 then some (.aload_n 0, 1) else none) else (if pc = 13 then some (.getfield 168, 3) else none))) else (if pc < 17 then (if pc = 16 then some (.iload_n 3, 1) else none) else (if pc < 18 then (if pc = 17 then some (.iadd, 1) else none) else (if pc = 18 then some (.bipush 60, 2) else none))))) else (if pc < 31 then (if pc < 26 then (if pc < 23 then (if pc = 20 then some (.if_icmp .le 6, 3) else none) else (if pc < 25 then (if pc = 23 then some (.bipush (-4), 2) else none) else (if pc = 25 then some (.ireturn, 1) else none))) else (if pc < 27 then (if pc = 26 then some (.iconst 0, 1) else none) else (if pc < 29 then (if pc = 27 then some (.istore 4, 2) else none) else (if pc = 29 then some (.iload 4, 2) else none)))) else (if pc < 36 then (if pc < 32 then (if pc = 31 then some (.iload_n 3, 1) else none) else (if pc < 35 then (if pc = 32 then some (.if_icmp .ge 37, 3) else none) else (if pc = 35 then some (.aload_n 0, 1) else none))) else (if pc < 40 then (if pc < 39 then (if pc = 36 then some (.getfield 17, 3) else none) else (if pc = 39 then some (.aload_n 0, 1) else none)) else (if pc < 43 then (if pc = 40 then some (.getfield 168, 3) else none) else (if pc = 43 then some (.iload 4, 2) else none)))))) else (if pc < 61 then (if pc < 52 then (if pc < 49 then (if pc < 46 then (if pc = 45 then some (.iadd, 1) else none) else (if pc < 47 then (if pc = 46 then some (.lload_n 1, 1) else none) else (if pc = 47 then some (.bipush 8, 2) else none))) else (if pc < 50 then (if pc = 49 then some (.iload_n 3, 1) else none) else (if pc < 51 then (if pc = 50 then some (.iconst 1, 1) else none) else (if pc = 51 then some (.isub, 1) else none)))) else (if pc < 56 then (if pc < 54 then (if pc = 52 then some (.iload 4, 2) else none) else (if pc < 55 then (if pc = 54 then some (.isub, 1) else none) else (if pc = 55 then some (.imul, 1) else none))) else (if pc < 57 then (if pc = 56 then some (.lushr, 1) else none) else (if pc < 60 then (if pc = 57 then some (.ldc2_w 174, 3) else none) else (if pc = 60 then some (.land, 1) else none))))) else (if pc < 71 then (if pc < 66 then (if pc < 62 then (if pc = 61 then some (.l2i, 1) else none) else (if pc < 63 then (if pc = 62 then some (.iastore, 1) else none) else (if pc = 63 then some (.iinc 4 1, 3) else none))) else (if pc < 69 then (if pc = 66 then some (.goto (-37), 3) else none) else (if pc < 70 then (if pc = 69 then some (.aload_n 0, 1) else none) else (if pc = 70 then some (.dup, 1) else none)))) else (if pc < 76 then (if pc < 74 then (if pc = 71 then some (.getfield 168, 3) else none) else (if pc < 75 then (if pc = 74 then some (.iload_n 3, 1) else none) else (if pc = 75 then some (.iadd, 1) else none))) else (if pc < 80 then (if pc < 79 then (if pc = 76 then some (.putfield 168, 3) else none) else (if pc = 79 then some (.aload_n 0, 1) else none)) else (if pc < 83 then (if pc = 80 then some (.getfield 168, 3) else none) else (if pc = 83 then some (.ireturn, 1) else none))))))
set_option maxRecDepth 100000 in
theorem xo_178_c0 : ([0, 1, 4, 5, 6, 9, 11, 12, 13, 16, 17, 18, 20, 23, 25, 26, 27, 29, 31, 32, 35, 36, 39, 40, 43, 45, 46, 47, 49, 50, 51, 52, 54, 55, 56, 57, 60, 61, 62, 63, 66, 69, 70, 71, 74, 75, 76, 79, 80, 83] : List Nat).all (fun pc => match xo_178 pc with | none => true | some r => decide (decode cX7_put pc = .ok r)) = true := by decide +kernel
set_option maxRecDepth 100000 in
theorem xo_178_no : (List.range 84).all (fun pc => (xo_178 pc).isNone || (([0, 1, 4, 5, 6, 9, 11, 12, 13, 16, 17, 18, 20, 23, 25, 26, 27, 29, 31, 32, 35, 36, 39, 40, 43, 45, 46, 47, 49, 50, 51, 52, 54, 55, 56, 57, 60, 61, 62, 63, 66, 69, 70, 71, 74, 75, 76, 79, 80, 83] : List Nat).contains pc)) = true := by decide +kernel
theorem xo_178_top (pc : Nat) (h : 84 ≤ pc) : xo_178 pc = none := if_pos h
theorem xo_178_ok (pc : Nat) (r : Instr × Nat) (h : xo_178 pc = some r) : decode cX7_put pc = .ok r := by
  rcases Nat.lt_or_ge pc 84 with hl | hl
  · have h1 := List.all_eq_true.mp xo_178_no pc (List.mem_range.mpr hl)
    rw [h] at h1
    simp only [Option.isNone_some, Bool.false_or, Bool.or_eq_true, List.contains_iff_mem, or_assoc] at h1
    rcases h1 with h1
    · have h2 := List.all_eq_true.mp xo_178_c0 pc h1
      rw [h] at h2
      exact of_decide_eq_true h2
  · rw [show xo_178 pc = none from if_pos hl] at h; cases h
/-- X7_wipe -/
def xo_179 (pc : Nat) : Option (Instr × Nat) := if 12 ≤ pc then none else if pc < 6 then (if pc < 4 then (if pc < 1 then (if pc = 0 then some (.aload_n 0, 1) else none) else (if pc = 1 then some (.getfield 168, 3) else none)) else (if pc < 5 then (if pc = 4 then some (.istore_n 1, 1) else none) else (if pc = 5 then some (.aload_n 0, 1) else none))) else (if pc < 10 then (if pc < 7 then (if pc = 6 then some (.iconst 0, 1) else none) else (if pc = 7 then some (.putfield 168, 3) else none)) else (if pc < 11 then (if pc = 10 then some (.iload_n 1, 1) else none) else (if pc = 11 then some (.ireturn, 1) else none)))
set_option maxRecDepth 100000 in
theorem xo_179_c0 : ([0, 1, 4, 5, 6, 7, 10, 11] : List Nat).all (fun pc => match xo_179 pc with | none => true | some r => decide (decode cX7_wipe pc = .ok r)) = true := by decide +kernel
set_option maxRecDepth 100000 in
theorem xo_179_no : (List.range 12).all (fun pc => (xo_179 pc).isNone || (([0, 1, 4, 5, 6, 7, 10, 11] : List Nat).contains pc)) = true := by decide +kernel
theorem xo_179_top (pc : Nat) (h : 12 ≤ pc) : xo_179 pc = none := if_pos h
theorem xo_179_ok (pc : Nat) (r : Instr × Nat) (h : xo_179 pc = some r) : decode cX7_wipe pc = .ok r := by
  rcases Nat.lt_or_ge pc 12 with hl | hl
  · have h1 := List.all_eq_true.mp xo_179_no pc (List.mem_range.mpr hl)
    rw [h] at h1
    simp only [Option.isNone_some, Bool.false_or, Bool.or_eq_true, List.contains_iff_mem, or_assoc] at h1
    rcases h1 with h1
    · have h2 := List.all_eq_true.mp xo_179_c0 pc h1
      rw [h] at h2
      exact of_decide_eq_true h2
  · rw [show xo_179 pc = none from if_pos hl] at h; cases h
/-- X7_isHere -/
def xo_180 (pc : Nat) : Option (Instr × Nat) := if 37 ≤ pc then none else if pc < 20 then (if pc < 11 then (if pc < 4 then (if pc < 1 then (if pc = 0 then some (.aload_n 0, 1) else none) else (if pc = 1 then some (.getfield 184, 3) else none)) else (if pc < 5 then (if pc = 4 then some (.aload_n 0, 1) else none) else (if pc < 8 then (if pc = 5 then some (.getfield 168, 3) else none) else (if pc = 8 then some (.if_icmp .ge 27, 3) else none)))) else (if pc < 15 then (if pc < 12 then (if pc = 11 then some (.aload_n 0, 1) else none) else (if pc = 12 then some (.getfield 17, 3) else none)) else (if pc < 16 then (if pc = 15 then some (.aload_n 0, 1) else none) else (if pc < 19 then (if pc = 16 then some (.getfield 184, 3) else none) else (if pc = 19 then some (.iaload, 1) else none))))) else (if pc < 25 then (if pc < 22 then (if pc < 21 then (if pc = 20 then some (.i2l, 1) else none) else (if pc = 21 then some (.iload_n 1, 1) else none)) else (if pc < 23 then (if pc = 22 then some (.i2l, 1) else none) else (if pc < 24 then (if pc = 23 then some (.iload_n 2, 1) else none) else (if pc = 24 then some (.i2l, 1) else none)))) else (if pc < 32 then (if pc < 28 then (if pc = 25 then some (.invokestatic 77, 3) else none) else (if pc < 31 then (if pc = 28 then some (.ifCond .eq 7, 3) else none) else (if pc = 31 then some (.iconst 1, 1) else none))) else (if pc < 35 then (if pc = 32 then some (.goto 4, 3) else none) else (if pc < 36 then (if pc = 35 then some (.iconst 0, 1) else none) else (if pc = 36 then some (.ireturn, 1) else none)))))
set_option maxRecDepth 100000 in
theorem xo_180_c0 : ([0, 1, 4, 5, 8, 11, 12, 15, 16, 19, 20, 21, 22, 23, 24, 25, 28, 31, 32, 35, 36] : List Nat).all (fun pc => match xo_180 pc with | none => true | some r => decide (decode cX7_isHere pc = .ok r)) = true := by decide +kernel
set_option maxRecDepth 100000 in
theorem xo_180_no : (List.range 37).all (fun pc => (xo_180 pc).isNone || (([0, 1, 4, 5, 8, 11, 12, 15, 16, 19, 20, 21, 22, 23, 24, 25, 28, 31, 32, 35, 36] : List Nat).contains pc)) = true := by decide +kernel
theorem xo_180_top (pc : Nat) (h : 37 ≤ pc) : xo_180 pc = none := if_pos h
theorem xo_180_ok (pc : Nat) (r : Instr × Nat) (h : xo_180 pc = some r) : decode cX7_isHere pc = .ok r := by
  rcases Nat.lt_or_ge pc 37 with hl | hl
  · have h1 := List.all_eq_true.mp xo_180_no pc (List.mem_range.mpr hl)
    rw [h] at h1
    simp only [Option.isNone_some, Bool.false_or, Bool.or_eq_true, List.contains_iff_mem, or_assoc] at h1
    rcases h1 with h1
    · have h2 := List.all_eq_true.mp xo_180_c0 pc h1
      rw [h] at h2
      exact of_decide_eq_true h2
  · rw [show xo_180 pc = none from if_pos hl] at h; cases h
/-- X7_reads -/
def xo_181 (pc : Nat) : Option (Instr × Nat) := if 49 ≤ pc then none else if pc < 24 then (if pc < 10 then (if pc < 3 then (if pc < 1 then (if pc = 0 then some (.aload_n 0, 1) else none) else (if pc < 2 then (if pc = 1 then some (.iload_n 1, 1) else none) else (if pc = 2 then some (.iload_n 2, 1) else none))) else (if pc < 6 then (if pc = 3 then some (.invokevirtual 187, 3) else none) else (if pc < 9 then (if pc = 6 then some (.ifCond .eq 15, 3) else none) else (if pc = 9 then some (.aload_n 0, 1) else none)))) else (if pc < 17 then (if pc < 13 then (if pc = 10 then some (.getfield 17, 3) else none) else (if pc < 14 then (if pc = 13 then some (.aload_n 0, 1) else none) else (if pc = 14 then some (.getfield 184, 3) else none))) else (if pc < 21 then (if pc < 18 then (if pc = 17 then some (.iaload, 1) else none) else (if pc = 18 then some (.goto 5, 3) else none)) else (if pc < 23 then (if pc = 21 then some (.bipush (-6), 2) else none) else (if pc = 23 then some (.istore_n 3, 1) else none))))) else (if pc < 36 then (if pc < 29 then (if pc < 25 then (if pc = 24 then some (.aload_n 0, 1) else none) else (if pc < 26 then (if pc = 25 then some (.dup, 1) else none) else (if pc = 26 then some (.getfield 184, 3) else none))) else (if pc < 32 then (if pc < 30 then (if pc = 29 then some (.iload_n 3, 1) else none) else (if pc = 30 then some (.bipush (-6), 2) else none)) else (if pc < 35 then (if pc = 32 then some (.if_icmp .eq 7, 3) else none) else (if pc = 35 then some (.iconst 1, 1) else none)))) else (if pc < 43 then (if pc < 39 then (if pc = 36 then some (.goto 4, 3) else none) else (if pc < 40 then (if pc = 39 then some (.iconst 0, 1) else none) else (if pc = 40 then some (.invokestatic 35, 3) else none))) else (if pc < 47 then (if pc < 44 then (if pc = 43 then some (.iadd, 1) else none) else (if pc = 44 then some (.putfield 184, 3) else none)) else (if pc < 48 then (if pc = 47 then some (.iload_n 3, 1) else none) else (if pc = 48 then some (.ireturn, 1) else none)))))
set_option maxRecDepth 100000 in
theorem xo_181_c0 : ([0, 1, 2, 3, 6, 9, 10, 13, 14, 17, 18, 21, 23, 24, 25, 26, 29, 30, 32, 35, 36, 39, 40, 43, 44, 47, 48] : List Nat).all (fun pc => match xo_181 pc with | none => true | some r => decide (decode cX7_reads pc = .ok r)) = true := by decide +kernel
set_option maxRecDepth 100000 in
theorem xo_181_no : (List.range 49).all (fun pc => (xo_181 pc).isNone || (([0, 1, 2, 3, 6, 9, 10, 13, 14, 17, 18, 21, 23, 24, 25, 26, 29, 30, 32, 35, 36, 39, 40, 43, 44, 47, 48] : List Nat).contains pc)) = true := by decide +kernel
theorem xo_181_top (pc : Nat) (h : 49 ≤ pc) : xo_181 pc = none := if_pos h
theorem xo_181_ok (pc : Nat) (r : Instr × Nat) (h : xo_181 pc = some r) : decode cX7_reads pc = .ok r := by
  rcases Nat.lt_or_ge pc 49 with hl | hl
  · have h1 := List.all_eq_true.mp xo_181_no pc (List.mem_range.mpr hl)
    rw [h] at h1
    simp only [Option.isNone_some, Bool.false_or, Bool.or_eq_true, List.contains_iff_mem, or_assoc] at h1
    rcases h1 with h1
    · have h2 := List.all_eq_true.mp xo_181_c0 pc h1
      rw [h] at h2
      exact of_decide_eq_true h2
  · rw [show xo_181 pc = none from if_pos hl] at h; cases h
/-- X7_number -/
def xo_182 (pc : Nat) : Option (Instr × Nat) := if 64 ≤ pc then none else if pc < 34 then (if pc < 17 then (if pc < 8 then (if pc < 3 then (if pc < 1 then (if pc = 0 then some (.aload_n 0, 1) else none) else (if pc = 1 then some (.bipush 49, 2) else none)) else (if pc < 5 then (if pc = 3 then some (.bipush 57, 2) else none) else (if pc = 5 then some (.invokevirtual 190, 3) else none))) else (if pc < 10 then (if pc < 9 then (if pc = 8 then some (.istore_n 1, 1) else none) else (if pc = 9 then some (.iload_n 1, 1) else none)) else (if pc < 12 then (if pc = 10 then some (.bipush (-6), 2) else none) else (if pc < 15 then (if pc = 12 then some (.if_icmp .ne 6, 3) else none) else (if pc = 15 then some (.bipush (-6), 2) else none))))) else (if pc < 23 then (if pc < 19 then (if pc < 18 then (if pc = 17 then some (.ireturn, 1) else none) else (if pc = 18 then some (.iload_n 1, 1) else none)) else (if pc < 21 then (if pc = 19 then some (.bipush 48, 2) else none) else (if pc < 22 then (if pc = 21 then some (.isub, 1) else none) else (if pc = 22 then some (.istore_n 2, 1) else none)))) else (if pc < 26 then (if pc < 24 then (if pc = 23 then some (.aload_n 0, 1) else none) else (if pc = 24 then some (.bipush 48, 2) else none)) else (if pc < 28 then (if pc = 26 then some (.bipush 57, 2) else none) else (if pc < 31 then (if pc = 28 then some (.invokevirtual 187, 3) else none) else (if pc = 31 then some (.ifCond .eq 31, 3) else none)))))) else (if pc < 50 then (if pc < 42 then (if pc < 37 then (if pc < 36 then (if pc = 34 then some (.bipush 10, 2) else none) else (if pc = 36 then some (.iload_n 2, 1) else none)) else (if pc < 38 then (if pc = 37 then some (.imul, 1) else none) else (if pc < 39 then (if pc = 38 then some (.aload_n 0, 1) else none) else (if pc = 39 then some (.getfield 17, 3) else none)))) else (if pc < 46 then (if pc < 43 then (if pc = 42 then some (.aload_n 0, 1) else none) else (if pc = 43 then some (.getfield 184, 3) else none)) else (if pc < 47 then (if pc = 46 then some (.iaload, 1) else none) else (if pc < 48 then (if pc = 47 then some (.iadd, 1) else none) else (if pc = 48 then some (.bipush 48, 2) else none))))) else (if pc < 57 then (if pc < 52 then (if pc < 51 then (if pc = 50 then some (.isub, 1) else none) else (if pc = 51 then some (.istore_n 2, 1) else none)) else (if pc < 53 then (if pc = 52 then some (.aload_n 0, 1) else none) else (if pc < 54 then (if pc = 53 then some (.dup, 1) else none) else (if pc = 54 then some (.getfield 184, 3) else none)))) else (if pc < 59 then (if pc < 58 then (if pc = 57 then some (.iconst 1, 1) else none) else (if pc = 58 then some (.iadd, 1) else none)) else (if pc < 62 then (if pc = 59 then some (.putfield 184, 3) else none) else (if pc < 63 then (if pc = 62 then some (.iload_n 2, 1) else none) else (if pc = 63 then some (.ireturn, 1) else none))))))
set_option maxRecDepth 100000 in
theorem xo_182_c0 : ([0, 1, 3, 5, 8, 9, 10, 12, 15, 17, 18, 19, 21, 22, 23, 24, 26, 28, 31, 34, 36, 37, 38, 39, 42, 43, 46, 47, 48, 50, 51, 52, 53, 54, 57, 58, 59, 62, 63] : List Nat).all (fun pc => match xo_182 pc with | none => true | some r => decide (decode cX7_number pc = .ok r)) = true := by decide +kernel
set_option maxRecDepth 100000 in
theorem xo_182_no : (List.range 64).all (fun pc => (xo_182 pc).isNone || (([0, 1, 3, 5, 8, 9, 10, 12, 15, 17, 18, 19, 21, 22, 23, 24, 26, 28, 31, 34, 36, 37, 38, 39, 42, 43, 46, 47, 48, 50, 51, 52, 53, 54, 57, 58, 59, 62, 63] : List Nat).contains pc)) = true := by decide +kernel
theorem xo_182_top (pc : Nat) (h : 64 ≤ pc) : xo_182 pc = none := if_pos h
theorem xo_182_ok (pc : Nat) (r : Instr × Nat) (h : xo_182 pc = some r) : decode cX7_number pc = .ok r := by
  rcases Nat.lt_or_ge pc 64 with hl | hl
  · have h1 := List.all_eq_true.mp xo_182_no pc (List.mem_range.mpr hl)
    rw [h] at h1
    simp only [Option.isNone_some, Bool.false_or, Bool.or_eq_true, List.contains_iff_mem, or_assoc] at h1
    rcases h1 with h1
    · have h2 := List.all_eq_true.mp xo_182_c0 pc h1
      rw [h] at h2
      exact of_decide_eq_true h2
  · rw [show xo_182 pc = none from if_pos hl] at h; cases h
/-- X7_readsShed -/
def xo_183 (pc : Nat) : Option (Instr × Nat) := if 29 ≤ pc then none else if pc < 13 then (if pc < 8 then (if pc < 3 then (if pc < 1 then (if pc = 0 then some (.aload_n 0, 1) else none) else (if pc = 1 then some (.bipush 48, 2) else none)) else (if pc < 5 then (if pc = 3 then some (.bipush 50, 2) else none) else (if pc = 5 then some (.invokevirtual 190, 3) else none))) else (if pc < 10 then (if pc < 9 then (if pc = 8 then some (.istore_n 1, 1) else none) else (if pc = 9 then some (.aload_n 0, 1) else none)) else (if pc < 11 then (if pc = 10 then some (.iload_n 1, 1) else none) else (if pc = 11 then some (.bipush 48, 2) else none)))) else (if pc < 20 then (if pc < 17 then (if pc < 14 then (if pc = 13 then some (.isub, 1) else none) else (if pc = 14 then some (.putfield 193, 3) else none)) else (if pc < 18 then (if pc = 17 then some (.iload_n 1, 1) else none) else (if pc = 18 then some (.bipush (-6), 2) else none))) else (if pc < 24 then (if pc < 23 then (if pc = 20 then some (.if_icmp .eq 7, 3) else none) else (if pc = 23 then some (.iconst 1, 1) else none)) else (if pc < 27 then (if pc = 24 then some (.goto 4, 3) else none) else (if pc < 28 then (if pc = 27 then some (.iconst 0, 1) else none) else (if pc = 28 then some (.ireturn, 1) else none)))))
set_option maxRecDepth 100000 in
theorem xo_183_c0 : ([0, 1, 3, 5, 8, 9, 10, 11, 13, 14, 17, 18, 20, 23, 24, 27, 28] : List Nat).all (fun pc => match xo_183 pc with | none => true | some r => decide (decode cX7_readsShed pc = .ok r)) = true := by decide +kernel
set_option maxRecDepth 100000 in
theorem xo_183_no : (List.range 29).all (fun pc => (xo_183 pc).isNone || (([0, 1, 3, 5, 8, 9, 10, 11, 13, 14, 17, 18, 20, 23, 24, 27, 28] : List Nat).contains pc)) = true := by decide +kernel
theorem xo_183_top (pc : Nat) (h : 29 ≤ pc) : xo_183 pc = none := if_pos h
theorem xo_183_ok (pc : Nat) (r : Instr × Nat) (h : xo_183 pc = some r) : decode cX7_readsShed pc = .ok r := by
  rcases Nat.lt_or_ge pc 29 with hl | hl
  · have h1 := List.all_eq_true.mp xo_183_no pc (List.mem_range.mpr hl)
    rw [h] at h1
    simp only [Option.isNone_some, Bool.false_or, Bool.or_eq_true, List.contains_iff_mem, or_assoc] at h1
    rcases h1 with h1
    · have h2 := List.all_eq_true.mp xo_183_c0 pc h1
      rw [h] at h2
      exact of_decide_eq_true h2
  · rw [show xo_183 pc = none from if_pos hl] at h; cases h
/-- X7_readsDeed -/
def xo_184 (pc : Nat) : Option (Instr × Nat) := if 239 ≤ pc then none else if pc < 115 then (if pc < 59 then (if pc < 28 then (if pc < 13 then (if pc < 5 then (if pc < 1 then (if pc = 0 then some (.aload_n 0, 1) else none) else (if pc < 3 then (if pc = 1 then some (.bipush 115, 2) else none) else (if pc = 3 then some (.bipush 115, 2) else none))) else (if pc < 11 then (if pc < 8 then (if pc = 5 then some (.invokevirtual 187, 3) else none) else (if pc = 8 then some (.ifCond .eq 20, 3) else none)) else (if pc < 12 then (if pc = 11 then some (.aload_n 0, 1) else none) else (if pc = 12 then some (.aload_n 0, 1) else none)))) else (if pc < 20 then (if pc < 15 then (if pc = 13 then some (.bipush 115, 2) else none) else (if pc < 17 then (if pc = 15 then some (.bipush 115, 2) else none) else (if pc = 17 then some (.invokevirtual 190, 3) else none))) else (if pc < 24 then (if pc < 23 then (if pc = 20 then some (.putfield 196, 3) else none) else (if pc = 23 then some (.aload_n 0, 1) else none)) else (if pc < 27 then (if pc = 24 then some (.invokevirtual 199, 3) else none) else (if pc = 27 then some (.ireturn, 1) else none))))) else (if pc < 41 then (if pc < 33 then (if pc < 29 then (if pc = 28 then some (.aload_n 0, 1) else none) else (if pc < 31 then (if pc = 29 then some (.bipush 46, 2) else none) else (if pc = 31 then some (.bipush 46, 2) else none))) else (if pc < 39 then (if pc < 36 then (if pc = 33 then some (.invokevirtual 187, 3) else none) else (if pc = 36 then some (.ifCond .eq 38, 3) else none)) else (if pc < 40 then (if pc = 39 then some (.aload_n 0, 1) else none) else (if pc = 40 then some (.aload_n 0, 1) else none)))) else (if pc < 51 then (if pc < 45 then (if pc < 43 then (if pc = 41 then some (.bipush 46, 2) else none) else (if pc = 43 then some (.bipush 46, 2) else none)) else (if pc < 48 then (if pc = 45 then some (.invokevirtual 190, 3) else none) else (if pc = 48 then some (.putfield 196, 3) else none))) else (if pc < 53 then (if pc < 52 then (if pc = 51 then some (.aload_n 0, 1) else none) else (if pc = 52 then some (.aload_n 0, 1) else none)) else (if pc < 56 then (if pc = 53 then some (.invokevirtual 203, 3) else none) else (if pc = 56 then some (.putfield 207, 3) else none)))))) else (if pc < 86 then (if pc < 73 then (if pc < 65 then (if pc < 60 then (if pc = 59 then some (.aload_n 0, 1) else none) else (if pc < 63 then (if pc = 60 then some (.getfield 207, 3) else none) else (if pc = 63 then some (.bipush (-6), 2) else none))) else (if pc < 69 then (if pc < 68 then (if pc = 65 then some (.if_icmp .eq 7, 3) else none) else (if pc = 68 then some (.iconst 1, 1) else none)) else (if pc < 72 then (if pc = 69 then some (.goto 4, 3) else none) else (if pc = 72 then some (.iconst 0, 1) else none)))) else (if pc < 78 then (if pc < 75 then (if pc < 74 then (if pc = 73 then some (.ireturn, 1) else none) else (if pc = 74 then some (.aload_n 0, 1) else none)) else (if pc < 76 then (if pc = 75 then some (.aload_n 0, 1) else none) else (if pc = 76 then some (.bipush 65, 2) else none))) else (if pc < 83 then (if pc < 80 then (if pc = 78 then some (.bipush 84, 2) else none) else (if pc = 80 then some (.invokevirtual 190, 3) else none)) else (if pc < 85 then (if pc = 83 then some (.bipush 65, 2) else none) else (if pc = 85 then some (.isub, 1) else none))))) else (if pc < 99 then (if pc < 93 then (if pc < 89 then (if pc = 86 then some (.putfield 210, 3) else none) else (if pc < 90 then (if pc = 89 then some (.aload_n 0, 1) else none) else (if pc = 90 then some (.getfield 210, 3) else none))) else (if pc < 97 then (if pc < 96 then (if pc = 93 then some (.ifCond .ge 5, 3) else none) else (if pc = 96 then some (.iconst 0, 1) else none)) else (if pc < 98 then (if pc = 97 then some (.ireturn, 1) else none) else (if pc = 98 then some (.aload_n 0, 1) else none)))) else (if pc < 107 then (if pc < 102 then (if pc < 100 then (if pc = 99 then some (.aload_n 0, 1) else none) else (if pc = 100 then some (.bipush 63, 2) else none)) else (if pc < 104 then (if pc = 102 then some (.bipush 63, 2) else none) else (if pc = 104 then some (.invokevirtual 187, 3) else none))) else (if pc < 111 then (if pc < 110 then (if pc = 107 then some (.ifCond .ne 47, 3) else none) else (if pc = 110 then some (.aload_n 0, 1) else none)) else (if pc < 113 then (if pc = 111 then some (.bipush 112, 2) else none) else (if pc = 113 then some (.bipush 112, 2) else none))))))) else (if pc < 180 then (if pc < 146 then (if pc < 132 then (if pc < 122 then (if pc < 118 then (if pc = 115 then some (.invokevirtual 187, 3) else none) else (if pc < 121 then (if pc = 118 then some (.ifCond .ne 36, 3) else none) else (if pc = 121 then some (.aload_n 0, 1) else none))) else (if pc < 126 then (if pc < 124 then (if pc = 122 then some (.bipush 114, 2) else none) else (if pc = 124 then some (.bipush 114, 2) else none)) else (if pc < 129 then (if pc = 126 then some (.invokevirtual 187, 3) else none) else (if pc = 129 then some (.ifCond .ne 25, 3) else none)))) else (if pc < 137 then (if pc < 133 then (if pc = 132 then some (.aload_n 0, 1) else none) else (if pc < 135 then (if pc = 133 then some (.bipush 97, 2) else none) else (if pc = 135 then some (.bipush 97, 2) else none))) else (if pc < 143 then (if pc < 140 then (if pc = 137 then some (.invokevirtual 187, 3) else none) else (if pc = 140 then some (.ifCond .ne 14, 3) else none)) else (if pc < 144 then (if pc = 143 then some (.aload_n 0, 1) else none) else (if pc = 144 then some (.bipush 102, 2) else none))))) else (if pc < 162 then (if pc < 154 then (if pc < 148 then (if pc = 146 then some (.bipush 102, 2) else none) else (if pc < 151 then (if pc = 148 then some (.invokevirtual 187, 3) else none) else (if pc = 151 then some (.ifCond .eq 14, 3) else none))) else (if pc < 157 then (if pc < 155 then (if pc = 154 then some (.aload_n 0, 1) else none) else (if pc = 155 then some (.bipush 33, 2) else none)) else (if pc < 159 then (if pc = 157 then some (.bipush 126, 2) else none) else (if pc = 159 then some (.invokevirtual 190, 3) else none)))) else (if pc < 171 then (if pc < 167 then (if pc < 165 then (if pc = 162 then some (.goto 5, 3) else none) else (if pc = 165 then some (.bipush (-6), 2) else none)) else (if pc < 170 then (if pc = 167 then some (.putfield 196, 3) else none) else (if pc = 170 then some (.aload_n 0, 1) else none))) else (if pc < 176 then (if pc < 174 then (if pc = 171 then some (.getfield 196, 3) else none) else (if pc = 174 then some (.bipush 63, 2) else none)) else (if pc < 179 then (if pc = 176 then some (.if_icmp .eq 18, 3) else none) else (if pc = 179 then some (.aload_n 0, 1) else none)))))) else (if pc < 211 then (if pc < 194 then (if pc < 188 then (if pc < 183 then (if pc = 180 then some (.getfield 196, 3) else none) else (if pc < 185 then (if pc = 183 then some (.bipush (-6), 2) else none) else (if pc = 185 then some (.if_icmp .eq 7, 3) else none))) else (if pc < 192 then (if pc < 189 then (if pc = 188 then some (.iconst 1, 1) else none) else (if pc = 189 then some (.goto 4, 3) else none)) else (if pc < 193 then (if pc = 192 then some (.iconst 0, 1) else none) else (if pc = 193 then some (.ireturn, 1) else none)))) else (if pc < 202 then (if pc < 198 then (if pc < 195 then (if pc = 194 then some (.aload_n 0, 1) else none) else (if pc = 195 then some (.invokevirtual 199, 3) else none)) else (if pc < 201 then (if pc = 198 then some (.ifCond .eq 16, 3) else none) else (if pc = 201 then some (.aload_n 0, 1) else none))) else (if pc < 206 then (if pc < 204 then (if pc = 202 then some (.bipush 58, 2) else none) else (if pc = 204 then some (.bipush 58, 2) else none)) else (if pc < 209 then (if pc = 206 then some (.invokevirtual 190, 3) else none) else (if pc = 209 then some (.bipush (-6), 2) else none))))) else (if pc < 224 then (if pc < 216 then (if pc < 214 then (if pc = 211 then some (.if_icmp .ne 5, 3) else none) else (if pc < 215 then (if pc = 214 then some (.iconst 0, 1) else none) else (if pc = 215 then some (.ireturn, 1) else none))) else (if pc < 218 then (if pc < 217 then (if pc = 216 then some (.aload_n 0, 1) else none) else (if pc = 217 then some (.aload_n 0, 1) else none)) else (if pc < 221 then (if pc = 218 then some (.invokevirtual 203, 3) else none) else (if pc = 221 then some (.putfield 207, 3) else none)))) else (if pc < 233 then (if pc < 228 then (if pc < 225 then (if pc = 224 then some (.aload_n 0, 1) else none) else (if pc = 225 then some (.getfield 207, 3) else none)) else (if pc < 230 then (if pc = 228 then some (.bipush (-6), 2) else none) else (if pc = 230 then some (.if_icmp .eq 7, 3) else none))) else (if pc < 237 then (if pc < 234 then (if pc = 233 then some (.iconst 1, 1) else none) else (if pc = 234 then some (.goto 4, 3) else none)) else (if pc < 238 then (if pc = 237 then some (.iconst 0, 1) else none) else (if pc = 238 then some (.ireturn, 1) else none)))))))
set_option maxRecDepth 100000 in
theorem xo_184_c0 : ([0, 1, 3, 5, 8, 11, 12, 13, 15, 17, 20, 23, 24, 27, 28, 29, 31, 33, 36, 39] : List Nat).all (fun pc => match xo_184 pc with | none => true | some r => decide (decode cX7_readsDeed pc = .ok r)) = true := by decide +kernel
set_option maxRecDepth 100000 in
theorem xo_184_c1 : ([40, 41, 43, 45, 48, 51, 52, 53, 56, 59, 60, 63, 65, 68, 69, 72, 73, 74, 75, 76] : List Nat).all (fun pc => match xo_184 pc with | none => true | some r => decide (decode cX7_readsDeed pc = .ok r)) = true := by decide +kernel
set_option maxRecDepth 100000 in
theorem xo_184_c2 : ([78, 80, 83, 85, 86, 89, 90, 93, 96, 97, 98, 99, 100, 102, 104, 107, 110, 111, 113, 115] : List Nat).all (fun pc => match xo_184 pc with | none => true | some r => decide (decode cX7_readsDeed pc = .ok r)) = true := by decide +kernel
set_option maxRecDepth 100000 in
theorem xo_184_c3 : ([118, 121, 122, 124, 126, 129, 132, 133, 135, 137, 140, 143, 144, 146, 148, 151, 154, 155, 157, 159] : List Nat).all (fun pc => match xo_184 pc with | none => true | some r => decide (decode cX7_readsDeed pc = .ok r)) = true := by decide +kernel
set_option maxRecDepth 100000 in
theorem xo_184_c4 : ([162, 165, 167, 170, 171, 174, 176, 179, 180, 183, 185, 188, 189, 192, 193, 194, 195, 198, 201, 202] : List Nat).all (fun pc => match xo_184 pc with | none => true | some r => decide (decode cX7_readsDeed pc = .ok r)) = true := by decide +kernel
set_option maxRecDepth 100000 in
theorem xo_184_c5 : ([204, 206, 209, 211, 214, 215, 216, 217, 218, 221, 224, 225, 228, 230, 233, 234, 237, 238] : List Nat).all (fun pc => match xo_184 pc with | none => true | some r => decide (decode cX7_readsDeed pc = .ok r)) = true := by decide +kernel
set_option maxRecDepth 100000 in
theorem xo_184_no : (List.range 239).all (fun pc => (xo_184 pc).isNone || (([0, 1, 3, 5, 8, 11, 12, 13, 15, 17, 20, 23, 24, 27, 28, 29, 31, 33, 36, 39] : List Nat).contains pc || ([40, 41, 43, 45, 48, 51, 52, 53, 56, 59, 60, 63, 65, 68, 69, 72, 73, 74, 75, 76] : List Nat).contains pc || ([78, 80, 83, 85, 86, 89, 90, 93, 96, 97, 98, 99, 100, 102, 104, 107, 110, 111, 113, 115] : List Nat).contains pc || ([118, 121, 122, 124, 126, 129, 132, 133, 135, 137, 140, 143, 144, 146, 148, 151, 154, 155, 157, 159] : List Nat).contains pc || ([162, 165, 167, 170, 171, 174, 176, 179, 180, 183, 185, 188, 189, 192, 193, 194, 195, 198, 201, 202] : List Nat).contains pc || ([204, 206, 209, 211, 214, 215, 216, 217, 218, 221, 224, 225, 228, 230, 233, 234, 237, 238] : List Nat).contains pc)) = true := by decide +kernel
theorem xo_184_top (pc : Nat) (h : 239 ≤ pc) : xo_184 pc = none := if_pos h
theorem xo_184_ok (pc : Nat) (r : Instr × Nat) (h : xo_184 pc = some r) : decode cX7_readsDeed pc = .ok r := by
  rcases Nat.lt_or_ge pc 239 with hl | hl
  · have h1 := List.all_eq_true.mp xo_184_no pc (List.mem_range.mpr hl)
    rw [h] at h1
    simp only [Option.isNone_some, Bool.false_or, Bool.or_eq_true, List.contains_iff_mem, or_assoc] at h1
    rcases h1 with h1 | h1 | h1 | h1 | h1 | h1
    · have h2 := List.all_eq_true.mp xo_184_c0 pc h1
      rw [h] at h2
      exact of_decide_eq_true h2
    · have h2 := List.all_eq_true.mp xo_184_c1 pc h1
      rw [h] at h2
      exact of_decide_eq_true h2
    · have h2 := List.all_eq_true.mp xo_184_c2 pc h1
      rw [h] at h2
      exact of_decide_eq_true h2
    · have h2 := List.all_eq_true.mp xo_184_c3 pc h1
      rw [h] at h2
      exact of_decide_eq_true h2
    · have h2 := List.all_eq_true.mp xo_184_c4 pc h1
      rw [h] at h2
      exact of_decide_eq_true h2
    · have h2 := List.all_eq_true.mp xo_184_c5 pc h1
      rw [h] at h2
      exact of_decide_eq_true h2
  · rw [show xo_184 pc = none from if_pos hl] at h; cases h
/-- X7_fault -/
def xo_185 (pc : Nat) : Option (Instr × Nat) := if 66 ≤ pc then none else if pc < 31 then (if pc < 12 then (if pc < 6 then (if pc < 2 then (if pc < 1 then (if pc = 0 then some (.aload_n 0, 1) else none) else (if pc = 1 then some (.iconst 0, 1) else none)) else (if pc < 5 then (if pc = 2 then some (.putfield 184, 3) else none) else (if pc = 5 then some (.iconst 1, 1) else none))) else (if pc < 8 then (if pc < 7 then (if pc = 6 then some (.istore_n 1, 1) else none) else (if pc = 7 then some (.iload_n 1, 1) else none)) else (if pc < 11 then (if pc = 8 then some (.ifCond .eq 37, 3) else none) else (if pc = 11 then some (.aload_n 0, 1) else none)))) else (if pc < 22 then (if pc < 18 then (if pc < 15 then (if pc = 12 then some (.invokevirtual 213, 3) else none) else (if pc = 15 then some (.ifCond .ne 8, 3) else none)) else (if pc < 19 then (if pc = 18 then some (.aload_n 0, 1) else none) else (if pc = 19 then some (.getfield 184, 3) else none))) else (if pc < 24 then (if pc < 23 then (if pc = 22 then some (.ireturn, 1) else none) else (if pc = 23 then some (.aload_n 0, 1) else none)) else (if pc < 26 then (if pc = 24 then some (.bipush 59, 2) else none) else (if pc < 28 then (if pc = 26 then some (.bipush 59, 2) else none) else (if pc = 28 then some (.invokevirtual 190, 3) else none)))))) else (if pc < 46 then (if pc < 40 then (if pc < 36 then (if pc < 33 then (if pc = 31 then some (.bipush (-6), 2) else none) else (if pc = 33 then some (.if_icmp .eq 7, 3) else none)) else (if pc < 37 then (if pc = 36 then some (.iconst 1, 1) else none) else (if pc = 37 then some (.goto 4, 3) else none))) else (if pc < 42 then (if pc < 41 then (if pc = 40 then some (.iconst 0, 1) else none) else (if pc = 41 then some (.istore_n 1, 1) else none)) else (if pc < 45 then (if pc = 42 then some (.goto (-35), 3) else none) else (if pc = 45 then some (.aload_n 0, 1) else none)))) else (if pc < 56 then (if pc < 50 then (if pc < 49 then (if pc = 46 then some (.getfield 184, 3) else none) else (if pc = 49 then some (.aload_n 0, 1) else none)) else (if pc < 53 then (if pc = 50 then some (.getfield 168, 3) else none) else (if pc = 53 then some (.if_icmp .ne 8, 3) else none))) else (if pc < 61 then (if pc < 58 then (if pc = 56 then some (.bipush (-6), 2) else none) else (if pc = 58 then some (.goto 7, 3) else none)) else (if pc < 62 then (if pc = 61 then some (.aload_n 0, 1) else none) else (if pc < 65 then (if pc = 62 then some (.getfield 184, 3) else none) else (if pc = 65 then some (.ireturn, 1) else none))))))
set_option maxRecDepth 100000 in
theorem xo_185_c0 : ([0, 1, 2, 5, 6, 7, 8, 11, 12, 15, 18, 19, 22, 23, 24, 26, 28, 31, 33, 36, 37, 40, 41, 42, 45, 46, 49, 50, 53, 56, 58, 61, 62, 65] : List Nat).all (fun pc => match xo_185 pc with | none => true | some r => decide (decode cX7_fault pc = .ok r)) = true := by decide +kernel
set_option maxRecDepth 100000 in
theorem xo_185_no : (List.range 66).all (fun pc => (xo_185 pc).isNone || (([0, 1, 2, 5, 6, 7, 8, 11, 12, 15, 18, 19, 22, 23, 24, 26, 28, 31, 33, 36, 37, 40, 41, 42, 45, 46, 49, 50, 53, 56, 58, 61, 62, 65] : List Nat).contains pc)) = true := by decide +kernel
theorem xo_185_top (pc : Nat) (h : 66 ≤ pc) : xo_185 pc = none := if_pos h
theorem xo_185_ok (pc : Nat) (r : Instr × Nat) (h : xo_185 pc = some r) : decode cX7_fault pc = .ok r := by
  rcases Nat.lt_or_ge pc 66 with hl | hl
  · have h1 := List.all_eq_true.mp xo_185_no pc (List.mem_range.mpr hl)
    rw [h] at h1
    simp only [Option.isNone_some, Bool.false_or, Bool.or_eq_true, List.contains_iff_mem, or_assoc] at h1
    rcases h1 with h1
    · have h2 := List.all_eq_true.mp xo_185_c0 pc h1
      rw [h] at h2
      exact of_decide_eq_true h2
  · rw [show xo_185 pc = none from if_pos hl] at h; cases h
/-- X7_deedError -/
def xo_186 (pc : Nat) : Option (Instr × Nat) := if 119 ≤ pc then none else if pc < 90 then (if pc < 73 then (if pc < 65 then (if pc < 4 then (if pc < 1 then (if pc = 0 then some (.aload_n 0, 1) else none) else (if pc = 1 then some (.getfield 196, 3) else none)) else (if pc < 64 then (if pc = 4 then some (.lookupswitch 113 #[(46, 104), (63, 60), (97, 86), (102, 95), (112, 77), (114, 86)], 60) else none) else (if pc = 64 then some (.aload_n 0, 1) else none))) else (if pc < 69 then (if pc < 66 then (if pc = 65 then some (.aload_n 0, 1) else none) else (if pc = 66 then some (.getfield 210, 3) else none)) else (if pc < 70 then (if pc = 69 then some (.aload_n 0, 1) else none) else (if pc = 70 then some (.getfield 193, 3) else none)))) else (if pc < 81 then (if pc < 77 then (if pc < 74 then (if pc = 73 then some (.aload_n 0, 1) else none) else (if pc = 74 then some (.getfield 207, 3) else none)) else (if pc < 80 then (if pc = 77 then some (.invokevirtual 117, 3) else none) else (if pc = 80 then some (.ireturn, 1) else none))) else (if pc < 83 then (if pc < 82 then (if pc = 81 then some (.aload_n 0, 1) else none) else (if pc = 82 then some (.aload_n 0, 1) else none)) else (if pc < 86 then (if pc = 83 then some (.getfield 210, 3) else none) else (if pc < 89 then (if pc = 86 then some (.invokevirtual 127, 3) else none) else (if pc = 89 then some (.ireturn, 1) else none)))))) else (if pc < 104 then (if pc < 98 then (if pc < 92 then (if pc < 91 then (if pc = 90 then some (.aload_n 0, 1) else none) else (if pc = 91 then some (.aload_n 0, 1) else none)) else (if pc < 95 then (if pc = 92 then some (.getfield 210, 3) else none) else (if pc = 95 then some (.invokevirtual 133, 3) else none))) else (if pc < 100 then (if pc < 99 then (if pc = 98 then some (.ireturn, 1) else none) else (if pc = 99 then some (.aload_n 0, 1) else none)) else (if pc < 101 then (if pc = 100 then some (.aload_n 0, 1) else none) else (if pc = 101 then some (.getfield 210, 3) else none)))) else (if pc < 110 then (if pc < 108 then (if pc < 107 then (if pc = 104 then some (.invokevirtual 142, 3) else none) else (if pc = 107 then some (.ireturn, 1) else none)) else (if pc < 109 then (if pc = 108 then some (.aload_n 0, 1) else none) else (if pc = 109 then some (.aload_n 0, 1) else none))) else (if pc < 116 then (if pc < 113 then (if pc = 110 then some (.getfield 207, 3) else none) else (if pc = 113 then some (.invokevirtual 153, 3) else none)) else (if pc < 117 then (if pc = 116 then some (.ireturn, 1) else none) else (if pc < 118 then (if pc = 117 then some (.iconst 0, 1) else none) else (if pc = 118 then some (.ireturn, 1) else none))))))
set_option maxRecDepth 100000 in
theorem xo_186_c0 : ([0, 1, 4, 64, 65, 66, 69, 70, 73, 74, 77, 80, 81, 82, 83, 86, 89, 90, 91, 92, 95, 98, 99, 100, 101, 104, 107, 108, 109, 110, 113, 116, 117, 118] : List Nat).all (fun pc => match xo_186 pc with | none => true | some r => decide (decode cX7_deedError pc = .ok r)) = true := by decide +kernel
set_option maxRecDepth 100000 in
theorem xo_186_no : (List.range 119).all (fun pc => (xo_186 pc).isNone || (([0, 1, 4, 64, 65, 66, 69, 70, 73, 74, 77, 80, 81, 82, 83, 86, 89, 90, 91, 92, 95, 98, 99, 100, 101, 104, 107, 108, 109, 110, 113, 116, 117, 118] : List Nat).contains pc)) = true := by decide +kernel
theorem xo_186_top (pc : Nat) (h : 119 ≤ pc) : xo_186 pc = none := if_pos h
theorem xo_186_ok (pc : Nat) (r : Instr × Nat) (h : xo_186 pc = some r) : decode cX7_deedError pc = .ok r := by
  rcases Nat.lt_or_ge pc 119 with hl | hl
  · have h1 := List.all_eq_true.mp xo_186_no pc (List.mem_range.mpr hl)
    rw [h] at h1
    simp only [Option.isNone_some, Bool.false_or, Bool.or_eq_true, List.contains_iff_mem, or_assoc] at h1
    rcases h1 with h1
    · have h2 := List.all_eq_true.mp xo_186_c0 pc h1
      rw [h] at h2
      exact of_decide_eq_true h2
  · rw [show xo_186 pc = none from if_pos hl] at h; cases h
/-- X7_does -/
def xo_187 (pc : Nat) : Option (Instr × Nat) := if 138 ≤ pc then none else if pc < 99 then (if pc < 78 then (if pc < 66 then (if pc < 4 then (if pc < 1 then (if pc = 0 then some (.aload_n 0, 1) else none) else (if pc = 1 then some (.getfield 196, 3) else none)) else (if pc < 64 then (if pc = 4 then some (.lookupswitch 124 #[(46, 114), (63, 60), (97, 96), (102, 105), (112, 78), (114, 87)], 60) else none) else (if pc < 65 then (if pc = 64 then some (.aload_n 0, 1) else none) else (if pc = 65 then some (.iconst 0, 1) else none)))) else (if pc < 71 then (if pc < 67 then (if pc = 66 then some (.aload_n 0, 1) else none) else (if pc < 70 then (if pc = 67 then some (.getfield 210, 3) else none) else (if pc = 70 then some (.aload_n 0, 1) else none))) else (if pc < 74 then (if pc = 71 then some (.getfield 193, 3) else none) else (if pc < 75 then (if pc = 74 then some (.aload_n 0, 1) else none) else (if pc = 75 then some (.getfield 207, 3) else none))))) else (if pc < 87 then (if pc < 82 then (if pc < 81 then (if pc = 78 then some (.invokevirtual 120, 3) else none) else (if pc = 81 then some (.ireturn, 1) else none)) else (if pc < 83 then (if pc = 82 then some (.aload_n 0, 1) else none) else (if pc < 84 then (if pc = 83 then some (.aload_n 0, 1) else none) else (if pc = 84 then some (.getfield 210, 3) else none)))) else (if pc < 92 then (if pc < 90 then (if pc = 87 then some (.invokevirtual 130, 3) else none) else (if pc < 91 then (if pc = 90 then some (.ireturn, 1) else none) else (if pc = 91 then some (.aload_n 0, 1) else none))) else (if pc < 93 then (if pc = 92 then some (.aload_n 0, 1) else none) else (if pc < 96 then (if pc = 93 then some (.getfield 210, 3) else none) else (if pc = 96 then some (.invokevirtual 136, 3) else none)))))) else (if pc < 118 then (if pc < 108 then (if pc < 101 then (if pc < 100 then (if pc = 99 then some (.ireturn, 1) else none) else (if pc = 100 then some (.aload_n 0, 1) else none)) else (if pc < 102 then (if pc = 101 then some (.aload_n 0, 1) else none) else (if pc < 105 then (if pc = 102 then some (.getfield 210, 3) else none) else (if pc = 105 then some (.invokevirtual 139, 3) else none)))) else (if pc < 111 then (if pc < 109 then (if pc = 108 then some (.ireturn, 1) else none) else (if pc < 110 then (if pc = 109 then some (.aload_n 0, 1) else none) else (if pc = 110 then some (.aload_n 0, 1) else none))) else (if pc < 114 then (if pc = 111 then some (.getfield 210, 3) else none) else (if pc < 117 then (if pc = 114 then some (.invokevirtual 145, 3) else none) else (if pc = 117 then some (.ireturn, 1) else none))))) else (if pc < 128 then (if pc < 121 then (if pc < 119 then (if pc = 118 then some (.aload_n 0, 1) else none) else (if pc < 120 then (if pc = 119 then some (.iconst 0, 1) else none) else (if pc = 120 then some (.aload_n 0, 1) else none))) else (if pc < 124 then (if pc = 121 then some (.getfield 207, 3) else none) else (if pc < 127 then (if pc = 124 then some (.invokevirtual 156, 3) else none) else (if pc = 127 then some (.ireturn, 1) else none)))) else (if pc < 131 then (if pc < 129 then (if pc = 128 then some (.aload_n 0, 1) else none) else (if pc < 130 then (if pc = 129 then some (.iconst 0, 1) else none) else (if pc = 130 then some (.aload_n 0, 1) else none))) else (if pc < 134 then (if pc = 131 then some (.getfield 193, 3) else none) else (if pc < 137 then (if pc = 134 then some (.invokevirtual 148, 3) else none) else (if pc = 137 then some (.ireturn, 1) else none))))))
set_option maxRecDepth 100000 in
theorem xo_187_c0 : ([0, 1, 4, 64, 65, 66, 67, 70, 71, 74, 75, 78, 81, 82, 83, 84, 87, 90, 91, 92, 93, 96, 99, 100, 101, 102, 105, 108, 109, 110, 111, 114, 117, 118, 119, 120] : List Nat).all (fun pc => match xo_187 pc with | none => true | some r => decide (decode cX7_does pc = .ok r)) = true := by decide +kernel
set_option maxRecDepth 100000 in
theorem xo_187_c1 : ([121, 124, 127, 128, 129, 130, 131, 134, 137] : List Nat).all (fun pc => match xo_187 pc with | none => true | some r => decide (decode cX7_does pc = .ok r)) = true := by decide +kernel
set_option maxRecDepth 100000 in
theorem xo_187_no : (List.range 138).all (fun pc => (xo_187 pc).isNone || (([0, 1, 4, 64, 65, 66, 67, 70, 71, 74, 75, 78, 81, 82, 83, 84, 87, 90, 91, 92, 93, 96, 99, 100, 101, 102, 105, 108, 109, 110, 111, 114, 117, 118, 119, 120] : List Nat).contains pc || ([121, 124, 127, 128, 129, 130, 131, 134, 137] : List Nat).contains pc)) = true := by decide +kernel
theorem xo_187_top (pc : Nat) (h : 138 ≤ pc) : xo_187 pc = none := if_pos h
theorem xo_187_ok (pc : Nat) (r : Instr × Nat) (h : xo_187 pc = some r) : decode cX7_does pc = .ok r := by
  rcases Nat.lt_or_ge pc 138 with hl | hl
  · have h1 := List.all_eq_true.mp xo_187_no pc (List.mem_range.mpr hl)
    rw [h] at h1
    simp only [Option.isNone_some, Bool.false_or, Bool.or_eq_true, List.contains_iff_mem, or_assoc] at h1
    rcases h1 with h1 | h1
    · have h2 := List.all_eq_true.mp xo_187_c0 pc h1
      rw [h] at h2
      exact of_decide_eq_true h2
    · have h2 := List.all_eq_true.mp xo_187_c1 pc h1
      rw [h] at h2
      exact of_decide_eq_true h2
  · rw [show xo_187 pc = none from if_pos hl] at h; cases h
/-- X7_run -/
def xo_188 (pc : Nat) : Option (Instr × Nat) := if 100 ≤ pc then none else if pc < 49 then (if pc < 23 then (if pc < 12 then (if pc < 6 then (if pc < 1 then (if pc = 0 then some (.aload_n 0, 1) else none) else (if pc < 4 then (if pc = 1 then some (.invokevirtual 216, 3) else none) else (if pc = 4 then some (.bipush (-6), 2) else none))) else (if pc < 9 then (if pc = 6 then some (.if_icmp .eq 6, 3) else none) else (if pc < 11 then (if pc = 9 then some (.bipush (-3), 2) else none) else (if pc = 11 then some (.ireturn, 1) else none)))) else (if pc < 17 then (if pc < 13 then (if pc = 12 then some (.aload_n 0, 1) else none) else (if pc < 16 then (if pc = 13 then some (.invokevirtual 114, 3) else none) else (if pc = 16 then some (.aload_n 0, 1) else none))) else (if pc < 21 then (if pc < 18 then (if pc = 17 then some (.iconst 0, 1) else none) else (if pc = 18 then some (.putfield 184, 3) else none)) else (if pc < 22 then (if pc = 21 then some (.iconst 0, 1) else none) else (if pc = 22 then some (.istore_n 1, 1) else none))))) else (if pc < 36 then (if pc < 26 then (if pc < 24 then (if pc = 23 then some (.iconst 1, 1) else none) else (if pc < 25 then (if pc = 24 then some (.istore_n 2, 1) else none) else (if pc = 25 then some (.iload_n 2, 1) else none))) else (if pc < 30 then (if pc < 29 then (if pc = 26 then some (.ifCond .eq 67, 3) else none) else (if pc = 29 then some (.aload_n 0, 1) else none)) else (if pc < 33 then (if pc = 30 then some (.invokevirtual 213, 3) else none) else (if pc = 33 then some (.ifCond .eq 14, 3) else none)))) else (if pc < 43 then (if pc < 37 then (if pc = 36 then some (.aload_n 0, 1) else none) else (if pc < 40 then (if pc = 37 then some (.invokevirtual 219, 3) else none) else (if pc = 40 then some (.ifCond .ne 7, 3) else none))) else (if pc < 47 then (if pc < 44 then (if pc = 43 then some (.iconst 1, 1) else none) else (if pc = 44 then some (.goto 4, 3) else none)) else (if pc < 48 then (if pc = 47 then some (.iconst 0, 1) else none) else (if pc = 48 then some (.istore_n 3, 1) else none)))))) else (if pc < 74 then (if pc < 64 then (if pc < 54 then (if pc < 50 then (if pc = 49 then some (.iload_n 3, 1) else none) else (if pc < 53 then (if pc = 50 then some (.ifCond .eq 10, 3) else none) else (if pc = 53 then some (.aload_n 0, 1) else none))) else (if pc < 60 then (if pc < 57 then (if pc = 54 then some (.invokevirtual 222, 3) else none) else (if pc = 57 then some (.goto 5, 3) else none)) else (if pc < 62 then (if pc = 60 then some (.bipush (-6), 2) else none) else (if pc = 62 then some (.istore 4, 2) else none)))) else (if pc < 69 then (if pc < 65 then (if pc = 64 then some (.iload_n 1, 1) else none) else (if pc < 66 then (if pc = 65 then some (.iload_n 3, 1) else none) else (if pc = 66 then some (.invokestatic 35, 3) else none))) else (if pc < 71 then (if pc < 70 then (if pc = 69 then some (.iadd, 1) else none) else (if pc = 70 then some (.istore_n 1, 1) else none)) else (if pc < 72 then (if pc = 71 then some (.aload_n 0, 1) else none) else (if pc = 72 then some (.bipush 59, 2) else none))))) else (if pc < 89 then (if pc < 81 then (if pc < 76 then (if pc = 74 then some (.bipush 59, 2) else none) else (if pc < 79 then (if pc = 76 then some (.invokevirtual 190, 3) else none) else (if pc = 79 then some (.bipush (-6), 2) else none))) else (if pc < 85 then (if pc < 84 then (if pc = 81 then some (.if_icmp .eq 7, 3) else none) else (if pc = 84 then some (.iconst 1, 1) else none)) else (if pc < 88 then (if pc = 85 then some (.goto 4, 3) else none) else (if pc = 88 then some (.iconst 0, 1) else none)))) else (if pc < 94 then (if pc < 90 then (if pc = 89 then some (.istore_n 2, 1) else none) else (if pc < 93 then (if pc = 90 then some (.goto (-65), 3) else none) else (if pc = 93 then some (.aload_n 0, 1) else none))) else (if pc < 98 then (if pc < 95 then (if pc = 94 then some (.iconst 0, 1) else none) else (if pc = 95 then some (.putfield 168, 3) else none)) else (if pc < 99 then (if pc = 98 then some (.iload_n 1, 1) else none) else (if pc = 99 then some (.ireturn, 1) else none))))))
set_option maxRecDepth 100000 in
theorem xo_188_c0 : ([0, 1, 4, 6, 9, 11, 12, 13, 16, 17, 18, 21, 22, 23, 24, 25, 26, 29, 30, 33, 36, 37, 40, 43, 44, 47, 48, 49, 50, 53, 54, 57, 60, 62, 64, 65, 66, 69, 70, 71, 72, 74, 76, 79, 81, 84, 85, 88, 89, 90] : List Nat).all (fun pc => match xo_188 pc with | none => true | some r => decide (decode cX7_run pc = .ok r)) = true := by decide +kernel
set_option maxRecDepth 100000 in
theorem xo_188_c1 : ([93, 94, 95, 98, 99] : List Nat).all (fun pc => match xo_188 pc with | none => true | some r => decide (decode cX7_run pc = .ok r)) = true := by decide +kernel
set_option maxRecDepth 100000 in
theorem xo_188_no : (List.range 100).all (fun pc => (xo_188 pc).isNone || (([0, 1, 4, 6, 9, 11, 12, 13, 16, 17, 18, 21, 22, 23, 24, 25, 26, 29, 30, 33, 36, 37, 40, 43, 44, 47, 48, 49, 50, 53, 54, 57, 60, 62, 64, 65, 66, 69, 70, 71, 72, 74, 76, 79, 81, 84, 85, 88, 89, 90] : List Nat).contains pc || ([93, 94, 95, 98, 99] : List Nat).contains pc)) = true := by decide +kernel
theorem xo_188_top (pc : Nat) (h : 100 ≤ pc) : xo_188 pc = none := if_pos h
theorem xo_188_ok (pc : Nat) (r : Instr × Nat) (h : xo_188 pc = some r) : decode cX7_run pc = .ok r := by
  rcases Nat.lt_or_ge pc 100 with hl | hl
  · have h1 := List.all_eq_true.mp xo_188_no pc (List.mem_range.mpr hl)
    rw [h] at h1
    simp only [Option.isNone_some, Bool.false_or, Bool.or_eq_true, List.contains_iff_mem, or_assoc] at h1
    rcases h1 with h1 | h1
    · have h2 := List.all_eq_true.mp xo_188_c0 pc h1
      rw [h] at h2
      exact of_decide_eq_true h2
    · have h2 := List.all_eq_true.mp xo_188_c1 pc h1
      rw [h] at h2
      exact of_decide_eq_true h2
  · rw [show xo_188 pc = none from if_pos hl] at h; cases h
/-- X7_undo -/
def xo_189 (pc : Nat) : Option (Instr × Nat) := if 34 ≤ pc then none else if pc < 16 then (if pc < 9 then (if pc < 4 then (if pc < 1 then (if pc = 0 then some (.aload_n 0, 1) else none) else (if pc = 1 then some (.getfield 24, 3) else none)) else (if pc < 7 then (if pc = 4 then some (.ifCond .ne 6, 3) else none) else (if pc = 7 then some (.bipush (-5), 2) else none))) else (if pc < 11 then (if pc < 10 then (if pc = 9 then some (.ireturn, 1) else none) else (if pc = 10 then some (.aload_n 0, 1) else none)) else (if pc < 12 then (if pc = 11 then some (.aload_n 0, 1) else none) else (if pc < 15 then (if pc = 12 then some (.getfield 24, 3) else none) else (if pc = 15 then some (.iconst 0, 1) else none))))) else (if pc < 25 then (if pc < 20 then (if pc < 19 then (if pc = 16 then some (.invokevirtual 28, 3) else none) else (if pc = 19 then some (.aload_n 0, 1) else none)) else (if pc < 21 then (if pc = 20 then some (.dup, 1) else none) else (if pc < 24 then (if pc = 21 then some (.getfield 24, 3) else none) else (if pc = 24 then some (.iconst 1, 1) else none)))) else (if pc < 29 then (if pc < 26 then (if pc = 25 then some (.isub, 1) else none) else (if pc = 26 then some (.putfield 24, 3) else none)) else (if pc < 30 then (if pc = 29 then some (.aload_n 0, 1) else none) else (if pc < 33 then (if pc = 30 then some (.getfield 24, 3) else none) else (if pc = 33 then some (.ireturn, 1) else none)))))
set_option maxRecDepth 100000 in
theorem xo_189_c0 : ([0, 1, 4, 7, 9, 10, 11, 12, 15, 16, 19, 20, 21, 24, 25, 26, 29, 30, 33] : List Nat).all (fun pc => match xo_189 pc with | none => true | some r => decide (decode cX7_undo pc = .ok r)) = true := by decide +kernel
set_option maxRecDepth 100000 in
theorem xo_189_no : (List.range 34).all (fun pc => (xo_189 pc).isNone || (([0, 1, 4, 7, 9, 10, 11, 12, 15, 16, 19, 20, 21, 24, 25, 26, 29, 30, 33] : List Nat).contains pc)) = true := by decide +kernel
theorem xo_189_top (pc : Nat) (h : 34 ≤ pc) : xo_189 pc = none := if_pos h
theorem xo_189_ok (pc : Nat) (r : Instr × Nat) (h : xo_189 pc = some r) : decode cX7_undo pc = .ok r := by
  rcases Nat.lt_or_ge pc 34 with hl | hl
  · have h1 := List.all_eq_true.mp xo_189_no pc (List.mem_range.mpr hl)
    rw [h] at h1
    simp only [Option.isNone_some, Bool.false_or, Bool.or_eq_true, List.contains_iff_mem, or_assoc] at h1
    rcases h1 with h1
    · have h2 := List.all_eq_true.mp xo_189_c0 pc h1
      rw [h] at h2
      exact of_decide_eq_true h2
  · rw [show xo_189 pc = none from if_pos hl] at h; cases h
/-- X7_isSlot -/
def xo_190 (pc : Nat) : Option (Instr × Nat) := if 15 ≤ pc then none else if pc < 6 then (if pc < 4 then (if pc < 1 then (if pc = 0 then some (.iload_n 0, 1) else none) else (if pc = 1 then some (.ifCond .eq 8, 3) else none)) else (if pc < 5 then (if pc = 4 then some (.iload_n 0, 1) else none) else (if pc = 5 then some (.iconst 1, 1) else none))) else (if pc < 10 then (if pc < 9 then (if pc = 6 then some (.if_icmp .ne 7, 3) else none) else (if pc = 9 then some (.iconst 1, 1) else none)) else (if pc < 13 then (if pc = 10 then some (.goto 4, 3) else none) else (if pc < 14 then (if pc = 13 then some (.iconst 0, 1) else none) else (if pc = 14 then some (.ireturn, 1) else none))))
set_option maxRecDepth 100000 in
theorem xo_190_c0 : ([0, 1, 4, 5, 6, 9, 10, 13, 14] : List Nat).all (fun pc => match xo_190 pc with | none => true | some r => decide (decode cX7_isSlot pc = .ok r)) = true := by decide +kernel
set_option maxRecDepth 100000 in
theorem xo_190_no : (List.range 15).all (fun pc => (xo_190 pc).isNone || (([0, 1, 4, 5, 6, 9, 10, 13, 14] : List Nat).contains pc)) = true := by decide +kernel
theorem xo_190_top (pc : Nat) (h : 15 ≤ pc) : xo_190 pc = none := if_pos h
theorem xo_190_ok (pc : Nat) (r : Instr × Nat) (h : xo_190 pc = some r) : decode cX7_isSlot pc = .ok r := by
  rcases Nat.lt_or_ge pc 15 with hl | hl
  · have h1 := List.all_eq_true.mp xo_190_no pc (List.mem_range.mpr hl)
    rw [h] at h1
    simp only [Option.isNone_some, Bool.false_or, Bool.or_eq_true, List.contains_iff_mem, or_assoc] at h1
    rcases h1 with h1
    · have h2 := List.all_eq_true.mp xo_190_c0 pc h1
      rw [h] at h2
      exact of_decide_eq_true h2
  · rw [show xo_190 pc = none from if_pos hl] at h; cases h
/-- X7_save -/
def xo_191 (pc : Nat) : Option (Instr × Nat) := if 33 ≤ pc then none else if pc < 16 then (if pc < 10 then (if pc < 4 then (if pc < 1 then (if pc = 0 then some (.iload_n 1, 1) else none) else (if pc = 1 then some (.invokestatic 225, 3) else none)) else (if pc < 7 then (if pc = 4 then some (.ifCond .ne 6, 3) else none) else (if pc < 9 then (if pc = 7 then some (.bipush (-2), 2) else none) else (if pc = 9 then some (.ireturn, 1) else none)))) else (if pc < 12 then (if pc < 11 then (if pc = 10 then some (.aload_n 0, 1) else none) else (if pc = 11 then some (.iconst 0, 1) else none)) else (if pc < 14 then (if pc = 12 then some (.bipush 7, 2) else none) else (if pc < 15 then (if pc = 14 then some (.iload_n 1, 1) else none) else (if pc = 15 then some (.iadd, 1) else none))))) else (if pc < 25 then (if pc < 20 then (if pc < 19 then (if pc = 16 then some (.invokevirtual 28, 3) else none) else (if pc = 19 then some (.aload_n 0, 1) else none)) else (if pc < 23 then (if pc = 20 then some (.getfield 13, 3) else none) else (if pc < 24 then (if pc = 23 then some (.iload_n 1, 1) else none) else (if pc = 24 then some (.iconst 1, 1) else none)))) else (if pc < 30 then (if pc < 26 then (if pc = 25 then some (.bastore, 1) else none) else (if pc < 27 then (if pc = 26 then some (.aload_n 0, 1) else none) else (if pc = 27 then some (.getfield 7, 3) else none))) else (if pc < 31 then (if pc = 30 then some (.iconst 4, 1) else none) else (if pc < 32 then (if pc = 31 then some (.iaload, 1) else none) else (if pc = 32 then some (.ireturn, 1) else none)))))
set_option maxRecDepth 100000 in
theorem xo_191_c0 : ([0, 1, 4, 7, 9, 10, 11, 12, 14, 15, 16, 19, 20, 23, 24, 25, 26, 27, 30, 31, 32] : List Nat).all (fun pc => match xo_191 pc with | none => true | some r => decide (decode cX7_save pc = .ok r)) = true := by decide +kernel
set_option maxRecDepth 100000 in
theorem xo_191_no : (List.range 33).all (fun pc => (xo_191 pc).isNone || (([0, 1, 4, 7, 9, 10, 11, 12, 14, 15, 16, 19, 20, 23, 24, 25, 26, 27, 30, 31, 32] : List Nat).contains pc)) = true := by decide +kernel
theorem xo_191_top (pc : Nat) (h : 33 ≤ pc) : xo_191 pc = none := if_pos h
theorem xo_191_ok (pc : Nat) (r : Instr × Nat) (h : xo_191 pc = some r) : decode cX7_save pc = .ok r := by
  rcases Nat.lt_or_ge pc 33 with hl | hl
  · have h1 := List.all_eq_true.mp xo_191_no pc (List.mem_range.mpr hl)
    rw [h] at h1
    simp only [Option.isNone_some, Bool.false_or, Bool.or_eq_true, List.contains_iff_mem, or_assoc] at h1
    rcases h1 with h1
    · have h2 := List.all_eq_true.mp xo_191_c0 pc h1
      rw [h] at h2
      exact of_decide_eq_true h2
  · rw [show xo_191 pc = none from if_pos hl] at h; cases h
/-- X7_restore -/
def xo_192 (pc : Nat) : Option (Instr × Nat) := if 42 ≤ pc then none else if pc < 22 then (if pc < 11 then (if pc < 7 then (if pc < 1 then (if pc = 0 then some (.iload_n 1, 1) else none) else (if pc < 4 then (if pc = 1 then some (.invokestatic 225, 3) else none) else (if pc = 4 then some (.ifCond .ne 6, 3) else none))) else (if pc < 9 then (if pc = 7 then some (.bipush (-2), 2) else none) else (if pc < 10 then (if pc = 9 then some (.ireturn, 1) else none) else (if pc = 10 then some (.aload_n 0, 1) else none)))) else (if pc < 16 then (if pc < 14 then (if pc = 11 then some (.getfield 13, 3) else none) else (if pc < 15 then (if pc = 14 then some (.iload_n 1, 1) else none) else (if pc = 15 then some (.baload, 1) else none))) else (if pc < 19 then (if pc = 16 then some (.ifCond .ne 6, 3) else none) else (if pc < 21 then (if pc = 19 then some (.bipush (-5), 2) else none) else (if pc = 21 then some (.ireturn, 1) else none))))) else (if pc < 31 then (if pc < 27 then (if pc < 23 then (if pc = 22 then some (.aload_n 0, 1) else none) else (if pc < 26 then (if pc = 23 then some (.invokevirtual 114, 3) else none) else (if pc = 26 then some (.aload_n 0, 1) else none))) else (if pc < 29 then (if pc = 27 then some (.bipush 7, 2) else none) else (if pc < 30 then (if pc = 29 then some (.iload_n 1, 1) else none) else (if pc = 30 then some (.iadd, 1) else none)))) else (if pc < 36 then (if pc < 32 then (if pc = 31 then some (.iconst 0, 1) else none) else (if pc < 35 then (if pc = 32 then some (.invokevirtual 28, 3) else none) else (if pc = 35 then some (.aload_n 0, 1) else none))) else (if pc < 40 then (if pc < 39 then (if pc = 36 then some (.getfield 7, 3) else none) else (if pc = 39 then some (.iconst 4, 1) else none)) else (if pc < 41 then (if pc = 40 then some (.iaload, 1) else none) else (if pc = 41 then some (.ireturn, 1) else none)))))
set_option maxRecDepth 100000 in
theorem xo_192_c0 : ([0, 1, 4, 7, 9, 10, 11, 14, 15, 16, 19, 21, 22, 23, 26, 27, 29, 30, 31, 32, 35, 36, 39, 40, 41] : List Nat).all (fun pc => match xo_192 pc with | none => true | some r => decide (decode cX7_restore pc = .ok r)) = true := by decide +kernel
set_option maxRecDepth 100000 in
theorem xo_192_no : (List.range 42).all (fun pc => (xo_192 pc).isNone || (([0, 1, 4, 7, 9, 10, 11, 14, 15, 16, 19, 21, 22, 23, 26, 27, 29, 30, 31, 32, 35, 36, 39, 40, 41] : List Nat).contains pc)) = true := by decide +kernel
theorem xo_192_top (pc : Nat) (h : 42 ≤ pc) : xo_192 pc = none := if_pos h
theorem xo_192_ok (pc : Nat) (r : Instr × Nat) (h : xo_192 pc = some r) : decode cX7_restore pc = .ok r := by
  rcases Nat.lt_or_ge pc 42 with hl | hl
  · have h1 := List.all_eq_true.mp xo_192_no pc (List.mem_range.mpr hl)
    rw [h] at h1
    simp only [Option.isNone_some, Bool.false_or, Bool.or_eq_true, List.contains_iff_mem, or_assoc] at h1
    rcases h1 with h1
    · have h2 := List.all_eq_true.mp xo_192_c0 pc h1
      rw [h] at h2
      exact of_decide_eq_true h2
  · rw [show xo_192 pc = none from if_pos hl] at h; cases h
end
section
/-- the methods: name, bytes, locals, answer, class, depth of the calls under it -/
def xt_tab : List (MethodName × (ByteArray × (Nat × (Option FieldType × (Nat × Nat))))) := [(yL_law, cL_law, 4, (some .boolean), 9, 10), (yX6_noneForEachPerson, cX6_noneForEachPerson, 2, (some (.array .int)), 6, 1), (yX0_init, cX0_init, 1, none, 0, 2), (yX0_copyFrom, cX0_copyFrom, 2, none, 0, 2), (yX0_isInRack, cX0_isInRack, 2, (some .boolean), 0, 1), (yX0_isTagged, cX0_isTagged, 2, (some .boolean), 0, 1), (yX0_isInPound, cX0_isInPound, 2, (some .boolean), 0, 1), (yX0_placeInRack, cX0_placeInRack, 5, none, 0, 1), (yX0_leaveRack, cX0_leaveRack, 2, none, 0, 1), (yX0_isDue, cX0_isDue, 4, (some .boolean), 0, 2), (yX0_countTagged, cX0_countTagged, 5, (some .int), 0, 3), (yX0_takeTagged, cX0_takeTagged, 6, (some .int), 0, 3), (yX0_sellFromPound, cX0_sellFromPound, 3, none, 0, 2), (yX0_racksTaken, cX0_racksTaken, 4, (some .int), 0, 1), (yX0_racksTagged, cX0_racksTagged, 4, (some .int), 0, 2), (yX6_countPeople, cX6_countPeople, 3, (some .int), 6, 1), (yX0_countInRacks, cX0_countInRacks, 1, (some .int), 0, 2), (yX0_countAllTagged, cX0_countAllTagged, 1, (some .int), 0, 2), (yX0_countInPound, cX0_countInPound, 1, (some .int), 0, 2), (yX0_countSold, cX0_countSold, 3, (some .int), 0, 1), (yX3_init, cX3_init, 1, none, 3, 2), (yX1_init, cX1_init, 1, none, 1, 3), (yX1_goToStart, cX1_goToStart, 1, none, 1, 1), (yX3_characterAt, cX3_characterAt, 2, (some .char), 3, 1), (yX1_readFrom, cX1_readFrom, 4, (some .boolean), 1, 2), (yX1_readOne, cX1_readOne, 2, (some .boolean), 1, 3), (yX1_readShed, cX1_readShed, 1, (some .boolean), 1, 3), (yX1_readNumber, cX1_readNumber, 1, (some .boolean), 1, 3), (yX1_readDeedOfPerson, cX1_readDeedOfPerson, 1, (some .boolean), 1, 4), (yX1_readDeed, cX1_readDeed, 1, (some .boolean), 1, 5), (yX1_readSemicolon, cX1_readSemicolon, 1, (some .boolean), 1, 4), (yX1_findFault, cX1_findFault, 2, (some .int), 1, 6), (yX2_init, cX2_init, 1, none, 2, 2), (yX2_dropOldest, cX2_dropOldest, 3, none, 2, 1), (yX4_init, cX4_init, 1, none, 4, 2), (yX5_init, cX5_init, 1, none, 5, 3), (yX4_copyFrom, cX4_copyFrom, 3, none, 4, 2), (yX5_copyFrom, cX5_copyFrom, 2, none, 5, 3), (yX6_copyInto, cX6_copyInto, 3, (some (.object "BikeSheds$State")), 6, 4), (yX2_record, cX2_record, 2, none, 2, 5), (yX2_takeBack, cX2_takeBack, 3, (some .boolean), 2, 4), (yX3_codeAt, cX3_codeAt, 3, (some .int), 3, 1), (yX6_isFrom, cX6_isFrom, 3, (some .boolean), 6, 1), (yX3_countCharacters, cX3_countCharacters, 4, (some .int), 3, 2), (yX3_append, cX3_append, 5, (some .int), 3, 3), (yX3_clear, cX3_clear, 2, (some .int), 3, 1), (yX6_isShed, cX6_isShed, 1, (some .boolean), 6, 1), (yX4_hasPermit, cX4_hasPermit, 2, (some .boolean), 4, 2), (yX4_waitsFor, cX4_waitsFor, 3, (some .boolean), 4, 1), (yX4_shedsWaitedFor, cX4_shedsWaitedFor, 4, (some .int), 4, 2), (yX4_waitsForSome, cX4_waitsForSome, 2, (some .boolean), 4, 3), (yX4_countOf, cX4_countOf, 4, (some .int), 4, 1), (yX4_countAll, cX4_countAll, 1, (some .int), 4, 2), (yX4_countWaiting, cX4_countWaiting, 2, (some .int), 4, 2), (yX4_countAllWaiting, cX4_countAllWaiting, 3, (some .int), 4, 4), (yX4_leaveLists, cX4_leaveLists, 5, none, 4, 1), (yX4_give, cX4_give, 5, none, 4, 2), (yX4_end, cX4_end, 2, none, 4, 1), (yX4_endBefore, cX4_endBefore, 3, none, 4, 3), (yX4_queue, cX4_queue, 6, (some .int), 4, 3), (yX4_whoIsAt, cX4_whoIsAt, 4, (some .int), 4, 2), (yX6_isPerson, cX6_isPerson, 1, (some .boolean), 6, 1), (yX4_aboutPlace, cX4_aboutPlace, 5, (some .int), 4, 3), (yJ6_bitCount_0f7a4, cJ6_bitCount_0f7a4, 1, (some .int), 8, 1), (yX5_permitsToGive, cX5_permitsToGive, 2, (some .int), 5, 2), (yX5_moveUp, cX5_moveUp, 5, none, 5, 3), (yX5_changeSetting, cX5_changeSetting, 4, (some .int), 5, 4), (yX5_askFor, cX5_askFor, 4, (some .int), 5, 4), (yX5_giveUpAll, cX5_giveUpAll, 3, (some .int), 5, 4), (yX5_lengthen, cX5_lengthen, 3, (some .int), 5, 3), (yX5_lowestFreeRack, cX5_lowestFreeRack, 4, (some .int), 5, 2), (yX5_parkBicycle, cX5_parkBicycle, 4, (some .int), 5, 3), (yX5_rideAway, cX5_rideAway, 3, (some .int), 5, 2), (yX5_answerFor, cX5_answerFor, 3, (some .int), 5, 2), (yX5_fetchFromPound, cX5_fetchFromPound, 3, (some .int), 5, 2), (yX5_isWithoutPermit, cX5_isWithoutPermit, 2, (some .boolean), 5, 1), (yX5_looksAbandoned, cX5_looksAbandoned, 2, (some .boolean), 5, 2), (yX5_latestDueTag, cX5_latestDueTag, 2, (some .int), 5, 1), (yX5_sweepShed, cX5_sweepShed, 3, (some .int), 5, 4), (yX6_isRack, cX6_isRack, 1, (some .boolean), 6, 1), (yX5_changeUse, cX5_changeUse, 5, (some .int), 5, 4), (yX5_beginDay, cX5_beginDay, 1, none, 5, 4), (yX5_letPass, cX5_letPass, 4, (some .int), 5, 5), (yX5_passUntilPermit, cX5_passUntilPermit, 3, (some .int), 5, 5), (yX5_aboutPerson, cX5_aboutPerson, 3, (some .int), 5, 3), (yX5_racksWithoutPermit, cX5_racksWithoutPermit, 4, (some .int), 5, 2), (yX5_aboutShed, cX5_aboutShed, 3, (some .int), 5, 3), (yX5_aboutAll, cX5_aboutAll, 2, (some .int), 5, 5), (yX6_init, cX6_init, 1, none, 6, 4), (yX6_recorded, cX6_recorded, 2, (some .int), 6, 6), (yX6_set, cX6_set, 3, (some .int), 6, 7), (yX6_ask, cX6_ask, 4, (some .int), 6, 7), (yX6_giveUp, cX6_giveUp, 2, (some .int), 6, 7), (yX6_prolong, cX6_prolong, 3, (some .int), 6, 7), (yX6_park, cX6_park, 2, (some .int), 6, 7), (yX6_ride, cX6_ride, 2, (some .int), 6, 7), (yX6_answer, cX6_answer, 2, (some .int), 6, 7), (yX6_fetch, cX6_fetch, 2, (some .int), 6, 7), (yX6_sweep, cX6_sweep, 2, (some .int), 6, 7), (yX6_use, cX6_use, 4, (some .int), 6, 7), (yX6_pass, cX6_pass, 2, (some .int), 6, 7), (yX6_doDeed, cX6_doDeed, 1, (some .int), 6, 6), (yX6_run, cX6_run, 3, (some .int), 6, 7), (yX6_person, cX6_person, 3, (some .int), 6, 4), (yX6_shed, cX6_shed, 3, (some .int), 6, 4), (yX6_waiting, cX6_waiting, 4, (some .int), 6, 4), (yX6_count, cX6_count, 2, (some .int), 6, 6), (yX6_untilPermit, cX6_untilPermit, 2, (some .int), 6, 6), (yX6_daysToWaitFor, cX6_daysToWaitFor, 5, (some .int), 6, 6), (yX6_bestShed, cX6_bestShed, 8, (some .int), 6, 7), (yX6_ifSwept, cX6_ifSwept, 3, (some .int), 6, 4), (yX6_put, cX6_put, 3, (some .int), 6, 4), (yX6_wipe, cX6_wipe, 1, (some .int), 6, 2), (yX6_fault, cX6_fault, 1, (some .int), 6, 7), (yX6_undo, cX6_undo, 1, (some .int), 6, 5), (yX6_save, cX6_save, 2, (some .int), 6, 5), (yX6_restore, cX6_restore, 3, (some .int), 6, 7), (yX7_personAt, cX7_personAt, 2, (some .int), 7, 1), (yX7_init, cX7_init, 3, none, 7, 2), (yX7_in, cX7_in, 6, (some .boolean), 7, 1), (yX7_flag, cX7_flag, 1, (some .int), 7, 1), (yX7_copies, cX7_copies, 4, none, 7, 1), (yX7_changes, cX7_changes, 2, none, 7, 2), (yX7_placeAt, cX7_placeAt, 3, (some .int), 7, 1), (yX7_racksInUse, cX7_racksInUse, 5, (some .int), 7, 1), (yX7_permits, cX7_permits, 3, (some .int), 7, 2), (yX7_given, cX7_given, 5, (some .int), 7, 2), (yX7_placeOf, cX7_placeOf, 6, (some .int), 7, 2), (yX7_waitsFor, cX7_waitsFor, 5, (some .int), 7, 3), (yX7_leavesLists, cX7_leavesLists, 6, none, 7, 3), (yX7_getsPermit, cX7_getsPermit, 5, none, 7, 4), (yX7_movesUp, cX7_movesUp, 4, (some .int), 7, 5), (yX7_asksFor, cX7_asksFor, 6, (some .int), 7, 5), (yX7_endsPermit, cX7_endsPermit, 3, none, 7, 2), (yX7_day, cX7_day, 4, (some .int), 7, 6), (yX7_days, cX7_days, 5, (some .int), 7, 7), (yX7_isInRack, cX7_isInRack, 3, (some .boolean), 7, 2), (yX7_owner, cX7_owner, 7, (some .int), 7, 2), (yX7_leavesRack, cX7_leavesRack, 4, none, 7, 2), (yX7_sweeps, cX7_sweeps, 8, (some .int), 7, 3), (yX7_freeRack, cX7_freeRack, 6, (some .int), 7, 3), (yX7_isPerson, cX7_isPerson, 1, (some .boolean), 7, 2), (yX7_isShed, cX7_isShed, 1, (some .boolean), 7, 2), (yX7_areDays, cX7_areDays, 1, (some .boolean), 7, 2), (yX7_hasPermit, cX7_hasPermit, 2, (some .boolean), 7, 2), (yX7_askError, cX7_askError, 4, (some .int), 7, 3), (yX7_parkError, cX7_parkError, 2, (some .int), 7, 4), (yX7_rackError, cX7_rackError, 2, (some .int), 7, 3), (yX7_fetchError, cX7_fetchError, 2, (some .int), 7, 3), (yX7_passError, cX7_passError, 2, (some .int), 7, 3), (yX7_parks, cX7_parks, 4, (some .int), 7, 4), (yX7_rides, cX7_rides, 3, (some .int), 7, 3), (yX7_answers, cX7_answers, 4, (some .int), 7, 2), (yX7_fetches, cX7_fetches, 4, (some .int), 7, 2), (yX7_isValue, cX7_isValue, 2, (some .boolean), 7, 2), (yX7_set, cX7_set, 5, (some .int), 7, 6), (yX7_ask, cX7_ask, 5, (some .int), 7, 6), (yX7_giveUp, cX7_giveUp, 4, (some .int), 7, 6), (yX7_prolong, cX7_prolong, 4, (some .int), 7, 3), (yX7_park, cX7_park, 3, (some .int), 7, 5), (yX7_ride, cX7_ride, 3, (some .int), 7, 4), (yX7_answer, cX7_answer, 3, (some .int), 7, 4), (yX7_fetch, cX7_fetch, 3, (some .int), 7, 4), (yX7_sweep, cX7_sweep, 2, (some .int), 7, 4), (yX7_use, cX7_use, 5, (some .int), 7, 6), (yX7_pass, cX7_pass, 3, (some .int), 7, 8), (yX7_daysSince, cX7_daysSince, 2, (some .int), 7, 1), (yX7_person, cX7_person, 4, (some .int), 7, 4), (yX7_racks, cX7_racks, 7, (some .int), 7, 3), (yX7_shed, cX7_shed, 3, (some .int), 7, 4), (yX7_waiting, cX7_waiting, 4, (some .int), 7, 3), (yX7_people, cX7_people, 5, (some .int), 7, 4), (yX7_count, cX7_count, 2, (some .int), 7, 5), (yX7_daysTo, cX7_daysTo, 5, (some .int), 7, 7), (yX7_untilPermit, cX7_untilPermit, 2, (some .int), 7, 8), (yX7_bestShed, cX7_bestShed, 10, (some .int), 7, 8), (yX7_ifSwept, cX7_ifSwept, 4, (some .int), 7, 8), (yX7_charactersOf, cX7_charactersOf, 5, (some .int), 7, 2), (yX7_put, cX7_put, 5, (some .int), 7, 3), (yX7_wipe, cX7_wipe, 2, (some .int), 7, 1), (yX7_isHere, cX7_isHere, 3, (some .boolean), 7, 2), (yX7_reads, cX7_reads, 4, (some .int), 7, 3), (yX7_number, cX7_number, 3, (some .int), 7, 4), (yX7_readsShed, cX7_readsShed, 2, (some .boolean), 7, 4), (yX7_readsDeed, cX7_readsDeed, 1, (some .boolean), 7, 5), (yX7_fault, cX7_fault, 2, (some .int), 7, 6), (yX7_deedError, cX7_deedError, 1, (some .int), 7, 5), (yX7_does, cX7_does, 1, (some .int), 7, 8), (yX7_run, cX7_run, 5, (some .int), 7, 9), (yX7_undo, cX7_undo, 1, (some .int), 7, 2), (yX7_isSlot, cX7_isSlot, 1, (some .boolean), 7, 1), (yX7_save, cX7_save, 2, (some .int), 7, 2), (yX7_restore, cX7_restore, 2, (some .int), 7, 3)]
def xt_N : Nat := 193
def xt_row (i : Nat) : MethodName × (ByteArray × (Nat × (Option FieldType × (Nat × Nat)))) := xt_tab.getD i (yL_law, cL_law, 4, (some .boolean), 9, 1)
def xt_Y (i : Nat) : MethodName := (xt_row i).1
def xt_C (i : Nat) : ByteArray := (xt_row i).2.1
def xt_L (i : Nat) : Nat := (xt_row i).2.2.1
def xt_R (i : Nat) : Option FieldType := if i < 96 then (if i < 48 then (if i < 24 then (if i < 12 then (if i < 6 then (if i < 3 then (if i < 1 then (if i = 0 then (some .boolean) else none) else (if i < 2 then (if i = 1 then (some (.array .int)) else none) else (if i = 2 then none else none))) else (if i < 4 then (if i = 3 then none else none) else (if i < 5 then (if i = 4 then (some .boolean) else none) else (if i = 5 then (some .boolean) else none)))) else (if i < 9 then (if i < 7 then (if i = 6 then (some .boolean) else none) else (if i < 8 then (if i = 7 then none else none) else (if i = 8 then none else none))) else (if i < 10 then (if i = 9 then (some .boolean) else none) else (if i < 11 then (if i = 10 then (some .int) else none) else (if i = 11 then (some .int) else none))))) else (if i < 18 then (if i < 15 then (if i < 13 then (if i = 12 then none else none) else (if i < 14 then (if i = 13 then (some .int) else none) else (if i = 14 then (some .int) else none))) else (if i < 16 then (if i = 15 then (some .int) else none) else (if i < 17 then (if i = 16 then (some .int) else none) else (if i = 17 then (some .int) else none)))) else (if i < 21 then (if i < 19 then (if i = 18 then (some .int) else none) else (if i < 20 then (if i = 19 then (some .int) else none) else (if i = 20 then none else none))) else (if i < 22 then (if i = 21 then none else none) else (if i < 23 then (if i = 22 then none else none) else (if i = 23 then (some .char) else none)))))) else (if i < 36 then (if i < 30 then (if i < 27 then (if i < 25 then (if i = 24 then (some .boolean) else none) else (if i < 26 then (if i = 25 then (some .boolean) else none) else (if i = 26 then (some .boolean) else none))) else (if i < 28 then (if i = 27 then (some .boolean) else none) else (if i < 29 then (if i = 28 then (some .boolean) else none) else (if i = 29 then (some .boolean) else none)))) else (if i < 33 then (if i < 31 then (if i = 30 then (some .boolean) else none) else (if i < 32 then (if i = 31 then (some .int) else none) else (if i = 32 then none else none))) else (if i < 34 then (if i = 33 then none else none) else (if i < 35 then (if i = 34 then none else none) else (if i = 35 then none else none))))) else (if i < 42 then (if i < 39 then (if i < 37 then (if i = 36 then none else none) else (if i < 38 then (if i = 37 then none else none) else (if i = 38 then (some (.object "BikeSheds$State")) else none))) else (if i < 40 then (if i = 39 then none else none) else (if i < 41 then (if i = 40 then (some .boolean) else none) else (if i = 41 then (some .int) else none)))) else (if i < 45 then (if i < 43 then (if i = 42 then (some .boolean) else none) else (if i < 44 then (if i = 43 then (some .int) else none) else (if i = 44 then (some .int) else none))) else (if i < 46 then (if i = 45 then (some .int) else none) else (if i < 47 then (if i = 46 then (some .boolean) else none) else (if i = 47 then (some .boolean) else none))))))) else (if i < 72 then (if i < 60 then (if i < 54 then (if i < 51 then (if i < 49 then (if i = 48 then (some .boolean) else none) else (if i < 50 then (if i = 49 then (some .int) else none) else (if i = 50 then (some .boolean) else none))) else (if i < 52 then (if i = 51 then (some .int) else none) else (if i < 53 then (if i = 52 then (some .int) else none) else (if i = 53 then (some .int) else none)))) else (if i < 57 then (if i < 55 then (if i = 54 then (some .int) else none) else (if i < 56 then (if i = 55 then none else none) else (if i = 56 then none else none))) else (if i < 58 then (if i = 57 then none else none) else (if i < 59 then (if i = 58 then none else none) else (if i = 59 then (some .int) else none))))) else (if i < 66 then (if i < 63 then (if i < 61 then (if i = 60 then (some .int) else none) else (if i < 62 then (if i = 61 then (some .boolean) else none) else (if i = 62 then (some .int) else none))) else (if i < 64 then (if i = 63 then (some .int) else none) else (if i < 65 then (if i = 64 then (some .int) else none) else (if i = 65 then none else none)))) else (if i < 69 then (if i < 67 then (if i = 66 then (some .int) else none) else (if i < 68 then (if i = 67 then (some .int) else none) else (if i = 68 then (some .int) else none))) else (if i < 70 then (if i = 69 then (some .int) else none) else (if i < 71 then (if i = 70 then (some .int) else none) else (if i = 71 then (some .int) else none)))))) else (if i < 84 then (if i < 78 then (if i < 75 then (if i < 73 then (if i = 72 then (some .int) else none) else (if i < 74 then (if i = 73 then (some .int) else none) else (if i = 74 then (some .int) else none))) else (if i < 76 then (if i = 75 then (some .boolean) else none) else (if i < 77 then (if i = 76 then (some .boolean) else none) else (if i = 77 then (some .int) else none)))) else (if i < 81 then (if i < 79 then (if i = 78 then (some .int) else none) else (if i < 80 then (if i = 79 then (some .boolean) else none) else (if i = 80 then (some .int) else none))) else (if i < 82 then (if i = 81 then none else none) else (if i < 83 then (if i = 82 then (some .int) else none) else (if i = 83 then (some .int) else none))))) else (if i < 90 then (if i < 87 then (if i < 85 then (if i = 84 then (some .int) else none) else (if i < 86 then (if i = 85 then (some .int) else none) else (if i = 86 then (some .int) else none))) else (if i < 88 then (if i = 87 then (some .int) else none) else (if i < 89 then (if i = 88 then none else none) else (if i = 89 then (some .int) else none)))) else (if i < 93 then (if i < 91 then (if i = 90 then (some .int) else none) else (if i < 92 then (if i = 91 then (some .int) else none) else (if i = 92 then (some .int) else none))) else (if i < 94 then (if i = 93 then (some .int) else none) else (if i < 95 then (if i = 94 then (some .int) else none) else (if i = 95 then (some .int) else none)))))))) else (if i < 144 then (if i < 120 then (if i < 108 then (if i < 102 then (if i < 99 then (if i < 97 then (if i = 96 then (some .int) else none) else (if i < 98 then (if i = 97 then (some .int) else none) else (if i = 98 then (some .int) else none))) else (if i < 100 then (if i = 99 then (some .int) else none) else (if i < 101 then (if i = 100 then (some .int) else none) else (if i = 101 then (some .int) else none)))) else (if i < 105 then (if i < 103 then (if i = 102 then (some .int) else none) else (if i < 104 then (if i = 103 then (some .int) else none) else (if i = 104 then (some .int) else none))) else (if i < 106 then (if i = 105 then (some .int) else none) else (if i < 107 then (if i = 106 then (some .int) else none) else (if i = 107 then (some .int) else none))))) else (if i < 114 then (if i < 111 then (if i < 109 then (if i = 108 then (some .int) else none) else (if i < 110 then (if i = 109 then (some .int) else none) else (if i = 110 then (some .int) else none))) else (if i < 112 then (if i = 111 then (some .int) else none) else (if i < 113 then (if i = 112 then (some .int) else none) else (if i = 113 then (some .int) else none)))) else (if i < 117 then (if i < 115 then (if i = 114 then (some .int) else none) else (if i < 116 then (if i = 115 then (some .int) else none) else (if i = 116 then (some .int) else none))) else (if i < 118 then (if i = 117 then (some .int) else none) else (if i < 119 then (if i = 118 then none else none) else (if i = 119 then (some .boolean) else none)))))) else (if i < 132 then (if i < 126 then (if i < 123 then (if i < 121 then (if i = 120 then (some .int) else none) else (if i < 122 then (if i = 121 then none else none) else (if i = 122 then none else none))) else (if i < 124 then (if i = 123 then (some .int) else none) else (if i < 125 then (if i = 124 then (some .int) else none) else (if i = 125 then (some .int) else none)))) else (if i < 129 then (if i < 127 then (if i = 126 then (some .int) else none) else (if i < 128 then (if i = 127 then (some .int) else none) else (if i = 128 then (some .int) else none))) else (if i < 130 then (if i = 129 then none else none) else (if i < 131 then (if i = 130 then none else none) else (if i = 131 then (some .int) else none))))) else (if i < 138 then (if i < 135 then (if i < 133 then (if i = 132 then (some .int) else none) else (if i < 134 then (if i = 133 then none else none) else (if i = 134 then (some .int) else none))) else (if i < 136 then (if i = 135 then (some .int) else none) else (if i < 137 then (if i = 136 then (some .boolean) else none) else (if i = 137 then (some .int) else none)))) else (if i < 141 then (if i < 139 then (if i = 138 then none else none) else (if i < 140 then (if i = 139 then (some .int) else none) else (if i = 140 then (some .int) else none))) else (if i < 142 then (if i = 141 then (some .boolean) else none) else (if i < 143 then (if i = 142 then (some .boolean) else none) else (if i = 143 then (some .boolean) else none))))))) else (if i < 168 then (if i < 156 then (if i < 150 then (if i < 147 then (if i < 145 then (if i = 144 then (some .boolean) else none) else (if i < 146 then (if i = 145 then (some .int) else none) else (if i = 146 then (some .int) else none))) else (if i < 148 then (if i = 147 then (some .int) else none) else (if i < 149 then (if i = 148 then (some .int) else none) else (if i = 149 then (some .int) else none)))) else (if i < 153 then (if i < 151 then (if i = 150 then (some .int) else none) else (if i < 152 then (if i = 151 then (some .int) else none) else (if i = 152 then (some .int) else none))) else (if i < 154 then (if i = 153 then (some .int) else none) else (if i < 155 then (if i = 154 then (some .boolean) else none) else (if i = 155 then (some .int) else none))))) else (if i < 162 then (if i < 159 then (if i < 157 then (if i = 156 then (some .int) else none) else (if i < 158 then (if i = 157 then (some .int) else none) else (if i = 158 then (some .int) else none))) else (if i < 160 then (if i = 159 then (some .int) else none) else (if i < 161 then (if i = 160 then (some .int) else none) else (if i = 161 then (some .int) else none)))) else (if i < 165 then (if i < 163 then (if i = 162 then (some .int) else none) else (if i < 164 then (if i = 163 then (some .int) else none) else (if i = 164 then (some .int) else none))) else (if i < 166 then (if i = 165 then (some .int) else none) else (if i < 167 then (if i = 166 then (some .int) else none) else (if i = 167 then (some .int) else none)))))) else (if i < 180 then (if i < 174 then (if i < 171 then (if i < 169 then (if i = 168 then (some .int) else none) else (if i < 170 then (if i = 169 then (some .int) else none) else (if i = 170 then (some .int) else none))) else (if i < 172 then (if i = 171 then (some .int) else none) else (if i < 173 then (if i = 172 then (some .int) else none) else (if i = 173 then (some .int) else none)))) else (if i < 177 then (if i < 175 then (if i = 174 then (some .int) else none) else (if i < 176 then (if i = 175 then (some .int) else none) else (if i = 176 then (some .int) else none))) else (if i < 178 then (if i = 177 then (some .int) else none) else (if i < 179 then (if i = 178 then (some .int) else none) else (if i = 179 then (some .int) else none))))) else (if i < 186 then (if i < 183 then (if i < 181 then (if i = 180 then (some .boolean) else none) else (if i < 182 then (if i = 181 then (some .int) else none) else (if i = 182 then (some .int) else none))) else (if i < 184 then (if i = 183 then (some .boolean) else none) else (if i < 185 then (if i = 184 then (some .boolean) else none) else (if i = 185 then (some .int) else none)))) else (if i < 189 then (if i < 187 then (if i = 186 then (some .int) else none) else (if i < 188 then (if i = 187 then (some .int) else none) else (if i = 188 then (some .int) else none))) else (if i < 191 then (if i < 190 then (if i = 189 then (some .int) else none) else (if i = 190 then (some .boolean) else none)) else (if i < 192 then (if i = 191 then (some .int) else none) else (if i = 192 then (some .int) else none))))))))
def xt_K (i : Nat) : Nat := if i < 96 then (if i < 48 then (if i < 24 then (if i < 12 then (if i < 6 then (if i < 3 then (if i < 1 then (if i = 0 then 9 else 0) else (if i < 2 then (if i = 1 then 6 else 0) else (if i = 2 then 0 else 0))) else (if i < 4 then (if i = 3 then 0 else 0) else (if i < 5 then (if i = 4 then 0 else 0) else (if i = 5 then 0 else 0)))) else (if i < 9 then (if i < 7 then (if i = 6 then 0 else 0) else (if i < 8 then (if i = 7 then 0 else 0) else (if i = 8 then 0 else 0))) else (if i < 10 then (if i = 9 then 0 else 0) else (if i < 11 then (if i = 10 then 0 else 0) else (if i = 11 then 0 else 0))))) else (if i < 18 then (if i < 15 then (if i < 13 then (if i = 12 then 0 else 0) else (if i < 14 then (if i = 13 then 0 else 0) else (if i = 14 then 0 else 0))) else (if i < 16 then (if i = 15 then 6 else 0) else (if i < 17 then (if i = 16 then 0 else 0) else (if i = 17 then 0 else 0)))) else (if i < 21 then (if i < 19 then (if i = 18 then 0 else 0) else (if i < 20 then (if i = 19 then 0 else 0) else (if i = 20 then 3 else 0))) else (if i < 22 then (if i = 21 then 1 else 0) else (if i < 23 then (if i = 22 then 1 else 0) else (if i = 23 then 3 else 0)))))) else (if i < 36 then (if i < 30 then (if i < 27 then (if i < 25 then (if i = 24 then 1 else 0) else (if i < 26 then (if i = 25 then 1 else 0) else (if i = 26 then 1 else 0))) else (if i < 28 then (if i = 27 then 1 else 0) else (if i < 29 then (if i = 28 then 1 else 0) else (if i = 29 then 1 else 0)))) else (if i < 33 then (if i < 31 then (if i = 30 then 1 else 0) else (if i < 32 then (if i = 31 then 1 else 0) else (if i = 32 then 2 else 0))) else (if i < 34 then (if i = 33 then 2 else 0) else (if i < 35 then (if i = 34 then 4 else 0) else (if i = 35 then 5 else 0))))) else (if i < 42 then (if i < 39 then (if i < 37 then (if i = 36 then 4 else 0) else (if i < 38 then (if i = 37 then 5 else 0) else (if i = 38 then 6 else 0))) else (if i < 40 then (if i = 39 then 2 else 0) else (if i < 41 then (if i = 40 then 2 else 0) else (if i = 41 then 3 else 0)))) else (if i < 45 then (if i < 43 then (if i = 42 then 6 else 0) else (if i < 44 then (if i = 43 then 3 else 0) else (if i = 44 then 3 else 0))) else (if i < 46 then (if i = 45 then 3 else 0) else (if i < 47 then (if i = 46 then 6 else 0) else (if i = 47 then 4 else 0))))))) else (if i < 72 then (if i < 60 then (if i < 54 then (if i < 51 then (if i < 49 then (if i = 48 then 4 else 0) else (if i < 50 then (if i = 49 then 4 else 0) else (if i = 50 then 4 else 0))) else (if i < 52 then (if i = 51 then 4 else 0) else (if i < 53 then (if i = 52 then 4 else 0) else (if i = 53 then 4 else 0)))) else (if i < 57 then (if i < 55 then (if i = 54 then 4 else 0) else (if i < 56 then (if i = 55 then 4 else 0) else (if i = 56 then 4 else 0))) else (if i < 58 then (if i = 57 then 4 else 0) else (if i < 59 then (if i = 58 then 4 else 0) else (if i = 59 then 4 else 0))))) else (if i < 66 then (if i < 63 then (if i < 61 then (if i = 60 then 4 else 0) else (if i < 62 then (if i = 61 then 6 else 0) else (if i = 62 then 4 else 0))) else (if i < 64 then (if i = 63 then 8 else 0) else (if i < 65 then (if i = 64 then 5 else 0) else (if i = 65 then 5 else 0)))) else (if i < 69 then (if i < 67 then (if i = 66 then 5 else 0) else (if i < 68 then (if i = 67 then 5 else 0) else (if i = 68 then 5 else 0))) else (if i < 70 then (if i = 69 then 5 else 0) else (if i < 71 then (if i = 70 then 5 else 0) else (if i = 71 then 5 else 0)))))) else (if i < 84 then (if i < 78 then (if i < 75 then (if i < 73 then (if i = 72 then 5 else 0) else (if i < 74 then (if i = 73 then 5 else 0) else (if i = 74 then 5 else 0))) else (if i < 76 then (if i = 75 then 5 else 0) else (if i < 77 then (if i = 76 then 5 else 0) else (if i = 77 then 5 else 0)))) else (if i < 81 then (if i < 79 then (if i = 78 then 5 else 0) else (if i < 80 then (if i = 79 then 6 else 0) else (if i = 80 then 5 else 0))) else (if i < 82 then (if i = 81 then 5 else 0) else (if i < 83 then (if i = 82 then 5 else 0) else (if i = 83 then 5 else 0))))) else (if i < 90 then (if i < 87 then (if i < 85 then (if i = 84 then 5 else 0) else (if i < 86 then (if i = 85 then 5 else 0) else (if i = 86 then 5 else 0))) else (if i < 88 then (if i = 87 then 5 else 0) else (if i < 89 then (if i = 88 then 6 else 0) else (if i = 89 then 6 else 0)))) else (if i < 93 then (if i < 91 then (if i = 90 then 6 else 0) else (if i < 92 then (if i = 91 then 6 else 0) else (if i = 92 then 6 else 0))) else (if i < 94 then (if i = 93 then 6 else 0) else (if i < 95 then (if i = 94 then 6 else 0) else (if i = 95 then 6 else 0)))))))) else (if i < 144 then (if i < 120 then (if i < 108 then (if i < 102 then (if i < 99 then (if i < 97 then (if i = 96 then 6 else 0) else (if i < 98 then (if i = 97 then 6 else 0) else (if i = 98 then 6 else 0))) else (if i < 100 then (if i = 99 then 6 else 0) else (if i < 101 then (if i = 100 then 6 else 0) else (if i = 101 then 6 else 0)))) else (if i < 105 then (if i < 103 then (if i = 102 then 6 else 0) else (if i < 104 then (if i = 103 then 6 else 0) else (if i = 104 then 6 else 0))) else (if i < 106 then (if i = 105 then 6 else 0) else (if i < 107 then (if i = 106 then 6 else 0) else (if i = 107 then 6 else 0))))) else (if i < 114 then (if i < 111 then (if i < 109 then (if i = 108 then 6 else 0) else (if i < 110 then (if i = 109 then 6 else 0) else (if i = 110 then 6 else 0))) else (if i < 112 then (if i = 111 then 6 else 0) else (if i < 113 then (if i = 112 then 6 else 0) else (if i = 113 then 6 else 0)))) else (if i < 117 then (if i < 115 then (if i = 114 then 6 else 0) else (if i < 116 then (if i = 115 then 6 else 0) else (if i = 116 then 6 else 0))) else (if i < 118 then (if i = 117 then 7 else 0) else (if i < 119 then (if i = 118 then 7 else 0) else (if i = 119 then 7 else 0)))))) else (if i < 132 then (if i < 126 then (if i < 123 then (if i < 121 then (if i = 120 then 7 else 0) else (if i < 122 then (if i = 121 then 7 else 0) else (if i = 122 then 7 else 0))) else (if i < 124 then (if i = 123 then 7 else 0) else (if i < 125 then (if i = 124 then 7 else 0) else (if i = 125 then 7 else 0)))) else (if i < 129 then (if i < 127 then (if i = 126 then 7 else 0) else (if i < 128 then (if i = 127 then 7 else 0) else (if i = 128 then 7 else 0))) else (if i < 130 then (if i = 129 then 7 else 0) else (if i < 131 then (if i = 130 then 7 else 0) else (if i = 131 then 7 else 0))))) else (if i < 138 then (if i < 135 then (if i < 133 then (if i = 132 then 7 else 0) else (if i < 134 then (if i = 133 then 7 else 0) else (if i = 134 then 7 else 0))) else (if i < 136 then (if i = 135 then 7 else 0) else (if i < 137 then (if i = 136 then 7 else 0) else (if i = 137 then 7 else 0)))) else (if i < 141 then (if i < 139 then (if i = 138 then 7 else 0) else (if i < 140 then (if i = 139 then 7 else 0) else (if i = 140 then 7 else 0))) else (if i < 142 then (if i = 141 then 7 else 0) else (if i < 143 then (if i = 142 then 7 else 0) else (if i = 143 then 7 else 0))))))) else (if i < 168 then (if i < 156 then (if i < 150 then (if i < 147 then (if i < 145 then (if i = 144 then 7 else 0) else (if i < 146 then (if i = 145 then 7 else 0) else (if i = 146 then 7 else 0))) else (if i < 148 then (if i = 147 then 7 else 0) else (if i < 149 then (if i = 148 then 7 else 0) else (if i = 149 then 7 else 0)))) else (if i < 153 then (if i < 151 then (if i = 150 then 7 else 0) else (if i < 152 then (if i = 151 then 7 else 0) else (if i = 152 then 7 else 0))) else (if i < 154 then (if i = 153 then 7 else 0) else (if i < 155 then (if i = 154 then 7 else 0) else (if i = 155 then 7 else 0))))) else (if i < 162 then (if i < 159 then (if i < 157 then (if i = 156 then 7 else 0) else (if i < 158 then (if i = 157 then 7 else 0) else (if i = 158 then 7 else 0))) else (if i < 160 then (if i = 159 then 7 else 0) else (if i < 161 then (if i = 160 then 7 else 0) else (if i = 161 then 7 else 0)))) else (if i < 165 then (if i < 163 then (if i = 162 then 7 else 0) else (if i < 164 then (if i = 163 then 7 else 0) else (if i = 164 then 7 else 0))) else (if i < 166 then (if i = 165 then 7 else 0) else (if i < 167 then (if i = 166 then 7 else 0) else (if i = 167 then 7 else 0)))))) else (if i < 180 then (if i < 174 then (if i < 171 then (if i < 169 then (if i = 168 then 7 else 0) else (if i < 170 then (if i = 169 then 7 else 0) else (if i = 170 then 7 else 0))) else (if i < 172 then (if i = 171 then 7 else 0) else (if i < 173 then (if i = 172 then 7 else 0) else (if i = 173 then 7 else 0)))) else (if i < 177 then (if i < 175 then (if i = 174 then 7 else 0) else (if i < 176 then (if i = 175 then 7 else 0) else (if i = 176 then 7 else 0))) else (if i < 178 then (if i = 177 then 7 else 0) else (if i < 179 then (if i = 178 then 7 else 0) else (if i = 179 then 7 else 0))))) else (if i < 186 then (if i < 183 then (if i < 181 then (if i = 180 then 7 else 0) else (if i < 182 then (if i = 181 then 7 else 0) else (if i = 182 then 7 else 0))) else (if i < 184 then (if i = 183 then 7 else 0) else (if i < 185 then (if i = 184 then 7 else 0) else (if i = 185 then 7 else 0)))) else (if i < 189 then (if i < 187 then (if i = 186 then 7 else 0) else (if i < 188 then (if i = 187 then 7 else 0) else (if i = 188 then 7 else 0))) else (if i < 191 then (if i < 190 then (if i = 189 then 7 else 0) else (if i = 190 then 7 else 0)) else (if i < 192 then (if i = 191 then 7 else 0) else (if i = 192 then 7 else 0))))))))
def xt_D (i : Nat) : Nat := if i < 96 then (if i < 48 then (if i < 24 then (if i < 12 then (if i < 6 then (if i < 3 then (if i < 1 then (if i = 0 then 10 else 0) else (if i < 2 then (if i = 1 then 1 else 0) else (if i = 2 then 2 else 0))) else (if i < 4 then (if i = 3 then 2 else 0) else (if i < 5 then (if i = 4 then 1 else 0) else (if i = 5 then 1 else 0)))) else (if i < 9 then (if i < 7 then (if i = 6 then 1 else 0) else (if i < 8 then (if i = 7 then 1 else 0) else (if i = 8 then 1 else 0))) else (if i < 10 then (if i = 9 then 2 else 0) else (if i < 11 then (if i = 10 then 3 else 0) else (if i = 11 then 3 else 0))))) else (if i < 18 then (if i < 15 then (if i < 13 then (if i = 12 then 2 else 0) else (if i < 14 then (if i = 13 then 1 else 0) else (if i = 14 then 2 else 0))) else (if i < 16 then (if i = 15 then 1 else 0) else (if i < 17 then (if i = 16 then 2 else 0) else (if i = 17 then 2 else 0)))) else (if i < 21 then (if i < 19 then (if i = 18 then 2 else 0) else (if i < 20 then (if i = 19 then 1 else 0) else (if i = 20 then 2 else 0))) else (if i < 22 then (if i = 21 then 3 else 0) else (if i < 23 then (if i = 22 then 1 else 0) else (if i = 23 then 1 else 0)))))) else (if i < 36 then (if i < 30 then (if i < 27 then (if i < 25 then (if i = 24 then 2 else 0) else (if i < 26 then (if i = 25 then 3 else 0) else (if i = 26 then 3 else 0))) else (if i < 28 then (if i = 27 then 3 else 0) else (if i < 29 then (if i = 28 then 4 else 0) else (if i = 29 then 5 else 0)))) else (if i < 33 then (if i < 31 then (if i = 30 then 4 else 0) else (if i < 32 then (if i = 31 then 6 else 0) else (if i = 32 then 2 else 0))) else (if i < 34 then (if i = 33 then 1 else 0) else (if i < 35 then (if i = 34 then 2 else 0) else (if i = 35 then 3 else 0))))) else (if i < 42 then (if i < 39 then (if i < 37 then (if i = 36 then 2 else 0) else (if i < 38 then (if i = 37 then 3 else 0) else (if i = 38 then 4 else 0))) else (if i < 40 then (if i = 39 then 5 else 0) else (if i < 41 then (if i = 40 then 4 else 0) else (if i = 41 then 1 else 0)))) else (if i < 45 then (if i < 43 then (if i = 42 then 1 else 0) else (if i < 44 then (if i = 43 then 2 else 0) else (if i = 44 then 3 else 0))) else (if i < 46 then (if i = 45 then 1 else 0) else (if i < 47 then (if i = 46 then 1 else 0) else (if i = 47 then 2 else 0))))))) else (if i < 72 then (if i < 60 then (if i < 54 then (if i < 51 then (if i < 49 then (if i = 48 then 1 else 0) else (if i < 50 then (if i = 49 then 2 else 0) else (if i = 50 then 3 else 0))) else (if i < 52 then (if i = 51 then 1 else 0) else (if i < 53 then (if i = 52 then 2 else 0) else (if i = 53 then 2 else 0)))) else (if i < 57 then (if i < 55 then (if i = 54 then 4 else 0) else (if i < 56 then (if i = 55 then 1 else 0) else (if i = 56 then 2 else 0))) else (if i < 58 then (if i = 57 then 1 else 0) else (if i < 59 then (if i = 58 then 3 else 0) else (if i = 59 then 3 else 0))))) else (if i < 66 then (if i < 63 then (if i < 61 then (if i = 60 then 2 else 0) else (if i < 62 then (if i = 61 then 1 else 0) else (if i = 62 then 3 else 0))) else (if i < 64 then (if i = 63 then 1 else 0) else (if i < 65 then (if i = 64 then 2 else 0) else (if i = 65 then 3 else 0)))) else (if i < 69 then (if i < 67 then (if i = 66 then 4 else 0) else (if i < 68 then (if i = 67 then 4 else 0) else (if i = 68 then 4 else 0))) else (if i < 70 then (if i = 69 then 3 else 0) else (if i < 71 then (if i = 70 then 2 else 0) else (if i = 71 then 3 else 0)))))) else (if i < 84 then (if i < 78 then (if i < 75 then (if i < 73 then (if i = 72 then 2 else 0) else (if i < 74 then (if i = 73 then 2 else 0) else (if i = 74 then 2 else 0))) else (if i < 76 then (if i = 75 then 1 else 0) else (if i < 77 then (if i = 76 then 2 else 0) else (if i = 77 then 1 else 0)))) else (if i < 81 then (if i < 79 then (if i = 78 then 4 else 0) else (if i < 80 then (if i = 79 then 1 else 0) else (if i = 80 then 4 else 0))) else (if i < 82 then (if i = 81 then 4 else 0) else (if i < 83 then (if i = 82 then 5 else 0) else (if i = 83 then 5 else 0))))) else (if i < 90 then (if i < 87 then (if i < 85 then (if i = 84 then 3 else 0) else (if i < 86 then (if i = 85 then 2 else 0) else (if i = 86 then 3 else 0))) else (if i < 88 then (if i = 87 then 5 else 0) else (if i < 89 then (if i = 88 then 4 else 0) else (if i = 89 then 6 else 0)))) else (if i < 93 then (if i < 91 then (if i = 90 then 7 else 0) else (if i < 92 then (if i = 91 then 7 else 0) else (if i = 92 then 7 else 0))) else (if i < 94 then (if i = 93 then 7 else 0) else (if i < 95 then (if i = 94 then 7 else 0) else (if i = 95 then 7 else 0)))))))) else (if i < 144 then (if i < 120 then (if i < 108 then (if i < 102 then (if i < 99 then (if i < 97 then (if i = 96 then 7 else 0) else (if i < 98 then (if i = 97 then 7 else 0) else (if i = 98 then 7 else 0))) else (if i < 100 then (if i = 99 then 7 else 0) else (if i < 101 then (if i = 100 then 7 else 0) else (if i = 101 then 6 else 0)))) else (if i < 105 then (if i < 103 then (if i = 102 then 7 else 0) else (if i < 104 then (if i = 103 then 4 else 0) else (if i = 104 then 4 else 0))) else (if i < 106 then (if i = 105 then 4 else 0) else (if i < 107 then (if i = 106 then 6 else 0) else (if i = 107 then 6 else 0))))) else (if i < 114 then (if i < 111 then (if i < 109 then (if i = 108 then 6 else 0) else (if i < 110 then (if i = 109 then 7 else 0) else (if i = 110 then 4 else 0))) else (if i < 112 then (if i = 111 then 4 else 0) else (if i < 113 then (if i = 112 then 2 else 0) else (if i = 113 then 7 else 0)))) else (if i < 117 then (if i < 115 then (if i = 114 then 5 else 0) else (if i < 116 then (if i = 115 then 5 else 0) else (if i = 116 then 7 else 0))) else (if i < 118 then (if i = 117 then 1 else 0) else (if i < 119 then (if i = 118 then 2 else 0) else (if i = 119 then 1 else 0)))))) else (if i < 132 then (if i < 126 then (if i < 123 then (if i < 121 then (if i = 120 then 1 else 0) else (if i < 122 then (if i = 121 then 1 else 0) else (if i = 122 then 2 else 0))) else (if i < 124 then (if i = 123 then 1 else 0) else (if i < 125 then (if i = 124 then 1 else 0) else (if i = 125 then 2 else 0)))) else (if i < 129 then (if i < 127 then (if i = 126 then 2 else 0) else (if i < 128 then (if i = 127 then 2 else 0) else (if i = 128 then 3 else 0))) else (if i < 130 then (if i = 129 then 3 else 0) else (if i < 131 then (if i = 130 then 4 else 0) else (if i = 131 then 5 else 0))))) else (if i < 138 then (if i < 135 then (if i < 133 then (if i = 132 then 5 else 0) else (if i < 134 then (if i = 133 then 2 else 0) else (if i = 134 then 6 else 0))) else (if i < 136 then (if i = 135 then 7 else 0) else (if i < 137 then (if i = 136 then 2 else 0) else (if i = 137 then 2 else 0)))) else (if i < 141 then (if i < 139 then (if i = 138 then 2 else 0) else (if i < 140 then (if i = 139 then 3 else 0) else (if i = 140 then 3 else 0))) else (if i < 142 then (if i = 141 then 2 else 0) else (if i < 143 then (if i = 142 then 2 else 0) else (if i = 143 then 2 else 0))))))) else (if i < 168 then (if i < 156 then (if i < 150 then (if i < 147 then (if i < 145 then (if i = 144 then 2 else 0) else (if i < 146 then (if i = 145 then 3 else 0) else (if i = 146 then 4 else 0))) else (if i < 148 then (if i = 147 then 3 else 0) else (if i < 149 then (if i = 148 then 3 else 0) else (if i = 149 then 3 else 0)))) else (if i < 153 then (if i < 151 then (if i = 150 then 4 else 0) else (if i < 152 then (if i = 151 then 3 else 0) else (if i = 152 then 2 else 0))) else (if i < 154 then (if i = 153 then 2 else 0) else (if i < 155 then (if i = 154 then 2 else 0) else (if i = 155 then 6 else 0))))) else (if i < 162 then (if i < 159 then (if i < 157 then (if i = 156 then 6 else 0) else (if i < 158 then (if i = 157 then 6 else 0) else (if i = 158 then 3 else 0))) else (if i < 160 then (if i = 159 then 5 else 0) else (if i < 161 then (if i = 160 then 4 else 0) else (if i = 161 then 4 else 0)))) else (if i < 165 then (if i < 163 then (if i = 162 then 4 else 0) else (if i < 164 then (if i = 163 then 4 else 0) else (if i = 164 then 6 else 0))) else (if i < 166 then (if i = 165 then 8 else 0) else (if i < 167 then (if i = 166 then 1 else 0) else (if i = 167 then 4 else 0)))))) else (if i < 180 then (if i < 174 then (if i < 171 then (if i < 169 then (if i = 168 then 3 else 0) else (if i < 170 then (if i = 169 then 4 else 0) else (if i = 170 then 3 else 0))) else (if i < 172 then (if i = 171 then 4 else 0) else (if i < 173 then (if i = 172 then 5 else 0) else (if i = 173 then 7 else 0)))) else (if i < 177 then (if i < 175 then (if i = 174 then 8 else 0) else (if i < 176 then (if i = 175 then 8 else 0) else (if i = 176 then 8 else 0))) else (if i < 178 then (if i = 177 then 2 else 0) else (if i < 179 then (if i = 178 then 3 else 0) else (if i = 179 then 1 else 0))))) else (if i < 186 then (if i < 183 then (if i < 181 then (if i = 180 then 2 else 0) else (if i < 182 then (if i = 181 then 3 else 0) else (if i = 182 then 4 else 0))) else (if i < 184 then (if i = 183 then 4 else 0) else (if i < 185 then (if i = 184 then 5 else 0) else (if i = 185 then 6 else 0)))) else (if i < 189 then (if i < 187 then (if i = 186 then 5 else 0) else (if i < 188 then (if i = 187 then 8 else 0) else (if i = 188 then 9 else 0))) else (if i < 191 then (if i < 190 then (if i = 189 then 2 else 0) else (if i = 190 then 1 else 0)) else (if i < 192 then (if i = 191 then 2 else 0) else (if i = 192 then 3 else 0))))))))
def xt_ops (i pc : Nat) : Option (Instr × Nat) := if i < 96 then (if i < 48 then (if i < 24 then (if i < 12 then (if i < 6 then (if i < 3 then (if i < 1 then (if i = 0 then xo_0 pc else none) else (if i < 2 then (if i = 1 then xo_1 pc else none) else (if i = 2 then xo_2 pc else none))) else (if i < 4 then (if i = 3 then xo_3 pc else none) else (if i < 5 then (if i = 4 then xo_4 pc else none) else (if i = 5 then xo_5 pc else none)))) else (if i < 9 then (if i < 7 then (if i = 6 then xo_6 pc else none) else (if i < 8 then (if i = 7 then xo_7 pc else none) else (if i = 8 then xo_8 pc else none))) else (if i < 10 then (if i = 9 then xo_9 pc else none) else (if i < 11 then (if i = 10 then xo_10 pc else none) else (if i = 11 then xo_11 pc else none))))) else (if i < 18 then (if i < 15 then (if i < 13 then (if i = 12 then xo_12 pc else none) else (if i < 14 then (if i = 13 then xo_13 pc else none) else (if i = 14 then xo_14 pc else none))) else (if i < 16 then (if i = 15 then xo_15 pc else none) else (if i < 17 then (if i = 16 then xo_16 pc else none) else (if i = 17 then xo_17 pc else none)))) else (if i < 21 then (if i < 19 then (if i = 18 then xo_18 pc else none) else (if i < 20 then (if i = 19 then xo_19 pc else none) else (if i = 20 then xo_20 pc else none))) else (if i < 22 then (if i = 21 then xo_21 pc else none) else (if i < 23 then (if i = 22 then xo_22 pc else none) else (if i = 23 then xo_23 pc else none)))))) else (if i < 36 then (if i < 30 then (if i < 27 then (if i < 25 then (if i = 24 then xo_24 pc else none) else (if i < 26 then (if i = 25 then xo_25 pc else none) else (if i = 26 then xo_26 pc else none))) else (if i < 28 then (if i = 27 then xo_27 pc else none) else (if i < 29 then (if i = 28 then xo_28 pc else none) else (if i = 29 then xo_29 pc else none)))) else (if i < 33 then (if i < 31 then (if i = 30 then xo_30 pc else none) else (if i < 32 then (if i = 31 then xo_31 pc else none) else (if i = 32 then xo_32 pc else none))) else (if i < 34 then (if i = 33 then xo_33 pc else none) else (if i < 35 then (if i = 34 then xo_34 pc else none) else (if i = 35 then xo_35 pc else none))))) else (if i < 42 then (if i < 39 then (if i < 37 then (if i = 36 then xo_36 pc else none) else (if i < 38 then (if i = 37 then xo_37 pc else none) else (if i = 38 then xo_38 pc else none))) else (if i < 40 then (if i = 39 then xo_39 pc else none) else (if i < 41 then (if i = 40 then xo_40 pc else none) else (if i = 41 then xo_41 pc else none)))) else (if i < 45 then (if i < 43 then (if i = 42 then xo_42 pc else none) else (if i < 44 then (if i = 43 then xo_43 pc else none) else (if i = 44 then xo_44 pc else none))) else (if i < 46 then (if i = 45 then xo_45 pc else none) else (if i < 47 then (if i = 46 then xo_46 pc else none) else (if i = 47 then xo_47 pc else none))))))) else (if i < 72 then (if i < 60 then (if i < 54 then (if i < 51 then (if i < 49 then (if i = 48 then xo_48 pc else none) else (if i < 50 then (if i = 49 then xo_49 pc else none) else (if i = 50 then xo_50 pc else none))) else (if i < 52 then (if i = 51 then xo_51 pc else none) else (if i < 53 then (if i = 52 then xo_52 pc else none) else (if i = 53 then xo_53 pc else none)))) else (if i < 57 then (if i < 55 then (if i = 54 then xo_54 pc else none) else (if i < 56 then (if i = 55 then xo_55 pc else none) else (if i = 56 then xo_56 pc else none))) else (if i < 58 then (if i = 57 then xo_57 pc else none) else (if i < 59 then (if i = 58 then xo_58 pc else none) else (if i = 59 then xo_59 pc else none))))) else (if i < 66 then (if i < 63 then (if i < 61 then (if i = 60 then xo_60 pc else none) else (if i < 62 then (if i = 61 then xo_61 pc else none) else (if i = 62 then xo_62 pc else none))) else (if i < 64 then (if i = 63 then xo_63 pc else none) else (if i < 65 then (if i = 64 then xo_64 pc else none) else (if i = 65 then xo_65 pc else none)))) else (if i < 69 then (if i < 67 then (if i = 66 then xo_66 pc else none) else (if i < 68 then (if i = 67 then xo_67 pc else none) else (if i = 68 then xo_68 pc else none))) else (if i < 70 then (if i = 69 then xo_69 pc else none) else (if i < 71 then (if i = 70 then xo_70 pc else none) else (if i = 71 then xo_71 pc else none)))))) else (if i < 84 then (if i < 78 then (if i < 75 then (if i < 73 then (if i = 72 then xo_72 pc else none) else (if i < 74 then (if i = 73 then xo_73 pc else none) else (if i = 74 then xo_74 pc else none))) else (if i < 76 then (if i = 75 then xo_75 pc else none) else (if i < 77 then (if i = 76 then xo_76 pc else none) else (if i = 77 then xo_77 pc else none)))) else (if i < 81 then (if i < 79 then (if i = 78 then xo_78 pc else none) else (if i < 80 then (if i = 79 then xo_79 pc else none) else (if i = 80 then xo_80 pc else none))) else (if i < 82 then (if i = 81 then xo_81 pc else none) else (if i < 83 then (if i = 82 then xo_82 pc else none) else (if i = 83 then xo_83 pc else none))))) else (if i < 90 then (if i < 87 then (if i < 85 then (if i = 84 then xo_84 pc else none) else (if i < 86 then (if i = 85 then xo_85 pc else none) else (if i = 86 then xo_86 pc else none))) else (if i < 88 then (if i = 87 then xo_87 pc else none) else (if i < 89 then (if i = 88 then xo_88 pc else none) else (if i = 89 then xo_89 pc else none)))) else (if i < 93 then (if i < 91 then (if i = 90 then xo_90 pc else none) else (if i < 92 then (if i = 91 then xo_91 pc else none) else (if i = 92 then xo_92 pc else none))) else (if i < 94 then (if i = 93 then xo_93 pc else none) else (if i < 95 then (if i = 94 then xo_94 pc else none) else (if i = 95 then xo_95 pc else none)))))))) else (if i < 144 then (if i < 120 then (if i < 108 then (if i < 102 then (if i < 99 then (if i < 97 then (if i = 96 then xo_96 pc else none) else (if i < 98 then (if i = 97 then xo_97 pc else none) else (if i = 98 then xo_98 pc else none))) else (if i < 100 then (if i = 99 then xo_99 pc else none) else (if i < 101 then (if i = 100 then xo_100 pc else none) else (if i = 101 then xo_101 pc else none)))) else (if i < 105 then (if i < 103 then (if i = 102 then xo_102 pc else none) else (if i < 104 then (if i = 103 then xo_103 pc else none) else (if i = 104 then xo_104 pc else none))) else (if i < 106 then (if i = 105 then xo_105 pc else none) else (if i < 107 then (if i = 106 then xo_106 pc else none) else (if i = 107 then xo_107 pc else none))))) else (if i < 114 then (if i < 111 then (if i < 109 then (if i = 108 then xo_108 pc else none) else (if i < 110 then (if i = 109 then xo_109 pc else none) else (if i = 110 then xo_110 pc else none))) else (if i < 112 then (if i = 111 then xo_111 pc else none) else (if i < 113 then (if i = 112 then xo_112 pc else none) else (if i = 113 then xo_113 pc else none)))) else (if i < 117 then (if i < 115 then (if i = 114 then xo_114 pc else none) else (if i < 116 then (if i = 115 then xo_115 pc else none) else (if i = 116 then xo_116 pc else none))) else (if i < 118 then (if i = 117 then xo_117 pc else none) else (if i < 119 then (if i = 118 then xo_118 pc else none) else (if i = 119 then xo_119 pc else none)))))) else (if i < 132 then (if i < 126 then (if i < 123 then (if i < 121 then (if i = 120 then xo_120 pc else none) else (if i < 122 then (if i = 121 then xo_121 pc else none) else (if i = 122 then xo_122 pc else none))) else (if i < 124 then (if i = 123 then xo_123 pc else none) else (if i < 125 then (if i = 124 then xo_124 pc else none) else (if i = 125 then xo_125 pc else none)))) else (if i < 129 then (if i < 127 then (if i = 126 then xo_126 pc else none) else (if i < 128 then (if i = 127 then xo_127 pc else none) else (if i = 128 then xo_128 pc else none))) else (if i < 130 then (if i = 129 then xo_129 pc else none) else (if i < 131 then (if i = 130 then xo_130 pc else none) else (if i = 131 then xo_131 pc else none))))) else (if i < 138 then (if i < 135 then (if i < 133 then (if i = 132 then xo_132 pc else none) else (if i < 134 then (if i = 133 then xo_133 pc else none) else (if i = 134 then xo_134 pc else none))) else (if i < 136 then (if i = 135 then xo_135 pc else none) else (if i < 137 then (if i = 136 then xo_136 pc else none) else (if i = 137 then xo_137 pc else none)))) else (if i < 141 then (if i < 139 then (if i = 138 then xo_138 pc else none) else (if i < 140 then (if i = 139 then xo_139 pc else none) else (if i = 140 then xo_140 pc else none))) else (if i < 142 then (if i = 141 then xo_141 pc else none) else (if i < 143 then (if i = 142 then xo_142 pc else none) else (if i = 143 then xo_143 pc else none))))))) else (if i < 168 then (if i < 156 then (if i < 150 then (if i < 147 then (if i < 145 then (if i = 144 then xo_144 pc else none) else (if i < 146 then (if i = 145 then xo_145 pc else none) else (if i = 146 then xo_146 pc else none))) else (if i < 148 then (if i = 147 then xo_147 pc else none) else (if i < 149 then (if i = 148 then xo_148 pc else none) else (if i = 149 then xo_149 pc else none)))) else (if i < 153 then (if i < 151 then (if i = 150 then xo_150 pc else none) else (if i < 152 then (if i = 151 then xo_151 pc else none) else (if i = 152 then xo_152 pc else none))) else (if i < 154 then (if i = 153 then xo_153 pc else none) else (if i < 155 then (if i = 154 then xo_154 pc else none) else (if i = 155 then xo_155 pc else none))))) else (if i < 162 then (if i < 159 then (if i < 157 then (if i = 156 then xo_156 pc else none) else (if i < 158 then (if i = 157 then xo_157 pc else none) else (if i = 158 then xo_158 pc else none))) else (if i < 160 then (if i = 159 then xo_159 pc else none) else (if i < 161 then (if i = 160 then xo_160 pc else none) else (if i = 161 then xo_161 pc else none)))) else (if i < 165 then (if i < 163 then (if i = 162 then xo_162 pc else none) else (if i < 164 then (if i = 163 then xo_163 pc else none) else (if i = 164 then xo_164 pc else none))) else (if i < 166 then (if i = 165 then xo_165 pc else none) else (if i < 167 then (if i = 166 then xo_166 pc else none) else (if i = 167 then xo_167 pc else none)))))) else (if i < 180 then (if i < 174 then (if i < 171 then (if i < 169 then (if i = 168 then xo_168 pc else none) else (if i < 170 then (if i = 169 then xo_169 pc else none) else (if i = 170 then xo_170 pc else none))) else (if i < 172 then (if i = 171 then xo_171 pc else none) else (if i < 173 then (if i = 172 then xo_172 pc else none) else (if i = 173 then xo_173 pc else none)))) else (if i < 177 then (if i < 175 then (if i = 174 then xo_174 pc else none) else (if i < 176 then (if i = 175 then xo_175 pc else none) else (if i = 176 then xo_176 pc else none))) else (if i < 178 then (if i = 177 then xo_177 pc else none) else (if i < 179 then (if i = 178 then xo_178 pc else none) else (if i = 179 then xo_179 pc else none))))) else (if i < 186 then (if i < 183 then (if i < 181 then (if i = 180 then xo_180 pc else none) else (if i < 182 then (if i = 181 then xo_181 pc else none) else (if i = 182 then xo_182 pc else none))) else (if i < 184 then (if i = 183 then xo_183 pc else none) else (if i < 185 then (if i = 184 then xo_184 pc else none) else (if i = 185 then xo_185 pc else none)))) else (if i < 189 then (if i < 187 then (if i = 186 then xo_186 pc else none) else (if i < 188 then (if i = 187 then xo_187 pc else none) else (if i = 188 then xo_188 pc else none))) else (if i < 191 then (if i < 190 then (if i = 189 then xo_189 pc else none) else (if i = 190 then xo_190 pc else none)) else (if i < 192 then (if i = 191 then xo_191 pc else none) else (if i = 192 then xo_192 pc else none))))))))
def xt_R_ (k : Nat) : String := if k < 5 then (if k < 2 then (if k < 1 then (if k = 0 then RX0 else "") else (if k = 1 then RX1 else "")) else (if k < 3 then (if k = 2 then RX2 else "") else (if k < 4 then (if k = 3 then RX3 else "") else (if k = 4 then RX4 else "")))) else (if k < 7 then (if k < 6 then (if k = 5 then RX5 else "") else (if k = 6 then RX6 else "")) else (if k < 8 then (if k = 7 then RX7 else "") else (if k < 9 then (if k = 8 then RJ6 else "") else (if k = 9 then RL else ""))))
def xt_call9 (ix : Nat) : Option (Nat × (Nat × Nat)) := if ix < 66 then (if ix < 39 then (if ix < 23 then (if ix < 17 then (if ix < 12 then (if ix = 9 then some (88, 1, 4) else none) else (if ix < 13 then (if ix = 12 then some (118, 1, 4) else none) else (if ix = 13 then some (90, 3, 2) else none))) else (if ix < 18 then (if ix = 17 then some (155, 3, 2) else none) else (if ix < 22 then (if ix = 18 then some (91, 4, 2) else none) else (if ix = 22 then some (156, 4, 2) else none)))) else (if ix < 31 then (if ix < 27 then (if ix = 23 then some (92, 2, 2) else none) else (if ix < 28 then (if ix = 27 then some (157, 2, 2) else none) else (if ix = 28 then some (93, 3, 2) else none))) else (if ix < 35 then (if ix < 32 then (if ix = 31 then some (158, 3, 2) else none) else (if ix = 32 then some (94, 2, 2) else none)) else (if ix < 36 then (if ix = 35 then some (159, 2, 2) else none) else (if ix = 36 then some (95, 2, 2) else none))))) else (if ix < 51 then (if ix < 44 then (if ix < 40 then (if ix = 39 then some (160, 2, 2) else none) else (if ix < 43 then (if ix = 40 then some (96, 2, 2) else none) else (if ix = 43 then some (161, 2, 2) else none))) else (if ix < 47 then (if ix = 44 then some (97, 2, 2) else none) else (if ix < 48 then (if ix = 47 then some (162, 2, 2) else none) else (if ix = 48 then some (98, 2, 2) else none)))) else (if ix < 57 then (if ix < 52 then (if ix = 51 then some (163, 2, 2) else none) else (if ix < 56 then (if ix = 52 then some (99, 4, 2) else none) else (if ix = 56 then some (164, 4, 2) else none))) else (if ix < 61 then (if ix < 60 then (if ix = 57 then some (100, 2, 2) else none) else (if ix = 60 then some (165, 2, 2) else none)) else (if ix < 65 then (if ix = 61 then some (102, 1, 2) else none) else (if ix = 65 then some (188, 1, 2) else none)))))) else (if ix < 93 then (if ix < 78 then (if ix < 73 then (if ix < 69 then (if ix = 66 then some (103, 3, 2) else none) else (if ix < 70 then (if ix = 69 then some (167, 3, 2) else none) else (if ix = 70 then some (104, 3, 2) else none))) else (if ix < 74 then (if ix = 73 then some (169, 3, 2) else none) else (if ix < 77 then (if ix = 74 then some (105, 4, 2) else none) else (if ix = 77 then some (170, 4, 2) else none)))) else (if ix < 85 then (if ix < 81 then (if ix = 78 then some (106, 2, 2) else none) else (if ix < 82 then (if ix = 81 then some (172, 2, 2) else none) else (if ix = 82 then some (107, 2, 2) else none))) else (if ix < 89 then (if ix < 86 then (if ix = 85 then some (174, 2, 2) else none) else (if ix = 86 then some (109, 4, 2) else none)) else (if ix < 90 then (if ix = 89 then some (175, 4, 2) else none) else (if ix = 90 then some (110, 3, 2) else none))))) else (if ix < 108 then (if ix < 101 then (if ix < 96 then (if ix = 93 then some (176, 3, 2) else none) else (if ix < 100 then (if ix = 96 then some (111, 2, 2) else none) else (if ix = 100 then some (178, 2, 2) else none))) else (if ix < 104 then (if ix = 101 then some (112, 1, 2) else none) else (if ix < 105 then (if ix = 104 then some (179, 1, 2) else none) else (if ix = 105 then some (113, 1, 2) else none)))) else (if ix < 113 then (if ix < 109 then (if ix = 108 then some (185, 1, 2) else none) else (if ix < 112 then (if ix = 109 then some (114, 1, 2) else none) else (if ix = 112 then some (189, 1, 2) else none))) else (if ix < 117 then (if ix < 116 then (if ix = 113 then some (115, 2, 2) else none) else (if ix = 116 then some (191, 2, 2) else none)) else (if ix < 120 then (if ix = 117 then some (116, 2, 2) else none) else (if ix = 120 then some (192, 2, 2) else none))))))
def xt_call0 (ix : Nat) : Option (Nat × (Nat × Nat)) := if ix < 52 then (if ix < 44 then (if ix = 9 then some (1, 0, 1) else none) else (if ix < 48 then (if ix = 44 then some (5, 2, 2) else none) else (if ix = 48 then some (9, 4, 2) else none))) else (if ix < 56 then (if ix = 52 then some (8, 2, 2) else none) else (if ix < 59 then (if ix = 56 then some (6, 2, 2) else none) else (if ix = 59 then some (15, 1, 1) else none)))
def xt_call1 (ix : Nat) : Option (Nat × (Nat × Nat)) := if ix < 39 then (if ix < 21 then (if ix < 18 then (if ix = 11 then some (20, 1, 5) else none) else (if ix = 18 then some (22, 1, 2) else none)) else (if ix < 29 then (if ix = 21 then some (29, 1, 2) else none) else (if ix < 35 then (if ix = 29 then some (30, 1, 2) else none) else (if ix = 35 then some (25, 2, 2) else none)))) else (if ix < 53 then (if ix < 50 then (if ix = 39 then some (24, 3, 2) else none) else (if ix = 50 then some (28, 1, 2) else none)) else (if ix < 60 then (if ix = 53 then some (23, 2, 2) else none) else (if ix < 63 then (if ix = 60 then some (26, 1, 2) else none) else (if ix = 63 then some (27, 1, 2) else none))))
def xt_call4 (ix : Nat) : Option (Nat × (Nat × Nat)) := if ix < 63 then (if ix < 52 then (if ix < 44 then (if ix = 9 then some (1, 0, 1) else none) else (if ix < 48 then (if ix = 44 then some (46, 1, 1) else none) else (if ix = 48 then some (49, 2, 2) else none))) else (if ix < 56 then (if ix = 52 then some (48, 3, 2) else none) else (if ix < 60 then (if ix = 56 then some (15, 1, 1) else none) else (if ix = 60 then some (50, 2, 2) else none)))) else (if ix < 73 then (if ix < 67 then (if ix = 63 then some (55, 2, 2) else none) else (if ix < 70 then (if ix = 67 then some (47, 2, 2) else none) else (if ix = 70 then some (57, 2, 2) else none))) else (if ix < 76 then (if ix = 73 then some (53, 2, 2) else none) else (if ix < 80 then (if ix = 76 then some (60, 3, 2) else none) else (if ix = 80 then some (61, 1, 1) else none))))
def xt_call5 (ix : Nat) : Option (Nat × (Nat × Nat)) := if ix < 133 then (if ix < 88 then (if ix < 67 then (if ix < 46 then (if ix < 35 then (if ix = 28 then some (34, 1, 5) else none) else (if ix = 35 then some (2, 1, 5) else none)) else (if ix < 50 then (if ix = 46 then some (36, 2, 2) else none) else (if ix < 57 then (if ix = 50 then some (3, 2, 2) else none) else (if ix = 57 then some (42, 3, 1) else none)))) else (if ix < 77 then (if ix < 70 then (if ix = 67 then some (65, 1, 2) else none) else (if ix < 74 then (if ix = 70 then some (61, 1, 1) else none) else (if ix = 74 then some (46, 1, 1) else none))) else (if ix < 80 then (if ix = 77 then some (47, 2, 2) else none) else (if ix < 84 then (if ix = 80 then some (48, 3, 2) else none) else (if ix = 84 then some (51, 2, 2) else none))))) else (if ix < 108 then (if ix < 94 then (if ix < 91 then (if ix = 88 then some (64, 2, 2) else none) else (if ix = 91 then some (53, 2, 2) else none)) else (if ix < 98 then (if ix = 94 then some (56, 5, 2) else none) else (if ix < 102 then (if ix = 98 then some (59, 5, 2) else none) else (if ix = 102 then some (50, 2, 2) else none)))) else (if ix < 121 then (if ix < 112 then (if ix = 108 then some (57, 2, 2) else none) else (if ix < 118 then (if ix = 112 then some (55, 2, 2) else none) else (if ix = 118 then some (4, 2, 2) else none))) else (if ix < 124 then (if ix = 121 then some (6, 2, 2) else none) else (if ix < 127 then (if ix = 124 then some (70, 2, 2) else none) else (if ix = 127 then some (7, 5, 2) else none)))))) else (if ix < 184 then (if ix < 156 then (if ix < 146 then (if ix < 136 then (if ix = 133 then some (8, 2, 2) else none) else (if ix = 136 then some (5, 2, 2) else none)) else (if ix < 149 then (if ix = 146 then some (76, 2, 2) else none) else (if ix < 152 then (if ix = 149 then some (77, 2, 2) else none) else (if ix = 152 then some (11, 4, 2) else none)))) else (if ix < 170 then (if ix < 159 then (if ix = 156 then some (79, 1, 1) else none) else (if ix < 167 then (if ix = 159 then some (63, 1, 0) else none) else (if ix = 167 then some (81, 1, 2) else none))) else (if ix < 173 then (if ix = 170 then some (58, 2, 2) else none) else (if ix < 176 then (if ix = 173 then some (12, 2, 2) else none) else (if ix = 176 then some (60, 3, 2) else none))))) else (if ix < 205 then (if ix < 190 then (if ix < 187 then (if ix = 184 then some (13, 2, 2) else none) else (if ix = 187 then some (75, 2, 2) else none)) else (if ix < 199 then (if ix = 190 then some (49, 2, 2) else none) else (if ix < 202 then (if ix = 199 then some (14, 2, 2) else none) else (if ix = 202 then some (85, 2, 2) else none)))) else (if ix < 215 then (if ix < 209 then (if ix = 205 then some (52, 1, 2) else none) else (if ix < 212 then (if ix = 209 then some (54, 1, 2) else none) else (if ix = 212 then some (16, 1, 2) else none))) else (if ix < 218 then (if ix = 215 then some (17, 1, 2) else none) else (if ix < 221 then (if ix = 218 then some (18, 1, 2) else none) else (if ix = 221 then some (19, 1, 2) else none))))))
def xt_call6 (ix : Nat) : Option (Nat × (Nat × Nat)) := if ix < 95 then (if ix < 62 then (if ix < 44 then (if ix < 35 then (if ix < 24 then (if ix = 11 then some (35, 1, 5) else none) else (if ix = 24 then some (32, 1, 5) else none)) else (if ix < 40 then (if ix = 35 then some (21, 1, 5) else none) else (if ix = 40 then some (37, 2, 2) else none))) else (if ix < 52 then (if ix < 48 then (if ix = 44 then some (66, 3, 2) else none) else (if ix = 48 then some (89, 2, 2) else none)) else (if ix < 56 then (if ix = 52 then some (67, 4, 2) else none) else (if ix < 59 then (if ix = 56 then some (68, 2, 2) else none) else (if ix = 59 then some (69, 3, 2) else none))))) else (if ix < 77 then (if ix < 68 then (if ix < 65 then (if ix = 62 then some (71, 2, 2) else none) else (if ix = 65 then some (72, 2, 2) else none)) else (if ix < 71 then (if ix = 68 then some (73, 2, 2) else none) else (if ix < 74 then (if ix = 71 then some (74, 2, 2) else none) else (if ix = 74 then some (78, 2, 2) else none)))) else (if ix < 84 then (if ix < 81 then (if ix = 77 then some (80, 4, 2) else none) else (if ix = 81 then some (82, 2, 2) else none)) else (if ix < 88 then (if ix = 84 then some (31, 1, 2) else none) else (if ix < 91 then (if ix = 88 then some (22, 1, 2) else none) else (if ix = 91 then some (29, 1, 2) else none)))))) else (if ix < 143 then (if ix < 117 then (if ix < 105 then (if ix < 98 then (if ix = 95 then some (101, 1, 2) else none) else (if ix = 98 then some (30, 1, 2) else none)) else (if ix < 110 then (if ix = 105 then some (45, 1, 2) else none) else (if ix < 114 then (if ix = 110 then some (61, 1, 0) else none) else (if ix = 114 then some (84, 3, 2) else none)))) else (if ix < 127 then (if ix < 120 then (if ix = 117 then some (46, 1, 0) else none) else (if ix = 120 then some (86, 3, 2) else none)) else (if ix < 137 then (if ix = 127 then some (62, 4, 2) else none) else (if ix < 140 then (if ix = 137 then some (87, 2, 2) else none) else (if ix = 140 then some (50, 2, 2) else none))))) else (if ix < 163 then (if ix < 150 then (if ix < 146 then (if ix = 143 then some (83, 2, 2) else none) else (if ix = 146 then some (42, 3, 0) else none)) else (if ix < 153 then (if ix = 150 then some (47, 2, 2) else none) else (if ix < 160 then (if ix = 153 then some (108, 4, 2) else none) else (if ix = 160 then some (77, 2, 2) else none)))) else (if ix < 172 then (if ix < 168 then (if ix = 163 then some (10, 3, 2) else none) else (if ix = 168 then some (44, 2, 2) else none)) else (if ix < 176 then (if ix = 172 then some (40, 2, 2) else none) else (if ix < 183 then (if ix = 176 then some (38, 2, 0) else none) else (if ix = 183 then some (39, 2, 2) else none))))))
def xt_call2 (ix : Nat) : Option (Nat × (Nat × Nat)) := if ix < 24 then (if ix = 21 then some (33, 1, 2) else none) else (if ix < 28 then (if ix = 24 then some (38, 2, 1) else none) else (if ix = 28 then some (37, 2, 2) else none))
def xt_call3 (ix : Nat) : Option (Nat × (Nat × Nat)) := if ix < 23 then (if ix = 15 then some (43, 1, 0) else none) else (if ix < 27 then (if ix = 23 then some (41, 2, 0) else none) else (if ix = 27 then some (42, 3, 1) else none))
def xt_call7 (ix : Nat) : Option (Nat × (Nat × Nat)) := if ix < 120 then (if ix < 66 then (if ix < 46 then (if ix < 35 then (if ix < 28 then (if ix = 20 then some (117, 2, 0) else none) else (if ix < 32 then (if ix = 28 then some (121, 3, 2) else none) else (if ix = 32 then some (124, 3, 2) else none))) else (if ix < 39 then (if ix = 35 then some (120, 1, 0) else none) else (if ix < 43 then (if ix = 39 then some (123, 3, 0) else none) else (if ix = 43 then some (127, 4, 2) else none)))) else (if ix < 55 then (if ix < 49 then (if ix = 46 then some (129, 3, 2) else none) else (if ix < 52 then (if ix = 49 then some (126, 3, 2) else none) else (if ix = 52 then some (125, 3, 2) else none))) else (if ix < 59 then (if ix = 55 then some (130, 5, 2) else none) else (if ix < 62 then (if ix = 59 then some (133, 3, 2) else none) else (if ix = 62 then some (131, 2, 2) else none))))) else (if ix < 92 then (if ix < 77 then (if ix < 69 then (if ix = 66 then some (134, 2, 2) else none) else (if ix < 72 then (if ix = 69 then some (138, 3, 2) else none) else (if ix = 72 then some (137, 4, 2) else none))) else (if ix < 85 then (if ix = 77 then some (119, 3, 0) else none) else (if ix < 89 then (if ix = 85 then some (141, 1, 0) else none) else (if ix = 89 then some (142, 1, 0) else none)))) else (if ix < 102 then (if ix < 95 then (if ix = 92 then some (143, 1, 0) else none) else (if ix < 98 then (if ix = 95 then some (144, 2, 2) else none) else (if ix = 98 then some (136, 3, 2) else none))) else (if ix < 114 then (if ix < 111 then (if ix = 102 then some (140, 3, 2) else none) else (if ix = 111 then some (154, 2, 0) else none)) else (if ix < 117 then (if ix = 114 then some (122, 1, 2) else none) else (if ix = 117 then some (145, 4, 2) else none)))))) else (if ix < 162 then (if ix < 139 then (if ix < 130 then (if ix < 124 then (if ix = 120 then some (132, 5, 2) else none) else (if ix < 127 then (if ix = 124 then some (128, 3, 2) else none) else (if ix = 127 then some (146, 2, 2) else none))) else (if ix < 133 then (if ix = 130 then some (150, 2, 2) else none) else (if ix < 136 then (if ix = 133 then some (147, 2, 2) else none) else (if ix = 136 then some (151, 2, 2) else none)))) else (if ix < 148 then (if ix < 142 then (if ix = 139 then some (152, 2, 2) else none) else (if ix < 145 then (if ix = 142 then some (148, 2, 2) else none) else (if ix = 145 then some (153, 2, 2) else none))) else (if ix < 156 then (if ix < 153 then (if ix = 148 then some (139, 3, 2) else none) else (if ix = 153 then some (149, 2, 2) else none)) else (if ix < 159 then (if ix = 156 then some (135, 3, 2) else none) else (if ix = 159 then some (166, 2, 2) else none))))) else (if ix < 199 then (if ix < 180 then (if ix < 165 then (if ix = 162 then some (168, 3, 2) else none) else (if ix < 171 then (if ix = 165 then some (171, 2, 2) else none) else (if ix = 171 then some (173, 2, 2) else none))) else (if ix < 187 then (if ix = 180 then some (177, 1, 0) else none) else (if ix < 190 then (if ix = 187 then some (180, 3, 2) else none) else (if ix = 190 then some (181, 3, 2) else none)))) else (if ix < 216 then (if ix < 203 then (if ix = 199 then some (183, 1, 2) else none) else (if ix < 213 then (if ix = 203 then some (182, 1, 2) else none) else (if ix = 213 then some (184, 1, 2) else none))) else (if ix < 222 then (if ix < 219 then (if ix = 216 then some (185, 1, 2) else none) else (if ix = 219 then some (186, 1, 2) else none)) else (if ix < 225 then (if ix = 222 then some (187, 1, 2) else none) else (if ix = 225 then some (190, 1, 0) else none))))))
def xt_call (k ix : Nat) : Option (Nat × (Nat × Nat)) := if 10 ≤ k ∨ 300 ≤ ix then none else if k < 4 then (if k < 2 then (if k < 1 then (if k = 0 then xt_call0 ix else none) else (if k = 1 then xt_call1 ix else none)) else (if k < 3 then (if k = 2 then xt_call2 ix else none) else (if k = 3 then xt_call3 ix else none))) else (if k < 6 then (if k < 5 then (if k = 4 then xt_call4 ix else none) else (if k = 5 then xt_call5 ix else none)) else (if k < 7 then (if k = 6 then xt_call6 ix else none) else (if k < 9 then (if k = 7 then xt_call7 ix else none) else (if k = 9 then xt_call9 ix else none))))
def xt_calls : List (Nat × (Nat × (Nat × (Nat × Nat)))) := [(0, 9, 1, 0, 1), (0, 44, 5, 2, 2), (0, 48, 9, 4, 2), (0, 52, 8, 2, 2), (0, 56, 6, 2, 2), (0, 59, 15, 1, 1), (1, 11, 20, 1, 5), (1, 18, 22, 1, 2), (1, 21, 29, 1, 2), (1, 29, 30, 1, 2), (1, 35, 25, 2, 2), (1, 39, 24, 3, 2), (1, 50, 28, 1, 2), (1, 53, 23, 2, 2), (1, 60, 26, 1, 2), (1, 63, 27, 1, 2), (2, 21, 33, 1, 2), (2, 24, 38, 2, 1), (2, 28, 37, 2, 2), (3, 15, 43, 1, 0), (3, 23, 41, 2, 0), (3, 27, 42, 3, 1), (4, 9, 1, 0, 1), (4, 44, 46, 1, 1), (4, 48, 49, 2, 2), (4, 52, 48, 3, 2), (4, 56, 15, 1, 1), (4, 60, 50, 2, 2), (4, 63, 55, 2, 2), (4, 67, 47, 2, 2), (4, 70, 57, 2, 2), (4, 73, 53, 2, 2), (4, 76, 60, 3, 2), (4, 80, 61, 1, 1), (5, 28, 34, 1, 5), (5, 35, 2, 1, 5), (5, 46, 36, 2, 2), (5, 50, 3, 2, 2), (5, 57, 42, 3, 1), (5, 67, 65, 1, 2), (5, 70, 61, 1, 1), (5, 74, 46, 1, 1), (5, 77, 47, 2, 2), (5, 80, 48, 3, 2), (5, 84, 51, 2, 2), (5, 88, 64, 2, 2), (5, 91, 53, 2, 2), (5, 94, 56, 5, 2), (5, 98, 59, 5, 2), (5, 102, 50, 2, 2), (5, 108, 57, 2, 2), (5, 112, 55, 2, 2), (5, 118, 4, 2, 2), (5, 121, 6, 2, 2), (5, 124, 70, 2, 2), (5, 127, 7, 5, 2), (5, 133, 8, 2, 2), (5, 136, 5, 2, 2), (5, 146, 76, 2, 2), (5, 149, 77, 2, 2), (5, 152, 11, 4, 2), (5, 156, 79, 1, 1), (5, 159, 63, 1, 0), (5, 167, 81, 1, 2), (5, 170, 58, 2, 2), (5, 173, 12, 2, 2), (5, 176, 60, 3, 2), (5, 184, 13, 2, 2), (5, 187, 75, 2, 2), (5, 190, 49, 2, 2), (5, 199, 14, 2, 2), (5, 202, 85, 2, 2), (5, 205, 52, 1, 2), (5, 209, 54, 1, 2), (5, 212, 16, 1, 2), (5, 215, 17, 1, 2), (5, 218, 18, 1, 2), (5, 221, 19, 1, 2), (6, 11, 35, 1, 5), (6, 24, 32, 1, 5), (6, 35, 21, 1, 5), (6, 40, 37, 2, 2), (6, 44, 66, 3, 2), (6, 48, 89, 2, 2), (6, 52, 67, 4, 2), (6, 56, 68, 2, 2), (6, 59, 69, 3, 2), (6, 62, 71, 2, 2), (6, 65, 72, 2, 2), (6, 68, 73, 2, 2), (6, 71, 74, 2, 2), (6, 74, 78, 2, 2), (6, 77, 80, 4, 2), (6, 81, 82, 2, 2), (6, 84, 31, 1, 2), (6, 88, 22, 1, 2), (6, 91, 29, 1, 2), (6, 95, 101, 1, 2), (6, 98, 30, 1, 2), (6, 105, 45, 1, 2), (6, 110, 61, 1, 0), (6, 114, 84, 3, 2), (6, 117, 46, 1, 0), (6, 120, 86, 3, 2), (6, 127, 62, 4, 2), (6, 137, 87, 2, 2), (6, 140, 50, 2, 2), (6, 143, 83, 2, 2), (6, 146, 42, 3, 0), (6, 150, 47, 2, 2), (6, 153, 108, 4, 2), (6, 160, 77, 2, 2), (6, 163, 10, 3, 2), (6, 168, 44, 2, 2), (6, 172, 40, 2, 2), (6, 176, 38, 2, 0), (6, 183, 39, 2, 2), (7, 20, 117, 2, 0), (7, 28, 121, 3, 2), (7, 32, 124, 3, 2), (7, 35, 120, 1, 0), (7, 39, 123, 3, 0), (7, 43, 127, 4, 2), (7, 46, 129, 3, 2), (7, 49, 126, 3, 2), (7, 52, 125, 3, 2), (7, 55, 130, 5, 2), (7, 59, 133, 3, 2), (7, 62, 131, 2, 2), (7, 66, 134, 2, 2), (7, 69, 138, 3, 2), (7, 72, 137, 4, 2), (7, 77, 119, 3, 0), (7, 85, 141, 1, 0), (7, 89, 142, 1, 0), (7, 92, 143, 1, 0), (7, 95, 144, 2, 2), (7, 98, 136, 3, 2), (7, 102, 140, 3, 2), (7, 111, 154, 2, 0), (7, 114, 122, 1, 2), (7, 117, 145, 4, 2), (7, 120, 132, 5, 2), (7, 124, 128, 3, 2), (7, 127, 146, 2, 2), (7, 130, 150, 2, 2), (7, 133, 147, 2, 2), (7, 136, 151, 2, 2), (7, 139, 152, 2, 2), (7, 142, 148, 2, 2), (7, 145, 153, 2, 2), (7, 148, 139, 3, 2), (7, 153, 149, 2, 2), (7, 156, 135, 3, 2), (7, 159, 166, 2, 2), (7, 162, 168, 3, 2), (7, 165, 171, 2, 2), (7, 171, 173, 2, 2), (7, 180, 177, 1, 0), (7, 187, 180, 3, 2), (7, 190, 181, 3, 2), (7, 199, 183, 1, 2), (7, 203, 182, 1, 2), (7, 213, 184, 1, 2), (7, 216, 185, 1, 2), (7, 219, 186, 1, 2), (7, 222, 187, 1, 2), (7, 225, 190, 1, 0), (9, 9, 88, 1, 4), (9, 12, 118, 1, 4), (9, 13, 90, 3, 2), (9, 17, 155, 3, 2), (9, 18, 91, 4, 2), (9, 22, 156, 4, 2), (9, 23, 92, 2, 2), (9, 27, 157, 2, 2), (9, 28, 93, 3, 2), (9, 31, 158, 3, 2), (9, 32, 94, 2, 2), (9, 35, 159, 2, 2), (9, 36, 95, 2, 2), (9, 39, 160, 2, 2), (9, 40, 96, 2, 2), (9, 43, 161, 2, 2), (9, 44, 97, 2, 2), (9, 47, 162, 2, 2), (9, 48, 98, 2, 2), (9, 51, 163, 2, 2), (9, 52, 99, 4, 2), (9, 56, 164, 4, 2), (9, 57, 100, 2, 2), (9, 60, 165, 2, 2), (9, 61, 102, 1, 2), (9, 65, 188, 1, 2), (9, 66, 103, 3, 2), (9, 69, 167, 3, 2), (9, 70, 104, 3, 2), (9, 73, 169, 3, 2), (9, 74, 105, 4, 2), (9, 77, 170, 4, 2), (9, 78, 106, 2, 2), (9, 81, 172, 2, 2), (9, 82, 107, 2, 2), (9, 85, 174, 2, 2), (9, 86, 109, 4, 2), (9, 89, 175, 4, 2), (9, 90, 110, 3, 2), (9, 93, 176, 3, 2), (9, 96, 111, 2, 2), (9, 100, 178, 2, 2), (9, 101, 112, 1, 2), (9, 104, 179, 1, 2), (9, 105, 113, 1, 2), (9, 108, 185, 1, 2), (9, 109, 114, 1, 2), (9, 112, 189, 1, 2), (9, 113, 115, 2, 2), (9, 116, 191, 2, 2), (9, 117, 116, 2, 2), (9, 120, 192, 2, 2)]
def xt_fld0 (ix : Nat) : Option (Nat × (Nat × Nat)) := if ix < 25 then (if ix < 19 then (if ix = 13 then some (0, 0, 0) else none) else (if ix < 22 then (if ix = 19 then some (0, 1, 0) else none) else (if ix = 22 then some (0, 2, 0) else none))) else (if ix < 31 then (if ix < 28 then (if ix = 25 then some (0, 3, 0) else none) else (if ix = 28 then some (0, 4, 0) else none)) else (if ix < 40 then (if ix = 31 then some (0, 5, 0) else none) else (if ix = 40 then some (0, 6, 0) else none)))
def xt_fld1 (ix : Nat) : Option (Nat × (Nat × Nat)) := if ix < 47 then (if ix < 32 then (if ix < 25 then (if ix = 12 then some (1, 0, 0) else none) else (if ix = 25 then some (1, 1, 0) else none)) else (if ix < 43 then (if ix = 32 then some (3, 1, 1) else none) else (if ix = 43 then some (1, 2, 0) else none))) else (if ix < 66 then (if ix < 57 then (if ix = 47 then some (1, 4, 0) else none) else (if ix = 57 then some (1, 3, 0) else none)) else (if ix < 69 then (if ix = 66 then some (1, 5, 0) else none) else (if ix = 69 then some (1, 6, 0) else none)))
def xt_fld2 (ix : Nat) : Option (Nat × (Nat × Nat)) := if ix < 17 then (if ix = 11 then some (2, 0, 0) else none) else (if ix = 17 then some (2, 1, 0) else none)
def xt_fld3 (ix : Nat) : Option (Nat × (Nat × Nat)) := if ix < 19 then (if ix = 9 then some (3, 0, 0) else none) else (if ix = 19 then some (3, 1, 0) else none)
def xt_fld4 (ix : Nat) : Option (Nat × (Nat × Nat)) := if ix < 28 then (if ix < 19 then (if ix = 13 then some (4, 0, 0) else none) else (if ix < 23 then (if ix = 19 then some (4, 1, 0) else none) else (if ix = 23 then some (4, 2, 0) else none))) else (if ix < 31 then (if ix = 28 then some (4, 3, 0) else none) else (if ix < 40 then (if ix = 31 then some (4, 4, 0) else none) else (if ix = 40 then some (4, 5, 0) else none)))
def xt_fld5 (ix : Nat) : Option (Nat × (Nat × Nat)) := if ix < 139 then (if ix < 53 then (if ix < 29 then (if ix < 23 then (if ix = 18 then some (5, 0, 0) else none) else (if ix = 23 then some (5, 1, 0) else none)) else (if ix < 36 then (if ix = 29 then some (5, 2, 0) else none) else (if ix = 36 then some (5, 3, 0) else none))) else (if ix < 115 then (if ix < 105 then (if ix = 53 then some (5, 4, 0) else none) else (if ix = 105 then some (4, 1, 1) else none)) else (if ix < 130 then (if ix = 115 then some (4, 0, 1) else none) else (if ix = 130 then some (0, 2, 1) else none)))) else (if ix < 180 then (if ix < 145 then (if ix < 142 then (if ix = 139 then some (0, 3, 1) else none) else (if ix = 142 then some (0, 4, 1) else none)) else (if ix < 164 then (if ix = 145 then some (0, 0, 1) else none) else (if ix = 164 then some (4, 5, 1) else none))) else (if ix < 196 then (if ix < 193 then (if ix = 180 then some (4, 3, 1) else none) else (if ix = 193 then some (0, 1, 1) else none)) else (if ix < 224 then (if ix = 196 then some (0, 5, 1) else none) else (if ix = 224 then some (0, 6, 1) else none))))
def xt_fld6 (ix : Nat) : Option (Nat × (Nat × Nat)) := if ix < 132 then (if ix < 29 then (if ix < 19 then (if ix < 16 then (if ix = 12 then some (6, 0, 0) else none) else (if ix = 16 then some (6, 1, 0) else none)) else (if ix < 25 then (if ix = 19 then some (6, 2, 0) else none) else (if ix = 25 then some (6, 3, 0) else none))) else (if ix < 101 then (if ix < 36 then (if ix = 29 then some (6, 4, 0) else none) else (if ix = 36 then some (6, 5, 0) else none)) else (if ix < 123 then (if ix = 101 then some (1, 0, 1) else none) else (if ix = 123 then some (5, 2, 1) else none)))) else (if ix < 186 then (if ix < 156 then (if ix < 136 then (if ix = 132 then some (3, 1, 1) else none) else (if ix = 136 then some (2, 1, 1) else none)) else (if ix < 180 then (if ix = 156 then some (5, 3, 1) else none) else (if ix = 180 then some (5, 4, 1) else none))) else (if ix < 192 then (if ix < 189 then (if ix = 186 then some (1, 3, 1) else none) else (if ix = 189 then some (1, 4, 1) else none)) else (if ix < 195 then (if ix = 192 then some (1, 5, 1) else none) else (if ix = 195 then some (1, 6, 1) else none))))
def xt_fld7 (ix : Nat) : Option (Nat × (Nat × Nat)) := if ix < 184 then (if ix < 17 then (if ix < 13 then (if ix = 7 then some (7, 0, 0) else none) else (if ix = 13 then some (7, 2, 0) else none)) else (if ix < 24 then (if ix = 17 then some (7, 3, 0) else none) else (if ix < 168 then (if ix = 24 then some (7, 1, 0) else none) else (if ix = 168 then some (7, 4, 0) else none)))) else (if ix < 196 then (if ix < 193 then (if ix = 184 then some (7, 5, 0) else none) else (if ix = 193 then some (7, 8, 0) else none)) else (if ix < 207 then (if ix = 196 then some (7, 7, 0) else none) else (if ix < 210 then (if ix = 207 then some (7, 9, 0) else none) else (if ix = 210 then some (7, 6, 0) else none))))
def xt_fld (k ix : Nat) : Option (Nat × (Nat × Nat)) := if 10 ≤ k ∨ 300 ≤ ix then none else if k < 4 then (if k < 2 then (if k < 1 then (if k = 0 then xt_fld0 ix else none) else (if k = 1 then xt_fld1 ix else none)) else (if k < 3 then (if k = 2 then xt_fld2 ix else none) else (if k = 3 then xt_fld3 ix else none))) else (if k < 6 then (if k < 5 then (if k = 4 then xt_fld4 ix else none) else (if k = 5 then xt_fld5 ix else none)) else (if k < 7 then (if k = 6 then xt_fld6 ix else none) else (if k = 7 then xt_fld7 ix else none)))
def xt_flds : List (Nat × (Nat × (Nat × (Nat × Nat)))) := [(0, 13, 0, 0, 0), (0, 19, 0, 1, 0), (0, 22, 0, 2, 0), (0, 25, 0, 3, 0), (0, 28, 0, 4, 0), (0, 31, 0, 5, 0), (0, 40, 0, 6, 0), (1, 12, 1, 0, 0), (1, 25, 1, 1, 0), (1, 32, 3, 1, 1), (1, 43, 1, 2, 0), (1, 47, 1, 4, 0), (1, 57, 1, 3, 0), (1, 66, 1, 5, 0), (1, 69, 1, 6, 0), (2, 11, 2, 0, 0), (2, 17, 2, 1, 0), (3, 9, 3, 0, 0), (3, 19, 3, 1, 0), (4, 13, 4, 0, 0), (4, 19, 4, 1, 0), (4, 23, 4, 2, 0), (4, 28, 4, 3, 0), (4, 31, 4, 4, 0), (4, 40, 4, 5, 0), (5, 18, 5, 0, 0), (5, 23, 5, 1, 0), (5, 29, 5, 2, 0), (5, 36, 5, 3, 0), (5, 53, 5, 4, 0), (5, 105, 4, 1, 1), (5, 115, 4, 0, 1), (5, 130, 0, 2, 1), (5, 139, 0, 3, 1), (5, 142, 0, 4, 1), (5, 145, 0, 0, 1), (5, 164, 4, 5, 1), (5, 180, 4, 3, 1), (5, 193, 0, 1, 1), (5, 196, 0, 5, 1), (5, 224, 0, 6, 1), (6, 12, 6, 0, 0), (6, 16, 6, 1, 0), (6, 19, 6, 2, 0), (6, 25, 6, 3, 0), (6, 29, 6, 4, 0), (6, 36, 6, 5, 0), (6, 101, 1, 0, 1), (6, 123, 5, 2, 1), (6, 132, 3, 1, 1), (6, 136, 2, 1, 1), (6, 156, 5, 3, 1), (6, 180, 5, 4, 1), (6, 186, 1, 3, 1), (6, 189, 1, 4, 1), (6, 192, 1, 5, 1), (6, 195, 1, 6, 1), (7, 7, 7, 0, 0), (7, 13, 7, 2, 0), (7, 17, 7, 3, 0), (7, 24, 7, 1, 0), (7, 168, 7, 4, 0), (7, 184, 7, 5, 0), (7, 193, 7, 8, 0), (7, 196, 7, 7, 0), (7, 207, 7, 9, 0), (7, 210, 7, 6, 0)]
def xt_st (k ix : Nat) : Option Nat := if 10 ≤ k ∨ 300 ≤ ix then none else if k = 5 then (if ix < 61 then (if ix = 9 then some 1 else none) else (if ix < 64 then (if ix = 61 then some 2 else none) else (if ix = 64 then some 3 else none))) else none
def xt_new (k ix : Nat) : Option Nat := if 10 ≤ k ∨ 300 ≤ ix then none else if k < 6 then (if k < 5 then (if k = 1 then (if ix = 9 then some 3 else none) else none) else (if k = 5 then (if ix < 33 then (if ix = 26 then some 4 else none) else (if ix = 33 then some 0 else none)) else none)) else (if k < 9 then (if k = 6 then (if ix < 22 then (if ix = 9 then some 5 else none) else (if ix < 33 then (if ix = 22 then some 2 else none) else (if ix = 33 then some 1 else none))) else none) else (if k = 9 then (if ix < 10 then (if ix = 7 then some 6 else none) else (if ix = 10 then some 7 else none)) else none))
def xt_anew (k ix : Nat) : Option Nat := if 10 ≤ k ∨ 300 ≤ ix then none else if k < 4 then (if k = 2 then (if ix = 9 then some 4 else none) else none) else (if k < 6 then (if k = 4 then (if ix = 22 then some 3 else none) else none) else (if k = 6 then (if ix = 9 then some 4 else none) else none))
def xt_mnew (k ix : Nat) : Option Nat := if 10 ≤ k ∨ 300 ≤ ix then none else if k = 4 then (if ix = 27 then some 3 else none) else none
def xt_cast (k ix : Nat) : Option Nat := if 10 ≤ k ∨ 300 ≤ ix then none else if k = 5 then (if ix = 14 then some 0 else none) else none
def xt_obj (k ix : Nat) : Option Nat := if 10 ≤ k ∨ 300 ≤ ix then none else if k < 4 then (if k < 2 then (if k < 1 then (if k = 0 then (if ix = 3 then some 0 else none) else none) else (if k = 1 then (if ix = 3 then some 0 else none) else none)) else (if k < 3 then (if k = 2 then (if ix = 3 then some 0 else none) else none) else (if k = 3 then (if ix = 3 then some 0 else none) else none))) else (if k < 6 then (if k < 5 then (if k = 4 then (if ix = 3 then some 0 else none) else none) else (if k = 5 then (if ix = 3 then some 0 else none) else none)) else (if k < 7 then (if k = 6 then (if ix = 3 then some 0 else none) else none) else (if k = 7 then (if ix = 1 then some 0 else none) else none)))
def xt_copy (k ix : Nat) : Option Nat := if 10 ≤ k ∨ 300 ≤ ix then none else if k < 4 then (if k = 0 then (if ix = 34 then some 0 else none) else none) else (if k < 5 then (if k = 4 then (if ix = 34 then some 0 else none) else none) else (if k = 5 then (if ix = 40 then some 0 else none) else none))
def xt_clone (k ix : Nat) : Option Nat := if 10 ≤ k ∨ 300 ≤ ix then none else if k = 5 then (if ix = 13 then some 0 else none) else none
def xt_ldi (k ix : Nat) : Option Int32 := if 10 ≤ k ∨ 300 ≤ ix then none else if k = 8 then (if ix < 266 then (if ix = 265 then some 1431655765 else none) else (if ix < 267 then (if ix = 266 then some 858993459 else none) else (if ix = 267 then some 252645135 else none))) else none
def xt_ldl (k ix : Nat) : Option Int64 := if 10 ≤ k ∨ 300 ≤ ix then none else if k < 7 then (if k = 3 then (if ix = 31 then some 255 else none) else none) else (if k < 9 then (if k = 7 then (if ix < 109 then (if ix < 83 then (if ix < 81 then (if ix = 75 then some 19 else none) else (if ix = 81 then some 2 else none)) else (if ix < 105 then (if ix = 83 then some 99 else none) else (if ix < 107 then (if ix = 105 then some 5 else none) else (if ix = 107 then some 60 else none)))) else (if ix < 174 then (if ix < 151 then (if ix = 109 then some 30 else none) else (if ix = 151 then some 7 else none)) else (if ix < 176 then (if ix = 174 then some 255 else none) else (if ix < 178 then (if ix = 176 then some 33 else none) else (if ix = 178 then some 126 else none))))) else none) else (if k = 9 then (if ix = 94 then some 4294967295 else none) else none))
def xt_I (i : Nat) : Bool := if i < 34 then (if i < 21 then (if i < 20 then (if i = 2 then true else false) else (if i = 20 then true else false)) else (if i < 32 then (if i = 21 then true else false) else (if i = 32 then true else false))) else (if i < 88 then (if i < 35 then (if i = 34 then true else false) else (if i = 35 then true else false)) else (if i < 118 then (if i = 88 then true else false) else (if i = 118 then true else false)))
def xt_M (i : Nat) : Nat := if i < 96 then (if i < 48 then (if i < 24 then (if i < 12 then (if i < 6 then (if i < 3 then (if i < 1 then (if i = 0 then 867 else 0) else (if i < 2 then (if i = 1 then 26 else 0) else (if i = 2 then 48 else 0))) else (if i < 4 then (if i = 3 then 99 else 0) else (if i < 5 then (if i = 4 then 17 else 0) else (if i = 5 then 17 else 0)))) else (if i < 9 then (if i < 7 then (if i = 6 then 17 else 0) else (if i < 8 then (if i = 7 then 23 else 0) else (if i = 8 then 33 else 0))) else (if i < 10 then (if i = 9 then 34 else 0) else (if i < 11 then (if i = 10 then 34 else 0) else (if i = 11 then 61 else 0))))) else (if i < 18 then (if i < 15 then (if i < 13 then (if i = 12 then 51 else 0) else (if i < 14 then (if i = 13 then 39 else 0) else (if i = 14 then 47 else 0))) else (if i < 16 then (if i = 15 then 29 else 0) else (if i < 17 then (if i = 16 then 8 else 0) else (if i = 17 then 8 else 0)))) else (if i < 21 then (if i < 19 then (if i = 18 then 8 else 0) else (if i < 20 then (if i = 19 then 27 else 0) else (if i = 20 then 13 else 0))) else (if i < 22 then (if i = 21 then 16 else 0) else (if i < 23 then (if i = 22 then 6 else 0) else (if i = 23 then 24 else 0)))))) else (if i < 36 then (if i < 30 then (if i < 27 then (if i < 25 then (if i = 24 then 41 else 0) else (if i < 26 then (if i = 25 then 7 else 0) else (if i = 26 then 26 else 0))) else (if i < 28 then (if i = 27 then 56 else 0) else (if i < 29 then (if i = 28 then 95 else 0) else (if i = 29 then 78 else 0)))) else (if i < 33 then (if i < 31 then (if i = 30 then 7 else 0) else (if i < 32 then (if i = 31 then 66 else 0) else (if i = 32 then 14 else 0))) else (if i < 34 then (if i = 33 then 53 else 0) else (if i < 35 then (if i = 34 then 67 else 0) else (if i = 35 then 65 else 0))))) else (if i < 42 then (if i < 39 then (if i < 37 then (if i = 36 then 109 else 0) else (if i < 38 then (if i = 37 then 59 else 0) else (if i = 38 then 23 else 0))) else (if i < 40 then (if i = 39 then 46 else 0) else (if i < 41 then (if i = 40 then 44 else 0) else (if i = 41 then 12 else 0)))) else (if i < 45 then (if i < 43 then (if i = 42 then 16 else 0) else (if i < 44 then (if i = 43 then 62 else 0) else (if i = 44 then 73 else 0))) else (if i < 46 then (if i = 45 then 12 else 0) else (if i < 47 then (if i = 46 then 16 else 0) else (if i = 47 then 10 else 0))))))) else (if i < 72 then (if i < 60 then (if i < 54 then (if i < 51 then (if i < 49 then (if i = 48 then 19 else 0) else (if i < 50 then (if i = 49 then 32 else 0) else (if i = 50 then 14 else 0))) else (if i < 52 then (if i = 51 then 31 else 0) else (if i < 53 then (if i = 52 then 8 else 0) else (if i = 53 then 10 else 0)))) else (if i < 57 then (if i < 55 then (if i = 54 then 29 else 0) else (if i < 56 then (if i = 55 then 81 else 0) else (if i = 56 then 35 else 0))) else (if i < 58 then (if i = 57 then 17 else 0) else (if i < 59 then (if i = 58 then 38 else 0) else (if i = 59 then 41 else 0))))) else (if i < 66 then (if i < 63 then (if i < 61 then (if i = 60 then 40 else 0) else (if i < 62 then (if i = 61 then 17 else 0) else (if i = 62 then 70 else 0))) else (if i < 64 then (if i = 63 then 53 else 0) else (if i < 65 then (if i = 64 then 17 else 0) else (if i = 65 then 87 else 0)))) else (if i < 69 then (if i < 67 then (if i = 66 then 49 else 0) else (if i < 68 then (if i = 67 then 113 else 0) else (if i = 68 then 88 else 0))) else (if i < 70 then (if i = 69 then 78 else 0) else (if i < 71 then (if i = 70 then 46 else 0) else (if i = 71 then 86 else 0)))))) else (if i < 84 then (if i < 78 then (if i < 75 then (if i < 73 then (if i = 72 then 48 else 0) else (if i < 74 then (if i = 73 then 66 else 0) else (if i = 74 then 51 else 0))) else (if i < 76 then (if i = 75 then 27 else 0) else (if i < 77 then (if i = 76 then 37 else 0) else (if i = 77 then 14 else 0)))) else (if i < 81 then (if i < 79 then (if i = 78 then 86 else 0) else (if i < 80 then (if i = 79 then 17 else 0) else (if i = 80 then 72 else 0))) else (if i < 82 then (if i = 81 then 44 else 0) else (if i < 83 then (if i = 82 then 63 else 0) else (if i = 83 then 35 else 0))))) else (if i < 90 then (if i < 87 then (if i < 85 then (if i = 84 then 186 else 0) else (if i < 86 then (if i = 85 then 53 else 0) else (if i = 86 then 102 else 0))) else (if i < 88 then (if i = 87 then 147 else 0) else (if i < 89 then (if i = 88 then 68 else 0) else (if i = 89 then 17 else 0)))) else (if i < 93 then (if i < 91 then (if i = 90 then 25 else 0) else (if i < 92 then (if i = 91 then 26 else 0) else (if i = 92 then 24 else 0))) else (if i < 94 then (if i = 93 then 25 else 0) else (if i < 95 then (if i = 94 then 24 else 0) else (if i = 95 then 24 else 0)))))))) else (if i < 144 then (if i < 120 then (if i < 108 then (if i < 102 then (if i < 99 then (if i < 97 then (if i = 96 then 24 else 0) else (if i < 98 then (if i = 97 then 24 else 0) else (if i = 98 then 24 else 0))) else (if i < 100 then (if i = 99 then 26 else 0) else (if i < 101 then (if i = 100 then 24 else 0) else (if i = 101 then 183 else 0)))) else (if i < 105 then (if i < 103 then (if i = 102 then 94 else 0) else (if i < 104 then (if i = 103 then 19 else 0) else (if i = 104 then 19 else 0))) else (if i < 106 then (if i = 105 then 23 else 0) else (if i < 107 then (if i = 106 then 56 else 0) else (if i = 107 then 46 else 0))))) else (if i < 114 then (if i < 111 then (if i < 109 then (if i = 108 then 41 else 0) else (if i < 110 then (if i = 109 then 136 else 0) else (if i = 110 then 42 else 0))) else (if i < 112 then (if i = 111 then 12 else 0) else (if i < 113 then (if i = 112 then 11 else 0) else (if i = 113 then 8 else 0)))) else (if i < 117 then (if i < 115 then (if i = 114 then 25 else 0) else (if i < 116 then (if i = 115 then 39 else 0) else (if i = 116 then 57 else 0))) else (if i < 118 then (if i = 117 then 10 else 0) else (if i < 119 then (if i = 118 then 111 else 0) else (if i = 119 then 19 else 0)))))) else (if i < 132 then (if i < 126 then (if i < 123 then (if i < 121 then (if i = 120 then 10 else 0) else (if i < 122 then (if i = 121 then 40 else 0) else (if i = 122 then 61 else 0))) else (if i < 124 then (if i = 123 then 15 else 0) else (if i < 125 then (if i = 124 then 41 else 0) else (if i = 125 then 16 else 0)))) else (if i < 129 then (if i < 127 then (if i = 126 then 46 else 0) else (if i < 128 then (if i = 127 then 57 else 0) else (if i = 128 then 43 else 0))) else (if i < 130 then (if i = 129 then 97 else 0) else (if i < 131 then (if i = 130 then 56 else 0) else (if i = 131 then 82 else 0))))) else (if i < 138 then (if i < 135 then (if i < 133 then (if i = 132 then 121 else 0) else (if i < 134 then (if i = 133 then 27 else 0) else (if i = 134 then 153 else 0))) else (if i < 136 then (if i = 135 then 27 else 0) else (if i < 137 then (if i = 136 then 23 else 0) else (if i = 137 then 66 else 0)))) else (if i < 141 then (if i < 139 then (if i = 138 then 47 else 0) else (if i < 140 then (if i = 139 then 232 else 0) else (if i = 140 then 71 else 0))) else (if i < 142 then (if i = 141 then 10 else 0) else (if i < 143 then (if i = 142 then 10 else 0) else (if i = 143 then 10 else 0))))))) else (if i < 168 then (if i < 156 then (if i < 150 then (if i < 147 then (if i < 145 then (if i = 144 then 21 else 0) else (if i < 146 then (if i = 145 then 53 else 0) else (if i = 146 then 74 else 0))) else (if i < 148 then (if i = 147 then 27 else 0) else (if i < 149 then (if i = 148 then 36 else 0) else (if i = 149 then 33 else 0)))) else (if i < 153 then (if i < 151 then (if i = 150 then 67 else 0) else (if i < 152 then (if i = 151 then 28 else 0) else (if i = 152 then 54 else 0))) else (if i < 154 then (if i = 153 then 36 else 0) else (if i < 155 then (if i = 154 then 74 else 0) else (if i = 155 then 38 else 0))))) else (if i < 162 then (if i < 159 then (if i < 157 then (if i = 156 then 30 else 0) else (if i < 158 then (if i = 157 then 87 else 0) else (if i = 158 then 78 else 0))) else (if i < 160 then (if i = 159 then 22 else 0) else (if i < 161 then (if i = 160 then 22 else 0) else (if i = 161 then 22 else 0)))) else (if i < 165 then (if i < 163 then (if i = 162 then 22 else 0) else (if i < 164 then (if i = 163 then 20 else 0) else (if i = 164 then 85 else 0))) else (if i < 166 then (if i = 165 then 23 else 0) else (if i < 167 then (if i = 166 then 20 else 0) else (if i = 167 then 146 else 0)))))) else (if i < 180 then (if i < 174 then (if i < 171 then (if i < 169 then (if i = 168 then 104 else 0) else (if i < 170 then (if i = 169 then 100 else 0) else (if i = 170 then 61 else 0))) else (if i < 172 then (if i = 171 then 119 else 0) else (if i < 173 then (if i = 172 then 125 else 0) else (if i = 173 then 63 else 0)))) else (if i < 177 then (if i < 175 then (if i = 174 then 34 else 0) else (if i < 176 then (if i = 175 then 167 else 0) else (if i = 176 then 49 else 0))) else (if i < 178 then (if i = 177 then 53 else 0) else (if i < 179 then (if i = 178 then 84 else 0) else (if i = 179 then 12 else 0))))) else (if i < 186 then (if i < 183 then (if i < 181 then (if i = 180 then 37 else 0) else (if i < 182 then (if i = 181 then 49 else 0) else (if i = 182 then 64 else 0))) else (if i < 184 then (if i = 183 then 29 else 0) else (if i < 185 then (if i = 184 then 239 else 0) else (if i = 185 then 66 else 0)))) else (if i < 189 then (if i < 187 then (if i = 186 then 119 else 0) else (if i < 188 then (if i = 187 then 138 else 0) else (if i = 188 then 100 else 0))) else (if i < 191 then (if i < 190 then (if i = 189 then 34 else 0) else (if i = 190 then 15 else 0)) else (if i < 192 then (if i = 191 then 33 else 0) else (if i = 192 then 42 else 0))))))))
end
section
/-! the abstract machine: values int, long, reference (of any kind ρ); all instructions that touch no memory -/
abbrev xv (ρ : Type) : Type := Int32 ⊕ (Int64 ⊕ ρ)
abbrev xl (ρ : Type) : Type := List (Nat × xv ρ)
abbrev xo (ρ : Type) : Type := Option ((Nat × (xl ρ × List (xv ρ))) ⊕ Option (xv ρ))
def xm_cat {ρ : Type} : xv ρ → Nat
  | .inr (.inl _) => 2
  | _ => 1
def xm_cats {ρ : Type} : List (xv ρ) → Nat
  | [] => 0
  | v :: r => xm_cat v + xm_cats r
def xm_get {ρ : Type} : xl ρ → Nat → Option (xv ρ)
  | [], _ => none
  | (k, v) :: r, i => if k = i then some v else xm_get r i
def xm_set1 {ρ : Type} (ls : xl ρ) (i : Nat) (v : xv ρ) : xl ρ := (i, v) :: ls.filter (fun q => !(q.1 == i) && !(q.1 + 1 == i && xm_cat q.2 == 2))
def xm_set2 {ρ : Type} (ls : xl ρ) (i : Nat) (v : xv ρ) : xl ρ := (i, v) :: ls.filter (fun q => !(q.1 == i) && (!(q.1 == i + 1) && !(q.1 + 1 == i && xm_cat q.2 == 2)))
def xm_tgt (pc : Nat) (off : Int) : Option Nat := match (pc : Int) + off with
  | .ofNat n => some n
  | .negSucc _ => none
def xm_jmp {ρ : Type} (pc : Nat) (off : Int) (ls : xl ρ) (st : List (xv ρ)) : xo ρ := match xm_tgt pc off with
  | some t => some (.inl (t, ls, st))
  | none => none
def xm_nx {ρ : Type} (pc : Nat) (ls : xl ρ) (st : List (xv ρ)) : xo ρ := some (.inl (pc, ls, st))
/-- loads -/
def xm_ldi {ρ : Type} (i pc : Nat) (ls : xl ρ) (st : List (xv ρ)) : xo ρ := match xm_get ls i with
  | some (.inl x) => xm_nx pc ls (.inl x :: st)
  | _ => none
def xm_ldl {ρ : Type} (i pc : Nat) (ls : xl ρ) (st : List (xv ρ)) : xo ρ := match xm_get ls i with
  | some (.inr (.inl x)) => xm_nx pc ls (.inr (.inl x) :: st)
  | _ => none
def xm_lda {ρ : Type} (i pc : Nat) (ls : xl ρ) (st : List (xv ρ)) : xo ρ := match xm_get ls i with
  | some (.inr (.inr x)) => xm_nx pc ls (.inr (.inr x) :: st)
  | _ => none
/-- stores; n: how many locals there are -/
def xm_sti {ρ : Type} (n i pc : Nat) (ls : xl ρ) : List (xv ρ) → xo ρ
  | .inl x :: r => if i < n then xm_nx pc (xm_set1 ls i (.inl x)) r else none
  | _ => none
def xm_stl {ρ : Type} (n i pc : Nat) (ls : xl ρ) : List (xv ρ) → xo ρ
  | .inr (.inl x) :: r => if i + 1 < n then xm_nx pc (xm_set2 ls i (.inr (.inl x))) r else none
  | _ => none
def xm_sta {ρ : Type} (n i pc : Nat) (ls : xl ρ) : List (xv ρ) → xo ρ
  | .inr (.inr x) :: r => if i < n then xm_nx pc (xm_set1 ls i (.inr (.inr x))) r else none
  | _ => none
def xm_iinc {ρ : Type} (n i : Nat) (k : Int) (pc : Nat) (ls : xl ρ) (st : List (xv ρ)) : xo ρ := match xm_get ls i with
  | some (.inl x) => if i < n then xm_nx (pc + 3) (xm_set1 ls i (.inl (x + Int32.ofInt k))) st else none
  | _ => none
def xm_b {ρ : Type} (f : Int32 → Int32 → Int32) (pc : Nat) (ls : xl ρ) : List (xv ρ) → xo ρ
  | .inl y :: .inl x :: r => xm_nx (pc + 1) ls (.inl (f x y) :: r)
  | _ => none
def xm_bl {ρ : Type} (f : Int64 → Int64 → Int64) (pc : Nat) (ls : xl ρ) : List (xv ρ) → xo ρ
  | .inr (.inl y) :: .inr (.inl x) :: r => xm_nx (pc + 1) ls (.inr (.inl (f x y)) :: r)
  | _ => none
def xm_bs {ρ : Type} (f : Int64 → Int32 → Int64) (pc : Nat) (ls : xl ρ) : List (xv ρ) → xo ρ
  | .inl y :: .inr (.inl x) :: r => xm_nx (pc + 1) ls (.inr (.inl (f x y)) :: r)
  | _ => none
def xm_ie (c : ClassFile.Cond) (x : Int32) {α : Type} (a b : α) : α := match c with
  | .eq => if x = 0 then a else b
  | .ne => if x = 0 then b else a
  | .lt => if x < 0 then a else b
  | .ge => if x < 0 then b else a
  | .gt => if 0 < x then a else b
  | .le => if 0 < x then b else a
def xm_ic (c : ClassFile.Cond) (x y : Int32) {α : Type} (a b : α) : α := match c with
  | .eq => if x = y then a else b
  | .ne => if x = y then b else a
  | .lt => if x < y then a else b
  | .ge => if x < y then b else a
  | .gt => if y < x then a else b
  | .le => if y < x then b else a
def xm_if {ρ : Type} (c : ClassFile.Cond) (off : Int) (pc : Nat) (ls : xl ρ) : List (xv ρ) → xo ρ
  | .inl x :: r => match xm_tgt pc off with
    | some t => xm_ie c x (xm_nx t ls r) (xm_nx (pc + 3) ls r)
    | none => none
  | _ => none
def xm_if2 {ρ : Type} (c : ClassFile.Cond) (off : Int) (pc : Nat) (ls : xl ρ) : List (xv ρ) → xo ρ
  | .inl y :: .inl x :: r => match xm_tgt pc off with
    | some t => xm_ic c x y (xm_nx t ls r) (xm_nx (pc + 3) ls r)
    | none => none
  | _ => none
def xm_sw {ρ : Type} (x : Int32) (pc : Nat) (dflt : Int) (ls : xl ρ) (st : List (xv ρ)) : List (Int × Int) → xo ρ
  | [] => xm_jmp pc dflt ls st
  | (k, off) :: r => if x = Int32.ofInt k then xm_jmp pc off ls st else xm_sw x pc dflt ls st r
def xm_keys (lo : Int) : List Int → List (Int × Int)
  | [] => []
  | o :: r => (lo, o) :: xm_keys (lo + 1) r
/-- keys within an int, rising -/
def xm_kok : Int → List (Int × Int) → Bool
  | _, [] => true
  | lo, (k, _) :: r => decide (lo ≤ k) && decide (k < 2147483648) && xm_kok (k + 1) r
def xm_core {ρ : Type} (nul : ρ → Bool) (rt : Option FieldType) (n pc : Nat) (ls : xl ρ) (st : List (xv ρ)) : Instr → xo ρ
  | .iconst k => xm_nx (pc + 1) ls (.inl (Int32.ofInt k) :: st)
  | .bipush k => xm_nx (pc + 2) ls (.inl ((Int8.ofInt k).toInt32) :: st)
  | .sipush k => xm_nx (pc + 3) ls (.inl ((Int16.ofInt k).toInt32) :: st)
  | .lconst k => xm_nx (pc + 1) ls (.inr (.inl (Int64.ofNat (k : Nat))) :: st)
  | .iload_n k => xm_ldi k (pc + 1) ls st
  | .iload k => xm_ldi k (pc + 2) ls st
  | .lload_n k => xm_ldl k (pc + 1) ls st
  | .lload k => xm_ldl k (pc + 2) ls st
  | .aload_n k => xm_lda k (pc + 1) ls st
  | .aload k => xm_lda k (pc + 2) ls st
  | .istore_n k => xm_sti n k (pc + 1) ls st
  | .istore k => xm_sti n k (pc + 2) ls st
  | .lstore_n k => xm_stl n k (pc + 1) ls st
  | .lstore k => xm_stl n k (pc + 2) ls st
  | .astore_n k => xm_sta n k (pc + 1) ls st
  | .astore k => xm_sta n k (pc + 2) ls st
  | .iinc i k => xm_iinc n i k pc ls st
  | .iadd => xm_b (fun x y => x + y) pc ls st
  | .isub => xm_b (fun x y => x - y) pc ls st
  | .imul => xm_b (fun x y => x * y) pc ls st
  | .iand => xm_b (fun x y => x &&& y) pc ls st
  | .ior => xm_b (fun x y => x ||| y) pc ls st
  | .ixor => xm_b (fun x y => x ^^^ y) pc ls st
  | .ishl => xm_b (fun x y => x <<< (y &&& 31)) pc ls st
  | .ishr => xm_b (fun x y => x >>> (y &&& 31)) pc ls st
  | .iushr => xm_b (fun x y => (x.toUInt32 >>> (y.toUInt32 &&& Int32.toUInt32 31)).toInt32) pc ls st
  | .land => xm_bl (fun x y => x &&& y) pc ls st
  | .lor => xm_bl (fun x y => x ||| y) pc ls st
  | .lshl => xm_bs (fun x y => x <<< (y.toInt64 &&& 63)) pc ls st
  | .lushr => xm_bs (fun x y => (x.toUInt64 >>> (y.toInt64.toUInt64 &&& Int64.toUInt64 63)).toInt64) pc ls st
  | .lcmp => match st with
    | .inr (.inl y) :: .inr (.inl x) :: r => xm_nx (pc + 1) ls (.inl (lg_cmp x y) :: r)
    | _ => none
  | .i2l => match st with
    | .inl x :: r => xm_nx (pc + 1) ls (.inr (.inl x.toInt64) :: r)
    | _ => none
  | .l2i => match st with
    | .inr (.inl x) :: r => xm_nx (pc + 1) ls (.inl x.toInt32 :: r)
    | _ => none
  | .i2c => match st with
    | .inl x :: r => xm_nx (pc + 1) ls (.inl (x.toUInt32 % 65536).toInt32 :: r)
    | _ => none
  | .dup => match st with
    | v :: r => if xm_cat v = 1 then xm_nx (pc + 1) ls (v :: v :: r) else none
    | _ => none
  | .dup2 => match st with
    | v :: w :: r => if xm_cat v = 1 ∧ xm_cat w = 1 then xm_nx (pc + 1) ls (v :: w :: v :: w :: r) else none
    | _ => none
  | .pop => match st with
    | v :: r => if xm_cat v = 1 then xm_nx (pc + 1) ls r else none
    | _ => none
  | .goto off => xm_jmp pc off ls st
  | .ifCond c off => xm_if c off pc ls st
  | .if_icmp c off => xm_if2 c off pc ls st
  | .ifnonnull off => match st with
    | .inr (.inr a) :: r => if nul a = true then xm_nx (pc + 3) ls r else xm_jmp pc off ls r
    | _ => none
  | .tableswitch d lo hi offs => match st with
    | .inl x :: r => if xm_kok lo (xm_keys lo offs.toList) = true ∧ (hi - lo + 1 = (offs.toList.length : Int)) ∧ -2147483648 ≤ lo then xm_sw x pc d ls r (xm_keys lo offs.toList) else none
    | _ => none
  | .lookupswitch d ps => match st with
    | .inl x :: r => if xm_kok (-2147483648) ps.toList = true then xm_sw x pc d ls r ps.toList else none
    | _ => none
  | .ireturn => match rt, st with
    | some ty, [.inl x] => some (.inr (some (.inl (vp_nar ty x))))
    | _, _ => none
  | .areturn => match rt, st with
    | some (.object _), [.inr (.inr a)] => some (.inr (some (.inr (.inr a))))
    | some (.array _), [.inr (.inr a)] => some (.inr (some (.inr (.inr a))))
    | _, _ => none
  | .return_ => match rt, st with
    | none, [] => some (.inr none)
    | _, _ => none
  | _ => none
/-- one step: go on, call, or answer -/
abbrev xs (ρ M : Type) : Type := Option (((Nat × (xl ρ × List (xv ρ))) × M) ⊕ ((Nat × (List (xv ρ) × (Nat × (xl ρ × List (xv ρ))))) ⊕ Option (xv ρ)))
def xm_inv : Instr → Option Nat
  | .invokestatic ix => some ix
  | .invokevirtual ix => some ix
  | .invokespecial ix => some ix
  | _ => none
/-- arguments: the first na of the stack, the lowest first -/
def xm_step {ρ M : Type} (nul : ρ → Bool) (prim : Nat → Instr → List (xv ρ) → M → Option (List (xv ρ) × M)) (i pc : Nat) (ls : xl ρ) (st : List (xv ρ)) (h : M) : xs ρ M :=
  match xt_ops i pc with
  | none => none
  | some (ins, len) =>
    match xm_core nul (xt_R i) (xt_L i) pc ls st ins with
    | some (.inl f) => some (.inl (f, h))
    | some (.inr v) => some (.inr (.inr v))
    | none =>
      match (xm_inv ins).bind (fun ix => xt_call (xt_K i) ix) with
      | some (j, na, _) => if na ≤ st.length ∧ xm_cats (st.drop na) ≤ 8 then some (.inr (.inl (j, (st.take na).reverse, (pc + 3, ls, st.drop na)))) else none
      | none =>
        match prim i ins st h with
        | some (st', h') => some (.inl ((pc + len, ls, st'), h'))
        | none => none
def xm_args {ρ : Type} : Nat → List (xv ρ) → xl ρ
  | _, [] => []
  | i, v :: vs => (i, v) :: xm_args (if xm_cat v = 2 then i + 2 else i + 1) vs
def xm_push {ρ : Type} : Option (xv ρ) → List (xv ρ) → List (xv ρ)
  | some v, st => v :: st
  | none, st => st
/-- runs of at most n steps, calls and answers counted; ext: methods that are known by what they do -/
def xm_exec {ρ M : Type} (nul : ρ → Bool) (prim : Nat → Instr → List (xv ρ) → M → Option (List (xv ρ) × M)) (ext : Nat → Option (List (xv ρ) → M → Option (Option (xv ρ) × M))) : Nat → Nat → Nat → xl ρ → List (xv ρ) → M → Option (Option (xv ρ) × M)
  | 0, _, _, _, _, _ => none
  | n + 1, i, pc, ls, st, h =>
    match xm_step nul prim i pc ls st h with
    | none => none
    | some (.inl ((pc', ls', st'), h')) => xm_exec nul prim ext n i pc' ls' st' h'
    | some (.inr (.inr v)) => some (v, h)
    | some (.inr (.inl (j, as, (pc', ls', st')))) =>
      match (match ext j with
        | some f => f as h
        | none => xm_exec nul prim ext n j 0 (xm_args 0 as) [] h) with
      | some (v, h') => xm_exec nul prim ext n i pc' ls' (xm_push v st') h'
      | none => none
end
section
/-! the abstract machine's core steps are the machine's -/
def xm_len : Instr → Nat → Bool
  | .tableswitch _ _ _ _, _ => true
  | .lookupswitch _ _, _ => true
  | .bipush _, n => n == 2
  | .newarray _, n => n == 2
  | .iload _, n => n == 2
  | .lload _, n => n == 2
  | .aload _, n => n == 2
  | .istore _, n => n == 2
  | .lstore _, n => n == 2
  | .astore _, n => n == 2
  | .sipush _, n => n == 3
  | .iinc _ _, n => n == 3
  | .goto _, n => n == 3
  | .ifCond _ _, n => n == 3
  | .if_icmp _ _, n => n == 3
  | .ifnonnull _, n => n == 3
  | .getfield _, n => n == 3
  | .putfield _, n => n == 3
  | .getstatic _, n => n == 3
  | .invokestatic _, n => n == 3
  | .invokevirtual _, n => n == 3
  | .invokespecial _, n => n == 3
  | .new _, n => n == 3
  | .anewarray _, n => n == 3
  | .checkcast _, n => n == 3
  | .ldc_w _, n => n == 3
  | .ldc2_w _, n => n == 3
  | .multianewarray _ _, n => n == 4
  | _, n => n == 1
set_option maxRecDepth 100000 in
theorem xt_len_all : (List.range 193).all (fun i => (List.range (xt_M i)).all (fun pc => match xt_ops i pc with | none => true | some r => xm_len r.1 r.2)) = true := by decide +kernel
theorem xt_dec_top (i pc : Nat) (h : 193 ≤ i) : xt_ops i pc = none := by
  unfold xt_ops
  repeat (first | rw [if_neg (by omega)] | rfl)
set_option maxRecDepth 100000 in
set_option maxHeartbeats 4000000 in
theorem xt_dec (i pc : Nat) (r : Instr × Nat) (h : xt_ops i pc = some r) : decode (xt_C i) pc = .ok r := by
  by_cases hi : 193 ≤ i
  · rw [xt_dec_top i pc hi] at h; cases h
  · match i, hi, h with
    | 0, _, h => exact xo_0_ok pc r h
    | 1, _, h => exact xo_1_ok pc r h
    | 2, _, h => exact xo_2_ok pc r h
    | 3, _, h => exact xo_3_ok pc r h
    | 4, _, h => exact xo_4_ok pc r h
    | 5, _, h => exact xo_5_ok pc r h
    | 6, _, h => exact xo_6_ok pc r h
    | 7, _, h => exact xo_7_ok pc r h
    | 8, _, h => exact xo_8_ok pc r h
    | 9, _, h => exact xo_9_ok pc r h
    | 10, _, h => exact xo_10_ok pc r h
    | 11, _, h => exact xo_11_ok pc r h
    | 12, _, h => exact xo_12_ok pc r h
    | 13, _, h => exact xo_13_ok pc r h
    | 14, _, h => exact xo_14_ok pc r h
    | 15, _, h => exact xo_15_ok pc r h
    | 16, _, h => exact xo_16_ok pc r h
    | 17, _, h => exact xo_17_ok pc r h
    | 18, _, h => exact xo_18_ok pc r h
    | 19, _, h => exact xo_19_ok pc r h
    | 20, _, h => exact xo_20_ok pc r h
    | 21, _, h => exact xo_21_ok pc r h
    | 22, _, h => exact xo_22_ok pc r h
    | 23, _, h => exact xo_23_ok pc r h
    | 24, _, h => exact xo_24_ok pc r h
    | 25, _, h => exact xo_25_ok pc r h
    | 26, _, h => exact xo_26_ok pc r h
    | 27, _, h => exact xo_27_ok pc r h
    | 28, _, h => exact xo_28_ok pc r h
    | 29, _, h => exact xo_29_ok pc r h
    | 30, _, h => exact xo_30_ok pc r h
    | 31, _, h => exact xo_31_ok pc r h
    | 32, _, h => exact xo_32_ok pc r h
    | 33, _, h => exact xo_33_ok pc r h
    | 34, _, h => exact xo_34_ok pc r h
    | 35, _, h => exact xo_35_ok pc r h
    | 36, _, h => exact xo_36_ok pc r h
    | 37, _, h => exact xo_37_ok pc r h
    | 38, _, h => exact xo_38_ok pc r h
    | 39, _, h => exact xo_39_ok pc r h
    | 40, _, h => exact xo_40_ok pc r h
    | 41, _, h => exact xo_41_ok pc r h
    | 42, _, h => exact xo_42_ok pc r h
    | 43, _, h => exact xo_43_ok pc r h
    | 44, _, h => exact xo_44_ok pc r h
    | 45, _, h => exact xo_45_ok pc r h
    | 46, _, h => exact xo_46_ok pc r h
    | 47, _, h => exact xo_47_ok pc r h
    | 48, _, h => exact xo_48_ok pc r h
    | 49, _, h => exact xo_49_ok pc r h
    | 50, _, h => exact xo_50_ok pc r h
    | 51, _, h => exact xo_51_ok pc r h
    | 52, _, h => exact xo_52_ok pc r h
    | 53, _, h => exact xo_53_ok pc r h
    | 54, _, h => exact xo_54_ok pc r h
    | 55, _, h => exact xo_55_ok pc r h
    | 56, _, h => exact xo_56_ok pc r h
    | 57, _, h => exact xo_57_ok pc r h
    | 58, _, h => exact xo_58_ok pc r h
    | 59, _, h => exact xo_59_ok pc r h
    | 60, _, h => exact xo_60_ok pc r h
    | 61, _, h => exact xo_61_ok pc r h
    | 62, _, h => exact xo_62_ok pc r h
    | 63, _, h => exact xo_63_ok pc r h
    | 64, _, h => exact xo_64_ok pc r h
    | 65, _, h => exact xo_65_ok pc r h
    | 66, _, h => exact xo_66_ok pc r h
    | 67, _, h => exact xo_67_ok pc r h
    | 68, _, h => exact xo_68_ok pc r h
    | 69, _, h => exact xo_69_ok pc r h
    | 70, _, h => exact xo_70_ok pc r h
    | 71, _, h => exact xo_71_ok pc r h
    | 72, _, h => exact xo_72_ok pc r h
    | 73, _, h => exact xo_73_ok pc r h
    | 74, _, h => exact xo_74_ok pc r h
    | 75, _, h => exact xo_75_ok pc r h
    | 76, _, h => exact xo_76_ok pc r h
    | 77, _, h => exact xo_77_ok pc r h
    | 78, _, h => exact xo_78_ok pc r h
    | 79, _, h => exact xo_79_ok pc r h
    | 80, _, h => exact xo_80_ok pc r h
    | 81, _, h => exact xo_81_ok pc r h
    | 82, _, h => exact xo_82_ok pc r h
    | 83, _, h => exact xo_83_ok pc r h
    | 84, _, h => exact xo_84_ok pc r h
    | 85, _, h => exact xo_85_ok pc r h
    | 86, _, h => exact xo_86_ok pc r h
    | 87, _, h => exact xo_87_ok pc r h
    | 88, _, h => exact xo_88_ok pc r h
    | 89, _, h => exact xo_89_ok pc r h
    | 90, _, h => exact xo_90_ok pc r h
    | 91, _, h => exact xo_91_ok pc r h
    | 92, _, h => exact xo_92_ok pc r h
    | 93, _, h => exact xo_93_ok pc r h
    | 94, _, h => exact xo_94_ok pc r h
    | 95, _, h => exact xo_95_ok pc r h
    | 96, _, h => exact xo_96_ok pc r h
    | 97, _, h => exact xo_97_ok pc r h
    | 98, _, h => exact xo_98_ok pc r h
    | 99, _, h => exact xo_99_ok pc r h
    | 100, _, h => exact xo_100_ok pc r h
    | 101, _, h => exact xo_101_ok pc r h
    | 102, _, h => exact xo_102_ok pc r h
    | 103, _, h => exact xo_103_ok pc r h
    | 104, _, h => exact xo_104_ok pc r h
    | 105, _, h => exact xo_105_ok pc r h
    | 106, _, h => exact xo_106_ok pc r h
    | 107, _, h => exact xo_107_ok pc r h
    | 108, _, h => exact xo_108_ok pc r h
    | 109, _, h => exact xo_109_ok pc r h
    | 110, _, h => exact xo_110_ok pc r h
    | 111, _, h => exact xo_111_ok pc r h
    | 112, _, h => exact xo_112_ok pc r h
    | 113, _, h => exact xo_113_ok pc r h
    | 114, _, h => exact xo_114_ok pc r h
    | 115, _, h => exact xo_115_ok pc r h
    | 116, _, h => exact xo_116_ok pc r h
    | 117, _, h => exact xo_117_ok pc r h
    | 118, _, h => exact xo_118_ok pc r h
    | 119, _, h => exact xo_119_ok pc r h
    | 120, _, h => exact xo_120_ok pc r h
    | 121, _, h => exact xo_121_ok pc r h
    | 122, _, h => exact xo_122_ok pc r h
    | 123, _, h => exact xo_123_ok pc r h
    | 124, _, h => exact xo_124_ok pc r h
    | 125, _, h => exact xo_125_ok pc r h
    | 126, _, h => exact xo_126_ok pc r h
    | 127, _, h => exact xo_127_ok pc r h
    | 128, _, h => exact xo_128_ok pc r h
    | 129, _, h => exact xo_129_ok pc r h
    | 130, _, h => exact xo_130_ok pc r h
    | 131, _, h => exact xo_131_ok pc r h
    | 132, _, h => exact xo_132_ok pc r h
    | 133, _, h => exact xo_133_ok pc r h
    | 134, _, h => exact xo_134_ok pc r h
    | 135, _, h => exact xo_135_ok pc r h
    | 136, _, h => exact xo_136_ok pc r h
    | 137, _, h => exact xo_137_ok pc r h
    | 138, _, h => exact xo_138_ok pc r h
    | 139, _, h => exact xo_139_ok pc r h
    | 140, _, h => exact xo_140_ok pc r h
    | 141, _, h => exact xo_141_ok pc r h
    | 142, _, h => exact xo_142_ok pc r h
    | 143, _, h => exact xo_143_ok pc r h
    | 144, _, h => exact xo_144_ok pc r h
    | 145, _, h => exact xo_145_ok pc r h
    | 146, _, h => exact xo_146_ok pc r h
    | 147, _, h => exact xo_147_ok pc r h
    | 148, _, h => exact xo_148_ok pc r h
    | 149, _, h => exact xo_149_ok pc r h
    | 150, _, h => exact xo_150_ok pc r h
    | 151, _, h => exact xo_151_ok pc r h
    | 152, _, h => exact xo_152_ok pc r h
    | 153, _, h => exact xo_153_ok pc r h
    | 154, _, h => exact xo_154_ok pc r h
    | 155, _, h => exact xo_155_ok pc r h
    | 156, _, h => exact xo_156_ok pc r h
    | 157, _, h => exact xo_157_ok pc r h
    | 158, _, h => exact xo_158_ok pc r h
    | 159, _, h => exact xo_159_ok pc r h
    | 160, _, h => exact xo_160_ok pc r h
    | 161, _, h => exact xo_161_ok pc r h
    | 162, _, h => exact xo_162_ok pc r h
    | 163, _, h => exact xo_163_ok pc r h
    | 164, _, h => exact xo_164_ok pc r h
    | 165, _, h => exact xo_165_ok pc r h
    | 166, _, h => exact xo_166_ok pc r h
    | 167, _, h => exact xo_167_ok pc r h
    | 168, _, h => exact xo_168_ok pc r h
    | 169, _, h => exact xo_169_ok pc r h
    | 170, _, h => exact xo_170_ok pc r h
    | 171, _, h => exact xo_171_ok pc r h
    | 172, _, h => exact xo_172_ok pc r h
    | 173, _, h => exact xo_173_ok pc r h
    | 174, _, h => exact xo_174_ok pc r h
    | 175, _, h => exact xo_175_ok pc r h
    | 176, _, h => exact xo_176_ok pc r h
    | 177, _, h => exact xo_177_ok pc r h
    | 178, _, h => exact xo_178_ok pc r h
    | 179, _, h => exact xo_179_ok pc r h
    | 180, _, h => exact xo_180_ok pc r h
    | 181, _, h => exact xo_181_ok pc r h
    | 182, _, h => exact xo_182_ok pc r h
    | 183, _, h => exact xo_183_ok pc r h
    | 184, _, h => exact xo_184_ok pc r h
    | 185, _, h => exact xo_185_ok pc r h
    | 186, _, h => exact xo_186_ok pc r h
    | 187, _, h => exact xo_187_ok pc r h
    | 188, _, h => exact xo_188_ok pc r h
    | 189, _, h => exact xo_189_ok pc r h
    | 190, _, h => exact xo_190_ok pc r h
    | 191, _, h => exact xo_191_ok pc r h
    | 192, _, h => exact xo_192_ok pc r h
    | n + 193, hi, _ => exact absurd (Nat.le_add_left 193 n) hi
set_option maxRecDepth 100000 in
set_option maxHeartbeats 4000000 in
theorem xt_len (i pc : Nat) (r : Instr × Nat) (h : xt_ops i pc = some r) : xm_len r.1 r.2 = true := by
  by_cases hi : 193 ≤ i
  · rw [xt_dec_top i pc hi] at h; cases h
  · by_cases hp : pc < xt_M i
    · have h1 := List.all_eq_true.mp (List.all_eq_true.mp xt_len_all i (List.mem_range.mpr (by omega))) pc (List.mem_range.mpr hp)
      rw [h] at h1; exact h1
    · exfalso
      match i, hi, h, hp with
      | 0, _, h, hp => have h2 := xo_0_top pc (Nat.not_lt.mp hp); exact absurd (h2.symm.trans h) (by simp)
      | 1, _, h, hp => have h2 := xo_1_top pc (Nat.not_lt.mp hp); exact absurd (h2.symm.trans h) (by simp)
      | 2, _, h, hp => have h2 := xo_2_top pc (Nat.not_lt.mp hp); exact absurd (h2.symm.trans h) (by simp)
      | 3, _, h, hp => have h2 := xo_3_top pc (Nat.not_lt.mp hp); exact absurd (h2.symm.trans h) (by simp)
      | 4, _, h, hp => have h2 := xo_4_top pc (Nat.not_lt.mp hp); exact absurd (h2.symm.trans h) (by simp)
      | 5, _, h, hp => have h2 := xo_5_top pc (Nat.not_lt.mp hp); exact absurd (h2.symm.trans h) (by simp)
      | 6, _, h, hp => have h2 := xo_6_top pc (Nat.not_lt.mp hp); exact absurd (h2.symm.trans h) (by simp)
      | 7, _, h, hp => have h2 := xo_7_top pc (Nat.not_lt.mp hp); exact absurd (h2.symm.trans h) (by simp)
      | 8, _, h, hp => have h2 := xo_8_top pc (Nat.not_lt.mp hp); exact absurd (h2.symm.trans h) (by simp)
      | 9, _, h, hp => have h2 := xo_9_top pc (Nat.not_lt.mp hp); exact absurd (h2.symm.trans h) (by simp)
      | 10, _, h, hp => have h2 := xo_10_top pc (Nat.not_lt.mp hp); exact absurd (h2.symm.trans h) (by simp)
      | 11, _, h, hp => have h2 := xo_11_top pc (Nat.not_lt.mp hp); exact absurd (h2.symm.trans h) (by simp)
      | 12, _, h, hp => have h2 := xo_12_top pc (Nat.not_lt.mp hp); exact absurd (h2.symm.trans h) (by simp)
      | 13, _, h, hp => have h2 := xo_13_top pc (Nat.not_lt.mp hp); exact absurd (h2.symm.trans h) (by simp)
      | 14, _, h, hp => have h2 := xo_14_top pc (Nat.not_lt.mp hp); exact absurd (h2.symm.trans h) (by simp)
      | 15, _, h, hp => have h2 := xo_15_top pc (Nat.not_lt.mp hp); exact absurd (h2.symm.trans h) (by simp)
      | 16, _, h, hp => have h2 := xo_16_top pc (Nat.not_lt.mp hp); exact absurd (h2.symm.trans h) (by simp)
      | 17, _, h, hp => have h2 := xo_17_top pc (Nat.not_lt.mp hp); exact absurd (h2.symm.trans h) (by simp)
      | 18, _, h, hp => have h2 := xo_18_top pc (Nat.not_lt.mp hp); exact absurd (h2.symm.trans h) (by simp)
      | 19, _, h, hp => have h2 := xo_19_top pc (Nat.not_lt.mp hp); exact absurd (h2.symm.trans h) (by simp)
      | 20, _, h, hp => have h2 := xo_20_top pc (Nat.not_lt.mp hp); exact absurd (h2.symm.trans h) (by simp)
      | 21, _, h, hp => have h2 := xo_21_top pc (Nat.not_lt.mp hp); exact absurd (h2.symm.trans h) (by simp)
      | 22, _, h, hp => have h2 := xo_22_top pc (Nat.not_lt.mp hp); exact absurd (h2.symm.trans h) (by simp)
      | 23, _, h, hp => have h2 := xo_23_top pc (Nat.not_lt.mp hp); exact absurd (h2.symm.trans h) (by simp)
      | 24, _, h, hp => have h2 := xo_24_top pc (Nat.not_lt.mp hp); exact absurd (h2.symm.trans h) (by simp)
      | 25, _, h, hp => have h2 := xo_25_top pc (Nat.not_lt.mp hp); exact absurd (h2.symm.trans h) (by simp)
      | 26, _, h, hp => have h2 := xo_26_top pc (Nat.not_lt.mp hp); exact absurd (h2.symm.trans h) (by simp)
      | 27, _, h, hp => have h2 := xo_27_top pc (Nat.not_lt.mp hp); exact absurd (h2.symm.trans h) (by simp)
      | 28, _, h, hp => have h2 := xo_28_top pc (Nat.not_lt.mp hp); exact absurd (h2.symm.trans h) (by simp)
      | 29, _, h, hp => have h2 := xo_29_top pc (Nat.not_lt.mp hp); exact absurd (h2.symm.trans h) (by simp)
      | 30, _, h, hp => have h2 := xo_30_top pc (Nat.not_lt.mp hp); exact absurd (h2.symm.trans h) (by simp)
      | 31, _, h, hp => have h2 := xo_31_top pc (Nat.not_lt.mp hp); exact absurd (h2.symm.trans h) (by simp)
      | 32, _, h, hp => have h2 := xo_32_top pc (Nat.not_lt.mp hp); exact absurd (h2.symm.trans h) (by simp)
      | 33, _, h, hp => have h2 := xo_33_top pc (Nat.not_lt.mp hp); exact absurd (h2.symm.trans h) (by simp)
      | 34, _, h, hp => have h2 := xo_34_top pc (Nat.not_lt.mp hp); exact absurd (h2.symm.trans h) (by simp)
      | 35, _, h, hp => have h2 := xo_35_top pc (Nat.not_lt.mp hp); exact absurd (h2.symm.trans h) (by simp)
      | 36, _, h, hp => have h2 := xo_36_top pc (Nat.not_lt.mp hp); exact absurd (h2.symm.trans h) (by simp)
      | 37, _, h, hp => have h2 := xo_37_top pc (Nat.not_lt.mp hp); exact absurd (h2.symm.trans h) (by simp)
      | 38, _, h, hp => have h2 := xo_38_top pc (Nat.not_lt.mp hp); exact absurd (h2.symm.trans h) (by simp)
      | 39, _, h, hp => have h2 := xo_39_top pc (Nat.not_lt.mp hp); exact absurd (h2.symm.trans h) (by simp)
      | 40, _, h, hp => have h2 := xo_40_top pc (Nat.not_lt.mp hp); exact absurd (h2.symm.trans h) (by simp)
      | 41, _, h, hp => have h2 := xo_41_top pc (Nat.not_lt.mp hp); exact absurd (h2.symm.trans h) (by simp)
      | 42, _, h, hp => have h2 := xo_42_top pc (Nat.not_lt.mp hp); exact absurd (h2.symm.trans h) (by simp)
      | 43, _, h, hp => have h2 := xo_43_top pc (Nat.not_lt.mp hp); exact absurd (h2.symm.trans h) (by simp)
      | 44, _, h, hp => have h2 := xo_44_top pc (Nat.not_lt.mp hp); exact absurd (h2.symm.trans h) (by simp)
      | 45, _, h, hp => have h2 := xo_45_top pc (Nat.not_lt.mp hp); exact absurd (h2.symm.trans h) (by simp)
      | 46, _, h, hp => have h2 := xo_46_top pc (Nat.not_lt.mp hp); exact absurd (h2.symm.trans h) (by simp)
      | 47, _, h, hp => have h2 := xo_47_top pc (Nat.not_lt.mp hp); exact absurd (h2.symm.trans h) (by simp)
      | 48, _, h, hp => have h2 := xo_48_top pc (Nat.not_lt.mp hp); exact absurd (h2.symm.trans h) (by simp)
      | 49, _, h, hp => have h2 := xo_49_top pc (Nat.not_lt.mp hp); exact absurd (h2.symm.trans h) (by simp)
      | 50, _, h, hp => have h2 := xo_50_top pc (Nat.not_lt.mp hp); exact absurd (h2.symm.trans h) (by simp)
      | 51, _, h, hp => have h2 := xo_51_top pc (Nat.not_lt.mp hp); exact absurd (h2.symm.trans h) (by simp)
      | 52, _, h, hp => have h2 := xo_52_top pc (Nat.not_lt.mp hp); exact absurd (h2.symm.trans h) (by simp)
      | 53, _, h, hp => have h2 := xo_53_top pc (Nat.not_lt.mp hp); exact absurd (h2.symm.trans h) (by simp)
      | 54, _, h, hp => have h2 := xo_54_top pc (Nat.not_lt.mp hp); exact absurd (h2.symm.trans h) (by simp)
      | 55, _, h, hp => have h2 := xo_55_top pc (Nat.not_lt.mp hp); exact absurd (h2.symm.trans h) (by simp)
      | 56, _, h, hp => have h2 := xo_56_top pc (Nat.not_lt.mp hp); exact absurd (h2.symm.trans h) (by simp)
      | 57, _, h, hp => have h2 := xo_57_top pc (Nat.not_lt.mp hp); exact absurd (h2.symm.trans h) (by simp)
      | 58, _, h, hp => have h2 := xo_58_top pc (Nat.not_lt.mp hp); exact absurd (h2.symm.trans h) (by simp)
      | 59, _, h, hp => have h2 := xo_59_top pc (Nat.not_lt.mp hp); exact absurd (h2.symm.trans h) (by simp)
      | 60, _, h, hp => have h2 := xo_60_top pc (Nat.not_lt.mp hp); exact absurd (h2.symm.trans h) (by simp)
      | 61, _, h, hp => have h2 := xo_61_top pc (Nat.not_lt.mp hp); exact absurd (h2.symm.trans h) (by simp)
      | 62, _, h, hp => have h2 := xo_62_top pc (Nat.not_lt.mp hp); exact absurd (h2.symm.trans h) (by simp)
      | 63, _, h, hp => have h2 := xo_63_top pc (Nat.not_lt.mp hp); exact absurd (h2.symm.trans h) (by simp)
      | 64, _, h, hp => have h2 := xo_64_top pc (Nat.not_lt.mp hp); exact absurd (h2.symm.trans h) (by simp)
      | 65, _, h, hp => have h2 := xo_65_top pc (Nat.not_lt.mp hp); exact absurd (h2.symm.trans h) (by simp)
      | 66, _, h, hp => have h2 := xo_66_top pc (Nat.not_lt.mp hp); exact absurd (h2.symm.trans h) (by simp)
      | 67, _, h, hp => have h2 := xo_67_top pc (Nat.not_lt.mp hp); exact absurd (h2.symm.trans h) (by simp)
      | 68, _, h, hp => have h2 := xo_68_top pc (Nat.not_lt.mp hp); exact absurd (h2.symm.trans h) (by simp)
      | 69, _, h, hp => have h2 := xo_69_top pc (Nat.not_lt.mp hp); exact absurd (h2.symm.trans h) (by simp)
      | 70, _, h, hp => have h2 := xo_70_top pc (Nat.not_lt.mp hp); exact absurd (h2.symm.trans h) (by simp)
      | 71, _, h, hp => have h2 := xo_71_top pc (Nat.not_lt.mp hp); exact absurd (h2.symm.trans h) (by simp)
      | 72, _, h, hp => have h2 := xo_72_top pc (Nat.not_lt.mp hp); exact absurd (h2.symm.trans h) (by simp)
      | 73, _, h, hp => have h2 := xo_73_top pc (Nat.not_lt.mp hp); exact absurd (h2.symm.trans h) (by simp)
      | 74, _, h, hp => have h2 := xo_74_top pc (Nat.not_lt.mp hp); exact absurd (h2.symm.trans h) (by simp)
      | 75, _, h, hp => have h2 := xo_75_top pc (Nat.not_lt.mp hp); exact absurd (h2.symm.trans h) (by simp)
      | 76, _, h, hp => have h2 := xo_76_top pc (Nat.not_lt.mp hp); exact absurd (h2.symm.trans h) (by simp)
      | 77, _, h, hp => have h2 := xo_77_top pc (Nat.not_lt.mp hp); exact absurd (h2.symm.trans h) (by simp)
      | 78, _, h, hp => have h2 := xo_78_top pc (Nat.not_lt.mp hp); exact absurd (h2.symm.trans h) (by simp)
      | 79, _, h, hp => have h2 := xo_79_top pc (Nat.not_lt.mp hp); exact absurd (h2.symm.trans h) (by simp)
      | 80, _, h, hp => have h2 := xo_80_top pc (Nat.not_lt.mp hp); exact absurd (h2.symm.trans h) (by simp)
      | 81, _, h, hp => have h2 := xo_81_top pc (Nat.not_lt.mp hp); exact absurd (h2.symm.trans h) (by simp)
      | 82, _, h, hp => have h2 := xo_82_top pc (Nat.not_lt.mp hp); exact absurd (h2.symm.trans h) (by simp)
      | 83, _, h, hp => have h2 := xo_83_top pc (Nat.not_lt.mp hp); exact absurd (h2.symm.trans h) (by simp)
      | 84, _, h, hp => have h2 := xo_84_top pc (Nat.not_lt.mp hp); exact absurd (h2.symm.trans h) (by simp)
      | 85, _, h, hp => have h2 := xo_85_top pc (Nat.not_lt.mp hp); exact absurd (h2.symm.trans h) (by simp)
      | 86, _, h, hp => have h2 := xo_86_top pc (Nat.not_lt.mp hp); exact absurd (h2.symm.trans h) (by simp)
      | 87, _, h, hp => have h2 := xo_87_top pc (Nat.not_lt.mp hp); exact absurd (h2.symm.trans h) (by simp)
      | 88, _, h, hp => have h2 := xo_88_top pc (Nat.not_lt.mp hp); exact absurd (h2.symm.trans h) (by simp)
      | 89, _, h, hp => have h2 := xo_89_top pc (Nat.not_lt.mp hp); exact absurd (h2.symm.trans h) (by simp)
      | 90, _, h, hp => have h2 := xo_90_top pc (Nat.not_lt.mp hp); exact absurd (h2.symm.trans h) (by simp)
      | 91, _, h, hp => have h2 := xo_91_top pc (Nat.not_lt.mp hp); exact absurd (h2.symm.trans h) (by simp)
      | 92, _, h, hp => have h2 := xo_92_top pc (Nat.not_lt.mp hp); exact absurd (h2.symm.trans h) (by simp)
      | 93, _, h, hp => have h2 := xo_93_top pc (Nat.not_lt.mp hp); exact absurd (h2.symm.trans h) (by simp)
      | 94, _, h, hp => have h2 := xo_94_top pc (Nat.not_lt.mp hp); exact absurd (h2.symm.trans h) (by simp)
      | 95, _, h, hp => have h2 := xo_95_top pc (Nat.not_lt.mp hp); exact absurd (h2.symm.trans h) (by simp)
      | 96, _, h, hp => have h2 := xo_96_top pc (Nat.not_lt.mp hp); exact absurd (h2.symm.trans h) (by simp)
      | 97, _, h, hp => have h2 := xo_97_top pc (Nat.not_lt.mp hp); exact absurd (h2.symm.trans h) (by simp)
      | 98, _, h, hp => have h2 := xo_98_top pc (Nat.not_lt.mp hp); exact absurd (h2.symm.trans h) (by simp)
      | 99, _, h, hp => have h2 := xo_99_top pc (Nat.not_lt.mp hp); exact absurd (h2.symm.trans h) (by simp)
      | 100, _, h, hp => have h2 := xo_100_top pc (Nat.not_lt.mp hp); exact absurd (h2.symm.trans h) (by simp)
      | 101, _, h, hp => have h2 := xo_101_top pc (Nat.not_lt.mp hp); exact absurd (h2.symm.trans h) (by simp)
      | 102, _, h, hp => have h2 := xo_102_top pc (Nat.not_lt.mp hp); exact absurd (h2.symm.trans h) (by simp)
      | 103, _, h, hp => have h2 := xo_103_top pc (Nat.not_lt.mp hp); exact absurd (h2.symm.trans h) (by simp)
      | 104, _, h, hp => have h2 := xo_104_top pc (Nat.not_lt.mp hp); exact absurd (h2.symm.trans h) (by simp)
      | 105, _, h, hp => have h2 := xo_105_top pc (Nat.not_lt.mp hp); exact absurd (h2.symm.trans h) (by simp)
      | 106, _, h, hp => have h2 := xo_106_top pc (Nat.not_lt.mp hp); exact absurd (h2.symm.trans h) (by simp)
      | 107, _, h, hp => have h2 := xo_107_top pc (Nat.not_lt.mp hp); exact absurd (h2.symm.trans h) (by simp)
      | 108, _, h, hp => have h2 := xo_108_top pc (Nat.not_lt.mp hp); exact absurd (h2.symm.trans h) (by simp)
      | 109, _, h, hp => have h2 := xo_109_top pc (Nat.not_lt.mp hp); exact absurd (h2.symm.trans h) (by simp)
      | 110, _, h, hp => have h2 := xo_110_top pc (Nat.not_lt.mp hp); exact absurd (h2.symm.trans h) (by simp)
      | 111, _, h, hp => have h2 := xo_111_top pc (Nat.not_lt.mp hp); exact absurd (h2.symm.trans h) (by simp)
      | 112, _, h, hp => have h2 := xo_112_top pc (Nat.not_lt.mp hp); exact absurd (h2.symm.trans h) (by simp)
      | 113, _, h, hp => have h2 := xo_113_top pc (Nat.not_lt.mp hp); exact absurd (h2.symm.trans h) (by simp)
      | 114, _, h, hp => have h2 := xo_114_top pc (Nat.not_lt.mp hp); exact absurd (h2.symm.trans h) (by simp)
      | 115, _, h, hp => have h2 := xo_115_top pc (Nat.not_lt.mp hp); exact absurd (h2.symm.trans h) (by simp)
      | 116, _, h, hp => have h2 := xo_116_top pc (Nat.not_lt.mp hp); exact absurd (h2.symm.trans h) (by simp)
      | 117, _, h, hp => have h2 := xo_117_top pc (Nat.not_lt.mp hp); exact absurd (h2.symm.trans h) (by simp)
      | 118, _, h, hp => have h2 := xo_118_top pc (Nat.not_lt.mp hp); exact absurd (h2.symm.trans h) (by simp)
      | 119, _, h, hp => have h2 := xo_119_top pc (Nat.not_lt.mp hp); exact absurd (h2.symm.trans h) (by simp)
      | 120, _, h, hp => have h2 := xo_120_top pc (Nat.not_lt.mp hp); exact absurd (h2.symm.trans h) (by simp)
      | 121, _, h, hp => have h2 := xo_121_top pc (Nat.not_lt.mp hp); exact absurd (h2.symm.trans h) (by simp)
      | 122, _, h, hp => have h2 := xo_122_top pc (Nat.not_lt.mp hp); exact absurd (h2.symm.trans h) (by simp)
      | 123, _, h, hp => have h2 := xo_123_top pc (Nat.not_lt.mp hp); exact absurd (h2.symm.trans h) (by simp)
      | 124, _, h, hp => have h2 := xo_124_top pc (Nat.not_lt.mp hp); exact absurd (h2.symm.trans h) (by simp)
      | 125, _, h, hp => have h2 := xo_125_top pc (Nat.not_lt.mp hp); exact absurd (h2.symm.trans h) (by simp)
      | 126, _, h, hp => have h2 := xo_126_top pc (Nat.not_lt.mp hp); exact absurd (h2.symm.trans h) (by simp)
      | 127, _, h, hp => have h2 := xo_127_top pc (Nat.not_lt.mp hp); exact absurd (h2.symm.trans h) (by simp)
      | 128, _, h, hp => have h2 := xo_128_top pc (Nat.not_lt.mp hp); exact absurd (h2.symm.trans h) (by simp)
      | 129, _, h, hp => have h2 := xo_129_top pc (Nat.not_lt.mp hp); exact absurd (h2.symm.trans h) (by simp)
      | 130, _, h, hp => have h2 := xo_130_top pc (Nat.not_lt.mp hp); exact absurd (h2.symm.trans h) (by simp)
      | 131, _, h, hp => have h2 := xo_131_top pc (Nat.not_lt.mp hp); exact absurd (h2.symm.trans h) (by simp)
      | 132, _, h, hp => have h2 := xo_132_top pc (Nat.not_lt.mp hp); exact absurd (h2.symm.trans h) (by simp)
      | 133, _, h, hp => have h2 := xo_133_top pc (Nat.not_lt.mp hp); exact absurd (h2.symm.trans h) (by simp)
      | 134, _, h, hp => have h2 := xo_134_top pc (Nat.not_lt.mp hp); exact absurd (h2.symm.trans h) (by simp)
      | 135, _, h, hp => have h2 := xo_135_top pc (Nat.not_lt.mp hp); exact absurd (h2.symm.trans h) (by simp)
      | 136, _, h, hp => have h2 := xo_136_top pc (Nat.not_lt.mp hp); exact absurd (h2.symm.trans h) (by simp)
      | 137, _, h, hp => have h2 := xo_137_top pc (Nat.not_lt.mp hp); exact absurd (h2.symm.trans h) (by simp)
      | 138, _, h, hp => have h2 := xo_138_top pc (Nat.not_lt.mp hp); exact absurd (h2.symm.trans h) (by simp)
      | 139, _, h, hp => have h2 := xo_139_top pc (Nat.not_lt.mp hp); exact absurd (h2.symm.trans h) (by simp)
      | 140, _, h, hp => have h2 := xo_140_top pc (Nat.not_lt.mp hp); exact absurd (h2.symm.trans h) (by simp)
      | 141, _, h, hp => have h2 := xo_141_top pc (Nat.not_lt.mp hp); exact absurd (h2.symm.trans h) (by simp)
      | 142, _, h, hp => have h2 := xo_142_top pc (Nat.not_lt.mp hp); exact absurd (h2.symm.trans h) (by simp)
      | 143, _, h, hp => have h2 := xo_143_top pc (Nat.not_lt.mp hp); exact absurd (h2.symm.trans h) (by simp)
      | 144, _, h, hp => have h2 := xo_144_top pc (Nat.not_lt.mp hp); exact absurd (h2.symm.trans h) (by simp)
      | 145, _, h, hp => have h2 := xo_145_top pc (Nat.not_lt.mp hp); exact absurd (h2.symm.trans h) (by simp)
      | 146, _, h, hp => have h2 := xo_146_top pc (Nat.not_lt.mp hp); exact absurd (h2.symm.trans h) (by simp)
      | 147, _, h, hp => have h2 := xo_147_top pc (Nat.not_lt.mp hp); exact absurd (h2.symm.trans h) (by simp)
      | 148, _, h, hp => have h2 := xo_148_top pc (Nat.not_lt.mp hp); exact absurd (h2.symm.trans h) (by simp)
      | 149, _, h, hp => have h2 := xo_149_top pc (Nat.not_lt.mp hp); exact absurd (h2.symm.trans h) (by simp)
      | 150, _, h, hp => have h2 := xo_150_top pc (Nat.not_lt.mp hp); exact absurd (h2.symm.trans h) (by simp)
      | 151, _, h, hp => have h2 := xo_151_top pc (Nat.not_lt.mp hp); exact absurd (h2.symm.trans h) (by simp)
      | 152, _, h, hp => have h2 := xo_152_top pc (Nat.not_lt.mp hp); exact absurd (h2.symm.trans h) (by simp)
      | 153, _, h, hp => have h2 := xo_153_top pc (Nat.not_lt.mp hp); exact absurd (h2.symm.trans h) (by simp)
      | 154, _, h, hp => have h2 := xo_154_top pc (Nat.not_lt.mp hp); exact absurd (h2.symm.trans h) (by simp)
      | 155, _, h, hp => have h2 := xo_155_top pc (Nat.not_lt.mp hp); exact absurd (h2.symm.trans h) (by simp)
      | 156, _, h, hp => have h2 := xo_156_top pc (Nat.not_lt.mp hp); exact absurd (h2.symm.trans h) (by simp)
      | 157, _, h, hp => have h2 := xo_157_top pc (Nat.not_lt.mp hp); exact absurd (h2.symm.trans h) (by simp)
      | 158, _, h, hp => have h2 := xo_158_top pc (Nat.not_lt.mp hp); exact absurd (h2.symm.trans h) (by simp)
      | 159, _, h, hp => have h2 := xo_159_top pc (Nat.not_lt.mp hp); exact absurd (h2.symm.trans h) (by simp)
      | 160, _, h, hp => have h2 := xo_160_top pc (Nat.not_lt.mp hp); exact absurd (h2.symm.trans h) (by simp)
      | 161, _, h, hp => have h2 := xo_161_top pc (Nat.not_lt.mp hp); exact absurd (h2.symm.trans h) (by simp)
      | 162, _, h, hp => have h2 := xo_162_top pc (Nat.not_lt.mp hp); exact absurd (h2.symm.trans h) (by simp)
      | 163, _, h, hp => have h2 := xo_163_top pc (Nat.not_lt.mp hp); exact absurd (h2.symm.trans h) (by simp)
      | 164, _, h, hp => have h2 := xo_164_top pc (Nat.not_lt.mp hp); exact absurd (h2.symm.trans h) (by simp)
      | 165, _, h, hp => have h2 := xo_165_top pc (Nat.not_lt.mp hp); exact absurd (h2.symm.trans h) (by simp)
      | 166, _, h, hp => have h2 := xo_166_top pc (Nat.not_lt.mp hp); exact absurd (h2.symm.trans h) (by simp)
      | 167, _, h, hp => have h2 := xo_167_top pc (Nat.not_lt.mp hp); exact absurd (h2.symm.trans h) (by simp)
      | 168, _, h, hp => have h2 := xo_168_top pc (Nat.not_lt.mp hp); exact absurd (h2.symm.trans h) (by simp)
      | 169, _, h, hp => have h2 := xo_169_top pc (Nat.not_lt.mp hp); exact absurd (h2.symm.trans h) (by simp)
      | 170, _, h, hp => have h2 := xo_170_top pc (Nat.not_lt.mp hp); exact absurd (h2.symm.trans h) (by simp)
      | 171, _, h, hp => have h2 := xo_171_top pc (Nat.not_lt.mp hp); exact absurd (h2.symm.trans h) (by simp)
      | 172, _, h, hp => have h2 := xo_172_top pc (Nat.not_lt.mp hp); exact absurd (h2.symm.trans h) (by simp)
      | 173, _, h, hp => have h2 := xo_173_top pc (Nat.not_lt.mp hp); exact absurd (h2.symm.trans h) (by simp)
      | 174, _, h, hp => have h2 := xo_174_top pc (Nat.not_lt.mp hp); exact absurd (h2.symm.trans h) (by simp)
      | 175, _, h, hp => have h2 := xo_175_top pc (Nat.not_lt.mp hp); exact absurd (h2.symm.trans h) (by simp)
      | 176, _, h, hp => have h2 := xo_176_top pc (Nat.not_lt.mp hp); exact absurd (h2.symm.trans h) (by simp)
      | 177, _, h, hp => have h2 := xo_177_top pc (Nat.not_lt.mp hp); exact absurd (h2.symm.trans h) (by simp)
      | 178, _, h, hp => have h2 := xo_178_top pc (Nat.not_lt.mp hp); exact absurd (h2.symm.trans h) (by simp)
      | 179, _, h, hp => have h2 := xo_179_top pc (Nat.not_lt.mp hp); exact absurd (h2.symm.trans h) (by simp)
      | 180, _, h, hp => have h2 := xo_180_top pc (Nat.not_lt.mp hp); exact absurd (h2.symm.trans h) (by simp)
      | 181, _, h, hp => have h2 := xo_181_top pc (Nat.not_lt.mp hp); exact absurd (h2.symm.trans h) (by simp)
      | 182, _, h, hp => have h2 := xo_182_top pc (Nat.not_lt.mp hp); exact absurd (h2.symm.trans h) (by simp)
      | 183, _, h, hp => have h2 := xo_183_top pc (Nat.not_lt.mp hp); exact absurd (h2.symm.trans h) (by simp)
      | 184, _, h, hp => have h2 := xo_184_top pc (Nat.not_lt.mp hp); exact absurd (h2.symm.trans h) (by simp)
      | 185, _, h, hp => have h2 := xo_185_top pc (Nat.not_lt.mp hp); exact absurd (h2.symm.trans h) (by simp)
      | 186, _, h, hp => have h2 := xo_186_top pc (Nat.not_lt.mp hp); exact absurd (h2.symm.trans h) (by simp)
      | 187, _, h, hp => have h2 := xo_187_top pc (Nat.not_lt.mp hp); exact absurd (h2.symm.trans h) (by simp)
      | 188, _, h, hp => have h2 := xo_188_top pc (Nat.not_lt.mp hp); exact absurd (h2.symm.trans h) (by simp)
      | 189, _, h, hp => have h2 := xo_189_top pc (Nat.not_lt.mp hp); exact absurd (h2.symm.trans h) (by simp)
      | 190, _, h, hp => have h2 := xo_190_top pc (Nat.not_lt.mp hp); exact absurd (h2.symm.trans h) (by simp)
      | 191, _, h, hp => have h2 := xo_191_top pc (Nat.not_lt.mp hp); exact absurd (h2.symm.trans h) (by simp)
      | 192, _, h, hp => have h2 := xo_192_top pc (Nat.not_lt.mp hp); exact absurd (h2.symm.trans h) (by simp)
      | n + 193, hi, _, _ => exact absurd (Nat.le_add_left 193 n) hi
end
section
/-! a value of the machine for each abstract one -/
def xq_v {ρ : Type} (f : ρ → Value) : xv ρ → Value
  | .inl x => .int x
  | .inr (.inl x) => .long x
  | .inr (.inr r) => f r
def xq_l {ρ : Type} (f : ρ → Value) (ls : xl ρ) : List (Nat × Value) := ls.map (fun q => (q.1, xq_v f q.2))
/-- references are null or a cell's address -/
def xq_ok {ρ : Type} (f : ρ → Value) (nul : ρ → Bool) : Prop := ∀ r : ρ, (nul r = true ∧ f r = .null) ∨ (nul r = false ∧ ∃ a : Nat, f r = .ref a)
theorem xq_cat {ρ : Type} {f : ρ → Value} {nul : ρ → Bool} (hf : xq_ok f nul) (v : xv ρ) : (xq_v f v).category = xm_cat v := by
  rcases v with x | x | r
  · rfl
  · rfl
  · show (f r).category = 1
    rcases hf r with ⟨-, h⟩ | ⟨-, a, h⟩ <;> rw [h] <;> rfl
theorem xq_cats {ρ : Type} {f : ρ → Value} {nul : ρ → Bool} (hf : xq_ok f nul) : ∀ st : List (xv ρ), ((st.map (xq_v f)).map fun v => v.category).sum = xm_cats st
  | [] => rfl
  | v :: r => by
    simp only [List.map_cons, List.sum_cons, xm_cats]
    rw [xq_cat hf, xq_cats hf r]
theorem xm_get_mem {ρ : Type} : ∀ {ls : xl ρ} {i : Nat} {v : xv ρ}, xm_get ls i = some v → (i, v) ∈ ls
  | [], i, v, h => by cases h
  | (k, w) :: r, i, v, h => by
    unfold xm_get at h
    by_cases e : k = i
    · rw [if_pos e] at h
      cases h
      subst e
      exact List.mem_cons_self
    · rw [if_neg e] at h
      exact List.mem_cons_of_mem _ (xm_get_mem h)
theorem xq_get {ρ : Type} {f : ρ → Value} {ls : xl ρ} {i : Nat} {v : xv ρ} (h : xm_get ls i = some v) : (i, xq_v f v) ∈ xq_l f ls :=
  List.mem_map.mpr ⟨(i, v), xm_get_mem h, rfl⟩
theorem xq_set1 {ρ : Type} {f : ρ → Value} {nul : ρ → Bool} (hf : xq_ok f nul) (ls : xl ρ) (i : Nat) (v : xv ρ) :
    (i, xq_v f v) :: (xq_l f ls).filter (fun q => !(q.1 == i) && !(q.1 + 1 == i && q.2.category == 2)) = xq_l f (xm_set1 ls i v) := by
  unfold xm_set1 xq_l
  rw [List.map_cons, List.filter_map]
  congr 2
  apply List.filter_congr
  intro q _
  simp only [Function.comp, xq_cat hf]
theorem xq_set2 {ρ : Type} {f : ρ → Value} {nul : ρ → Bool} (hf : xq_ok f nul) (ls : xl ρ) (i : Nat) (v : xv ρ) :
    (i, xq_v f v) :: (xq_l f ls).filter (fun q => !(q.1 == i) && (!(q.1 == i + 1) && !(q.1 + 1 == i && q.2.category == 2))) = xq_l f (xm_set2 ls i v) := by
  unfold xm_set2 xq_l
  rw [List.map_cons, List.filter_map]
  congr 2
  apply List.filter_congr
  intro q _
  simp only [Function.comp, xq_cat hf]
theorem xm_tgt_ok {pc t : Nat} {off : Int} (h : xm_tgt pc off = some t) : (pc : Int) + off = (t : Int) := by
  unfold xm_tgt at h
  split at h
  · next n e =>
    cases h
    exact e
  · cases h
/-- what a switch does, by keys -/
theorem xm_sw_cases {ρ : Type} {x : Int32} {pc : Nat} {d : Int} {ls : xl ρ} {st : List (xv ρ)} : ∀ {ks : List (Int × Int)} {o : (Nat × (xl ρ × List (xv ρ))) ⊕ Option (xv ρ)} (lo : Int), -2147483648 ≤ lo → xm_kok lo ks = true → xm_sw x pc d ls st ks = some o →
    (∃ off t, Op.lookupswitch.offset ks d x.toInt = off ∧ (pc : Int) + off = (t : Nat) ∧ o = .inl (t, ls, st))
  | [], o, lo, hlo, hk, h => by
    unfold xm_sw xm_jmp at h
    split at h
    · next t e =>
      cases h
      exact ⟨d, t, rfl, xm_tgt_ok e, rfl⟩
    · cases h
  | (k, off) :: r, o, lo, hlo, hk, h => by
    unfold xm_kok at hk
    simp only [Bool.and_eq_true, decide_eq_true_eq] at hk
    unfold xm_sw at h
    rw [Op.lookupswitch.offset_cons]
    have hki : (Int32.ofInt k).toInt = k := by
      rw [Int32.toInt_ofInt, show Int32.size = 4294967296 from rfl]
      exact Int.bmod_eq_of_le (by omega) (by omega)
    by_cases e : x = Int32.ofInt k
    · rw [if_pos e] at h
      rw [if_pos (by rw [e, hki])]
      unfold xm_jmp at h
      split at h
      · next t e2 =>
        cases h
        exact ⟨off, t, rfl, xm_tgt_ok e2, rfl⟩
      · cases h
    · rw [if_neg e] at h
      rw [if_neg (fun q => e (Int32.toInt_inj.mp (by rw [hki]; exact q.symm)))]
      exact xm_sw_cases (k + 1) (by omega) hk.2 h

theorem xm_keys_off (d k : Int) : ∀ (os : List Int) (lo : Int), Op.lookupswitch.offset (xm_keys lo os) d k = if lo ≤ k ∧ k < lo + os.length then os.getD (k - lo).toNat d else d
  | [], lo => by
    rw [if_neg (by simp only [List.length_nil]; omega)]
    rfl
  | o :: r, lo => by
    unfold xm_keys
    rw [Op.lookupswitch.offset_cons, xm_keys_off d k r (lo + 1)]
    by_cases e : lo = k
    · rw [if_pos e, if_pos (by simp only [List.length_cons]; omega), show (k - lo).toNat = 0 by omega]
      rfl
    · rw [if_neg e]
      by_cases e2 : lo + 1 ≤ k ∧ k < lo + 1 + r.length
      · rw [if_pos e2, if_pos (by simp only [List.length_cons]; omega), show (k - lo).toNat = (k - (lo + 1)).toNat + 1 by omega]
        rfl
      · rw [if_neg e2, if_neg (by simp only [List.length_cons]; omega)]
theorem xm_kok_low : ∀ (ks : List (Int × Int)) (lo : Int), xm_kok lo ks = true → ∀ q ∈ ks.head?, lo ≤ q.1
  | [], _, _, q, hq => by cases hq
  | (k, o) :: r, lo, h, q, hq => by
    unfold xm_kok at h
    simp only [Bool.and_eq_true, decide_eq_true_eq] at h
    cases hq
    exact h.1.1
theorem xm_kok_sorted : ∀ (ks : List (Int × Int)) (lo : Int), xm_kok lo ks = true → (ks.zip (ks.drop 1)).all (fun (a, next) => a.1 < next.1) = true
  | [], _, _ => rfl
  | [_], _, _ => rfl
  | (k, o) :: (k2, o2) :: r, lo, h => by
    unfold xm_kok at h
    simp only [Bool.and_eq_true, decide_eq_true_eq] at h
    have h2 := xm_kok_sorted ((k2, o2) :: r) (k + 1) h.2
    have h3 := xm_kok_low _ _ h.2 (k2, o2) rfl
    simp only [List.drop_succ_cons, List.drop_zero, List.zip_cons_cons, List.all_cons, Bool.and_eq_true, decide_eq_true_eq]
    exact ⟨by show k < k2; have : k + 1 ≤ k2 := h3; omega, h2⟩
section SNC
variable {p : Program} {l : Launch} {e : Env} {R : Room} {s : State} {m : MethodId} {args : Array Value} {below : List Frame} {meth : Method} {c : Code} {H : Heap} {locs : List Loc} {cells slots : Nat} {Q : State → Prop}
set_option maxHeartbeats 4000000 in
theorem xs_core {ρ : Type} {f : ρ → Value} {nul : ρ → Bool} (hf : xq_ok f nul) {i pc pc' len : Nat} {ins : Instr} {ls ls' : xl ρ} {st st' : List (xv ρ)} {lsA : Array Slot}
    (hx : p.tables.exec = Jvm.exec) (hb : c.code = xt_C i) (hop : xt_ops i pc = some (ins, len)) (hc : xm_core nul (xt_R i) (xt_L i) pc ls st ins = some (.inl (pc', ls', st'))) (hl : lv_has lsA (xt_L i) (xq_l f ls))
    (kk : ∀ lsB : Array Slot, lv_has lsB (xt_L i) (xq_l f ls') → W p l e R s m args below meth c H locs cells slots Q (F0 m pc' lsB (st'.map (xq_v f)))) :
    W p l e R s m args below meth c H locs cells slots Q (F0 m pc lsA (st.map (xq_v f))) := by
  have hdg := xt_dec i pc _ hop
  have hln := xt_len i pc _ hop
  cases ins
  all_goals try (simp [xm_core] at hc; done)
  case iconst k =>
    cases hc
    cases (beq_iff_eq.mp hln : len = 1)
    exact lv_iconst hx hb hdg rfl (kk _ hl)
  case bipush k =>
    cases hc
    cases (beq_iff_eq.mp hln : len = 2)
    exact lv_bipush hx hb hdg rfl (kk _ hl)
  case sipush k =>
    cases hc
    cases (beq_iff_eq.mp hln : len = 3)
    exact lv_sipush hx hb hdg rfl (kk _ hl)
  case lconst k =>
    cases hc
    cases (beq_iff_eq.mp hln : len = 1)
    exact lv_lconst hx hb hdg rfl (kk _ hl)
  case iload_n k =>
    cases (beq_iff_eq.mp hln : len = 1)
    simp only [xm_core, xm_ldi] at hc
    split at hc
    · next x hg => cases hc; exact lv_iload_n hx hb hdg rfl (hl.2.2 _ (xq_get hg)) (kk _ hl)
    · cases hc
  case iload k =>
    cases (beq_iff_eq.mp hln : len = 2)
    simp only [xm_core, xm_ldi] at hc
    split at hc
    · next x hg => cases hc; exact lv_iload hx hb hdg (hl.2.2 _ (xq_get hg)) (kk _ hl)
    · cases hc
  case lload_n k =>
    cases (beq_iff_eq.mp hln : len = 1)
    simp only [xm_core, xm_ldl] at hc
    split at hc
    · next x hg => cases hc; exact lv_lload_n hx hb hdg rfl (hl.2.2 _ (xq_get hg)) (kk _ hl)
    · cases hc
  case lload k =>
    cases (beq_iff_eq.mp hln : len = 2)
    simp only [xm_core, xm_ldl] at hc
    split at hc
    · next x hg => cases hc; exact lv_lload hx hb hdg (hl.2.2 _ (xq_get hg)) (kk _ hl)
    · cases hc
  case aload_n k =>
    cases (beq_iff_eq.mp hln : len = 1)
    simp only [xm_core, xm_lda] at hc
    split at hc
    · next x hg =>
      cases hc
      have hm := hl.2.2 _ (xq_get (f := f) hg)
      have hk := kk _ hl
      simp only [List.map_cons, xq_v] at hm hk
      rcases hf x with ⟨-, h⟩ | ⟨-, a, h⟩ <;> rw [h] at hm hk
      · exact lv_aload_nN hx hb hdg rfl hm hk
      · exact lv_aload_n hx hb hdg rfl hm hk
    · cases hc
  case aload k =>
    cases (beq_iff_eq.mp hln : len = 2)
    simp only [xm_core, xm_lda] at hc
    split at hc
    · next x hg =>
      cases hc
      have hm := hl.2.2 _ (xq_get (f := f) hg)
      have hk := kk _ hl
      simp only [List.map_cons, xq_v] at hm hk
      rcases hf x with ⟨-, h⟩ | ⟨-, a, h⟩ <;> rw [h] at hm hk
      · exact lv_aloadN hx hb hdg hm hk
      · exact lv_aload hx hb hdg hm hk
    · cases hc
  case istore_n k =>
    cases (beq_iff_eq.mp hln : len = 1)
    simp only [xm_core, xm_sti] at hc
    split at hc
    · split at hc
      · next hn => cases hc; exact lv_istore_n hx hb hdg rfl hl hn (xq_set1 hf ls _ (.inl _)) kk
      · cases hc
    · cases hc
  case istore k =>
    cases (beq_iff_eq.mp hln : len = 2)
    simp only [xm_core, xm_sti] at hc
    split at hc
    · split at hc
      · next hn => cases hc; exact lv_istore hx hb hdg hl hn (xq_set1 hf ls _ (.inl _)) kk
      · cases hc
    · cases hc
  case lstore_n k =>
    cases (beq_iff_eq.mp hln : len = 1)
    simp only [xm_core, xm_stl] at hc
    split at hc
    · split at hc
      · next hn => cases hc; exact lv_lstore_n hx hb hdg rfl hl hn (xq_set2 hf ls _ (.inr (.inl _))) kk
      · cases hc
    · cases hc
  case lstore k =>
    cases (beq_iff_eq.mp hln : len = 2)
    simp only [xm_core, xm_stl] at hc
    split at hc
    · split at hc
      · next hn => cases hc; exact lv_lstore hx hb hdg hl hn (xq_set2 hf ls _ (.inr (.inl _))) kk
      · cases hc
    · cases hc
  case astore_n k =>
    cases (beq_iff_eq.mp hln : len = 1)
    simp only [xm_core, xm_sta] at hc
    split at hc
    · next x r =>
      split at hc
      · next hn =>
        cases hc
        have hs := xq_set1 hf ls (k : Nat) (.inr (.inr x))
        simp only [List.map_cons, xq_v] at hs ⊢
        rcases hf x with ⟨-, h⟩ | ⟨-, a, h⟩ <;> rw [h] at hs ⊢
        · exact lv_astore_nN hx hb hdg rfl hl hn hs kk
        · exact lv_astore_n hx hb hdg rfl hl hn hs kk
      · cases hc
    · cases hc
  case astore k =>
    cases (beq_iff_eq.mp hln : len = 2)
    simp only [xm_core, xm_sta] at hc
    split at hc
    · next x r =>
      split at hc
      · next hn =>
        cases hc
        have hs := xq_set1 hf ls k (.inr (.inr x))
        simp only [List.map_cons, xq_v] at hs ⊢
        rcases hf x with ⟨-, h⟩ | ⟨-, a, h⟩ <;> rw [h] at hs ⊢
        · exact lv_astoreN hx hb hdg hl hn hs kk
        · exact lv_astore hx hb hdg hl hn hs kk
      · cases hc
    · cases hc
  case iinc j k =>
    cases (beq_iff_eq.mp hln : len = 3)
    simp only [xm_core, xm_iinc] at hc
    split at hc
    · next x hg =>
      split at hc
      · next hn =>
        cases hc
        obtain ⟨q, hq⟩ := List.getElem?_of_mem (xq_get (f := f) hg)
        exact lv_iinc hx hb hdg hl hq rfl hn (xq_set1 hf ls j (.inl _)) kk
      · cases hc
    · cases hc
  case iadd =>
    cases (beq_iff_eq.mp hln : len = 1)
    simp only [xm_core, xm_b] at hc
    split at hc
    · cases hc; exact lv_iadd hx hb hdg (kk _ hl)
    · cases hc
  case isub =>
    cases (beq_iff_eq.mp hln : len = 1)
    simp only [xm_core, xm_b] at hc
    split at hc
    · cases hc; exact lv_isub hx hb hdg (kk _ hl)
    · cases hc
  case imul =>
    cases (beq_iff_eq.mp hln : len = 1)
    simp only [xm_core, xm_b] at hc
    split at hc
    · cases hc; exact lv_imul hx hb hdg (kk _ hl)
    · cases hc
  case iand =>
    cases (beq_iff_eq.mp hln : len = 1)
    simp only [xm_core, xm_b] at hc
    split at hc
    · cases hc; exact lv_iand hx hb hdg (kk _ hl)
    · cases hc
  case ior =>
    cases (beq_iff_eq.mp hln : len = 1)
    simp only [xm_core, xm_b] at hc
    split at hc
    · cases hc; exact lv_ior hx hb hdg (kk _ hl)
    · cases hc
  case ixor =>
    cases (beq_iff_eq.mp hln : len = 1)
    simp only [xm_core, xm_b] at hc
    split at hc
    · cases hc; exact lv_ixor hx hb hdg (kk _ hl)
    · cases hc
  case ishl =>
    cases (beq_iff_eq.mp hln : len = 1)
    simp only [xm_core, xm_b] at hc
    split at hc
    · cases hc; exact lv_ishl hx hb hdg (kk _ hl)
    · cases hc
  case ishr =>
    cases (beq_iff_eq.mp hln : len = 1)
    simp only [xm_core, xm_b] at hc
    split at hc
    · cases hc; exact lv_ishr hx hb hdg (kk _ hl)
    · cases hc
  case iushr =>
    cases (beq_iff_eq.mp hln : len = 1)
    simp only [xm_core, xm_b] at hc
    split at hc
    · cases hc; exact lv_iushr hx hb hdg rfl (kk _ hl)
    · cases hc
  case land =>
    cases (beq_iff_eq.mp hln : len = 1)
    simp only [xm_core, xm_bl] at hc
    split at hc
    · cases hc; exact lv_land hx hb hdg (kk _ hl)
    · cases hc
  case lor =>
    cases (beq_iff_eq.mp hln : len = 1)
    simp only [xm_core, xm_bl] at hc
    split at hc
    · cases hc; exact lv_lor hx hb hdg (kk _ hl)
    · cases hc
  case lshl =>
    cases (beq_iff_eq.mp hln : len = 1)
    simp only [xm_core, xm_bs] at hc
    split at hc
    · cases hc; exact lv_lshl hx hb hdg rfl (kk _ hl)
    · cases hc
  case lushr =>
    cases (beq_iff_eq.mp hln : len = 1)
    simp only [xm_core, xm_bs] at hc
    split at hc
    · cases hc; exact lv_lushr hx hb hdg rfl (kk _ hl)
    · cases hc
  case lcmp =>
    cases (beq_iff_eq.mp hln : len = 1)
    simp only [xm_core] at hc
    split at hc
    · cases hc; exact W.lcmp hx hb hdg (kk _ hl)
    · cases hc
  case i2l =>
    cases (beq_iff_eq.mp hln : len = 1)
    simp only [xm_core] at hc
    split at hc
    · cases hc; exact lv_i2l hx hb hdg rfl (kk _ hl)
    · cases hc
  case l2i =>
    cases (beq_iff_eq.mp hln : len = 1)
    simp only [xm_core] at hc
    split at hc
    · cases hc; exact lv_l2i hx hb hdg rfl (kk _ hl)
    · cases hc
  case i2c =>
    cases (beq_iff_eq.mp hln : len = 1)
    simp only [xm_core] at hc
    split at hc
    · cases hc; exact lv_i2c hx hb hdg rfl (kk _ hl)
    · cases hc
  case dup =>
    cases (beq_iff_eq.mp hln : len = 1)
    simp only [xm_core] at hc
    split at hc
    · split at hc
      · next hv => cases hc; exact lv_dup hx hb hdg (by rw [xq_cat hf]; exact hv) (kk _ hl)
      · cases hc
    · cases hc
  case dup2 =>
    cases (beq_iff_eq.mp hln : len = 1)
    simp only [xm_core] at hc
    split at hc
    · split at hc
      · next hv => cases hc; exact lv_dup2_11 hx hb hdg (by rw [xq_cat hf]; exact hv.1) (by rw [xq_cat hf]; exact hv.2) (kk _ hl)
      · cases hc
    · cases hc
  case pop =>
    cases (beq_iff_eq.mp hln : len = 1)
    simp only [xm_core] at hc
    split at hc
    · split at hc
      · next hv => cases hc; exact lv_pop hx hb hdg (by rw [xq_cat hf]; exact hv) (kk _ hl)
      · cases hc
    · cases hc
  case goto off =>
    cases (beq_iff_eq.mp hln : len = 3)
    simp only [xm_core, xm_jmp] at hc
    split at hc
    · next t ht => cases hc; exact lv_goto hx hb hdg (xm_tgt_ok ht) (kk _ hl)
    · cases hc
  case ifCond cnd off =>
    cases (beq_iff_eq.mp hln : len = 3)
    simp only [xm_core, xm_if, xm_nx] at hc
    split at hc
    · next x r =>
      split at hc
      · next t ht =>
        have ht := xm_tgt_ok ht
        cases cnd <;> simp only [xm_ie] at hc
        · refine lv_if_eq hx hb hdg ht (fun h => ?_) (fun h => ?_)
          · rw [if_pos h] at hc; cases hc; exact kk _ hl
          · rw [if_neg h] at hc; cases hc; exact kk _ hl
        · refine lv_if_ne hx hb hdg ht (fun h => ?_) (fun h => ?_)
          · rw [if_neg h] at hc; cases hc; exact kk _ hl
          · rw [if_pos h] at hc; cases hc; exact kk _ hl
        · refine lv_if_lt hx hb hdg ht (fun h => ?_) (fun h => ?_)
          · rw [if_pos h] at hc; cases hc; exact kk _ hl
          · rw [if_neg h] at hc; cases hc; exact kk _ hl
        · refine lv_if_ge hx hb hdg ht (fun h => ?_) (fun h => ?_)
          · rw [if_neg (Int32.not_lt.mpr h)] at hc; cases hc; exact kk _ hl
          · rw [if_pos (Int32.not_le.mp h)] at hc; cases hc; exact kk _ hl
        · refine lv_if_gt hx hb hdg ht (fun h => ?_) (fun h => ?_)
          · rw [if_pos h] at hc; cases hc; exact kk _ hl
          · rw [if_neg h] at hc; cases hc; exact kk _ hl
        · refine lv_if_le hx hb hdg ht (fun h => ?_) (fun h => ?_)
          · rw [if_neg (Int32.not_lt.mpr h)] at hc; cases hc; exact kk _ hl
          · rw [if_pos (Int32.not_le.mp h)] at hc; cases hc; exact kk _ hl
      · cases hc
    · cases hc
  case if_icmp cnd off =>
    cases (beq_iff_eq.mp hln : len = 3)
    simp only [xm_core, xm_if2, xm_nx] at hc
    split at hc
    · next y x r =>
      split at hc
      · next t ht =>
        have ht := xm_tgt_ok ht
        cases cnd <;> simp only [xm_ic] at hc
        · refine lv_icmp_eq hx hb hdg ht (fun h => ?_) (fun h => ?_)
          · rw [if_pos h] at hc; cases hc; exact kk _ hl
          · rw [if_neg h] at hc; cases hc; exact kk _ hl
        · refine lv_icmp_ne hx hb hdg ht (fun h => ?_) (fun h => ?_)
          · rw [if_neg h] at hc; cases hc; exact kk _ hl
          · rw [if_pos h] at hc; cases hc; exact kk _ hl
        · refine lv_icmp_lt hx hb hdg ht (fun h => ?_) (fun h => ?_)
          · rw [if_pos h] at hc; cases hc; exact kk _ hl
          · rw [if_neg h] at hc; cases hc; exact kk _ hl
        · refine lv_icmp_ge hx hb hdg ht (fun h => ?_) (fun h => ?_)
          · rw [if_neg (Int32.not_lt.mpr h)] at hc; cases hc; exact kk _ hl
          · rw [if_pos (Int32.not_le.mp h)] at hc; cases hc; exact kk _ hl
        · refine lv_icmp_gt hx hb hdg ht (fun h => ?_) (fun h => ?_)
          · rw [if_pos h] at hc; cases hc; exact kk _ hl
          · rw [if_neg h] at hc; cases hc; exact kk _ hl
        · refine lv_icmp_le hx hb hdg ht (fun h => ?_) (fun h => ?_)
          · rw [if_neg (Int32.not_lt.mpr h)] at hc; cases hc; exact kk _ hl
          · rw [if_pos (Int32.not_le.mp h)] at hc; cases hc; exact kk _ hl
      · cases hc
    · cases hc
  case ifnonnull off =>
    cases (beq_iff_eq.mp hln : len = 3)
    simp only [xm_core, xm_jmp, xm_nx] at hc
    split at hc
    · next a r =>
      simp only [List.map_cons, xq_v]
      rcases hf a with ⟨hn, h⟩ | ⟨hn, b, h⟩
      · rw [if_pos hn] at hc
        cases hc
        rw [h]
        exact lv_ifnonnullN hx hb hdg (kk _ hl)
      · rw [if_neg (by rw [hn]; simp)] at hc
        split at hc
        · next t ht =>
          cases hc
          rw [h]
          exact lv_ifnonnull hx hb hdg (xm_tgt_ok ht) (kk _ hl)
        · cases hc
    · cases hc
  case tableswitch d lo hi offs =>
    simp only [xm_core] at hc
    split at hc
    · next x r =>
      split at hc
      · next hk =>
        obtain ⟨off, t, h1, h2, h3⟩ := xm_sw_cases lo hk.2.2 hk.1 hc
        cases h3
        rw [xm_keys_off] at h1
        have hlen := hk.2.1
        by_cases hin : lo ≤ x.toInt ∧ x.toInt < lo + offs.toList.length
        · rw [if_pos hin] at h1
          refine lv_tableIn hx hb hdg (off := off) (by omega) (by omega) ?_ h2 (kk _ hl)
          have hlt : (x.toInt - lo).toNat < offs.toList.length := by omega
          rw [← Array.getElem?_toList, List.getElem?_eq_getElem hlt, ← h1, List.getD_eq_getElem?_getD, List.getElem?_eq_getElem hlt]
          rfl
        · rw [if_neg hin] at h1
          subst h1
          exact lv_tableOut hx hb hdg (by omega) h2 (kk _ hl)
      · cases hc
    · cases hc
  case lookupswitch d ps =>
    simp only [xm_core] at hc
    split at hc
    · next x r =>
      split at hc
      · next hk =>
        obtain ⟨off, t, h1, h2, h3⟩ := xm_sw_cases (-2147483648) (by omega) hk hc
        cases h3
        exact lv_lookup hx hb hdg (xm_kok_sorted _ _ hk) h1 h2 (kk _ hl)
      · cases hc
    · cases hc
  case ireturn =>
    simp only [xm_core] at hc
    split at hc <;> cases hc
  case areturn =>
    simp only [xm_core] at hc
    split at hc <;> cases hc
  case return_ =>
    simp only [xm_core] at hc
    split at hc <;> cases hc
end SNC
end
section
/-! tier 1: memory is a list of cells; a reference is null, one of the four arrays that are there from the start (0: the script), or a cell -/
abbrev x1 : Type := Option (Nat ⊕ Nat)
abbrev xc : Type := (Nat × List (xv x1)) ⊕ ((Nat × List Int32) ⊕ (Nat × List (Option Nat)))
abbrev xh : Type := List xc
def xp_nul (r : x1) : Bool := r.isNone
def xp_stat (X : List Int32) : Nat → List Int32
  | 0 => X
  | 1 => [1, 10, 5, 20]
  | 2 => [0, 1, 1, 1]
  | _ => [5, 60, 30, 99]
/-- kinds of arrays: 0 int, 1 boolean, 2 char, 3 rows of ints, 4 states -/
def xp_ty : Nat → FieldType
  | 0 => .int
  | 1 => .boolean
  | 2 => .char
  | 3 => .array .int
  | _ => .object "BikeSheds$State"
def xp_fty (ci f : Nat) : FieldType := match ci with
  | 0 => tyX0 f
  | 1 => tyX1 f
  | 2 => tyX2 f
  | 3 => tyX3 f
  | 4 => tyX4 f
  | 5 => tyX5 f
  | 6 => tyX6 f
  | _ => tyX7 f
def xp_F (ci : Nat) : u_T := match ci with
  | 0 => TX0
  | 1 => TX1
  | 2 => TX2
  | 3 => TX3
  | 4 => TX4
  | 5 => TX5
  | 6 => TX6
  | _ => TX7
def xp_n : Nat → Nat
  | 0 => 7
  | 1 => 7
  | 2 => 2
  | 3 => 2
  | 4 => 6
  | 5 => 5
  | 6 => 6
  | _ => 10
/-- what a new object's field holds -/
def xp_dflt : FieldType → xv x1
  | .object _ => .inr (.inr none)
  | .array _ => .inr (.inr none)
  | _ => .inl 0
def xp_new (ci : Nat) : xc := .inl (ci, (List.range (xp_n ci)).map (fun f => xp_dflt (xp_fty ci f)))
/-- may a field of that type keep the value as it is? -/
def xp_fit : FieldType → xv x1 → Bool
  | .int, .inl _ => true
  | .char, .inl x => vp_nar .char x == x && (decide (0 ≤ x) && decide (x ≤ 65535))
  | .object _, .inr (.inr _) => true
  | .array _, .inr (.inr _) => true
  | _, _ => false
def xp_in (i : Int32) (n : Nat) : Bool := decide (¬ (i < 0 ∨ n ≤ i.toNatClampNeg))
/-- an array of numbers of kind t, read -/
def xp_ald (X : List Int32) (t : Nat) (h : xh) : List (xv x1) → Option (List (xv x1) × xh)
  | .inl i :: .inr (.inr (some (.inl j))) :: r => if t = 0 ∧ j < 4 ∧ xp_in i (xp_stat X j).length = true then some (.inl ((xp_stat X j).getD i.toNatClampNeg 0) :: r, h) else none
  | .inl i :: .inr (.inr (some (.inr a))) :: r => match h[a]? with
    | some (.inr (.inl (t', l))) => if t' = t ∧ xp_in i l.length = true then some (.inl (l.getD i.toNatClampNeg 0) :: r, h) else none
    | _ => none
  | _ => none
def xp_ast (t : Nat) (h : xh) : List (xv x1) → Option (List (xv x1) × xh)
  | .inl x :: .inl i :: .inr (.inr (some (.inr a))) :: r => match h[a]? with
    | some (.inr (.inl (t', l))) => if t' = t ∧ xp_in i l.length = true then some (r, h.set a (.inr (.inl (t, l.set i.toNatClampNeg (vp_nar (xp_ty t) x))))) else none
    | _ => none
  | _ => none
/-- is the cell at b one that an array of kind t may hold? -/
def xp_may (t : Nat) (h : xh) (b : Nat) : Bool := match t, h[b]? with
  | 3, some (.inr (.inl (0, _))) => true
  | 4, some (.inl (5, _)) => true
  | _, _ => false
def xp_cpy (l g : List Int32) (sp dp n : Nat) : List Int32 := (List.range g.length).map (fun k => if dp ≤ k ∧ k < dp + n then l.getD (sp + (k - dp)) 0 else g.getD k 0)
def xp_prim (X : List Int32) (i : Nat) (ins : Instr) (st : List (xv x1)) (h : xh) : Option (List (xv x1) × xh) := match ins with
  | .getfield ix => match xt_fld (xt_K i) ix, st with
    | some (ci, f, _), .inr (.inr (some (.inr a))) :: r => match h[a]? with
      | some (.inl (ci', fs)) => if ci' = ci then match fs[f]? with
        | some v => some (v :: r, h)
        | none => none
        else none
      | _ => none
    | _, _ => none
  | .putfield ix => match xt_fld (xt_K i) ix, st with
    | some (ci, f, nest), v :: .inr (.inr (some (.inr a))) :: r => match h[a]? with
      | some (.inl (ci', fs)) => if ci' = ci ∧ f < fs.length ∧ xp_fit (xp_fty ci f) v = true ∧ nest = 0 ∧ ((xp_F ci f).2.2.2 = false ∨ (xt_I i = true ∧ xt_K i = ci)) then some (r, h.set a (.inl (ci, fs.set f v))) else none
      | _ => none
    | _, _ => none
  | .getstatic ix => match xt_st (xt_K i) ix with
    | some j => some (.inr (.inr (some (.inl j))) :: st, h)
    | none => none
  | .iaload => xp_ald X 0 h st
  | .baload => xp_ald X 1 h st
  | .caload => xp_ald X 2 h st
  | .iastore => xp_ast 0 h st
  | .bastore => xp_ast 1 h st
  | .castore => xp_ast 2 h st
  | .aaload => match st with
    | .inl j :: .inr (.inr (some (.inr a))) :: r => match h[a]? with
      | some (.inr (.inr (_, l))) => if xp_in j l.length = true then some (.inr (.inr ((l.getD j.toNatClampNeg none).map .inr)) :: r, h) else none
      | _ => none
    | _ => none
  | .aastore => match st with
    | .inr (.inr (some (.inr b))) :: .inl j :: .inr (.inr (some (.inr a))) :: r => match h[a]? with
      | some (.inr (.inr (t, l))) => if xp_in j l.length = true ∧ xp_may t h b = true then some (r, h.set a (.inr (.inr (t, l.set j.toNatClampNeg (some b))))) else none
      | _ => none
    | _ => none
  | .arraylength => match st with
    | .inr (.inr (some (.inl j))) :: r => if j < 4 then some (.inl (Int32.ofNat (xp_stat X j).length) :: r, h) else none
    | .inr (.inr (some (.inr a))) :: r => match h[a]? with
      | some (.inr (.inl (_, l))) => some (.inl (Int32.ofNat l.length) :: r, h)
      | some (.inr (.inr (_, l))) => some (.inl (Int32.ofNat l.length) :: r, h)
      | _ => none
    | _ => none
  | .new ix => match xt_new (xt_K i) ix with
    | some ci => some (.inr (.inr (some (.inr h.length))) :: st, h ++ [xp_new ci])
    | none => none
  | .newarray at_ => match st with
    | .inl n :: r => if ¬ n < 0 ∧ n.toNatClampNeg ≤ 100000 then match at_ with
      | .int => some (.inr (.inr (some (.inr h.length))) :: r, h ++ [.inr (.inl (0, List.replicate n.toNatClampNeg 0))])
      | .boolean => some (.inr (.inr (some (.inr h.length))) :: r, h ++ [.inr (.inl (1, List.replicate n.toNatClampNeg 0))])
      | .char => some (.inr (.inr (some (.inr h.length))) :: r, h ++ [.inr (.inl (2, List.replicate n.toNatClampNeg 0))])
      | _ => none
      else none
    | _ => none
  | .anewarray ix => match xt_anew (xt_K i) ix, st with
    | some t, .inl n :: r => if ¬ n < 0 ∧ n.toNatClampNeg ≤ 100000 then some (.inr (.inr (some (.inr h.length))) :: r, h ++ [.inr (.inr (t, List.replicate n.toNatClampNeg none))]) else none
    | _, _ => none
  | .multianewarray ix d => match xt_mnew (xt_K i) ix, st with
    | some _, .inl k :: .inl n :: r => if d = 2 ∧ ¬ n < 0 ∧ n.toNatClampNeg ≤ 1000 ∧ ¬ k < 0 ∧ k.toNatClampNeg ≤ 1000 then
        some (.inr (.inr (some (.inr h.length))) :: r, (h ++ [.inr (.inr (3, (List.range n.toNatClampNeg).map (fun q => some (h.length + 1 + q))))]) ++ List.replicate n.toNatClampNeg (.inr (.inl (0, List.replicate k.toNatClampNeg 0))))
        else none
    | _, _ => none
  | .invokespecial ix => match xt_obj (xt_K i) ix, st with
    | some _, .inr (.inr (some (.inr _))) :: r => if xm_cats r ≤ 8 then some (r, h) else none
    | _, _ => none
  | .invokestatic ix => match xt_copy (xt_K i) ix, st with
    | some _, .inl n :: .inl dp :: .inr (.inr (some (.inr b))) :: .inl sp :: .inr (.inr (some (.inr a))) :: r => match h[a]?, h[b]? with
      | some (.inr (.inl (0, l))), some (.inr (.inl (0, g))) => if ¬ sp < 0 ∧ ¬ dp < 0 ∧ ¬ n < 0 ∧ sp.toNatClampNeg + n.toNatClampNeg ≤ l.length ∧ dp.toNatClampNeg + n.toNatClampNeg ≤ g.length ∧ xm_cats r ≤ 8 then
          some (r, h.set b (.inr (.inl (0, xp_cpy l g sp.toNatClampNeg dp.toNatClampNeg n.toNatClampNeg)))) else none
      | _, _ => none
    | _, _ => none
  | .invokevirtual ix => match xt_clone (xt_K i) ix, st with
    | some _, .inr (.inr (some (.inl j))) :: r => if j = 1 ∧ xm_cats r ≤ 8 then some (.inr (.inr (some (.inr h.length))) :: r, h ++ [.inr (.inl (0, xp_stat X 1))]) else none
    | _, _ => none
  | .checkcast ix => match xt_cast (xt_K i) ix, st with
    | some _, .inr (.inr (some (.inr a))) :: r => match h[a]? with
      | some (.inr (.inl (0, _))) => some (.inr (.inr (some (.inr a))) :: r, h)
      | _ => none
    | _, _ => none
  | .ldc_w ix => match xt_ldi (xt_K i) ix with
    | some v => some (.inl v :: st, h)
    | none => none
  | .ldc2_w ix => match xt_ldl (xt_K i) ix with
    | some v => some (.inr (.inl v) :: st, h)
    | none => none
  | _ => none
abbrev xp_exec (X : List Int32) : Nat → Nat → Nat → xl x1 → List (xv x1) → xh → Option (Option (xv x1) × xh) := xm_exec xp_nul (xp_prim X) (fun _ => none)
/-- how many slots a cell takes -/
def xp_sz : xc → Nat
  | .inl (_, fs) => fs.length
  | .inr (.inl (_, l)) => l.length
  | .inr (.inr (_, l)) => l.length
def xp_szs : xh → Nat
  | [] => 0
  | c :: r => xp_sz c + xp_szs r
theorem xp_szs_app : ∀ a b : xh, xp_szs (a ++ b) = xp_szs a + xp_szs b
  | [], b => by simp [xp_szs]
  | c :: r, b => by
    show xp_sz c + xp_szs (r ++ b) = _
    rw [xp_szs_app r b]
    show _ = xp_sz c + xp_szs r + xp_szs b
    omega
theorem xp_szs_set : ∀ (h : xh) (a : Nat) (c c' : xc), h[a]? = some c → xp_sz c' = xp_sz c → xp_szs (h.set a c') = xp_szs h
  | [], _, _, _, hc, _ => by cases hc
  | d :: r, 0, c, c', hc, e => by
    cases hc
    show xp_sz c' + xp_szs r = xp_sz _ + xp_szs r
    rw [e]
  | d :: r, a + 1, c, c', hc, e => by
    show xp_sz d + xp_szs (r.set a c') = xp_sz d + xp_szs r
    rw [xp_szs_set r a c c' hc e]
theorem xp_szs_rep (c : xc) : ∀ n : Nat, xp_szs (List.replicate n c) = n * xp_sz c
  | 0 => by simp [xp_szs]
  | n + 1 => by
    rw [List.replicate_succ]
    show xp_sz c + xp_szs (List.replicate n c) = _
    rw [xp_szs_rep c n, Nat.succ_mul]
    omega
/-- memory never shrinks -/
theorem xp_grow {X : List Int32} {i : Nat} {ins : Instr} {st st' : List (xv x1)} {h h' : xh} (hp : xp_prim X i ins st h = some (st', h')) : h.length ≤ h'.length ∧ xp_szs h ≤ xp_szs h' := by
  unfold xp_prim xp_ald xp_ast at hp
  repeat' split at hp
  all_goals first
    | (cases hp; done)
    | (cases hp; exact ⟨Nat.le_refl _, Nat.le_refl _⟩)
    | (cases hp; exact ⟨by simp, by rw [xp_szs_app]; exact Nat.le_add_right _ _⟩)
    | (cases hp; exact ⟨by simp [List.append_assoc], by rw [List.append_assoc, xp_szs_app]; exact Nat.le_add_right _ _⟩)
    | (cases hp
       refine ⟨by simp, Nat.le_of_eq (xp_szs_set _ _ _ _ (by assumption) ?_).symm⟩
       simp [xp_sz, xp_cpy])
theorem xm_exec_grow {X : List Int32} : ∀ (n i pc : Nat) (ls : xl x1) (st : List (xv x1)) (h : xh) (v : Option (xv x1)) (h' : xh), xp_exec X n i pc ls st h = some (v, h') → h.length ≤ h'.length ∧ xp_szs h ≤ xp_szs h'
  | 0, i, pc, ls, st, h, v, h', he => by cases he
  | n + 1, i, pc, ls, st, h, v, h', he => by
    unfold xp_exec xm_exec at he
    split at he
    · cases he
    · next pc1 ls1 st1 h1 e1 =>
      have h2 := xm_exec_grow n _ _ _ _ _ _ _ he
      have h3 : h.length ≤ h1.length ∧ xp_szs h ≤ xp_szs h1 := by
        unfold xm_step at e1
        split at e1
        · cases e1
        · split at e1
          · cases e1; exact ⟨Nat.le_refl _, Nat.le_refl _⟩
          · cases e1
          · split at e1
            · split at e1 <;> cases e1
            · split at e1
              · next hp => cases e1; exact xp_grow hp
              · cases e1
      exact ⟨Nat.le_trans h3.1 h2.1, Nat.le_trans h3.2 h2.2⟩
    · cases he; exact ⟨Nat.le_refl _, Nat.le_refl _⟩
    · next j as pc1 ls1 st1 e1 =>
      split at he
      · next v1 h1 e2 =>
        have h2 := xm_exec_grow n _ _ _ _ _ _ _ e2
        have h3 := xm_exec_grow n _ _ _ _ _ _ _ he
        exact ⟨Nat.le_trans h2.1 h3.1, Nat.le_trans h2.2 h3.2⟩
      · cases he
end
section
/-! the tables' words behind every entry of the machine's tables, by their places -/
set_option maxRecDepth 100000 in
theorem xk_1 : lw_tbl[99]? = some (Cond.code yX6_noneForEachPerson cX6_noneForEachPerson 2 (some (.array .int))) := rfl
set_option maxRecDepth 100000 in
theorem xk_2 : lw_tbl[131]? = some (Cond.code yX0_init cX0_init 1 none) := rfl
set_option maxRecDepth 100000 in
theorem xk_3 : lw_tbl[285]? = some (Cond.code yX0_copyFrom cX0_copyFrom 2 none) := rfl
set_option maxRecDepth 100000 in
theorem xk_4 : lw_tbl[419]? = some (Cond.code yX0_isInRack cX0_isInRack 2 (some .boolean)) := rfl
set_option maxRecDepth 100000 in
theorem xk_5 : lw_tbl[459]? = some (Cond.code yX0_isTagged cX0_isTagged 2 (some .boolean)) := rfl
set_option maxRecDepth 100000 in
theorem xk_6 : lw_tbl[423]? = some (Cond.code yX0_isInPound cX0_isInPound 2 (some .boolean)) := rfl
set_option maxRecDepth 100000 in
theorem xk_7 : lw_tbl[435]? = some (Cond.code yX0_placeInRack cX0_placeInRack 5 none) := rfl
set_option maxRecDepth 100000 in
theorem xk_8 : lw_tbl[447]? = some (Cond.code yX0_leaveRack cX0_leaveRack 2 none) := rfl
set_option maxRecDepth 100000 in
theorem xk_9 : lw_tbl[495]? = some (Cond.code yX0_isDue cX0_isDue 4 (some .boolean)) := rfl
set_option maxRecDepth 100000 in
theorem xk_10 : lw_tbl[685]? = some (Cond.code yX0_countTagged cX0_countTagged 5 (some .int)) := rfl
set_option maxRecDepth 100000 in
theorem xk_11 : lw_tbl[491]? = some (Cond.code yX0_takeTagged cX0_takeTagged 6 (some .int)) := rfl
set_option maxRecDepth 100000 in
theorem xk_12 : lw_tbl[530]? = some (Cond.code yX0_sellFromPound cX0_sellFromPound 3 none) := rfl
set_option maxRecDepth 100000 in
theorem xk_13 : lw_tbl[431]? = some (Cond.code yX0_racksTaken cX0_racksTaken 4 (some .int)) := rfl
set_option maxRecDepth 100000 in
theorem xk_14 : lw_tbl[609]? = some (Cond.code yX0_racksTagged cX0_racksTagged 4 (some .int)) := rfl
set_option maxRecDepth 100000 in
theorem xk_15 : lw_tbl[373]? = some (Cond.code yX6_countPeople cX6_countPeople 3 (some .int)) := rfl
set_option maxRecDepth 100000 in
theorem xk_16 : lw_tbl[644]? = some (Cond.code yX0_countInRacks cX0_countInRacks 1 (some .int)) := rfl
set_option maxRecDepth 100000 in
theorem xk_17 : lw_tbl[649]? = some (Cond.code yX0_countAllTagged cX0_countAllTagged 1 (some .int)) := rfl
set_option maxRecDepth 100000 in
theorem xk_18 : lw_tbl[653]? = some (Cond.code yX0_countInPound cX0_countInPound 1 (some .int)) := rfl
set_option maxRecDepth 100000 in
theorem xk_19 : lw_tbl[657]? = some (Cond.code yX0_countSold cX0_countSold 3 (some .int)) := rfl
set_option maxRecDepth 100000 in
theorem xk_20 : lw_tbl[208]? = some (Cond.code yX3_init cX3_init 1 none) := rfl
set_option maxRecDepth 100000 in
theorem xk_21 : lw_tbl[202]? = some (Cond.code yX1_init cX1_init 1 none) := rfl
set_option maxRecDepth 100000 in
theorem xk_22 : lw_tbl[543]? = some (Cond.code yX1_goToStart cX1_goToStart 1 none) := rfl
set_option maxRecDepth 100000 in
theorem xk_23 : lw_tbl[555]? = some (Cond.code yX3_characterAt cX3_characterAt 2 (some .char)) := rfl
set_option maxRecDepth 100000 in
theorem xk_24 : lw_tbl[551]? = some (Cond.code yX1_readFrom cX1_readFrom 4 (some .boolean)) := rfl
set_option maxRecDepth 100000 in
theorem xk_25 : lw_tbl[563]? = some (Cond.code yX1_readOne cX1_readOne 2 (some .boolean)) := rfl
set_option maxRecDepth 100000 in
theorem xk_26 : lw_tbl[567]? = some (Cond.code yX1_readShed cX1_readShed 1 (some .boolean)) := rfl
set_option maxRecDepth 100000 in
theorem xk_27 : lw_tbl[571]? = some (Cond.code yX1_readNumber cX1_readNumber 1 (some .boolean)) := rfl
set_option maxRecDepth 100000 in
theorem xk_28 : lw_tbl[559]? = some (Cond.code yX1_readDeedOfPerson cX1_readDeedOfPerson 1 (some .boolean)) := rfl
set_option maxRecDepth 100000 in
theorem xk_29 : lw_tbl[547]? = some (Cond.code yX1_readDeed cX1_readDeed 1 (some .boolean)) := rfl
set_option maxRecDepth 100000 in
theorem xk_30 : lw_tbl[575]? = some (Cond.code yX1_readSemicolon cX1_readSemicolon 1 (some .boolean)) := rfl
set_option maxRecDepth 100000 in
theorem xk_31 : lw_tbl[539]? = some (Cond.code yX1_findFault cX1_findFault 2 (some .int)) := rfl
set_option maxRecDepth 100000 in
theorem xk_32 : lw_tbl[186]? = some (Cond.code yX2_init cX2_init 1 none) := rfl
set_option maxRecDepth 100000 in
theorem xk_33 : lw_tbl[346]? = some (Cond.code yX2_dropOldest cX2_dropOldest 3 none) := rfl
set_option maxRecDepth 100000 in
theorem xk_34 : lw_tbl[95]? = some (Cond.code yX4_init cX4_init 1 none) := rfl
set_option maxRecDepth 100000 in
theorem xk_35 : lw_tbl[80]? = some (Cond.code yX5_init cX5_init 1 none) := rfl
set_option maxRecDepth 100000 in
theorem xk_36 : lw_tbl[280]? = some (Cond.code yX4_copyFrom cX4_copyFrom 3 none) := rfl
set_option maxRecDepth 100000 in
theorem xk_37 : lw_tbl[273]? = some (Cond.code yX5_copyFrom cX5_copyFrom 2 none) := rfl
set_option maxRecDepth 100000 in
theorem xk_38 : lw_tbl[349]? = some (Cond.code yX6_copyInto cX6_copyInto 3 (some (.object "BikeSheds$State"))) := rfl
set_option maxRecDepth 100000 in
theorem xk_39 : lw_tbl[342]? = some (Cond.code yX2_record cX2_record 2 none) := rfl
set_option maxRecDepth 100000 in
theorem xk_40 : lw_tbl[717]? = some (Cond.code yX2_takeBack cX2_takeBack 3 (some .boolean)) := rfl
set_option maxRecDepth 100000 in
theorem xk_41 : lw_tbl[699]? = some (Cond.code yX3_codeAt cX3_codeAt 3 (some .int)) := rfl
set_option maxRecDepth 100000 in
theorem xk_42 : lw_tbl[293]? = some (Cond.code yX6_isFrom cX6_isFrom 3 (some .boolean)) := rfl
set_option maxRecDepth 100000 in
theorem xk_43 : lw_tbl[696]? = some (Cond.code yX3_countCharacters cX3_countCharacters 4 (some .int)) := rfl
set_option maxRecDepth 100000 in
theorem xk_44 : lw_tbl[693]? = some (Cond.code yX3_append cX3_append 5 (some .int)) := rfl
set_option maxRecDepth 100000 in
theorem xk_45 : lw_tbl[586]? = some (Cond.code yX3_clear cX3_clear 2 (some .int)) := rfl
set_option maxRecDepth 100000 in
theorem xk_46 : lw_tbl[360]? = some (Cond.code yX6_isShed cX6_isShed 1 (some .boolean)) := rfl
set_option maxRecDepth 100000 in
theorem xk_47 : lw_tbl[364]? = some (Cond.code yX4_hasPermit cX4_hasPermit 2 (some .boolean)) := rfl
set_option maxRecDepth 100000 in
theorem xk_48 : lw_tbl[323]? = some (Cond.code yX4_waitsFor cX4_waitsFor 3 (some .boolean)) := rfl
set_option maxRecDepth 100000 in
theorem xk_49 : lw_tbl[394]? = some (Cond.code yX4_shedsWaitedFor cX4_shedsWaitedFor 4 (some .int)) := rfl
set_option maxRecDepth 100000 in
theorem xk_50 : lw_tbl[390]? = some (Cond.code yX4_waitsForSome cX4_waitsForSome 2 (some .boolean)) := rfl
set_option maxRecDepth 100000 in
theorem xk_51 : lw_tbl[315]? = some (Cond.code yX4_countOf cX4_countOf 4 (some .int)) := rfl
set_option maxRecDepth 100000 in
theorem xk_52 : lw_tbl[635]? = some (Cond.code yX4_countAll cX4_countAll 1 (some .int)) := rfl
set_option maxRecDepth 100000 in
theorem xk_53 : lw_tbl[370]? = some (Cond.code yX4_countWaiting cX4_countWaiting 2 (some .int)) := rfl
set_option maxRecDepth 100000 in
theorem xk_54 : lw_tbl[639]? = some (Cond.code yX4_countAllWaiting cX4_countAllWaiting 3 (some .int)) := rfl
set_option maxRecDepth 100000 in
theorem xk_55 : lw_tbl[334]? = some (Cond.code yX4_leaveLists cX4_leaveLists 5 none) := rfl
set_option maxRecDepth 100000 in
theorem xk_56 : lw_tbl[330]? = some (Cond.code yX4_give cX4_give 5 none) := rfl
set_option maxRecDepth 100000 in
theorem xk_57 : lw_tbl[398]? = some (Cond.code yX4_end cX4_end 2 none) := rfl
set_option maxRecDepth 100000 in
theorem xk_58 : lw_tbl[524]? = some (Cond.code yX4_endBefore cX4_endBefore 3 none) := rfl
set_option maxRecDepth 100000 in
theorem xk_59 : lw_tbl[377]? = some (Cond.code yX4_queue cX4_queue 6 (some .int)) := rfl
set_option maxRecDepth 100000 in
theorem xk_60 : lw_tbl[319]? = some (Cond.code yX4_whoIsAt cX4_whoIsAt 4 (some .int)) := rfl
set_option maxRecDepth 100000 in
theorem xk_61 : lw_tbl[326]? = some (Cond.code yX6_isPerson cX6_isPerson 1 (some .boolean)) := rfl
set_option maxRecDepth 100000 in
theorem xk_62 : lw_tbl[621]? = some (Cond.code yX4_aboutPlace cX4_aboutPlace 5 (some .int)) := rfl
set_option maxRecDepth 100000 in
theorem xk_63 : lw_tbl[308]? = some (Cond.code yJ6_bitCount_0f7a4 cJ6_bitCount_0f7a4 1 (some .int)) := rfl
set_option maxRecDepth 100000 in
theorem xk_64 : lw_tbl[305]? = some (Cond.code yX5_permitsToGive cX5_permitsToGive 2 (some .int)) := rfl
set_option maxRecDepth 100000 in
theorem xk_65 : lw_tbl[301]? = some (Cond.code yX5_moveUp cX5_moveUp 5 none) := rfl
set_option maxRecDepth 100000 in
theorem xk_66 : lw_tbl[290]? = some (Cond.code yX5_changeSetting cX5_changeSetting 4 (some .int)) := rfl
set_option maxRecDepth 100000 in
theorem xk_67 : lw_tbl[357]? = some (Cond.code yX5_askFor cX5_askFor 4 (some .int)) := rfl
set_option maxRecDepth 100000 in
theorem xk_68 : lw_tbl[386]? = some (Cond.code yX5_giveUpAll cX5_giveUpAll 3 (some .int)) := rfl
set_option maxRecDepth 100000 in
theorem xk_69 : lw_tbl[407]? = some (Cond.code yX5_lengthen cX5_lengthen 3 (some .int)) := rfl
set_option maxRecDepth 100000 in
theorem xk_70 : lw_tbl[427]? = some (Cond.code yX5_lowestFreeRack cX5_lowestFreeRack 4 (some .int)) := rfl
set_option maxRecDepth 100000 in
theorem xk_71 : lw_tbl[415]? = some (Cond.code yX5_parkBicycle cX5_parkBicycle 4 (some .int)) := rfl
set_option maxRecDepth 100000 in
theorem xk_72 : lw_tbl[443]? = some (Cond.code yX5_rideAway cX5_rideAway 3 (some .int)) := rfl
set_option maxRecDepth 100000 in
theorem xk_73 : lw_tbl[455]? = some (Cond.code yX5_answerFor cX5_answerFor 3 (some .int)) := rfl
set_option maxRecDepth 100000 in
theorem xk_74 : lw_tbl[467]? = some (Cond.code yX5_fetchFromPound cX5_fetchFromPound 3 (some .int)) := rfl
set_option maxRecDepth 100000 in
theorem xk_75 : lw_tbl[483]? = some (Cond.code yX5_isWithoutPermit cX5_isWithoutPermit 2 (some .boolean)) := rfl
set_option maxRecDepth 100000 in
theorem xk_76 : lw_tbl[479]? = some (Cond.code yX5_looksAbandoned cX5_looksAbandoned 2 (some .boolean)) := rfl
set_option maxRecDepth 100000 in
theorem xk_77 : lw_tbl[487]? = some (Cond.code yX5_latestDueTag cX5_latestDueTag 2 (some .int)) := rfl
set_option maxRecDepth 100000 in
theorem xk_78 : lw_tbl[475]? = some (Cond.code yX5_sweepShed cX5_sweepShed 3 (some .int)) := rfl
set_option maxRecDepth 100000 in
theorem xk_79 : lw_tbl[508]? = some (Cond.code yX6_isRack cX6_isRack 1 (some .boolean)) := rfl
set_option maxRecDepth 100000 in
theorem xk_80 : lw_tbl[505]? = some (Cond.code yX5_changeUse cX5_changeUse 5 (some .int)) := rfl
set_option maxRecDepth 100000 in
theorem xk_81 : lw_tbl[520]? = some (Cond.code yX5_beginDay cX5_beginDay 1 none) := rfl
set_option maxRecDepth 100000 in
theorem xk_82 : lw_tbl[516]? = some (Cond.code yX5_letPass cX5_letPass 4 (some .int)) := rfl
set_option maxRecDepth 100000 in
theorem xk_83 : lw_tbl[666]? = some (Cond.code yX5_passUntilPermit cX5_passUntilPermit 3 (some .int)) := rfl
set_option maxRecDepth 100000 in
theorem xk_84 : lw_tbl[595]? = some (Cond.code yX5_aboutPerson cX5_aboutPerson 3 (some .int)) := rfl
set_option maxRecDepth 100000 in
theorem xk_85 : lw_tbl[613]? = some (Cond.code yX5_racksWithoutPermit cX5_racksWithoutPermit 4 (some .int)) := rfl
set_option maxRecDepth 100000 in
theorem xk_86 : lw_tbl[605]? = some (Cond.code yX5_aboutShed cX5_aboutShed 3 (some .int)) := rfl
set_option maxRecDepth 100000 in
theorem xk_87 : lw_tbl[631]? = some (Cond.code yX5_aboutAll cX5_aboutAll 2 (some .int)) := rfl
set_option maxRecDepth 100000 in
theorem xk_88 : lw_tbl[72]? = some (Cond.code yX6_init cX6_init 1 none) := rfl
set_option maxRecDepth 100000 in
theorem xk_89 : lw_tbl[338]? = some (Cond.code yX6_recorded cX6_recorded 2 (some .int)) := rfl
set_option maxRecDepth 100000 in
theorem xk_90 : lw_tbl[269]? = some (Cond.code yX6_set cX6_set 3 (some .int)) := rfl
set_option maxRecDepth 100000 in
theorem xk_91 : lw_tbl[353]? = some (Cond.code yX6_ask cX6_ask 4 (some .int)) := rfl
set_option maxRecDepth 100000 in
theorem xk_92 : lw_tbl[382]? = some (Cond.code yX6_giveUp cX6_giveUp 2 (some .int)) := rfl
set_option maxRecDepth 100000 in
theorem xk_93 : lw_tbl[403]? = some (Cond.code yX6_prolong cX6_prolong 3 (some .int)) := rfl
set_option maxRecDepth 100000 in
theorem xk_94 : lw_tbl[411]? = some (Cond.code yX6_park cX6_park 2 (some .int)) := rfl
set_option maxRecDepth 100000 in
theorem xk_95 : lw_tbl[439]? = some (Cond.code yX6_ride cX6_ride 2 (some .int)) := rfl
set_option maxRecDepth 100000 in
theorem xk_96 : lw_tbl[451]? = some (Cond.code yX6_answer cX6_answer 2 (some .int)) := rfl
set_option maxRecDepth 100000 in
theorem xk_97 : lw_tbl[463]? = some (Cond.code yX6_fetch cX6_fetch 2 (some .int)) := rfl
set_option maxRecDepth 100000 in
theorem xk_98 : lw_tbl[471]? = some (Cond.code yX6_sweep cX6_sweep 2 (some .int)) := rfl
set_option maxRecDepth 100000 in
theorem xk_99 : lw_tbl[501]? = some (Cond.code yX6_use cX6_use 4 (some .int)) := rfl
set_option maxRecDepth 100000 in
theorem xk_100 : lw_tbl[512]? = some (Cond.code yX6_pass cX6_pass 2 (some .int)) := rfl
set_option maxRecDepth 100000 in
theorem xk_101 : lw_tbl[581]? = some (Cond.code yX6_doDeed cX6_doDeed 1 (some .int)) := rfl
set_option maxRecDepth 100000 in
theorem xk_102 : lw_tbl[535]? = some (Cond.code yX6_run cX6_run 3 (some .int)) := rfl
set_option maxRecDepth 100000 in
theorem xk_103 : lw_tbl[590]? = some (Cond.code yX6_person cX6_person 3 (some .int)) := rfl
set_option maxRecDepth 100000 in
theorem xk_104 : lw_tbl[600]? = some (Cond.code yX6_shed cX6_shed 3 (some .int)) := rfl
set_option maxRecDepth 100000 in
theorem xk_105 : lw_tbl[617]? = some (Cond.code yX6_waiting cX6_waiting 4 (some .int)) := rfl
set_option maxRecDepth 100000 in
theorem xk_106 : lw_tbl[627]? = some (Cond.code yX6_count cX6_count 2 (some .int)) := rfl
set_option maxRecDepth 100000 in
theorem xk_107 : lw_tbl[661]? = some (Cond.code yX6_untilPermit cX6_untilPermit 2 (some .int)) := rfl
set_option maxRecDepth 100000 in
theorem xk_108 : lw_tbl[676]? = some (Cond.code yX6_daysToWaitFor cX6_daysToWaitFor 5 (some .int)) := rfl
set_option maxRecDepth 100000 in
theorem xk_109 : lw_tbl[670]? = some (Cond.code yX6_bestShed cX6_bestShed 8 (some .int)) := rfl
set_option maxRecDepth 100000 in
theorem xk_110 : lw_tbl[680]? = some (Cond.code yX6_ifSwept cX6_ifSwept 3 (some .int)) := rfl
set_option maxRecDepth 100000 in
theorem xk_111 : lw_tbl[689]? = some (Cond.code yX6_put cX6_put 3 (some .int)) := rfl
set_option maxRecDepth 100000 in
theorem xk_112 : lw_tbl[705]? = some (Cond.code yX6_wipe cX6_wipe 1 (some .int)) := rfl
set_option maxRecDepth 100000 in
theorem xk_113 : lw_tbl[709]? = some (Cond.code yX6_fault cX6_fault 1 (some .int)) := rfl
set_option maxRecDepth 100000 in
theorem xk_114 : lw_tbl[713]? = some (Cond.code yX6_undo cX6_undo 1 (some .int)) := rfl
set_option maxRecDepth 100000 in
theorem xk_115 : lw_tbl[722]? = some (Cond.code yX6_save cX6_save 2 (some .int)) := rfl
set_option maxRecDepth 100000 in
theorem xk_116 : lw_tbl[727]? = some (Cond.code yX6_restore cX6_restore 3 (some .int)) := rfl
set_option maxRecDepth 100000 in
theorem xk_117 : lw_tbl[736]? = some (Cond.code yX7_personAt cX7_personAt 2 (some .int)) := rfl
set_option maxRecDepth 100000 in
theorem xk_118 : lw_tbl[732]? = some (Cond.code yX7_init cX7_init 3 none) := rfl
set_option maxRecDepth 100000 in
theorem xk_119 : lw_tbl[779]? = some (Cond.code yX7_in cX7_in 6 (some .boolean)) := rfl
set_option maxRecDepth 100000 in
theorem xk_120 : lw_tbl[801]? = some (Cond.code yX7_flag cX7_flag 1 (some .int)) := rfl
set_option maxRecDepth 100000 in
theorem xk_121 : lw_tbl[790]? = some (Cond.code yX7_copies cX7_copies 4 none) := rfl
set_option maxRecDepth 100000 in
theorem xk_122 : lw_tbl[786]? = some (Cond.code yX7_changes cX7_changes 2 none) := rfl
set_option maxRecDepth 100000 in
theorem xk_123 : lw_tbl[812]? = some (Cond.code yX7_placeAt cX7_placeAt 3 (some .int)) := rfl
set_option maxRecDepth 100000 in
theorem xk_124 : lw_tbl[809]? = some (Cond.code yX7_racksInUse cX7_racksInUse 5 (some .int)) := rfl
set_option maxRecDepth 100000 in
theorem xk_125 : lw_tbl[805]? = some (Cond.code yX7_permits cX7_permits 3 (some .int)) := rfl
set_option maxRecDepth 100000 in
theorem xk_126 : lw_tbl[798]? = some (Cond.code yX7_given cX7_given 5 (some .int)) := rfl
set_option maxRecDepth 100000 in
theorem xk_127 : lw_tbl[824]? = some (Cond.code yX7_placeOf cX7_placeOf 6 (some .int)) := rfl
set_option maxRecDepth 100000 in
theorem xk_128 : lw_tbl[859]? = some (Cond.code yX7_waitsFor cX7_waitsFor 5 (some .int)) := rfl
set_option maxRecDepth 100000 in
theorem xk_129 : lw_tbl[820]? = some (Cond.code yX7_leavesLists cX7_leavesLists 6 none) := rfl
set_option maxRecDepth 100000 in
theorem xk_130 : lw_tbl[816]? = some (Cond.code yX7_getsPermit cX7_getsPermit 5 none) := rfl
set_option maxRecDepth 100000 in
theorem xk_131 : lw_tbl[794]? = some (Cond.code yX7_movesUp cX7_movesUp 4 (some .int)) := rfl
set_option maxRecDepth 100000 in
theorem xk_132 : lw_tbl[851]? = some (Cond.code yX7_asksFor cX7_asksFor 6 (some .int)) := rfl
set_option maxRecDepth 100000 in
theorem xk_133 : lw_tbl[863]? = some (Cond.code yX7_endsPermit cX7_endsPermit 3 none) := rfl
set_option maxRecDepth 100000 in
theorem xk_134 : lw_tbl[956]? = some (Cond.code yX7_day cX7_day 4 (some .int)) := rfl
set_option maxRecDepth 100000 in
theorem xk_135 : lw_tbl[952]? = some (Cond.code yX7_days cX7_days 5 (some .int)) := rfl
set_option maxRecDepth 100000 in
theorem xk_136 : lw_tbl[879]? = some (Cond.code yX7_isInRack cX7_isInRack 3 (some .boolean)) := rfl
set_option maxRecDepth 100000 in
theorem xk_137 : lw_tbl[887]? = some (Cond.code yX7_owner cX7_owner 7 (some .int)) := rfl
set_option maxRecDepth 100000 in
theorem xk_138 : lw_tbl[907]? = some (Cond.code yX7_leavesRack cX7_leavesRack 4 none) := rfl
set_option maxRecDepth 100000 in
theorem xk_139 : lw_tbl[935]? = some (Cond.code yX7_sweeps cX7_sweeps 8 (some .int)) := rfl
set_option maxRecDepth 100000 in
theorem xk_140 : lw_tbl[883]? = some (Cond.code yX7_freeRack cX7_freeRack 6 (some .int)) := rfl
set_option maxRecDepth 100000 in
theorem xk_141 : lw_tbl[835]? = some (Cond.code yX7_isPerson cX7_isPerson 1 (some .boolean)) := rfl
set_option maxRecDepth 100000 in
theorem xk_142 : lw_tbl[839]? = some (Cond.code yX7_isShed cX7_isShed 1 (some .boolean)) := rfl
set_option maxRecDepth 100000 in
theorem xk_143 : lw_tbl[843]? = some (Cond.code yX7_areDays cX7_areDays 1 (some .boolean)) := rfl
set_option maxRecDepth 100000 in
theorem xk_144 : lw_tbl[847]? = some (Cond.code yX7_hasPermit cX7_hasPermit 2 (some .boolean)) := rfl
set_option maxRecDepth 100000 in
theorem xk_145 : lw_tbl[832]? = some (Cond.code yX7_askError cX7_askError 4 (some .int)) := rfl
set_option maxRecDepth 100000 in
theorem xk_146 : lw_tbl[875]? = some (Cond.code yX7_parkError cX7_parkError 2 (some .int)) := rfl
set_option maxRecDepth 100000 in
theorem xk_147 : lw_tbl[899]? = some (Cond.code yX7_rackError cX7_rackError 2 (some .int)) := rfl
set_option maxRecDepth 100000 in
theorem xk_148 : lw_tbl[923]? = some (Cond.code yX7_fetchError cX7_fetchError 2 (some .int)) := rfl
set_option maxRecDepth 100000 in
theorem xk_149 : lw_tbl[948]? = some (Cond.code yX7_passError cX7_passError 2 (some .int)) := rfl
set_option maxRecDepth 100000 in
theorem xk_150 : lw_tbl[891]? = some (Cond.code yX7_parks cX7_parks 4 (some .int)) := rfl
set_option maxRecDepth 100000 in
theorem xk_151 : lw_tbl[903]? = some (Cond.code yX7_rides cX7_rides 3 (some .int)) := rfl
set_option maxRecDepth 100000 in
theorem xk_152 : lw_tbl[915]? = some (Cond.code yX7_answers cX7_answers 4 (some .int)) := rfl
set_option maxRecDepth 100000 in
theorem xk_153 : lw_tbl[927]? = some (Cond.code yX7_fetches cX7_fetches 4 (some .int)) := rfl
set_option maxRecDepth 100000 in
theorem xk_154 : lw_tbl[775]? = some (Cond.code yX7_isValue cX7_isValue 2 (some .boolean)) := rfl
set_option maxRecDepth 100000 in
theorem xk_155 : lw_tbl[772]? = some (Cond.code yX7_set cX7_set 5 (some .int)) := rfl
set_option maxRecDepth 100000 in
theorem xk_156 : lw_tbl[828]? = some (Cond.code yX7_ask cX7_ask 5 (some .int)) := rfl
set_option maxRecDepth 100000 in
theorem xk_157 : lw_tbl[855]? = some (Cond.code yX7_giveUp cX7_giveUp 4 (some .int)) := rfl
set_option maxRecDepth 100000 in
theorem xk_158 : lw_tbl[867]? = some (Cond.code yX7_prolong cX7_prolong 4 (some .int)) := rfl
set_option maxRecDepth 100000 in
theorem xk_159 : lw_tbl[871]? = some (Cond.code yX7_park cX7_park 3 (some .int)) := rfl
set_option maxRecDepth 100000 in
theorem xk_160 : lw_tbl[895]? = some (Cond.code yX7_ride cX7_ride 3 (some .int)) := rfl
set_option maxRecDepth 100000 in
theorem xk_161 : lw_tbl[911]? = some (Cond.code yX7_answer cX7_answer 3 (some .int)) := rfl
set_option maxRecDepth 100000 in
theorem xk_162 : lw_tbl[919]? = some (Cond.code yX7_fetch cX7_fetch 3 (some .int)) := rfl
set_option maxRecDepth 100000 in
theorem xk_163 : lw_tbl[931]? = some (Cond.code yX7_sweep cX7_sweep 2 (some .int)) := rfl
set_option maxRecDepth 100000 in
theorem xk_164 : lw_tbl[939]? = some (Cond.code yX7_use cX7_use 5 (some .int)) := rfl
set_option maxRecDepth 100000 in
theorem xk_165 : lw_tbl[944]? = some (Cond.code yX7_pass cX7_pass 3 (some .int)) := rfl
set_option maxRecDepth 100000 in
theorem xk_166 : lw_tbl[964]? = some (Cond.code yX7_daysSince cX7_daysSince 2 (some .int)) := rfl
set_option maxRecDepth 100000 in
theorem xk_167 : lw_tbl[960]? = some (Cond.code yX7_person cX7_person 4 (some .int)) := rfl
set_option maxRecDepth 100000 in
theorem xk_168 : lw_tbl[972]? = some (Cond.code yX7_racks cX7_racks 7 (some .int)) := rfl
set_option maxRecDepth 100000 in
theorem xk_169 : lw_tbl[968]? = some (Cond.code yX7_shed cX7_shed 3 (some .int)) := rfl
set_option maxRecDepth 100000 in
theorem xk_170 : lw_tbl[976]? = some (Cond.code yX7_waiting cX7_waiting 4 (some .int)) := rfl
set_option maxRecDepth 100000 in
theorem xk_171 : lw_tbl[984]? = some (Cond.code yX7_people cX7_people 5 (some .int)) := rfl
set_option maxRecDepth 100000 in
theorem xk_172 : lw_tbl[980]? = some (Cond.code yX7_count cX7_count 2 (some .int)) := rfl
set_option maxRecDepth 100000 in
theorem xk_173 : lw_tbl[992]? = some (Cond.code yX7_daysTo cX7_daysTo 5 (some .int)) := rfl
set_option maxRecDepth 100000 in
theorem xk_174 : lw_tbl[988]? = some (Cond.code yX7_untilPermit cX7_untilPermit 2 (some .int)) := rfl
set_option maxRecDepth 100000 in
theorem xk_175 : lw_tbl[996]? = some (Cond.code yX7_bestShed cX7_bestShed 10 (some .int)) := rfl
set_option maxRecDepth 100000 in
theorem xk_176 : lw_tbl[1000]? = some (Cond.code yX7_ifSwept cX7_ifSwept 4 (some .int)) := rfl
set_option maxRecDepth 100000 in
theorem xk_177 : lw_tbl[1007]? = some (Cond.code yX7_charactersOf cX7_charactersOf 5 (some .int)) := rfl
set_option maxRecDepth 100000 in
theorem xk_178 : lw_tbl[1004]? = some (Cond.code yX7_put cX7_put 5 (some .int)) := rfl
set_option maxRecDepth 100000 in
theorem xk_179 : lw_tbl[1014]? = some (Cond.code yX7_wipe cX7_wipe 2 (some .int)) := rfl
set_option maxRecDepth 100000 in
theorem xk_180 : lw_tbl[1026]? = some (Cond.code yX7_isHere cX7_isHere 3 (some .boolean)) := rfl
set_option maxRecDepth 100000 in
theorem xk_181 : lw_tbl[1030]? = some (Cond.code yX7_reads cX7_reads 4 (some .int)) := rfl
set_option maxRecDepth 100000 in
theorem xk_182 : lw_tbl[1038]? = some (Cond.code yX7_number cX7_number 3 (some .int)) := rfl
set_option maxRecDepth 100000 in
theorem xk_183 : lw_tbl[1034]? = some (Cond.code yX7_readsShed cX7_readsShed 2 (some .boolean)) := rfl
set_option maxRecDepth 100000 in
theorem xk_184 : lw_tbl[1022]? = some (Cond.code yX7_readsDeed cX7_readsDeed 1 (some .boolean)) := rfl
set_option maxRecDepth 100000 in
theorem xk_185 : lw_tbl[1018]? = some (Cond.code yX7_fault cX7_fault 2 (some .int)) := rfl
set_option maxRecDepth 100000 in
theorem xk_186 : lw_tbl[1047]? = some (Cond.code yX7_deedError cX7_deedError 1 (some .int)) := rfl
set_option maxRecDepth 100000 in
theorem xk_187 : lw_tbl[1051]? = some (Cond.code yX7_does cX7_does 1 (some .int)) := rfl
set_option maxRecDepth 100000 in
theorem xk_188 : lw_tbl[1042]? = some (Cond.code yX7_run cX7_run 5 (some .int)) := rfl
set_option maxRecDepth 100000 in
theorem xk_189 : lw_tbl[1055]? = some (Cond.code yX7_undo cX7_undo 1 (some .int)) := rfl
set_option maxRecDepth 100000 in
theorem xk_190 : lw_tbl[1062]? = some (Cond.code yX7_isSlot cX7_isSlot 1 (some .boolean)) := rfl
set_option maxRecDepth 100000 in
theorem xk_191 : lw_tbl[1059]? = some (Cond.code yX7_save cX7_save 2 (some .int)) := rfl
set_option maxRecDepth 100000 in
theorem xk_192 : lw_tbl[1066]? = some (Cond.code yX7_restore cX7_restore 2 (some .int)) := rfl
end
section
theorem xk_codes (i : Nat) (h0 : 0 < i) (h : i < 193) : Cond.code (xt_Y i) (xt_C i) (xt_L i) (xt_R i) ∈ lw_tbl := by
  match i, h0, h with
  | 1, _, _ => exact List.mem_of_getElem? xk_1
  | 2, _, _ => exact List.mem_of_getElem? xk_2
  | 3, _, _ => exact List.mem_of_getElem? xk_3
  | 4, _, _ => exact List.mem_of_getElem? xk_4
  | 5, _, _ => exact List.mem_of_getElem? xk_5
  | 6, _, _ => exact List.mem_of_getElem? xk_6
  | 7, _, _ => exact List.mem_of_getElem? xk_7
  | 8, _, _ => exact List.mem_of_getElem? xk_8
  | 9, _, _ => exact List.mem_of_getElem? xk_9
  | 10, _, _ => exact List.mem_of_getElem? xk_10
  | 11, _, _ => exact List.mem_of_getElem? xk_11
  | 12, _, _ => exact List.mem_of_getElem? xk_12
  | 13, _, _ => exact List.mem_of_getElem? xk_13
  | 14, _, _ => exact List.mem_of_getElem? xk_14
  | 15, _, _ => exact List.mem_of_getElem? xk_15
  | 16, _, _ => exact List.mem_of_getElem? xk_16
  | 17, _, _ => exact List.mem_of_getElem? xk_17
  | 18, _, _ => exact List.mem_of_getElem? xk_18
  | 19, _, _ => exact List.mem_of_getElem? xk_19
  | 20, _, _ => exact List.mem_of_getElem? xk_20
  | 21, _, _ => exact List.mem_of_getElem? xk_21
  | 22, _, _ => exact List.mem_of_getElem? xk_22
  | 23, _, _ => exact List.mem_of_getElem? xk_23
  | 24, _, _ => exact List.mem_of_getElem? xk_24
  | 25, _, _ => exact List.mem_of_getElem? xk_25
  | 26, _, _ => exact List.mem_of_getElem? xk_26
  | 27, _, _ => exact List.mem_of_getElem? xk_27
  | 28, _, _ => exact List.mem_of_getElem? xk_28
  | 29, _, _ => exact List.mem_of_getElem? xk_29
  | 30, _, _ => exact List.mem_of_getElem? xk_30
  | 31, _, _ => exact List.mem_of_getElem? xk_31
  | 32, _, _ => exact List.mem_of_getElem? xk_32
  | 33, _, _ => exact List.mem_of_getElem? xk_33
  | 34, _, _ => exact List.mem_of_getElem? xk_34
  | 35, _, _ => exact List.mem_of_getElem? xk_35
  | 36, _, _ => exact List.mem_of_getElem? xk_36
  | 37, _, _ => exact List.mem_of_getElem? xk_37
  | 38, _, _ => exact List.mem_of_getElem? xk_38
  | 39, _, _ => exact List.mem_of_getElem? xk_39
  | 40, _, _ => exact List.mem_of_getElem? xk_40
  | 41, _, _ => exact List.mem_of_getElem? xk_41
  | 42, _, _ => exact List.mem_of_getElem? xk_42
  | 43, _, _ => exact List.mem_of_getElem? xk_43
  | 44, _, _ => exact List.mem_of_getElem? xk_44
  | 45, _, _ => exact List.mem_of_getElem? xk_45
  | 46, _, _ => exact List.mem_of_getElem? xk_46
  | 47, _, _ => exact List.mem_of_getElem? xk_47
  | 48, _, _ => exact List.mem_of_getElem? xk_48
  | 49, _, _ => exact List.mem_of_getElem? xk_49
  | 50, _, _ => exact List.mem_of_getElem? xk_50
  | 51, _, _ => exact List.mem_of_getElem? xk_51
  | 52, _, _ => exact List.mem_of_getElem? xk_52
  | 53, _, _ => exact List.mem_of_getElem? xk_53
  | 54, _, _ => exact List.mem_of_getElem? xk_54
  | 55, _, _ => exact List.mem_of_getElem? xk_55
  | 56, _, _ => exact List.mem_of_getElem? xk_56
  | 57, _, _ => exact List.mem_of_getElem? xk_57
  | 58, _, _ => exact List.mem_of_getElem? xk_58
  | 59, _, _ => exact List.mem_of_getElem? xk_59
  | 60, _, _ => exact List.mem_of_getElem? xk_60
  | 61, _, _ => exact List.mem_of_getElem? xk_61
  | 62, _, _ => exact List.mem_of_getElem? xk_62
  | 63, _, _ => exact List.mem_of_getElem? xk_63
  | 64, _, _ => exact List.mem_of_getElem? xk_64
  | 65, _, _ => exact List.mem_of_getElem? xk_65
  | 66, _, _ => exact List.mem_of_getElem? xk_66
  | 67, _, _ => exact List.mem_of_getElem? xk_67
  | 68, _, _ => exact List.mem_of_getElem? xk_68
  | 69, _, _ => exact List.mem_of_getElem? xk_69
  | 70, _, _ => exact List.mem_of_getElem? xk_70
  | 71, _, _ => exact List.mem_of_getElem? xk_71
  | 72, _, _ => exact List.mem_of_getElem? xk_72
  | 73, _, _ => exact List.mem_of_getElem? xk_73
  | 74, _, _ => exact List.mem_of_getElem? xk_74
  | 75, _, _ => exact List.mem_of_getElem? xk_75
  | 76, _, _ => exact List.mem_of_getElem? xk_76
  | 77, _, _ => exact List.mem_of_getElem? xk_77
  | 78, _, _ => exact List.mem_of_getElem? xk_78
  | 79, _, _ => exact List.mem_of_getElem? xk_79
  | 80, _, _ => exact List.mem_of_getElem? xk_80
  | 81, _, _ => exact List.mem_of_getElem? xk_81
  | 82, _, _ => exact List.mem_of_getElem? xk_82
  | 83, _, _ => exact List.mem_of_getElem? xk_83
  | 84, _, _ => exact List.mem_of_getElem? xk_84
  | 85, _, _ => exact List.mem_of_getElem? xk_85
  | 86, _, _ => exact List.mem_of_getElem? xk_86
  | 87, _, _ => exact List.mem_of_getElem? xk_87
  | 88, _, _ => exact List.mem_of_getElem? xk_88
  | 89, _, _ => exact List.mem_of_getElem? xk_89
  | 90, _, _ => exact List.mem_of_getElem? xk_90
  | 91, _, _ => exact List.mem_of_getElem? xk_91
  | 92, _, _ => exact List.mem_of_getElem? xk_92
  | 93, _, _ => exact List.mem_of_getElem? xk_93
  | 94, _, _ => exact List.mem_of_getElem? xk_94
  | 95, _, _ => exact List.mem_of_getElem? xk_95
  | 96, _, _ => exact List.mem_of_getElem? xk_96
  | 97, _, _ => exact List.mem_of_getElem? xk_97
  | 98, _, _ => exact List.mem_of_getElem? xk_98
  | 99, _, _ => exact List.mem_of_getElem? xk_99
  | 100, _, _ => exact List.mem_of_getElem? xk_100
  | 101, _, _ => exact List.mem_of_getElem? xk_101
  | 102, _, _ => exact List.mem_of_getElem? xk_102
  | 103, _, _ => exact List.mem_of_getElem? xk_103
  | 104, _, _ => exact List.mem_of_getElem? xk_104
  | 105, _, _ => exact List.mem_of_getElem? xk_105
  | 106, _, _ => exact List.mem_of_getElem? xk_106
  | 107, _, _ => exact List.mem_of_getElem? xk_107
  | 108, _, _ => exact List.mem_of_getElem? xk_108
  | 109, _, _ => exact List.mem_of_getElem? xk_109
  | 110, _, _ => exact List.mem_of_getElem? xk_110
  | 111, _, _ => exact List.mem_of_getElem? xk_111
  | 112, _, _ => exact List.mem_of_getElem? xk_112
  | 113, _, _ => exact List.mem_of_getElem? xk_113
  | 114, _, _ => exact List.mem_of_getElem? xk_114
  | 115, _, _ => exact List.mem_of_getElem? xk_115
  | 116, _, _ => exact List.mem_of_getElem? xk_116
  | 117, _, _ => exact List.mem_of_getElem? xk_117
  | 118, _, _ => exact List.mem_of_getElem? xk_118
  | 119, _, _ => exact List.mem_of_getElem? xk_119
  | 120, _, _ => exact List.mem_of_getElem? xk_120
  | 121, _, _ => exact List.mem_of_getElem? xk_121
  | 122, _, _ => exact List.mem_of_getElem? xk_122
  | 123, _, _ => exact List.mem_of_getElem? xk_123
  | 124, _, _ => exact List.mem_of_getElem? xk_124
  | 125, _, _ => exact List.mem_of_getElem? xk_125
  | 126, _, _ => exact List.mem_of_getElem? xk_126
  | 127, _, _ => exact List.mem_of_getElem? xk_127
  | 128, _, _ => exact List.mem_of_getElem? xk_128
  | 129, _, _ => exact List.mem_of_getElem? xk_129
  | 130, _, _ => exact List.mem_of_getElem? xk_130
  | 131, _, _ => exact List.mem_of_getElem? xk_131
  | 132, _, _ => exact List.mem_of_getElem? xk_132
  | 133, _, _ => exact List.mem_of_getElem? xk_133
  | 134, _, _ => exact List.mem_of_getElem? xk_134
  | 135, _, _ => exact List.mem_of_getElem? xk_135
  | 136, _, _ => exact List.mem_of_getElem? xk_136
  | 137, _, _ => exact List.mem_of_getElem? xk_137
  | 138, _, _ => exact List.mem_of_getElem? xk_138
  | 139, _, _ => exact List.mem_of_getElem? xk_139
  | 140, _, _ => exact List.mem_of_getElem? xk_140
  | 141, _, _ => exact List.mem_of_getElem? xk_141
  | 142, _, _ => exact List.mem_of_getElem? xk_142
  | 143, _, _ => exact List.mem_of_getElem? xk_143
  | 144, _, _ => exact List.mem_of_getElem? xk_144
  | 145, _, _ => exact List.mem_of_getElem? xk_145
  | 146, _, _ => exact List.mem_of_getElem? xk_146
  | 147, _, _ => exact List.mem_of_getElem? xk_147
  | 148, _, _ => exact List.mem_of_getElem? xk_148
  | 149, _, _ => exact List.mem_of_getElem? xk_149
  | 150, _, _ => exact List.mem_of_getElem? xk_150
  | 151, _, _ => exact List.mem_of_getElem? xk_151
  | 152, _, _ => exact List.mem_of_getElem? xk_152
  | 153, _, _ => exact List.mem_of_getElem? xk_153
  | 154, _, _ => exact List.mem_of_getElem? xk_154
  | 155, _, _ => exact List.mem_of_getElem? xk_155
  | 156, _, _ => exact List.mem_of_getElem? xk_156
  | 157, _, _ => exact List.mem_of_getElem? xk_157
  | 158, _, _ => exact List.mem_of_getElem? xk_158
  | 159, _, _ => exact List.mem_of_getElem? xk_159
  | 160, _, _ => exact List.mem_of_getElem? xk_160
  | 161, _, _ => exact List.mem_of_getElem? xk_161
  | 162, _, _ => exact List.mem_of_getElem? xk_162
  | 163, _, _ => exact List.mem_of_getElem? xk_163
  | 164, _, _ => exact List.mem_of_getElem? xk_164
  | 165, _, _ => exact List.mem_of_getElem? xk_165
  | 166, _, _ => exact List.mem_of_getElem? xk_166
  | 167, _, _ => exact List.mem_of_getElem? xk_167
  | 168, _, _ => exact List.mem_of_getElem? xk_168
  | 169, _, _ => exact List.mem_of_getElem? xk_169
  | 170, _, _ => exact List.mem_of_getElem? xk_170
  | 171, _, _ => exact List.mem_of_getElem? xk_171
  | 172, _, _ => exact List.mem_of_getElem? xk_172
  | 173, _, _ => exact List.mem_of_getElem? xk_173
  | 174, _, _ => exact List.mem_of_getElem? xk_174
  | 175, _, _ => exact List.mem_of_getElem? xk_175
  | 176, _, _ => exact List.mem_of_getElem? xk_176
  | 177, _, _ => exact List.mem_of_getElem? xk_177
  | 178, _, _ => exact List.mem_of_getElem? xk_178
  | 179, _, _ => exact List.mem_of_getElem? xk_179
  | 180, _, _ => exact List.mem_of_getElem? xk_180
  | 181, _, _ => exact List.mem_of_getElem? xk_181
  | 182, _, _ => exact List.mem_of_getElem? xk_182
  | 183, _, _ => exact List.mem_of_getElem? xk_183
  | 184, _, _ => exact List.mem_of_getElem? xk_184
  | 185, _, _ => exact List.mem_of_getElem? xk_185
  | 186, _, _ => exact List.mem_of_getElem? xk_186
  | 187, _, _ => exact List.mem_of_getElem? xk_187
  | 188, _, _ => exact List.mem_of_getElem? xk_188
  | 189, _, _ => exact List.mem_of_getElem? xk_189
  | 190, _, _ => exact List.mem_of_getElem? xk_190
  | 191, _, _ => exact List.mem_of_getElem? xk_191
  | 192, _, _ => exact List.mem_of_getElem? xk_192
  | n + 193, _, h => exact absurd h (Nat.not_lt.mpr (Nat.le_add_left 193 n))
end
section
def xk_callP0 (ix : Nat) : Nat × (Nat × (Nat × Nat)) := if ix < 52 then (if ix < 44 then (if ix = 9 then (133, 98, 0, 58) else (0, 0, 0, 0)) else (if ix < 48 then (if ix = 44 then (496, 457, 458, 61) else (0, 0, 0, 0)) else (if ix = 48 then (492, 494, 7, 61) else (0, 0, 0, 0)))) else (if ix < 56 then (if ix = 52 then (497, 445, 446, 61) else (0, 0, 0, 0)) else (if ix < 59 then (if ix = 56 then (531, 421, 422, 61) else (0, 0, 0, 0)) else (if ix = 59 then (645, 372, 0, 58) else (0, 0, 0, 0))))
def xk_callP1 (ix : Nat) : Nat × (Nat × (Nat × Nat)) := if ix < 39 then (if ix < 21 then (if ix < 18 then (if ix = 11 then (206, 207, 0, 64) else (0, 0, 0, 0)) else (if ix = 18 then (540, 541, 542, 63) else (0, 0, 0, 0))) else (if ix < 29 then (if ix = 21 then (544, 545, 546, 63) else (0, 0, 0, 0)) else (if ix < 35 then (if ix = 29 then (572, 573, 574, 63) else (0, 0, 0, 0)) else (if ix = 35 then (560, 562, 11, 63) else (0, 0, 0, 0))))) else (if ix < 53 then (if ix < 50 then (if ix = 39 then (548, 550, 9, 63) else (0, 0, 0, 0)) else (if ix = 50 then (556, 558, 10, 63) else (0, 0, 0, 0))) else (if ix < 60 then (if ix = 53 then (552, 553, 554, 64) else (0, 0, 0, 0)) else (if ix < 63 then (if ix = 60 then (564, 566, 12, 63) else (0, 0, 0, 0)) else (if ix = 63 then (568, 570, 13, 63) else (0, 0, 0, 0)))))
def xk_callP2 (ix : Nat) : Nat × (Nat × (Nat × Nat)) := if ix < 24 then (if ix = 21 then (343, 345, 3, 62) else (0, 0, 0, 0)) else (if ix < 28 then (if ix = 24 then (347, 348, 0, 58) else (0, 0, 0, 0)) else (if ix = 28 then (718, 271, 272, 59) else (0, 0, 0, 0)))
def xk_callP3 (ix : Nat) : Nat × (Nat × (Nat × Nat)) := if ix < 23 then (if ix = 15 then (694, 695, 0, 64) else (0, 0, 0, 0)) else (if ix < 27 then (if ix = 23 then (697, 698, 0, 64) else (0, 0, 0, 0)) else (if ix = 27 then (701, 292, 0, 58) else (0, 0, 0, 0)))
def xk_callP4 (ix : Nat) : Nat × (Nat × (Nat × Nat)) := if ix < 63 then (if ix < 52 then (if ix < 44 then (if ix = 9 then (97, 98, 0, 58) else (0, 0, 0, 0)) else (if ix < 48 then (if ix = 44 then (365, 359, 0, 58) else (0, 0, 0, 0)) else (if ix = 48 then (391, 392, 393, 60) else (0, 0, 0, 0)))) else (if ix < 56 then (if ix = 52 then (320, 321, 322, 60) else (0, 0, 0, 0)) else (if ix < 60 then (if ix = 56 then (371, 372, 0, 58) else (0, 0, 0, 0)) else (if ix = 60 then (640, 388, 389, 60) else (0, 0, 0, 0))))) else (if ix < 73 then (if ix < 67 then (if ix = 63 then (331, 332, 333, 60) else (0, 0, 0, 0)) else (if ix < 70 then (if ix = 67 then (525, 362, 363, 60) else (0, 0, 0, 0)) else (if ix = 70 then (526, 396, 397, 60) else (0, 0, 0, 0)))) else (if ix < 76 then (if ix = 73 then (378, 368, 369, 60) else (0, 0, 0, 0)) else (if ix < 80 then (if ix = 76 then (622, 317, 318, 60) else (0, 0, 0, 0)) else (if ix = 80 then (623, 325, 0, 58) else (0, 0, 0, 0)))))
def xk_callP5 (ix : Nat) : Nat × (Nat × (Nat × Nat)) := if ix < 133 then (if ix < 88 then (if ix < 67 then (if ix < 46 then (if ix < 35 then (if ix = 28 then (93, 94, 0, 60) else (0, 0, 0, 0)) else (if ix = 35 then (129, 130, 0, 61) else (0, 0, 0, 0))) else (if ix < 50 then (if ix = 46 then (277, 278, 279, 60) else (0, 0, 0, 0)) else (if ix < 57 then (if ix = 50 then (282, 283, 284, 61) else (0, 0, 0, 0)) else (if ix = 57 then (291, 292, 0, 58) else (0, 0, 0, 0))))) else (if ix < 77 then (if ix < 70 then (if ix = 67 then (298, 300, 0, 59) else (0, 0, 0, 0)) else (if ix < 74 then (if ix = 70 then (324, 325, 0, 58) else (0, 0, 0, 0)) else (if ix = 74 then (358, 359, 0, 58) else (0, 0, 0, 0)))) else (if ix < 80 then (if ix = 77 then (361, 362, 363, 60) else (0, 0, 0, 0)) else (if ix < 84 then (if ix = 80 then (366, 321, 322, 60) else (0, 0, 0, 0)) else (if ix = 84 then (312, 313, 314, 60) else (0, 0, 0, 0)))))) else (if ix < 108 then (if ix < 94 then (if ix < 91 then (if ix = 88 then (302, 304, 1, 59) else (0, 0, 0, 0)) else (if ix = 91 then (367, 368, 369, 60) else (0, 0, 0, 0))) else (if ix < 98 then (if ix = 94 then (327, 328, 329, 60) else (0, 0, 0, 0)) else (if ix < 102 then (if ix = 98 then (374, 375, 376, 60) else (0, 0, 0, 0)) else (if ix = 102 then (387, 388, 389, 60) else (0, 0, 0, 0))))) else (if ix < 121 then (if ix < 112 then (if ix = 108 then (395, 396, 397, 60) else (0, 0, 0, 0)) else (if ix < 118 then (if ix = 112 then (399, 332, 333, 60) else (0, 0, 0, 0)) else (if ix = 118 then (416, 417, 418, 61) else (0, 0, 0, 0)))) else (if ix < 124 then (if ix = 121 then (420, 421, 422, 61) else (0, 0, 0, 0)) else (if ix < 127 then (if ix = 124 then (424, 426, 4, 59) else (0, 0, 0, 0)) else (if ix = 127 then (432, 433, 434, 61) else (0, 0, 0, 0))))))) else (if ix < 184 then (if ix < 156 then (if ix < 146 then (if ix < 136 then (if ix = 133 then (444, 445, 446, 61) else (0, 0, 0, 0)) else (if ix = 136 then (456, 457, 458, 61) else (0, 0, 0, 0))) else (if ix < 149 then (if ix = 146 then (476, 478, 5, 59) else (0, 0, 0, 0)) else (if ix < 152 then (if ix = 149 then (484, 485, 486, 59) else (0, 0, 0, 0)) else (if ix = 152 then (488, 489, 490, 61) else (0, 0, 0, 0))))) else (if ix < 170 then (if ix < 159 then (if ix = 156 then (506, 507, 0, 58) else (0, 0, 0, 0)) else (if ix < 167 then (if ix = 159 then (306, 307, 0, 67) else (0, 0, 0, 0)) else (if ix = 167 then (517, 519, 8, 59) else (0, 0, 0, 0)))) else (if ix < 173 then (if ix = 170 then (521, 522, 523, 60) else (0, 0, 0, 0)) else (if ix < 176 then (if ix = 173 then (527, 528, 529, 61) else (0, 0, 0, 0)) else (if ix = 176 then (316, 317, 318, 60) else (0, 0, 0, 0)))))) else (if ix < 205 then (if ix < 190 then (if ix < 187 then (if ix = 184 then (428, 429, 430, 61) else (0, 0, 0, 0)) else (if ix = 187 then (480, 482, 6, 59) else (0, 0, 0, 0))) else (if ix < 199 then (if ix = 190 then (596, 392, 393, 60) else (0, 0, 0, 0)) else (if ix < 202 then (if ix = 199 then (606, 607, 608, 61) else (0, 0, 0, 0)) else (if ix = 202 then (610, 612, 15, 59) else (0, 0, 0, 0))))) else (if ix < 215 then (if ix < 209 then (if ix = 205 then (632, 633, 634, 60) else (0, 0, 0, 0)) else (if ix < 212 then (if ix = 209 then (636, 637, 638, 60) else (0, 0, 0, 0)) else (if ix = 212 then (641, 642, 643, 61) else (0, 0, 0, 0)))) else (if ix < 218 then (if ix = 215 then (646, 647, 648, 61) else (0, 0, 0, 0)) else (if ix < 221 then (if ix = 218 then (650, 651, 652, 61) else (0, 0, 0, 0)) else (if ix = 221 then (654, 655, 656, 61) else (0, 0, 0, 0)))))))
def xk_callP6 (ix : Nat) : Nat × (Nat × (Nat × Nat)) := if ix < 95 then (if ix < 62 then (if ix < 44 then (if ix < 35 then (if ix < 24 then (if ix = 11 then (78, 79, 0, 59) else (0, 0, 0, 0)) else (if ix = 24 then (184, 185, 0, 62) else (0, 0, 0, 0))) else (if ix < 40 then (if ix = 35 then (200, 201, 0, 63) else (0, 0, 0, 0)) else (if ix = 40 then (270, 271, 272, 59) else (0, 0, 0, 0)))) else (if ix < 52 then (if ix < 48 then (if ix = 44 then (287, 288, 289, 59) else (0, 0, 0, 0)) else (if ix = 48 then (335, 337, 2, 58) else (0, 0, 0, 0))) else (if ix < 56 then (if ix = 52 then (354, 355, 356, 59) else (0, 0, 0, 0)) else (if ix < 59 then (if ix = 56 then (383, 384, 385, 59) else (0, 0, 0, 0)) else (if ix = 59 then (404, 405, 406, 59) else (0, 0, 0, 0)))))) else (if ix < 77 then (if ix < 68 then (if ix < 65 then (if ix = 62 then (412, 413, 414, 59) else (0, 0, 0, 0)) else (if ix = 65 then (440, 441, 442, 59) else (0, 0, 0, 0))) else (if ix < 71 then (if ix = 68 then (452, 453, 454, 59) else (0, 0, 0, 0)) else (if ix < 74 then (if ix = 71 then (464, 465, 466, 59) else (0, 0, 0, 0)) else (if ix = 74 then (472, 473, 474, 59) else (0, 0, 0, 0))))) else (if ix < 84 then (if ix < 81 then (if ix = 77 then (502, 503, 504, 59) else (0, 0, 0, 0)) else (if ix = 81 then (513, 514, 515, 59) else (0, 0, 0, 0))) else (if ix < 88 then (if ix = 84 then (536, 537, 538, 63) else (0, 0, 0, 0)) else (if ix < 91 then (if ix = 88 then (576, 541, 542, 63) else (0, 0, 0, 0)) else (if ix = 91 then (577, 545, 546, 63) else (0, 0, 0, 0))))))) else (if ix < 143 then (if ix < 117 then (if ix < 105 then (if ix < 98 then (if ix = 95 then (578, 580, 14, 58) else (0, 0, 0, 0)) else (if ix = 98 then (582, 573, 574, 63) else (0, 0, 0, 0))) else (if ix < 110 then (if ix = 105 then (583, 584, 585, 64) else (0, 0, 0, 0)) else (if ix < 114 then (if ix = 110 then (591, 325, 0, 58) else (0, 0, 0, 0)) else (if ix = 114 then (592, 593, 594, 59) else (0, 0, 0, 0))))) else (if ix < 127 then (if ix < 120 then (if ix = 117 then (601, 359, 0, 58) else (0, 0, 0, 0)) else (if ix = 120 then (602, 603, 604, 59) else (0, 0, 0, 0))) else (if ix < 137 then (if ix = 127 then (618, 619, 620, 60) else (0, 0, 0, 0)) else (if ix < 140 then (if ix = 137 then (628, 629, 630, 59) else (0, 0, 0, 0)) else (if ix = 140 then (662, 388, 389, 60) else (0, 0, 0, 0)))))) else (if ix < 163 then (if ix < 150 then (if ix < 146 then (if ix = 143 then (663, 664, 665, 59) else (0, 0, 0, 0)) else (if ix = 146 then (671, 292, 0, 58) else (0, 0, 0, 0))) else (if ix < 153 then (if ix = 150 then (672, 362, 363, 60) else (0, 0, 0, 0)) else (if ix < 160 then (if ix = 153 then (673, 675, 16, 58) else (0, 0, 0, 0)) else (if ix = 160 then (681, 485, 486, 59) else (0, 0, 0, 0))))) else (if ix < 172 then (if ix < 168 then (if ix = 163 then (682, 683, 684, 61) else (0, 0, 0, 0)) else (if ix = 168 then (690, 691, 692, 64) else (0, 0, 0, 0))) else (if ix < 176 then (if ix = 172 then (714, 715, 716, 62) else (0, 0, 0, 0)) else (if ix < 183 then (if ix = 176 then (723, 348, 0, 58) else (0, 0, 0, 0)) else (if ix = 183 then (339, 340, 341, 62) else (0, 0, 0, 0)))))))
def xk_callP7 (ix : Nat) : Nat × (Nat × (Nat × Nat)) := if ix < 120 then (if ix < 66 then (if ix < 46 then (if ix < 35 then (if ix < 28 then (if ix = 20 then (734, 735, 0, 65) else (0, 0, 0, 0)) else (if ix < 32 then (if ix = 28 then (787, 789, 18, 65) else (0, 0, 0, 0)) else (if ix = 32 then (806, 808, 22, 65) else (0, 0, 0, 0)))) else (if ix < 39 then (if ix = 35 then (799, 800, 0, 65) else (0, 0, 0, 0)) else (if ix < 43 then (if ix = 39 then (810, 811, 0, 65) else (0, 0, 0, 0)) else (if ix = 43 then (821, 823, 25, 65) else (0, 0, 0, 0))))) else (if ix < 55 then (if ix < 49 then (if ix = 46 then (817, 819, 24, 65) else (0, 0, 0, 0)) else (if ix < 52 then (if ix = 49 then (795, 797, 20, 65) else (0, 0, 0, 0)) else (if ix = 52 then (802, 804, 21, 65) else (0, 0, 0, 0)))) else (if ix < 59 then (if ix = 55 then (813, 815, 23, 65) else (0, 0, 0, 0)) else (if ix < 62 then (if ix = 59 then (860, 862, 30, 65) else (0, 0, 0, 0)) else (if ix = 62 then (791, 793, 19, 65) else (0, 0, 0, 0)))))) else (if ix < 92 then (if ix < 77 then (if ix < 69 then (if ix = 66 then (953, 955, 45, 65) else (0, 0, 0, 0)) else (if ix < 72 then (if ix = 69 then (904, 906, 38, 65) else (0, 0, 0, 0)) else (if ix = 72 then (884, 886, 34, 65) else (0, 0, 0, 0)))) else (if ix < 85 then (if ix = 77 then (777, 778, 0, 65) else (0, 0, 0, 0)) else (if ix < 89 then (if ix = 85 then (833, 834, 0, 65) else (0, 0, 0, 0)) else (if ix = 89 then (837, 838, 0, 65) else (0, 0, 0, 0))))) else (if ix < 102 then (if ix < 95 then (if ix = 92 then (841, 842, 0, 65) else (0, 0, 0, 0)) else (if ix < 98 then (if ix = 95 then (844, 846, 27, 65) else (0, 0, 0, 0)) else (if ix = 98 then (876, 878, 32, 65) else (0, 0, 0, 0)))) else (if ix < 114 then (if ix < 111 then (if ix = 102 then (880, 882, 33, 65) else (0, 0, 0, 0)) else (if ix = 111 then (773, 774, 0, 65) else (0, 0, 0, 0))) else (if ix < 117 then (if ix = 114 then (783, 785, 17, 65) else (0, 0, 0, 0)) else (if ix = 117 then (829, 831, 26, 65) else (0, 0, 0, 0))))))) else (if ix < 162 then (if ix < 139 then (if ix < 130 then (if ix < 124 then (if ix = 120 then (848, 850, 28, 65) else (0, 0, 0, 0)) else (if ix < 127 then (if ix = 124 then (856, 858, 29, 65) else (0, 0, 0, 0)) else (if ix = 127 then (872, 874, 31, 65) else (0, 0, 0, 0)))) else (if ix < 133 then (if ix = 130 then (888, 890, 35, 65) else (0, 0, 0, 0)) else (if ix < 136 then (if ix = 133 then (896, 898, 36, 65) else (0, 0, 0, 0)) else (if ix = 136 then (900, 902, 37, 65) else (0, 0, 0, 0))))) else (if ix < 148 then (if ix < 142 then (if ix = 139 then (912, 914, 39, 65) else (0, 0, 0, 0)) else (if ix < 145 then (if ix = 142 then (920, 922, 40, 65) else (0, 0, 0, 0)) else (if ix = 145 then (924, 926, 41, 65) else (0, 0, 0, 0)))) else (if ix < 156 then (if ix < 153 then (if ix = 148 then (932, 934, 42, 65) else (0, 0, 0, 0)) else (if ix = 153 then (945, 947, 43, 65) else (0, 0, 0, 0))) else (if ix < 159 then (if ix = 156 then (949, 951, 44, 65) else (0, 0, 0, 0)) else (if ix = 159 then (961, 963, 46, 65) else (0, 0, 0, 0)))))) else (if ix < 199 then (if ix < 180 then (if ix < 165 then (if ix = 162 then (969, 971, 47, 65) else (0, 0, 0, 0)) else (if ix < 171 then (if ix = 165 then (981, 983, 48, 65) else (0, 0, 0, 0)) else (if ix = 171 then (989, 991, 49, 65) else (0, 0, 0, 0)))) else (if ix < 187 then (if ix = 180 then (1005, 1006, 0, 65) else (0, 0, 0, 0)) else (if ix < 190 then (if ix = 187 then (1023, 1025, 51, 65) else (0, 0, 0, 0)) else (if ix = 190 then (1027, 1029, 52, 65) else (0, 0, 0, 0))))) else (if ix < 216 then (if ix < 203 then (if ix = 199 then (1031, 1033, 53, 65) else (0, 0, 0, 0)) else (if ix < 213 then (if ix = 203 then (1035, 1037, 54, 65) else (0, 0, 0, 0)) else (if ix = 213 then (1019, 1021, 50, 65) else (0, 0, 0, 0)))) else (if ix < 222 then (if ix < 219 then (if ix = 216 then (1043, 1016, 1017, 65) else (0, 0, 0, 0)) else (if ix = 219 then (1044, 1046, 55, 65) else (0, 0, 0, 0))) else (if ix < 225 then (if ix = 222 then (1048, 1050, 56, 65) else (0, 0, 0, 0)) else (if ix = 225 then (1060, 1061, 0, 65) else (0, 0, 0, 0)))))))
def xk_callP9 (ix : Nat) : Nat × (Nat × (Nat × Nat)) := if ix < 66 then (if ix < 39 then (if ix < 23 then (if ix < 17 then (if ix < 12 then (if ix = 9 then (70, 71, 0, 58) else (0, 0, 0, 0)) else (if ix < 13 then (if ix = 12 then (730, 731, 0, 65) else (0, 0, 0, 0)) else (if ix = 13 then (266, 267, 268, 58) else (0, 0, 0, 0)))) else (if ix < 18 then (if ix = 17 then (769, 770, 771, 65) else (0, 0, 0, 0)) else (if ix < 22 then (if ix = 18 then (350, 351, 352, 58) else (0, 0, 0, 0)) else (if ix = 22 then (825, 826, 827, 65) else (0, 0, 0, 0))))) else (if ix < 31 then (if ix < 27 then (if ix = 23 then (379, 380, 381, 58) else (0, 0, 0, 0)) else (if ix < 28 then (if ix = 27 then (852, 853, 854, 65) else (0, 0, 0, 0)) else (if ix = 28 then (400, 401, 402, 58) else (0, 0, 0, 0)))) else (if ix < 35 then (if ix < 32 then (if ix = 31 then (864, 865, 866, 65) else (0, 0, 0, 0)) else (if ix = 32 then (408, 409, 410, 58) else (0, 0, 0, 0))) else (if ix < 36 then (if ix = 35 then (868, 869, 870, 65) else (0, 0, 0, 0)) else (if ix = 36 then (436, 437, 438, 58) else (0, 0, 0, 0)))))) else (if ix < 51 then (if ix < 44 then (if ix < 40 then (if ix = 39 then (892, 893, 894, 65) else (0, 0, 0, 0)) else (if ix < 43 then (if ix = 40 then (448, 449, 450, 58) else (0, 0, 0, 0)) else (if ix = 43 then (908, 909, 910, 65) else (0, 0, 0, 0)))) else (if ix < 47 then (if ix = 44 then (460, 461, 462, 58) else (0, 0, 0, 0)) else (if ix < 48 then (if ix = 47 then (916, 917, 918, 65) else (0, 0, 0, 0)) else (if ix = 48 then (468, 469, 470, 58) else (0, 0, 0, 0))))) else (if ix < 57 then (if ix < 52 then (if ix = 51 then (928, 929, 930, 65) else (0, 0, 0, 0)) else (if ix < 56 then (if ix = 52 then (498, 499, 500, 58) else (0, 0, 0, 0)) else (if ix = 56 then (936, 937, 938, 65) else (0, 0, 0, 0)))) else (if ix < 61 then (if ix < 60 then (if ix = 57 then (509, 510, 511, 58) else (0, 0, 0, 0)) else (if ix = 60 then (941, 942, 943, 65) else (0, 0, 0, 0))) else (if ix < 65 then (if ix = 61 then (532, 533, 534, 58) else (0, 0, 0, 0)) else (if ix = 65 then (1039, 1040, 1041, 65) else (0, 0, 0, 0))))))) else (if ix < 93 then (if ix < 78 then (if ix < 73 then (if ix < 69 then (if ix = 66 then (587, 588, 589, 58) else (0, 0, 0, 0)) else (if ix < 70 then (if ix = 69 then (957, 958, 959, 65) else (0, 0, 0, 0)) else (if ix = 70 then (597, 598, 599, 58) else (0, 0, 0, 0)))) else (if ix < 74 then (if ix = 73 then (965, 966, 967, 65) else (0, 0, 0, 0)) else (if ix < 77 then (if ix = 74 then (614, 615, 616, 58) else (0, 0, 0, 0)) else (if ix = 77 then (973, 974, 975, 65) else (0, 0, 0, 0))))) else (if ix < 85 then (if ix < 81 then (if ix = 78 then (624, 625, 626, 58) else (0, 0, 0, 0)) else (if ix < 82 then (if ix = 81 then (977, 978, 979, 65) else (0, 0, 0, 0)) else (if ix = 82 then (658, 659, 660, 58) else (0, 0, 0, 0)))) else (if ix < 89 then (if ix < 86 then (if ix = 85 then (985, 986, 987, 65) else (0, 0, 0, 0)) else (if ix = 86 then (667, 668, 669, 58) else (0, 0, 0, 0))) else (if ix < 90 then (if ix = 89 then (993, 994, 995, 65) else (0, 0, 0, 0)) else (if ix = 90 then (677, 678, 679, 58) else (0, 0, 0, 0)))))) else (if ix < 108 then (if ix < 101 then (if ix < 96 then (if ix = 93 then (997, 998, 999, 65) else (0, 0, 0, 0)) else (if ix < 100 then (if ix = 96 then (686, 687, 688, 58) else (0, 0, 0, 0)) else (if ix = 100 then (1001, 1002, 1003, 65) else (0, 0, 0, 0)))) else (if ix < 104 then (if ix = 101 then (702, 703, 704, 58) else (0, 0, 0, 0)) else (if ix < 105 then (if ix = 104 then (1011, 1012, 1013, 65) else (0, 0, 0, 0)) else (if ix = 105 then (706, 707, 708, 58) else (0, 0, 0, 0))))) else (if ix < 113 then (if ix < 109 then (if ix = 108 then (1015, 1016, 1017, 65) else (0, 0, 0, 0)) else (if ix < 112 then (if ix = 109 then (710, 711, 712, 58) else (0, 0, 0, 0)) else (if ix = 112 then (1052, 1053, 1054, 65) else (0, 0, 0, 0)))) else (if ix < 117 then (if ix < 116 then (if ix = 113 then (719, 720, 721, 58) else (0, 0, 0, 0)) else (if ix = 116 then (1056, 1057, 1058, 65) else (0, 0, 0, 0))) else (if ix < 120 then (if ix = 117 then (724, 725, 726, 58) else (0, 0, 0, 0)) else (if ix = 120 then (1063, 1064, 1065, 65) else (0, 0, 0, 0)))))))
def xk_callP (k ix : Nat) : Nat × (Nat × (Nat × Nat)) := if k < 4 then (if k < 2 then (if k < 1 then (if k = 0 then xk_callP0 ix else (0, 0, 0, 0)) else (if k = 1 then xk_callP1 ix else (0, 0, 0, 0))) else (if k < 3 then (if k = 2 then xk_callP2 ix else (0, 0, 0, 0)) else (if k = 3 then xk_callP3 ix else (0, 0, 0, 0)))) else (if k < 6 then (if k < 5 then (if k = 4 then xk_callP4 ix else (0, 0, 0, 0)) else (if k = 5 then xk_callP5 ix else (0, 0, 0, 0))) else (if k < 7 then (if k = 6 then xk_callP6 ix else (0, 0, 0, 0)) else (if k < 9 then (if k = 7 then xk_callP7 ix else (0, 0, 0, 0)) else (if k = 9 then xk_callP9 ix else (0, 0, 0, 0)))))
def xk_fldP (k ix : Nat) : Nat := if k < 4 then (if k < 2 then (if k < 1 then (if k = 0 then (if ix < 25 then (if ix < 19 then (if ix = 13 then 134 else 0) else (if ix < 22 then (if ix = 19 then 136 else 0) else (if ix = 22 then 138 else 0))) else (if ix < 31 then (if ix < 28 then (if ix = 25 then 140 else 0) else (if ix = 28 then 142 else 0)) else (if ix < 40 then (if ix = 31 then 144 else 0) else (if ix = 40 then 146 else 0)))) else 0) else (if k = 1 then (if ix < 47 then (if ix < 32 then (if ix < 25 then (if ix = 12 then 220 else 0) else (if ix = 25 then 222 else 0)) else (if ix < 43 then (if ix = 32 then 212 else 0) else (if ix = 43 then 223 else 0))) else (if ix < 66 then (if ix < 57 then (if ix = 47 then 226 else 0) else (if ix = 57 then 224 else 0)) else (if ix < 69 then (if ix = 66 then 228 else 0) else (if ix = 69 then 230 else 0)))) else 0)) else (if k < 3 then (if k = 2 then (if ix < 17 then (if ix = 11 then 190 else 0) else (if ix = 17 then 191 else 0)) else 0) else (if k = 3 then (if ix < 19 then (if ix = 9 then 210 else 0) else (if ix = 19 then 211 else 0)) else 0))) else (if k < 6 then (if k < 5 then (if k = 4 then (if ix < 28 then (if ix < 19 then (if ix = 13 then 103 else 0) else (if ix < 23 then (if ix = 19 then 105 else 0) else (if ix = 23 then 107 else 0))) else (if ix < 31 then (if ix = 28 then 108 else 0) else (if ix < 40 then (if ix = 31 then 110 else 0) else (if ix = 40 then 111 else 0)))) else 0) else (if k = 5 then (if ix < 139 then (if ix < 53 then (if ix < 29 then (if ix < 23 then (if ix = 18 then 163 else 0) else (if ix = 23 then 164 else 0)) else (if ix < 36 then (if ix = 29 then 165 else 0) else (if ix = 36 then 167 else 0))) else (if ix < 115 then (if ix < 105 then (if ix = 53 then 169 else 0) else (if ix = 105 then 106 else 0)) else (if ix < 130 then (if ix = 115 then 104 else 0) else (if ix = 130 then 139 else 0)))) else (if ix < 180 then (if ix < 145 then (if ix < 142 then (if ix = 139 then 141 else 0) else (if ix = 142 then 143 else 0)) else (if ix < 164 then (if ix = 145 then 135 else 0) else (if ix = 164 then 112 else 0))) else (if ix < 196 then (if ix < 193 then (if ix = 180 then 109 else 0) else (if ix = 193 then 137 else 0)) else (if ix < 224 then (if ix = 196 then 145 else 0) else (if ix = 224 then 147 else 0))))) else 0)) else (if k < 7 then (if k = 6 then (if ix < 132 then (if ix < 29 then (if ix < 19 then (if ix < 16 then (if ix = 12 then 247 else 0) else (if ix = 16 then 248 else 0)) else (if ix < 25 then (if ix = 19 then 249 else 0) else (if ix = 25 then 250 else 0))) else (if ix < 101 then (if ix < 36 then (if ix = 29 then 251 else 0) else (if ix = 36 then 252 else 0)) else (if ix < 123 then (if ix = 101 then 221 else 0) else (if ix = 123 then 166 else 0)))) else (if ix < 186 then (if ix < 156 then (if ix < 136 then (if ix = 132 then 213 else 0) else (if ix = 136 then 192 else 0)) else (if ix < 180 then (if ix = 156 then 168 else 0) else (if ix = 180 then 170 else 0))) else (if ix < 192 then (if ix < 189 then (if ix = 186 then 225 else 0) else (if ix = 189 then 227 else 0)) else (if ix < 195 then (if ix = 192 then 229 else 0) else (if ix = 195 then 231 else 0))))) else 0) else (if k = 7 then (if ix < 184 then (if ix < 17 then (if ix < 13 then (if ix = 7 then 737 else 0) else (if ix = 13 then 739 else 0)) else (if ix < 24 then (if ix = 17 then 740 else 0) else (if ix < 168 then (if ix = 24 then 738 else 0) else (if ix = 168 then 741 else 0)))) else (if ix < 196 then (if ix < 193 then (if ix = 184 then 742 else 0) else (if ix = 193 then 745 else 0)) else (if ix < 207 then (if ix = 196 then 744 else 0) else (if ix < 210 then (if ix = 207 then 746 else 0) else (if ix = 210 then 743 else 0))))) else 0)))
def xk_oneP (k ix : Nat) : Nat × (Nat × Nat) := if k < 5 then (if k < 2 then (if k < 1 then (if k = 0 then (if ix < 34 then (if ix = 3 then (132, 0, 0) else (0, 0, 0)) else (if ix = 34 then (286, 0, 0) else (0, 0, 0))) else (0, 0, 0)) else (if k = 1 then (if ix < 9 then (if ix = 3 then (203, 0, 0) else (0, 0, 0)) else (if ix = 9 then (204, 205, 64) else (0, 0, 0))) else (0, 0, 0))) else (if k < 3 then (if k = 2 then (if ix < 9 then (if ix = 3 then (187, 0, 0) else (0, 0, 0)) else (if ix = 9 then (188, 0, 0) else (0, 0, 0))) else (0, 0, 0)) else (if k < 4 then (if k = 3 then (if ix < 31 then (if ix = 3 then (209, 0, 0) else (0, 0, 0)) else (if ix = 31 then (700, 0, 0) else (0, 0, 0))) else (0, 0, 0)) else (if k = 4 then (if ix < 27 then (if ix < 22 then (if ix = 3 then (96, 0, 0) else (0, 0, 0)) else (if ix = 22 then (100, 0, 0) else (0, 0, 0))) else (if ix < 34 then (if ix = 27 then (102, 0, 0) else (0, 0, 0)) else (if ix = 34 then (281, 0, 0) else (0, 0, 0)))) else (0, 0, 0))))) else (if k < 7 then (if k < 6 then (if k = 5 then (if ix < 26 then (if ix < 13 then (if ix < 9 then (if ix = 3 then (81, 0, 0) else (0, 0, 0)) else (if ix = 9 then (82, 0, 0) else (0, 0, 0))) else (if ix < 14 then (if ix = 13 then (84, 0, 0) else (0, 0, 0)) else (if ix = 14 then (90, 0, 0) else (0, 0, 0)))) else (if ix < 40 then (if ix < 33 then (if ix = 26 then (91, 92, 60) else (0, 0, 0)) else (if ix = 33 then (127, 128, 61) else (0, 0, 0))) else (if ix < 61 then (if ix = 40 then (274, 0, 0) else (0, 0, 0)) else (if ix < 64 then (if ix = 61 then (294, 0, 0) else (0, 0, 0)) else (if ix = 64 then (296, 0, 0) else (0, 0, 0)))))) else (0, 0, 0)) else (if k = 6 then (if ix < 22 then (if ix < 9 then (if ix = 3 then (73, 0, 0) else (0, 0, 0)) else (if ix = 9 then (76, 77, 59) else (0, 0, 0))) else (if ix < 33 then (if ix = 22 then (182, 183, 62) else (0, 0, 0)) else (if ix = 33 then (198, 199, 63) else (0, 0, 0)))) else (0, 0, 0))) else (if k < 8 then (if k = 7 then (if ix < 107 then (if ix < 81 then (if ix < 75 then (if ix = 1 then (733, 0, 0) else (0, 0, 0)) else (if ix = 75 then (836, 0, 0) else (0, 0, 0))) else (if ix < 83 then (if ix = 81 then (840, 0, 0) else (0, 0, 0)) else (if ix < 105 then (if ix = 83 then (782, 0, 0) else (0, 0, 0)) else (if ix = 105 then (776, 0, 0) else (0, 0, 0))))) else (if ix < 174 then (if ix < 109 then (if ix = 107 then (780, 0, 0) else (0, 0, 0)) else (if ix < 151 then (if ix = 109 then (781, 0, 0) else (0, 0, 0)) else (if ix = 151 then (940, 0, 0) else (0, 0, 0)))) else (if ix < 176 then (if ix = 174 then (1008, 0, 0) else (0, 0, 0)) else (if ix < 178 then (if ix = 176 then (1009, 0, 0) else (0, 0, 0)) else (if ix = 178 then (1010, 0, 0) else (0, 0, 0)))))) else (0, 0, 0)) else (if k < 9 then (if k = 8 then (if ix < 266 then (if ix = 265 then (309, 0, 0) else (0, 0, 0)) else (if ix < 267 then (if ix = 266 then (310, 0, 0) else (0, 0, 0)) else (if ix = 267 then (311, 0, 0) else (0, 0, 0)))) else (0, 0, 0)) else (if k = 9 then (if ix < 10 then (if ix = 7 then (68, 69, 58) else (0, 0, 0)) else (if ix < 94 then (if ix = 10 then (728, 729, 65) else (0, 0, 0)) else (if ix = 94 then (1067, 0, 0) else (0, 0, 0)))) else (0, 0, 0)))))
def xk_layP (k ix : Nat) : Nat := if k < 4 then (if k < 2 then (if k < 1 then (if k = 0 then (if ix < 3 then (if ix < 1 then (if ix = 0 then 148 else 0) else (if ix < 2 then (if ix = 1 then 150 else 0) else (if ix = 2 then 152 else 0))) else (if ix < 5 then (if ix < 4 then (if ix = 3 then 154 else 0) else (if ix = 4 then 156 else 0)) else (if ix < 6 then (if ix = 5 then 158 else 0) else (if ix = 6 then 160 else 0)))) else 0) else (if k = 1 then (if ix < 3 then (if ix < 1 then (if ix = 0 then 232 else 0) else (if ix < 2 then (if ix = 1 then 234 else 0) else (if ix = 2 then 236 else 0))) else (if ix < 5 then (if ix < 4 then (if ix = 3 then 238 else 0) else (if ix = 4 then 240 else 0)) else (if ix < 6 then (if ix = 5 then 242 else 0) else (if ix = 6 then 244 else 0)))) else 0)) else (if k < 3 then (if k = 2 then (if ix < 1 then (if ix = 0 then 193 else 0) else (if ix = 1 then 195 else 0)) else 0) else (if k = 3 then (if ix < 1 then (if ix = 0 then 214 else 0) else (if ix = 1 then 216 else 0)) else 0))) else (if k < 6 then (if k < 5 then (if k = 4 then (if ix < 3 then (if ix < 1 then (if ix = 0 then 113 else 0) else (if ix < 2 then (if ix = 1 then 115 else 0) else (if ix = 2 then 117 else 0))) else (if ix < 4 then (if ix = 3 then 119 else 0) else (if ix < 5 then (if ix = 4 then 121 else 0) else (if ix = 5 then 123 else 0)))) else 0) else (if k = 5 then (if ix < 2 then (if ix < 1 then (if ix = 0 then 171 else 0) else (if ix = 1 then 173 else 0)) else (if ix < 3 then (if ix = 2 then 175 else 0) else (if ix < 4 then (if ix = 3 then 177 else 0) else (if ix = 4 then 179 else 0)))) else 0)) else (if k < 7 then (if k = 6 then (if ix < 3 then (if ix < 1 then (if ix = 0 then 253 else 0) else (if ix < 2 then (if ix = 1 then 255 else 0) else (if ix = 2 then 257 else 0))) else (if ix < 4 then (if ix = 3 then 259 else 0) else (if ix < 5 then (if ix = 4 then 261 else 0) else (if ix = 5 then 263 else 0)))) else 0) else (if k = 7 then (if ix < 5 then (if ix < 2 then (if ix < 1 then (if ix = 0 then 747 else 0) else (if ix = 1 then 749 else 0)) else (if ix < 3 then (if ix = 2 then 751 else 0) else (if ix < 4 then (if ix = 3 then 753 else 0) else (if ix = 4 then 755 else 0)))) else (if ix < 7 then (if ix < 6 then (if ix = 5 then 757 else 0) else (if ix = 6 then 759 else 0)) else (if ix < 8 then (if ix = 7 then 761 else 0) else (if ix < 9 then (if ix = 8 then 763 else 0) else (if ix = 9 then 765 else 0))))) else 0)))
def xt_TS : List Cond := lw_tbl.filter goodWord
def xt_nest : Cond → Bool
  | .fieldLinkNest .. => true
  | .methodLinkNest .. => true
  | _ => false
def xt_NW : List Cond := lw_tbl.filter xt_nest
def xp_C : Nat → String
  | 0 => RX0
  | 1 => RX1
  | 2 => RX2
  | 3 => RX3
  | 4 => RX4
  | 5 => RX5
  | 6 => RX6
  | _ => RX7
/-- the word stands at that place, and is one that callees may be handed; or is a nest mate's -/
def xk_at (p : Nat) (w : Cond) : Bool := decide (lw_tbl[p]? = some w) && goodWord w
def xk_nat (p : Nat) (w : Cond) : Bool := decide (lw_tbl[p]? = some w) && xt_nest w
theorem xk_at_mem {p : Nat} {w : Cond} (h : xk_at p w = true) : w ∈ xt_TS := by
  unfold xk_at at h
  simp only [Bool.and_eq_true, decide_eq_true_eq] at h
  exact List.mem_filter.mpr ⟨List.mem_of_getElem? h.1, h.2⟩
theorem xk_nat_mem {p : Nat} {w : Cond} (h : xk_nat p w = true) : w ∈ xt_NW := by
  unfold xk_nat at h
  simp only [Bool.and_eq_true, decide_eq_true_eq] at h
  exact List.mem_filter.mpr ⟨List.mem_of_getElem? h.1, h.2⟩
theorem xk_code_mem {i : Nat} (h0 : 0 < i) (h : i < 193) : Cond.code (xt_Y i) (xt_C i) (xt_L i) (xt_R i) ∈ xt_TS := List.mem_filter.mpr ⟨xk_codes i h0 h, rfl⟩
/-- what the machine's rows ask of a field's entry -/
def xc_fld (k ix : Nat) (v : Nat × (Nat × Nat)) (p : Nat) : Bool := match v with
  | (ci, f, nest) => decide (ci < 8) && decide (f < xp_n ci) && decide ((xp_F ci f).1 = xp_C ci) && (if nest = 0 then xk_at p (Cond.fieldLink (xt_R_ k) ix (xp_F ci f).1 (xp_F ci f).2.1 (xp_F ci f).2.2.1) else decide (nest = 1) && xk_nat p (Cond.fieldLinkNest (xt_R_ k) ix (xp_F ci f).1 (xp_F ci f).2.1 (xp_F ci f).2.2.1 "BikeSheds"))
/-- and of a call's -/
def xc_call (k ix : Nat) (v : Nat × (Nat × Nat)) (p : Nat × (Nat × (Nat × Nat))) : Bool := match v with
  | (j, na, kind) => decide (0 < j ∧ j < 193) && xk_at p.2.2.2 (Cond.initialized (xt_Y j).cls) && decide ((xt_Y j).cls ≠ "java/lang/invoke/MethodHandle" ∧ (xt_Y j).cls ≠ "java/lang/invoke/VarHandle") &&
      decide ((parseMethodDescriptor (xt_Y j).desc).map (fun d => d.parameters.length) = some (if kind < 2 then na else na - 1)) && decide (kind < 6) && decide (2 ≤ kind → 1 ≤ na) &&
      (if kind = 0 ∨ kind = 2 ∨ kind = 4 then xk_at p.1 (Cond.methodLink (xt_R_ k) ix (xt_Y j)) else xk_nat p.1 (Cond.methodLinkNest (xt_R_ k) ix (xt_Y j) "BikeSheds")) &&
      (if kind < 2 then xk_at p.2.1 (Cond.static (xt_Y j)) else xk_at p.2.1 (Cond.instanceMethod (xt_Y j))) &&
      (if kind = 2 ∨ kind = 3 then xk_at p.2.2.1 (Cond.selects (xt_Y j).cls (xt_Y j) (xt_Y j)) else true) && (if 4 ≤ kind then decide ((xt_Y j).name = "<init>") && xt_I j else !(xt_I j))
set_option maxRecDepth 100000 in
theorem xk_fld_0 : (List.range 300).all (fun ix => match xt_fld 0 ix with | none => true | some v => xc_fld 0 ix v (xk_fldP 0 ix)) = true := by decide +kernel
set_option maxRecDepth 100000 in
theorem xk_fld_1 : (List.range 300).all (fun ix => match xt_fld 1 ix with | none => true | some v => xc_fld 1 ix v (xk_fldP 1 ix)) = true := by decide +kernel
set_option maxRecDepth 100000 in
theorem xk_fld_2 : (List.range 300).all (fun ix => match xt_fld 2 ix with | none => true | some v => xc_fld 2 ix v (xk_fldP 2 ix)) = true := by decide +kernel
set_option maxRecDepth 100000 in
theorem xk_fld_3 : (List.range 300).all (fun ix => match xt_fld 3 ix with | none => true | some v => xc_fld 3 ix v (xk_fldP 3 ix)) = true := by decide +kernel
set_option maxRecDepth 100000 in
theorem xk_fld_4 : (List.range 300).all (fun ix => match xt_fld 4 ix with | none => true | some v => xc_fld 4 ix v (xk_fldP 4 ix)) = true := by decide +kernel
set_option maxRecDepth 100000 in
theorem xk_fld_5 : (List.range 300).all (fun ix => match xt_fld 5 ix with | none => true | some v => xc_fld 5 ix v (xk_fldP 5 ix)) = true := by decide +kernel
set_option maxRecDepth 100000 in
theorem xk_fld_6 : (List.range 300).all (fun ix => match xt_fld 6 ix with | none => true | some v => xc_fld 6 ix v (xk_fldP 6 ix)) = true := by decide +kernel
set_option maxRecDepth 100000 in
theorem xk_fld_7 : (List.range 300).all (fun ix => match xt_fld 7 ix with | none => true | some v => xc_fld 7 ix v (xk_fldP 7 ix)) = true := by decide +kernel
set_option maxRecDepth 100000 in
theorem xk_fld_8 : (List.range 300).all (fun ix => match xt_fld 8 ix with | none => true | some v => xc_fld 8 ix v (xk_fldP 8 ix)) = true := by decide +kernel
set_option maxRecDepth 100000 in
theorem xk_fld_9 : (List.range 300).all (fun ix => match xt_fld 9 ix with | none => true | some v => xc_fld 9 ix v (xk_fldP 9 ix)) = true := by decide +kernel
set_option maxRecDepth 100000 in
theorem xk_call_0 : (List.range 300).all (fun ix => match xt_call 0 ix with | none => true | some v => xc_call 0 ix v (xk_callP 0 ix)) = true := by decide +kernel
set_option maxRecDepth 100000 in
theorem xk_call_1 : (List.range 300).all (fun ix => match xt_call 1 ix with | none => true | some v => xc_call 1 ix v (xk_callP 1 ix)) = true := by decide +kernel
set_option maxRecDepth 100000 in
theorem xk_call_2 : (List.range 300).all (fun ix => match xt_call 2 ix with | none => true | some v => xc_call 2 ix v (xk_callP 2 ix)) = true := by decide +kernel
set_option maxRecDepth 100000 in
theorem xk_call_3 : (List.range 300).all (fun ix => match xt_call 3 ix with | none => true | some v => xc_call 3 ix v (xk_callP 3 ix)) = true := by decide +kernel
set_option maxRecDepth 100000 in
theorem xk_call_4 : (List.range 300).all (fun ix => match xt_call 4 ix with | none => true | some v => xc_call 4 ix v (xk_callP 4 ix)) = true := by decide +kernel
set_option maxRecDepth 100000 in
theorem xk_call_5 : (List.range 300).all (fun ix => match xt_call 5 ix with | none => true | some v => xc_call 5 ix v (xk_callP 5 ix)) = true := by decide +kernel
set_option maxRecDepth 100000 in
theorem xk_call_6 : (List.range 300).all (fun ix => match xt_call 6 ix with | none => true | some v => xc_call 6 ix v (xk_callP 6 ix)) = true := by decide +kernel
set_option maxRecDepth 100000 in
theorem xk_call_7 : (List.range 300).all (fun ix => match xt_call 7 ix with | none => true | some v => xc_call 7 ix v (xk_callP 7 ix)) = true := by decide +kernel
set_option maxRecDepth 100000 in
theorem xk_call_8 : (List.range 300).all (fun ix => match xt_call 8 ix with | none => true | some v => xc_call 8 ix v (xk_callP 8 ix)) = true := by decide +kernel
set_option maxRecDepth 100000 in
theorem xk_call_9 : (List.range 300).all (fun ix => match xt_call 9 ix with | none => true | some v => xc_call 9 ix v (xk_callP 9 ix)) = true := by decide +kernel
theorem xk_ten {P : Nat → Prop} (h0 : P 0) (h1 : P 1) (h2 : P 2) (h3 : P 3) (h4 : P 4) (h5 : P 5) (h6 : P 6) (h7 : P 7) (h8 : P 8) (h9 : P 9) {k : Nat} (h : k < 10) : P k := by
  match k, h with
  | 0, _ => exact h0
  | 1, _ => exact h1
  | 2, _ => exact h2
  | 3, _ => exact h3
  | 4, _ => exact h4
  | 5, _ => exact h5
  | 6, _ => exact h6
  | 7, _ => exact h7
  | 8, _ => exact h8
  | 9, _ => exact h9
theorem xt_fld_ok {k ix : Nat} {v : Nat × (Nat × Nat)} (h : xt_fld k ix = some v) : xc_fld k ix v (xk_fldP k ix) = true := by
  by_cases hg : 10 ≤ k ∨ 300 ≤ ix
  · unfold xt_fld at h
    rw [if_pos hg] at h
    cases h
  · have h1 := List.all_eq_true.mp (xk_ten (P := fun k => (List.range 300).all (fun ix => match xt_fld k ix with | none => true | some v => xc_fld k ix v (xk_fldP k ix)) = true) xk_fld_0 xk_fld_1 xk_fld_2 xk_fld_3 xk_fld_4 xk_fld_5 xk_fld_6 xk_fld_7 xk_fld_8 xk_fld_9 (k := k) (by omega)) ix (List.mem_range.mpr (by omega))
    rw [h] at h1
    exact h1
theorem xt_call_ok {k ix : Nat} {v : Nat × (Nat × Nat)} (h : xt_call k ix = some v) : xc_call k ix v (xk_callP k ix) = true := by
  by_cases hg : 10 ≤ k ∨ 300 ≤ ix
  · unfold xt_call at h
    rw [if_pos hg] at h
    cases h
  · have h1 := List.all_eq_true.mp (xk_ten (P := fun k => (List.range 300).all (fun ix => match xt_call k ix with | none => true | some v => xc_call k ix v (xk_callP k ix)) = true) xk_call_0 xk_call_1 xk_call_2 xk_call_3 xk_call_4 xk_call_5 xk_call_6 xk_call_7 xk_call_8 xk_call_9 (k := k) (by omega)) ix (List.mem_range.mpr (by omega))
    rw [h] at h1
    exact h1
/-- the smaller tables -/
def xc_one (k ix : Nat) (p : Nat × (Nat × Nat)) : Bool :=
  (match xt_st k ix with | none => true | some j => decide (1 ≤ j ∧ j < 4) && xk_nat p.1 (Cond.fieldLinkNest (xt_R_ k) ix "BikeSheds" (if j = 1 then "FIRST_VALUES" else if j = 2 then "LOWEST_VALUES" else "HIGHEST_VALUES") "[I" "BikeSheds")) &&
  (match xt_new k ix with | none => true | some ci => decide (ci < 8) && xk_at p.1 (Cond.classLink (xt_R_ k) ix (xp_C ci)) && xk_at p.2.1 (Cond.instantiable (xp_C ci) (xp_n ci)) && xk_at p.2.2 (Cond.initialized (xp_C ci))) &&
  (match xt_anew k ix with | none => true | some t => (decide (t = 3) && xk_at p.1 (Cond.classLink (xt_R_ k) ix "[I")) || (decide (t = 4) && xk_at p.1 (Cond.classLink (xt_R_ k) ix "BikeSheds$State"))) &&
  (match xt_mnew k ix with | none => true | some _ => xk_at p.1 (Cond.classLink (xt_R_ k) ix "[[I")) &&
  (match xt_cast k ix with | none => true | some _ => xk_at p.1 (Cond.classLink (xt_R_ k) ix "[I")) &&
  (match xt_obj k ix with | none => true | some _ => xk_at p.1 (Cond.methodLink (xt_R_ k) ix Lib.objectInit)) &&
  (match xt_copy k ix with | none => true | some _ => xk_at p.1 (Cond.methodLink (xt_R_ k) ix arraycopyName)) &&
  (match xt_clone k ix with | none => true | some _ => xk_at p.1 (Cond.methodLink (xt_R_ k) ix ⟨"[I", "clone", "()Ljava/lang/Object;"⟩)) &&
  (match xt_ldi k ix with | none => true | some v => xk_at p.1 (Cond.constant (xt_R_ k) ix v)) &&
  (match xt_ldl k ix with | none => true | some v => xk_at p.1 (Cond.constantLong (xt_R_ k) ix v))
set_option maxRecDepth 100000 in
theorem xk_one_0 : (List.range 300).all (fun ix => xc_one 0 ix (xk_oneP 0 ix)) = true := by decide +kernel
set_option maxRecDepth 100000 in
theorem xk_one_1 : (List.range 300).all (fun ix => xc_one 1 ix (xk_oneP 1 ix)) = true := by decide +kernel
set_option maxRecDepth 100000 in
theorem xk_one_2 : (List.range 300).all (fun ix => xc_one 2 ix (xk_oneP 2 ix)) = true := by decide +kernel
set_option maxRecDepth 100000 in
theorem xk_one_3 : (List.range 300).all (fun ix => xc_one 3 ix (xk_oneP 3 ix)) = true := by decide +kernel
set_option maxRecDepth 100000 in
theorem xk_one_4 : (List.range 300).all (fun ix => xc_one 4 ix (xk_oneP 4 ix)) = true := by decide +kernel
set_option maxRecDepth 100000 in
theorem xk_one_5 : (List.range 300).all (fun ix => xc_one 5 ix (xk_oneP 5 ix)) = true := by decide +kernel
set_option maxRecDepth 100000 in
theorem xk_one_6 : (List.range 300).all (fun ix => xc_one 6 ix (xk_oneP 6 ix)) = true := by decide +kernel
set_option maxRecDepth 100000 in
theorem xk_one_7 : (List.range 300).all (fun ix => xc_one 7 ix (xk_oneP 7 ix)) = true := by decide +kernel
set_option maxRecDepth 100000 in
theorem xk_one_8 : (List.range 300).all (fun ix => xc_one 8 ix (xk_oneP 8 ix)) = true := by decide +kernel
set_option maxRecDepth 100000 in
theorem xk_one_9 : (List.range 300).all (fun ix => xc_one 9 ix (xk_oneP 9 ix)) = true := by decide +kernel
theorem xt_one_ok {k ix : Nat} (hg : ¬ (10 ≤ k ∨ 300 ≤ ix)) : xc_one k ix (xk_oneP k ix) = true :=
  List.all_eq_true.mp (xk_ten (P := fun k => (List.range 300).all (fun ix => xc_one k ix (xk_oneP k ix)) = true) xk_one_0 xk_one_1 xk_one_2 xk_one_3 xk_one_4 xk_one_5 xk_one_6 xk_one_7 xk_one_8 xk_one_9 (k := k) (by omega)) ix (List.mem_range.mpr (by omega))
def xk_free : List Cond := [Cond.instanceMethod Lib.objectInit, Cond.code Lib.objectInit ⟨#[0xb1]⟩ 1 none, Cond.native arraycopyName, Cond.static arraycopyName, Cond.initialized "java/lang/System", Cond.sameMethod "[I" "java/lang/Object" "clone" "()Ljava/lang/Object;",
    Cond.native ⟨"java/lang/Object", "clone", "()Ljava/lang/Object;"⟩, Cond.instanceMethod ⟨"java/lang/Object", "clone", "()Ljava/lang/Object;"⟩, Cond.selects "[I" ⟨"[I", "clone", "()Ljava/lang/Object;"⟩ ⟨"java/lang/Object", "clone", "()Ljava/lang/Object;"⟩,
    Cond.arrayClass .int, Cond.arrayClass .boolean, Cond.arrayClass .char]
set_option maxRecDepth 100000 in
theorem xk_free_all : xk_free = ([74, 75, 276, 275, 66, 85, 86, 87, 88, 126, 768, 219] : List Nat).filterMap (fun i => lw_tbl[i]?) := rfl
theorem xk_free_mem {w : Cond} (h : w ∈ xk_free) : w ∈ xt_TS := by
  have hg : goodWord w = true := List.all_eq_true.mp (show xk_free.all goodWord = true from rfl) w h
  rw [xk_free_all] at h
  obtain ⟨i, -, hi⟩ := List.mem_filterMap.mp h
  exact List.mem_filter.mpr ⟨List.mem_of_getElem? hi, hg⟩
theorem xk_ao : Cond.arrayOver (.object "BikeSheds$State") ∈ lw_tbl := List.mem_of_getElem? (i := 189) (by decide +kernel)
theorem xk_aoa : Cond.arrayOver (.array .int) ∈ lw_tbl := List.mem_of_getElem? (i := 101) (by decide +kernel)
theorem xk_cast : Cond.castable "[I" "java/lang/Cloneable" ∈ lw_tbl := List.mem_of_getElem? (i := 89) (by decide +kernel)
set_option maxRecDepth 100000 in
theorem xt_meth_ok : (List.range 193).all (fun i => plainName (xt_Y i).cls && decide ((xt_Y i).cls = xt_R_ (xt_K i)) && decide (xt_L i ≤ 20) && decide (1 ≤ xt_D i) && decide (xt_I i = true → (xt_Y i).name = "<init>") && decide (xt_K i < 10)) = true := by decide +kernel
/-- the calls go down -/
def xt_downs (i : Nat) (ix : Nat) : Bool := match xt_call (xt_K i) ix with
  | none => true
  | some v => decide (xt_D v.1 < xt_D i)
set_option maxRecDepth 100000 in
theorem xt_down_all : (List.range 193).all (fun i => (List.range (xt_M i)).all (fun pc => match xt_ops i pc with | none => true | some r => match xm_inv r.1 with | none => true | some ix => xt_downs i ix)) = true := by decide +kernel
theorem xp_cl {ci : Nat} (h : ci < 8) : vwCl[ci]? = some (xp_C ci, xp_F ci, xp_n ci) := by
  match ci, h with
  | 0, _ => rfl
  | 1, _ => rfl
  | 2, _ => rfl
  | 3, _ => rfl
  | 4, _ => rfl
  | 5, _ => rfl
  | 6, _ => rfl
  | 7, _ => rfl
set_option maxRecDepth 100000 in
theorem xp_ws_all : (List.range 8).all (fun ci => (List.range (xp_n ci)).all (fun k => xk_at (xk_layP ci k) (u_lay (xp_C ci) (xp_F ci) k))) = true := by decide +kernel
theorem xp_ws {ci : Nat} (h : ci < 8) : ∀ w ∈ u_ws (xp_C ci) (xp_F ci) (xp_n ci), w ∈ xt_TS := by
  intro w hw
  obtain ⟨k, hk, rfl⟩ := List.mem_map.mp hw
  exact xk_at_mem (List.all_eq_true.mp (List.all_eq_true.mp xp_ws_all ci (List.mem_range.mpr h)) k hk)
set_option maxRecDepth 100000 in
theorem xp_fty_all : (List.range 8).all (fun ci => (List.range (xp_n ci)).all (fun k => decide (parseFieldDescriptor (xp_F ci k).2.2.1 = some (xp_fty ci k)))) = true := by decide +kernel
theorem xp_fty_ok {ci : Nat} (h : ci < 8) : ∀ k, k < xp_n ci → parseFieldDescriptor (xp_F ci k).2.2.1 = some (xp_fty ci k) := fun k hk => of_decide_eq_true (List.all_eq_true.mp (List.all_eq_true.mp xp_fty_all ci (List.mem_range.mpr h)) k (List.mem_range.mpr hk))
theorem xp_nm {ci : Nat} (h : ci < 8) : ∀ a, a < xp_n ci → ∀ b, b < xp_n ci → a ≠ b → (xp_F ci a).2.1 ≠ (xp_F ci b).2.1 := by
  match ci, h with
  | 0, _ => exact nmX0
  | 1, _ => exact nmX1
  | 2, _ => exact nmX2
  | 3, _ => exact nmX3
  | 4, _ => exact nmX4
  | 5, _ => exact nmX5
  | 6, _ => exact nmX6
  | 7, _ => exact nmX7
end
