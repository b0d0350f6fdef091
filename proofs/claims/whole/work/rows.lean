section
-- ===== PART A: goes FIRST, ahead of the names: the tables' words, and 'selects' of the private methods out of them =====
/-- a private method of a class that the tables say can be made, by its rows of tables_1 -/
def lw_okq (q : MethodName × Nat) : Prop := (q.1.cls ≠ "java/lang/invoke/MethodHandle" ∧ q.1.cls ≠ "java/lang/invoke/VarHandle") ∧ Cond.instantiable q.1.cls q.2 ∈ tables_1 ∧ Cond.privateMethod q.1 ∈ tables_1 ∧ Cond.instanceMethod q.1 ∈ tables_1
theorem lw_p0 : lw_okq (⟨"RangeDeeds", "changeSetting", "(II)I"⟩, 6) := ⟨⟨by decide +kernel, by decide +kernel⟩, List.mem_of_getElem? (i := 14) (by decide +kernel), List.mem_of_getElem? (i := 249) (by decide +kernel), List.mem_of_getElem? (i := 250) (by decide +kernel)⟩
theorem lw_p1 : lw_okq (⟨"RangeDeeds$History", "dropOldest", "()V"⟩, 2) := ⟨⟨by decide +kernel, by decide +kernel⟩, List.mem_of_getElem? (i := 144) (by decide +kernel), List.mem_of_getElem? (i := 269) (by decide +kernel), List.mem_of_getElem? (i := 270) (by decide +kernel)⟩
theorem lw_p2 : lw_okq (⟨"RangeDeeds", "addOwner", "(I)I"⟩, 6) := ⟨⟨by decide +kernel, by decide +kernel⟩, List.mem_of_getElem? (i := 14) (by decide +kernel), List.mem_of_getElem? (i := 277) (by decide +kernel), List.mem_of_getElem? (i := 278) (by decide +kernel)⟩
theorem lw_p3 : lw_okq (⟨"RangeDeeds", "payIn", "(II)I"⟩, 6) := ⟨⟨by decide +kernel, by decide +kernel⟩, List.mem_of_getElem? (i := 14) (by decide +kernel), List.mem_of_getElem? (i := 293) (by decide +kernel), List.mem_of_getElem? (i := 294) (by decide +kernel)⟩
theorem lw_p4 : lw_okq (⟨"RangeDeeds", "givePiece", "(III)I"⟩, 6) := ⟨⟨by decide +kernel, by decide +kernel⟩, List.mem_of_getElem? (i := 14) (by decide +kernel), List.mem_of_getElem? (i := 309) (by decide +kernel), List.mem_of_getElem? (i := 310) (by decide +kernel)⟩
theorem lw_p5 : lw_okq (⟨"RangeDeeds$Street", "clear", "()V"⟩, 6) := ⟨⟨by decide +kernel, by decide +kernel⟩, List.mem_of_getElem? (i := 28) (by decide +kernel), List.mem_of_getElem? (i := 323) (by decide +kernel), List.mem_of_getElem? (i := 324) (by decide +kernel)⟩
theorem lw_p6 : lw_okq (⟨"RangeDeeds$Street", "append", "(III)V"⟩, 6) := ⟨⟨by decide +kernel, by decide +kernel⟩, List.mem_of_getElem? (i := 28) (by decide +kernel), List.mem_of_getElem? (i := 337) (by decide +kernel), List.mem_of_getElem? (i := 338) (by decide +kernel)⟩
theorem lw_p7 : lw_okq (⟨"RangeDeeds$Street", "overlap", "(III)I"⟩, 6) := ⟨⟨by decide +kernel, by decide +kernel⟩, List.mem_of_getElem? (i := 28) (by decide +kernel), List.mem_of_getElem? (i := 351) (by decide +kernel), List.mem_of_getElem? (i := 352) (by decide +kernel)⟩
theorem lw_p8 : lw_okq (⟨"RangeDeeds", "freePiece", "(II)I"⟩, 6) := ⟨⟨by decide +kernel, by decide +kernel⟩, List.mem_of_getElem? (i := 14) (by decide +kernel), List.mem_of_getElem? (i := 365) (by decide +kernel), List.mem_of_getElem? (i := 366) (by decide +kernel)⟩
theorem lw_p9 : lw_okq (⟨"RangeDeeds", "grabPiece", "(II)I"⟩, 6) := ⟨⟨by decide +kernel, by decide +kernel⟩, List.mem_of_getElem? (i := 14) (by decide +kernel), List.mem_of_getElem? (i := 373) (by decide +kernel), List.mem_of_getElem? (i := 374) (by decide +kernel)⟩
theorem lw_p10 : lw_okq (⟨"RangeDeeds$Street", "lengthOfGap", "(I)I"⟩, 6) := ⟨⟨by decide +kernel, by decide +kernel⟩, List.mem_of_getElem? (i := 28) (by decide +kernel), List.mem_of_getElem? (i := 381) (by decide +kernel), List.mem_of_getElem? (i := 382) (by decide +kernel)⟩
theorem lw_p11 : lw_okq (⟨"RangeDeeds", "handOver", "(II)I"⟩, 6) := ⟨⟨by decide +kernel, by decide +kernel⟩, List.mem_of_getElem? (i := 14) (by decide +kernel), List.mem_of_getElem? (i := 397) (by decide +kernel), List.mem_of_getElem? (i := 398) (by decide +kernel)⟩
theorem lw_p12 : lw_okq (⟨"RangeDeeds", "addTransfer", "(IIIII)I"⟩, 6) := ⟨⟨by decide +kernel, by decide +kernel⟩, List.mem_of_getElem? (i := 14) (by decide +kernel), List.mem_of_getElem? (i := 409) (by decide +kernel), List.mem_of_getElem? (i := 410) (by decide +kernel)⟩
theorem lw_p13 : lw_okq (⟨"RangeDeeds", "dropTransfer", "()I"⟩, 6) := ⟨⟨by decide +kernel, by decide +kernel⟩, List.mem_of_getElem? (i := 14) (by decide +kernel), List.mem_of_getElem? (i := 422) (by decide +kernel), List.mem_of_getElem? (i := 423) (by decide +kernel)⟩
theorem lw_p14 : lw_okq (⟨"RangeDeeds", "closeDeal", "()I"⟩, 6) := ⟨⟨by decide +kernel, by decide +kernel⟩, List.mem_of_getElem? (i := 14) (by decide +kernel), List.mem_of_getElem? (i := 430) (by decide +kernel), List.mem_of_getElem? (i := 431) (by decide +kernel)⟩
theorem lw_p15 : lw_okq (⟨"RangeDeeds", "rehearse", "()I"⟩, 6) := ⟨⟨by decide +kernel, by decide +kernel⟩, List.mem_of_getElem? (i := 14) (by decide +kernel), List.mem_of_getElem? (i := 434) (by decide +kernel), List.mem_of_getElem? (i := 435) (by decide +kernel)⟩
def lw_privs_1 : List (MethodName × Nat) := [(⟨"RangeDeeds", "changeSetting", "(II)I"⟩, 6), (⟨"RangeDeeds$History", "dropOldest", "()V"⟩, 2), (⟨"RangeDeeds", "addOwner", "(I)I"⟩, 6), (⟨"RangeDeeds", "payIn", "(II)I"⟩, 6), (⟨"RangeDeeds", "givePiece", "(III)I"⟩, 6), (⟨"RangeDeeds$Street", "clear", "()V"⟩, 6), (⟨"RangeDeeds$Street", "append", "(III)V"⟩, 6), (⟨"RangeDeeds$Street", "overlap", "(III)I"⟩, 6), (⟨"RangeDeeds", "freePiece", "(II)I"⟩, 6), (⟨"RangeDeeds", "grabPiece", "(II)I"⟩, 6), (⟨"RangeDeeds$Street", "lengthOfGap", "(I)I"⟩, 6), (⟨"RangeDeeds", "handOver", "(II)I"⟩, 6), (⟨"RangeDeeds", "addTransfer", "(IIIII)I"⟩, 6), (⟨"RangeDeeds", "dropTransfer", "()I"⟩, 6), (⟨"RangeDeeds", "closeDeal", "()I"⟩, 6), (⟨"RangeDeeds", "rehearse", "()I"⟩, 6)]
theorem lw_r1 : ∀ q ∈ lw_privs_1, lw_okq q := List.forall_mem_cons.mpr ⟨lw_p0, List.forall_mem_cons.mpr ⟨lw_p1, List.forall_mem_cons.mpr ⟨lw_p2, List.forall_mem_cons.mpr ⟨lw_p3, List.forall_mem_cons.mpr ⟨lw_p4, List.forall_mem_cons.mpr ⟨lw_p5, List.forall_mem_cons.mpr ⟨lw_p6, List.forall_mem_cons.mpr ⟨lw_p7, List.forall_mem_cons.mpr ⟨lw_p8, List.forall_mem_cons.mpr ⟨lw_p9, List.forall_mem_cons.mpr ⟨lw_p10, List.forall_mem_cons.mpr ⟨lw_p11, List.forall_mem_cons.mpr ⟨lw_p12, List.forall_mem_cons.mpr ⟨lw_p13, List.forall_mem_cons.mpr ⟨lw_p14, List.forall_mem_cons.mpr ⟨lw_p15, fun _ h => absurd h List.not_mem_nil⟩⟩⟩⟩⟩⟩⟩⟩⟩⟩⟩⟩⟩⟩⟩⟩
theorem lw_p16 : lw_okq (⟨"RangeDeeds", "passDays", "(I)I"⟩, 6) := ⟨⟨by decide +kernel, by decide +kernel⟩, List.mem_of_getElem? (i := 14) (by decide +kernel), List.mem_of_getElem? (i := 469) (by decide +kernel), List.mem_of_getElem? (i := 470) (by decide +kernel)⟩
theorem lw_p17 : lw_okq (⟨"RangeDeeds$Register", "chargeTax", "(II)V"⟩, 10) := ⟨⟨by decide +kernel, by decide +kernel⟩, List.mem_of_getElem? (i := 22) (by decide +kernel), List.mem_of_getElem? (i := 481) (by decide +kernel), List.mem_of_getElem? (i := 482) (by decide +kernel)⟩
theorem lw_p18 : lw_okq (⟨"RangeDeeds$Register", "loseRanges", "(I)V"⟩, 10) := ⟨⟨by decide +kernel, by decide +kernel⟩, List.mem_of_getElem? (i := 22) (by decide +kernel), List.mem_of_getElem? (i := 486) (by decide +kernel), List.mem_of_getElem? (i := 487) (by decide +kernel)⟩
theorem lw_p19 : lw_okq (⟨"RangeDeeds$Street", "joinsOfExchange", "(II)I"⟩, 6) := ⟨⟨by decide +kernel, by decide +kernel⟩, List.mem_of_getElem? (i := 28) (by decide +kernel), List.mem_of_getElem? (i := 607) (by decide +kernel), List.mem_of_getElem? (i := 608) (by decide +kernel)⟩
theorem lw_p20 : lw_okq (⟨"RangeDeeds$Street", "joinAt", "(III)I"⟩, 6) := ⟨⟨by decide +kernel, by decide +kernel⟩, List.mem_of_getElem? (i := 28) (by decide +kernel), List.mem_of_getElem? (i := 611) (by decide +kernel), List.mem_of_getElem? (i := 612) (by decide +kernel)⟩
theorem lw_p21 : lw_okq (⟨"RangeDeeds$Street", "holderAfter", "(III)I"⟩, 6) := ⟨⟨by decide +kernel, by decide +kernel⟩, List.mem_of_getElem? (i := 28) (by decide +kernel), List.mem_of_getElem? (i := 615) (by decide +kernel), List.mem_of_getElem? (i := 616) (by decide +kernel)⟩
theorem lw_p22 : lw_okq (⟨"RangeDeeds$Pad", "sign", "()C"⟩, 7) := ⟨⟨by decide +kernel, by decide +kernel⟩, List.mem_of_getElem? (i := 161) (by decide +kernel), List.mem_of_getElem? (i := 657) (by decide +kernel), List.mem_of_getElem? (i := 658) (by decide +kernel)⟩
theorem lw_p23 : lw_okq (⟨"RangeDeeds$Pad", "readLetter", "()Z"⟩, 7) := ⟨⟨by decide +kernel, by decide +kernel⟩, List.mem_of_getElem? (i := 161) (by decide +kernel), List.mem_of_getElem? (i := 661) (by decide +kernel), List.mem_of_getElem? (i := 662) (by decide +kernel)⟩
theorem lw_p24 : lw_okq (⟨"RangeDeeds$Pad", "readNumber", "()Z"⟩, 7) := ⟨⟨by decide +kernel, by decide +kernel⟩, List.mem_of_getElem? (i := 161) (by decide +kernel), List.mem_of_getElem? (i := 665) (by decide +kernel), List.mem_of_getElem? (i := 666) (by decide +kernel)⟩
theorem lw_p25 : lw_okq (⟨"RangeDeeds$Pad", "isDigit", "()Z"⟩, 7) := ⟨⟨by decide +kernel, by decide +kernel⟩, List.mem_of_getElem? (i := 161) (by decide +kernel), List.mem_of_getElem? (i := 669) (by decide +kernel), List.mem_of_getElem? (i := 670) (by decide +kernel)⟩
theorem lw_p26 : lw_okq (⟨"RangeDeeds$Pad", "readSign", "(C)Z"⟩, 7) := ⟨⟨by decide +kernel, by decide +kernel⟩, List.mem_of_getElem? (i := 161) (by decide +kernel), List.mem_of_getElem? (i := 673) (by decide +kernel), List.mem_of_getElem? (i := 674) (by decide +kernel)⟩
theorem lw_p27 : lw_okq (⟨"RangeDeeds", "carryEntry", "()I"⟩, 6) := ⟨⟨by decide +kernel, by decide +kernel⟩, List.mem_of_getElem? (i := 14) (by decide +kernel), List.mem_of_getElem? (i := 682) (by decide +kernel), List.mem_of_getElem? (i := 683) (by decide +kernel)⟩
theorem lw_p28 : lw_okq (⟨"RangeDeeds", "copyBack", "(I)I"⟩, 6) := ⟨⟨by decide +kernel, by decide +kernel⟩, List.mem_of_getElem? (i := 14) (by decide +kernel), List.mem_of_getElem? (i := 705) (by decide +kernel), List.mem_of_getElem? (i := 706) (by decide +kernel)⟩
theorem lw_p29 : lw_okq (⟨"RangeDeedsModel", "record", "()V"⟩, 21) := ⟨⟨by decide +kernel, by decide +kernel⟩, List.mem_of_getElem? (i := 709) (by decide +kernel), List.mem_of_getElem? (i := 793) (by decide +kernel), List.mem_of_getElem? (i := 794) (by decide +kernel)⟩
theorem lw_p30 : lw_okq (⟨"RangeDeedsModel", "isOwner", "(I)Z"⟩, 21) := ⟨⟨by decide +kernel, by decide +kernel⟩, List.mem_of_getElem? (i := 709) (by decide +kernel), List.mem_of_getElem? (i := 806) (by decide +kernel), List.mem_of_getElem? (i := 807) (by decide +kernel)⟩
theorem lw_p31 : lw_okq (⟨"RangeDeedsModel", "layRow", "(III)V"⟩, 21) := ⟨⟨by decide +kernel, by decide +kernel⟩, List.mem_of_getElem? (i := 709) (by decide +kernel), List.mem_of_getElem? (i := 817) (by decide +kernel), List.mem_of_getElem? (i := 818) (by decide +kernel)⟩
def lw_privs_2 : List (MethodName × Nat) := [(⟨"RangeDeeds", "passDays", "(I)I"⟩, 6), (⟨"RangeDeeds$Register", "chargeTax", "(II)V"⟩, 10), (⟨"RangeDeeds$Register", "loseRanges", "(I)V"⟩, 10), (⟨"RangeDeeds$Street", "joinsOfExchange", "(II)I"⟩, 6), (⟨"RangeDeeds$Street", "joinAt", "(III)I"⟩, 6), (⟨"RangeDeeds$Street", "holderAfter", "(III)I"⟩, 6), (⟨"RangeDeeds$Pad", "sign", "()C"⟩, 7), (⟨"RangeDeeds$Pad", "readLetter", "()Z"⟩, 7), (⟨"RangeDeeds$Pad", "readNumber", "()Z"⟩, 7), (⟨"RangeDeeds$Pad", "isDigit", "()Z"⟩, 7), (⟨"RangeDeeds$Pad", "readSign", "(C)Z"⟩, 7), (⟨"RangeDeeds", "carryEntry", "()I"⟩, 6), (⟨"RangeDeeds", "copyBack", "(I)I"⟩, 6), (⟨"RangeDeedsModel", "record", "()V"⟩, 21), (⟨"RangeDeedsModel", "isOwner", "(I)Z"⟩, 21), (⟨"RangeDeedsModel", "layRow", "(III)V"⟩, 21)]
theorem lw_r2 : ∀ q ∈ lw_privs_2, lw_okq q := List.forall_mem_cons.mpr ⟨lw_p16, List.forall_mem_cons.mpr ⟨lw_p17, List.forall_mem_cons.mpr ⟨lw_p18, List.forall_mem_cons.mpr ⟨lw_p19, List.forall_mem_cons.mpr ⟨lw_p20, List.forall_mem_cons.mpr ⟨lw_p21, List.forall_mem_cons.mpr ⟨lw_p22, List.forall_mem_cons.mpr ⟨lw_p23, List.forall_mem_cons.mpr ⟨lw_p24, List.forall_mem_cons.mpr ⟨lw_p25, List.forall_mem_cons.mpr ⟨lw_p26, List.forall_mem_cons.mpr ⟨lw_p27, List.forall_mem_cons.mpr ⟨lw_p28, List.forall_mem_cons.mpr ⟨lw_p29, List.forall_mem_cons.mpr ⟨lw_p30, List.forall_mem_cons.mpr ⟨lw_p31, fun _ h => absurd h List.not_mem_nil⟩⟩⟩⟩⟩⟩⟩⟩⟩⟩⟩⟩⟩⟩⟩⟩
theorem lw_p32 : lw_okq (⟨"RangeDeedsModel", "first", "(I)I"⟩, 21) := ⟨⟨by decide +kernel, by decide +kernel⟩, List.mem_of_getElem? (i := 709) (by decide +kernel), List.mem_of_getElem? (i := 821) (by decide +kernel), List.mem_of_getElem? (i := 822) (by decide +kernel)⟩
theorem lw_p33 : lw_okq (⟨"RangeDeedsModel", "behind", "(I)I"⟩, 21) := ⟨⟨by decide +kernel, by decide +kernel⟩, List.mem_of_getElem? (i := 709) (by decide +kernel), List.mem_of_getElem? (i := 825) (by decide +kernel), List.mem_of_getElem? (i := 826) (by decide +kernel)⟩
theorem lw_p34 : lw_okq (⟨"RangeDeedsModel", "ownerOf", "(I)I"⟩, 21) := ⟨⟨by decide +kernel, by decide +kernel⟩, List.mem_of_getElem? (i := 709) (by decide +kernel), List.mem_of_getElem? (i := 829) (by decide +kernel), List.mem_of_getElem? (i := 830) (by decide +kernel)⟩
theorem lw_p35 : lw_okq (⟨"RangeDeedsModel", "lay", "(III)V"⟩, 21) := ⟨⟨by decide +kernel, by decide +kernel⟩, List.mem_of_getElem? (i := 709) (by decide +kernel), List.mem_of_getElem? (i := 833) (by decide +kernel), List.mem_of_getElem? (i := 834) (by decide +kernel)⟩
theorem lw_p36 : lw_okq (⟨"RangeDeedsModel", "rangesInRow", "()I"⟩, 21) := ⟨⟨by decide +kernel, by decide +kernel⟩, List.mem_of_getElem? (i := 709) (by decide +kernel), List.mem_of_getElem? (i := 837) (by decide +kernel), List.mem_of_getElem? (i := 838) (by decide +kernel)⟩
theorem lw_p37 : lw_okq (⟨"RangeDeedsModel", "metersIn", "(III)I"⟩, 21) := ⟨⟨by decide +kernel, by decide +kernel⟩, List.mem_of_getElem? (i := 709) (by decide +kernel), List.mem_of_getElem? (i := 841) (by decide +kernel), List.mem_of_getElem? (i := 842) (by decide +kernel)⟩
theorem lw_p38 : lw_okq (⟨"RangeDeedsModel", "mayGet", "(II)Z"⟩, 21) := ⟨⟨by decide +kernel, by decide +kernel⟩, List.mem_of_getElem? (i := 709) (by decide +kernel), List.mem_of_getElem? (i := 845) (by decide +kernel), List.mem_of_getElem? (i := 846) (by decide +kernel)⟩
theorem lw_p39 : lw_okq (⟨"RangeDeedsModel", "metersOf", "(I)I"⟩, 21) := ⟨⟨by decide +kernel, by decide +kernel⟩, List.mem_of_getElem? (i := 709) (by decide +kernel), List.mem_of_getElem? (i := 849) (by decide +kernel), List.mem_of_getElem? (i := 850) (by decide +kernel)⟩
theorem lw_p40 : lw_okq (⟨"RangeDeedsModel", "takeRow", "()V"⟩, 21) := ⟨⟨by decide +kernel, by decide +kernel⟩, List.mem_of_getElem? (i := 709) (by decide +kernel), List.mem_of_getElem? (i := 853) (by decide +kernel), List.mem_of_getElem? (i := 854) (by decide +kernel)⟩
theorem lw_p41 : lw_okq (⟨"RangeDeedsModel", "rangesNow", "()I"⟩, 21) := ⟨⟨by decide +kernel, by decide +kernel⟩, List.mem_of_getElem? (i := 709) (by decide +kernel), List.mem_of_getElem? (i := 857) (by decide +kernel), List.mem_of_getElem? (i := 858) (by decide +kernel)⟩
theorem lw_p42 : lw_okq (⟨"RangeDeedsModel", "holeFor", "(II)I"⟩, 21) := ⟨⟨by decide +kernel, by decide +kernel⟩, List.mem_of_getElem? (i := 709) (by decide +kernel), List.mem_of_getElem? (i := 869) (by decide +kernel), List.mem_of_getElem? (i := 870) (by decide +kernel)⟩
theorem lw_p43 : lw_okq (⟨"RangeDeedsModel", "length", "(I)I"⟩, 21) := ⟨⟨by decide +kernel, by decide +kernel⟩, List.mem_of_getElem? (i := 709) (by decide +kernel), List.mem_of_getElem? (i := 873) (by decide +kernel), List.mem_of_getElem? (i := 874) (by decide +kernel)⟩
theorem lw_p44 : lw_okq (⟨"RangeDeedsModel", "layAll", "(II)V"⟩, 21) := ⟨⟨by decide +kernel, by decide +kernel⟩, List.mem_of_getElem? (i := 709) (by decide +kernel), List.mem_of_getElem? (i := 881) (by decide +kernel), List.mem_of_getElem? (i := 882) (by decide +kernel)⟩
theorem lw_p45 : lw_okq (⟨"RangeDeedsModel", "keep", "()V"⟩, 21) := ⟨⟨by decide +kernel, by decide +kernel⟩, List.mem_of_getElem? (i := 709) (by decide +kernel), List.mem_of_getElem? (i := 897) (by decide +kernel), List.mem_of_getElem? (i := 898) (by decide +kernel)⟩
theorem lw_p46 : lw_okq (⟨"RangeDeedsModel", "doDeal", "()I"⟩, 21) := ⟨⟨by decide +kernel, by decide +kernel⟩, List.mem_of_getElem? (i := 709) (by decide +kernel), List.mem_of_getElem? (i := 901) (by decide +kernel), List.mem_of_getElem? (i := 902) (by decide +kernel)⟩
theorem lw_p47 : lw_okq (⟨"RangeDeedsModel", "goes", "(I)Z"⟩, 21) := ⟨⟨by decide +kernel, by decide +kernel⟩, List.mem_of_getElem? (i := 709) (by decide +kernel), List.mem_of_getElem? (i := 905) (by decide +kernel), List.mem_of_getElem? (i := 906) (by decide +kernel)⟩
def lw_privs_3 : List (MethodName × Nat) := [(⟨"RangeDeedsModel", "first", "(I)I"⟩, 21), (⟨"RangeDeedsModel", "behind", "(I)I"⟩, 21), (⟨"RangeDeedsModel", "ownerOf", "(I)I"⟩, 21), (⟨"RangeDeedsModel", "lay", "(III)V"⟩, 21), (⟨"RangeDeedsModel", "rangesInRow", "()I"⟩, 21), (⟨"RangeDeedsModel", "metersIn", "(III)I"⟩, 21), (⟨"RangeDeedsModel", "mayGet", "(II)Z"⟩, 21), (⟨"RangeDeedsModel", "metersOf", "(I)I"⟩, 21), (⟨"RangeDeedsModel", "takeRow", "()V"⟩, 21), (⟨"RangeDeedsModel", "rangesNow", "()I"⟩, 21), (⟨"RangeDeedsModel", "holeFor", "(II)I"⟩, 21), (⟨"RangeDeedsModel", "length", "(I)I"⟩, 21), (⟨"RangeDeedsModel", "layAll", "(II)V"⟩, 21), (⟨"RangeDeedsModel", "keep", "()V"⟩, 21), (⟨"RangeDeedsModel", "doDeal", "()I"⟩, 21), (⟨"RangeDeedsModel", "goes", "(I)Z"⟩, 21)]
theorem lw_r3 : ∀ q ∈ lw_privs_3, lw_okq q := List.forall_mem_cons.mpr ⟨lw_p32, List.forall_mem_cons.mpr ⟨lw_p33, List.forall_mem_cons.mpr ⟨lw_p34, List.forall_mem_cons.mpr ⟨lw_p35, List.forall_mem_cons.mpr ⟨lw_p36, List.forall_mem_cons.mpr ⟨lw_p37, List.forall_mem_cons.mpr ⟨lw_p38, List.forall_mem_cons.mpr ⟨lw_p39, List.forall_mem_cons.mpr ⟨lw_p40, List.forall_mem_cons.mpr ⟨lw_p41, List.forall_mem_cons.mpr ⟨lw_p42, List.forall_mem_cons.mpr ⟨lw_p43, List.forall_mem_cons.mpr ⟨lw_p44, List.forall_mem_cons.mpr ⟨lw_p45, List.forall_mem_cons.mpr ⟨lw_p46, List.forall_mem_cons.mpr ⟨lw_p47, fun _ h => absurd h List.not_mem_nil⟩⟩⟩⟩⟩⟩⟩⟩⟩⟩⟩⟩⟩⟩⟩⟩
theorem lw_p48 : lw_okq (⟨"RangeDeedsModel", "isLong", "(I)Z"⟩, 21) := ⟨⟨by decide +kernel, by decide +kernel⟩, List.mem_of_getElem? (i := 709) (by decide +kernel), List.mem_of_getElem? (i := 909) (by decide +kernel), List.mem_of_getElem? (i := 910) (by decide +kernel)⟩
theorem lw_p49 : lw_okq (⟨"RangeDeedsModel", "comeBack", "()V"⟩, 21) := ⟨⟨by decide +kernel, by decide +kernel⟩, List.mem_of_getElem? (i := 709) (by decide +kernel), List.mem_of_getElem? (i := 913) (by decide +kernel), List.mem_of_getElem? (i := 914) (by decide +kernel)⟩
theorem lw_p50 : lw_okq (⟨"RangeDeedsModel", "passDay", "()V"⟩, 21) := ⟨⟨by decide +kernel, by decide +kernel⟩, List.mem_of_getElem? (i := 709) (by decide +kernel), List.mem_of_getElem? (i := 926) (by decide +kernel), List.mem_of_getElem? (i := 927) (by decide +kernel)⟩
theorem lw_p51 : lw_okq (⟨"RangeDeedsModel", "taxOf", "(I)I"⟩, 21) := ⟨⟨by decide +kernel, by decide +kernel⟩, List.mem_of_getElem? (i := 709) (by decide +kernel), List.mem_of_getElem? (i := 930) (by decide +kernel), List.mem_of_getElem? (i := 931) (by decide +kernel)⟩
theorem lw_p52 : lw_okq (⟨"RangeDeedsModel", "manyOf", "(I)I"⟩, 21) := ⟨⟨by decide +kernel, by decide +kernel⟩, List.mem_of_getElem? (i := 709) (by decide +kernel), List.mem_of_getElem? (i := 934) (by decide +kernel), List.mem_of_getElem? (i := 935) (by decide +kernel)⟩
theorem lw_p53 : lw_okq (⟨"RangeDeedsModel", "lengthTax", "(I)I"⟩, 21) := ⟨⟨by decide +kernel, by decide +kernel⟩, List.mem_of_getElem? (i := 709) (by decide +kernel), List.mem_of_getElem? (i := 938) (by decide +kernel), List.mem_of_getElem? (i := 939) (by decide +kernel)⟩
theorem lw_p54 : lw_okq (⟨"RangeDeedsModel", "shortestOf", "(I)I"⟩, 21) := ⟨⟨by decide +kernel, by decide +kernel⟩, List.mem_of_getElem? (i := 709) (by decide +kernel), List.mem_of_getElem? (i := 942) (by decide +kernel), List.mem_of_getElem? (i := 943) (by decide +kernel)⟩
theorem lw_p55 : lw_okq (⟨"RangeDeedsModel", "pieceOf", "(I)I"⟩, 21) := ⟨⟨by decide +kernel, by decide +kernel⟩, List.mem_of_getElem? (i := 709) (by decide +kernel), List.mem_of_getElem? (i := 950) (by decide +kernel), List.mem_of_getElem? (i := 951) (by decide +kernel)⟩
theorem lw_p56 : lw_okq (⟨"RangeDeedsModel", "longestOf", "(I)I"⟩, 21) := ⟨⟨by decide +kernel, by decide +kernel⟩, List.mem_of_getElem? (i := 709) (by decide +kernel), List.mem_of_getElem? (i := 958) (by decide +kernel), List.mem_of_getElem? (i := 959) (by decide +kernel)⟩
theorem lw_p57 : lw_okq (⟨"RangeDeedsModel", "ownerOn", "(I)I"⟩, 21) := ⟨⟨by decide +kernel, by decide +kernel⟩, List.mem_of_getElem? (i := 709) (by decide +kernel), List.mem_of_getElem? (i := 971) (by decide +kernel), List.mem_of_getElem? (i := 972) (by decide +kernel)⟩
theorem lw_p58 : lw_okq (⟨"RangeDeedsModel", "taxes", "()I"⟩, 21) := ⟨⟨by decide +kernel, by decide +kernel⟩, List.mem_of_getElem? (i := 709) (by decide +kernel), List.mem_of_getElem? (i := 983) (by decide +kernel), List.mem_of_getElem? (i := 984) (by decide +kernel)⟩
theorem lw_p59 : lw_okq (⟨"RangeDeedsModel", "ownersIn", "(II)I"⟩, 21) := ⟨⟨by decide +kernel, by decide +kernel⟩, List.mem_of_getElem? (i := 709) (by decide +kernel), List.mem_of_getElem? (i := 1013) (by decide +kernel), List.mem_of_getElem? (i := 1014) (by decide +kernel)⟩
theorem lw_p60 : lw_okq (⟨"RangeDeedsModel", "rangesBy", "(II)I"⟩, 21) := ⟨⟨by decide +kernel, by decide +kernel⟩, List.mem_of_getElem? (i := 709) (by decide +kernel), List.mem_of_getElem? (i := 1025) (by decide +kernel), List.mem_of_getElem? (i := 1026) (by decide +kernel)⟩
theorem lw_p61 : lw_okq (⟨"RangeDeedsModel", "faultOf", "()I"⟩, 21) := ⟨⟨by decide +kernel, by decide +kernel⟩, List.mem_of_getElem? (i := 709) (by decide +kernel), List.mem_of_getElem? (i := 1046) (by decide +kernel), List.mem_of_getElem? (i := 1047) (by decide +kernel)⟩
theorem lw_p62 : lw_okq (⟨"RangeDeedsModel", "readOne", "()V"⟩, 21) := ⟨⟨by decide +kernel, by decide +kernel⟩, List.mem_of_getElem? (i := 709) (by decide +kernel), List.mem_of_getElem? (i := 1050) (by decide +kernel), List.mem_of_getElem? (i := 1051) (by decide +kernel)⟩
theorem lw_p63 : lw_okq (⟨"RangeDeedsModel", "sign", "()I"⟩, 21) := ⟨⟨by decide +kernel, by decide +kernel⟩, List.mem_of_getElem? (i := 709) (by decide +kernel), List.mem_of_getElem? (i := 1054) (by decide +kernel), List.mem_of_getElem? (i := 1055) (by decide +kernel)⟩
def lw_privs_4 : List (MethodName × Nat) := [(⟨"RangeDeedsModel", "isLong", "(I)Z"⟩, 21), (⟨"RangeDeedsModel", "comeBack", "()V"⟩, 21), (⟨"RangeDeedsModel", "passDay", "()V"⟩, 21), (⟨"RangeDeedsModel", "taxOf", "(I)I"⟩, 21), (⟨"RangeDeedsModel", "manyOf", "(I)I"⟩, 21), (⟨"RangeDeedsModel", "lengthTax", "(I)I"⟩, 21), (⟨"RangeDeedsModel", "shortestOf", "(I)I"⟩, 21), (⟨"RangeDeedsModel", "pieceOf", "(I)I"⟩, 21), (⟨"RangeDeedsModel", "longestOf", "(I)I"⟩, 21), (⟨"RangeDeedsModel", "ownerOn", "(I)I"⟩, 21), (⟨"RangeDeedsModel", "taxes", "()I"⟩, 21), (⟨"RangeDeedsModel", "ownersIn", "(II)I"⟩, 21), (⟨"RangeDeedsModel", "rangesBy", "(II)I"⟩, 21), (⟨"RangeDeedsModel", "faultOf", "()I"⟩, 21), (⟨"RangeDeedsModel", "readOne", "()V"⟩, 21), (⟨"RangeDeedsModel", "sign", "()I"⟩, 21)]
theorem lw_r4 : ∀ q ∈ lw_privs_4, lw_okq q := List.forall_mem_cons.mpr ⟨lw_p48, List.forall_mem_cons.mpr ⟨lw_p49, List.forall_mem_cons.mpr ⟨lw_p50, List.forall_mem_cons.mpr ⟨lw_p51, List.forall_mem_cons.mpr ⟨lw_p52, List.forall_mem_cons.mpr ⟨lw_p53, List.forall_mem_cons.mpr ⟨lw_p54, List.forall_mem_cons.mpr ⟨lw_p55, List.forall_mem_cons.mpr ⟨lw_p56, List.forall_mem_cons.mpr ⟨lw_p57, List.forall_mem_cons.mpr ⟨lw_p58, List.forall_mem_cons.mpr ⟨lw_p59, List.forall_mem_cons.mpr ⟨lw_p60, List.forall_mem_cons.mpr ⟨lw_p61, List.forall_mem_cons.mpr ⟨lw_p62, List.forall_mem_cons.mpr ⟨lw_p63, fun _ h => absurd h List.not_mem_nil⟩⟩⟩⟩⟩⟩⟩⟩⟩⟩⟩⟩⟩⟩⟩⟩
theorem lw_p64 : lw_okq (⟨"RangeDeedsModel", "one", "(II)I"⟩, 21) := ⟨⟨by decide +kernel, by decide +kernel⟩, List.mem_of_getElem? (i := 709) (by decide +kernel), List.mem_of_getElem? (i := 1058) (by decide +kernel), List.mem_of_getElem? (i := 1059) (by decide +kernel)⟩
theorem lw_p65 : lw_okq (⟨"RangeDeedsModel", "number", "()I"⟩, 21) := ⟨⟨by decide +kernel, by decide +kernel⟩, List.mem_of_getElem? (i := 709) (by decide +kernel), List.mem_of_getElem? (i := 1062) (by decide +kernel), List.mem_of_getElem? (i := 1063) (by decide +kernel)⟩
theorem lw_p66 : lw_okq (⟨"RangeDeedsModel", "carry", "(I)I"⟩, 21) := ⟨⟨by decide +kernel, by decide +kernel⟩, List.mem_of_getElem? (i := 709) (by decide +kernel), List.mem_of_getElem? (i := 1070) (by decide +kernel), List.mem_of_getElem? (i := 1071) (by decide +kernel)⟩
def lw_privs_5 : List (MethodName × Nat) := [(⟨"RangeDeedsModel", "one", "(II)I"⟩, 21), (⟨"RangeDeedsModel", "number", "()I"⟩, 21), (⟨"RangeDeedsModel", "carry", "(I)I"⟩, 21)]
theorem lw_r5 : ∀ q ∈ lw_privs_5, lw_okq q := List.forall_mem_cons.mpr ⟨lw_p64, List.forall_mem_cons.mpr ⟨lw_p65, List.forall_mem_cons.mpr ⟨lw_p66, fun _ h => absurd h List.not_mem_nil⟩⟩⟩
def lw_privs : List (MethodName × Nat) := lw_privs_1 ++ (lw_privs_2 ++ (lw_privs_3 ++ (lw_privs_4 ++ (lw_privs_5))))
def lw_tbl : List Cond := k2_sels lw_privs ++ tables_1
theorem lw_privs_ok : ∀ q ∈ lw_privs, lw_okq q := by
  show ∀ q ∈ lw_privs_1 ++ (lw_privs_2 ++ (lw_privs_3 ++ (lw_privs_4 ++ (lw_privs_5)))), lw_okq q
  exact List.forall_mem_append.mpr ⟨lw_r1, List.forall_mem_append.mpr ⟨lw_r2, List.forall_mem_append.mpr ⟨lw_r3, List.forall_mem_append.mpr ⟨lw_r4, lw_r5⟩⟩⟩⟩
/-- the streams that the claim lets the run draw from -/
abbrev lw_cs : List Choice := [Jvm.Choice.named "NaN.bits"]
theorem lw_bits : nanBits ∈ lw_cs := by first | decide | exact List.mem_cons_self | simp [lw_cs, nanBits]
end
section
def RX0 : String := "RangeDeeds$Deal"
def TX0 : u_T := fun k => match k with
  | 0 => ("RangeDeeds$Deal", "numbers", "LRangeDeeds$Row;", true)
  | _ => ("RangeDeeds$Deal", "size", "I", false)
def tyX0 : Nat → FieldType := fun k => match k with
  | 0 => .object "RangeDeeds$Row"
  | _ => .int
abbrev wsX00 : List Cond := u_ws RX0 TX0 2
theorem nmX0 : ∀ a, a < 2 → ∀ b, b < 2 → a ≠ b → (TX0 a).2.1 ≠ (TX0 b).2.1 := by decide +kernel
theorem tyX0_ok : ∀ k, k < 2 → parseFieldDescriptor (TX0 k).2.2.1 = some (tyX0 k) := by decide +kernel
abbrev cX0_init : ByteArray := prog_2_method_1_code
def yX0_init : MethodName := ⟨RX0, "<init>", "()V"⟩
abbrev cX0_copy : ByteArray := prog_2_method_2_code
def yX0_copy : MethodName := ⟨RX0, "copy", "(LRangeDeeds$Deal;)V"⟩
abbrev cX0_hasTransfer : ByteArray := prog_2_method_3_code
def yX0_hasTransfer : MethodName := ⟨RX0, "hasTransfer", "(I)Z"⟩
abbrev cX0_about : ByteArray := prog_2_method_4_code
def yX0_about : MethodName := ⟨RX0, "about", "(II)I"⟩
abbrev cX0_append : ByteArray := prog_2_method_5_code
def yX0_append : MethodName := ⟨RX0, "append", "(IIIII)V"⟩
def RX1 : String := "RangeDeeds$History"
def TX1 : u_T := fun k => match k with
  | 0 => ("RangeDeeds$History", "states", "[LRangeDeeds$Register;", true)
  | _ => ("RangeDeeds$History", "size", "I", false)
def tyX1 : Nat → FieldType := fun k => match k with
  | 0 => .array (.object "RangeDeeds$Register")
  | _ => .int
abbrev wsX10 : List Cond := u_ws RX1 TX1 2
theorem nmX1 : ∀ a, a < 2 → ∀ b, b < 2 → a ≠ b → (TX1 a).2.1 ≠ (TX1 b).2.1 := by decide +kernel
theorem tyX1_ok : ∀ k, k < 2 → parseFieldDescriptor (TX1 k).2.2.1 = some (tyX1 k) := by decide +kernel
abbrev cX1_init : ByteArray := prog_3_method_1_code
def yX1_init : MethodName := ⟨RX1, "<init>", "()V"⟩
abbrev cX1_prepare : ByteArray := prog_3_method_2_code
def yX1_prepare : MethodName := ⟨RX1, "prepare", "(LRangeDeeds$Register;)V"⟩
abbrev cX1_finish : ByteArray := prog_3_method_3_code
def yX1_finish : MethodName := ⟨RX1, "finish", "(I)I"⟩
abbrev cX1_dropOldest : ByteArray := prog_3_method_4_code
def yX1_dropOldest : MethodName := ⟨RX1, "dropOldest", "()V"⟩
abbrev cX1_takeBack : ByteArray := prog_3_method_5_code
def yX1_takeBack : MethodName := ⟨RX1, "takeBack", "(LRangeDeeds$Register;)Z"⟩
def RX2 : String := "RangeDeeds$Pad"
def TX2 : u_T := fun k => match k with
  | 0 => ("RangeDeeds$Pad", "signs", "[C", true)
  | 1 => ("RangeDeeds$Pad", "size", "I", false)
  | 2 => ("RangeDeeds$Pad", "place", "I", false)
  | 3 => ("RangeDeeds$Pad", "kind", "I", false)
  | 4 => ("RangeDeeds$Pad", "letter", "I", false)
  | 5 => ("RangeDeeds$Pad", "number", "I", false)
  | _ => ("RangeDeeds$Pad", "secondNumber", "I", false)
def tyX2 : Nat → FieldType := fun k => match k with
  | 0 => .array .char
  | 1 => .int
  | 2 => .int
  | 3 => .int
  | 4 => .int
  | 5 => .int
  | _ => .int
abbrev wsX20 : List Cond := u_ws RX2 TX2 7
theorem nmX2 : ∀ a, a < 7 → ∀ b, b < 7 → a ≠ b → (TX2 a).2.1 ≠ (TX2 b).2.1 := by decide +kernel
theorem tyX2_ok : ∀ k, k < 7 → parseFieldDescriptor (TX2 k).2.2.1 = some (tyX2 k) := by decide +kernel
abbrev cX2_init : ByteArray := prog_4_method_1_code
def yX2_init : MethodName := ⟨RX2, "<init>", "()V"⟩
abbrev cX2_signsIn : ByteArray := prog_4_method_2_code
def yX2_signsIn : MethodName := ⟨RX2, "signsIn", "(J)I"⟩
abbrev cX2_append : ByteArray := prog_4_method_3_code
def yX2_append : MethodName := ⟨RX2, "append", "(JI)Z"⟩
abbrev cX2_sign : ByteArray := prog_4_method_4_code
def yX2_sign : MethodName := ⟨RX2, "sign", "()C"⟩
abbrev cX2_findFault : ByteArray := prog_4_method_5_code
def yX2_findFault : MethodName := ⟨RX2, "findFault", "()I"⟩
abbrev cX2_readEntry : ByteArray := prog_4_method_6_code
def yX2_readEntry : MethodName := ⟨RX2, "readEntry", "()Z"⟩
abbrev cX2_readSign : ByteArray := prog_4_method_7_code
def yX2_readSign : MethodName := ⟨RX2, "readSign", "(C)Z"⟩
abbrev cX2_readLetter : ByteArray := prog_4_method_8_code
def yX2_readLetter : MethodName := ⟨RX2, "readLetter", "()Z"⟩
abbrev cX2_isDigit : ByteArray := prog_4_method_9_code
def yX2_isDigit : MethodName := ⟨RX2, "isDigit", "()Z"⟩
abbrev cX2_readNumber : ByteArray := prog_4_method_10_code
def yX2_readNumber : MethodName := ⟨RX2, "readNumber", "()Z"⟩
def RX3 : String := "RangeDeeds$Register"
def TX3 : u_T := fun k => match k with
  | 0 => ("RangeDeeds$Register", "street", "LRangeDeeds$Street;", true)
  | 1 => ("RangeDeeds$Register", "deal", "LRangeDeeds$Deal;", true)
  | 2 => ("RangeDeeds$Register", "settings", "LRangeDeeds$Row;", true)
  | 3 => ("RangeDeeds$Register", "purses", "[J", true)
  | 4 => ("RangeDeeds$Register", "taxes", "LRangeDeeds$Row;", true)
  | 5 => ("RangeDeeds$Register", "losses", "LRangeDeeds$Row;", true)
  | 6 => ("RangeDeeds$Register", "owners", "I", false)
  | 7 => ("RangeDeeds$Register", "day", "I", false)
  | 8 => ("RangeDeeds$Register", "dealsClosed", "I", false)
  | _ => ("RangeDeeds$Register", "feesPaid", "I", false)
def tyX3 : Nat → FieldType := fun k => match k with
  | 0 => .object "RangeDeeds$Street"
  | 1 => .object "RangeDeeds$Deal"
  | 2 => .object "RangeDeeds$Row"
  | 3 => .array .long
  | 4 => .object "RangeDeeds$Row"
  | 5 => .object "RangeDeeds$Row"
  | 6 => .int
  | 7 => .int
  | 8 => .int
  | _ => .int
abbrev wsX30 : List Cond := u_ws RX3 TX3 10
theorem nmX3 : ∀ a, a < 10 → ∀ b, b < 10 → a ≠ b → (TX3 a).2.1 ≠ (TX3 b).2.1 := by decide +kernel
theorem tyX3_ok : ∀ k, k < 10 → parseFieldDescriptor (TX3 k).2.2.1 = some (tyX3 k) := by decide +kernel
abbrev cX3_init : ByteArray := prog_5_method_1_code
def yX3_init : MethodName := ⟨RX3, "<init>", "()V"⟩
abbrev cX3_copy : ByteArray := prog_5_method_2_code
def yX3_copy : MethodName := ⟨RX3, "copy", "(LRangeDeeds$Register;)V"⟩
abbrev cX3_hasOwner : ByteArray := prog_5_method_3_code
def yX3_hasOwner : MethodName := ⟨RX3, "hasOwner", "(I)Z"⟩
abbrev cX3_purseOf : ByteArray := prog_5_method_4_code
def yX3_purseOf : MethodName := ⟨RX3, "purseOf", "(I)J"⟩
abbrev cX3_earn : ByteArray := prog_5_method_5_code
def yX3_earn : MethodName := ⟨RX3, "earn", "(IJ)V"⟩
abbrev cX3_mayGet : ByteArray := prog_5_method_6_code
def yX3_mayGet : MethodName := ⟨RX3, "mayGet", "(II)Z"⟩
abbrev cX3_taxOf : ByteArray := prog_5_method_7_code
def yX3_taxOf : MethodName := ⟨RX3, "taxOf", "(I)I"⟩
abbrev cX3_passDay : ByteArray := prog_5_method_8_code
def yX3_passDay : MethodName := ⟨RX3, "passDay", "()V"⟩
abbrev cX3_chargeTax : ByteArray := prog_5_method_9_code
def yX3_chargeTax : MethodName := ⟨RX3, "chargeTax", "(II)V"⟩
abbrev cX3_loseRanges : ByteArray := prog_5_method_10_code
def yX3_loseRanges : MethodName := ⟨RX3, "loseRanges", "(I)V"⟩
abbrev cX3_daysToLoss : ByteArray := prog_5_method_11_code
def yX3_daysToLoss : MethodName := ⟨RX3, "daysToLoss", "(I)I"⟩
abbrev cX3_carryTransfer : ByteArray := prog_5_method_12_code
def yX3_carryTransfer : MethodName := ⟨RX3, "carryTransfer", "(ILRangeDeeds$Street;)Z"⟩
def RX4 : String := "RangeDeeds$Row"
def TX4 : u_T := fun k => match k with
  | _ => ("RangeDeeds$Row", "cells", "[I", true)
def tyX4 : Nat → FieldType := fun k => match k with
  | _ => .array .int
abbrev wsX40 : List Cond := u_ws RX4 TX4 1
theorem nmX4 : ∀ a, a < 1 → ∀ b, b < 1 → a ≠ b → (TX4 a).2.1 ≠ (TX4 b).2.1 := by decide +kernel
theorem tyX4_ok : ∀ k, k < 1 → parseFieldDescriptor (TX4 k).2.2.1 = some (tyX4 k) := by decide +kernel
abbrev cX4_init : ByteArray := prog_6_method_1_code
def yX4_init : MethodName := ⟨RX4, "<init>", "(I)V"⟩
abbrev cX4_at : ByteArray := prog_6_method_2_code
def yX4_at : MethodName := ⟨RX4, "at", "(I)I"⟩
abbrev cX4_store : ByteArray := prog_6_method_3_code
def yX4_store : MethodName := ⟨RX4, "store", "(II)V"⟩
abbrev cX4_add : ByteArray := prog_6_method_4_code
def yX4_add : MethodName := ⟨RX4, "add", "(II)V"⟩
abbrev cX4_clear : ByteArray := prog_6_method_5_code
def yX4_clear : MethodName := ⟨RX4, "clear", "()V"⟩
abbrev cX4_sum : ByteArray := prog_6_method_6_code
def yX4_sum : MethodName := ⟨RX4, "sum", "()I"⟩
abbrev cX4_copy : ByteArray := prog_6_method_7_code
def yX4_copy : MethodName := ⟨RX4, "copy", "(LRangeDeeds$Row;)V"⟩
def RX5 : String := "RangeDeeds$Street"
def TX5 : u_T := fun k => match k with
  | 0 => ("RangeDeeds$Street", "holders", "LRangeDeeds$Row;", true)
  | 1 => ("RangeDeeds$Street", "starts", "LRangeDeeds$Row;", true)
  | 2 => ("RangeDeeds$Street", "lengths", "LRangeDeeds$Row;", true)
  | 3 => ("RangeDeeds$Street", "rangesHeld", "LRangeDeeds$Row;", true)
  | 4 => ("RangeDeeds$Street", "metersHeld", "LRangeDeeds$Row;", true)
  | _ => ("RangeDeeds$Street", "size", "I", false)
def tyX5 : Nat → FieldType := fun k => match k with
  | 0 => .object "RangeDeeds$Row"
  | 1 => .object "RangeDeeds$Row"
  | 2 => .object "RangeDeeds$Row"
  | 3 => .object "RangeDeeds$Row"
  | 4 => .object "RangeDeeds$Row"
  | _ => .int
abbrev wsX50 : List Cond := u_ws RX5 TX5 6
theorem nmX5 : ∀ a, a < 6 → ∀ b, b < 6 → a ≠ b → (TX5 a).2.1 ≠ (TX5 b).2.1 := by decide +kernel
theorem tyX5_ok : ∀ k, k < 6 → parseFieldDescriptor (TX5 k).2.2.1 = some (tyX5 k) := by decide +kernel
abbrev cX5_init : ByteArray := prog_7_method_1_code
def yX5_init : MethodName := ⟨RX5, "<init>", "()V"⟩
abbrev cX5_copy : ByteArray := prog_7_method_2_code
def yX5_copy : MethodName := ⟨RX5, "copy", "(LRangeDeeds$Street;)V"⟩
abbrev cX5_clear : ByteArray := prog_7_method_3_code
def yX5_clear : MethodName := ⟨RX5, "clear", "()V"⟩
abbrev cX5_hasRange : ByteArray := prog_7_method_4_code
def yX5_hasRange : MethodName := ⟨RX5, "hasRange", "(I)Z"⟩
abbrev cX5_endOf : ByteArray := prog_7_method_5_code
def yX5_endOf : MethodName := ⟨RX5, "endOf", "(I)I"⟩
abbrev cX5_metersOfAll : ByteArray := prog_7_method_6_code
def yX5_metersOfAll : MethodName := ⟨RX5, "metersOfAll", "()I"⟩
abbrev cX5_append : ByteArray := prog_7_method_7_code
def yX5_append : MethodName := ⟨RX5, "append", "(III)V"⟩
abbrev cX5_become : ByteArray := prog_7_method_8_code
def yX5_become : MethodName := ⟨RX5, "become", "(LRangeDeeds$Street;III)V"⟩
abbrev cX5_becomeInherited : ByteArray := prog_7_method_9_code
def yX5_becomeInherited : MethodName := ⟨RX5, "becomeInherited", "(LRangeDeeds$Street;II)V"⟩
abbrev cX5_remove : ByteArray := prog_7_method_10_code
def yX5_remove : MethodName := ⟨RX5, "remove", "(I)V"⟩
abbrev cX5_holderAt : ByteArray := prog_7_method_11_code
def yX5_holderAt : MethodName := ⟨RX5, "holderAt", "(I)I"⟩
abbrev cX5_longestOf : ByteArray := prog_7_method_12_code
def yX5_longestOf : MethodName := ⟨RX5, "longestOf", "(I)I"⟩
abbrev cX5_shortestOf : ByteArray := prog_7_method_13_code
def yX5_shortestOf : MethodName := ⟨RX5, "shortestOf", "(I)I"⟩
abbrev cX5_hasShorter : ByteArray := prog_7_method_14_code
def yX5_hasShorter : MethodName := ⟨RX5, "hasShorter", "(II)Z"⟩
abbrev cX5_overlap : ByteArray := prog_7_method_15_code
def yX5_overlap : MethodName := ⟨RX5, "overlap", "(III)I"⟩
abbrev cX5_metersWithin : ByteArray := prog_7_method_16_code
def yX5_metersWithin : MethodName := ⟨RX5, "metersWithin", "(III)I"⟩
abbrev cX5_holdersWithin : ByteArray := prog_7_method_17_code
def yX5_holdersWithin : MethodName := ⟨RX5, "holdersWithin", "(II)I"⟩
abbrev cX5_quietestStart : ByteArray := prog_7_method_18_code
def yX5_quietestStart : MethodName := ⟨RX5, "quietestStart", "(I)I"⟩
abbrev cX5_metersBetween : ByteArray := prog_7_method_19_code
def yX5_metersBetween : MethodName := ⟨RX5, "metersBetween", "(I)I"⟩
abbrev cX5_startOfGap : ByteArray := prog_7_method_20_code
def yX5_startOfGap : MethodName := ⟨RX5, "startOfGap", "(I)I"⟩
abbrev cX5_lengthOfGap : ByteArray := prog_7_method_21_code
def yX5_lengthOfGap : MethodName := ⟨RX5, "lengthOfGap", "(I)I"⟩
abbrev cX5_holes : ByteArray := prog_7_method_22_code
def yX5_holes : MethodName := ⟨RX5, "holes", "()I"⟩
abbrev cX5_longestHole : ByteArray := prog_7_method_23_code
def yX5_longestHole : MethodName := ⟨RX5, "longestHole", "()I"⟩
abbrev cX5_gapFor : ByteArray := prog_7_method_24_code
def yX5_gapFor : MethodName := ⟨RX5, "gapFor", "(II)I"⟩
abbrev cX5_isBetter : ByteArray := prog_7_method_25_code
def yX5_isBetter : MethodName := ⟨RX5, "isBetter", "(III)Z"⟩
abbrev cX5_bestExchange : ByteArray := prog_7_method_26_code
def yX5_bestExchange : MethodName := ⟨RX5, "bestExchange", "(I)I"⟩
abbrev cX5_joinsOfExchange : ByteArray := prog_7_method_27_code
def yX5_joinsOfExchange : MethodName := ⟨RX5, "joinsOfExchange", "(II)I"⟩
abbrev cX5_joinAt : ByteArray := prog_7_method_28_code
def yX5_joinAt : MethodName := ⟨RX5, "joinAt", "(III)I"⟩
abbrev cX5_holderAfter : ByteArray := prog_7_method_29_code
def yX5_holderAfter : MethodName := ⟨RX5, "holderAfter", "(III)I"⟩
def RX6 : String := "RangeDeeds"
def TX6 : u_T := fun k => match k with
  | 0 => ("RangeDeeds", "register", "LRangeDeeds$Register;", true)
  | 1 => ("RangeDeeds", "rehearsal", "LRangeDeeds$Register;", true)
  | 2 => ("RangeDeeds", "trial", "LRangeDeeds$Street;", true)
  | 3 => ("RangeDeeds", "history", "LRangeDeeds$History;", true)
  | 4 => ("RangeDeeds", "slots", "[LRangeDeeds$Register;", true)
  | _ => ("RangeDeeds", "pad", "LRangeDeeds$Pad;", true)
def tyX6 : Nat → FieldType := fun k => match k with
  | 0 => .object "RangeDeeds$Register"
  | 1 => .object "RangeDeeds$Register"
  | 2 => .object "RangeDeeds$Street"
  | 3 => .object "RangeDeeds$History"
  | 4 => .array (.object "RangeDeeds$Register")
  | _ => .object "RangeDeeds$Pad"
abbrev wsX60 : List Cond := u_ws RX6 TX6 6
theorem nmX6 : ∀ a, a < 6 → ∀ b, b < 6 → a ≠ b → (TX6 a).2.1 ≠ (TX6 b).2.1 := by decide +kernel
theorem tyX6_ok : ∀ k, k < 6 → parseFieldDescriptor (TX6 k).2.2.1 = some (tyX6 k) := by decide +kernel
abbrev cX6_init : ByteArray := prog_1_method_1_code
def yX6_init : MethodName := ⟨RX6, "<init>", "()V"⟩
abbrev cX6_set : ByteArray := prog_1_method_2_code
def yX6_set : MethodName := ⟨RX6, "set", "(II)I"⟩
abbrev cX6_owner : ByteArray := prog_1_method_3_code
def yX6_owner : MethodName := ⟨RX6, "owner", "(I)I"⟩
abbrev cX6_pay : ByteArray := prog_1_method_4_code
def yX6_pay : MethodName := ⟨RX6, "pay", "(II)I"⟩
abbrev cX6_give : ByteArray := prog_1_method_5_code
def yX6_give : MethodName := ⟨RX6, "give", "(III)I"⟩
abbrev cX6_free : ByteArray := prog_1_method_6_code
def yX6_free : MethodName := ⟨RX6, "free", "(II)I"⟩
abbrev cX6_grab : ByteArray := prog_1_method_7_code
def yX6_grab : MethodName := ⟨RX6, "grab", "(II)I"⟩
abbrev cX6_inherit : ByteArray := prog_1_method_8_code
def yX6_inherit : MethodName := ⟨RX6, "inherit", "(II)I"⟩
abbrev cX6_transfer : ByteArray := prog_1_method_9_code
def yX6_transfer : MethodName := ⟨RX6, "transfer", "(IIIII)I"⟩
abbrev cX6_drop : ByteArray := prog_1_method_10_code
def yX6_drop : MethodName := ⟨RX6, "drop", "()I"⟩
abbrev cX6_close : ByteArray := prog_1_method_11_code
def yX6_close : MethodName := ⟨RX6, "close", "()I"⟩
abbrev cX6_failing : ByteArray := prog_1_method_12_code
def yX6_failing : MethodName := ⟨RX6, "failing", "()I"⟩
abbrev cX6_days : ByteArray := prog_1_method_13_code
def yX6_days : MethodName := ⟨RX6, "days", "(I)I"⟩
abbrev cX6_ofRange : ByteArray := prog_1_method_14_code
def yX6_ofRange : MethodName := ⟨RX6, "ofRange", "(II)I"⟩
abbrev cX6_ofOwner : ByteArray := prog_1_method_15_code
def yX6_ofOwner : MethodName := ⟨RX6, "ofOwner", "(II)I"⟩
abbrev cX6_money : ByteArray := prog_1_method_16_code
def yX6_money : MethodName := ⟨RX6, "money", "(I)J"⟩
abbrev cX6_ownerAt : ByteArray := prog_1_method_17_code
def yX6_ownerAt : MethodName := ⟨RX6, "ownerAt", "(I)I"⟩
abbrev cX6_ofTransfer : ByteArray := prog_1_method_18_code
def yX6_ofTransfer : MethodName := ⟨RX6, "ofTransfer", "(II)I"⟩
abbrev cX6_count : ByteArray := prog_1_method_19_code
def yX6_count : MethodName := ⟨RX6, "count", "(I)I"⟩
abbrev cX6_shareBits : ByteArray := prog_1_method_20_code
def yX6_shareBits : MethodName := ⟨RX6, "shareBits", "(I)I"⟩
abbrev cX6_hole : ByteArray := prog_1_method_21_code
def yX6_hole : MethodName := ⟨RX6, "hole", "(II)I"⟩
abbrev cX6_wouldBe : ByteArray := prog_1_method_22_code
def yX6_wouldBe : MethodName := ⟨RX6, "wouldBe", "(III)I"⟩
abbrev cX6_quietest : ByteArray := prog_1_method_23_code
def yX6_quietest : MethodName := ⟨RX6, "quietest", "(II)I"⟩
abbrev cX6_gaps : ByteArray := prog_1_method_24_code
def yX6_gaps : MethodName := ⟨RX6, "gaps", "(I)I"⟩
abbrev cX6_exchange : ByteArray := prog_1_method_25_code
def yX6_exchange : MethodName := ⟨RX6, "exchange", "(I)I"⟩
abbrev cX6_losesIn : ByteArray := prog_1_method_26_code
def yX6_losesIn : MethodName := ⟨RX6, "losesIn", "(I)I"⟩
abbrev cX6_put : ByteArray := prog_1_method_27_code
def yX6_put : MethodName := ⟨RX6, "put", "(J)I"⟩
abbrev cX6_wipe : ByteArray := prog_1_method_28_code
def yX6_wipe : MethodName := ⟨RX6, "wipe", "()I"⟩
abbrev cX6_fault : ByteArray := prog_1_method_29_code
def yX6_fault : MethodName := ⟨RX6, "fault", "()I"⟩
abbrev cX6_carryOut : ByteArray := prog_1_method_30_code
def yX6_carryOut : MethodName := ⟨RX6, "carryOut", "()I"⟩
abbrev cX6_undo : ByteArray := prog_1_method_31_code
def yX6_undo : MethodName := ⟨RX6, "undo", "()I"⟩
abbrev cX6_save : ByteArray := prog_1_method_32_code
def yX6_save : MethodName := ⟨RX6, "save", "(I)I"⟩
abbrev cX6_restore : ByteArray := prog_1_method_33_code
def yX6_restore : MethodName := ⟨RX6, "restore", "(I)I"⟩
abbrev cX6_isSetting : ByteArray := prog_1_method_34_code
def yX6_isSetting : MethodName := ⟨RX6, "isSetting", "(I)Z"⟩
abbrev cX6_isSlot : ByteArray := prog_1_method_35_code
def yX6_isSlot : MethodName := ⟨RX6, "isSlot", "(I)Z"⟩
abbrev cX6_isAmount : ByteArray := prog_1_method_36_code
def yX6_isAmount : MethodName := ⟨RX6, "isAmount", "(I)Z"⟩
abbrev cX6_isLength : ByteArray := prog_1_method_37_code
def yX6_isLength : MethodName := ⟨RX6, "isLength", "(I)Z"⟩
abbrev cX6_isPiece : ByteArray := prog_1_method_38_code
def yX6_isPiece : MethodName := ⟨RX6, "isPiece", "(II)Z"⟩
abbrev cX6_changeSetting : ByteArray := prog_1_method_39_code
def yX6_changeSetting : MethodName := ⟨RX6, "changeSetting", "(II)I"⟩
abbrev cX6_addOwner : ByteArray := prog_1_method_40_code
def yX6_addOwner : MethodName := ⟨RX6, "addOwner", "(I)I"⟩
abbrev cX6_payIn : ByteArray := prog_1_method_41_code
def yX6_payIn : MethodName := ⟨RX6, "payIn", "(II)I"⟩
abbrev cX6_givePiece : ByteArray := prog_1_method_42_code
def yX6_givePiece : MethodName := ⟨RX6, "givePiece", "(III)I"⟩
abbrev cX6_freePiece : ByteArray := prog_1_method_43_code
def yX6_freePiece : MethodName := ⟨RX6, "freePiece", "(II)I"⟩
abbrev cX6_grabPiece : ByteArray := prog_1_method_44_code
def yX6_grabPiece : MethodName := ⟨RX6, "grabPiece", "(II)I"⟩
abbrev cX6_handOver : ByteArray := prog_1_method_45_code
def yX6_handOver : MethodName := ⟨RX6, "handOver", "(II)I"⟩
abbrev cX6_addTransfer : ByteArray := prog_1_method_46_code
def yX6_addTransfer : MethodName := ⟨RX6, "addTransfer", "(IIIII)I"⟩
abbrev cX6_dropTransfer : ByteArray := prog_1_method_47_code
def yX6_dropTransfer : MethodName := ⟨RX6, "dropTransfer", "()I"⟩
abbrev cX6_closeDeal : ByteArray := prog_1_method_48_code
def yX6_closeDeal : MethodName := ⟨RX6, "closeDeal", "()I"⟩
abbrev cX6_rehearse : ByteArray := prog_1_method_49_code
def yX6_rehearse : MethodName := ⟨RX6, "rehearse", "()I"⟩
abbrev cX6_passDays : ByteArray := prog_1_method_50_code
def yX6_passDays : MethodName := ⟨RX6, "passDays", "(I)I"⟩
abbrev cX6_copyBack : ByteArray := prog_1_method_51_code
def yX6_copyBack : MethodName := ⟨RX6, "copyBack", "(I)I"⟩
abbrev cX6_carryEntry : ByteArray := prog_1_method_52_code
def yX6_carryEntry : MethodName := ⟨RX6, "carryEntry", "()I"⟩
abbrev cX6_bitsOfQuotient : ByteArray := prog_1_method_53_code
def yX6_bitsOfQuotient : MethodName := ⟨RX6, "bitsOfQuotient", "(II)I"⟩
def RX7 : String := "RangeDeedsModel"
def TX7 : u_T := fun k => match k with
  | 0 => ("RangeDeedsModel", "now", "[I", true)
  | 1 => ("RangeDeedsModel", "money", "[J", true)
  | 2 => ("RangeDeedsModel", "kept", "[I", true)
  | 3 => ("RangeDeedsModel", "keptMoney", "[J", true)
  | 4 => ("RangeDeedsModel", "tried", "[I", true)
  | 5 => ("RangeDeedsModel", "history", "[I", true)
  | 6 => ("RangeDeedsModel", "historyMoney", "[J", true)
  | 7 => ("RangeDeedsModel", "undos", "I", false)
  | 8 => ("RangeDeedsModel", "saved", "[I", true)
  | 9 => ("RangeDeedsModel", "savedMoney", "[J", true)
  | 10 => ("RangeDeedsModel", "isSaved", "[Z", true)
  | 11 => ("RangeDeedsModel", "pad", "[I", true)
  | 12 => ("RangeDeedsModel", "signs", "I", false)
  | 13 => ("RangeDeedsModel", "isInText", "Z", false)
  | 14 => ("RangeDeedsModel", "rowFirst", "[I", true)
  | 15 => ("RangeDeedsModel", "rowOwner", "[I", true)
  | 16 => ("RangeDeedsModel", "row", "I", false)
  | 17 => ("RangeDeedsModel", "entries", "[I", true)
  | 18 => ("RangeDeedsModel", "many", "I", false)
  | 19 => ("RangeDeedsModel", "place", "I", false)
  | _ => ("RangeDeedsModel", "isWrong", "Z", false)
def tyX7 : Nat → FieldType := fun k => match k with
  | 0 => .array .int
  | 1 => .array .long
  | 2 => .array .int
  | 3 => .array .long
  | 4 => .array .int
  | 5 => .array .int
  | 6 => .array .long
  | 7 => .int
  | 8 => .array .int
  | 9 => .array .long
  | 10 => .array .boolean
  | 11 => .array .int
  | 12 => .int
  | 13 => .boolean
  | 14 => .array .int
  | 15 => .array .int
  | 16 => .int
  | 17 => .array .int
  | 18 => .int
  | 19 => .int
  | _ => .boolean
abbrev wsX70 : List Cond := u_ws RX7 TX7 21
theorem nmX7 : ∀ a, a < 21 → ∀ b, b < 21 → a ≠ b → (TX7 a).2.1 ≠ (TX7 b).2.1 := by decide +kernel
theorem tyX7_ok : ∀ k, k < 21 → parseFieldDescriptor (TX7 k).2.2.1 = some (tyX7 k) := by decide +kernel
abbrev cX7_init : ByteArray := prog_9_method_1_code
def yX7_init : MethodName := ⟨RX7, "<init>", "()V"⟩
abbrev cX7_in : ByteArray := prog_9_method_2_code
def yX7_in : MethodName := ⟨RX7, "in", "(III)Z"⟩
abbrev cX7_record : ByteArray := prog_9_method_3_code
def yX7_record : MethodName := ⟨RX7, "record", "()V"⟩
abbrev cX7_keep : ByteArray := prog_9_method_4_code
def yX7_keep : MethodName := ⟨RX7, "keep", "()V"⟩
abbrev cX7_comeBack : ByteArray := prog_9_method_5_code
def yX7_comeBack : MethodName := ⟨RX7, "comeBack", "()V"⟩
abbrev cX7_least : ByteArray := prog_9_method_6_code
def yX7_least : MethodName := ⟨RX7, "least", "(I)I"⟩
abbrev cX7_most : ByteArray := prog_9_method_7_code
def yX7_most : MethodName := ⟨RX7, "most", "(I)I"⟩
abbrev cX7_set : ByteArray := prog_9_method_8_code
def yX7_set : MethodName := ⟨RX7, "set", "(II)I"⟩
abbrev cX7_owner : ByteArray := prog_9_method_9_code
def yX7_owner : MethodName := ⟨RX7, "owner", "(I)I"⟩
abbrev cX7_isOwner : ByteArray := prog_9_method_10_code
def yX7_isOwner : MethodName := ⟨RX7, "isOwner", "(I)Z"⟩
abbrev cX7_pay : ByteArray := prog_9_method_11_code
def yX7_pay : MethodName := ⟨RX7, "pay", "(II)I"⟩
abbrev cX7_first : ByteArray := prog_9_method_12_code
def yX7_first : MethodName := ⟨RX7, "first", "(I)I"⟩
abbrev cX7_ownerOf : ByteArray := prog_9_method_13_code
def yX7_ownerOf : MethodName := ⟨RX7, "ownerOf", "(I)I"⟩
abbrev cX7_behind : ByteArray := prog_9_method_14_code
def yX7_behind : MethodName := ⟨RX7, "behind", "(I)I"⟩
abbrev cX7_length : ByteArray := prog_9_method_15_code
def yX7_length : MethodName := ⟨RX7, "length", "(I)I"⟩
abbrev cX7_rangesNow : ByteArray := prog_9_method_16_code
def yX7_rangesNow : MethodName := ⟨RX7, "rangesNow", "()I"⟩
abbrev cX7_lay : ByteArray := prog_9_method_17_code
def yX7_lay : MethodName := ⟨RX7, "lay", "(III)V"⟩
abbrev cX7_layRow : ByteArray := prog_9_method_18_code
def yX7_layRow : MethodName := ⟨RX7, "layRow", "(III)V"⟩
abbrev cX7_rangesInRow : ByteArray := prog_9_method_19_code
def yX7_rangesInRow : MethodName := ⟨RX7, "rangesInRow", "()I"⟩
abbrev cX7_takeRow : ByteArray := prog_9_method_20_code
def yX7_takeRow : MethodName := ⟨RX7, "takeRow", "()V"⟩
abbrev cX7_isPiece : ByteArray := prog_9_method_21_code
def yX7_isPiece : MethodName := ⟨RX7, "isPiece", "(II)Z"⟩
abbrev cX7_metersIn : ByteArray := prog_9_method_22_code
def yX7_metersIn : MethodName := ⟨RX7, "metersIn", "(III)I"⟩
abbrev cX7_metersOf : ByteArray := prog_9_method_23_code
def yX7_metersOf : MethodName := ⟨RX7, "metersOf", "(I)I"⟩
abbrev cX7_mayGet : ByteArray := prog_9_method_24_code
def yX7_mayGet : MethodName := ⟨RX7, "mayGet", "(II)Z"⟩
abbrev cX7_give : ByteArray := prog_9_method_25_code
def yX7_give : MethodName := ⟨RX7, "give", "(III)I"⟩
abbrev cX7_free : ByteArray := prog_9_method_26_code
def yX7_free : MethodName := ⟨RX7, "free", "(II)I"⟩
abbrev cX7_holeFor : ByteArray := prog_9_method_27_code
def yX7_holeFor : MethodName := ⟨RX7, "holeFor", "(II)I"⟩
abbrev cX7_grab : ByteArray := prog_9_method_28_code
def yX7_grab : MethodName := ⟨RX7, "grab", "(II)I"⟩
abbrev cX7_layAll : ByteArray := prog_9_method_29_code
def yX7_layAll : MethodName := ⟨RX7, "layAll", "(II)V"⟩
abbrev cX7_inherit : ByteArray := prog_9_method_30_code
def yX7_inherit : MethodName := ⟨RX7, "inherit", "(II)I"⟩
abbrev cX7_transfer : ByteArray := prog_9_method_31_code
def yX7_transfer : MethodName := ⟨RX7, "transfer", "(IIIII)I"⟩
abbrev cX7_drop : ByteArray := prog_9_method_32_code
def yX7_drop : MethodName := ⟨RX7, "drop", "()I"⟩
abbrev cX7_isLong : ByteArray := prog_9_method_33_code
def yX7_isLong : MethodName := ⟨RX7, "isLong", "(I)Z"⟩
abbrev cX7_goes : ByteArray := prog_9_method_34_code
def yX7_goes : MethodName := ⟨RX7, "goes", "(I)Z"⟩
abbrev cX7_doDeal : ByteArray := prog_9_method_35_code
def yX7_doDeal : MethodName := ⟨RX7, "doDeal", "()I"⟩
abbrev cX7_failing : ByteArray := prog_9_method_36_code
def yX7_failing : MethodName := ⟨RX7, "failing", "()I"⟩
abbrev cX7_close : ByteArray := prog_9_method_37_code
def yX7_close : MethodName := ⟨RX7, "close", "()I"⟩
abbrev cX7_lengthTax : ByteArray := prog_9_method_38_code
def yX7_lengthTax : MethodName := ⟨RX7, "lengthTax", "(I)I"⟩
abbrev cX7_manyOf : ByteArray := prog_9_method_39_code
def yX7_manyOf : MethodName := ⟨RX7, "manyOf", "(I)I"⟩
abbrev cX7_taxOf : ByteArray := prog_9_method_40_code
def yX7_taxOf : MethodName := ⟨RX7, "taxOf", "(I)I"⟩
abbrev cX7_shortestOf : ByteArray := prog_9_method_41_code
def yX7_shortestOf : MethodName := ⟨RX7, "shortestOf", "(I)I"⟩
abbrev cX7_passDay : ByteArray := prog_9_method_42_code
def yX7_passDay : MethodName := ⟨RX7, "passDay", "()V"⟩
abbrev cX7_days : ByteArray := prog_9_method_43_code
def yX7_days : MethodName := ⟨RX7, "days", "(I)I"⟩
abbrev cX7_pieceOf : ByteArray := prog_9_method_44_code
def yX7_pieceOf : MethodName := ⟨RX7, "pieceOf", "(I)I"⟩
abbrev cX7_ofRange : ByteArray := prog_9_method_45_code
def yX7_ofRange : MethodName := ⟨RX7, "ofRange", "(II)I"⟩
abbrev cX7_longestOf : ByteArray := prog_9_method_46_code
def yX7_longestOf : MethodName := ⟨RX7, "longestOf", "(I)I"⟩
abbrev cX7_ofOwner : ByteArray := prog_9_method_47_code
def yX7_ofOwner : MethodName := ⟨RX7, "ofOwner", "(II)I"⟩
abbrev cX7_money : ByteArray := prog_9_method_48_code
def yX7_money : MethodName := ⟨RX7, "money", "(I)J"⟩
abbrev cX7_ownerOn : ByteArray := prog_9_method_49_code
def yX7_ownerOn : MethodName := ⟨RX7, "ownerOn", "(I)I"⟩
abbrev cX7_ownerAt : ByteArray := prog_9_method_50_code
def yX7_ownerAt : MethodName := ⟨RX7, "ownerAt", "(I)I"⟩
abbrev cX7_ofTransfer : ByteArray := prog_9_method_51_code
def yX7_ofTransfer : MethodName := ⟨RX7, "ofTransfer", "(II)I"⟩
abbrev cX7_taxes : ByteArray := prog_9_method_52_code
def yX7_taxes : MethodName := ⟨RX7, "taxes", "()I"⟩
abbrev cX7_count : ByteArray := prog_9_method_53_code
def yX7_count : MethodName := ⟨RX7, "count", "(I)I"⟩
abbrev cX7_shareBits : ByteArray := prog_9_method_54_code
def yX7_shareBits : MethodName := ⟨RX7, "shareBits", "(I)I"⟩
abbrev cX7_hole : ByteArray := prog_9_method_55_code
def yX7_hole : MethodName := ⟨RX7, "hole", "(II)I"⟩
abbrev cX7_wouldBe : ByteArray := prog_9_method_56_code
def yX7_wouldBe : MethodName := ⟨RX7, "wouldBe", "(III)I"⟩
abbrev cX7_ownersIn : ByteArray := prog_9_method_57_code
def yX7_ownersIn : MethodName := ⟨RX7, "ownersIn", "(II)I"⟩
abbrev cX7_quietest : ByteArray := prog_9_method_58_code
def yX7_quietest : MethodName := ⟨RX7, "quietest", "(II)I"⟩
abbrev cX7_gaps : ByteArray := prog_9_method_59_code
def yX7_gaps : MethodName := ⟨RX7, "gaps", "(I)I"⟩
abbrev cX7_rangesBy : ByteArray := prog_9_method_60_code
def yX7_rangesBy : MethodName := ⟨RX7, "rangesBy", "(II)I"⟩
abbrev cX7_exchange : ByteArray := prog_9_method_61_code
def yX7_exchange : MethodName := ⟨RX7, "exchange", "(I)I"⟩
abbrev cX7_losesIn : ByteArray := prog_9_method_62_code
def yX7_losesIn : MethodName := ⟨RX7, "losesIn", "(I)I"⟩
abbrev cX7_sign : ByteArray := prog_9_method_63_code
def yX7_sign : MethodName := ⟨RX7, "sign", "()I"⟩
abbrev cX7_one : ByteArray := prog_9_method_64_code
def yX7_one : MethodName := ⟨RX7, "one", "(II)I"⟩
abbrev cX7_number : ByteArray := prog_9_method_65_code
def yX7_number : MethodName := ⟨RX7, "number", "()I"⟩
abbrev cX7_readOne : ByteArray := prog_9_method_66_code
def yX7_readOne : MethodName := ⟨RX7, "readOne", "()V"⟩
abbrev cX7_faultOf : ByteArray := prog_9_method_67_code
def yX7_faultOf : MethodName := ⟨RX7, "faultOf", "()I"⟩
abbrev cX7_put : ByteArray := prog_9_method_68_code
def yX7_put : MethodName := ⟨RX7, "put", "(J)I"⟩
abbrev cX7_wipe : ByteArray := prog_9_method_69_code
def yX7_wipe : MethodName := ⟨RX7, "wipe", "()I"⟩
abbrev cX7_fault : ByteArray := prog_9_method_70_code
def yX7_fault : MethodName := ⟨RX7, "fault", "()I"⟩
abbrev cX7_carry : ByteArray := prog_9_method_71_code
def yX7_carry : MethodName := ⟨RX7, "carry", "(I)I"⟩
abbrev cX7_carryOut : ByteArray := prog_9_method_72_code
def yX7_carryOut : MethodName := ⟨RX7, "carryOut", "()I"⟩
abbrev cX7_undo : ByteArray := prog_9_method_73_code
def yX7_undo : MethodName := ⟨RX7, "undo", "()I"⟩
abbrev cX7_save : ByteArray := prog_9_method_74_code
def yX7_save : MethodName := ⟨RX7, "save", "(I)I"⟩
abbrev cX7_restore : ByteArray := prog_9_method_75_code
def yX7_restore : MethodName := ⟨RX7, "restore", "(I)I"⟩
def RJxf58ca : String := "java/lang/Float"
abbrev cJxf58ca_isNaN_12338 : ByteArray := prog_10_method_6_code
def yJxf58ca_isNaN_12338 : MethodName := ⟨RJxf58ca, "isNaN", "(F)Z"⟩
abbrev cJxf58ca_floatToIntBits_5c35a : ByteArray := prog_10_method_24_code
def yJxf58ca_floatToIntBits_5c35a : MethodName := ⟨RJxf58ca, "floatToIntBits", "(F)I"⟩
def RJ6 : String := "java/lang/Integer"
abbrev cJ6_bitCount_0f7a4 : ByteArray := prog_11_method_49_code
def yJ6_bitCount_0f7a4 : MethodName := ⟨RJ6, "bitCount", "(I)I"⟩
def RJ9 : String := "java/lang/Math"
abbrev cJ9_max_7cf53 : ByteArray := prog_12_method_65_code
def yJ9_max_7cf53 : MethodName := ⟨RJ9, "max", "(II)I"⟩
abbrev cJ9_min_7cf53 : ByteArray := prog_12_method_69_code
def yJ9_min_7cf53 : MethodName := ⟨RJ9, "min", "(II)I"⟩
def RJ10 : String := "java/lang/System"
def RL : String := "RangeDeedsLaw"
abbrev cL_law : ByteArray := code
def yL_law : MethodName := ⟨RL, "law", "([I)Z"⟩
abbrev vwCl : List vw_C := [(RX0, TX0, 2), (RX1, TX1, 2), (RX2, TX2, 7), (RX3, TX3, 10), (RX4, TX4, 1), (RX5, TX5, 6), (RX6, TX6, 6), (RX7, TX7, 21)]
end
section
theorem dX0_init_0 : decode cX0_init 0 = .ok (.aload_n 0, 1) := by decide +kernel
theorem dX0_init_1 : decode cX0_init 1 = .ok (.invokespecial 3, 3) := by decide +kernel
theorem dX0_init_4 : decode cX0_init 4 = .ok (.aload_n 0, 1) := by decide +kernel
theorem dX0_init_5 : decode cX0_init 5 = .ok (.new 9, 3) := by decide +kernel
theorem dX0_init_8 : decode cX0_init 8 = .ok (.dup, 1) := by decide +kernel
theorem dX0_init_9 : decode cX0_init 9 = .ok (.bipush 40, 2) := by decide +kernel
theorem dX0_init_11 : decode cX0_init 11 = .ok (.invokespecial 11, 3) := by decide +kernel
theorem dX0_init_14 : decode cX0_init 14 = .ok (.putfield 14, 3) := by decide +kernel
theorem dX0_init_17 : decode cX0_init 17 = .ok (.return_, 1) := by decide +kernel
theorem dX0_copy_0 : decode cX0_copy 0 = .ok (.aload_n 0, 1) := by decide +kernel
theorem dX0_copy_1 : decode cX0_copy 1 = .ok (.getfield 14, 3) := by decide +kernel
theorem dX0_copy_4 : decode cX0_copy 4 = .ok (.aload_n 1, 1) := by decide +kernel
theorem dX0_copy_5 : decode cX0_copy 5 = .ok (.getfield 14, 3) := by decide +kernel
theorem dX0_copy_8 : decode cX0_copy 8 = .ok (.invokevirtual 20, 3) := by decide +kernel
theorem dX0_copy_11 : decode cX0_copy 11 = .ok (.aload_n 0, 1) := by decide +kernel
theorem dX0_copy_12 : decode cX0_copy 12 = .ok (.aload_n 1, 1) := by decide +kernel
theorem dX0_copy_13 : decode cX0_copy 13 = .ok (.getfield 24, 3) := by decide +kernel
theorem dX0_copy_16 : decode cX0_copy 16 = .ok (.putfield 24, 3) := by decide +kernel
theorem dX0_copy_19 : decode cX0_copy 19 = .ok (.return_, 1) := by decide +kernel
theorem dX0_hasTransfer_0 : decode cX0_hasTransfer 0 = .ok (.iload_n 1, 1) := by decide +kernel
theorem dX0_hasTransfer_1 : decode cX0_hasTransfer 1 = .ok (.ifCond .lt 15, 3) := by decide +kernel
theorem dX0_hasTransfer_4 : decode cX0_hasTransfer 4 = .ok (.iload_n 1, 1) := by decide +kernel
theorem dX0_hasTransfer_5 : decode cX0_hasTransfer 5 = .ok (.aload_n 0, 1) := by decide +kernel
theorem dX0_hasTransfer_6 : decode cX0_hasTransfer 6 = .ok (.getfield 24, 3) := by decide +kernel
theorem dX0_hasTransfer_9 : decode cX0_hasTransfer 9 = .ok (.if_icmp .ge 7, 3) := by decide +kernel
theorem dX0_hasTransfer_12 : decode cX0_hasTransfer 12 = .ok (.iconst 1, 1) := by decide +kernel
theorem dX0_hasTransfer_13 : decode cX0_hasTransfer 13 = .ok (.goto 4, 3) := by decide +kernel
theorem dX0_hasTransfer_16 : decode cX0_hasTransfer 16 = .ok (.iconst 0, 1) := by decide +kernel
theorem dX0_hasTransfer_17 : decode cX0_hasTransfer 17 = .ok (.ireturn, 1) := by decide +kernel
theorem dX0_about_0 : decode cX0_about 0 = .ok (.aload_n 0, 1) := by decide +kernel
theorem dX0_about_1 : decode cX0_about 1 = .ok (.getfield 14, 3) := by decide +kernel
theorem dX0_about_4 : decode cX0_about 4 = .ok (.iload_n 1, 1) := by decide +kernel
theorem dX0_about_5 : decode cX0_about 5 = .ok (.iconst 5, 1) := by decide +kernel
theorem dX0_about_6 : decode cX0_about 6 = .ok (.imul, 1) := by decide +kernel
theorem dX0_about_7 : decode cX0_about 7 = .ok (.iload_n 2, 1) := by decide +kernel
theorem dX0_about_8 : decode cX0_about 8 = .ok (.iadd, 1) := by decide +kernel
theorem dX0_about_9 : decode cX0_about 9 = .ok (.invokevirtual 28, 3) := by decide +kernel
theorem dX0_about_12 : decode cX0_about 12 = .ok (.ireturn, 1) := by decide +kernel
theorem dX0_append_0 : decode cX0_append 0 = .ok (.aload_n 0, 1) := by decide +kernel
theorem dX0_append_1 : decode cX0_append 1 = .ok (.getfield 24, 3) := by decide +kernel
theorem dX0_append_4 : decode cX0_append 4 = .ok (.iconst 5, 1) := by decide +kernel
theorem dX0_append_5 : decode cX0_append 5 = .ok (.imul, 1) := by decide +kernel
theorem dX0_append_6 : decode cX0_append 6 = .ok (.istore 6, 2) := by decide +kernel
theorem dX0_append_8 : decode cX0_append 8 = .ok (.aload_n 0, 1) := by decide +kernel
theorem dX0_append_9 : decode cX0_append 9 = .ok (.getfield 14, 3) := by decide +kernel
theorem dX0_append_12 : decode cX0_append 12 = .ok (.iload 6, 2) := by decide +kernel
theorem dX0_append_14 : decode cX0_append 14 = .ok (.iconst 0, 1) := by decide +kernel
theorem dX0_append_15 : decode cX0_append 15 = .ok (.iadd, 1) := by decide +kernel
theorem dX0_append_16 : decode cX0_append 16 = .ok (.iload_n 1, 1) := by decide +kernel
theorem dX0_append_17 : decode cX0_append 17 = .ok (.invokevirtual 32, 3) := by decide +kernel
theorem dX0_append_20 : decode cX0_append 20 = .ok (.aload_n 0, 1) := by decide +kernel
theorem dX0_append_21 : decode cX0_append 21 = .ok (.getfield 14, 3) := by decide +kernel
theorem dX0_append_24 : decode cX0_append 24 = .ok (.iload 6, 2) := by decide +kernel
theorem dX0_append_26 : decode cX0_append 26 = .ok (.iconst 1, 1) := by decide +kernel
theorem dX0_append_27 : decode cX0_append 27 = .ok (.iadd, 1) := by decide +kernel
theorem dX0_append_28 : decode cX0_append 28 = .ok (.iload_n 2, 1) := by decide +kernel
theorem dX0_append_29 : decode cX0_append 29 = .ok (.invokevirtual 32, 3) := by decide +kernel
theorem dX0_append_32 : decode cX0_append 32 = .ok (.aload_n 0, 1) := by decide +kernel
theorem dX0_append_33 : decode cX0_append 33 = .ok (.getfield 14, 3) := by decide +kernel
theorem dX0_append_36 : decode cX0_append 36 = .ok (.iload 6, 2) := by decide +kernel
theorem dX0_append_38 : decode cX0_append 38 = .ok (.iconst 2, 1) := by decide +kernel
theorem dX0_append_39 : decode cX0_append 39 = .ok (.iadd, 1) := by decide +kernel
theorem dX0_append_40 : decode cX0_append 40 = .ok (.iload_n 3, 1) := by decide +kernel
theorem dX0_append_41 : decode cX0_append 41 = .ok (.invokevirtual 32, 3) := by decide +kernel
theorem dX0_append_44 : decode cX0_append 44 = .ok (.aload_n 0, 1) := by decide +kernel
theorem dX0_append_45 : decode cX0_append 45 = .ok (.getfield 14, 3) := by decide +kernel
theorem dX0_append_48 : decode cX0_append 48 = .ok (.iload 6, 2) := by decide +kernel
theorem dX0_append_50 : decode cX0_append 50 = .ok (.iconst 3, 1) := by decide +kernel
theorem dX0_append_51 : decode cX0_append 51 = .ok (.iadd, 1) := by decide +kernel
theorem dX0_append_52 : decode cX0_append 52 = .ok (.iload 4, 2) := by decide +kernel
theorem dX0_append_54 : decode cX0_append 54 = .ok (.invokevirtual 32, 3) := by decide +kernel
theorem dX0_append_57 : decode cX0_append 57 = .ok (.aload_n 0, 1) := by decide +kernel
theorem dX0_append_58 : decode cX0_append 58 = .ok (.getfield 14, 3) := by decide +kernel
theorem dX0_append_61 : decode cX0_append 61 = .ok (.iload 6, 2) := by decide +kernel
theorem dX0_append_63 : decode cX0_append 63 = .ok (.iconst 4, 1) := by decide +kernel
theorem dX0_append_64 : decode cX0_append 64 = .ok (.iadd, 1) := by decide +kernel
theorem dX0_append_65 : decode cX0_append 65 = .ok (.iload 5, 2) := by decide +kernel
theorem dX0_append_67 : decode cX0_append 67 = .ok (.invokevirtual 32, 3) := by decide +kernel
theorem dX0_append_70 : decode cX0_append 70 = .ok (.aload_n 0, 1) := by decide +kernel
theorem dX0_append_71 : decode cX0_append 71 = .ok (.dup, 1) := by decide +kernel
theorem dX0_append_72 : decode cX0_append 72 = .ok (.getfield 24, 3) := by decide +kernel
theorem dX0_append_75 : decode cX0_append 75 = .ok (.iconst 1, 1) := by decide +kernel
theorem dX0_append_76 : decode cX0_append 76 = .ok (.iadd, 1) := by decide +kernel
theorem dX0_append_77 : decode cX0_append 77 = .ok (.putfield 24, 3) := by decide +kernel
theorem dX0_append_80 : decode cX0_append 80 = .ok (.return_, 1) := by decide +kernel
theorem dX1_init_0 : decode cX1_init 0 = .ok (.aload_n 0, 1) := by decide +kernel
theorem dX1_init_1 : decode cX1_init 1 = .ok (.invokespecial 3, 3) := by decide +kernel
theorem dX1_init_4 : decode cX1_init 4 = .ok (.aload_n 0, 1) := by decide +kernel
theorem dX1_init_5 : decode cX1_init 5 = .ok (.bipush 7, 2) := by decide +kernel
theorem dX1_init_7 : decode cX1_init 7 = .ok (.anewarray 9, 3) := by decide +kernel
theorem dX1_init_10 : decode cX1_init 10 = .ok (.putfield 11, 3) := by decide +kernel
theorem dX1_init_13 : decode cX1_init 13 = .ok (.iconst 0, 1) := by decide +kernel
theorem dX1_init_14 : decode cX1_init 14 = .ok (.istore_n 1, 1) := by decide +kernel
theorem dX1_init_15 : decode cX1_init 15 = .ok (.iload_n 1, 1) := by decide +kernel
theorem dX1_init_16 : decode cX1_init 16 = .ok (.aload_n 0, 1) := by decide +kernel
theorem dX1_init_17 : decode cX1_init 17 = .ok (.getfield 11, 3) := by decide +kernel
theorem dX1_init_20 : decode cX1_init 20 = .ok (.arraylength, 1) := by decide +kernel
theorem dX1_init_21 : decode cX1_init 21 = .ok (.if_icmp .ge 22, 3) := by decide +kernel
theorem dX1_init_24 : decode cX1_init 24 = .ok (.aload_n 0, 1) := by decide +kernel
theorem dX1_init_25 : decode cX1_init 25 = .ok (.getfield 11, 3) := by decide +kernel
theorem dX1_init_28 : decode cX1_init 28 = .ok (.iload_n 1, 1) := by decide +kernel
theorem dX1_init_29 : decode cX1_init 29 = .ok (.new 9, 3) := by decide +kernel
theorem dX1_init_32 : decode cX1_init 32 = .ok (.dup, 1) := by decide +kernel
theorem dX1_init_33 : decode cX1_init 33 = .ok (.invokespecial 17, 3) := by decide +kernel
theorem dX1_init_36 : decode cX1_init 36 = .ok (.aastore, 1) := by decide +kernel
theorem dX1_init_37 : decode cX1_init 37 = .ok (.iinc 1 1, 3) := by decide +kernel
theorem dX1_init_40 : decode cX1_init 40 = .ok (.goto (-25), 3) := by decide +kernel
theorem dX1_init_43 : decode cX1_init 43 = .ok (.return_, 1) := by decide +kernel
theorem dX1_prepare_0 : decode cX1_prepare 0 = .ok (.aload_n 0, 1) := by decide +kernel
theorem dX1_prepare_1 : decode cX1_prepare 1 = .ok (.getfield 18, 3) := by decide +kernel
theorem dX1_prepare_4 : decode cX1_prepare 4 = .ok (.ifCond .lt 27, 3) := by decide +kernel
theorem dX1_prepare_7 : decode cX1_prepare 7 = .ok (.aload_n 0, 1) := by decide +kernel
theorem dX1_prepare_8 : decode cX1_prepare 8 = .ok (.getfield 18, 3) := by decide +kernel
theorem dX1_prepare_11 : decode cX1_prepare 11 = .ok (.aload_n 0, 1) := by decide +kernel
theorem dX1_prepare_12 : decode cX1_prepare 12 = .ok (.getfield 11, 3) := by decide +kernel
theorem dX1_prepare_15 : decode cX1_prepare 15 = .ok (.arraylength, 1) := by decide +kernel
theorem dX1_prepare_16 : decode cX1_prepare 16 = .ok (.if_icmp .ge 15, 3) := by decide +kernel
theorem dX1_prepare_19 : decode cX1_prepare 19 = .ok (.aload_n 0, 1) := by decide +kernel
theorem dX1_prepare_20 : decode cX1_prepare 20 = .ok (.getfield 11, 3) := by decide +kernel
theorem dX1_prepare_23 : decode cX1_prepare 23 = .ok (.aload_n 0, 1) := by decide +kernel
theorem dX1_prepare_24 : decode cX1_prepare 24 = .ok (.getfield 18, 3) := by decide +kernel
theorem dX1_prepare_27 : decode cX1_prepare 27 = .ok (.aaload, 1) := by decide +kernel
theorem dX1_prepare_28 : decode cX1_prepare 28 = .ok (.goto 4, 3) := by decide +kernel
theorem dX1_prepare_31 : decode cX1_prepare 31 = .ok (.aconst_null, 1) := by decide +kernel
theorem dX1_prepare_32 : decode cX1_prepare 32 = .ok (.astore_n 2, 1) := by decide +kernel
theorem dX1_prepare_33 : decode cX1_prepare 33 = .ok (.aload_n 2, 1) := by decide +kernel
theorem dX1_prepare_34 : decode cX1_prepare 34 = .ok (.ifnull 8, 3) := by decide +kernel
theorem dX1_prepare_37 : decode cX1_prepare 37 = .ok (.aload_n 2, 1) := by decide +kernel
theorem dX1_prepare_38 : decode cX1_prepare 38 = .ok (.aload_n 1, 1) := by decide +kernel
theorem dX1_prepare_39 : decode cX1_prepare 39 = .ok (.invokevirtual 22, 3) := by decide +kernel
theorem dX1_prepare_42 : decode cX1_prepare 42 = .ok (.return_, 1) := by decide +kernel
theorem dX1_finish_0 : decode cX1_finish 0 = .ok (.iload_n 1, 1) := by decide +kernel
theorem dX1_finish_1 : decode cX1_finish 1 = .ok (.ifCond .ge 5, 3) := by decide +kernel
theorem dX1_finish_4 : decode cX1_finish 4 = .ok (.iload_n 1, 1) := by decide +kernel
theorem dX1_finish_5 : decode cX1_finish 5 = .ok (.ireturn, 1) := by decide +kernel
theorem dX1_finish_6 : decode cX1_finish 6 = .ok (.aload_n 0, 1) := by decide +kernel
theorem dX1_finish_7 : decode cX1_finish 7 = .ok (.getfield 18, 3) := by decide +kernel
theorem dX1_finish_10 : decode cX1_finish 10 = .ok (.bipush 6, 2) := by decide +kernel
theorem dX1_finish_12 : decode cX1_finish 12 = .ok (.if_icmp .ge 16, 3) := by decide +kernel
theorem dX1_finish_15 : decode cX1_finish 15 = .ok (.aload_n 0, 1) := by decide +kernel
theorem dX1_finish_16 : decode cX1_finish 16 = .ok (.dup, 1) := by decide +kernel
theorem dX1_finish_17 : decode cX1_finish 17 = .ok (.getfield 18, 3) := by decide +kernel
theorem dX1_finish_20 : decode cX1_finish 20 = .ok (.iconst 1, 1) := by decide +kernel
theorem dX1_finish_21 : decode cX1_finish 21 = .ok (.iadd, 1) := by decide +kernel
theorem dX1_finish_22 : decode cX1_finish 22 = .ok (.putfield 18, 3) := by decide +kernel
theorem dX1_finish_25 : decode cX1_finish 25 = .ok (.goto 7, 3) := by decide +kernel
theorem dX1_finish_28 : decode cX1_finish 28 = .ok (.aload_n 0, 1) := by decide +kernel
theorem dX1_finish_29 : decode cX1_finish 29 = .ok (.invokevirtual 26, 3) := by decide +kernel
theorem dX1_finish_32 : decode cX1_finish 32 = .ok (.iload_n 1, 1) := by decide +kernel
theorem dX1_finish_33 : decode cX1_finish 33 = .ok (.ireturn, 1) := by decide +kernel
theorem dX1_dropOldest_0 : decode cX1_dropOldest 0 = .ok (.aload_n 0, 1) := by decide +kernel
theorem dX1_dropOldest_1 : decode cX1_dropOldest 1 = .ok (.getfield 11, 3) := by decide +kernel
theorem dX1_dropOldest_4 : decode cX1_dropOldest 4 = .ok (.iconst 0, 1) := by decide +kernel
theorem dX1_dropOldest_5 : decode cX1_dropOldest 5 = .ok (.aaload, 1) := by decide +kernel
theorem dX1_dropOldest_6 : decode cX1_dropOldest 6 = .ok (.astore_n 1, 1) := by decide +kernel
theorem dX1_dropOldest_7 : decode cX1_dropOldest 7 = .ok (.iconst 1, 1) := by decide +kernel
theorem dX1_dropOldest_8 : decode cX1_dropOldest 8 = .ok (.istore_n 2, 1) := by decide +kernel
theorem dX1_dropOldest_9 : decode cX1_dropOldest 9 = .ok (.iload_n 2, 1) := by decide +kernel
theorem dX1_dropOldest_10 : decode cX1_dropOldest 10 = .ok (.aload_n 0, 1) := by decide +kernel
theorem dX1_dropOldest_11 : decode cX1_dropOldest 11 = .ok (.getfield 11, 3) := by decide +kernel
theorem dX1_dropOldest_14 : decode cX1_dropOldest 14 = .ok (.arraylength, 1) := by decide +kernel
theorem dX1_dropOldest_15 : decode cX1_dropOldest 15 = .ok (.if_icmp .ge 23, 3) := by decide +kernel
theorem dX1_dropOldest_18 : decode cX1_dropOldest 18 = .ok (.aload_n 0, 1) := by decide +kernel
theorem dX1_dropOldest_19 : decode cX1_dropOldest 19 = .ok (.getfield 11, 3) := by decide +kernel
theorem dX1_dropOldest_22 : decode cX1_dropOldest 22 = .ok (.iload_n 2, 1) := by decide +kernel
theorem dX1_dropOldest_23 : decode cX1_dropOldest 23 = .ok (.iconst 1, 1) := by decide +kernel
theorem dX1_dropOldest_24 : decode cX1_dropOldest 24 = .ok (.isub, 1) := by decide +kernel
theorem dX1_dropOldest_25 : decode cX1_dropOldest 25 = .ok (.aload_n 0, 1) := by decide +kernel
theorem dX1_dropOldest_26 : decode cX1_dropOldest 26 = .ok (.getfield 11, 3) := by decide +kernel
theorem dX1_dropOldest_29 : decode cX1_dropOldest 29 = .ok (.iload_n 2, 1) := by decide +kernel
theorem dX1_dropOldest_30 : decode cX1_dropOldest 30 = .ok (.aaload, 1) := by decide +kernel
theorem dX1_dropOldest_31 : decode cX1_dropOldest 31 = .ok (.aastore, 1) := by decide +kernel
theorem dX1_dropOldest_32 : decode cX1_dropOldest 32 = .ok (.iinc 2 1, 3) := by decide +kernel
theorem dX1_dropOldest_35 : decode cX1_dropOldest 35 = .ok (.goto (-26), 3) := by decide +kernel
theorem dX1_dropOldest_38 : decode cX1_dropOldest 38 = .ok (.aload_n 0, 1) := by decide +kernel
theorem dX1_dropOldest_39 : decode cX1_dropOldest 39 = .ok (.getfield 11, 3) := by decide +kernel
theorem dX1_dropOldest_42 : decode cX1_dropOldest 42 = .ok (.bipush 6, 2) := by decide +kernel
theorem dX1_dropOldest_44 : decode cX1_dropOldest 44 = .ok (.aload_n 1, 1) := by decide +kernel
theorem dX1_dropOldest_45 : decode cX1_dropOldest 45 = .ok (.aastore, 1) := by decide +kernel
theorem dX1_dropOldest_46 : decode cX1_dropOldest 46 = .ok (.return_, 1) := by decide +kernel
theorem dX1_takeBack_0 : decode cX1_takeBack 0 = .ok (.aload_n 0, 1) := by decide +kernel
theorem dX1_takeBack_1 : decode cX1_takeBack 1 = .ok (.getfield 18, 3) := by decide +kernel
theorem dX1_takeBack_4 : decode cX1_takeBack 4 = .ok (.ifCond .le 29, 3) := by decide +kernel
theorem dX1_takeBack_7 : decode cX1_takeBack 7 = .ok (.aload_n 0, 1) := by decide +kernel
theorem dX1_takeBack_8 : decode cX1_takeBack 8 = .ok (.getfield 18, 3) := by decide +kernel
theorem dX1_takeBack_11 : decode cX1_takeBack 11 = .ok (.aload_n 0, 1) := by decide +kernel
theorem dX1_takeBack_12 : decode cX1_takeBack 12 = .ok (.getfield 11, 3) := by decide +kernel
theorem dX1_takeBack_15 : decode cX1_takeBack 15 = .ok (.arraylength, 1) := by decide +kernel
theorem dX1_takeBack_16 : decode cX1_takeBack 16 = .ok (.if_icmp .gt 17, 3) := by decide +kernel
theorem dX1_takeBack_19 : decode cX1_takeBack 19 = .ok (.aload_n 0, 1) := by decide +kernel
theorem dX1_takeBack_20 : decode cX1_takeBack 20 = .ok (.getfield 11, 3) := by decide +kernel
theorem dX1_takeBack_23 : decode cX1_takeBack 23 = .ok (.aload_n 0, 1) := by decide +kernel
theorem dX1_takeBack_24 : decode cX1_takeBack 24 = .ok (.getfield 18, 3) := by decide +kernel
theorem dX1_takeBack_27 : decode cX1_takeBack 27 = .ok (.iconst 1, 1) := by decide +kernel
theorem dX1_takeBack_28 : decode cX1_takeBack 28 = .ok (.isub, 1) := by decide +kernel
theorem dX1_takeBack_29 : decode cX1_takeBack 29 = .ok (.aaload, 1) := by decide +kernel
theorem dX1_takeBack_30 : decode cX1_takeBack 30 = .ok (.goto 4, 3) := by decide +kernel
theorem dX1_takeBack_33 : decode cX1_takeBack 33 = .ok (.aconst_null, 1) := by decide +kernel
theorem dX1_takeBack_34 : decode cX1_takeBack 34 = .ok (.astore_n 2, 1) := by decide +kernel
theorem dX1_takeBack_35 : decode cX1_takeBack 35 = .ok (.aload_n 2, 1) := by decide +kernel
theorem dX1_takeBack_36 : decode cX1_takeBack 36 = .ok (.ifnonnull 5, 3) := by decide +kernel
theorem dX1_takeBack_39 : decode cX1_takeBack 39 = .ok (.iconst 0, 1) := by decide +kernel
theorem dX1_takeBack_40 : decode cX1_takeBack 40 = .ok (.ireturn, 1) := by decide +kernel
theorem dX1_takeBack_41 : decode cX1_takeBack 41 = .ok (.aload_n 1, 1) := by decide +kernel
theorem dX1_takeBack_42 : decode cX1_takeBack 42 = .ok (.aload_n 2, 1) := by decide +kernel
theorem dX1_takeBack_43 : decode cX1_takeBack 43 = .ok (.invokevirtual 22, 3) := by decide +kernel
theorem dX1_takeBack_46 : decode cX1_takeBack 46 = .ok (.aload_n 0, 1) := by decide +kernel
theorem dX1_takeBack_47 : decode cX1_takeBack 47 = .ok (.dup, 1) := by decide +kernel
theorem dX1_takeBack_48 : decode cX1_takeBack 48 = .ok (.getfield 18, 3) := by decide +kernel
theorem dX1_takeBack_51 : decode cX1_takeBack 51 = .ok (.iconst 1, 1) := by decide +kernel
theorem dX1_takeBack_52 : decode cX1_takeBack 52 = .ok (.isub, 1) := by decide +kernel
theorem dX1_takeBack_53 : decode cX1_takeBack 53 = .ok (.putfield 18, 3) := by decide +kernel
theorem dX1_takeBack_56 : decode cX1_takeBack 56 = .ok (.iconst 1, 1) := by decide +kernel
theorem dX1_takeBack_57 : decode cX1_takeBack 57 = .ok (.ireturn, 1) := by decide +kernel
theorem dX2_init_0 : decode cX2_init 0 = .ok (.aload_n 0, 1) := by decide +kernel
theorem dX2_init_1 : decode cX2_init 1 = .ok (.invokespecial 3, 3) := by decide +kernel
theorem dX2_init_4 : decode cX2_init 4 = .ok (.aload_n 0, 1) := by decide +kernel
theorem dX2_init_5 : decode cX2_init 5 = .ok (.bipush 80, 2) := by decide +kernel
theorem dX2_init_7 : decode cX2_init 7 = .ok (.newarray .char, 2) := by decide +kernel
theorem dX2_init_9 : decode cX2_init 9 = .ok (.putfield 9, 3) := by decide +kernel
theorem dX2_init_12 : decode cX2_init 12 = .ok (.return_, 1) := by decide +kernel
theorem dX2_signsIn_0 : decode cX2_signsIn 0 = .ok (.iconst 0, 1) := by decide +kernel
theorem dX2_signsIn_1 : decode cX2_signsIn 1 = .ok (.istore_n 2, 1) := by decide +kernel
theorem dX2_signsIn_2 : decode cX2_signsIn 2 = .ok (.lload_n 0, 1) := by decide +kernel
theorem dX2_signsIn_3 : decode cX2_signsIn 3 = .ok (.lstore_n 3, 1) := by decide +kernel
theorem dX2_signsIn_4 : decode cX2_signsIn 4 = .ok (.lload_n 3, 1) := by decide +kernel
theorem dX2_signsIn_5 : decode cX2_signsIn 5 = .ok (.lconst 0, 1) := by decide +kernel
theorem dX2_signsIn_6 : decode cX2_signsIn 6 = .ok (.lcmp, 1) := by decide +kernel
theorem dX2_signsIn_7 : decode cX2_signsIn 7 = .ok (.ifCond .eq 47, 3) := by decide +kernel
theorem dX2_signsIn_10 : decode cX2_signsIn 10 = .ok (.iload_n 2, 1) := by decide +kernel
theorem dX2_signsIn_11 : decode cX2_signsIn 11 = .ok (.bipush 8, 2) := by decide +kernel
theorem dX2_signsIn_13 : decode cX2_signsIn 13 = .ok (.if_icmp .ge 41, 3) := by decide +kernel
theorem dX2_signsIn_16 : decode cX2_signsIn 16 = .ok (.lload_n 3, 1) := by decide +kernel
theorem dX2_signsIn_17 : decode cX2_signsIn 17 = .ok (.ldc2_w 15, 3) := by decide +kernel
theorem dX2_signsIn_20 : decode cX2_signsIn 20 = .ok (.land, 1) := by decide +kernel
theorem dX2_signsIn_21 : decode cX2_signsIn 21 = .ok (.lstore 5, 2) := by decide +kernel
theorem dX2_signsIn_23 : decode cX2_signsIn 23 = .ok (.lload 5, 2) := by decide +kernel
theorem dX2_signsIn_25 : decode cX2_signsIn 25 = .ok (.ldc2_w 17, 3) := by decide +kernel
theorem dX2_signsIn_28 : decode cX2_signsIn 28 = .ok (.lcmp, 1) := by decide +kernel
theorem dX2_signsIn_29 : decode cX2_signsIn 29 = .ok (.ifCond .lt 12, 3) := by decide +kernel
theorem dX2_signsIn_32 : decode cX2_signsIn 32 = .ok (.lload 5, 2) := by decide +kernel
theorem dX2_signsIn_34 : decode cX2_signsIn 34 = .ok (.ldc2_w 19, 3) := by decide +kernel
theorem dX2_signsIn_37 : decode cX2_signsIn 37 = .ok (.lcmp, 1) := by decide +kernel
theorem dX2_signsIn_38 : decode cX2_signsIn 38 = .ok (.ifCond .le 5, 3) := by decide +kernel
theorem dX2_signsIn_41 : decode cX2_signsIn 41 = .ok (.iconst 0, 1) := by decide +kernel
theorem dX2_signsIn_42 : decode cX2_signsIn 42 = .ok (.ireturn, 1) := by decide +kernel
theorem dX2_signsIn_43 : decode cX2_signsIn 43 = .ok (.iinc 2 1, 3) := by decide +kernel
theorem dX2_signsIn_46 : decode cX2_signsIn 46 = .ok (.lload_n 3, 1) := by decide +kernel
theorem dX2_signsIn_47 : decode cX2_signsIn 47 = .ok (.bipush 8, 2) := by decide +kernel
theorem dX2_signsIn_49 : decode cX2_signsIn 49 = .ok (.lushr, 1) := by decide +kernel
theorem dX2_signsIn_50 : decode cX2_signsIn 50 = .ok (.lstore_n 3, 1) := by decide +kernel
theorem dX2_signsIn_51 : decode cX2_signsIn 51 = .ok (.goto (-47), 3) := by decide +kernel
theorem dX2_signsIn_54 : decode cX2_signsIn 54 = .ok (.iload_n 2, 1) := by decide +kernel
theorem dX2_signsIn_55 : decode cX2_signsIn 55 = .ok (.ireturn, 1) := by decide +kernel
theorem dX2_append_0 : decode cX2_append 0 = .ok (.iload_n 3, 1) := by decide +kernel
theorem dX2_append_1 : decode cX2_append 1 = .ok (.ifCond .lt 14, 3) := by decide +kernel
theorem dX2_append_4 : decode cX2_append 4 = .ok (.iload_n 3, 1) := by decide +kernel
theorem dX2_append_5 : decode cX2_append 5 = .ok (.bipush 80, 2) := by decide +kernel
theorem dX2_append_7 : decode cX2_append 7 = .ok (.aload_n 0, 1) := by decide +kernel
theorem dX2_append_8 : decode cX2_append 8 = .ok (.getfield 21, 3) := by decide +kernel
theorem dX2_append_11 : decode cX2_append 11 = .ok (.isub, 1) := by decide +kernel
theorem dX2_append_12 : decode cX2_append 12 = .ok (.if_icmp .le 5, 3) := by decide +kernel
theorem dX2_append_15 : decode cX2_append 15 = .ok (.iconst 0, 1) := by decide +kernel
theorem dX2_append_16 : decode cX2_append 16 = .ok (.ireturn, 1) := by decide +kernel
theorem dX2_append_17 : decode cX2_append 17 = .ok (.lload_n 1, 1) := by decide +kernel
theorem dX2_append_18 : decode cX2_append 18 = .ok (.lstore 4, 2) := by decide +kernel
theorem dX2_append_20 : decode cX2_append 20 = .ok (.aload_n 0, 1) := by decide +kernel
theorem dX2_append_21 : decode cX2_append 21 = .ok (.getfield 21, 3) := by decide +kernel
theorem dX2_append_24 : decode cX2_append 24 = .ok (.iload_n 3, 1) := by decide +kernel
theorem dX2_append_25 : decode cX2_append 25 = .ok (.iadd, 1) := by decide +kernel
theorem dX2_append_26 : decode cX2_append 26 = .ok (.iconst 1, 1) := by decide +kernel
theorem dX2_append_27 : decode cX2_append 27 = .ok (.isub, 1) := by decide +kernel
theorem dX2_append_28 : decode cX2_append 28 = .ok (.istore 6, 2) := by decide +kernel
theorem dX2_append_30 : decode cX2_append 30 = .ok (.iload 6, 2) := by decide +kernel
theorem dX2_append_32 : decode cX2_append 32 = .ok (.aload_n 0, 1) := by decide +kernel
theorem dX2_append_33 : decode cX2_append 33 = .ok (.getfield 21, 3) := by decide +kernel
theorem dX2_append_36 : decode cX2_append 36 = .ok (.if_icmp .lt 31, 3) := by decide +kernel
theorem dX2_append_39 : decode cX2_append 39 = .ok (.aload_n 0, 1) := by decide +kernel
theorem dX2_append_40 : decode cX2_append 40 = .ok (.getfield 9, 3) := by decide +kernel
theorem dX2_append_43 : decode cX2_append 43 = .ok (.iload 6, 2) := by decide +kernel
theorem dX2_append_45 : decode cX2_append 45 = .ok (.lload 4, 2) := by decide +kernel
theorem dX2_append_47 : decode cX2_append 47 = .ok (.ldc2_w 15, 3) := by decide +kernel
theorem dX2_append_50 : decode cX2_append 50 = .ok (.land, 1) := by decide +kernel
theorem dX2_append_51 : decode cX2_append 51 = .ok (.l2i, 1) := by decide +kernel
theorem dX2_append_52 : decode cX2_append 52 = .ok (.i2c, 1) := by decide +kernel
theorem dX2_append_53 : decode cX2_append 53 = .ok (.castore, 1) := by decide +kernel
theorem dX2_append_54 : decode cX2_append 54 = .ok (.lload 4, 2) := by decide +kernel
theorem dX2_append_56 : decode cX2_append 56 = .ok (.bipush 8, 2) := by decide +kernel
theorem dX2_append_58 : decode cX2_append 58 = .ok (.lushr, 1) := by decide +kernel
theorem dX2_append_59 : decode cX2_append 59 = .ok (.lstore 4, 2) := by decide +kernel
theorem dX2_append_61 : decode cX2_append 61 = .ok (.iinc 6 (-1), 3) := by decide +kernel
theorem dX2_append_64 : decode cX2_append 64 = .ok (.goto (-34), 3) := by decide +kernel
theorem dX2_append_67 : decode cX2_append 67 = .ok (.aload_n 0, 1) := by decide +kernel
theorem dX2_append_68 : decode cX2_append 68 = .ok (.dup, 1) := by decide +kernel
theorem dX2_append_69 : decode cX2_append 69 = .ok (.getfield 21, 3) := by decide +kernel
theorem dX2_append_72 : decode cX2_append 72 = .ok (.iload_n 3, 1) := by decide +kernel
theorem dX2_append_73 : decode cX2_append 73 = .ok (.iadd, 1) := by decide +kernel
theorem dX2_append_74 : decode cX2_append 74 = .ok (.putfield 21, 3) := by decide +kernel
theorem dX2_append_77 : decode cX2_append 77 = .ok (.iconst 1, 1) := by decide +kernel
theorem dX2_append_78 : decode cX2_append 78 = .ok (.ireturn, 1) := by decide +kernel
theorem dX2_sign_0 : decode cX2_sign 0 = .ok (.aload_n 0, 1) := by decide +kernel
theorem dX2_sign_1 : decode cX2_sign 1 = .ok (.getfield 25, 3) := by decide +kernel
theorem dX2_sign_4 : decode cX2_sign 4 = .ok (.ifCond .lt 38, 3) := by decide +kernel
theorem dX2_sign_7 : decode cX2_sign 7 = .ok (.aload_n 0, 1) := by decide +kernel
theorem dX2_sign_8 : decode cX2_sign 8 = .ok (.getfield 25, 3) := by decide +kernel
theorem dX2_sign_11 : decode cX2_sign 11 = .ok (.aload_n 0, 1) := by decide +kernel
theorem dX2_sign_12 : decode cX2_sign 12 = .ok (.getfield 21, 3) := by decide +kernel
theorem dX2_sign_15 : decode cX2_sign 15 = .ok (.if_icmp .ge 27, 3) := by decide +kernel
theorem dX2_sign_18 : decode cX2_sign 18 = .ok (.aload_n 0, 1) := by decide +kernel
theorem dX2_sign_19 : decode cX2_sign 19 = .ok (.getfield 25, 3) := by decide +kernel
theorem dX2_sign_22 : decode cX2_sign 22 = .ok (.aload_n 0, 1) := by decide +kernel
theorem dX2_sign_23 : decode cX2_sign 23 = .ok (.getfield 9, 3) := by decide +kernel
theorem dX2_sign_26 : decode cX2_sign 26 = .ok (.arraylength, 1) := by decide +kernel
theorem dX2_sign_27 : decode cX2_sign 27 = .ok (.if_icmp .ge 15, 3) := by decide +kernel
theorem dX2_sign_30 : decode cX2_sign 30 = .ok (.aload_n 0, 1) := by decide +kernel
theorem dX2_sign_31 : decode cX2_sign 31 = .ok (.getfield 9, 3) := by decide +kernel
theorem dX2_sign_34 : decode cX2_sign 34 = .ok (.aload_n 0, 1) := by decide +kernel
theorem dX2_sign_35 : decode cX2_sign 35 = .ok (.getfield 25, 3) := by decide +kernel
theorem dX2_sign_38 : decode cX2_sign 38 = .ok (.caload, 1) := by decide +kernel
theorem dX2_sign_39 : decode cX2_sign 39 = .ok (.goto 4, 3) := by decide +kernel
theorem dX2_sign_42 : decode cX2_sign 42 = .ok (.iconst 0, 1) := by decide +kernel
theorem dX2_sign_43 : decode cX2_sign 43 = .ok (.ireturn, 1) := by decide +kernel
theorem dX2_findFault_0 : decode cX2_findFault 0 = .ok (.aload_n 0, 1) := by decide +kernel
theorem dX2_findFault_1 : decode cX2_findFault 1 = .ok (.iconst 0, 1) := by decide +kernel
theorem dX2_findFault_2 : decode cX2_findFault 2 = .ok (.putfield 25, 3) := by decide +kernel
theorem dX2_findFault_5 : decode cX2_findFault 5 = .ok (.iconst 0, 1) := by decide +kernel
theorem dX2_findFault_6 : decode cX2_findFault 6 = .ok (.istore_n 1, 1) := by decide +kernel
theorem dX2_findFault_7 : decode cX2_findFault 7 = .ok (.iload_n 1, 1) := by decide +kernel
theorem dX2_findFault_8 : decode cX2_findFault 8 = .ok (.bipush 80, 2) := by decide +kernel
theorem dX2_findFault_10 : decode cX2_findFault 10 = .ok (.if_icmp .gt 49, 3) := by decide +kernel
theorem dX2_findFault_13 : decode cX2_findFault 13 = .ok (.aload_n 0, 1) := by decide +kernel
theorem dX2_findFault_14 : decode cX2_findFault 14 = .ok (.invokevirtual 28, 3) := by decide +kernel
theorem dX2_findFault_17 : decode cX2_findFault 17 = .ok (.ifCond .ne 8, 3) := by decide +kernel
theorem dX2_findFault_20 : decode cX2_findFault 20 = .ok (.aload_n 0, 1) := by decide +kernel
theorem dX2_findFault_21 : decode cX2_findFault 21 = .ok (.getfield 25, 3) := by decide +kernel
theorem dX2_findFault_24 : decode cX2_findFault 24 = .ok (.ireturn, 1) := by decide +kernel
theorem dX2_findFault_25 : decode cX2_findFault 25 = .ok (.aload_n 0, 1) := by decide +kernel
theorem dX2_findFault_26 : decode cX2_findFault 26 = .ok (.getfield 25, 3) := by decide +kernel
theorem dX2_findFault_29 : decode cX2_findFault 29 = .ok (.aload_n 0, 1) := by decide +kernel
theorem dX2_findFault_30 : decode cX2_findFault 30 = .ok (.getfield 21, 3) := by decide +kernel
theorem dX2_findFault_33 : decode cX2_findFault 33 = .ok (.if_icmp .ne 6, 3) := by decide +kernel
theorem dX2_findFault_36 : decode cX2_findFault 36 = .ok (.bipush (-6), 2) := by decide +kernel
theorem dX2_findFault_38 : decode cX2_findFault 38 = .ok (.ireturn, 1) := by decide +kernel
theorem dX2_findFault_39 : decode cX2_findFault 39 = .ok (.aload_n 0, 1) := by decide +kernel
theorem dX2_findFault_40 : decode cX2_findFault 40 = .ok (.bipush 59, 2) := by decide +kernel
theorem dX2_findFault_42 : decode cX2_findFault 42 = .ok (.invokevirtual 32, 3) := by decide +kernel
theorem dX2_findFault_45 : decode cX2_findFault 45 = .ok (.ifCond .ne 8, 3) := by decide +kernel
theorem dX2_findFault_48 : decode cX2_findFault 48 = .ok (.aload_n 0, 1) := by decide +kernel
theorem dX2_findFault_49 : decode cX2_findFault 49 = .ok (.getfield 25, 3) := by decide +kernel
theorem dX2_findFault_52 : decode cX2_findFault 52 = .ok (.ireturn, 1) := by decide +kernel
theorem dX2_findFault_53 : decode cX2_findFault 53 = .ok (.iinc 1 1, 3) := by decide +kernel
theorem dX2_findFault_56 : decode cX2_findFault 56 = .ok (.goto (-49), 3) := by decide +kernel
theorem dX2_findFault_59 : decode cX2_findFault 59 = .ok (.aload_n 0, 1) := by decide +kernel
theorem dX2_findFault_60 : decode cX2_findFault 60 = .ok (.getfield 25, 3) := by decide +kernel
theorem dX2_findFault_63 : decode cX2_findFault 63 = .ok (.ireturn, 1) := by decide +kernel
theorem dX2_readEntry_0 : decode cX2_readEntry 0 = .ok (.aload_n 0, 1) := by decide +kernel
theorem dX2_readEntry_1 : decode cX2_readEntry 1 = .ok (.aload_n 0, 1) := by decide +kernel
theorem dX2_readEntry_2 : decode cX2_readEntry 2 = .ok (.invokevirtual 36, 3) := by decide +kernel
theorem dX2_readEntry_5 : decode cX2_readEntry 5 = .ok (.putfield 40, 3) := by decide +kernel
theorem dX2_readEntry_8 : decode cX2_readEntry 8 = .ok (.aload_n 0, 1) := by decide +kernel
theorem dX2_readEntry_9 : decode cX2_readEntry 9 = .ok (.getfield 40, 3) := by decide +kernel
theorem dX2_readEntry_12 : decode cX2_readEntry 12 = .ok (.bipush 43, 2) := by decide +kernel
theorem dX2_readEntry_14 : decode cX2_readEntry 14 = .ok (.if_icmp .eq 41, 3) := by decide +kernel
theorem dX2_readEntry_17 : decode cX2_readEntry 17 = .ok (.aload_n 0, 1) := by decide +kernel
theorem dX2_readEntry_18 : decode cX2_readEntry 18 = .ok (.getfield 40, 3) := by decide +kernel
theorem dX2_readEntry_21 : decode cX2_readEntry 21 = .ok (.bipush 45, 2) := by decide +kernel
theorem dX2_readEntry_23 : decode cX2_readEntry 23 = .ok (.if_icmp .eq 32, 3) := by decide +kernel
theorem dX2_readEntry_26 : decode cX2_readEntry 26 = .ok (.aload_n 0, 1) := by decide +kernel
theorem dX2_readEntry_27 : decode cX2_readEntry 27 = .ok (.getfield 40, 3) := by decide +kernel
theorem dX2_readEntry_30 : decode cX2_readEntry 30 = .ok (.bipush 103, 2) := by decide +kernel
theorem dX2_readEntry_32 : decode cX2_readEntry 32 = .ok (.if_icmp .eq 23, 3) := by decide +kernel
theorem dX2_readEntry_35 : decode cX2_readEntry 35 = .ok (.aload_n 0, 1) := by decide +kernel
theorem dX2_readEntry_36 : decode cX2_readEntry 36 = .ok (.getfield 40, 3) := by decide +kernel
theorem dX2_readEntry_39 : decode cX2_readEntry 39 = .ok (.bipush 112, 2) := by decide +kernel
theorem dX2_readEntry_41 : decode cX2_readEntry 41 = .ok (.if_icmp .eq 14, 3) := by decide +kernel
theorem dX2_readEntry_44 : decode cX2_readEntry 44 = .ok (.aload_n 0, 1) := by decide +kernel
theorem dX2_readEntry_45 : decode cX2_readEntry 45 = .ok (.getfield 40, 3) := by decide +kernel
theorem dX2_readEntry_48 : decode cX2_readEntry 48 = .ok (.bipush 100, 2) := by decide +kernel
theorem dX2_readEntry_50 : decode cX2_readEntry 50 = .ok (.if_icmp .eq 5, 3) := by decide +kernel
theorem dX2_readEntry_53 : decode cX2_readEntry 53 = .ok (.iconst 0, 1) := by decide +kernel
theorem dX2_readEntry_54 : decode cX2_readEntry 54 = .ok (.ireturn, 1) := by decide +kernel
theorem dX2_readEntry_55 : decode cX2_readEntry 55 = .ok (.aload_n 0, 1) := by decide +kernel
theorem dX2_readEntry_56 : decode cX2_readEntry 56 = .ok (.dup, 1) := by decide +kernel
theorem dX2_readEntry_57 : decode cX2_readEntry 57 = .ok (.getfield 25, 3) := by decide +kernel
theorem dX2_readEntry_60 : decode cX2_readEntry 60 = .ok (.iconst 1, 1) := by decide +kernel
theorem dX2_readEntry_61 : decode cX2_readEntry 61 = .ok (.iadd, 1) := by decide +kernel
theorem dX2_readEntry_62 : decode cX2_readEntry 62 = .ok (.putfield 25, 3) := by decide +kernel
theorem dX2_readEntry_65 : decode cX2_readEntry 65 = .ok (.aload_n 0, 1) := by decide +kernel
theorem dX2_readEntry_66 : decode cX2_readEntry 66 = .ok (.getfield 40, 3) := by decide +kernel
theorem dX2_readEntry_69 : decode cX2_readEntry 69 = .ok (.bipush 43, 2) := by decide +kernel
theorem dX2_readEntry_71 : decode cX2_readEntry 71 = .ok (.if_icmp .eq 21, 3) := by decide +kernel
theorem dX2_readEntry_74 : decode cX2_readEntry 74 = .ok (.aload_n 0, 1) := by decide +kernel
theorem dX2_readEntry_75 : decode cX2_readEntry 75 = .ok (.getfield 40, 3) := by decide +kernel
theorem dX2_readEntry_78 : decode cX2_readEntry 78 = .ok (.bipush 103, 2) := by decide +kernel
theorem dX2_readEntry_80 : decode cX2_readEntry 80 = .ok (.if_icmp .eq 12, 3) := by decide +kernel
theorem dX2_readEntry_83 : decode cX2_readEntry 83 = .ok (.aload_n 0, 1) := by decide +kernel
theorem dX2_readEntry_84 : decode cX2_readEntry 84 = .ok (.getfield 40, 3) := by decide +kernel
theorem dX2_readEntry_87 : decode cX2_readEntry 87 = .ok (.bipush 112, 2) := by decide +kernel
theorem dX2_readEntry_89 : decode cX2_readEntry 89 = .ok (.if_icmp .ne 7, 3) := by decide +kernel
theorem dX2_readEntry_92 : decode cX2_readEntry 92 = .ok (.iconst 1, 1) := by decide +kernel
theorem dX2_readEntry_93 : decode cX2_readEntry 93 = .ok (.goto 4, 3) := by decide +kernel
theorem dX2_readEntry_96 : decode cX2_readEntry 96 = .ok (.iconst 0, 1) := by decide +kernel
theorem dX2_readEntry_97 : decode cX2_readEntry 97 = .ok (.istore_n 1, 1) := by decide +kernel
theorem dX2_readEntry_98 : decode cX2_readEntry 98 = .ok (.iload_n 1, 1) := by decide +kernel
theorem dX2_readEntry_99 : decode cX2_readEntry 99 = .ok (.ifCond .eq 12, 3) := by decide +kernel
theorem dX2_readEntry_102 : decode cX2_readEntry 102 = .ok (.aload_n 0, 1) := by decide +kernel
theorem dX2_readEntry_103 : decode cX2_readEntry 103 = .ok (.invokevirtual 43, 3) := by decide +kernel
theorem dX2_readEntry_106 : decode cX2_readEntry 106 = .ok (.ifCond .ne 5, 3) := by decide +kernel
theorem dX2_readEntry_109 : decode cX2_readEntry 109 = .ok (.iconst 0, 1) := by decide +kernel
theorem dX2_readEntry_110 : decode cX2_readEntry 110 = .ok (.ireturn, 1) := by decide +kernel
theorem dX2_readEntry_111 : decode cX2_readEntry 111 = .ok (.aload_n 0, 1) := by decide +kernel
theorem dX2_readEntry_112 : decode cX2_readEntry 112 = .ok (.invokevirtual 46, 3) := by decide +kernel
theorem dX2_readEntry_115 : decode cX2_readEntry 115 = .ok (.ifCond .ne 5, 3) := by decide +kernel
theorem dX2_readEntry_118 : decode cX2_readEntry 118 = .ok (.iconst 0, 1) := by decide +kernel
theorem dX2_readEntry_119 : decode cX2_readEntry 119 = .ok (.ireturn, 1) := by decide +kernel
theorem dX2_readEntry_120 : decode cX2_readEntry 120 = .ok (.aload_n 0, 1) := by decide +kernel
theorem dX2_readEntry_121 : decode cX2_readEntry 121 = .ok (.getfield 40, 3) := by decide +kernel
theorem dX2_readEntry_124 : decode cX2_readEntry 124 = .ok (.bipush 43, 2) := by decide +kernel
theorem dX2_readEntry_126 : decode cX2_readEntry 126 = .ok (.if_icmp .eq 14, 3) := by decide +kernel
theorem dX2_readEntry_129 : decode cX2_readEntry 129 = .ok (.aload_n 0, 1) := by decide +kernel
theorem dX2_readEntry_130 : decode cX2_readEntry 130 = .ok (.getfield 40, 3) := by decide +kernel
theorem dX2_readEntry_133 : decode cX2_readEntry 133 = .ok (.bipush 45, 2) := by decide +kernel
theorem dX2_readEntry_135 : decode cX2_readEntry 135 = .ok (.if_icmp .eq 5, 3) := by decide +kernel
theorem dX2_readEntry_138 : decode cX2_readEntry 138 = .ok (.iconst 1, 1) := by decide +kernel
theorem dX2_readEntry_139 : decode cX2_readEntry 139 = .ok (.ireturn, 1) := by decide +kernel
theorem dX2_readEntry_140 : decode cX2_readEntry 140 = .ok (.aload_n 0, 1) := by decide +kernel
theorem dX2_readEntry_141 : decode cX2_readEntry 141 = .ok (.getfield 49, 3) := by decide +kernel
theorem dX2_readEntry_144 : decode cX2_readEntry 144 = .ok (.istore_n 2, 1) := by decide +kernel
theorem dX2_readEntry_145 : decode cX2_readEntry 145 = .ok (.aload_n 0, 1) := by decide +kernel
theorem dX2_readEntry_146 : decode cX2_readEntry 146 = .ok (.bipush 58, 2) := by decide +kernel
theorem dX2_readEntry_148 : decode cX2_readEntry 148 = .ok (.invokevirtual 32, 3) := by decide +kernel
theorem dX2_readEntry_151 : decode cX2_readEntry 151 = .ok (.ifCond .eq 10, 3) := by decide +kernel
theorem dX2_readEntry_154 : decode cX2_readEntry 154 = .ok (.aload_n 0, 1) := by decide +kernel
theorem dX2_readEntry_155 : decode cX2_readEntry 155 = .ok (.invokevirtual 46, 3) := by decide +kernel
theorem dX2_readEntry_158 : decode cX2_readEntry 158 = .ok (.ifCond .ne 5, 3) := by decide +kernel
theorem dX2_readEntry_161 : decode cX2_readEntry 161 = .ok (.iconst 0, 1) := by decide +kernel
theorem dX2_readEntry_162 : decode cX2_readEntry 162 = .ok (.ireturn, 1) := by decide +kernel
theorem dX2_readEntry_163 : decode cX2_readEntry 163 = .ok (.aload_n 0, 1) := by decide +kernel
theorem dX2_readEntry_164 : decode cX2_readEntry 164 = .ok (.aload_n 0, 1) := by decide +kernel
theorem dX2_readEntry_165 : decode cX2_readEntry 165 = .ok (.getfield 49, 3) := by decide +kernel
theorem dX2_readEntry_168 : decode cX2_readEntry 168 = .ok (.putfield 52, 3) := by decide +kernel
theorem dX2_readEntry_171 : decode cX2_readEntry 171 = .ok (.aload_n 0, 1) := by decide +kernel
theorem dX2_readEntry_172 : decode cX2_readEntry 172 = .ok (.iload_n 2, 1) := by decide +kernel
theorem dX2_readEntry_173 : decode cX2_readEntry 173 = .ok (.putfield 49, 3) := by decide +kernel
theorem dX2_readEntry_176 : decode cX2_readEntry 176 = .ok (.iconst 1, 1) := by decide +kernel
theorem dX2_readEntry_177 : decode cX2_readEntry 177 = .ok (.ireturn, 1) := by decide +kernel
theorem dX2_readSign_0 : decode cX2_readSign 0 = .ok (.aload_n 0, 1) := by decide +kernel
theorem dX2_readSign_1 : decode cX2_readSign 1 = .ok (.invokevirtual 36, 3) := by decide +kernel
theorem dX2_readSign_4 : decode cX2_readSign 4 = .ok (.iload_n 1, 1) := by decide +kernel
theorem dX2_readSign_5 : decode cX2_readSign 5 = .ok (.if_icmp .eq 5, 3) := by decide +kernel
theorem dX2_readSign_8 : decode cX2_readSign 8 = .ok (.iconst 0, 1) := by decide +kernel
theorem dX2_readSign_9 : decode cX2_readSign 9 = .ok (.ireturn, 1) := by decide +kernel
theorem dX2_readSign_10 : decode cX2_readSign 10 = .ok (.aload_n 0, 1) := by decide +kernel
theorem dX2_readSign_11 : decode cX2_readSign 11 = .ok (.dup, 1) := by decide +kernel
theorem dX2_readSign_12 : decode cX2_readSign 12 = .ok (.getfield 25, 3) := by decide +kernel
theorem dX2_readSign_15 : decode cX2_readSign 15 = .ok (.iconst 1, 1) := by decide +kernel
theorem dX2_readSign_16 : decode cX2_readSign 16 = .ok (.iadd, 1) := by decide +kernel
theorem dX2_readSign_17 : decode cX2_readSign 17 = .ok (.putfield 25, 3) := by decide +kernel
theorem dX2_readSign_20 : decode cX2_readSign 20 = .ok (.iconst 1, 1) := by decide +kernel
theorem dX2_readSign_21 : decode cX2_readSign 21 = .ok (.ireturn, 1) := by decide +kernel
theorem dX2_readLetter_0 : decode cX2_readLetter 0 = .ok (.aload_n 0, 1) := by decide +kernel
theorem dX2_readLetter_1 : decode cX2_readLetter 1 = .ok (.aload_n 0, 1) := by decide +kernel
theorem dX2_readLetter_2 : decode cX2_readLetter 2 = .ok (.invokevirtual 36, 3) := by decide +kernel
theorem dX2_readLetter_5 : decode cX2_readLetter 5 = .ok (.bipush 65, 2) := by decide +kernel
theorem dX2_readLetter_7 : decode cX2_readLetter 7 = .ok (.isub, 1) := by decide +kernel
theorem dX2_readLetter_8 : decode cX2_readLetter 8 = .ok (.putfield 55, 3) := by decide +kernel
theorem dX2_readLetter_11 : decode cX2_readLetter 11 = .ok (.aload_n 0, 1) := by decide +kernel
theorem dX2_readLetter_12 : decode cX2_readLetter 12 = .ok (.getfield 55, 3) := by decide +kernel
theorem dX2_readLetter_15 : decode cX2_readLetter 15 = .ok (.ifCond .lt 12, 3) := by decide +kernel
theorem dX2_readLetter_18 : decode cX2_readLetter 18 = .ok (.aload_n 0, 1) := by decide +kernel
theorem dX2_readLetter_19 : decode cX2_readLetter 19 = .ok (.getfield 55, 3) := by decide +kernel
theorem dX2_readLetter_22 : decode cX2_readLetter 22 = .ok (.bipush 10, 2) := by decide +kernel
theorem dX2_readLetter_24 : decode cX2_readLetter 24 = .ok (.if_icmp .lt 5, 3) := by decide +kernel
theorem dX2_readLetter_27 : decode cX2_readLetter 27 = .ok (.iconst 0, 1) := by decide +kernel
theorem dX2_readLetter_28 : decode cX2_readLetter 28 = .ok (.ireturn, 1) := by decide +kernel
theorem dX2_readLetter_29 : decode cX2_readLetter 29 = .ok (.aload_n 0, 1) := by decide +kernel
theorem dX2_readLetter_30 : decode cX2_readLetter 30 = .ok (.dup, 1) := by decide +kernel
theorem dX2_readLetter_31 : decode cX2_readLetter 31 = .ok (.getfield 25, 3) := by decide +kernel
theorem dX2_readLetter_34 : decode cX2_readLetter 34 = .ok (.iconst 1, 1) := by decide +kernel
theorem dX2_readLetter_35 : decode cX2_readLetter 35 = .ok (.iadd, 1) := by decide +kernel
theorem dX2_readLetter_36 : decode cX2_readLetter 36 = .ok (.putfield 25, 3) := by decide +kernel
theorem dX2_readLetter_39 : decode cX2_readLetter 39 = .ok (.iconst 1, 1) := by decide +kernel
theorem dX2_readLetter_40 : decode cX2_readLetter 40 = .ok (.ireturn, 1) := by decide +kernel
theorem dX2_isDigit_0 : decode cX2_isDigit 0 = .ok (.aload_n 0, 1) := by decide +kernel
theorem dX2_isDigit_1 : decode cX2_isDigit 1 = .ok (.invokevirtual 36, 3) := by decide +kernel
theorem dX2_isDigit_4 : decode cX2_isDigit 4 = .ok (.bipush 48, 2) := by decide +kernel
theorem dX2_isDigit_6 : decode cX2_isDigit 6 = .ok (.if_icmp .lt 16, 3) := by decide +kernel
theorem dX2_isDigit_9 : decode cX2_isDigit 9 = .ok (.aload_n 0, 1) := by decide +kernel
theorem dX2_isDigit_10 : decode cX2_isDigit 10 = .ok (.invokevirtual 36, 3) := by decide +kernel
theorem dX2_isDigit_13 : decode cX2_isDigit 13 = .ok (.bipush 57, 2) := by decide +kernel
theorem dX2_isDigit_15 : decode cX2_isDigit 15 = .ok (.if_icmp .gt 7, 3) := by decide +kernel
theorem dX2_isDigit_18 : decode cX2_isDigit 18 = .ok (.iconst 1, 1) := by decide +kernel
theorem dX2_isDigit_19 : decode cX2_isDigit 19 = .ok (.goto 4, 3) := by decide +kernel
theorem dX2_isDigit_22 : decode cX2_isDigit 22 = .ok (.iconst 0, 1) := by decide +kernel
theorem dX2_isDigit_23 : decode cX2_isDigit 23 = .ok (.ireturn, 1) := by decide +kernel
theorem dX2_readNumber_0 : decode cX2_readNumber 0 = .ok (.aload_n 0, 1) := by decide +kernel
theorem dX2_readNumber_1 : decode cX2_readNumber 1 = .ok (.invokevirtual 58, 3) := by decide +kernel
theorem dX2_readNumber_4 : decode cX2_readNumber 4 = .ok (.ifCond .ne 5, 3) := by decide +kernel
theorem dX2_readNumber_7 : decode cX2_readNumber 7 = .ok (.iconst 0, 1) := by decide +kernel
theorem dX2_readNumber_8 : decode cX2_readNumber 8 = .ok (.ireturn, 1) := by decide +kernel
theorem dX2_readNumber_9 : decode cX2_readNumber 9 = .ok (.aload_n 0, 1) := by decide +kernel
theorem dX2_readNumber_10 : decode cX2_readNumber 10 = .ok (.aload_n 0, 1) := by decide +kernel
theorem dX2_readNumber_11 : decode cX2_readNumber 11 = .ok (.invokevirtual 36, 3) := by decide +kernel
theorem dX2_readNumber_14 : decode cX2_readNumber 14 = .ok (.bipush 48, 2) := by decide +kernel
theorem dX2_readNumber_16 : decode cX2_readNumber 16 = .ok (.isub, 1) := by decide +kernel
theorem dX2_readNumber_17 : decode cX2_readNumber 17 = .ok (.putfield 49, 3) := by decide +kernel
theorem dX2_readNumber_20 : decode cX2_readNumber 20 = .ok (.aload_n 0, 1) := by decide +kernel
theorem dX2_readNumber_21 : decode cX2_readNumber 21 = .ok (.dup, 1) := by decide +kernel
theorem dX2_readNumber_22 : decode cX2_readNumber 22 = .ok (.getfield 25, 3) := by decide +kernel
theorem dX2_readNumber_25 : decode cX2_readNumber 25 = .ok (.iconst 1, 1) := by decide +kernel
theorem dX2_readNumber_26 : decode cX2_readNumber 26 = .ok (.iadd, 1) := by decide +kernel
theorem dX2_readNumber_27 : decode cX2_readNumber 27 = .ok (.putfield 25, 3) := by decide +kernel
theorem dX2_readNumber_30 : decode cX2_readNumber 30 = .ok (.iconst 1, 1) := by decide +kernel
theorem dX2_readNumber_31 : decode cX2_readNumber 31 = .ok (.istore_n 1, 1) := by decide +kernel
theorem dX2_readNumber_32 : decode cX2_readNumber 32 = .ok (.iload_n 1, 1) := by decide +kernel
theorem dX2_readNumber_33 : decode cX2_readNumber 33 = .ok (.iconst 4, 1) := by decide +kernel
theorem dX2_readNumber_34 : decode cX2_readNumber 34 = .ok (.if_icmp .ge 52, 3) := by decide +kernel
theorem dX2_readNumber_37 : decode cX2_readNumber 37 = .ok (.aload_n 0, 1) := by decide +kernel
theorem dX2_readNumber_38 : decode cX2_readNumber 38 = .ok (.getfield 49, 3) := by decide +kernel
theorem dX2_readNumber_41 : decode cX2_readNumber 41 = .ok (.ifCond .le 45, 3) := by decide +kernel
theorem dX2_readNumber_44 : decode cX2_readNumber 44 = .ok (.aload_n 0, 1) := by decide +kernel
theorem dX2_readNumber_45 : decode cX2_readNumber 45 = .ok (.invokevirtual 58, 3) := by decide +kernel
theorem dX2_readNumber_48 : decode cX2_readNumber 48 = .ok (.ifCond .eq 38, 3) := by decide +kernel
theorem dX2_readNumber_51 : decode cX2_readNumber 51 = .ok (.aload_n 0, 1) := by decide +kernel
theorem dX2_readNumber_52 : decode cX2_readNumber 52 = .ok (.aload_n 0, 1) := by decide +kernel
theorem dX2_readNumber_53 : decode cX2_readNumber 53 = .ok (.getfield 49, 3) := by decide +kernel
theorem dX2_readNumber_56 : decode cX2_readNumber 56 = .ok (.bipush 10, 2) := by decide +kernel
theorem dX2_readNumber_58 : decode cX2_readNumber 58 = .ok (.imul, 1) := by decide +kernel
theorem dX2_readNumber_59 : decode cX2_readNumber 59 = .ok (.aload_n 0, 1) := by decide +kernel
theorem dX2_readNumber_60 : decode cX2_readNumber 60 = .ok (.invokevirtual 36, 3) := by decide +kernel
theorem dX2_readNumber_63 : decode cX2_readNumber 63 = .ok (.iadd, 1) := by decide +kernel
theorem dX2_readNumber_64 : decode cX2_readNumber 64 = .ok (.bipush 48, 2) := by decide +kernel
theorem dX2_readNumber_66 : decode cX2_readNumber 66 = .ok (.isub, 1) := by decide +kernel
theorem dX2_readNumber_67 : decode cX2_readNumber 67 = .ok (.putfield 49, 3) := by decide +kernel
theorem dX2_readNumber_70 : decode cX2_readNumber 70 = .ok (.aload_n 0, 1) := by decide +kernel
theorem dX2_readNumber_71 : decode cX2_readNumber 71 = .ok (.dup, 1) := by decide +kernel
theorem dX2_readNumber_72 : decode cX2_readNumber 72 = .ok (.getfield 25, 3) := by decide +kernel
theorem dX2_readNumber_75 : decode cX2_readNumber 75 = .ok (.iconst 1, 1) := by decide +kernel
theorem dX2_readNumber_76 : decode cX2_readNumber 76 = .ok (.iadd, 1) := by decide +kernel
theorem dX2_readNumber_77 : decode cX2_readNumber 77 = .ok (.putfield 25, 3) := by decide +kernel
theorem dX2_readNumber_80 : decode cX2_readNumber 80 = .ok (.iinc 1 1, 3) := by decide +kernel
theorem dX2_readNumber_83 : decode cX2_readNumber 83 = .ok (.goto (-51), 3) := by decide +kernel
theorem dX2_readNumber_86 : decode cX2_readNumber 86 = .ok (.iconst 1, 1) := by decide +kernel
theorem dX2_readNumber_87 : decode cX2_readNumber 87 = .ok (.ireturn, 1) := by decide +kernel
theorem dX3_init_0 : decode cX3_init 0 = .ok (.aload_n 0, 1) := by decide +kernel
theorem dX3_init_1 : decode cX3_init 1 = .ok (.invokespecial 3, 3) := by decide +kernel
theorem dX3_init_4 : decode cX3_init 4 = .ok (.aload_n 0, 1) := by decide +kernel
theorem dX3_init_5 : decode cX3_init 5 = .ok (.new 9, 3) := by decide +kernel
theorem dX3_init_8 : decode cX3_init 8 = .ok (.dup, 1) := by decide +kernel
theorem dX3_init_9 : decode cX3_init 9 = .ok (.invokespecial 11, 3) := by decide +kernel
theorem dX3_init_12 : decode cX3_init 12 = .ok (.putfield 12, 3) := by decide +kernel
theorem dX3_init_15 : decode cX3_init 15 = .ok (.aload_n 0, 1) := by decide +kernel
theorem dX3_init_16 : decode cX3_init 16 = .ok (.new 18, 3) := by decide +kernel
theorem dX3_init_19 : decode cX3_init 19 = .ok (.dup, 1) := by decide +kernel
theorem dX3_init_20 : decode cX3_init 20 = .ok (.invokespecial 20, 3) := by decide +kernel
theorem dX3_init_23 : decode cX3_init 23 = .ok (.putfield 21, 3) := by decide +kernel
theorem dX3_init_26 : decode cX3_init 26 = .ok (.aload_n 0, 1) := by decide +kernel
theorem dX3_init_27 : decode cX3_init 27 = .ok (.new 25, 3) := by decide +kernel
theorem dX3_init_30 : decode cX3_init 30 = .ok (.dup, 1) := by decide +kernel
theorem dX3_init_31 : decode cX3_init 31 = .ok (.iconst 5, 1) := by decide +kernel
theorem dX3_init_32 : decode cX3_init 32 = .ok (.invokespecial 27, 3) := by decide +kernel
theorem dX3_init_35 : decode cX3_init 35 = .ok (.putfield 30, 3) := by decide +kernel
theorem dX3_init_38 : decode cX3_init 38 = .ok (.aload_n 0, 1) := by decide +kernel
theorem dX3_init_39 : decode cX3_init 39 = .ok (.bipush 10, 2) := by decide +kernel
theorem dX3_init_41 : decode cX3_init 41 = .ok (.newarray .long, 2) := by decide +kernel
theorem dX3_init_43 : decode cX3_init 43 = .ok (.putfield 34, 3) := by decide +kernel
theorem dX3_init_46 : decode cX3_init 46 = .ok (.aload_n 0, 1) := by decide +kernel
theorem dX3_init_47 : decode cX3_init 47 = .ok (.new 25, 3) := by decide +kernel
theorem dX3_init_50 : decode cX3_init 50 = .ok (.dup, 1) := by decide +kernel
theorem dX3_init_51 : decode cX3_init 51 = .ok (.bipush 10, 2) := by decide +kernel
theorem dX3_init_53 : decode cX3_init 53 = .ok (.invokespecial 27, 3) := by decide +kernel
theorem dX3_init_56 : decode cX3_init 56 = .ok (.putfield 38, 3) := by decide +kernel
theorem dX3_init_59 : decode cX3_init 59 = .ok (.aload_n 0, 1) := by decide +kernel
theorem dX3_init_60 : decode cX3_init 60 = .ok (.new 25, 3) := by decide +kernel
theorem dX3_init_63 : decode cX3_init 63 = .ok (.dup, 1) := by decide +kernel
theorem dX3_init_64 : decode cX3_init 64 = .ok (.bipush 10, 2) := by decide +kernel
theorem dX3_init_66 : decode cX3_init 66 = .ok (.invokespecial 27, 3) := by decide +kernel
theorem dX3_init_69 : decode cX3_init 69 = .ok (.putfield 41, 3) := by decide +kernel
theorem dX3_init_72 : decode cX3_init 72 = .ok (.iconst 0, 1) := by decide +kernel
theorem dX3_init_73 : decode cX3_init 73 = .ok (.istore_n 1, 1) := by decide +kernel
theorem dX3_init_74 : decode cX3_init 74 = .ok (.iload_n 1, 1) := by decide +kernel
theorem dX3_init_75 : decode cX3_init 75 = .ok (.getstatic 44, 3) := by decide +kernel
theorem dX3_init_78 : decode cX3_init 78 = .ok (.arraylength, 1) := by decide +kernel
theorem dX3_init_79 : decode cX3_init 79 = .ok (.if_icmp .ge 22, 3) := by decide +kernel
theorem dX3_init_82 : decode cX3_init 82 = .ok (.aload_n 0, 1) := by decide +kernel
theorem dX3_init_83 : decode cX3_init 83 = .ok (.getfield 30, 3) := by decide +kernel
theorem dX3_init_86 : decode cX3_init 86 = .ok (.iload_n 1, 1) := by decide +kernel
theorem dX3_init_87 : decode cX3_init 87 = .ok (.getstatic 44, 3) := by decide +kernel
theorem dX3_init_90 : decode cX3_init 90 = .ok (.iload_n 1, 1) := by decide +kernel
theorem dX3_init_91 : decode cX3_init 91 = .ok (.iaload, 1) := by decide +kernel
theorem dX3_init_92 : decode cX3_init 92 = .ok (.invokevirtual 48, 3) := by decide +kernel
theorem dX3_init_95 : decode cX3_init 95 = .ok (.iinc 1 1, 3) := by decide +kernel
theorem dX3_init_98 : decode cX3_init 98 = .ok (.goto (-24), 3) := by decide +kernel
theorem dX3_init_101 : decode cX3_init 101 = .ok (.return_, 1) := by decide +kernel
theorem dX3_copy_0 : decode cX3_copy 0 = .ok (.aload_n 0, 1) := by decide +kernel
theorem dX3_copy_1 : decode cX3_copy 1 = .ok (.getfield 12, 3) := by decide +kernel
theorem dX3_copy_4 : decode cX3_copy 4 = .ok (.aload_n 1, 1) := by decide +kernel
theorem dX3_copy_5 : decode cX3_copy 5 = .ok (.getfield 12, 3) := by decide +kernel
theorem dX3_copy_8 : decode cX3_copy 8 = .ok (.invokevirtual 52, 3) := by decide +kernel
theorem dX3_copy_11 : decode cX3_copy 11 = .ok (.aload_n 0, 1) := by decide +kernel
theorem dX3_copy_12 : decode cX3_copy 12 = .ok (.getfield 21, 3) := by decide +kernel
theorem dX3_copy_15 : decode cX3_copy 15 = .ok (.aload_n 1, 1) := by decide +kernel
theorem dX3_copy_16 : decode cX3_copy 16 = .ok (.getfield 21, 3) := by decide +kernel
theorem dX3_copy_19 : decode cX3_copy 19 = .ok (.invokevirtual 56, 3) := by decide +kernel
theorem dX3_copy_22 : decode cX3_copy 22 = .ok (.aload_n 0, 1) := by decide +kernel
theorem dX3_copy_23 : decode cX3_copy 23 = .ok (.getfield 30, 3) := by decide +kernel
theorem dX3_copy_26 : decode cX3_copy 26 = .ok (.aload_n 1, 1) := by decide +kernel
theorem dX3_copy_27 : decode cX3_copy 27 = .ok (.getfield 30, 3) := by decide +kernel
theorem dX3_copy_30 : decode cX3_copy 30 = .ok (.invokevirtual 59, 3) := by decide +kernel
theorem dX3_copy_33 : decode cX3_copy 33 = .ok (.aload_n 1, 1) := by decide +kernel
theorem dX3_copy_34 : decode cX3_copy 34 = .ok (.getfield 34, 3) := by decide +kernel
theorem dX3_copy_37 : decode cX3_copy 37 = .ok (.iconst 0, 1) := by decide +kernel
theorem dX3_copy_38 : decode cX3_copy 38 = .ok (.aload_n 0, 1) := by decide +kernel
theorem dX3_copy_39 : decode cX3_copy 39 = .ok (.getfield 34, 3) := by decide +kernel
theorem dX3_copy_42 : decode cX3_copy 42 = .ok (.iconst 0, 1) := by decide +kernel
theorem dX3_copy_43 : decode cX3_copy 43 = .ok (.aload_n 0, 1) := by decide +kernel
theorem dX3_copy_44 : decode cX3_copy 44 = .ok (.getfield 34, 3) := by decide +kernel
theorem dX3_copy_47 : decode cX3_copy 47 = .ok (.arraylength, 1) := by decide +kernel
theorem dX3_copy_48 : decode cX3_copy 48 = .ok (.aload_n 1, 1) := by decide +kernel
theorem dX3_copy_49 : decode cX3_copy 49 = .ok (.getfield 34, 3) := by decide +kernel
theorem dX3_copy_52 : decode cX3_copy 52 = .ok (.arraylength, 1) := by decide +kernel
theorem dX3_copy_53 : decode cX3_copy 53 = .ok (.invokestatic 62, 3) := by decide +kernel
theorem dX3_copy_56 : decode cX3_copy 56 = .ok (.invokestatic 68, 3) := by decide +kernel
theorem dX3_copy_59 : decode cX3_copy 59 = .ok (.aload_n 0, 1) := by decide +kernel
theorem dX3_copy_60 : decode cX3_copy 60 = .ok (.getfield 38, 3) := by decide +kernel
theorem dX3_copy_63 : decode cX3_copy 63 = .ok (.aload_n 1, 1) := by decide +kernel
theorem dX3_copy_64 : decode cX3_copy 64 = .ok (.getfield 38, 3) := by decide +kernel
theorem dX3_copy_67 : decode cX3_copy 67 = .ok (.invokevirtual 59, 3) := by decide +kernel
theorem dX3_copy_70 : decode cX3_copy 70 = .ok (.aload_n 0, 1) := by decide +kernel
theorem dX3_copy_71 : decode cX3_copy 71 = .ok (.getfield 41, 3) := by decide +kernel
theorem dX3_copy_74 : decode cX3_copy 74 = .ok (.aload_n 1, 1) := by decide +kernel
theorem dX3_copy_75 : decode cX3_copy 75 = .ok (.getfield 41, 3) := by decide +kernel
theorem dX3_copy_78 : decode cX3_copy 78 = .ok (.invokevirtual 59, 3) := by decide +kernel
theorem dX3_copy_81 : decode cX3_copy 81 = .ok (.aload_n 0, 1) := by decide +kernel
theorem dX3_copy_82 : decode cX3_copy 82 = .ok (.aload_n 1, 1) := by decide +kernel
theorem dX3_copy_83 : decode cX3_copy 83 = .ok (.getfield 74, 3) := by decide +kernel
theorem dX3_copy_86 : decode cX3_copy 86 = .ok (.putfield 74, 3) := by decide +kernel
theorem dX3_copy_89 : decode cX3_copy 89 = .ok (.aload_n 0, 1) := by decide +kernel
theorem dX3_copy_90 : decode cX3_copy 90 = .ok (.aload_n 1, 1) := by decide +kernel
theorem dX3_copy_91 : decode cX3_copy 91 = .ok (.getfield 78, 3) := by decide +kernel
theorem dX3_copy_94 : decode cX3_copy 94 = .ok (.putfield 78, 3) := by decide +kernel
theorem dX3_copy_97 : decode cX3_copy 97 = .ok (.aload_n 0, 1) := by decide +kernel
theorem dX3_copy_98 : decode cX3_copy 98 = .ok (.aload_n 1, 1) := by decide +kernel
theorem dX3_copy_99 : decode cX3_copy 99 = .ok (.getfield 81, 3) := by decide +kernel
theorem dX3_copy_102 : decode cX3_copy 102 = .ok (.putfield 81, 3) := by decide +kernel
theorem dX3_copy_105 : decode cX3_copy 105 = .ok (.aload_n 0, 1) := by decide +kernel
theorem dX3_copy_106 : decode cX3_copy 106 = .ok (.aload_n 1, 1) := by decide +kernel
theorem dX3_copy_107 : decode cX3_copy 107 = .ok (.getfield 84, 3) := by decide +kernel
theorem dX3_copy_110 : decode cX3_copy 110 = .ok (.putfield 84, 3) := by decide +kernel
theorem dX3_copy_113 : decode cX3_copy 113 = .ok (.return_, 1) := by decide +kernel
theorem dX3_hasOwner_0 : decode cX3_hasOwner 0 = .ok (.iload_n 1, 1) := by decide +kernel
theorem dX3_hasOwner_1 : decode cX3_hasOwner 1 = .ok (.ifCond .lt 15, 3) := by decide +kernel
theorem dX3_hasOwner_4 : decode cX3_hasOwner 4 = .ok (.iload_n 1, 1) := by decide +kernel
theorem dX3_hasOwner_5 : decode cX3_hasOwner 5 = .ok (.aload_n 0, 1) := by decide +kernel
theorem dX3_hasOwner_6 : decode cX3_hasOwner 6 = .ok (.getfield 74, 3) := by decide +kernel
theorem dX3_hasOwner_9 : decode cX3_hasOwner 9 = .ok (.if_icmp .ge 7, 3) := by decide +kernel
theorem dX3_hasOwner_12 : decode cX3_hasOwner 12 = .ok (.iconst 1, 1) := by decide +kernel
theorem dX3_hasOwner_13 : decode cX3_hasOwner 13 = .ok (.goto 4, 3) := by decide +kernel
theorem dX3_hasOwner_16 : decode cX3_hasOwner 16 = .ok (.iconst 0, 1) := by decide +kernel
theorem dX3_hasOwner_17 : decode cX3_hasOwner 17 = .ok (.ireturn, 1) := by decide +kernel
theorem dX3_purseOf_0 : decode cX3_purseOf 0 = .ok (.iload_n 1, 1) := by decide +kernel
theorem dX3_purseOf_1 : decode cX3_purseOf 1 = .ok (.ifCond .lt 21, 3) := by decide +kernel
theorem dX3_purseOf_4 : decode cX3_purseOf 4 = .ok (.iload_n 1, 1) := by decide +kernel
theorem dX3_purseOf_5 : decode cX3_purseOf 5 = .ok (.aload_n 0, 1) := by decide +kernel
theorem dX3_purseOf_6 : decode cX3_purseOf 6 = .ok (.getfield 34, 3) := by decide +kernel
theorem dX3_purseOf_9 : decode cX3_purseOf 9 = .ok (.arraylength, 1) := by decide +kernel
theorem dX3_purseOf_10 : decode cX3_purseOf 10 = .ok (.if_icmp .ge 12, 3) := by decide +kernel
theorem dX3_purseOf_13 : decode cX3_purseOf 13 = .ok (.aload_n 0, 1) := by decide +kernel
theorem dX3_purseOf_14 : decode cX3_purseOf 14 = .ok (.getfield 34, 3) := by decide +kernel
theorem dX3_purseOf_17 : decode cX3_purseOf 17 = .ok (.iload_n 1, 1) := by decide +kernel
theorem dX3_purseOf_18 : decode cX3_purseOf 18 = .ok (.laload, 1) := by decide +kernel
theorem dX3_purseOf_19 : decode cX3_purseOf 19 = .ok (.goto 4, 3) := by decide +kernel
theorem dX3_purseOf_22 : decode cX3_purseOf 22 = .ok (.lconst 0, 1) := by decide +kernel
theorem dX3_purseOf_23 : decode cX3_purseOf 23 = .ok (.lreturn, 1) := by decide +kernel
theorem dX3_earn_0 : decode cX3_earn 0 = .ok (.iload_n 1, 1) := by decide +kernel
theorem dX3_earn_1 : decode cX3_earn 1 = .ok (.ifCond .lt 22, 3) := by decide +kernel
theorem dX3_earn_4 : decode cX3_earn 4 = .ok (.iload_n 1, 1) := by decide +kernel
theorem dX3_earn_5 : decode cX3_earn 5 = .ok (.aload_n 0, 1) := by decide +kernel
theorem dX3_earn_6 : decode cX3_earn 6 = .ok (.getfield 34, 3) := by decide +kernel
theorem dX3_earn_9 : decode cX3_earn 9 = .ok (.arraylength, 1) := by decide +kernel
theorem dX3_earn_10 : decode cX3_earn 10 = .ok (.if_icmp .ge 13, 3) := by decide +kernel
theorem dX3_earn_13 : decode cX3_earn 13 = .ok (.aload_n 0, 1) := by decide +kernel
theorem dX3_earn_14 : decode cX3_earn 14 = .ok (.getfield 34, 3) := by decide +kernel
theorem dX3_earn_17 : decode cX3_earn 17 = .ok (.iload_n 1, 1) := by decide +kernel
theorem dX3_earn_18 : decode cX3_earn 18 = .ok (.dup2, 1) := by decide +kernel
theorem dX3_earn_19 : decode cX3_earn 19 = .ok (.laload, 1) := by decide +kernel
theorem dX3_earn_20 : decode cX3_earn 20 = .ok (.lload_n 2, 1) := by decide +kernel
theorem dX3_earn_21 : decode cX3_earn 21 = .ok (.ladd, 1) := by decide +kernel
theorem dX3_earn_22 : decode cX3_earn 22 = .ok (.lastore, 1) := by decide +kernel
theorem dX3_earn_23 : decode cX3_earn 23 = .ok (.return_, 1) := by decide +kernel
theorem dX3_mayGet_0 : decode cX3_mayGet 0 = .ok (.iload_n 2, 1) := by decide +kernel
theorem dX3_mayGet_1 : decode cX3_mayGet 1 = .ok (.ifCond .eq 27, 3) := by decide +kernel
theorem dX3_mayGet_4 : decode cX3_mayGet 4 = .ok (.aload_n 0, 1) := by decide +kernel
theorem dX3_mayGet_5 : decode cX3_mayGet 5 = .ok (.getfield 12, 3) := by decide +kernel
theorem dX3_mayGet_8 : decode cX3_mayGet 8 = .ok (.getfield 87, 3) := by decide +kernel
theorem dX3_mayGet_11 : decode cX3_mayGet 11 = .ok (.iload_n 1, 1) := by decide +kernel
theorem dX3_mayGet_12 : decode cX3_mayGet 12 = .ok (.invokevirtual 90, 3) := by decide +kernel
theorem dX3_mayGet_15 : decode cX3_mayGet 15 = .ok (.iload_n 2, 1) := by decide +kernel
theorem dX3_mayGet_16 : decode cX3_mayGet 16 = .ok (.iadd, 1) := by decide +kernel
theorem dX3_mayGet_17 : decode cX3_mayGet 17 = .ok (.aload_n 0, 1) := by decide +kernel
theorem dX3_mayGet_18 : decode cX3_mayGet 18 = .ok (.getfield 30, 3) := by decide +kernel
theorem dX3_mayGet_21 : decode cX3_mayGet 21 = .ok (.iconst 4, 1) := by decide +kernel
theorem dX3_mayGet_22 : decode cX3_mayGet 22 = .ok (.invokevirtual 90, 3) := by decide +kernel
theorem dX3_mayGet_25 : decode cX3_mayGet 25 = .ok (.if_icmp .gt 7, 3) := by decide +kernel
theorem dX3_mayGet_28 : decode cX3_mayGet 28 = .ok (.iconst 1, 1) := by decide +kernel
theorem dX3_mayGet_29 : decode cX3_mayGet 29 = .ok (.goto 4, 3) := by decide +kernel
theorem dX3_mayGet_32 : decode cX3_mayGet 32 = .ok (.iconst 0, 1) := by decide +kernel
theorem dX3_mayGet_33 : decode cX3_mayGet 33 = .ok (.ireturn, 1) := by decide +kernel
theorem dX3_taxOf_0 : decode cX3_taxOf 0 = .ok (.aload_n 0, 1) := by decide +kernel
theorem dX3_taxOf_1 : decode cX3_taxOf 1 = .ok (.getfield 12, 3) := by decide +kernel
theorem dX3_taxOf_4 : decode cX3_taxOf 4 = .ok (.getfield 87, 3) := by decide +kernel
theorem dX3_taxOf_7 : decode cX3_taxOf 7 = .ok (.iload_n 1, 1) := by decide +kernel
theorem dX3_taxOf_8 : decode cX3_taxOf 8 = .ok (.invokevirtual 90, 3) := by decide +kernel
theorem dX3_taxOf_11 : decode cX3_taxOf 11 = .ok (.bipush 9, 2) := by decide +kernel
theorem dX3_taxOf_13 : decode cX3_taxOf 13 = .ok (.iadd, 1) := by decide +kernel
theorem dX3_taxOf_14 : decode cX3_taxOf 14 = .ok (.bipush 10, 2) := by decide +kernel
theorem dX3_taxOf_16 : decode cX3_taxOf 16 = .ok (.idiv, 1) := by decide +kernel
theorem dX3_taxOf_17 : decode cX3_taxOf 17 = .ok (.istore_n 2, 1) := by decide +kernel
theorem dX3_taxOf_18 : decode cX3_taxOf 18 = .ok (.aload_n 0, 1) := by decide +kernel
theorem dX3_taxOf_19 : decode cX3_taxOf 19 = .ok (.getfield 12, 3) := by decide +kernel
theorem dX3_taxOf_22 : decode cX3_taxOf 22 = .ok (.getfield 94, 3) := by decide +kernel
theorem dX3_taxOf_25 : decode cX3_taxOf 25 = .ok (.iload_n 1, 1) := by decide +kernel
theorem dX3_taxOf_26 : decode cX3_taxOf 26 = .ok (.invokevirtual 90, 3) := by decide +kernel
theorem dX3_taxOf_29 : decode cX3_taxOf 29 = .ok (.aload_n 0, 1) := by decide +kernel
theorem dX3_taxOf_30 : decode cX3_taxOf 30 = .ok (.getfield 30, 3) := by decide +kernel
theorem dX3_taxOf_33 : decode cX3_taxOf 33 = .ok (.iconst 1, 1) := by decide +kernel
theorem dX3_taxOf_34 : decode cX3_taxOf 34 = .ok (.invokevirtual 90, 3) := by decide +kernel
theorem dX3_taxOf_37 : decode cX3_taxOf 37 = .ok (.imul, 1) := by decide +kernel
theorem dX3_taxOf_38 : decode cX3_taxOf 38 = .ok (.iload_n 2, 1) := by decide +kernel
theorem dX3_taxOf_39 : decode cX3_taxOf 39 = .ok (.aload_n 0, 1) := by decide +kernel
theorem dX3_taxOf_40 : decode cX3_taxOf 40 = .ok (.getfield 30, 3) := by decide +kernel
theorem dX3_taxOf_43 : decode cX3_taxOf 43 = .ok (.iconst 0, 1) := by decide +kernel
theorem dX3_taxOf_44 : decode cX3_taxOf 44 = .ok (.invokevirtual 90, 3) := by decide +kernel
theorem dX3_taxOf_47 : decode cX3_taxOf 47 = .ok (.imul, 1) := by decide +kernel
theorem dX3_taxOf_48 : decode cX3_taxOf 48 = .ok (.iadd, 1) := by decide +kernel
theorem dX3_taxOf_49 : decode cX3_taxOf 49 = .ok (.ireturn, 1) := by decide +kernel
theorem dX3_passDay_0 : decode cX3_passDay 0 = .ok (.iconst 0, 1) := by decide +kernel
theorem dX3_passDay_1 : decode cX3_passDay 1 = .ok (.istore_n 1, 1) := by decide +kernel
theorem dX3_passDay_2 : decode cX3_passDay 2 = .ok (.iload_n 1, 1) := by decide +kernel
theorem dX3_passDay_3 : decode cX3_passDay 3 = .ok (.aload_n 0, 1) := by decide +kernel
theorem dX3_passDay_4 : decode cX3_passDay 4 = .ok (.getfield 74, 3) := by decide +kernel
theorem dX3_passDay_7 : decode cX3_passDay 7 = .ok (.if_icmp .ge 24, 3) := by decide +kernel
theorem dX3_passDay_10 : decode cX3_passDay 10 = .ok (.aload_n 0, 1) := by decide +kernel
theorem dX3_passDay_11 : decode cX3_passDay 11 = .ok (.iload_n 1, 1) := by decide +kernel
theorem dX3_passDay_12 : decode cX3_passDay 12 = .ok (.aload_n 0, 1) := by decide +kernel
theorem dX3_passDay_13 : decode cX3_passDay 13 = .ok (.iload_n 1, 1) := by decide +kernel
theorem dX3_passDay_14 : decode cX3_passDay 14 = .ok (.invokevirtual 97, 3) := by decide +kernel
theorem dX3_passDay_17 : decode cX3_passDay 17 = .ok (.invokevirtual 100, 3) := by decide +kernel
theorem dX3_passDay_20 : decode cX3_passDay 20 = .ok (.aload_n 0, 1) := by decide +kernel
theorem dX3_passDay_21 : decode cX3_passDay 21 = .ok (.iload_n 1, 1) := by decide +kernel
theorem dX3_passDay_22 : decode cX3_passDay 22 = .ok (.invokevirtual 103, 3) := by decide +kernel
theorem dX3_passDay_25 : decode cX3_passDay 25 = .ok (.iinc 1 1, 3) := by decide +kernel
theorem dX3_passDay_28 : decode cX3_passDay 28 = .ok (.goto (-26), 3) := by decide +kernel
theorem dX3_passDay_31 : decode cX3_passDay 31 = .ok (.aload_n 0, 1) := by decide +kernel
theorem dX3_passDay_32 : decode cX3_passDay 32 = .ok (.dup, 1) := by decide +kernel
theorem dX3_passDay_33 : decode cX3_passDay 33 = .ok (.getfield 78, 3) := by decide +kernel
theorem dX3_passDay_36 : decode cX3_passDay 36 = .ok (.iconst 1, 1) := by decide +kernel
theorem dX3_passDay_37 : decode cX3_passDay 37 = .ok (.iadd, 1) := by decide +kernel
theorem dX3_passDay_38 : decode cX3_passDay 38 = .ok (.putfield 78, 3) := by decide +kernel
theorem dX3_passDay_41 : decode cX3_passDay 41 = .ok (.return_, 1) := by decide +kernel
theorem dX3_chargeTax_0 : decode cX3_chargeTax 0 = .ok (.aload_n 0, 1) := by decide +kernel
theorem dX3_chargeTax_1 : decode cX3_chargeTax 1 = .ok (.iload_n 1, 1) := by decide +kernel
theorem dX3_chargeTax_2 : decode cX3_chargeTax 2 = .ok (.iload_n 2, 1) := by decide +kernel
theorem dX3_chargeTax_3 : decode cX3_chargeTax 3 = .ok (.ineg, 1) := by decide +kernel
theorem dX3_chargeTax_4 : decode cX3_chargeTax 4 = .ok (.i2l, 1) := by decide +kernel
theorem dX3_chargeTax_5 : decode cX3_chargeTax 5 = .ok (.invokevirtual 106, 3) := by decide +kernel
theorem dX3_chargeTax_8 : decode cX3_chargeTax 8 = .ok (.aload_n 0, 1) := by decide +kernel
theorem dX3_chargeTax_9 : decode cX3_chargeTax 9 = .ok (.getfield 38, 3) := by decide +kernel
theorem dX3_chargeTax_12 : decode cX3_chargeTax 12 = .ok (.iload_n 1, 1) := by decide +kernel
theorem dX3_chargeTax_13 : decode cX3_chargeTax 13 = .ok (.iload_n 2, 1) := by decide +kernel
theorem dX3_chargeTax_14 : decode cX3_chargeTax 14 = .ok (.invokevirtual 110, 3) := by decide +kernel
theorem dX3_chargeTax_17 : decode cX3_chargeTax 17 = .ok (.return_, 1) := by decide +kernel
theorem dX3_loseRanges_0 : decode cX3_loseRanges 0 = .ok (.aload_n 0, 1) := by decide +kernel
theorem dX3_loseRanges_1 : decode cX3_loseRanges 1 = .ok (.getfield 12, 3) := by decide +kernel
theorem dX3_loseRanges_4 : decode cX3_loseRanges 4 = .ok (.getfield 94, 3) := by decide +kernel
theorem dX3_loseRanges_7 : decode cX3_loseRanges 7 = .ok (.iload_n 1, 1) := by decide +kernel
theorem dX3_loseRanges_8 : decode cX3_loseRanges 8 = .ok (.invokevirtual 90, 3) := by decide +kernel
theorem dX3_loseRanges_11 : decode cX3_loseRanges 11 = .ok (.istore_n 2, 1) := by decide +kernel
theorem dX3_loseRanges_12 : decode cX3_loseRanges 12 = .ok (.iload_n 2, 1) := by decide +kernel
theorem dX3_loseRanges_13 : decode cX3_loseRanges 13 = .ok (.ifCond .le 75, 3) := by decide +kernel
theorem dX3_loseRanges_16 : decode cX3_loseRanges 16 = .ok (.aload_n 0, 1) := by decide +kernel
theorem dX3_loseRanges_17 : decode cX3_loseRanges 17 = .ok (.iload_n 1, 1) := by decide +kernel
theorem dX3_loseRanges_18 : decode cX3_loseRanges 18 = .ok (.invokevirtual 113, 3) := by decide +kernel
theorem dX3_loseRanges_21 : decode cX3_loseRanges 21 = .ok (.lconst 0, 1) := by decide +kernel
theorem dX3_loseRanges_22 : decode cX3_loseRanges 22 = .ok (.lcmp, 1) := by decide +kernel
theorem dX3_loseRanges_23 : decode cX3_loseRanges 23 = .ok (.ifCond .ge 65, 3) := by decide +kernel
theorem dX3_loseRanges_26 : decode cX3_loseRanges 26 = .ok (.aload_n 0, 1) := by decide +kernel
theorem dX3_loseRanges_27 : decode cX3_loseRanges 27 = .ok (.getfield 12, 3) := by decide +kernel
theorem dX3_loseRanges_30 : decode cX3_loseRanges 30 = .ok (.iload_n 1, 1) := by decide +kernel
theorem dX3_loseRanges_31 : decode cX3_loseRanges 31 = .ok (.invokevirtual 117, 3) := by decide +kernel
theorem dX3_loseRanges_34 : decode cX3_loseRanges 34 = .ok (.istore_n 3, 1) := by decide +kernel
theorem dX3_loseRanges_35 : decode cX3_loseRanges 35 = .ok (.aload_n 0, 1) := by decide +kernel
theorem dX3_loseRanges_36 : decode cX3_loseRanges 36 = .ok (.iload_n 1, 1) := by decide +kernel
theorem dX3_loseRanges_37 : decode cX3_loseRanges 37 = .ok (.invokevirtual 97, 3) := by decide +kernel
theorem dX3_loseRanges_40 : decode cX3_loseRanges 40 = .ok (.istore 4, 2) := by decide +kernel
theorem dX3_loseRanges_42 : decode cX3_loseRanges 42 = .ok (.aload_n 0, 1) := by decide +kernel
theorem dX3_loseRanges_43 : decode cX3_loseRanges 43 = .ok (.getfield 41, 3) := by decide +kernel
theorem dX3_loseRanges_46 : decode cX3_loseRanges 46 = .ok (.iload_n 1, 1) := by decide +kernel
theorem dX3_loseRanges_47 : decode cX3_loseRanges 47 = .ok (.aload_n 0, 1) := by decide +kernel
theorem dX3_loseRanges_48 : decode cX3_loseRanges 48 = .ok (.getfield 12, 3) := by decide +kernel
theorem dX3_loseRanges_51 : decode cX3_loseRanges 51 = .ok (.getfield 120, 3) := by decide +kernel
theorem dX3_loseRanges_54 : decode cX3_loseRanges 54 = .ok (.iload_n 3, 1) := by decide +kernel
theorem dX3_loseRanges_55 : decode cX3_loseRanges 55 = .ok (.invokevirtual 90, 3) := by decide +kernel
theorem dX3_loseRanges_58 : decode cX3_loseRanges 58 = .ok (.invokevirtual 110, 3) := by decide +kernel
theorem dX3_loseRanges_61 : decode cX3_loseRanges 61 = .ok (.aload_n 0, 1) := by decide +kernel
theorem dX3_loseRanges_62 : decode cX3_loseRanges 62 = .ok (.getfield 12, 3) := by decide +kernel
theorem dX3_loseRanges_65 : decode cX3_loseRanges 65 = .ok (.iload_n 3, 1) := by decide +kernel
theorem dX3_loseRanges_66 : decode cX3_loseRanges 66 = .ok (.invokevirtual 123, 3) := by decide +kernel
theorem dX3_loseRanges_69 : decode cX3_loseRanges 69 = .ok (.aload_n 0, 1) := by decide +kernel
theorem dX3_loseRanges_70 : decode cX3_loseRanges 70 = .ok (.iload_n 1, 1) := by decide +kernel
theorem dX3_loseRanges_71 : decode cX3_loseRanges 71 = .ok (.aload_n 0, 1) := by decide +kernel
theorem dX3_loseRanges_72 : decode cX3_loseRanges 72 = .ok (.iload_n 1, 1) := by decide +kernel
theorem dX3_loseRanges_73 : decode cX3_loseRanges 73 = .ok (.invokevirtual 97, 3) := by decide +kernel
theorem dX3_loseRanges_76 : decode cX3_loseRanges 76 = .ok (.iload 4, 2) := by decide +kernel
theorem dX3_loseRanges_78 : decode cX3_loseRanges 78 = .ok (.isub, 1) := by decide +kernel
theorem dX3_loseRanges_79 : decode cX3_loseRanges 79 = .ok (.invokevirtual 100, 3) := by decide +kernel
theorem dX3_loseRanges_82 : decode cX3_loseRanges 82 = .ok (.iinc 2 (-1), 3) := by decide +kernel
theorem dX3_loseRanges_85 : decode cX3_loseRanges 85 = .ok (.goto (-73), 3) := by decide +kernel
theorem dX3_loseRanges_88 : decode cX3_loseRanges 88 = .ok (.return_, 1) := by decide +kernel
theorem dX3_daysToLoss_0 : decode cX3_daysToLoss 0 = .ok (.aload_n 0, 1) := by decide +kernel
theorem dX3_daysToLoss_1 : decode cX3_daysToLoss 1 = .ok (.iload_n 1, 1) := by decide +kernel
theorem dX3_daysToLoss_2 : decode cX3_daysToLoss 2 = .ok (.invokevirtual 97, 3) := by decide +kernel
theorem dX3_daysToLoss_5 : decode cX3_daysToLoss 5 = .ok (.istore_n 2, 1) := by decide +kernel
theorem dX3_daysToLoss_6 : decode cX3_daysToLoss 6 = .ok (.aload_n 0, 1) := by decide +kernel
theorem dX3_daysToLoss_7 : decode cX3_daysToLoss 7 = .ok (.iload_n 1, 1) := by decide +kernel
theorem dX3_daysToLoss_8 : decode cX3_daysToLoss 8 = .ok (.invokevirtual 113, 3) := by decide +kernel
theorem dX3_daysToLoss_11 : decode cX3_daysToLoss 11 = .ok (.lstore_n 3, 1) := by decide +kernel
theorem dX3_daysToLoss_12 : decode cX3_daysToLoss 12 = .ok (.iconst 1, 1) := by decide +kernel
theorem dX3_daysToLoss_13 : decode cX3_daysToLoss 13 = .ok (.istore 5, 2) := by decide +kernel
theorem dX3_daysToLoss_15 : decode cX3_daysToLoss 15 = .ok (.iload 5, 2) := by decide +kernel
theorem dX3_daysToLoss_17 : decode cX3_daysToLoss 17 = .ok (.sipush 300, 3) := by decide +kernel
theorem dX3_daysToLoss_20 : decode cX3_daysToLoss 20 = .ok (.if_icmp .gt 37, 3) := by decide +kernel
theorem dX3_daysToLoss_23 : decode cX3_daysToLoss 23 = .ok (.aload_n 0, 1) := by decide +kernel
theorem dX3_daysToLoss_24 : decode cX3_daysToLoss 24 = .ok (.getfield 12, 3) := by decide +kernel
theorem dX3_daysToLoss_27 : decode cX3_daysToLoss 27 = .ok (.getfield 94, 3) := by decide +kernel
theorem dX3_daysToLoss_30 : decode cX3_daysToLoss 30 = .ok (.iload_n 1, 1) := by decide +kernel
theorem dX3_daysToLoss_31 : decode cX3_daysToLoss 31 = .ok (.invokevirtual 90, 3) := by decide +kernel
theorem dX3_daysToLoss_34 : decode cX3_daysToLoss 34 = .ok (.ifCond .le 23, 3) := by decide +kernel
theorem dX3_daysToLoss_37 : decode cX3_daysToLoss 37 = .ok (.lload_n 3, 1) := by decide +kernel
theorem dX3_daysToLoss_38 : decode cX3_daysToLoss 38 = .ok (.iload_n 2, 1) := by decide +kernel
theorem dX3_daysToLoss_39 : decode cX3_daysToLoss 39 = .ok (.i2l, 1) := by decide +kernel
theorem dX3_daysToLoss_40 : decode cX3_daysToLoss 40 = .ok (.lsub, 1) := by decide +kernel
theorem dX3_daysToLoss_41 : decode cX3_daysToLoss 41 = .ok (.lstore_n 3, 1) := by decide +kernel
theorem dX3_daysToLoss_42 : decode cX3_daysToLoss 42 = .ok (.lload_n 3, 1) := by decide +kernel
theorem dX3_daysToLoss_43 : decode cX3_daysToLoss 43 = .ok (.lconst 0, 1) := by decide +kernel
theorem dX3_daysToLoss_44 : decode cX3_daysToLoss 44 = .ok (.lcmp, 1) := by decide +kernel
theorem dX3_daysToLoss_45 : decode cX3_daysToLoss 45 = .ok (.ifCond .ge 6, 3) := by decide +kernel
theorem dX3_daysToLoss_48 : decode cX3_daysToLoss 48 = .ok (.iload 5, 2) := by decide +kernel
theorem dX3_daysToLoss_50 : decode cX3_daysToLoss 50 = .ok (.ireturn, 1) := by decide +kernel
theorem dX3_daysToLoss_51 : decode cX3_daysToLoss 51 = .ok (.iinc 5 1, 3) := by decide +kernel
theorem dX3_daysToLoss_54 : decode cX3_daysToLoss 54 = .ok (.goto (-39), 3) := by decide +kernel
theorem dX3_daysToLoss_57 : decode cX3_daysToLoss 57 = .ok (.bipush (-6), 2) := by decide +kernel
theorem dX3_daysToLoss_59 : decode cX3_daysToLoss 59 = .ok (.ireturn, 1) := by decide +kernel
theorem dX3_carryTransfer_0 : decode cX3_carryTransfer 0 = .ok (.aload_n 0, 1) := by decide +kernel
theorem dX3_carryTransfer_1 : decode cX3_carryTransfer 1 = .ok (.getfield 21, 3) := by decide +kernel
theorem dX3_carryTransfer_4 : decode cX3_carryTransfer 4 = .ok (.iload_n 1, 1) := by decide +kernel
theorem dX3_carryTransfer_5 : decode cX3_carryTransfer 5 = .ok (.iconst 0, 1) := by decide +kernel
theorem dX3_carryTransfer_6 : decode cX3_carryTransfer 6 = .ok (.invokevirtual 126, 3) := by decide +kernel
theorem dX3_carryTransfer_9 : decode cX3_carryTransfer 9 = .ok (.istore_n 3, 1) := by decide +kernel
theorem dX3_carryTransfer_10 : decode cX3_carryTransfer 10 = .ok (.aload_n 0, 1) := by decide +kernel
theorem dX3_carryTransfer_11 : decode cX3_carryTransfer 11 = .ok (.getfield 21, 3) := by decide +kernel
theorem dX3_carryTransfer_14 : decode cX3_carryTransfer 14 = .ok (.iload_n 1, 1) := by decide +kernel
theorem dX3_carryTransfer_15 : decode cX3_carryTransfer 15 = .ok (.iconst 1, 1) := by decide +kernel
theorem dX3_carryTransfer_16 : decode cX3_carryTransfer 16 = .ok (.invokevirtual 126, 3) := by decide +kernel
theorem dX3_carryTransfer_19 : decode cX3_carryTransfer 19 = .ok (.istore 4, 2) := by decide +kernel
theorem dX3_carryTransfer_21 : decode cX3_carryTransfer 21 = .ok (.aload_n 0, 1) := by decide +kernel
theorem dX3_carryTransfer_22 : decode cX3_carryTransfer 22 = .ok (.getfield 21, 3) := by decide +kernel
theorem dX3_carryTransfer_25 : decode cX3_carryTransfer 25 = .ok (.iload_n 1, 1) := by decide +kernel
theorem dX3_carryTransfer_26 : decode cX3_carryTransfer 26 = .ok (.iconst 2, 1) := by decide +kernel
theorem dX3_carryTransfer_27 : decode cX3_carryTransfer 27 = .ok (.invokevirtual 126, 3) := by decide +kernel
theorem dX3_carryTransfer_30 : decode cX3_carryTransfer 30 = .ok (.istore 5, 2) := by decide +kernel
theorem dX3_carryTransfer_32 : decode cX3_carryTransfer 32 = .ok (.aload_n 0, 1) := by decide +kernel
theorem dX3_carryTransfer_33 : decode cX3_carryTransfer 33 = .ok (.getfield 21, 3) := by decide +kernel
theorem dX3_carryTransfer_36 : decode cX3_carryTransfer 36 = .ok (.iload_n 1, 1) := by decide +kernel
theorem dX3_carryTransfer_37 : decode cX3_carryTransfer 37 = .ok (.iconst 3, 1) := by decide +kernel
theorem dX3_carryTransfer_38 : decode cX3_carryTransfer 38 = .ok (.invokevirtual 126, 3) := by decide +kernel
theorem dX3_carryTransfer_41 : decode cX3_carryTransfer 41 = .ok (.istore 6, 2) := by decide +kernel
theorem dX3_carryTransfer_43 : decode cX3_carryTransfer 43 = .ok (.aload_n 0, 1) := by decide +kernel
theorem dX3_carryTransfer_44 : decode cX3_carryTransfer 44 = .ok (.getfield 21, 3) := by decide +kernel
theorem dX3_carryTransfer_47 : decode cX3_carryTransfer 47 = .ok (.iload_n 1, 1) := by decide +kernel
theorem dX3_carryTransfer_48 : decode cX3_carryTransfer 48 = .ok (.iconst 4, 1) := by decide +kernel
theorem dX3_carryTransfer_49 : decode cX3_carryTransfer 49 = .ok (.invokevirtual 126, 3) := by decide +kernel
theorem dX3_carryTransfer_52 : decode cX3_carryTransfer 52 = .ok (.istore 7, 2) := by decide +kernel
theorem dX3_carryTransfer_54 : decode cX3_carryTransfer 54 = .ok (.aload_n 0, 1) := by decide +kernel
theorem dX3_carryTransfer_55 : decode cX3_carryTransfer 55 = .ok (.getfield 30, 3) := by decide +kernel
theorem dX3_carryTransfer_58 : decode cX3_carryTransfer 58 = .ok (.iconst 2, 1) := by decide +kernel
theorem dX3_carryTransfer_59 : decode cX3_carryTransfer 59 = .ok (.invokevirtual 90, 3) := by decide +kernel
theorem dX3_carryTransfer_62 : decode cX3_carryTransfer 62 = .ok (.istore 8, 2) := by decide +kernel
theorem dX3_carryTransfer_64 : decode cX3_carryTransfer 64 = .ok (.aload_n 0, 1) := by decide +kernel
theorem dX3_carryTransfer_65 : decode cX3_carryTransfer 65 = .ok (.getfield 12, 3) := by decide +kernel
theorem dX3_carryTransfer_68 : decode cX3_carryTransfer 68 = .ok (.iload_n 3, 1) := by decide +kernel
theorem dX3_carryTransfer_69 : decode cX3_carryTransfer 69 = .ok (.iload 5, 2) := by decide +kernel
theorem dX3_carryTransfer_71 : decode cX3_carryTransfer 71 = .ok (.iload 6, 2) := by decide +kernel
theorem dX3_carryTransfer_73 : decode cX3_carryTransfer 73 = .ok (.invokevirtual 129, 3) := by decide +kernel
theorem dX3_carryTransfer_76 : decode cX3_carryTransfer 76 = .ok (.iload 6, 2) := by decide +kernel
theorem dX3_carryTransfer_78 : decode cX3_carryTransfer 78 = .ok (.if_icmp .ne 30, 3) := by decide +kernel
theorem dX3_carryTransfer_81 : decode cX3_carryTransfer 81 = .ok (.aload_n 0, 1) := by decide +kernel
theorem dX3_carryTransfer_82 : decode cX3_carryTransfer 82 = .ok (.iload 4, 2) := by decide +kernel
theorem dX3_carryTransfer_84 : decode cX3_carryTransfer 84 = .ok (.invokevirtual 113, 3) := by decide +kernel
theorem dX3_carryTransfer_87 : decode cX3_carryTransfer 87 = .ok (.iload 7, 2) := by decide +kernel
theorem dX3_carryTransfer_89 : decode cX3_carryTransfer 89 = .ok (.iload 8, 2) := by decide +kernel
theorem dX3_carryTransfer_91 : decode cX3_carryTransfer 91 = .ok (.iadd, 1) := by decide +kernel
theorem dX3_carryTransfer_92 : decode cX3_carryTransfer 92 = .ok (.i2l, 1) := by decide +kernel
theorem dX3_carryTransfer_93 : decode cX3_carryTransfer 93 = .ok (.lcmp, 1) := by decide +kernel
theorem dX3_carryTransfer_94 : decode cX3_carryTransfer 94 = .ok (.ifCond .lt 14, 3) := by decide +kernel
theorem dX3_carryTransfer_97 : decode cX3_carryTransfer 97 = .ok (.aload_n 0, 1) := by decide +kernel
theorem dX3_carryTransfer_98 : decode cX3_carryTransfer 98 = .ok (.iload 4, 2) := by decide +kernel
theorem dX3_carryTransfer_100 : decode cX3_carryTransfer 100 = .ok (.iload 6, 2) := by decide +kernel
theorem dX3_carryTransfer_102 : decode cX3_carryTransfer 102 = .ok (.invokevirtual 133, 3) := by decide +kernel
theorem dX3_carryTransfer_105 : decode cX3_carryTransfer 105 = .ok (.ifCond .ne 5, 3) := by decide +kernel
theorem dX3_carryTransfer_108 : decode cX3_carryTransfer 108 = .ok (.iconst 0, 1) := by decide +kernel
theorem dX3_carryTransfer_109 : decode cX3_carryTransfer 109 = .ok (.ireturn, 1) := by decide +kernel
theorem dX3_carryTransfer_110 : decode cX3_carryTransfer 110 = .ok (.aload_n 2, 1) := by decide +kernel
theorem dX3_carryTransfer_111 : decode cX3_carryTransfer 111 = .ok (.aload_n 0, 1) := by decide +kernel
theorem dX3_carryTransfer_112 : decode cX3_carryTransfer 112 = .ok (.getfield 12, 3) := by decide +kernel
theorem dX3_carryTransfer_115 : decode cX3_carryTransfer 115 = .ok (.iload 4, 2) := by decide +kernel
theorem dX3_carryTransfer_117 : decode cX3_carryTransfer 117 = .ok (.iload 5, 2) := by decide +kernel
theorem dX3_carryTransfer_119 : decode cX3_carryTransfer 119 = .ok (.iload 6, 2) := by decide +kernel
theorem dX3_carryTransfer_121 : decode cX3_carryTransfer 121 = .ok (.invokevirtual 137, 3) := by decide +kernel
theorem dX3_carryTransfer_124 : decode cX3_carryTransfer 124 = .ok (.aload_n 2, 1) := by decide +kernel
theorem dX3_carryTransfer_125 : decode cX3_carryTransfer 125 = .ok (.getfield 141, 3) := by decide +kernel
theorem dX3_carryTransfer_128 : decode cX3_carryTransfer 128 = .ok (.bipush 40, 2) := by decide +kernel
theorem dX3_carryTransfer_130 : decode cX3_carryTransfer 130 = .ok (.if_icmp .gt 36, 3) := by decide +kernel
theorem dX3_carryTransfer_133 : decode cX3_carryTransfer 133 = .ok (.aload_n 2, 1) := by decide +kernel
theorem dX3_carryTransfer_134 : decode cX3_carryTransfer 134 = .ok (.iload_n 3, 1) := by decide +kernel
theorem dX3_carryTransfer_135 : decode cX3_carryTransfer 135 = .ok (.aload_n 0, 1) := by decide +kernel
theorem dX3_carryTransfer_136 : decode cX3_carryTransfer 136 = .ok (.getfield 30, 3) := by decide +kernel
theorem dX3_carryTransfer_139 : decode cX3_carryTransfer 139 = .ok (.iconst 3, 1) := by decide +kernel
theorem dX3_carryTransfer_140 : decode cX3_carryTransfer 140 = .ok (.invokevirtual 90, 3) := by decide +kernel
theorem dX3_carryTransfer_143 : decode cX3_carryTransfer 143 = .ok (.invokevirtual 144, 3) := by decide +kernel
theorem dX3_carryTransfer_146 : decode cX3_carryTransfer 146 = .ok (.ifCond .ne 20, 3) := by decide +kernel
theorem dX3_carryTransfer_149 : decode cX3_carryTransfer 149 = .ok (.aload_n 2, 1) := by decide +kernel
theorem dX3_carryTransfer_150 : decode cX3_carryTransfer 150 = .ok (.iload 4, 2) := by decide +kernel
theorem dX3_carryTransfer_152 : decode cX3_carryTransfer 152 = .ok (.aload_n 0, 1) := by decide +kernel
theorem dX3_carryTransfer_153 : decode cX3_carryTransfer 153 = .ok (.getfield 30, 3) := by decide +kernel
theorem dX3_carryTransfer_156 : decode cX3_carryTransfer 156 = .ok (.iconst 3, 1) := by decide +kernel
theorem dX3_carryTransfer_157 : decode cX3_carryTransfer 157 = .ok (.invokevirtual 90, 3) := by decide +kernel
theorem dX3_carryTransfer_160 : decode cX3_carryTransfer 160 = .ok (.invokevirtual 144, 3) := by decide +kernel
theorem dX3_carryTransfer_163 : decode cX3_carryTransfer 163 = .ok (.ifCond .eq 5, 3) := by decide +kernel
theorem dX3_carryTransfer_166 : decode cX3_carryTransfer 166 = .ok (.iconst 0, 1) := by decide +kernel
theorem dX3_carryTransfer_167 : decode cX3_carryTransfer 167 = .ok (.ireturn, 1) := by decide +kernel
theorem dX3_carryTransfer_168 : decode cX3_carryTransfer 168 = .ok (.aload_n 0, 1) := by decide +kernel
theorem dX3_carryTransfer_169 : decode cX3_carryTransfer 169 = .ok (.getfield 12, 3) := by decide +kernel
theorem dX3_carryTransfer_172 : decode cX3_carryTransfer 172 = .ok (.aload_n 2, 1) := by decide +kernel
theorem dX3_carryTransfer_173 : decode cX3_carryTransfer 173 = .ok (.invokevirtual 52, 3) := by decide +kernel
theorem dX3_carryTransfer_176 : decode cX3_carryTransfer 176 = .ok (.aload_n 0, 1) := by decide +kernel
theorem dX3_carryTransfer_177 : decode cX3_carryTransfer 177 = .ok (.iload 4, 2) := by decide +kernel
theorem dX3_carryTransfer_179 : decode cX3_carryTransfer 179 = .ok (.iload 7, 2) := by decide +kernel
theorem dX3_carryTransfer_181 : decode cX3_carryTransfer 181 = .ok (.ineg, 1) := by decide +kernel
theorem dX3_carryTransfer_182 : decode cX3_carryTransfer 182 = .ok (.iload 8, 2) := by decide +kernel
theorem dX3_carryTransfer_184 : decode cX3_carryTransfer 184 = .ok (.isub, 1) := by decide +kernel
theorem dX3_carryTransfer_185 : decode cX3_carryTransfer 185 = .ok (.i2l, 1) := by decide +kernel
theorem dX3_carryTransfer_186 : decode cX3_carryTransfer 186 = .ok (.invokevirtual 106, 3) := by decide +kernel
theorem dX3_carryTransfer_189 : decode cX3_carryTransfer 189 = .ok (.aload_n 0, 1) := by decide +kernel
theorem dX3_carryTransfer_190 : decode cX3_carryTransfer 190 = .ok (.iload_n 3, 1) := by decide +kernel
theorem dX3_carryTransfer_191 : decode cX3_carryTransfer 191 = .ok (.iload 7, 2) := by decide +kernel
theorem dX3_carryTransfer_193 : decode cX3_carryTransfer 193 = .ok (.i2l, 1) := by decide +kernel
theorem dX3_carryTransfer_194 : decode cX3_carryTransfer 194 = .ok (.invokevirtual 106, 3) := by decide +kernel
theorem dX3_carryTransfer_197 : decode cX3_carryTransfer 197 = .ok (.aload_n 0, 1) := by decide +kernel
theorem dX3_carryTransfer_198 : decode cX3_carryTransfer 198 = .ok (.dup, 1) := by decide +kernel
theorem dX3_carryTransfer_199 : decode cX3_carryTransfer 199 = .ok (.getfield 84, 3) := by decide +kernel
theorem dX3_carryTransfer_202 : decode cX3_carryTransfer 202 = .ok (.iload 8, 2) := by decide +kernel
theorem dX3_carryTransfer_204 : decode cX3_carryTransfer 204 = .ok (.iadd, 1) := by decide +kernel
theorem dX3_carryTransfer_205 : decode cX3_carryTransfer 205 = .ok (.putfield 84, 3) := by decide +kernel
theorem dX3_carryTransfer_208 : decode cX3_carryTransfer 208 = .ok (.iconst 1, 1) := by decide +kernel
theorem dX3_carryTransfer_209 : decode cX3_carryTransfer 209 = .ok (.ireturn, 1) := by decide +kernel
theorem dX4_init_0 : decode cX4_init 0 = .ok (.aload_n 0, 1) := by decide +kernel
theorem dX4_init_1 : decode cX4_init 1 = .ok (.invokespecial 1, 3) := by decide +kernel
theorem dX4_init_4 : decode cX4_init 4 = .ok (.aload_n 0, 1) := by decide +kernel
theorem dX4_init_5 : decode cX4_init 5 = .ok (.iload_n 1, 1) := by decide +kernel
theorem dX4_init_6 : decode cX4_init 6 = .ok (.iconst 0, 1) := by decide +kernel
theorem dX4_init_7 : decode cX4_init 7 = .ok (.invokestatic 7, 3) := by decide +kernel
theorem dX4_init_10 : decode cX4_init 10 = .ok (.newarray .int, 2) := by decide +kernel
theorem dX4_init_12 : decode cX4_init 12 = .ok (.putfield 13, 3) := by decide +kernel
theorem dX4_init_15 : decode cX4_init 15 = .ok (.return_, 1) := by decide +kernel
theorem dX4_at_0 : decode cX4_at 0 = .ok (.iload_n 1, 1) := by decide +kernel
theorem dX4_at_1 : decode cX4_at 1 = .ok (.ifCond .lt 21, 3) := by decide +kernel
theorem dX4_at_4 : decode cX4_at 4 = .ok (.iload_n 1, 1) := by decide +kernel
theorem dX4_at_5 : decode cX4_at 5 = .ok (.aload_n 0, 1) := by decide +kernel
theorem dX4_at_6 : decode cX4_at 6 = .ok (.getfield 13, 3) := by decide +kernel
theorem dX4_at_9 : decode cX4_at 9 = .ok (.arraylength, 1) := by decide +kernel
theorem dX4_at_10 : decode cX4_at 10 = .ok (.if_icmp .ge 12, 3) := by decide +kernel
theorem dX4_at_13 : decode cX4_at 13 = .ok (.aload_n 0, 1) := by decide +kernel
theorem dX4_at_14 : decode cX4_at 14 = .ok (.getfield 13, 3) := by decide +kernel
theorem dX4_at_17 : decode cX4_at 17 = .ok (.iload_n 1, 1) := by decide +kernel
theorem dX4_at_18 : decode cX4_at 18 = .ok (.iaload, 1) := by decide +kernel
theorem dX4_at_19 : decode cX4_at 19 = .ok (.goto 4, 3) := by decide +kernel
theorem dX4_at_22 : decode cX4_at 22 = .ok (.iconst 0, 1) := by decide +kernel
theorem dX4_at_23 : decode cX4_at 23 = .ok (.ireturn, 1) := by decide +kernel
theorem dX4_store_0 : decode cX4_store 0 = .ok (.iload_n 1, 1) := by decide +kernel
theorem dX4_store_1 : decode cX4_store 1 = .ok (.ifCond .lt 19, 3) := by decide +kernel
theorem dX4_store_4 : decode cX4_store 4 = .ok (.iload_n 1, 1) := by decide +kernel
theorem dX4_store_5 : decode cX4_store 5 = .ok (.aload_n 0, 1) := by decide +kernel
theorem dX4_store_6 : decode cX4_store 6 = .ok (.getfield 13, 3) := by decide +kernel
theorem dX4_store_9 : decode cX4_store 9 = .ok (.arraylength, 1) := by decide +kernel
theorem dX4_store_10 : decode cX4_store 10 = .ok (.if_icmp .ge 10, 3) := by decide +kernel
theorem dX4_store_13 : decode cX4_store 13 = .ok (.aload_n 0, 1) := by decide +kernel
theorem dX4_store_14 : decode cX4_store 14 = .ok (.getfield 13, 3) := by decide +kernel
theorem dX4_store_17 : decode cX4_store 17 = .ok (.iload_n 1, 1) := by decide +kernel
theorem dX4_store_18 : decode cX4_store 18 = .ok (.iload_n 2, 1) := by decide +kernel
theorem dX4_store_19 : decode cX4_store 19 = .ok (.iastore, 1) := by decide +kernel
theorem dX4_store_20 : decode cX4_store 20 = .ok (.return_, 1) := by decide +kernel
theorem dX4_add_0 : decode cX4_add 0 = .ok (.iload_n 1, 1) := by decide +kernel
theorem dX4_add_1 : decode cX4_add 1 = .ok (.ifCond .lt 22, 3) := by decide +kernel
theorem dX4_add_4 : decode cX4_add 4 = .ok (.iload_n 1, 1) := by decide +kernel
theorem dX4_add_5 : decode cX4_add 5 = .ok (.aload_n 0, 1) := by decide +kernel
theorem dX4_add_6 : decode cX4_add 6 = .ok (.getfield 13, 3) := by decide +kernel
theorem dX4_add_9 : decode cX4_add 9 = .ok (.arraylength, 1) := by decide +kernel
theorem dX4_add_10 : decode cX4_add 10 = .ok (.if_icmp .ge 13, 3) := by decide +kernel
theorem dX4_add_13 : decode cX4_add 13 = .ok (.aload_n 0, 1) := by decide +kernel
theorem dX4_add_14 : decode cX4_add 14 = .ok (.getfield 13, 3) := by decide +kernel
theorem dX4_add_17 : decode cX4_add 17 = .ok (.iload_n 1, 1) := by decide +kernel
theorem dX4_add_18 : decode cX4_add 18 = .ok (.dup2, 1) := by decide +kernel
theorem dX4_add_19 : decode cX4_add 19 = .ok (.iaload, 1) := by decide +kernel
theorem dX4_add_20 : decode cX4_add 20 = .ok (.iload_n 2, 1) := by decide +kernel
theorem dX4_add_21 : decode cX4_add 21 = .ok (.iadd, 1) := by decide +kernel
theorem dX4_add_22 : decode cX4_add 22 = .ok (.iastore, 1) := by decide +kernel
theorem dX4_add_23 : decode cX4_add 23 = .ok (.return_, 1) := by decide +kernel
theorem dX4_clear_0 : decode cX4_clear 0 = .ok (.iconst 0, 1) := by decide +kernel
theorem dX4_clear_1 : decode cX4_clear 1 = .ok (.istore_n 1, 1) := by decide +kernel
theorem dX4_clear_2 : decode cX4_clear 2 = .ok (.iload_n 1, 1) := by decide +kernel
theorem dX4_clear_3 : decode cX4_clear 3 = .ok (.aload_n 0, 1) := by decide +kernel
theorem dX4_clear_4 : decode cX4_clear 4 = .ok (.getfield 13, 3) := by decide +kernel
theorem dX4_clear_7 : decode cX4_clear 7 = .ok (.arraylength, 1) := by decide +kernel
theorem dX4_clear_8 : decode cX4_clear 8 = .ok (.if_icmp .ge 16, 3) := by decide +kernel
theorem dX4_clear_11 : decode cX4_clear 11 = .ok (.aload_n 0, 1) := by decide +kernel
theorem dX4_clear_12 : decode cX4_clear 12 = .ok (.getfield 13, 3) := by decide +kernel
theorem dX4_clear_15 : decode cX4_clear 15 = .ok (.iload_n 1, 1) := by decide +kernel
theorem dX4_clear_16 : decode cX4_clear 16 = .ok (.iconst 0, 1) := by decide +kernel
theorem dX4_clear_17 : decode cX4_clear 17 = .ok (.iastore, 1) := by decide +kernel
theorem dX4_clear_18 : decode cX4_clear 18 = .ok (.iinc 1 1, 3) := by decide +kernel
theorem dX4_clear_21 : decode cX4_clear 21 = .ok (.goto (-19), 3) := by decide +kernel
theorem dX4_clear_24 : decode cX4_clear 24 = .ok (.return_, 1) := by decide +kernel
theorem dX4_sum_0 : decode cX4_sum 0 = .ok (.iconst 0, 1) := by decide +kernel
theorem dX4_sum_1 : decode cX4_sum 1 = .ok (.istore_n 1, 1) := by decide +kernel
theorem dX4_sum_2 : decode cX4_sum 2 = .ok (.iconst 0, 1) := by decide +kernel
theorem dX4_sum_3 : decode cX4_sum 3 = .ok (.istore_n 2, 1) := by decide +kernel
theorem dX4_sum_4 : decode cX4_sum 4 = .ok (.iload_n 2, 1) := by decide +kernel
theorem dX4_sum_5 : decode cX4_sum 5 = .ok (.aload_n 0, 1) := by decide +kernel
theorem dX4_sum_6 : decode cX4_sum 6 = .ok (.getfield 13, 3) := by decide +kernel
theorem dX4_sum_9 : decode cX4_sum 9 = .ok (.arraylength, 1) := by decide +kernel
theorem dX4_sum_10 : decode cX4_sum 10 = .ok (.if_icmp .ge 18, 3) := by decide +kernel
theorem dX4_sum_13 : decode cX4_sum 13 = .ok (.iload_n 1, 1) := by decide +kernel
theorem dX4_sum_14 : decode cX4_sum 14 = .ok (.aload_n 0, 1) := by decide +kernel
theorem dX4_sum_15 : decode cX4_sum 15 = .ok (.getfield 13, 3) := by decide +kernel
theorem dX4_sum_18 : decode cX4_sum 18 = .ok (.iload_n 2, 1) := by decide +kernel
theorem dX4_sum_19 : decode cX4_sum 19 = .ok (.iaload, 1) := by decide +kernel
theorem dX4_sum_20 : decode cX4_sum 20 = .ok (.iadd, 1) := by decide +kernel
theorem dX4_sum_21 : decode cX4_sum 21 = .ok (.istore_n 1, 1) := by decide +kernel
theorem dX4_sum_22 : decode cX4_sum 22 = .ok (.iinc 2 1, 3) := by decide +kernel
theorem dX4_sum_25 : decode cX4_sum 25 = .ok (.goto (-21), 3) := by decide +kernel
theorem dX4_sum_28 : decode cX4_sum 28 = .ok (.iload_n 1, 1) := by decide +kernel
theorem dX4_sum_29 : decode cX4_sum 29 = .ok (.ireturn, 1) := by decide +kernel
theorem dX4_copy_0 : decode cX4_copy 0 = .ok (.aload_n 1, 1) := by decide +kernel
theorem dX4_copy_1 : decode cX4_copy 1 = .ok (.getfield 13, 3) := by decide +kernel
theorem dX4_copy_4 : decode cX4_copy 4 = .ok (.iconst 0, 1) := by decide +kernel
theorem dX4_copy_5 : decode cX4_copy 5 = .ok (.aload_n 0, 1) := by decide +kernel
theorem dX4_copy_6 : decode cX4_copy 6 = .ok (.getfield 13, 3) := by decide +kernel
theorem dX4_copy_9 : decode cX4_copy 9 = .ok (.iconst 0, 1) := by decide +kernel
theorem dX4_copy_10 : decode cX4_copy 10 = .ok (.aload_n 0, 1) := by decide +kernel
theorem dX4_copy_11 : decode cX4_copy 11 = .ok (.getfield 13, 3) := by decide +kernel
theorem dX4_copy_14 : decode cX4_copy 14 = .ok (.arraylength, 1) := by decide +kernel
theorem dX4_copy_15 : decode cX4_copy 15 = .ok (.aload_n 1, 1) := by decide +kernel
theorem dX4_copy_16 : decode cX4_copy 16 = .ok (.getfield 13, 3) := by decide +kernel
theorem dX4_copy_19 : decode cX4_copy 19 = .ok (.arraylength, 1) := by decide +kernel
theorem dX4_copy_20 : decode cX4_copy 20 = .ok (.invokestatic 19, 3) := by decide +kernel
theorem dX4_copy_23 : decode cX4_copy 23 = .ok (.invokestatic 22, 3) := by decide +kernel
theorem dX4_copy_26 : decode cX4_copy 26 = .ok (.return_, 1) := by decide +kernel
theorem dX5_init_0 : decode cX5_init 0 = .ok (.aload_n 0, 1) := by decide +kernel
theorem dX5_init_1 : decode cX5_init 1 = .ok (.invokespecial 3, 3) := by decide +kernel
theorem dX5_init_4 : decode cX5_init 4 = .ok (.aload_n 0, 1) := by decide +kernel
theorem dX5_init_5 : decode cX5_init 5 = .ok (.new 9, 3) := by decide +kernel
theorem dX5_init_8 : decode cX5_init 8 = .ok (.dup, 1) := by decide +kernel
theorem dX5_init_9 : decode cX5_init 9 = .ok (.bipush 42, 2) := by decide +kernel
theorem dX5_init_11 : decode cX5_init 11 = .ok (.invokespecial 11, 3) := by decide +kernel
theorem dX5_init_14 : decode cX5_init 14 = .ok (.putfield 14, 3) := by decide +kernel
theorem dX5_init_17 : decode cX5_init 17 = .ok (.aload_n 0, 1) := by decide +kernel
theorem dX5_init_18 : decode cX5_init 18 = .ok (.new 9, 3) := by decide +kernel
theorem dX5_init_21 : decode cX5_init 21 = .ok (.dup, 1) := by decide +kernel
theorem dX5_init_22 : decode cX5_init 22 = .ok (.bipush 42, 2) := by decide +kernel
theorem dX5_init_24 : decode cX5_init 24 = .ok (.invokespecial 11, 3) := by decide +kernel
theorem dX5_init_27 : decode cX5_init 27 = .ok (.putfield 20, 3) := by decide +kernel
theorem dX5_init_30 : decode cX5_init 30 = .ok (.aload_n 0, 1) := by decide +kernel
theorem dX5_init_31 : decode cX5_init 31 = .ok (.new 9, 3) := by decide +kernel
theorem dX5_init_34 : decode cX5_init 34 = .ok (.dup, 1) := by decide +kernel
theorem dX5_init_35 : decode cX5_init 35 = .ok (.bipush 42, 2) := by decide +kernel
theorem dX5_init_37 : decode cX5_init 37 = .ok (.invokespecial 11, 3) := by decide +kernel
theorem dX5_init_40 : decode cX5_init 40 = .ok (.putfield 23, 3) := by decide +kernel
theorem dX5_init_43 : decode cX5_init 43 = .ok (.aload_n 0, 1) := by decide +kernel
theorem dX5_init_44 : decode cX5_init 44 = .ok (.new 9, 3) := by decide +kernel
theorem dX5_init_47 : decode cX5_init 47 = .ok (.dup, 1) := by decide +kernel
theorem dX5_init_48 : decode cX5_init 48 = .ok (.bipush 10, 2) := by decide +kernel
theorem dX5_init_50 : decode cX5_init 50 = .ok (.invokespecial 11, 3) := by decide +kernel
theorem dX5_init_53 : decode cX5_init 53 = .ok (.putfield 26, 3) := by decide +kernel
theorem dX5_init_56 : decode cX5_init 56 = .ok (.aload_n 0, 1) := by decide +kernel
theorem dX5_init_57 : decode cX5_init 57 = .ok (.new 9, 3) := by decide +kernel
theorem dX5_init_60 : decode cX5_init 60 = .ok (.dup, 1) := by decide +kernel
theorem dX5_init_61 : decode cX5_init 61 = .ok (.bipush 10, 2) := by decide +kernel
theorem dX5_init_63 : decode cX5_init 63 = .ok (.invokespecial 11, 3) := by decide +kernel
theorem dX5_init_66 : decode cX5_init 66 = .ok (.putfield 29, 3) := by decide +kernel
theorem dX5_init_69 : decode cX5_init 69 = .ok (.return_, 1) := by decide +kernel
theorem dX5_copy_0 : decode cX5_copy 0 = .ok (.aload_n 0, 1) := by decide +kernel
theorem dX5_copy_1 : decode cX5_copy 1 = .ok (.getfield 14, 3) := by decide +kernel
theorem dX5_copy_4 : decode cX5_copy 4 = .ok (.aload_n 1, 1) := by decide +kernel
theorem dX5_copy_5 : decode cX5_copy 5 = .ok (.getfield 14, 3) := by decide +kernel
theorem dX5_copy_8 : decode cX5_copy 8 = .ok (.invokevirtual 32, 3) := by decide +kernel
theorem dX5_copy_11 : decode cX5_copy 11 = .ok (.aload_n 0, 1) := by decide +kernel
theorem dX5_copy_12 : decode cX5_copy 12 = .ok (.getfield 20, 3) := by decide +kernel
theorem dX5_copy_15 : decode cX5_copy 15 = .ok (.aload_n 1, 1) := by decide +kernel
theorem dX5_copy_16 : decode cX5_copy 16 = .ok (.getfield 20, 3) := by decide +kernel
theorem dX5_copy_19 : decode cX5_copy 19 = .ok (.invokevirtual 32, 3) := by decide +kernel
theorem dX5_copy_22 : decode cX5_copy 22 = .ok (.aload_n 0, 1) := by decide +kernel
theorem dX5_copy_23 : decode cX5_copy 23 = .ok (.getfield 23, 3) := by decide +kernel
theorem dX5_copy_26 : decode cX5_copy 26 = .ok (.aload_n 1, 1) := by decide +kernel
theorem dX5_copy_27 : decode cX5_copy 27 = .ok (.getfield 23, 3) := by decide +kernel
theorem dX5_copy_30 : decode cX5_copy 30 = .ok (.invokevirtual 32, 3) := by decide +kernel
theorem dX5_copy_33 : decode cX5_copy 33 = .ok (.aload_n 0, 1) := by decide +kernel
theorem dX5_copy_34 : decode cX5_copy 34 = .ok (.getfield 26, 3) := by decide +kernel
theorem dX5_copy_37 : decode cX5_copy 37 = .ok (.aload_n 1, 1) := by decide +kernel
theorem dX5_copy_38 : decode cX5_copy 38 = .ok (.getfield 26, 3) := by decide +kernel
theorem dX5_copy_41 : decode cX5_copy 41 = .ok (.invokevirtual 32, 3) := by decide +kernel
theorem dX5_copy_44 : decode cX5_copy 44 = .ok (.aload_n 0, 1) := by decide +kernel
theorem dX5_copy_45 : decode cX5_copy 45 = .ok (.getfield 29, 3) := by decide +kernel
theorem dX5_copy_48 : decode cX5_copy 48 = .ok (.aload_n 1, 1) := by decide +kernel
theorem dX5_copy_49 : decode cX5_copy 49 = .ok (.getfield 29, 3) := by decide +kernel
theorem dX5_copy_52 : decode cX5_copy 52 = .ok (.invokevirtual 32, 3) := by decide +kernel
theorem dX5_copy_55 : decode cX5_copy 55 = .ok (.aload_n 0, 1) := by decide +kernel
theorem dX5_copy_56 : decode cX5_copy 56 = .ok (.aload_n 1, 1) := by decide +kernel
theorem dX5_copy_57 : decode cX5_copy 57 = .ok (.getfield 36, 3) := by decide +kernel
theorem dX5_copy_60 : decode cX5_copy 60 = .ok (.putfield 36, 3) := by decide +kernel
theorem dX5_copy_63 : decode cX5_copy 63 = .ok (.return_, 1) := by decide +kernel
theorem dX5_clear_0 : decode cX5_clear 0 = .ok (.aload_n 0, 1) := by decide +kernel
theorem dX5_clear_1 : decode cX5_clear 1 = .ok (.getfield 26, 3) := by decide +kernel
theorem dX5_clear_4 : decode cX5_clear 4 = .ok (.invokevirtual 40, 3) := by decide +kernel
theorem dX5_clear_7 : decode cX5_clear 7 = .ok (.aload_n 0, 1) := by decide +kernel
theorem dX5_clear_8 : decode cX5_clear 8 = .ok (.getfield 29, 3) := by decide +kernel
theorem dX5_clear_11 : decode cX5_clear 11 = .ok (.invokevirtual 40, 3) := by decide +kernel
theorem dX5_clear_14 : decode cX5_clear 14 = .ok (.aload_n 0, 1) := by decide +kernel
theorem dX5_clear_15 : decode cX5_clear 15 = .ok (.iconst 0, 1) := by decide +kernel
theorem dX5_clear_16 : decode cX5_clear 16 = .ok (.putfield 36, 3) := by decide +kernel
theorem dX5_clear_19 : decode cX5_clear 19 = .ok (.return_, 1) := by decide +kernel
theorem dX5_hasRange_0 : decode cX5_hasRange 0 = .ok (.iload_n 1, 1) := by decide +kernel
theorem dX5_hasRange_1 : decode cX5_hasRange 1 = .ok (.ifCond .lt 15, 3) := by decide +kernel
theorem dX5_hasRange_4 : decode cX5_hasRange 4 = .ok (.iload_n 1, 1) := by decide +kernel
theorem dX5_hasRange_5 : decode cX5_hasRange 5 = .ok (.aload_n 0, 1) := by decide +kernel
theorem dX5_hasRange_6 : decode cX5_hasRange 6 = .ok (.getfield 36, 3) := by decide +kernel
theorem dX5_hasRange_9 : decode cX5_hasRange 9 = .ok (.if_icmp .ge 7, 3) := by decide +kernel
theorem dX5_hasRange_12 : decode cX5_hasRange 12 = .ok (.iconst 1, 1) := by decide +kernel
theorem dX5_hasRange_13 : decode cX5_hasRange 13 = .ok (.goto 4, 3) := by decide +kernel
theorem dX5_hasRange_16 : decode cX5_hasRange 16 = .ok (.iconst 0, 1) := by decide +kernel
theorem dX5_hasRange_17 : decode cX5_hasRange 17 = .ok (.ireturn, 1) := by decide +kernel
theorem dX5_endOf_0 : decode cX5_endOf 0 = .ok (.aload_n 0, 1) := by decide +kernel
theorem dX5_endOf_1 : decode cX5_endOf 1 = .ok (.getfield 20, 3) := by decide +kernel
theorem dX5_endOf_4 : decode cX5_endOf 4 = .ok (.iload_n 1, 1) := by decide +kernel
theorem dX5_endOf_5 : decode cX5_endOf 5 = .ok (.invokevirtual 43, 3) := by decide +kernel
theorem dX5_endOf_8 : decode cX5_endOf 8 = .ok (.aload_n 0, 1) := by decide +kernel
theorem dX5_endOf_9 : decode cX5_endOf 9 = .ok (.getfield 23, 3) := by decide +kernel
theorem dX5_endOf_12 : decode cX5_endOf 12 = .ok (.iload_n 1, 1) := by decide +kernel
theorem dX5_endOf_13 : decode cX5_endOf 13 = .ok (.invokevirtual 43, 3) := by decide +kernel
theorem dX5_endOf_16 : decode cX5_endOf 16 = .ok (.iadd, 1) := by decide +kernel
theorem dX5_endOf_17 : decode cX5_endOf 17 = .ok (.ireturn, 1) := by decide +kernel
theorem dX5_metersOfAll_0 : decode cX5_metersOfAll 0 = .ok (.aload_n 0, 1) := by decide +kernel
theorem dX5_metersOfAll_1 : decode cX5_metersOfAll 1 = .ok (.getfield 29, 3) := by decide +kernel
theorem dX5_metersOfAll_4 : decode cX5_metersOfAll 4 = .ok (.invokevirtual 47, 3) := by decide +kernel
theorem dX5_metersOfAll_7 : decode cX5_metersOfAll 7 = .ok (.ireturn, 1) := by decide +kernel
theorem dX5_append_0 : decode cX5_append 0 = .ok (.iload_n 1, 1) := by decide +kernel
theorem dX5_append_1 : decode cX5_append 1 = .ok (.ifCond .lt 7, 3) := by decide +kernel
theorem dX5_append_4 : decode cX5_append 4 = .ok (.iload_n 3, 1) := by decide +kernel
theorem dX5_append_5 : decode cX5_append 5 = .ok (.ifCond .gt 4, 3) := by decide +kernel
theorem dX5_append_8 : decode cX5_append 8 = .ok (.return_, 1) := by decide +kernel
theorem dX5_append_9 : decode cX5_append 9 = .ok (.aload_n 0, 1) := by decide +kernel
theorem dX5_append_10 : decode cX5_append 10 = .ok (.getfield 36, 3) := by decide +kernel
theorem dX5_append_13 : decode cX5_append 13 = .ok (.iconst 1, 1) := by decide +kernel
theorem dX5_append_14 : decode cX5_append 14 = .ok (.isub, 1) := by decide +kernel
theorem dX5_append_15 : decode cX5_append 15 = .ok (.istore 4, 2) := by decide +kernel
theorem dX5_append_17 : decode cX5_append 17 = .ok (.aload_n 0, 1) := by decide +kernel
theorem dX5_append_18 : decode cX5_append 18 = .ok (.getfield 36, 3) := by decide +kernel
theorem dX5_append_21 : decode cX5_append 21 = .ok (.ifCond .le 52, 3) := by decide +kernel
theorem dX5_append_24 : decode cX5_append 24 = .ok (.aload_n 0, 1) := by decide +kernel
theorem dX5_append_25 : decode cX5_append 25 = .ok (.getfield 14, 3) := by decide +kernel
theorem dX5_append_28 : decode cX5_append 28 = .ok (.iload 4, 2) := by decide +kernel
theorem dX5_append_30 : decode cX5_append 30 = .ok (.invokevirtual 43, 3) := by decide +kernel
theorem dX5_append_33 : decode cX5_append 33 = .ok (.iload_n 1, 1) := by decide +kernel
theorem dX5_append_34 : decode cX5_append 34 = .ok (.if_icmp .ne 39, 3) := by decide +kernel
theorem dX5_append_37 : decode cX5_append 37 = .ok (.aload_n 0, 1) := by decide +kernel
theorem dX5_append_38 : decode cX5_append 38 = .ok (.getfield 20, 3) := by decide +kernel
theorem dX5_append_41 : decode cX5_append 41 = .ok (.iload 4, 2) := by decide +kernel
theorem dX5_append_43 : decode cX5_append 43 = .ok (.invokevirtual 43, 3) := by decide +kernel
theorem dX5_append_46 : decode cX5_append 46 = .ok (.aload_n 0, 1) := by decide +kernel
theorem dX5_append_47 : decode cX5_append 47 = .ok (.getfield 23, 3) := by decide +kernel
theorem dX5_append_50 : decode cX5_append 50 = .ok (.iload 4, 2) := by decide +kernel
theorem dX5_append_52 : decode cX5_append 52 = .ok (.invokevirtual 43, 3) := by decide +kernel
theorem dX5_append_55 : decode cX5_append 55 = .ok (.iadd, 1) := by decide +kernel
theorem dX5_append_56 : decode cX5_append 56 = .ok (.iload_n 2, 1) := by decide +kernel
theorem dX5_append_57 : decode cX5_append 57 = .ok (.if_icmp .ne 16, 3) := by decide +kernel
theorem dX5_append_60 : decode cX5_append 60 = .ok (.aload_n 0, 1) := by decide +kernel
theorem dX5_append_61 : decode cX5_append 61 = .ok (.getfield 23, 3) := by decide +kernel
theorem dX5_append_64 : decode cX5_append 64 = .ok (.iload 4, 2) := by decide +kernel
theorem dX5_append_66 : decode cX5_append 66 = .ok (.iload_n 3, 1) := by decide +kernel
theorem dX5_append_67 : decode cX5_append 67 = .ok (.invokevirtual 51, 3) := by decide +kernel
end
section
theorem dX5_append_70 : decode cX5_append 70 = .ok (.goto 71, 3) := by decide +kernel
theorem dX5_append_73 : decode cX5_append 73 = .ok (.aload_n 0, 1) := by decide +kernel
theorem dX5_append_74 : decode cX5_append 74 = .ok (.getfield 36, 3) := by decide +kernel
theorem dX5_append_77 : decode cX5_append 77 = .ok (.bipush 42, 2) := by decide +kernel
theorem dX5_append_79 : decode cX5_append 79 = .ok (.if_icmp .ge 61, 3) := by decide +kernel
theorem dX5_append_82 : decode cX5_append 82 = .ok (.aload_n 0, 1) := by decide +kernel
theorem dX5_append_83 : decode cX5_append 83 = .ok (.getfield 14, 3) := by decide +kernel
theorem dX5_append_86 : decode cX5_append 86 = .ok (.aload_n 0, 1) := by decide +kernel
theorem dX5_append_87 : decode cX5_append 87 = .ok (.getfield 36, 3) := by decide +kernel
theorem dX5_append_90 : decode cX5_append 90 = .ok (.iload_n 1, 1) := by decide +kernel
theorem dX5_append_91 : decode cX5_append 91 = .ok (.invokevirtual 55, 3) := by decide +kernel
theorem dX5_append_94 : decode cX5_append 94 = .ok (.aload_n 0, 1) := by decide +kernel
theorem dX5_append_95 : decode cX5_append 95 = .ok (.getfield 20, 3) := by decide +kernel
theorem dX5_append_98 : decode cX5_append 98 = .ok (.aload_n 0, 1) := by decide +kernel
theorem dX5_append_99 : decode cX5_append 99 = .ok (.getfield 36, 3) := by decide +kernel
theorem dX5_append_102 : decode cX5_append 102 = .ok (.iload_n 2, 1) := by decide +kernel
theorem dX5_append_103 : decode cX5_append 103 = .ok (.invokevirtual 55, 3) := by decide +kernel
theorem dX5_append_106 : decode cX5_append 106 = .ok (.aload_n 0, 1) := by decide +kernel
theorem dX5_append_107 : decode cX5_append 107 = .ok (.getfield 23, 3) := by decide +kernel
theorem dX5_append_110 : decode cX5_append 110 = .ok (.aload_n 0, 1) := by decide +kernel
theorem dX5_append_111 : decode cX5_append 111 = .ok (.getfield 36, 3) := by decide +kernel
theorem dX5_append_114 : decode cX5_append 114 = .ok (.iload_n 3, 1) := by decide +kernel
theorem dX5_append_115 : decode cX5_append 115 = .ok (.invokevirtual 55, 3) := by decide +kernel
theorem dX5_append_118 : decode cX5_append 118 = .ok (.aload_n 0, 1) := by decide +kernel
theorem dX5_append_119 : decode cX5_append 119 = .ok (.getfield 26, 3) := by decide +kernel
theorem dX5_append_122 : decode cX5_append 122 = .ok (.iload_n 1, 1) := by decide +kernel
theorem dX5_append_123 : decode cX5_append 123 = .ok (.iconst 1, 1) := by decide +kernel
theorem dX5_append_124 : decode cX5_append 124 = .ok (.invokevirtual 51, 3) := by decide +kernel
theorem dX5_append_127 : decode cX5_append 127 = .ok (.aload_n 0, 1) := by decide +kernel
theorem dX5_append_128 : decode cX5_append 128 = .ok (.dup, 1) := by decide +kernel
theorem dX5_append_129 : decode cX5_append 129 = .ok (.getfield 36, 3) := by decide +kernel
theorem dX5_append_132 : decode cX5_append 132 = .ok (.iconst 1, 1) := by decide +kernel
theorem dX5_append_133 : decode cX5_append 133 = .ok (.iadd, 1) := by decide +kernel
theorem dX5_append_134 : decode cX5_append 134 = .ok (.putfield 36, 3) := by decide +kernel
theorem dX5_append_137 : decode cX5_append 137 = .ok (.goto 4, 3) := by decide +kernel
theorem dX5_append_140 : decode cX5_append 140 = .ok (.return_, 1) := by decide +kernel
theorem dX5_append_141 : decode cX5_append 141 = .ok (.aload_n 0, 1) := by decide +kernel
theorem dX5_append_142 : decode cX5_append 142 = .ok (.getfield 29, 3) := by decide +kernel
theorem dX5_append_145 : decode cX5_append 145 = .ok (.iload_n 1, 1) := by decide +kernel
theorem dX5_append_146 : decode cX5_append 146 = .ok (.iload_n 3, 1) := by decide +kernel
theorem dX5_append_147 : decode cX5_append 147 = .ok (.invokevirtual 51, 3) := by decide +kernel
theorem dX5_append_150 : decode cX5_append 150 = .ok (.return_, 1) := by decide +kernel
theorem dX5_become_0 : decode cX5_become 0 = .ok (.iload_n 3, 1) := by decide +kernel
theorem dX5_become_1 : decode cX5_become 1 = .ok (.iload 4, 2) := by decide +kernel
theorem dX5_become_3 : decode cX5_become 3 = .ok (.iadd, 1) := by decide +kernel
theorem dX5_become_4 : decode cX5_become 4 = .ok (.istore 5, 2) := by decide +kernel
theorem dX5_become_6 : decode cX5_become 6 = .ok (.aload_n 0, 1) := by decide +kernel
theorem dX5_become_7 : decode cX5_become 7 = .ok (.invokevirtual 58, 3) := by decide +kernel
theorem dX5_become_10 : decode cX5_become 10 = .ok (.iconst 0, 1) := by decide +kernel
theorem dX5_become_11 : decode cX5_become 11 = .ok (.istore 6, 2) := by decide +kernel
theorem dX5_become_13 : decode cX5_become 13 = .ok (.iload 6, 2) := by decide +kernel
theorem dX5_become_15 : decode cX5_become 15 = .ok (.aload_n 1, 1) := by decide +kernel
theorem dX5_become_16 : decode cX5_become 16 = .ok (.getfield 36, 3) := by decide +kernel
theorem dX5_become_19 : decode cX5_become 19 = .ok (.if_icmp .ge 51, 3) := by decide +kernel
theorem dX5_become_22 : decode cX5_become 22 = .ok (.aload_n 0, 1) := by decide +kernel
theorem dX5_become_23 : decode cX5_become 23 = .ok (.aload_n 1, 1) := by decide +kernel
theorem dX5_become_24 : decode cX5_become 24 = .ok (.getfield 14, 3) := by decide +kernel
theorem dX5_become_27 : decode cX5_become 27 = .ok (.iload 6, 2) := by decide +kernel
theorem dX5_become_29 : decode cX5_become 29 = .ok (.invokevirtual 43, 3) := by decide +kernel
theorem dX5_become_32 : decode cX5_become 32 = .ok (.aload_n 1, 1) := by decide +kernel
theorem dX5_become_33 : decode cX5_become 33 = .ok (.getfield 20, 3) := by decide +kernel
theorem dX5_become_36 : decode cX5_become 36 = .ok (.iload 6, 2) := by decide +kernel
theorem dX5_become_38 : decode cX5_become 38 = .ok (.invokevirtual 43, 3) := by decide +kernel
theorem dX5_become_41 : decode cX5_become 41 = .ok (.aload_n 1, 1) := by decide +kernel
theorem dX5_become_42 : decode cX5_become 42 = .ok (.iload 6, 2) := by decide +kernel
theorem dX5_become_44 : decode cX5_become 44 = .ok (.invokevirtual 59, 3) := by decide +kernel
theorem dX5_become_47 : decode cX5_become 47 = .ok (.iload_n 3, 1) := by decide +kernel
theorem dX5_become_48 : decode cX5_become 48 = .ok (.invokestatic 62, 3) := by decide +kernel
theorem dX5_become_51 : decode cX5_become 51 = .ok (.aload_n 1, 1) := by decide +kernel
theorem dX5_become_52 : decode cX5_become 52 = .ok (.getfield 20, 3) := by decide +kernel
theorem dX5_become_55 : decode cX5_become 55 = .ok (.iload 6, 2) := by decide +kernel
theorem dX5_become_57 : decode cX5_become 57 = .ok (.invokevirtual 43, 3) := by decide +kernel
theorem dX5_become_60 : decode cX5_become 60 = .ok (.isub, 1) := by decide +kernel
theorem dX5_become_61 : decode cX5_become 61 = .ok (.invokevirtual 68, 3) := by decide +kernel
theorem dX5_become_64 : decode cX5_become 64 = .ok (.iinc 6 1, 3) := by decide +kernel
theorem dX5_become_67 : decode cX5_become 67 = .ok (.goto (-54), 3) := by decide +kernel
theorem dX5_become_70 : decode cX5_become 70 = .ok (.aload_n 0, 1) := by decide +kernel
theorem dX5_become_71 : decode cX5_become 71 = .ok (.iload_n 2, 1) := by decide +kernel
theorem dX5_become_72 : decode cX5_become 72 = .ok (.iload_n 3, 1) := by decide +kernel
theorem dX5_become_73 : decode cX5_become 73 = .ok (.iload 4, 2) := by decide +kernel
theorem dX5_become_75 : decode cX5_become 75 = .ok (.invokevirtual 68, 3) := by decide +kernel
theorem dX5_become_78 : decode cX5_become 78 = .ok (.iconst 0, 1) := by decide +kernel
theorem dX5_become_79 : decode cX5_become 79 = .ok (.istore 6, 2) := by decide +kernel
theorem dX5_become_81 : decode cX5_become 81 = .ok (.iload 6, 2) := by decide +kernel
theorem dX5_become_83 : decode cX5_become 83 = .ok (.aload_n 1, 1) := by decide +kernel
theorem dX5_become_84 : decode cX5_become 84 = .ok (.getfield 36, 3) := by decide +kernel
theorem dX5_become_87 : decode cX5_become 87 = .ok (.if_icmp .ge 49, 3) := by decide +kernel
theorem dX5_become_90 : decode cX5_become 90 = .ok (.aload_n 1, 1) := by decide +kernel
theorem dX5_become_91 : decode cX5_become 91 = .ok (.getfield 20, 3) := by decide +kernel
theorem dX5_become_94 : decode cX5_become 94 = .ok (.iload 6, 2) := by decide +kernel
theorem dX5_become_96 : decode cX5_become 96 = .ok (.invokevirtual 43, 3) := by decide +kernel
theorem dX5_become_99 : decode cX5_become 99 = .ok (.iload 5, 2) := by decide +kernel
theorem dX5_become_101 : decode cX5_become 101 = .ok (.invokestatic 72, 3) := by decide +kernel
theorem dX5_become_104 : decode cX5_become 104 = .ok (.istore 7, 2) := by decide +kernel
theorem dX5_become_106 : decode cX5_become 106 = .ok (.aload_n 0, 1) := by decide +kernel
theorem dX5_become_107 : decode cX5_become 107 = .ok (.aload_n 1, 1) := by decide +kernel
theorem dX5_become_108 : decode cX5_become 108 = .ok (.getfield 14, 3) := by decide +kernel
theorem dX5_become_111 : decode cX5_become 111 = .ok (.iload 6, 2) := by decide +kernel
theorem dX5_become_113 : decode cX5_become 113 = .ok (.invokevirtual 43, 3) := by decide +kernel
theorem dX5_become_116 : decode cX5_become 116 = .ok (.iload 7, 2) := by decide +kernel
theorem dX5_become_118 : decode cX5_become 118 = .ok (.aload_n 1, 1) := by decide +kernel
theorem dX5_become_119 : decode cX5_become 119 = .ok (.iload 6, 2) := by decide +kernel
theorem dX5_become_121 : decode cX5_become 121 = .ok (.invokevirtual 59, 3) := by decide +kernel
theorem dX5_become_124 : decode cX5_become 124 = .ok (.iload 7, 2) := by decide +kernel
theorem dX5_become_126 : decode cX5_become 126 = .ok (.isub, 1) := by decide +kernel
theorem dX5_become_127 : decode cX5_become 127 = .ok (.invokevirtual 68, 3) := by decide +kernel
theorem dX5_become_130 : decode cX5_become 130 = .ok (.iinc 6 1, 3) := by decide +kernel
theorem dX5_become_133 : decode cX5_become 133 = .ok (.goto (-52), 3) := by decide +kernel
theorem dX5_become_136 : decode cX5_become 136 = .ok (.return_, 1) := by decide +kernel
theorem dX5_becomeInherited_0 : decode cX5_becomeInherited 0 = .ok (.aload_n 0, 1) := by decide +kernel
theorem dX5_becomeInherited_1 : decode cX5_becomeInherited 1 = .ok (.invokevirtual 58, 3) := by decide +kernel
theorem dX5_becomeInherited_4 : decode cX5_becomeInherited 4 = .ok (.iconst 0, 1) := by decide +kernel
theorem dX5_becomeInherited_5 : decode cX5_becomeInherited 5 = .ok (.istore 4, 2) := by decide +kernel
theorem dX5_becomeInherited_7 : decode cX5_becomeInherited 7 = .ok (.iload 4, 2) := by decide +kernel
theorem dX5_becomeInherited_9 : decode cX5_becomeInherited 9 = .ok (.aload_n 1, 1) := by decide +kernel
theorem dX5_becomeInherited_10 : decode cX5_becomeInherited 10 = .ok (.getfield 36, 3) := by decide +kernel
theorem dX5_becomeInherited_13 : decode cX5_becomeInherited 13 = .ok (.if_icmp .ge 54, 3) := by decide +kernel
theorem dX5_becomeInherited_16 : decode cX5_becomeInherited 16 = .ok (.aload_n 1, 1) := by decide +kernel
theorem dX5_becomeInherited_17 : decode cX5_becomeInherited 17 = .ok (.getfield 14, 3) := by decide +kernel
theorem dX5_becomeInherited_20 : decode cX5_becomeInherited 20 = .ok (.iload 4, 2) := by decide +kernel
theorem dX5_becomeInherited_22 : decode cX5_becomeInherited 22 = .ok (.invokevirtual 43, 3) := by decide +kernel
theorem dX5_becomeInherited_25 : decode cX5_becomeInherited 25 = .ok (.istore 5, 2) := by decide +kernel
theorem dX5_becomeInherited_27 : decode cX5_becomeInherited 27 = .ok (.aload_n 0, 1) := by decide +kernel
theorem dX5_becomeInherited_28 : decode cX5_becomeInherited 28 = .ok (.iload 5, 2) := by decide +kernel
theorem dX5_becomeInherited_30 : decode cX5_becomeInherited 30 = .ok (.iload_n 2, 1) := by decide +kernel
theorem dX5_becomeInherited_31 : decode cX5_becomeInherited 31 = .ok (.if_icmp .ne 7, 3) := by decide +kernel
theorem dX5_becomeInherited_34 : decode cX5_becomeInherited 34 = .ok (.iload_n 3, 1) := by decide +kernel
theorem dX5_becomeInherited_35 : decode cX5_becomeInherited 35 = .ok (.goto 5, 3) := by decide +kernel
theorem dX5_becomeInherited_38 : decode cX5_becomeInherited 38 = .ok (.iload 5, 2) := by decide +kernel
theorem dX5_becomeInherited_40 : decode cX5_becomeInherited 40 = .ok (.aload_n 1, 1) := by decide +kernel
theorem dX5_becomeInherited_41 : decode cX5_becomeInherited 41 = .ok (.getfield 20, 3) := by decide +kernel
theorem dX5_becomeInherited_44 : decode cX5_becomeInherited 44 = .ok (.iload 4, 2) := by decide +kernel
theorem dX5_becomeInherited_46 : decode cX5_becomeInherited 46 = .ok (.invokevirtual 43, 3) := by decide +kernel
theorem dX5_becomeInherited_49 : decode cX5_becomeInherited 49 = .ok (.aload_n 1, 1) := by decide +kernel
theorem dX5_becomeInherited_50 : decode cX5_becomeInherited 50 = .ok (.getfield 23, 3) := by decide +kernel
theorem dX5_becomeInherited_53 : decode cX5_becomeInherited 53 = .ok (.iload 4, 2) := by decide +kernel
theorem dX5_becomeInherited_55 : decode cX5_becomeInherited 55 = .ok (.invokevirtual 43, 3) := by decide +kernel
theorem dX5_becomeInherited_58 : decode cX5_becomeInherited 58 = .ok (.invokevirtual 68, 3) := by decide +kernel
theorem dX5_becomeInherited_61 : decode cX5_becomeInherited 61 = .ok (.iinc 4 1, 3) := by decide +kernel
theorem dX5_becomeInherited_64 : decode cX5_becomeInherited 64 = .ok (.goto (-57), 3) := by decide +kernel
theorem dX5_becomeInherited_67 : decode cX5_becomeInherited 67 = .ok (.return_, 1) := by decide +kernel
theorem dX5_remove_0 : decode cX5_remove 0 = .ok (.aload_n 0, 1) := by decide +kernel
theorem dX5_remove_1 : decode cX5_remove 1 = .ok (.iload_n 1, 1) := by decide +kernel
theorem dX5_remove_2 : decode cX5_remove 2 = .ok (.invokevirtual 75, 3) := by decide +kernel
theorem dX5_remove_5 : decode cX5_remove 5 = .ok (.ifCond .ne 4, 3) := by decide +kernel
theorem dX5_remove_8 : decode cX5_remove 8 = .ok (.return_, 1) := by decide +kernel
theorem dX5_remove_9 : decode cX5_remove 9 = .ok (.aload_n 0, 1) := by decide +kernel
theorem dX5_remove_10 : decode cX5_remove 10 = .ok (.getfield 26, 3) := by decide +kernel
theorem dX5_remove_13 : decode cX5_remove 13 = .ok (.aload_n 0, 1) := by decide +kernel
theorem dX5_remove_14 : decode cX5_remove 14 = .ok (.getfield 14, 3) := by decide +kernel
theorem dX5_remove_17 : decode cX5_remove 17 = .ok (.iload_n 1, 1) := by decide +kernel
theorem dX5_remove_18 : decode cX5_remove 18 = .ok (.invokevirtual 43, 3) := by decide +kernel
theorem dX5_remove_21 : decode cX5_remove 21 = .ok (.iconst (-1), 1) := by decide +kernel
theorem dX5_remove_22 : decode cX5_remove 22 = .ok (.invokevirtual 51, 3) := by decide +kernel
theorem dX5_remove_25 : decode cX5_remove 25 = .ok (.aload_n 0, 1) := by decide +kernel
theorem dX5_remove_26 : decode cX5_remove 26 = .ok (.getfield 29, 3) := by decide +kernel
theorem dX5_remove_29 : decode cX5_remove 29 = .ok (.aload_n 0, 1) := by decide +kernel
theorem dX5_remove_30 : decode cX5_remove 30 = .ok (.getfield 14, 3) := by decide +kernel
theorem dX5_remove_33 : decode cX5_remove 33 = .ok (.iload_n 1, 1) := by decide +kernel
theorem dX5_remove_34 : decode cX5_remove 34 = .ok (.invokevirtual 43, 3) := by decide +kernel
theorem dX5_remove_37 : decode cX5_remove 37 = .ok (.aload_n 0, 1) := by decide +kernel
theorem dX5_remove_38 : decode cX5_remove 38 = .ok (.getfield 23, 3) := by decide +kernel
theorem dX5_remove_41 : decode cX5_remove 41 = .ok (.iload_n 1, 1) := by decide +kernel
theorem dX5_remove_42 : decode cX5_remove 42 = .ok (.invokevirtual 43, 3) := by decide +kernel
theorem dX5_remove_45 : decode cX5_remove 45 = .ok (.ineg, 1) := by decide +kernel
theorem dX5_remove_46 : decode cX5_remove 46 = .ok (.invokevirtual 51, 3) := by decide +kernel
theorem dX5_remove_49 : decode cX5_remove 49 = .ok (.aload_n 0, 1) := by decide +kernel
theorem dX5_remove_50 : decode cX5_remove 50 = .ok (.dup, 1) := by decide +kernel
theorem dX5_remove_51 : decode cX5_remove 51 = .ok (.getfield 36, 3) := by decide +kernel
theorem dX5_remove_54 : decode cX5_remove 54 = .ok (.iconst 1, 1) := by decide +kernel
theorem dX5_remove_55 : decode cX5_remove 55 = .ok (.isub, 1) := by decide +kernel
theorem dX5_remove_56 : decode cX5_remove 56 = .ok (.putfield 36, 3) := by decide +kernel
theorem dX5_remove_59 : decode cX5_remove 59 = .ok (.iload_n 1, 1) := by decide +kernel
theorem dX5_remove_60 : decode cX5_remove 60 = .ok (.istore_n 2, 1) := by decide +kernel
theorem dX5_remove_61 : decode cX5_remove 61 = .ok (.iload_n 2, 1) := by decide +kernel
theorem dX5_remove_62 : decode cX5_remove 62 = .ok (.aload_n 0, 1) := by decide +kernel
theorem dX5_remove_63 : decode cX5_remove 63 = .ok (.getfield 36, 3) := by decide +kernel
theorem dX5_remove_66 : decode cX5_remove 66 = .ok (.if_icmp .ge 63, 3) := by decide +kernel
theorem dX5_remove_69 : decode cX5_remove 69 = .ok (.aload_n 0, 1) := by decide +kernel
theorem dX5_remove_70 : decode cX5_remove 70 = .ok (.getfield 14, 3) := by decide +kernel
theorem dX5_remove_73 : decode cX5_remove 73 = .ok (.iload_n 2, 1) := by decide +kernel
theorem dX5_remove_74 : decode cX5_remove 74 = .ok (.aload_n 0, 1) := by decide +kernel
theorem dX5_remove_75 : decode cX5_remove 75 = .ok (.getfield 14, 3) := by decide +kernel
theorem dX5_remove_78 : decode cX5_remove 78 = .ok (.iload_n 2, 1) := by decide +kernel
theorem dX5_remove_79 : decode cX5_remove 79 = .ok (.iconst 1, 1) := by decide +kernel
theorem dX5_remove_80 : decode cX5_remove 80 = .ok (.iadd, 1) := by decide +kernel
theorem dX5_remove_81 : decode cX5_remove 81 = .ok (.invokevirtual 43, 3) := by decide +kernel
theorem dX5_remove_84 : decode cX5_remove 84 = .ok (.invokevirtual 55, 3) := by decide +kernel
theorem dX5_remove_87 : decode cX5_remove 87 = .ok (.aload_n 0, 1) := by decide +kernel
theorem dX5_remove_88 : decode cX5_remove 88 = .ok (.getfield 20, 3) := by decide +kernel
theorem dX5_remove_91 : decode cX5_remove 91 = .ok (.iload_n 2, 1) := by decide +kernel
theorem dX5_remove_92 : decode cX5_remove 92 = .ok (.aload_n 0, 1) := by decide +kernel
theorem dX5_remove_93 : decode cX5_remove 93 = .ok (.getfield 20, 3) := by decide +kernel
theorem dX5_remove_96 : decode cX5_remove 96 = .ok (.iload_n 2, 1) := by decide +kernel
theorem dX5_remove_97 : decode cX5_remove 97 = .ok (.iconst 1, 1) := by decide +kernel
theorem dX5_remove_98 : decode cX5_remove 98 = .ok (.iadd, 1) := by decide +kernel
theorem dX5_remove_99 : decode cX5_remove 99 = .ok (.invokevirtual 43, 3) := by decide +kernel
theorem dX5_remove_102 : decode cX5_remove 102 = .ok (.invokevirtual 55, 3) := by decide +kernel
theorem dX5_remove_105 : decode cX5_remove 105 = .ok (.aload_n 0, 1) := by decide +kernel
theorem dX5_remove_106 : decode cX5_remove 106 = .ok (.getfield 23, 3) := by decide +kernel
theorem dX5_remove_109 : decode cX5_remove 109 = .ok (.iload_n 2, 1) := by decide +kernel
theorem dX5_remove_110 : decode cX5_remove 110 = .ok (.aload_n 0, 1) := by decide +kernel
theorem dX5_remove_111 : decode cX5_remove 111 = .ok (.getfield 23, 3) := by decide +kernel
theorem dX5_remove_114 : decode cX5_remove 114 = .ok (.iload_n 2, 1) := by decide +kernel
theorem dX5_remove_115 : decode cX5_remove 115 = .ok (.iconst 1, 1) := by decide +kernel
theorem dX5_remove_116 : decode cX5_remove 116 = .ok (.iadd, 1) := by decide +kernel
theorem dX5_remove_117 : decode cX5_remove 117 = .ok (.invokevirtual 43, 3) := by decide +kernel
theorem dX5_remove_120 : decode cX5_remove 120 = .ok (.invokevirtual 55, 3) := by decide +kernel
theorem dX5_remove_123 : decode cX5_remove 123 = .ok (.iinc 2 1, 3) := by decide +kernel
theorem dX5_remove_126 : decode cX5_remove 126 = .ok (.goto (-65), 3) := by decide +kernel
theorem dX5_remove_129 : decode cX5_remove 129 = .ok (.return_, 1) := by decide +kernel
theorem dX5_holderAt_0 : decode cX5_holderAt 0 = .ok (.iconst 0, 1) := by decide +kernel
theorem dX5_holderAt_1 : decode cX5_holderAt 1 = .ok (.istore_n 2, 1) := by decide +kernel
theorem dX5_holderAt_2 : decode cX5_holderAt 2 = .ok (.iload_n 2, 1) := by decide +kernel
theorem dX5_holderAt_3 : decode cX5_holderAt 3 = .ok (.aload_n 0, 1) := by decide +kernel
theorem dX5_holderAt_4 : decode cX5_holderAt 4 = .ok (.getfield 36, 3) := by decide +kernel
theorem dX5_holderAt_7 : decode cX5_holderAt 7 = .ok (.if_icmp .ge 39, 3) := by decide +kernel
theorem dX5_holderAt_10 : decode cX5_holderAt 10 = .ok (.iload_n 1, 1) := by decide +kernel
theorem dX5_holderAt_11 : decode cX5_holderAt 11 = .ok (.aload_n 0, 1) := by decide +kernel
theorem dX5_holderAt_12 : decode cX5_holderAt 12 = .ok (.getfield 20, 3) := by decide +kernel
theorem dX5_holderAt_15 : decode cX5_holderAt 15 = .ok (.iload_n 2, 1) := by decide +kernel
theorem dX5_holderAt_16 : decode cX5_holderAt 16 = .ok (.invokevirtual 43, 3) := by decide +kernel
theorem dX5_holderAt_19 : decode cX5_holderAt 19 = .ok (.if_icmp .lt 21, 3) := by decide +kernel
theorem dX5_holderAt_22 : decode cX5_holderAt 22 = .ok (.iload_n 1, 1) := by decide +kernel
theorem dX5_holderAt_23 : decode cX5_holderAt 23 = .ok (.aload_n 0, 1) := by decide +kernel
theorem dX5_holderAt_24 : decode cX5_holderAt 24 = .ok (.iload_n 2, 1) := by decide +kernel
theorem dX5_holderAt_25 : decode cX5_holderAt 25 = .ok (.invokevirtual 59, 3) := by decide +kernel
theorem dX5_holderAt_28 : decode cX5_holderAt 28 = .ok (.if_icmp .ge 12, 3) := by decide +kernel
theorem dX5_holderAt_31 : decode cX5_holderAt 31 = .ok (.aload_n 0, 1) := by decide +kernel
theorem dX5_holderAt_32 : decode cX5_holderAt 32 = .ok (.getfield 14, 3) := by decide +kernel
theorem dX5_holderAt_35 : decode cX5_holderAt 35 = .ok (.iload_n 2, 1) := by decide +kernel
theorem dX5_holderAt_36 : decode cX5_holderAt 36 = .ok (.invokevirtual 43, 3) := by decide +kernel
theorem dX5_holderAt_39 : decode cX5_holderAt 39 = .ok (.ireturn, 1) := by decide +kernel
theorem dX5_holderAt_40 : decode cX5_holderAt 40 = .ok (.iinc 2 1, 3) := by decide +kernel
theorem dX5_holderAt_43 : decode cX5_holderAt 43 = .ok (.goto (-41), 3) := by decide +kernel
theorem dX5_holderAt_46 : decode cX5_holderAt 46 = .ok (.bipush (-6), 2) := by decide +kernel
theorem dX5_holderAt_48 : decode cX5_holderAt 48 = .ok (.ireturn, 1) := by decide +kernel
theorem dX5_longestOf_0 : decode cX5_longestOf 0 = .ok (.iconst 0, 1) := by decide +kernel
theorem dX5_longestOf_1 : decode cX5_longestOf 1 = .ok (.istore_n 2, 1) := by decide +kernel
theorem dX5_longestOf_2 : decode cX5_longestOf 2 = .ok (.iconst 0, 1) := by decide +kernel
theorem dX5_longestOf_3 : decode cX5_longestOf 3 = .ok (.istore_n 3, 1) := by decide +kernel
theorem dX5_longestOf_4 : decode cX5_longestOf 4 = .ok (.iload_n 3, 1) := by decide +kernel
theorem dX5_longestOf_5 : decode cX5_longestOf 5 = .ok (.aload_n 0, 1) := by decide +kernel
theorem dX5_longestOf_6 : decode cX5_longestOf 6 = .ok (.getfield 36, 3) := by decide +kernel
theorem dX5_longestOf_9 : decode cX5_longestOf 9 = .ok (.if_icmp .ge 34, 3) := by decide +kernel
theorem dX5_longestOf_12 : decode cX5_longestOf 12 = .ok (.aload_n 0, 1) := by decide +kernel
theorem dX5_longestOf_13 : decode cX5_longestOf 13 = .ok (.getfield 14, 3) := by decide +kernel
theorem dX5_longestOf_16 : decode cX5_longestOf 16 = .ok (.iload_n 3, 1) := by decide +kernel
theorem dX5_longestOf_17 : decode cX5_longestOf 17 = .ok (.invokevirtual 43, 3) := by decide +kernel
theorem dX5_longestOf_20 : decode cX5_longestOf 20 = .ok (.iload_n 1, 1) := by decide +kernel
theorem dX5_longestOf_21 : decode cX5_longestOf 21 = .ok (.if_icmp .ne 16, 3) := by decide +kernel
theorem dX5_longestOf_24 : decode cX5_longestOf 24 = .ok (.iload_n 2, 1) := by decide +kernel
theorem dX5_longestOf_25 : decode cX5_longestOf 25 = .ok (.aload_n 0, 1) := by decide +kernel
theorem dX5_longestOf_26 : decode cX5_longestOf 26 = .ok (.getfield 23, 3) := by decide +kernel
theorem dX5_longestOf_29 : decode cX5_longestOf 29 = .ok (.iload_n 3, 1) := by decide +kernel
theorem dX5_longestOf_30 : decode cX5_longestOf 30 = .ok (.invokevirtual 43, 3) := by decide +kernel
theorem dX5_longestOf_33 : decode cX5_longestOf 33 = .ok (.invokestatic 72, 3) := by decide +kernel
theorem dX5_longestOf_36 : decode cX5_longestOf 36 = .ok (.istore_n 2, 1) := by decide +kernel
theorem dX5_longestOf_37 : decode cX5_longestOf 37 = .ok (.iinc 3 1, 3) := by decide +kernel
theorem dX5_longestOf_40 : decode cX5_longestOf 40 = .ok (.goto (-36), 3) := by decide +kernel
theorem dX5_longestOf_43 : decode cX5_longestOf 43 = .ok (.iload_n 2, 1) := by decide +kernel
theorem dX5_longestOf_44 : decode cX5_longestOf 44 = .ok (.ireturn, 1) := by decide +kernel
theorem dX5_shortestOf_0 : decode cX5_shortestOf 0 = .ok (.bipush (-6), 2) := by decide +kernel
theorem dX5_shortestOf_2 : decode cX5_shortestOf 2 = .ok (.istore_n 2, 1) := by decide +kernel
theorem dX5_shortestOf_3 : decode cX5_shortestOf 3 = .ok (.iconst 0, 1) := by decide +kernel
theorem dX5_shortestOf_4 : decode cX5_shortestOf 4 = .ok (.istore_n 3, 1) := by decide +kernel
theorem dX5_shortestOf_5 : decode cX5_shortestOf 5 = .ok (.iload_n 3, 1) := by decide +kernel
theorem dX5_shortestOf_6 : decode cX5_shortestOf 6 = .ok (.aload_n 0, 1) := by decide +kernel
theorem dX5_shortestOf_7 : decode cX5_shortestOf 7 = .ok (.getfield 36, 3) := by decide +kernel
theorem dX5_shortestOf_10 : decode cX5_shortestOf 10 = .ok (.if_icmp .ge 48, 3) := by decide +kernel
theorem dX5_shortestOf_13 : decode cX5_shortestOf 13 = .ok (.aload_n 0, 1) := by decide +kernel
theorem dX5_shortestOf_14 : decode cX5_shortestOf 14 = .ok (.getfield 14, 3) := by decide +kernel
theorem dX5_shortestOf_17 : decode cX5_shortestOf 17 = .ok (.iload_n 3, 1) := by decide +kernel
theorem dX5_shortestOf_18 : decode cX5_shortestOf 18 = .ok (.invokevirtual 43, 3) := by decide +kernel
theorem dX5_shortestOf_21 : decode cX5_shortestOf 21 = .ok (.iload_n 1, 1) := by decide +kernel
theorem dX5_shortestOf_22 : decode cX5_shortestOf 22 = .ok (.if_icmp .ne 30, 3) := by decide +kernel
theorem dX5_shortestOf_25 : decode cX5_shortestOf 25 = .ok (.iload_n 2, 1) := by decide +kernel
theorem dX5_shortestOf_26 : decode cX5_shortestOf 26 = .ok (.bipush (-6), 2) := by decide +kernel
theorem dX5_shortestOf_28 : decode cX5_shortestOf 28 = .ok (.if_icmp .eq 22, 3) := by decide +kernel
theorem dX5_shortestOf_31 : decode cX5_shortestOf 31 = .ok (.aload_n 0, 1) := by decide +kernel
theorem dX5_shortestOf_32 : decode cX5_shortestOf 32 = .ok (.getfield 23, 3) := by decide +kernel
theorem dX5_shortestOf_35 : decode cX5_shortestOf 35 = .ok (.iload_n 3, 1) := by decide +kernel
theorem dX5_shortestOf_36 : decode cX5_shortestOf 36 = .ok (.invokevirtual 43, 3) := by decide +kernel
theorem dX5_shortestOf_39 : decode cX5_shortestOf 39 = .ok (.aload_n 0, 1) := by decide +kernel
theorem dX5_shortestOf_40 : decode cX5_shortestOf 40 = .ok (.getfield 23, 3) := by decide +kernel
theorem dX5_shortestOf_43 : decode cX5_shortestOf 43 = .ok (.iload_n 2, 1) := by decide +kernel
theorem dX5_shortestOf_44 : decode cX5_shortestOf 44 = .ok (.invokevirtual 43, 3) := by decide +kernel
theorem dX5_shortestOf_47 : decode cX5_shortestOf 47 = .ok (.if_icmp .gt 5, 3) := by decide +kernel
theorem dX5_shortestOf_50 : decode cX5_shortestOf 50 = .ok (.iload_n 3, 1) := by decide +kernel
theorem dX5_shortestOf_51 : decode cX5_shortestOf 51 = .ok (.istore_n 2, 1) := by decide +kernel
theorem dX5_shortestOf_52 : decode cX5_shortestOf 52 = .ok (.iinc 3 1, 3) := by decide +kernel
theorem dX5_shortestOf_55 : decode cX5_shortestOf 55 = .ok (.goto (-50), 3) := by decide +kernel
theorem dX5_shortestOf_58 : decode cX5_shortestOf 58 = .ok (.iload_n 2, 1) := by decide +kernel
theorem dX5_shortestOf_59 : decode cX5_shortestOf 59 = .ok (.ireturn, 1) := by decide +kernel
theorem dX5_hasShorter_0 : decode cX5_hasShorter 0 = .ok (.aload_n 0, 1) := by decide +kernel
theorem dX5_hasShorter_1 : decode cX5_hasShorter 1 = .ok (.iload_n 1, 1) := by decide +kernel
theorem dX5_hasShorter_2 : decode cX5_hasShorter 2 = .ok (.invokevirtual 79, 3) := by decide +kernel
theorem dX5_hasShorter_5 : decode cX5_hasShorter 5 = .ok (.istore_n 3, 1) := by decide +kernel
theorem dX5_hasShorter_6 : decode cX5_hasShorter 6 = .ok (.iload_n 3, 1) := by decide +kernel
theorem dX5_hasShorter_7 : decode cX5_hasShorter 7 = .ok (.bipush (-6), 2) := by decide +kernel
theorem dX5_hasShorter_9 : decode cX5_hasShorter 9 = .ok (.if_icmp .eq 19, 3) := by decide +kernel
theorem dX5_hasShorter_12 : decode cX5_hasShorter 12 = .ok (.aload_n 0, 1) := by decide +kernel
theorem dX5_hasShorter_13 : decode cX5_hasShorter 13 = .ok (.getfield 23, 3) := by decide +kernel
theorem dX5_hasShorter_16 : decode cX5_hasShorter 16 = .ok (.iload_n 3, 1) := by decide +kernel
theorem dX5_hasShorter_17 : decode cX5_hasShorter 17 = .ok (.invokevirtual 43, 3) := by decide +kernel
theorem dX5_hasShorter_20 : decode cX5_hasShorter 20 = .ok (.iload_n 2, 1) := by decide +kernel
theorem dX5_hasShorter_21 : decode cX5_hasShorter 21 = .ok (.if_icmp .ge 7, 3) := by decide +kernel
theorem dX5_hasShorter_24 : decode cX5_hasShorter 24 = .ok (.iconst 1, 1) := by decide +kernel
theorem dX5_hasShorter_25 : decode cX5_hasShorter 25 = .ok (.goto 4, 3) := by decide +kernel
theorem dX5_hasShorter_28 : decode cX5_hasShorter 28 = .ok (.iconst 0, 1) := by decide +kernel
theorem dX5_hasShorter_29 : decode cX5_hasShorter 29 = .ok (.ireturn, 1) := by decide +kernel
theorem dX5_overlap_0 : decode cX5_overlap 0 = .ok (.aload_n 0, 1) := by decide +kernel
theorem dX5_overlap_1 : decode cX5_overlap 1 = .ok (.getfield 20, 3) := by decide +kernel
theorem dX5_overlap_4 : decode cX5_overlap 4 = .ok (.iload_n 1, 1) := by decide +kernel
theorem dX5_overlap_5 : decode cX5_overlap 5 = .ok (.invokevirtual 43, 3) := by decide +kernel
theorem dX5_overlap_8 : decode cX5_overlap 8 = .ok (.istore 4, 2) := by decide +kernel
theorem dX5_overlap_10 : decode cX5_overlap 10 = .ok (.iload 4, 2) := by decide +kernel
theorem dX5_overlap_12 : decode cX5_overlap 12 = .ok (.aload_n 0, 1) := by decide +kernel
theorem dX5_overlap_13 : decode cX5_overlap 13 = .ok (.getfield 23, 3) := by decide +kernel
theorem dX5_overlap_16 : decode cX5_overlap 16 = .ok (.iload_n 1, 1) := by decide +kernel
theorem dX5_overlap_17 : decode cX5_overlap 17 = .ok (.invokevirtual 43, 3) := by decide +kernel
theorem dX5_overlap_20 : decode cX5_overlap 20 = .ok (.iadd, 1) := by decide +kernel
theorem dX5_overlap_21 : decode cX5_overlap 21 = .ok (.istore 5, 2) := by decide +kernel
theorem dX5_overlap_23 : decode cX5_overlap 23 = .ok (.iload 5, 2) := by decide +kernel
theorem dX5_overlap_25 : decode cX5_overlap 25 = .ok (.iload_n 2, 1) := by decide +kernel
theorem dX5_overlap_26 : decode cX5_overlap 26 = .ok (.iload_n 3, 1) := by decide +kernel
theorem dX5_overlap_27 : decode cX5_overlap 27 = .ok (.iadd, 1) := by decide +kernel
theorem dX5_overlap_28 : decode cX5_overlap 28 = .ok (.invokestatic 62, 3) := by decide +kernel
theorem dX5_overlap_31 : decode cX5_overlap 31 = .ok (.iload 4, 2) := by decide +kernel
theorem dX5_overlap_33 : decode cX5_overlap 33 = .ok (.iload_n 2, 1) := by decide +kernel
theorem dX5_overlap_34 : decode cX5_overlap 34 = .ok (.invokestatic 72, 3) := by decide +kernel
theorem dX5_overlap_37 : decode cX5_overlap 37 = .ok (.isub, 1) := by decide +kernel
theorem dX5_overlap_38 : decode cX5_overlap 38 = .ok (.iconst 0, 1) := by decide +kernel
theorem dX5_overlap_39 : decode cX5_overlap 39 = .ok (.invokestatic 72, 3) := by decide +kernel
theorem dX5_overlap_42 : decode cX5_overlap 42 = .ok (.ireturn, 1) := by decide +kernel
theorem dX5_metersWithin_0 : decode cX5_metersWithin 0 = .ok (.iconst 0, 1) := by decide +kernel
theorem dX5_metersWithin_1 : decode cX5_metersWithin 1 = .ok (.istore 4, 2) := by decide +kernel
theorem dX5_metersWithin_3 : decode cX5_metersWithin 3 = .ok (.iconst 0, 1) := by decide +kernel
theorem dX5_metersWithin_4 : decode cX5_metersWithin 4 = .ok (.istore 5, 2) := by decide +kernel
theorem dX5_metersWithin_6 : decode cX5_metersWithin 6 = .ok (.iload 5, 2) := by decide +kernel
theorem dX5_metersWithin_8 : decode cX5_metersWithin 8 = .ok (.aload_n 0, 1) := by decide +kernel
theorem dX5_metersWithin_9 : decode cX5_metersWithin 9 = .ok (.getfield 36, 3) := by decide +kernel
theorem dX5_metersWithin_12 : decode cX5_metersWithin 12 = .ok (.if_icmp .ge 35, 3) := by decide +kernel
theorem dX5_metersWithin_15 : decode cX5_metersWithin 15 = .ok (.aload_n 0, 1) := by decide +kernel
theorem dX5_metersWithin_16 : decode cX5_metersWithin 16 = .ok (.getfield 14, 3) := by decide +kernel
theorem dX5_metersWithin_19 : decode cX5_metersWithin 19 = .ok (.iload 5, 2) := by decide +kernel
theorem dX5_metersWithin_21 : decode cX5_metersWithin 21 = .ok (.invokevirtual 43, 3) := by decide +kernel
theorem dX5_metersWithin_24 : decode cX5_metersWithin 24 = .ok (.iload_n 1, 1) := by decide +kernel
theorem dX5_metersWithin_25 : decode cX5_metersWithin 25 = .ok (.if_icmp .ne 16, 3) := by decide +kernel
theorem dX5_metersWithin_28 : decode cX5_metersWithin 28 = .ok (.iload 4, 2) := by decide +kernel
theorem dX5_metersWithin_30 : decode cX5_metersWithin 30 = .ok (.aload_n 0, 1) := by decide +kernel
theorem dX5_metersWithin_31 : decode cX5_metersWithin 31 = .ok (.iload 5, 2) := by decide +kernel
theorem dX5_metersWithin_33 : decode cX5_metersWithin 33 = .ok (.iload_n 2, 1) := by decide +kernel
theorem dX5_metersWithin_34 : decode cX5_metersWithin 34 = .ok (.iload_n 3, 1) := by decide +kernel
theorem dX5_metersWithin_35 : decode cX5_metersWithin 35 = .ok (.invokevirtual 82, 3) := by decide +kernel
theorem dX5_metersWithin_38 : decode cX5_metersWithin 38 = .ok (.iadd, 1) := by decide +kernel
theorem dX5_metersWithin_39 : decode cX5_metersWithin 39 = .ok (.istore 4, 2) := by decide +kernel
theorem dX5_metersWithin_41 : decode cX5_metersWithin 41 = .ok (.iinc 5 1, 3) := by decide +kernel
theorem dX5_metersWithin_44 : decode cX5_metersWithin 44 = .ok (.goto (-38), 3) := by decide +kernel
theorem dX5_metersWithin_47 : decode cX5_metersWithin 47 = .ok (.iload 4, 2) := by decide +kernel
theorem dX5_metersWithin_49 : decode cX5_metersWithin 49 = .ok (.ireturn, 1) := by decide +kernel
theorem dX5_holdersWithin_0 : decode cX5_holdersWithin 0 = .ok (.iconst 0, 1) := by decide +kernel
theorem dX5_holdersWithin_1 : decode cX5_holdersWithin 1 = .ok (.istore_n 3, 1) := by decide +kernel
theorem dX5_holdersWithin_2 : decode cX5_holdersWithin 2 = .ok (.iconst 0, 1) := by decide +kernel
theorem dX5_holdersWithin_3 : decode cX5_holdersWithin 3 = .ok (.istore 4, 2) := by decide +kernel
theorem dX5_holdersWithin_5 : decode cX5_holdersWithin 5 = .ok (.iload 4, 2) := by decide +kernel
theorem dX5_holdersWithin_7 : decode cX5_holdersWithin 7 = .ok (.aload_n 0, 1) := by decide +kernel
theorem dX5_holdersWithin_8 : decode cX5_holdersWithin 8 = .ok (.getfield 36, 3) := by decide +kernel
theorem dX5_holdersWithin_11 : decode cX5_holdersWithin 11 = .ok (.if_icmp .ge 34, 3) := by decide +kernel
theorem dX5_holdersWithin_14 : decode cX5_holdersWithin 14 = .ok (.aload_n 0, 1) := by decide +kernel
theorem dX5_holdersWithin_15 : decode cX5_holdersWithin 15 = .ok (.iload 4, 2) := by decide +kernel
theorem dX5_holdersWithin_17 : decode cX5_holdersWithin 17 = .ok (.iload_n 1, 1) := by decide +kernel
theorem dX5_holdersWithin_18 : decode cX5_holdersWithin 18 = .ok (.iload_n 2, 1) := by decide +kernel
theorem dX5_holdersWithin_19 : decode cX5_holdersWithin 19 = .ok (.invokevirtual 82, 3) := by decide +kernel
theorem dX5_holdersWithin_22 : decode cX5_holdersWithin 22 = .ok (.ifCond .le 17, 3) := by decide +kernel
theorem dX5_holdersWithin_25 : decode cX5_holdersWithin 25 = .ok (.iload_n 3, 1) := by decide +kernel
theorem dX5_holdersWithin_26 : decode cX5_holdersWithin 26 = .ok (.iconst 1, 1) := by decide +kernel
theorem dX5_holdersWithin_27 : decode cX5_holdersWithin 27 = .ok (.aload_n 0, 1) := by decide +kernel
theorem dX5_holdersWithin_28 : decode cX5_holdersWithin 28 = .ok (.getfield 14, 3) := by decide +kernel
theorem dX5_holdersWithin_31 : decode cX5_holdersWithin 31 = .ok (.iload 4, 2) := by decide +kernel
theorem dX5_holdersWithin_33 : decode cX5_holdersWithin 33 = .ok (.invokevirtual 43, 3) := by decide +kernel
theorem dX5_holdersWithin_36 : decode cX5_holdersWithin 36 = .ok (.ishl, 1) := by decide +kernel
theorem dX5_holdersWithin_37 : decode cX5_holdersWithin 37 = .ok (.ior, 1) := by decide +kernel
theorem dX5_holdersWithin_38 : decode cX5_holdersWithin 38 = .ok (.istore_n 3, 1) := by decide +kernel
theorem dX5_holdersWithin_39 : decode cX5_holdersWithin 39 = .ok (.iinc 4 1, 3) := by decide +kernel
theorem dX5_holdersWithin_42 : decode cX5_holdersWithin 42 = .ok (.goto (-37), 3) := by decide +kernel
theorem dX5_holdersWithin_45 : decode cX5_holdersWithin 45 = .ok (.iload_n 3, 1) := by decide +kernel
theorem dX5_holdersWithin_46 : decode cX5_holdersWithin 46 = .ok (.invokestatic 86, 3) := by decide +kernel
theorem dX5_holdersWithin_49 : decode cX5_holdersWithin 49 = .ok (.ireturn, 1) := by decide +kernel
theorem dX5_quietestStart_0 : decode cX5_quietestStart 0 = .ok (.iconst 0, 1) := by decide +kernel
theorem dX5_quietestStart_1 : decode cX5_quietestStart 1 = .ok (.istore_n 2, 1) := by decide +kernel
theorem dX5_quietestStart_2 : decode cX5_quietestStart 2 = .ok (.aload_n 0, 1) := by decide +kernel
theorem dX5_quietestStart_3 : decode cX5_quietestStart 3 = .ok (.iconst 0, 1) := by decide +kernel
theorem dX5_quietestStart_4 : decode cX5_quietestStart 4 = .ok (.iload_n 1, 1) := by decide +kernel
theorem dX5_quietestStart_5 : decode cX5_quietestStart 5 = .ok (.invokevirtual 91, 3) := by decide +kernel
theorem dX5_quietestStart_8 : decode cX5_quietestStart 8 = .ok (.istore_n 3, 1) := by decide +kernel
theorem dX5_quietestStart_9 : decode cX5_quietestStart 9 = .ok (.iconst 0, 1) := by decide +kernel
theorem dX5_quietestStart_10 : decode cX5_quietestStart 10 = .ok (.istore 4, 2) := by decide +kernel
theorem dX5_quietestStart_12 : decode cX5_quietestStart 12 = .ok (.iload 4, 2) := by decide +kernel
theorem dX5_quietestStart_14 : decode cX5_quietestStart 14 = .ok (.aload_n 0, 1) := by decide +kernel
theorem dX5_quietestStart_15 : decode cX5_quietestStart 15 = .ok (.getfield 36, 3) := by decide +kernel
theorem dX5_quietestStart_18 : decode cX5_quietestStart 18 = .ok (.if_icmp .ge 48, 3) := by decide +kernel
theorem dX5_quietestStart_21 : decode cX5_quietestStart 21 = .ok (.aload_n 0, 1) := by decide +kernel
theorem dX5_quietestStart_22 : decode cX5_quietestStart 22 = .ok (.iload 4, 2) := by decide +kernel
theorem dX5_quietestStart_24 : decode cX5_quietestStart 24 = .ok (.invokevirtual 59, 3) := by decide +kernel
theorem dX5_quietestStart_27 : decode cX5_quietestStart 27 = .ok (.istore 5, 2) := by decide +kernel
theorem dX5_quietestStart_29 : decode cX5_quietestStart 29 = .ok (.iload 5, 2) := by decide +kernel
theorem dX5_quietestStart_31 : decode cX5_quietestStart 31 = .ok (.iload_n 1, 1) := by decide +kernel
theorem dX5_quietestStart_32 : decode cX5_quietestStart 32 = .ok (.iadd, 1) := by decide +kernel
theorem dX5_quietestStart_33 : decode cX5_quietestStart 33 = .ok (.sipush 10000, 3) := by decide +kernel
theorem dX5_quietestStart_36 : decode cX5_quietestStart 36 = .ok (.if_icmp .gt 24, 3) := by decide +kernel
theorem dX5_quietestStart_39 : decode cX5_quietestStart 39 = .ok (.aload_n 0, 1) := by decide +kernel
theorem dX5_quietestStart_40 : decode cX5_quietestStart 40 = .ok (.iload 5, 2) := by decide +kernel
theorem dX5_quietestStart_42 : decode cX5_quietestStart 42 = .ok (.iload_n 1, 1) := by decide +kernel
theorem dX5_quietestStart_43 : decode cX5_quietestStart 43 = .ok (.invokevirtual 91, 3) := by decide +kernel
theorem dX5_quietestStart_46 : decode cX5_quietestStart 46 = .ok (.istore 6, 2) := by decide +kernel
theorem dX5_quietestStart_48 : decode cX5_quietestStart 48 = .ok (.iload 6, 2) := by decide +kernel
theorem dX5_quietestStart_50 : decode cX5_quietestStart 50 = .ok (.iload_n 3, 1) := by decide +kernel
theorem dX5_quietestStart_51 : decode cX5_quietestStart 51 = .ok (.if_icmp .ge 9, 3) := by decide +kernel
theorem dX5_quietestStart_54 : decode cX5_quietestStart 54 = .ok (.iload 6, 2) := by decide +kernel
theorem dX5_quietestStart_56 : decode cX5_quietestStart 56 = .ok (.istore_n 3, 1) := by decide +kernel
theorem dX5_quietestStart_57 : decode cX5_quietestStart 57 = .ok (.iload 5, 2) := by decide +kernel
theorem dX5_quietestStart_59 : decode cX5_quietestStart 59 = .ok (.istore_n 2, 1) := by decide +kernel
theorem dX5_quietestStart_60 : decode cX5_quietestStart 60 = .ok (.iinc 4 1, 3) := by decide +kernel
theorem dX5_quietestStart_63 : decode cX5_quietestStart 63 = .ok (.goto (-51), 3) := by decide +kernel
theorem dX5_quietestStart_66 : decode cX5_quietestStart 66 = .ok (.iload_n 2, 1) := by decide +kernel
theorem dX5_quietestStart_67 : decode cX5_quietestStart 67 = .ok (.ireturn, 1) := by decide +kernel
theorem dX5_metersBetween_0 : decode cX5_metersBetween 0 = .ok (.bipush (-6), 2) := by decide +kernel
theorem dX5_metersBetween_2 : decode cX5_metersBetween 2 = .ok (.istore_n 2, 1) := by decide +kernel
theorem dX5_metersBetween_3 : decode cX5_metersBetween 3 = .ok (.iconst 0, 1) := by decide +kernel
theorem dX5_metersBetween_4 : decode cX5_metersBetween 4 = .ok (.istore_n 3, 1) := by decide +kernel
theorem dX5_metersBetween_5 : decode cX5_metersBetween 5 = .ok (.iconst 0, 1) := by decide +kernel
theorem dX5_metersBetween_6 : decode cX5_metersBetween 6 = .ok (.istore 4, 2) := by decide +kernel
theorem dX5_metersBetween_8 : decode cX5_metersBetween 8 = .ok (.iload 4, 2) := by decide +kernel
theorem dX5_metersBetween_10 : decode cX5_metersBetween 10 = .ok (.aload_n 0, 1) := by decide +kernel
theorem dX5_metersBetween_11 : decode cX5_metersBetween 11 = .ok (.getfield 36, 3) := by decide +kernel
theorem dX5_metersBetween_14 : decode cX5_metersBetween 14 = .ok (.if_icmp .ge 49, 3) := by decide +kernel
theorem dX5_metersBetween_17 : decode cX5_metersBetween 17 = .ok (.aload_n 0, 1) := by decide +kernel
theorem dX5_metersBetween_18 : decode cX5_metersBetween 18 = .ok (.getfield 14, 3) := by decide +kernel
theorem dX5_metersBetween_21 : decode cX5_metersBetween 21 = .ok (.iload 4, 2) := by decide +kernel
theorem dX5_metersBetween_23 : decode cX5_metersBetween 23 = .ok (.invokevirtual 43, 3) := by decide +kernel
theorem dX5_metersBetween_26 : decode cX5_metersBetween 26 = .ok (.iload_n 1, 1) := by decide +kernel
theorem dX5_metersBetween_27 : decode cX5_metersBetween 27 = .ok (.if_icmp .ne 30, 3) := by decide +kernel
theorem dX5_metersBetween_30 : decode cX5_metersBetween 30 = .ok (.iload_n 2, 1) := by decide +kernel
theorem dX5_metersBetween_31 : decode cX5_metersBetween 31 = .ok (.bipush (-6), 2) := by decide +kernel
theorem dX5_metersBetween_33 : decode cX5_metersBetween 33 = .ok (.if_icmp .ne 15, 3) := by decide +kernel
theorem dX5_metersBetween_36 : decode cX5_metersBetween 36 = .ok (.aload_n 0, 1) := by decide +kernel
theorem dX5_metersBetween_37 : decode cX5_metersBetween 37 = .ok (.getfield 20, 3) := by decide +kernel
theorem dX5_metersBetween_40 : decode cX5_metersBetween 40 = .ok (.iload 4, 2) := by decide +kernel
theorem dX5_metersBetween_42 : decode cX5_metersBetween 42 = .ok (.invokevirtual 43, 3) := by decide +kernel
theorem dX5_metersBetween_45 : decode cX5_metersBetween 45 = .ok (.goto 4, 3) := by decide +kernel
theorem dX5_metersBetween_48 : decode cX5_metersBetween 48 = .ok (.iload_n 2, 1) := by decide +kernel
theorem dX5_metersBetween_49 : decode cX5_metersBetween 49 = .ok (.istore_n 2, 1) := by decide +kernel
theorem dX5_metersBetween_50 : decode cX5_metersBetween 50 = .ok (.aload_n 0, 1) := by decide +kernel
theorem dX5_metersBetween_51 : decode cX5_metersBetween 51 = .ok (.iload 4, 2) := by decide +kernel
theorem dX5_metersBetween_53 : decode cX5_metersBetween 53 = .ok (.invokevirtual 59, 3) := by decide +kernel
theorem dX5_metersBetween_56 : decode cX5_metersBetween 56 = .ok (.istore_n 3, 1) := by decide +kernel
theorem dX5_metersBetween_57 : decode cX5_metersBetween 57 = .ok (.iinc 4 1, 3) := by decide +kernel
theorem dX5_metersBetween_60 : decode cX5_metersBetween 60 = .ok (.goto (-52), 3) := by decide +kernel
theorem dX5_metersBetween_63 : decode cX5_metersBetween 63 = .ok (.iload_n 2, 1) := by decide +kernel
theorem dX5_metersBetween_64 : decode cX5_metersBetween 64 = .ok (.bipush (-6), 2) := by decide +kernel
theorem dX5_metersBetween_66 : decode cX5_metersBetween 66 = .ok (.if_icmp .ne 7, 3) := by decide +kernel
theorem dX5_metersBetween_69 : decode cX5_metersBetween 69 = .ok (.iconst 0, 1) := by decide +kernel
theorem dX5_metersBetween_70 : decode cX5_metersBetween 70 = .ok (.goto 15, 3) := by decide +kernel
theorem dX5_metersBetween_73 : decode cX5_metersBetween 73 = .ok (.iload_n 3, 1) := by decide +kernel
theorem dX5_metersBetween_74 : decode cX5_metersBetween 74 = .ok (.iload_n 2, 1) := by decide +kernel
theorem dX5_metersBetween_75 : decode cX5_metersBetween 75 = .ok (.isub, 1) := by decide +kernel
theorem dX5_metersBetween_76 : decode cX5_metersBetween 76 = .ok (.aload_n 0, 1) := by decide +kernel
theorem dX5_metersBetween_77 : decode cX5_metersBetween 77 = .ok (.getfield 29, 3) := by decide +kernel
theorem dX5_metersBetween_80 : decode cX5_metersBetween 80 = .ok (.iload_n 1, 1) := by decide +kernel
theorem dX5_metersBetween_81 : decode cX5_metersBetween 81 = .ok (.invokevirtual 43, 3) := by decide +kernel
theorem dX5_metersBetween_84 : decode cX5_metersBetween 84 = .ok (.isub, 1) := by decide +kernel
theorem dX5_metersBetween_85 : decode cX5_metersBetween 85 = .ok (.ireturn, 1) := by decide +kernel
theorem dX5_startOfGap_0 : decode cX5_startOfGap 0 = .ok (.iload_n 1, 1) := by decide +kernel
theorem dX5_startOfGap_1 : decode cX5_startOfGap 1 = .ok (.ifCond .le 27, 3) := by decide +kernel
theorem dX5_startOfGap_4 : decode cX5_startOfGap 4 = .ok (.aload_n 0, 1) := by decide +kernel
theorem dX5_startOfGap_5 : decode cX5_startOfGap 5 = .ok (.getfield 20, 3) := by decide +kernel
theorem dX5_startOfGap_8 : decode cX5_startOfGap 8 = .ok (.iload_n 1, 1) := by decide +kernel
theorem dX5_startOfGap_9 : decode cX5_startOfGap 9 = .ok (.iconst 1, 1) := by decide +kernel
theorem dX5_startOfGap_10 : decode cX5_startOfGap 10 = .ok (.isub, 1) := by decide +kernel
theorem dX5_startOfGap_11 : decode cX5_startOfGap 11 = .ok (.invokevirtual 43, 3) := by decide +kernel
theorem dX5_startOfGap_14 : decode cX5_startOfGap 14 = .ok (.aload_n 0, 1) := by decide +kernel
theorem dX5_startOfGap_15 : decode cX5_startOfGap 15 = .ok (.getfield 23, 3) := by decide +kernel
theorem dX5_startOfGap_18 : decode cX5_startOfGap 18 = .ok (.iload_n 1, 1) := by decide +kernel
theorem dX5_startOfGap_19 : decode cX5_startOfGap 19 = .ok (.iconst 1, 1) := by decide +kernel
theorem dX5_startOfGap_20 : decode cX5_startOfGap 20 = .ok (.isub, 1) := by decide +kernel
theorem dX5_startOfGap_21 : decode cX5_startOfGap 21 = .ok (.invokevirtual 43, 3) := by decide +kernel
theorem dX5_startOfGap_24 : decode cX5_startOfGap 24 = .ok (.iadd, 1) := by decide +kernel
theorem dX5_startOfGap_25 : decode cX5_startOfGap 25 = .ok (.goto 4, 3) := by decide +kernel
theorem dX5_startOfGap_28 : decode cX5_startOfGap 28 = .ok (.iconst 0, 1) := by decide +kernel
theorem dX5_startOfGap_29 : decode cX5_startOfGap 29 = .ok (.ireturn, 1) := by decide +kernel
theorem dX5_lengthOfGap_0 : decode cX5_lengthOfGap 0 = .ok (.iload_n 1, 1) := by decide +kernel
theorem dX5_lengthOfGap_1 : decode cX5_lengthOfGap 1 = .ok (.aload_n 0, 1) := by decide +kernel
theorem dX5_lengthOfGap_2 : decode cX5_lengthOfGap 2 = .ok (.getfield 36, 3) := by decide +kernel
theorem dX5_lengthOfGap_5 : decode cX5_lengthOfGap 5 = .ok (.if_icmp .ge 14, 3) := by decide +kernel
theorem dX5_lengthOfGap_8 : decode cX5_lengthOfGap 8 = .ok (.aload_n 0, 1) := by decide +kernel
theorem dX5_lengthOfGap_9 : decode cX5_lengthOfGap 9 = .ok (.getfield 20, 3) := by decide +kernel
theorem dX5_lengthOfGap_12 : decode cX5_lengthOfGap 12 = .ok (.iload_n 1, 1) := by decide +kernel
theorem dX5_lengthOfGap_13 : decode cX5_lengthOfGap 13 = .ok (.invokevirtual 43, 3) := by decide +kernel
theorem dX5_lengthOfGap_16 : decode cX5_lengthOfGap 16 = .ok (.goto 6, 3) := by decide +kernel
theorem dX5_lengthOfGap_19 : decode cX5_lengthOfGap 19 = .ok (.sipush 10000, 3) := by decide +kernel
theorem dX5_lengthOfGap_22 : decode cX5_lengthOfGap 22 = .ok (.aload_n 0, 1) := by decide +kernel
theorem dX5_lengthOfGap_23 : decode cX5_lengthOfGap 23 = .ok (.iload_n 1, 1) := by decide +kernel
theorem dX5_lengthOfGap_24 : decode cX5_lengthOfGap 24 = .ok (.invokevirtual 94, 3) := by decide +kernel
theorem dX5_lengthOfGap_27 : decode cX5_lengthOfGap 27 = .ok (.isub, 1) := by decide +kernel
theorem dX5_lengthOfGap_28 : decode cX5_lengthOfGap 28 = .ok (.ireturn, 1) := by decide +kernel
theorem dX5_holes_0 : decode cX5_holes 0 = .ok (.iconst 0, 1) := by decide +kernel
theorem dX5_holes_1 : decode cX5_holes 1 = .ok (.istore_n 1, 1) := by decide +kernel
theorem dX5_holes_2 : decode cX5_holes 2 = .ok (.iconst 0, 1) := by decide +kernel
theorem dX5_holes_3 : decode cX5_holes 3 = .ok (.istore_n 2, 1) := by decide +kernel
theorem dX5_holes_4 : decode cX5_holes 4 = .ok (.iload_n 2, 1) := by decide +kernel
theorem dX5_holes_5 : decode cX5_holes 5 = .ok (.aload_n 0, 1) := by decide +kernel
theorem dX5_holes_6 : decode cX5_holes 6 = .ok (.getfield 36, 3) := by decide +kernel
theorem dX5_holes_9 : decode cX5_holes 9 = .ok (.if_icmp .gt 20, 3) := by decide +kernel
theorem dX5_holes_12 : decode cX5_holes 12 = .ok (.aload_n 0, 1) := by decide +kernel
theorem dX5_holes_13 : decode cX5_holes 13 = .ok (.iload_n 2, 1) := by decide +kernel
theorem dX5_holes_14 : decode cX5_holes 14 = .ok (.invokevirtual 97, 3) := by decide +kernel
theorem dX5_holes_17 : decode cX5_holes 17 = .ok (.ifCond .le 6, 3) := by decide +kernel
theorem dX5_holes_20 : decode cX5_holes 20 = .ok (.iinc 1 1, 3) := by decide +kernel
theorem dX5_holes_23 : decode cX5_holes 23 = .ok (.iinc 2 1, 3) := by decide +kernel
theorem dX5_holes_26 : decode cX5_holes 26 = .ok (.goto (-22), 3) := by decide +kernel
theorem dX5_holes_29 : decode cX5_holes 29 = .ok (.iload_n 1, 1) := by decide +kernel
theorem dX5_holes_30 : decode cX5_holes 30 = .ok (.ireturn, 1) := by decide +kernel
theorem dX5_longestHole_0 : decode cX5_longestHole 0 = .ok (.iconst 0, 1) := by decide +kernel
theorem dX5_longestHole_1 : decode cX5_longestHole 1 = .ok (.istore_n 1, 1) := by decide +kernel
theorem dX5_longestHole_2 : decode cX5_longestHole 2 = .ok (.iconst 0, 1) := by decide +kernel
theorem dX5_longestHole_3 : decode cX5_longestHole 3 = .ok (.istore_n 2, 1) := by decide +kernel
theorem dX5_longestHole_4 : decode cX5_longestHole 4 = .ok (.iload_n 2, 1) := by decide +kernel
theorem dX5_longestHole_5 : decode cX5_longestHole 5 = .ok (.aload_n 0, 1) := by decide +kernel
theorem dX5_longestHole_6 : decode cX5_longestHole 6 = .ok (.getfield 36, 3) := by decide +kernel
theorem dX5_longestHole_9 : decode cX5_longestHole 9 = .ok (.if_icmp .gt 19, 3) := by decide +kernel
theorem dX5_longestHole_12 : decode cX5_longestHole 12 = .ok (.iload_n 1, 1) := by decide +kernel
theorem dX5_longestHole_13 : decode cX5_longestHole 13 = .ok (.aload_n 0, 1) := by decide +kernel
theorem dX5_longestHole_14 : decode cX5_longestHole 14 = .ok (.iload_n 2, 1) := by decide +kernel
theorem dX5_longestHole_15 : decode cX5_longestHole 15 = .ok (.invokevirtual 97, 3) := by decide +kernel
theorem dX5_longestHole_18 : decode cX5_longestHole 18 = .ok (.invokestatic 72, 3) := by decide +kernel
theorem dX5_longestHole_21 : decode cX5_longestHole 21 = .ok (.istore_n 1, 1) := by decide +kernel
theorem dX5_longestHole_22 : decode cX5_longestHole 22 = .ok (.iinc 2 1, 3) := by decide +kernel
theorem dX5_longestHole_25 : decode cX5_longestHole 25 = .ok (.goto (-21), 3) := by decide +kernel
theorem dX5_longestHole_28 : decode cX5_longestHole 28 = .ok (.iload_n 1, 1) := by decide +kernel
theorem dX5_longestHole_29 : decode cX5_longestHole 29 = .ok (.ireturn, 1) := by decide +kernel
theorem dX5_gapFor_0 : decode cX5_gapFor 0 = .ok (.bipush (-6), 2) := by decide +kernel
theorem dX5_gapFor_2 : decode cX5_gapFor 2 = .ok (.istore_n 3, 1) := by decide +kernel
theorem dX5_gapFor_3 : decode cX5_gapFor 3 = .ok (.iconst 0, 1) := by decide +kernel
theorem dX5_gapFor_4 : decode cX5_gapFor 4 = .ok (.istore 4, 2) := by decide +kernel
theorem dX5_gapFor_6 : decode cX5_gapFor 6 = .ok (.iconst 0, 1) := by decide +kernel
theorem dX5_gapFor_7 : decode cX5_gapFor 7 = .ok (.istore 5, 2) := by decide +kernel
theorem dX5_gapFor_9 : decode cX5_gapFor 9 = .ok (.iload 5, 2) := by decide +kernel
theorem dX5_gapFor_11 : decode cX5_gapFor 11 = .ok (.aload_n 0, 1) := by decide +kernel
theorem dX5_gapFor_12 : decode cX5_gapFor 12 = .ok (.getfield 36, 3) := by decide +kernel
theorem dX5_gapFor_15 : decode cX5_gapFor 15 = .ok (.if_icmp .gt 47, 3) := by decide +kernel
theorem dX5_gapFor_18 : decode cX5_gapFor 18 = .ok (.aload_n 0, 1) := by decide +kernel
theorem dX5_gapFor_19 : decode cX5_gapFor 19 = .ok (.iload 5, 2) := by decide +kernel
theorem dX5_gapFor_21 : decode cX5_gapFor 21 = .ok (.invokevirtual 97, 3) := by decide +kernel
theorem dX5_gapFor_24 : decode cX5_gapFor 24 = .ok (.istore 6, 2) := by decide +kernel
theorem dX5_gapFor_26 : decode cX5_gapFor 26 = .ok (.iload 6, 2) := by decide +kernel
theorem dX5_gapFor_28 : decode cX5_gapFor 28 = .ok (.iload_n 1, 1) := by decide +kernel
theorem dX5_gapFor_29 : decode cX5_gapFor 29 = .ok (.if_icmp .lt 27, 3) := by decide +kernel
theorem dX5_gapFor_32 : decode cX5_gapFor 32 = .ok (.iload_n 3, 1) := by decide +kernel
theorem dX5_gapFor_33 : decode cX5_gapFor 33 = .ok (.bipush (-6), 2) := by decide +kernel
theorem dX5_gapFor_35 : decode cX5_gapFor 35 = .ok (.if_icmp .eq 14, 3) := by decide +kernel
theorem dX5_gapFor_38 : decode cX5_gapFor 38 = .ok (.iload 6, 2) := by decide +kernel
theorem dX5_gapFor_40 : decode cX5_gapFor 40 = .ok (.iload 4, 2) := by decide +kernel
theorem dX5_gapFor_42 : decode cX5_gapFor 42 = .ok (.iload_n 2, 1) := by decide +kernel
theorem dX5_gapFor_43 : decode cX5_gapFor 43 = .ok (.invokestatic 100, 3) := by decide +kernel
theorem dX5_gapFor_46 : decode cX5_gapFor 46 = .ok (.ifCond .eq 10, 3) := by decide +kernel
theorem dX5_gapFor_49 : decode cX5_gapFor 49 = .ok (.iload 5, 2) := by decide +kernel
theorem dX5_gapFor_51 : decode cX5_gapFor 51 = .ok (.istore_n 3, 1) := by decide +kernel
theorem dX5_gapFor_52 : decode cX5_gapFor 52 = .ok (.iload 6, 2) := by decide +kernel
theorem dX5_gapFor_54 : decode cX5_gapFor 54 = .ok (.istore 4, 2) := by decide +kernel
theorem dX5_gapFor_56 : decode cX5_gapFor 56 = .ok (.iinc 5 1, 3) := by decide +kernel
theorem dX5_gapFor_59 : decode cX5_gapFor 59 = .ok (.goto (-50), 3) := by decide +kernel
theorem dX5_gapFor_62 : decode cX5_gapFor 62 = .ok (.iload_n 3, 1) := by decide +kernel
theorem dX5_gapFor_63 : decode cX5_gapFor 63 = .ok (.ireturn, 1) := by decide +kernel
theorem dX5_isBetter_0 : decode cX5_isBetter 0 = .ok (.iload_n 2, 1) := by decide +kernel
theorem dX5_isBetter_1 : decode cX5_isBetter 1 = .ok (.iconst 1, 1) := by decide +kernel
theorem dX5_isBetter_2 : decode cX5_isBetter 2 = .ok (.if_icmp .ne 8, 3) := by decide +kernel
theorem dX5_isBetter_5 : decode cX5_isBetter 5 = .ok (.iload_n 0, 1) := by decide +kernel
theorem dX5_isBetter_6 : decode cX5_isBetter 6 = .ok (.iload_n 1, 1) := by decide +kernel
theorem dX5_isBetter_7 : decode cX5_isBetter 7 = .ok (.if_icmp .lt 13, 3) := by decide +kernel
theorem dX5_isBetter_10 : decode cX5_isBetter 10 = .ok (.iload_n 2, 1) := by decide +kernel
theorem dX5_isBetter_11 : decode cX5_isBetter 11 = .ok (.iconst 2, 1) := by decide +kernel
theorem dX5_isBetter_12 : decode cX5_isBetter 12 = .ok (.if_icmp .ne 12, 3) := by decide +kernel
theorem dX5_isBetter_15 : decode cX5_isBetter 15 = .ok (.iload_n 0, 1) := by decide +kernel
theorem dX5_isBetter_16 : decode cX5_isBetter 16 = .ok (.iload_n 1, 1) := by decide +kernel
theorem dX5_isBetter_17 : decode cX5_isBetter 17 = .ok (.if_icmp .le 7, 3) := by decide +kernel
theorem dX5_isBetter_20 : decode cX5_isBetter 20 = .ok (.iconst 1, 1) := by decide +kernel
theorem dX5_isBetter_21 : decode cX5_isBetter 21 = .ok (.goto 4, 3) := by decide +kernel
theorem dX5_isBetter_24 : decode cX5_isBetter 24 = .ok (.iconst 0, 1) := by decide +kernel
theorem dX5_isBetter_25 : decode cX5_isBetter 25 = .ok (.ireturn, 1) := by decide +kernel
theorem dX5_bestExchange_0 : decode cX5_bestExchange 0 = .ok (.bipush (-6), 2) := by decide +kernel
theorem dX5_bestExchange_2 : decode cX5_bestExchange 2 = .ok (.istore_n 2, 1) := by decide +kernel
theorem dX5_bestExchange_3 : decode cX5_bestExchange 3 = .ok (.bipush (-6), 2) := by decide +kernel
theorem dX5_bestExchange_5 : decode cX5_bestExchange 5 = .ok (.istore_n 3, 1) := by decide +kernel
theorem dX5_bestExchange_6 : decode cX5_bestExchange 6 = .ok (.iconst 0, 1) := by decide +kernel
theorem dX5_bestExchange_7 : decode cX5_bestExchange 7 = .ok (.istore 4, 2) := by decide +kernel
theorem dX5_bestExchange_9 : decode cX5_bestExchange 9 = .ok (.iconst 0, 1) := by decide +kernel
theorem dX5_bestExchange_10 : decode cX5_bestExchange 10 = .ok (.istore 5, 2) := by decide +kernel
theorem dX5_bestExchange_12 : decode cX5_bestExchange 12 = .ok (.iload 5, 2) := by decide +kernel
theorem dX5_bestExchange_14 : decode cX5_bestExchange 14 = .ok (.aload_n 0, 1) := by decide +kernel
theorem dX5_bestExchange_15 : decode cX5_bestExchange 15 = .ok (.getfield 36, 3) := by decide +kernel
theorem dX5_bestExchange_18 : decode cX5_bestExchange 18 = .ok (.if_icmp .ge 82, 3) := by decide +kernel
theorem dX5_bestExchange_21 : decode cX5_bestExchange 21 = .ok (.iload 5, 2) := by decide +kernel
theorem dX5_bestExchange_23 : decode cX5_bestExchange 23 = .ok (.iconst 1, 1) := by decide +kernel
theorem dX5_bestExchange_24 : decode cX5_bestExchange 24 = .ok (.iadd, 1) := by decide +kernel
theorem dX5_bestExchange_25 : decode cX5_bestExchange 25 = .ok (.istore 6, 2) := by decide +kernel
theorem dX5_bestExchange_27 : decode cX5_bestExchange 27 = .ok (.iload 6, 2) := by decide +kernel
theorem dX5_bestExchange_29 : decode cX5_bestExchange 29 = .ok (.aload_n 0, 1) := by decide +kernel
theorem dX5_bestExchange_30 : decode cX5_bestExchange 30 = .ok (.getfield 36, 3) := by decide +kernel
theorem dX5_bestExchange_33 : decode cX5_bestExchange 33 = .ok (.if_icmp .ge 61, 3) := by decide +kernel
theorem dX5_bestExchange_36 : decode cX5_bestExchange 36 = .ok (.aload_n 0, 1) := by decide +kernel
theorem dX5_bestExchange_37 : decode cX5_bestExchange 37 = .ok (.getfield 23, 3) := by decide +kernel
theorem dX5_bestExchange_40 : decode cX5_bestExchange 40 = .ok (.iload 5, 2) := by decide +kernel
theorem dX5_bestExchange_42 : decode cX5_bestExchange 42 = .ok (.invokevirtual 43, 3) := by decide +kernel
theorem dX5_bestExchange_45 : decode cX5_bestExchange 45 = .ok (.aload_n 0, 1) := by decide +kernel
theorem dX5_bestExchange_46 : decode cX5_bestExchange 46 = .ok (.getfield 23, 3) := by decide +kernel
theorem dX5_bestExchange_49 : decode cX5_bestExchange 49 = .ok (.iload 6, 2) := by decide +kernel
theorem dX5_bestExchange_51 : decode cX5_bestExchange 51 = .ok (.invokevirtual 43, 3) := by decide +kernel
theorem dX5_bestExchange_54 : decode cX5_bestExchange 54 = .ok (.if_icmp .ne 14, 3) := by decide +kernel
theorem dX5_bestExchange_57 : decode cX5_bestExchange 57 = .ok (.aload_n 0, 1) := by decide +kernel
theorem dX5_bestExchange_58 : decode cX5_bestExchange 58 = .ok (.iload 5, 2) := by decide +kernel
theorem dX5_bestExchange_60 : decode cX5_bestExchange 60 = .ok (.iload 6, 2) := by decide +kernel
theorem dX5_bestExchange_62 : decode cX5_bestExchange 62 = .ok (.invokevirtual 104, 3) := by decide +kernel
theorem dX5_bestExchange_65 : decode cX5_bestExchange 65 = .ok (.goto 4, 3) := by decide +kernel
theorem dX5_bestExchange_68 : decode cX5_bestExchange 68 = .ok (.iconst 0, 1) := by decide +kernel
theorem dX5_bestExchange_69 : decode cX5_bestExchange 69 = .ok (.istore 7, 2) := by decide +kernel
theorem dX5_bestExchange_71 : decode cX5_bestExchange 71 = .ok (.iload 7, 2) := by decide +kernel
theorem dX5_bestExchange_73 : decode cX5_bestExchange 73 = .ok (.iload 4, 2) := by decide +kernel
theorem dX5_bestExchange_75 : decode cX5_bestExchange 75 = .ok (.if_icmp .le 13, 3) := by decide +kernel
theorem dX5_bestExchange_78 : decode cX5_bestExchange 78 = .ok (.iload 7, 2) := by decide +kernel
theorem dX5_bestExchange_80 : decode cX5_bestExchange 80 = .ok (.istore 4, 2) := by decide +kernel
theorem dX5_bestExchange_82 : decode cX5_bestExchange 82 = .ok (.iload 5, 2) := by decide +kernel
theorem dX5_bestExchange_84 : decode cX5_bestExchange 84 = .ok (.istore_n 2, 1) := by decide +kernel
theorem dX5_bestExchange_85 : decode cX5_bestExchange 85 = .ok (.iload 6, 2) := by decide +kernel
theorem dX5_bestExchange_87 : decode cX5_bestExchange 87 = .ok (.istore_n 3, 1) := by decide +kernel
theorem dX5_bestExchange_88 : decode cX5_bestExchange 88 = .ok (.iinc 6 1, 3) := by decide +kernel
theorem dX5_bestExchange_91 : decode cX5_bestExchange 91 = .ok (.goto (-64), 3) := by decide +kernel
theorem dX5_bestExchange_94 : decode cX5_bestExchange 94 = .ok (.iinc 5 1, 3) := by decide +kernel
theorem dX5_bestExchange_97 : decode cX5_bestExchange 97 = .ok (.goto (-85), 3) := by decide +kernel
theorem dX5_bestExchange_100 : decode cX5_bestExchange 100 = .ok (.iload_n 1, 1) := by decide +kernel
theorem dX5_bestExchange_101 : decode cX5_bestExchange 101 = .ok (.ifCond .eq 9, 3) := by decide +kernel
theorem dX5_bestExchange_104 : decode cX5_bestExchange 104 = .ok (.iload_n 2, 1) := by decide +kernel
theorem dX5_bestExchange_105 : decode cX5_bestExchange 105 = .ok (.bipush (-6), 2) := by decide +kernel
theorem dX5_bestExchange_107 : decode cX5_bestExchange 107 = .ok (.if_icmp .ne 5, 3) := by decide +kernel
theorem dX5_bestExchange_110 : decode cX5_bestExchange 110 = .ok (.iload_n 2, 1) := by decide +kernel
theorem dX5_bestExchange_111 : decode cX5_bestExchange 111 = .ok (.ireturn, 1) := by decide +kernel
theorem dX5_bestExchange_112 : decode cX5_bestExchange 112 = .ok (.iload_n 1, 1) := by decide +kernel
theorem dX5_bestExchange_113 : decode cX5_bestExchange 113 = .ok (.iconst 1, 1) := by decide +kernel
theorem dX5_bestExchange_114 : decode cX5_bestExchange 114 = .ok (.if_icmp .ne 7, 3) := by decide +kernel
theorem dX5_bestExchange_117 : decode cX5_bestExchange 117 = .ok (.iload_n 3, 1) := by decide +kernel
theorem dX5_bestExchange_118 : decode cX5_bestExchange 118 = .ok (.goto 10, 3) := by decide +kernel
theorem dX5_bestExchange_121 : decode cX5_bestExchange 121 = .ok (.aload_n 0, 1) := by decide +kernel
theorem dX5_bestExchange_122 : decode cX5_bestExchange 122 = .ok (.getfield 36, 3) := by decide +kernel
theorem dX5_bestExchange_125 : decode cX5_bestExchange 125 = .ok (.iload 4, 2) := by decide +kernel
theorem dX5_bestExchange_127 : decode cX5_bestExchange 127 = .ok (.isub, 1) := by decide +kernel
theorem dX5_bestExchange_128 : decode cX5_bestExchange 128 = .ok (.ireturn, 1) := by decide +kernel
theorem dX5_joinsOfExchange_0 : decode cX5_joinsOfExchange 0 = .ok (.aload_n 0, 1) := by decide +kernel
theorem dX5_joinsOfExchange_1 : decode cX5_joinsOfExchange 1 = .ok (.getfield 14, 3) := by decide +kernel
theorem dX5_joinsOfExchange_4 : decode cX5_joinsOfExchange 4 = .ok (.iload_n 1, 1) := by decide +kernel
theorem dX5_joinsOfExchange_5 : decode cX5_joinsOfExchange 5 = .ok (.invokevirtual 43, 3) := by decide +kernel
theorem dX5_joinsOfExchange_8 : decode cX5_joinsOfExchange 8 = .ok (.aload_n 0, 1) := by decide +kernel
theorem dX5_joinsOfExchange_9 : decode cX5_joinsOfExchange 9 = .ok (.getfield 14, 3) := by decide +kernel
theorem dX5_joinsOfExchange_12 : decode cX5_joinsOfExchange 12 = .ok (.iload_n 2, 1) := by decide +kernel
theorem dX5_joinsOfExchange_13 : decode cX5_joinsOfExchange 13 = .ok (.invokevirtual 43, 3) := by decide +kernel
theorem dX5_joinsOfExchange_16 : decode cX5_joinsOfExchange 16 = .ok (.if_icmp .ne 5, 3) := by decide +kernel
theorem dX5_joinsOfExchange_19 : decode cX5_joinsOfExchange 19 = .ok (.iconst 0, 1) := by decide +kernel
theorem dX5_joinsOfExchange_20 : decode cX5_joinsOfExchange 20 = .ok (.ireturn, 1) := by decide +kernel
theorem dX5_joinsOfExchange_21 : decode cX5_joinsOfExchange 21 = .ok (.aload_n 0, 1) := by decide +kernel
theorem dX5_joinsOfExchange_22 : decode cX5_joinsOfExchange 22 = .ok (.iload_n 1, 1) := by decide +kernel
theorem dX5_joinsOfExchange_23 : decode cX5_joinsOfExchange 23 = .ok (.iconst 1, 1) := by decide +kernel
theorem dX5_joinsOfExchange_24 : decode cX5_joinsOfExchange 24 = .ok (.isub, 1) := by decide +kernel
theorem dX5_joinsOfExchange_25 : decode cX5_joinsOfExchange 25 = .ok (.iload_n 1, 1) := by decide +kernel
theorem dX5_joinsOfExchange_26 : decode cX5_joinsOfExchange 26 = .ok (.iload_n 2, 1) := by decide +kernel
theorem dX5_joinsOfExchange_27 : decode cX5_joinsOfExchange 27 = .ok (.invokevirtual 107, 3) := by decide +kernel
theorem dX5_joinsOfExchange_30 : decode cX5_joinsOfExchange 30 = .ok (.aload_n 0, 1) := by decide +kernel
theorem dX5_joinsOfExchange_31 : decode cX5_joinsOfExchange 31 = .ok (.iload_n 1, 1) := by decide +kernel
theorem dX5_joinsOfExchange_32 : decode cX5_joinsOfExchange 32 = .ok (.iload_n 1, 1) := by decide +kernel
theorem dX5_joinsOfExchange_33 : decode cX5_joinsOfExchange 33 = .ok (.iload_n 2, 1) := by decide +kernel
theorem dX5_joinsOfExchange_34 : decode cX5_joinsOfExchange 34 = .ok (.invokevirtual 107, 3) := by decide +kernel
theorem dX5_joinsOfExchange_37 : decode cX5_joinsOfExchange 37 = .ok (.iadd, 1) := by decide +kernel
theorem dX5_joinsOfExchange_38 : decode cX5_joinsOfExchange 38 = .ok (.aload_n 0, 1) := by decide +kernel
theorem dX5_joinsOfExchange_39 : decode cX5_joinsOfExchange 39 = .ok (.iload_n 2, 1) := by decide +kernel
theorem dX5_joinsOfExchange_40 : decode cX5_joinsOfExchange 40 = .ok (.iconst 1, 1) := by decide +kernel
theorem dX5_joinsOfExchange_41 : decode cX5_joinsOfExchange 41 = .ok (.isub, 1) := by decide +kernel
theorem dX5_joinsOfExchange_42 : decode cX5_joinsOfExchange 42 = .ok (.iload_n 1, 1) := by decide +kernel
theorem dX5_joinsOfExchange_43 : decode cX5_joinsOfExchange 43 = .ok (.iload_n 2, 1) := by decide +kernel
theorem dX5_joinsOfExchange_44 : decode cX5_joinsOfExchange 44 = .ok (.invokevirtual 107, 3) := by decide +kernel
theorem dX5_joinsOfExchange_47 : decode cX5_joinsOfExchange 47 = .ok (.iadd, 1) := by decide +kernel
theorem dX5_joinsOfExchange_48 : decode cX5_joinsOfExchange 48 = .ok (.aload_n 0, 1) := by decide +kernel
theorem dX5_joinsOfExchange_49 : decode cX5_joinsOfExchange 49 = .ok (.iload_n 2, 1) := by decide +kernel
theorem dX5_joinsOfExchange_50 : decode cX5_joinsOfExchange 50 = .ok (.iload_n 1, 1) := by decide +kernel
theorem dX5_joinsOfExchange_51 : decode cX5_joinsOfExchange 51 = .ok (.iload_n 2, 1) := by decide +kernel
theorem dX5_joinsOfExchange_52 : decode cX5_joinsOfExchange 52 = .ok (.invokevirtual 107, 3) := by decide +kernel
theorem dX5_joinsOfExchange_55 : decode cX5_joinsOfExchange 55 = .ok (.iadd, 1) := by decide +kernel
theorem dX5_joinsOfExchange_56 : decode cX5_joinsOfExchange 56 = .ok (.ireturn, 1) := by decide +kernel
theorem dX5_joinAt_0 : decode cX5_joinAt 0 = .ok (.aload_n 0, 1) := by decide +kernel
theorem dX5_joinAt_1 : decode cX5_joinAt 1 = .ok (.iload_n 1, 1) := by decide +kernel
theorem dX5_joinAt_2 : decode cX5_joinAt 2 = .ok (.invokevirtual 75, 3) := by decide +kernel
theorem dX5_joinAt_5 : decode cX5_joinAt 5 = .ok (.ifCond .eq 31, 3) := by decide +kernel
theorem dX5_joinAt_8 : decode cX5_joinAt 8 = .ok (.aload_n 0, 1) := by decide +kernel
theorem dX5_joinAt_9 : decode cX5_joinAt 9 = .ok (.iload_n 1, 1) := by decide +kernel
theorem dX5_joinAt_10 : decode cX5_joinAt 10 = .ok (.iconst 1, 1) := by decide +kernel
theorem dX5_joinAt_11 : decode cX5_joinAt 11 = .ok (.iadd, 1) := by decide +kernel
theorem dX5_joinAt_12 : decode cX5_joinAt 12 = .ok (.invokevirtual 75, 3) := by decide +kernel
theorem dX5_joinAt_15 : decode cX5_joinAt 15 = .ok (.ifCond .eq 21, 3) := by decide +kernel
theorem dX5_joinAt_18 : decode cX5_joinAt 18 = .ok (.aload_n 0, 1) := by decide +kernel
theorem dX5_joinAt_19 : decode cX5_joinAt 19 = .ok (.iload_n 1, 1) := by decide +kernel
theorem dX5_joinAt_20 : decode cX5_joinAt 20 = .ok (.invokevirtual 59, 3) := by decide +kernel
theorem dX5_joinAt_23 : decode cX5_joinAt 23 = .ok (.aload_n 0, 1) := by decide +kernel
theorem dX5_joinAt_24 : decode cX5_joinAt 24 = .ok (.getfield 20, 3) := by decide +kernel
theorem dX5_joinAt_27 : decode cX5_joinAt 27 = .ok (.iload_n 1, 1) := by decide +kernel
theorem dX5_joinAt_28 : decode cX5_joinAt 28 = .ok (.iconst 1, 1) := by decide +kernel
theorem dX5_joinAt_29 : decode cX5_joinAt 29 = .ok (.iadd, 1) := by decide +kernel
theorem dX5_joinAt_30 : decode cX5_joinAt 30 = .ok (.invokevirtual 43, 3) := by decide +kernel
theorem dX5_joinAt_33 : decode cX5_joinAt 33 = .ok (.if_icmp .eq 5, 3) := by decide +kernel
theorem dX5_joinAt_36 : decode cX5_joinAt 36 = .ok (.iconst 0, 1) := by decide +kernel
theorem dX5_joinAt_37 : decode cX5_joinAt 37 = .ok (.ireturn, 1) := by decide +kernel
theorem dX5_joinAt_38 : decode cX5_joinAt 38 = .ok (.aload_n 0, 1) := by decide +kernel
theorem dX5_joinAt_39 : decode cX5_joinAt 39 = .ok (.iload_n 1, 1) := by decide +kernel
theorem dX5_joinAt_40 : decode cX5_joinAt 40 = .ok (.iload_n 2, 1) := by decide +kernel
theorem dX5_joinAt_41 : decode cX5_joinAt 41 = .ok (.iload_n 3, 1) := by decide +kernel
theorem dX5_joinAt_42 : decode cX5_joinAt 42 = .ok (.invokevirtual 110, 3) := by decide +kernel
theorem dX5_joinAt_45 : decode cX5_joinAt 45 = .ok (.aload_n 0, 1) := by decide +kernel
theorem dX5_joinAt_46 : decode cX5_joinAt 46 = .ok (.iload_n 1, 1) := by decide +kernel
theorem dX5_joinAt_47 : decode cX5_joinAt 47 = .ok (.iconst 1, 1) := by decide +kernel
theorem dX5_joinAt_48 : decode cX5_joinAt 48 = .ok (.iadd, 1) := by decide +kernel
theorem dX5_joinAt_49 : decode cX5_joinAt 49 = .ok (.iload_n 2, 1) := by decide +kernel
theorem dX5_joinAt_50 : decode cX5_joinAt 50 = .ok (.iload_n 3, 1) := by decide +kernel
theorem dX5_joinAt_51 : decode cX5_joinAt 51 = .ok (.invokevirtual 110, 3) := by decide +kernel
theorem dX5_joinAt_54 : decode cX5_joinAt 54 = .ok (.if_icmp .ne 7, 3) := by decide +kernel
theorem dX5_joinAt_57 : decode cX5_joinAt 57 = .ok (.iconst 1, 1) := by decide +kernel
theorem dX5_joinAt_58 : decode cX5_joinAt 58 = .ok (.goto 4, 3) := by decide +kernel
theorem dX5_joinAt_61 : decode cX5_joinAt 61 = .ok (.iconst 0, 1) := by decide +kernel
theorem dX5_joinAt_62 : decode cX5_joinAt 62 = .ok (.ireturn, 1) := by decide +kernel
theorem dX5_holderAfter_0 : decode cX5_holderAfter 0 = .ok (.iload_n 1, 1) := by decide +kernel
theorem dX5_holderAfter_1 : decode cX5_holderAfter 1 = .ok (.iload_n 2, 1) := by decide +kernel
theorem dX5_holderAfter_2 : decode cX5_holderAfter 2 = .ok (.if_icmp .ne 12, 3) := by decide +kernel
theorem dX5_holderAfter_5 : decode cX5_holderAfter 5 = .ok (.aload_n 0, 1) := by decide +kernel
theorem dX5_holderAfter_6 : decode cX5_holderAfter 6 = .ok (.getfield 14, 3) := by decide +kernel
theorem dX5_holderAfter_9 : decode cX5_holderAfter 9 = .ok (.iload_n 3, 1) := by decide +kernel
theorem dX5_holderAfter_10 : decode cX5_holderAfter 10 = .ok (.invokevirtual 43, 3) := by decide +kernel
theorem dX5_holderAfter_13 : decode cX5_holderAfter 13 = .ok (.ireturn, 1) := by decide +kernel
theorem dX5_holderAfter_14 : decode cX5_holderAfter 14 = .ok (.iload_n 1, 1) := by decide +kernel
theorem dX5_holderAfter_15 : decode cX5_holderAfter 15 = .ok (.iload_n 3, 1) := by decide +kernel
theorem dX5_holderAfter_16 : decode cX5_holderAfter 16 = .ok (.if_icmp .ne 14, 3) := by decide +kernel
theorem dX5_holderAfter_19 : decode cX5_holderAfter 19 = .ok (.aload_n 0, 1) := by decide +kernel
theorem dX5_holderAfter_20 : decode cX5_holderAfter 20 = .ok (.getfield 14, 3) := by decide +kernel
theorem dX5_holderAfter_23 : decode cX5_holderAfter 23 = .ok (.iload_n 2, 1) := by decide +kernel
theorem dX5_holderAfter_24 : decode cX5_holderAfter 24 = .ok (.invokevirtual 43, 3) := by decide +kernel
theorem dX5_holderAfter_27 : decode cX5_holderAfter 27 = .ok (.goto 11, 3) := by decide +kernel
theorem dX5_holderAfter_30 : decode cX5_holderAfter 30 = .ok (.aload_n 0, 1) := by decide +kernel
theorem dX5_holderAfter_31 : decode cX5_holderAfter 31 = .ok (.getfield 14, 3) := by decide +kernel
theorem dX5_holderAfter_34 : decode cX5_holderAfter 34 = .ok (.iload_n 1, 1) := by decide +kernel
theorem dX5_holderAfter_35 : decode cX5_holderAfter 35 = .ok (.invokevirtual 43, 3) := by decide +kernel
theorem dX5_holderAfter_38 : decode cX5_holderAfter 38 = .ok (.ireturn, 1) := by decide +kernel
theorem dX6_init_0 : decode cX6_init 0 = .ok (.aload_n 0, 1) := by decide +kernel
theorem dX6_init_1 : decode cX6_init 1 = .ok (.invokespecial 3, 3) := by decide +kernel
theorem dX6_init_4 : decode cX6_init 4 = .ok (.aload_n 0, 1) := by decide +kernel
theorem dX6_init_5 : decode cX6_init 5 = .ok (.new 9, 3) := by decide +kernel
theorem dX6_init_8 : decode cX6_init 8 = .ok (.dup, 1) := by decide +kernel
theorem dX6_init_9 : decode cX6_init 9 = .ok (.invokespecial 11, 3) := by decide +kernel
theorem dX6_init_12 : decode cX6_init 12 = .ok (.putfield 12, 3) := by decide +kernel
theorem dX6_init_15 : decode cX6_init 15 = .ok (.aload_n 0, 1) := by decide +kernel
theorem dX6_init_16 : decode cX6_init 16 = .ok (.new 9, 3) := by decide +kernel
theorem dX6_init_19 : decode cX6_init 19 = .ok (.dup, 1) := by decide +kernel
theorem dX6_init_20 : decode cX6_init 20 = .ok (.invokespecial 11, 3) := by decide +kernel
theorem dX6_init_23 : decode cX6_init 23 = .ok (.putfield 16, 3) := by decide +kernel
theorem dX6_init_26 : decode cX6_init 26 = .ok (.aload_n 0, 1) := by decide +kernel
theorem dX6_init_27 : decode cX6_init 27 = .ok (.new 19, 3) := by decide +kernel
theorem dX6_init_30 : decode cX6_init 30 = .ok (.dup, 1) := by decide +kernel
theorem dX6_init_31 : decode cX6_init 31 = .ok (.invokespecial 21, 3) := by decide +kernel
theorem dX6_init_34 : decode cX6_init 34 = .ok (.putfield 22, 3) := by decide +kernel
theorem dX6_init_37 : decode cX6_init 37 = .ok (.aload_n 0, 1) := by decide +kernel
theorem dX6_init_38 : decode cX6_init 38 = .ok (.new 26, 3) := by decide +kernel
theorem dX6_init_41 : decode cX6_init 41 = .ok (.dup, 1) := by decide +kernel
theorem dX6_init_42 : decode cX6_init 42 = .ok (.invokespecial 28, 3) := by decide +kernel
theorem dX6_init_45 : decode cX6_init 45 = .ok (.putfield 29, 3) := by decide +kernel
theorem dX6_init_48 : decode cX6_init 48 = .ok (.aload_n 0, 1) := by decide +kernel
theorem dX6_init_49 : decode cX6_init 49 = .ok (.iconst 2, 1) := by decide +kernel
theorem dX6_init_50 : decode cX6_init 50 = .ok (.anewarray 9, 3) := by decide +kernel
theorem dX6_init_53 : decode cX6_init 53 = .ok (.putfield 33, 3) := by decide +kernel
theorem dX6_init_56 : decode cX6_init 56 = .ok (.aload_n 0, 1) := by decide +kernel
theorem dX6_init_57 : decode cX6_init 57 = .ok (.new 37, 3) := by decide +kernel
theorem dX6_init_60 : decode cX6_init 60 = .ok (.dup, 1) := by decide +kernel
theorem dX6_init_61 : decode cX6_init 61 = .ok (.invokespecial 39, 3) := by decide +kernel
theorem dX6_init_64 : decode cX6_init 64 = .ok (.putfield 40, 3) := by decide +kernel
theorem dX6_init_67 : decode cX6_init 67 = .ok (.return_, 1) := by decide +kernel
theorem dX6_set_0 : decode cX6_set 0 = .ok (.aload_n 0, 1) := by decide +kernel
theorem dX6_set_1 : decode cX6_set 1 = .ok (.getfield 29, 3) := by decide +kernel
theorem dX6_set_4 : decode cX6_set 4 = .ok (.aload_n 0, 1) := by decide +kernel
theorem dX6_set_5 : decode cX6_set 5 = .ok (.getfield 12, 3) := by decide +kernel
theorem dX6_set_8 : decode cX6_set 8 = .ok (.invokevirtual 44, 3) := by decide +kernel
theorem dX6_set_11 : decode cX6_set 11 = .ok (.aload_n 0, 1) := by decide +kernel
theorem dX6_set_12 : decode cX6_set 12 = .ok (.getfield 29, 3) := by decide +kernel
theorem dX6_set_15 : decode cX6_set 15 = .ok (.aload_n 0, 1) := by decide +kernel
theorem dX6_set_16 : decode cX6_set 16 = .ok (.iload_n 1, 1) := by decide +kernel
theorem dX6_set_17 : decode cX6_set 17 = .ok (.iload_n 2, 1) := by decide +kernel
theorem dX6_set_18 : decode cX6_set 18 = .ok (.invokevirtual 48, 3) := by decide +kernel
theorem dX6_set_21 : decode cX6_set 21 = .ok (.invokevirtual 52, 3) := by decide +kernel
theorem dX6_set_24 : decode cX6_set 24 = .ok (.ireturn, 1) := by decide +kernel
theorem dX6_owner_0 : decode cX6_owner 0 = .ok (.aload_n 0, 1) := by decide +kernel
theorem dX6_owner_1 : decode cX6_owner 1 = .ok (.getfield 29, 3) := by decide +kernel
theorem dX6_owner_4 : decode cX6_owner 4 = .ok (.aload_n 0, 1) := by decide +kernel
theorem dX6_owner_5 : decode cX6_owner 5 = .ok (.getfield 12, 3) := by decide +kernel
theorem dX6_owner_8 : decode cX6_owner 8 = .ok (.invokevirtual 44, 3) := by decide +kernel
theorem dX6_owner_11 : decode cX6_owner 11 = .ok (.aload_n 0, 1) := by decide +kernel
theorem dX6_owner_12 : decode cX6_owner 12 = .ok (.getfield 29, 3) := by decide +kernel
theorem dX6_owner_15 : decode cX6_owner 15 = .ok (.aload_n 0, 1) := by decide +kernel
theorem dX6_owner_16 : decode cX6_owner 16 = .ok (.iload_n 1, 1) := by decide +kernel
theorem dX6_owner_17 : decode cX6_owner 17 = .ok (.invokevirtual 56, 3) := by decide +kernel
theorem dX6_owner_20 : decode cX6_owner 20 = .ok (.invokevirtual 52, 3) := by decide +kernel
theorem dX6_owner_23 : decode cX6_owner 23 = .ok (.ireturn, 1) := by decide +kernel
theorem dX6_pay_0 : decode cX6_pay 0 = .ok (.aload_n 0, 1) := by decide +kernel
theorem dX6_pay_1 : decode cX6_pay 1 = .ok (.getfield 29, 3) := by decide +kernel
theorem dX6_pay_4 : decode cX6_pay 4 = .ok (.aload_n 0, 1) := by decide +kernel
theorem dX6_pay_5 : decode cX6_pay 5 = .ok (.getfield 12, 3) := by decide +kernel
theorem dX6_pay_8 : decode cX6_pay 8 = .ok (.invokevirtual 44, 3) := by decide +kernel
theorem dX6_pay_11 : decode cX6_pay 11 = .ok (.aload_n 0, 1) := by decide +kernel
theorem dX6_pay_12 : decode cX6_pay 12 = .ok (.getfield 29, 3) := by decide +kernel
theorem dX6_pay_15 : decode cX6_pay 15 = .ok (.aload_n 0, 1) := by decide +kernel
theorem dX6_pay_16 : decode cX6_pay 16 = .ok (.iload_n 1, 1) := by decide +kernel
theorem dX6_pay_17 : decode cX6_pay 17 = .ok (.iload_n 2, 1) := by decide +kernel
theorem dX6_pay_18 : decode cX6_pay 18 = .ok (.invokevirtual 59, 3) := by decide +kernel
theorem dX6_pay_21 : decode cX6_pay 21 = .ok (.invokevirtual 52, 3) := by decide +kernel
theorem dX6_pay_24 : decode cX6_pay 24 = .ok (.ireturn, 1) := by decide +kernel
theorem dX6_give_0 : decode cX6_give 0 = .ok (.aload_n 0, 1) := by decide +kernel
theorem dX6_give_1 : decode cX6_give 1 = .ok (.getfield 29, 3) := by decide +kernel
theorem dX6_give_4 : decode cX6_give 4 = .ok (.aload_n 0, 1) := by decide +kernel
theorem dX6_give_5 : decode cX6_give 5 = .ok (.getfield 12, 3) := by decide +kernel
theorem dX6_give_8 : decode cX6_give 8 = .ok (.invokevirtual 44, 3) := by decide +kernel
theorem dX6_give_11 : decode cX6_give 11 = .ok (.aload_n 0, 1) := by decide +kernel
theorem dX6_give_12 : decode cX6_give 12 = .ok (.getfield 29, 3) := by decide +kernel
theorem dX6_give_15 : decode cX6_give 15 = .ok (.aload_n 0, 1) := by decide +kernel
theorem dX6_give_16 : decode cX6_give 16 = .ok (.iload_n 1, 1) := by decide +kernel
theorem dX6_give_17 : decode cX6_give 17 = .ok (.iload_n 2, 1) := by decide +kernel
theorem dX6_give_18 : decode cX6_give 18 = .ok (.iload_n 3, 1) := by decide +kernel
theorem dX6_give_19 : decode cX6_give 19 = .ok (.invokevirtual 62, 3) := by decide +kernel
theorem dX6_give_22 : decode cX6_give 22 = .ok (.invokevirtual 52, 3) := by decide +kernel
theorem dX6_give_25 : decode cX6_give 25 = .ok (.ireturn, 1) := by decide +kernel
theorem dX6_free_0 : decode cX6_free 0 = .ok (.aload_n 0, 1) := by decide +kernel
theorem dX6_free_1 : decode cX6_free 1 = .ok (.getfield 29, 3) := by decide +kernel
theorem dX6_free_4 : decode cX6_free 4 = .ok (.aload_n 0, 1) := by decide +kernel
theorem dX6_free_5 : decode cX6_free 5 = .ok (.getfield 12, 3) := by decide +kernel
theorem dX6_free_8 : decode cX6_free 8 = .ok (.invokevirtual 44, 3) := by decide +kernel
theorem dX6_free_11 : decode cX6_free 11 = .ok (.aload_n 0, 1) := by decide +kernel
theorem dX6_free_12 : decode cX6_free 12 = .ok (.getfield 29, 3) := by decide +kernel
theorem dX6_free_15 : decode cX6_free 15 = .ok (.aload_n 0, 1) := by decide +kernel
theorem dX6_free_16 : decode cX6_free 16 = .ok (.iload_n 1, 1) := by decide +kernel
theorem dX6_free_17 : decode cX6_free 17 = .ok (.iload_n 2, 1) := by decide +kernel
theorem dX6_free_18 : decode cX6_free 18 = .ok (.invokevirtual 66, 3) := by decide +kernel
theorem dX6_free_21 : decode cX6_free 21 = .ok (.invokevirtual 52, 3) := by decide +kernel
theorem dX6_free_24 : decode cX6_free 24 = .ok (.ireturn, 1) := by decide +kernel
theorem dX6_grab_0 : decode cX6_grab 0 = .ok (.aload_n 0, 1) := by decide +kernel
theorem dX6_grab_1 : decode cX6_grab 1 = .ok (.getfield 29, 3) := by decide +kernel
theorem dX6_grab_4 : decode cX6_grab 4 = .ok (.aload_n 0, 1) := by decide +kernel
theorem dX6_grab_5 : decode cX6_grab 5 = .ok (.getfield 12, 3) := by decide +kernel
theorem dX6_grab_8 : decode cX6_grab 8 = .ok (.invokevirtual 44, 3) := by decide +kernel
theorem dX6_grab_11 : decode cX6_grab 11 = .ok (.aload_n 0, 1) := by decide +kernel
theorem dX6_grab_12 : decode cX6_grab 12 = .ok (.getfield 29, 3) := by decide +kernel
theorem dX6_grab_15 : decode cX6_grab 15 = .ok (.aload_n 0, 1) := by decide +kernel
theorem dX6_grab_16 : decode cX6_grab 16 = .ok (.iload_n 1, 1) := by decide +kernel
theorem dX6_grab_17 : decode cX6_grab 17 = .ok (.iload_n 2, 1) := by decide +kernel
theorem dX6_grab_18 : decode cX6_grab 18 = .ok (.invokevirtual 69, 3) := by decide +kernel
theorem dX6_grab_21 : decode cX6_grab 21 = .ok (.invokevirtual 52, 3) := by decide +kernel
theorem dX6_grab_24 : decode cX6_grab 24 = .ok (.ireturn, 1) := by decide +kernel
theorem dX6_inherit_0 : decode cX6_inherit 0 = .ok (.aload_n 0, 1) := by decide +kernel
theorem dX6_inherit_1 : decode cX6_inherit 1 = .ok (.getfield 29, 3) := by decide +kernel
theorem dX6_inherit_4 : decode cX6_inherit 4 = .ok (.aload_n 0, 1) := by decide +kernel
theorem dX6_inherit_5 : decode cX6_inherit 5 = .ok (.getfield 12, 3) := by decide +kernel
theorem dX6_inherit_8 : decode cX6_inherit 8 = .ok (.invokevirtual 44, 3) := by decide +kernel
theorem dX6_inherit_11 : decode cX6_inherit 11 = .ok (.aload_n 0, 1) := by decide +kernel
theorem dX6_inherit_12 : decode cX6_inherit 12 = .ok (.getfield 29, 3) := by decide +kernel
theorem dX6_inherit_15 : decode cX6_inherit 15 = .ok (.aload_n 0, 1) := by decide +kernel
theorem dX6_inherit_16 : decode cX6_inherit 16 = .ok (.iload_n 1, 1) := by decide +kernel
theorem dX6_inherit_17 : decode cX6_inherit 17 = .ok (.iload_n 2, 1) := by decide +kernel
theorem dX6_inherit_18 : decode cX6_inherit 18 = .ok (.invokevirtual 72, 3) := by decide +kernel
theorem dX6_inherit_21 : decode cX6_inherit 21 = .ok (.invokevirtual 52, 3) := by decide +kernel
theorem dX6_inherit_24 : decode cX6_inherit 24 = .ok (.ireturn, 1) := by decide +kernel
theorem dX6_transfer_0 : decode cX6_transfer 0 = .ok (.aload_n 0, 1) := by decide +kernel
theorem dX6_transfer_1 : decode cX6_transfer 1 = .ok (.getfield 29, 3) := by decide +kernel
theorem dX6_transfer_4 : decode cX6_transfer 4 = .ok (.aload_n 0, 1) := by decide +kernel
theorem dX6_transfer_5 : decode cX6_transfer 5 = .ok (.getfield 12, 3) := by decide +kernel
theorem dX6_transfer_8 : decode cX6_transfer 8 = .ok (.invokevirtual 44, 3) := by decide +kernel
theorem dX6_transfer_11 : decode cX6_transfer 11 = .ok (.aload_n 0, 1) := by decide +kernel
theorem dX6_transfer_12 : decode cX6_transfer 12 = .ok (.getfield 29, 3) := by decide +kernel
theorem dX6_transfer_15 : decode cX6_transfer 15 = .ok (.aload_n 0, 1) := by decide +kernel
theorem dX6_transfer_16 : decode cX6_transfer 16 = .ok (.iload_n 1, 1) := by decide +kernel
theorem dX6_transfer_17 : decode cX6_transfer 17 = .ok (.iload_n 2, 1) := by decide +kernel
theorem dX6_transfer_18 : decode cX6_transfer 18 = .ok (.iload_n 3, 1) := by decide +kernel
theorem dX6_transfer_19 : decode cX6_transfer 19 = .ok (.iload 4, 2) := by decide +kernel
theorem dX6_transfer_21 : decode cX6_transfer 21 = .ok (.iload 5, 2) := by decide +kernel
theorem dX6_transfer_23 : decode cX6_transfer 23 = .ok (.invokevirtual 75, 3) := by decide +kernel
theorem dX6_transfer_26 : decode cX6_transfer 26 = .ok (.invokevirtual 52, 3) := by decide +kernel
theorem dX6_transfer_29 : decode cX6_transfer 29 = .ok (.ireturn, 1) := by decide +kernel
theorem dX6_drop_0 : decode cX6_drop 0 = .ok (.aload_n 0, 1) := by decide +kernel
theorem dX6_drop_1 : decode cX6_drop 1 = .ok (.getfield 29, 3) := by decide +kernel
theorem dX6_drop_4 : decode cX6_drop 4 = .ok (.aload_n 0, 1) := by decide +kernel
theorem dX6_drop_5 : decode cX6_drop 5 = .ok (.getfield 12, 3) := by decide +kernel
theorem dX6_drop_8 : decode cX6_drop 8 = .ok (.invokevirtual 44, 3) := by decide +kernel
theorem dX6_drop_11 : decode cX6_drop 11 = .ok (.aload_n 0, 1) := by decide +kernel
theorem dX6_drop_12 : decode cX6_drop 12 = .ok (.getfield 29, 3) := by decide +kernel
theorem dX6_drop_15 : decode cX6_drop 15 = .ok (.aload_n 0, 1) := by decide +kernel
theorem dX6_drop_16 : decode cX6_drop 16 = .ok (.invokevirtual 79, 3) := by decide +kernel
theorem dX6_drop_19 : decode cX6_drop 19 = .ok (.invokevirtual 52, 3) := by decide +kernel
theorem dX6_drop_22 : decode cX6_drop 22 = .ok (.ireturn, 1) := by decide +kernel
theorem dX6_close_0 : decode cX6_close 0 = .ok (.aload_n 0, 1) := by decide +kernel
theorem dX6_close_1 : decode cX6_close 1 = .ok (.getfield 29, 3) := by decide +kernel
theorem dX6_close_4 : decode cX6_close 4 = .ok (.aload_n 0, 1) := by decide +kernel
theorem dX6_close_5 : decode cX6_close 5 = .ok (.getfield 12, 3) := by decide +kernel
theorem dX6_close_8 : decode cX6_close 8 = .ok (.invokevirtual 44, 3) := by decide +kernel
theorem dX6_close_11 : decode cX6_close 11 = .ok (.aload_n 0, 1) := by decide +kernel
theorem dX6_close_12 : decode cX6_close 12 = .ok (.getfield 29, 3) := by decide +kernel
theorem dX6_close_15 : decode cX6_close 15 = .ok (.aload_n 0, 1) := by decide +kernel
theorem dX6_close_16 : decode cX6_close 16 = .ok (.invokevirtual 83, 3) := by decide +kernel
theorem dX6_close_19 : decode cX6_close 19 = .ok (.invokevirtual 52, 3) := by decide +kernel
theorem dX6_close_22 : decode cX6_close 22 = .ok (.ireturn, 1) := by decide +kernel
theorem dX6_failing_0 : decode cX6_failing 0 = .ok (.aload_n 0, 1) := by decide +kernel
theorem dX6_failing_1 : decode cX6_failing 1 = .ok (.invokevirtual 86, 3) := by decide +kernel
theorem dX6_failing_4 : decode cX6_failing 4 = .ok (.ireturn, 1) := by decide +kernel
theorem dX6_days_0 : decode cX6_days 0 = .ok (.aload_n 0, 1) := by decide +kernel
theorem dX6_days_1 : decode cX6_days 1 = .ok (.getfield 29, 3) := by decide +kernel
theorem dX6_days_4 : decode cX6_days 4 = .ok (.aload_n 0, 1) := by decide +kernel
theorem dX6_days_5 : decode cX6_days 5 = .ok (.getfield 12, 3) := by decide +kernel
theorem dX6_days_8 : decode cX6_days 8 = .ok (.invokevirtual 44, 3) := by decide +kernel
theorem dX6_days_11 : decode cX6_days 11 = .ok (.aload_n 0, 1) := by decide +kernel
theorem dX6_days_12 : decode cX6_days 12 = .ok (.getfield 29, 3) := by decide +kernel
theorem dX6_days_15 : decode cX6_days 15 = .ok (.aload_n 0, 1) := by decide +kernel
theorem dX6_days_16 : decode cX6_days 16 = .ok (.iload_n 1, 1) := by decide +kernel
theorem dX6_days_17 : decode cX6_days 17 = .ok (.invokevirtual 89, 3) := by decide +kernel
theorem dX6_days_20 : decode cX6_days 20 = .ok (.invokevirtual 52, 3) := by decide +kernel
theorem dX6_days_23 : decode cX6_days 23 = .ok (.ireturn, 1) := by decide +kernel
theorem dX6_ofRange_0 : decode cX6_ofRange 0 = .ok (.aload_n 0, 1) := by decide +kernel
theorem dX6_ofRange_1 : decode cX6_ofRange 1 = .ok (.getfield 12, 3) := by decide +kernel
theorem dX6_ofRange_4 : decode cX6_ofRange 4 = .ok (.getfield 92, 3) := by decide +kernel
theorem dX6_ofRange_7 : decode cX6_ofRange 7 = .ok (.iload_n 1, 1) := by decide +kernel
theorem dX6_ofRange_8 : decode cX6_ofRange 8 = .ok (.invokevirtual 95, 3) := by decide +kernel
theorem dX6_ofRange_11 : decode cX6_ofRange 11 = .ok (.ifCond .ne 5, 3) := by decide +kernel
theorem dX6_ofRange_14 : decode cX6_ofRange 14 = .ok (.iconst (-1), 1) := by decide +kernel
theorem dX6_ofRange_15 : decode cX6_ofRange 15 = .ok (.ireturn, 1) := by decide +kernel
theorem dX6_ofRange_16 : decode cX6_ofRange 16 = .ok (.iload_n 2, 1) := by decide +kernel
theorem dX6_ofRange_17 : decode cX6_ofRange 17 = .ok (.tableswitch 72 0 2 #[27, 42, 57], 27) := by decide +kernel
theorem dX6_ofRange_44 : decode cX6_ofRange 44 = .ok (.aload_n 0, 1) := by decide +kernel
theorem dX6_ofRange_45 : decode cX6_ofRange 45 = .ok (.getfield 12, 3) := by decide +kernel
theorem dX6_ofRange_48 : decode cX6_ofRange 48 = .ok (.getfield 92, 3) := by decide +kernel
theorem dX6_ofRange_51 : decode cX6_ofRange 51 = .ok (.getfield 99, 3) := by decide +kernel
theorem dX6_ofRange_54 : decode cX6_ofRange 54 = .ok (.iload_n 1, 1) := by decide +kernel
theorem dX6_ofRange_55 : decode cX6_ofRange 55 = .ok (.invokevirtual 103, 3) := by decide +kernel
theorem dX6_ofRange_58 : decode cX6_ofRange 58 = .ok (.ireturn, 1) := by decide +kernel
theorem dX6_ofRange_59 : decode cX6_ofRange 59 = .ok (.aload_n 0, 1) := by decide +kernel
theorem dX6_ofRange_60 : decode cX6_ofRange 60 = .ok (.getfield 12, 3) := by decide +kernel
theorem dX6_ofRange_63 : decode cX6_ofRange 63 = .ok (.getfield 92, 3) := by decide +kernel
theorem dX6_ofRange_66 : decode cX6_ofRange 66 = .ok (.getfield 108, 3) := by decide +kernel
theorem dX6_ofRange_69 : decode cX6_ofRange 69 = .ok (.iload_n 1, 1) := by decide +kernel
theorem dX6_ofRange_70 : decode cX6_ofRange 70 = .ok (.invokevirtual 103, 3) := by decide +kernel
theorem dX6_ofRange_73 : decode cX6_ofRange 73 = .ok (.ireturn, 1) := by decide +kernel
theorem dX6_ofRange_74 : decode cX6_ofRange 74 = .ok (.aload_n 0, 1) := by decide +kernel
theorem dX6_ofRange_75 : decode cX6_ofRange 75 = .ok (.getfield 12, 3) := by decide +kernel
theorem dX6_ofRange_78 : decode cX6_ofRange 78 = .ok (.getfield 92, 3) := by decide +kernel
theorem dX6_ofRange_81 : decode cX6_ofRange 81 = .ok (.getfield 111, 3) := by decide +kernel
theorem dX6_ofRange_84 : decode cX6_ofRange 84 = .ok (.iload_n 1, 1) := by decide +kernel
theorem dX6_ofRange_85 : decode cX6_ofRange 85 = .ok (.invokevirtual 103, 3) := by decide +kernel
theorem dX6_ofRange_88 : decode cX6_ofRange 88 = .ok (.ireturn, 1) := by decide +kernel
theorem dX6_ofRange_89 : decode cX6_ofRange 89 = .ok (.bipush (-2), 2) := by decide +kernel
theorem dX6_ofRange_91 : decode cX6_ofRange 91 = .ok (.ireturn, 1) := by decide +kernel
theorem dX6_ofOwner_0 : decode cX6_ofOwner 0 = .ok (.aload_n 0, 1) := by decide +kernel
theorem dX6_ofOwner_1 : decode cX6_ofOwner 1 = .ok (.getfield 12, 3) := by decide +kernel
theorem dX6_ofOwner_4 : decode cX6_ofOwner 4 = .ok (.iload_n 1, 1) := by decide +kernel
theorem dX6_ofOwner_5 : decode cX6_ofOwner 5 = .ok (.invokevirtual 114, 3) := by decide +kernel
theorem dX6_ofOwner_8 : decode cX6_ofOwner 8 = .ok (.ifCond .ne 5, 3) := by decide +kernel
theorem dX6_ofOwner_11 : decode cX6_ofOwner 11 = .ok (.iconst (-1), 1) := by decide +kernel
theorem dX6_ofOwner_12 : decode cX6_ofOwner 12 = .ok (.ireturn, 1) := by decide +kernel
theorem dX6_ofOwner_13 : decode cX6_ofOwner 13 = .ok (.iload_n 2, 1) := by decide +kernel
theorem dX6_ofOwner_14 : decode cX6_ofOwner 14 = .ok (.tableswitch 113 0 5 #[38, 53, 68, 80, 89, 101], 38) := by decide +kernel
theorem dX6_ofOwner_52 : decode cX6_ofOwner 52 = .ok (.aload_n 0, 1) := by decide +kernel
theorem dX6_ofOwner_53 : decode cX6_ofOwner 53 = .ok (.getfield 12, 3) := by decide +kernel
theorem dX6_ofOwner_56 : decode cX6_ofOwner 56 = .ok (.getfield 92, 3) := by decide +kernel
theorem dX6_ofOwner_59 : decode cX6_ofOwner 59 = .ok (.getfield 117, 3) := by decide +kernel
theorem dX6_ofOwner_62 : decode cX6_ofOwner 62 = .ok (.iload_n 1, 1) := by decide +kernel
theorem dX6_ofOwner_63 : decode cX6_ofOwner 63 = .ok (.invokevirtual 103, 3) := by decide +kernel
theorem dX6_ofOwner_66 : decode cX6_ofOwner 66 = .ok (.ireturn, 1) := by decide +kernel
theorem dX6_ofOwner_67 : decode cX6_ofOwner 67 = .ok (.aload_n 0, 1) := by decide +kernel
theorem dX6_ofOwner_68 : decode cX6_ofOwner 68 = .ok (.getfield 12, 3) := by decide +kernel
theorem dX6_ofOwner_71 : decode cX6_ofOwner 71 = .ok (.getfield 92, 3) := by decide +kernel
theorem dX6_ofOwner_74 : decode cX6_ofOwner 74 = .ok (.getfield 120, 3) := by decide +kernel
theorem dX6_ofOwner_77 : decode cX6_ofOwner 77 = .ok (.iload_n 1, 1) := by decide +kernel
theorem dX6_ofOwner_78 : decode cX6_ofOwner 78 = .ok (.invokevirtual 103, 3) := by decide +kernel
theorem dX6_ofOwner_81 : decode cX6_ofOwner 81 = .ok (.ireturn, 1) := by decide +kernel
theorem dX6_ofOwner_82 : decode cX6_ofOwner 82 = .ok (.aload_n 0, 1) := by decide +kernel
theorem dX6_ofOwner_83 : decode cX6_ofOwner 83 = .ok (.getfield 12, 3) := by decide +kernel
theorem dX6_ofOwner_86 : decode cX6_ofOwner 86 = .ok (.getfield 92, 3) := by decide +kernel
theorem dX6_ofOwner_89 : decode cX6_ofOwner 89 = .ok (.iload_n 1, 1) := by decide +kernel
theorem dX6_ofOwner_90 : decode cX6_ofOwner 90 = .ok (.invokevirtual 123, 3) := by decide +kernel
theorem dX6_ofOwner_93 : decode cX6_ofOwner 93 = .ok (.ireturn, 1) := by decide +kernel
theorem dX6_ofOwner_94 : decode cX6_ofOwner 94 = .ok (.aload_n 0, 1) := by decide +kernel
theorem dX6_ofOwner_95 : decode cX6_ofOwner 95 = .ok (.getfield 12, 3) := by decide +kernel
theorem dX6_ofOwner_98 : decode cX6_ofOwner 98 = .ok (.iload_n 1, 1) := by decide +kernel
theorem dX6_ofOwner_99 : decode cX6_ofOwner 99 = .ok (.invokevirtual 126, 3) := by decide +kernel
theorem dX6_ofOwner_102 : decode cX6_ofOwner 102 = .ok (.ireturn, 1) := by decide +kernel
theorem dX6_ofOwner_103 : decode cX6_ofOwner 103 = .ok (.aload_n 0, 1) := by decide +kernel
theorem dX6_ofOwner_104 : decode cX6_ofOwner 104 = .ok (.getfield 12, 3) := by decide +kernel
theorem dX6_ofOwner_107 : decode cX6_ofOwner 107 = .ok (.getfield 129, 3) := by decide +kernel
theorem dX6_ofOwner_110 : decode cX6_ofOwner 110 = .ok (.iload_n 1, 1) := by decide +kernel
theorem dX6_ofOwner_111 : decode cX6_ofOwner 111 = .ok (.invokevirtual 103, 3) := by decide +kernel
theorem dX6_ofOwner_114 : decode cX6_ofOwner 114 = .ok (.ireturn, 1) := by decide +kernel
theorem dX6_ofOwner_115 : decode cX6_ofOwner 115 = .ok (.aload_n 0, 1) := by decide +kernel
theorem dX6_ofOwner_116 : decode cX6_ofOwner 116 = .ok (.getfield 12, 3) := by decide +kernel
theorem dX6_ofOwner_119 : decode cX6_ofOwner 119 = .ok (.getfield 132, 3) := by decide +kernel
theorem dX6_ofOwner_122 : decode cX6_ofOwner 122 = .ok (.iload_n 1, 1) := by decide +kernel
theorem dX6_ofOwner_123 : decode cX6_ofOwner 123 = .ok (.invokevirtual 103, 3) := by decide +kernel
theorem dX6_ofOwner_126 : decode cX6_ofOwner 126 = .ok (.ireturn, 1) := by decide +kernel
theorem dX6_ofOwner_127 : decode cX6_ofOwner 127 = .ok (.bipush (-2), 2) := by decide +kernel
theorem dX6_ofOwner_129 : decode cX6_ofOwner 129 = .ok (.ireturn, 1) := by decide +kernel
theorem dX6_money_0 : decode cX6_money 0 = .ok (.aload_n 0, 1) := by decide +kernel
theorem dX6_money_1 : decode cX6_money 1 = .ok (.getfield 12, 3) := by decide +kernel
theorem dX6_money_4 : decode cX6_money 4 = .ok (.iload_n 1, 1) := by decide +kernel
theorem dX6_money_5 : decode cX6_money 5 = .ok (.invokevirtual 114, 3) := by decide +kernel
theorem dX6_money_8 : decode cX6_money 8 = .ok (.ifCond .eq 14, 3) := by decide +kernel
theorem dX6_money_11 : decode cX6_money 11 = .ok (.aload_n 0, 1) := by decide +kernel
theorem dX6_money_12 : decode cX6_money 12 = .ok (.getfield 12, 3) := by decide +kernel
theorem dX6_money_15 : decode cX6_money 15 = .ok (.iload_n 1, 1) := by decide +kernel
theorem dX6_money_16 : decode cX6_money 16 = .ok (.invokevirtual 135, 3) := by decide +kernel
theorem dX6_money_19 : decode cX6_money 19 = .ok (.goto 6, 3) := by decide +kernel
theorem dX6_money_22 : decode cX6_money 22 = .ok (.ldc2_w 139, 3) := by decide +kernel
theorem dX6_money_25 : decode cX6_money 25 = .ok (.lreturn, 1) := by decide +kernel
theorem dX6_ownerAt_0 : decode cX6_ownerAt 0 = .ok (.iload_n 1, 1) := by decide +kernel
theorem dX6_ownerAt_1 : decode cX6_ownerAt 1 = .ok (.ifCond .lt 10, 3) := by decide +kernel
theorem dX6_ownerAt_4 : decode cX6_ownerAt 4 = .ok (.iload_n 1, 1) := by decide +kernel
theorem dX6_ownerAt_5 : decode cX6_ownerAt 5 = .ok (.sipush 10000, 3) := by decide +kernel
theorem dX6_ownerAt_8 : decode cX6_ownerAt 8 = .ok (.if_icmp .lt 8, 3) := by decide +kernel
theorem dX6_ownerAt_11 : decode cX6_ownerAt 11 = .ok (.bipush (-2), 2) := by decide +kernel
theorem dX6_ownerAt_13 : decode cX6_ownerAt 13 = .ok (.goto 14, 3) := by decide +kernel
theorem dX6_ownerAt_16 : decode cX6_ownerAt 16 = .ok (.aload_n 0, 1) := by decide +kernel
theorem dX6_ownerAt_17 : decode cX6_ownerAt 17 = .ok (.getfield 12, 3) := by decide +kernel
theorem dX6_ownerAt_20 : decode cX6_ownerAt 20 = .ok (.getfield 92, 3) := by decide +kernel
theorem dX6_ownerAt_23 : decode cX6_ownerAt 23 = .ok (.iload_n 1, 1) := by decide +kernel
theorem dX6_ownerAt_24 : decode cX6_ownerAt 24 = .ok (.invokevirtual 141, 3) := by decide +kernel
theorem dX6_ownerAt_27 : decode cX6_ownerAt 27 = .ok (.ireturn, 1) := by decide +kernel
theorem dX6_ofTransfer_0 : decode cX6_ofTransfer 0 = .ok (.aload_n 0, 1) := by decide +kernel
theorem dX6_ofTransfer_1 : decode cX6_ofTransfer 1 = .ok (.getfield 12, 3) := by decide +kernel
theorem dX6_ofTransfer_4 : decode cX6_ofTransfer 4 = .ok (.getfield 144, 3) := by decide +kernel
theorem dX6_ofTransfer_7 : decode cX6_ofTransfer 7 = .ok (.iload_n 1, 1) := by decide +kernel
theorem dX6_ofTransfer_8 : decode cX6_ofTransfer 8 = .ok (.invokevirtual 148, 3) := by decide +kernel
theorem dX6_ofTransfer_11 : decode cX6_ofTransfer 11 = .ok (.ifCond .ne 5, 3) := by decide +kernel
theorem dX6_ofTransfer_14 : decode cX6_ofTransfer 14 = .ok (.iconst (-1), 1) := by decide +kernel
theorem dX6_ofTransfer_15 : decode cX6_ofTransfer 15 = .ok (.ireturn, 1) := by decide +kernel
theorem dX6_ofTransfer_16 : decode cX6_ofTransfer 16 = .ok (.iload_n 2, 1) := by decide +kernel
theorem dX6_ofTransfer_17 : decode cX6_ofTransfer 17 = .ok (.ifCond .lt 8, 3) := by decide +kernel
theorem dX6_ofTransfer_20 : decode cX6_ofTransfer 20 = .ok (.iload_n 2, 1) := by decide +kernel
theorem dX6_ofTransfer_21 : decode cX6_ofTransfer 21 = .ok (.iconst 5, 1) := by decide +kernel
theorem dX6_ofTransfer_22 : decode cX6_ofTransfer 22 = .ok (.if_icmp .lt 8, 3) := by decide +kernel
theorem dX6_ofTransfer_25 : decode cX6_ofTransfer 25 = .ok (.bipush (-2), 2) := by decide +kernel
theorem dX6_ofTransfer_27 : decode cX6_ofTransfer 27 = .ok (.goto 15, 3) := by decide +kernel
theorem dX6_ofTransfer_30 : decode cX6_ofTransfer 30 = .ok (.aload_n 0, 1) := by decide +kernel
theorem dX6_ofTransfer_31 : decode cX6_ofTransfer 31 = .ok (.getfield 12, 3) := by decide +kernel
theorem dX6_ofTransfer_34 : decode cX6_ofTransfer 34 = .ok (.getfield 144, 3) := by decide +kernel
theorem dX6_ofTransfer_37 : decode cX6_ofTransfer 37 = .ok (.iload_n 1, 1) := by decide +kernel
theorem dX6_ofTransfer_38 : decode cX6_ofTransfer 38 = .ok (.iload_n 2, 1) := by decide +kernel
theorem dX6_ofTransfer_39 : decode cX6_ofTransfer 39 = .ok (.invokevirtual 153, 3) := by decide +kernel
theorem dX6_ofTransfer_42 : decode cX6_ofTransfer 42 = .ok (.ireturn, 1) := by decide +kernel
theorem dX6_count_0 : decode cX6_count 0 = .ok (.iload_n 1, 1) := by decide +kernel
theorem dX6_count_1 : decode cX6_count 1 = .ok (.tableswitch 177 0 11 #[63, 71, 79, 90, 101, 112, 123, 134, 142, 150, 161, 169], 63) := by decide +kernel
theorem dX6_count_64 : decode cX6_count 64 = .ok (.aload_n 0, 1) := by decide +kernel
theorem dX6_count_65 : decode cX6_count 65 = .ok (.getfield 12, 3) := by decide +kernel
theorem dX6_count_68 : decode cX6_count 68 = .ok (.getfield 156, 3) := by decide +kernel
theorem dX6_count_71 : decode cX6_count 71 = .ok (.ireturn, 1) := by decide +kernel
theorem dX6_count_72 : decode cX6_count 72 = .ok (.aload_n 0, 1) := by decide +kernel
theorem dX6_count_73 : decode cX6_count 73 = .ok (.getfield 12, 3) := by decide +kernel
theorem dX6_count_76 : decode cX6_count 76 = .ok (.getfield 160, 3) := by decide +kernel
theorem dX6_count_79 : decode cX6_count 79 = .ok (.ireturn, 1) := by decide +kernel
theorem dX6_count_80 : decode cX6_count 80 = .ok (.aload_n 0, 1) := by decide +kernel
theorem dX6_count_81 : decode cX6_count 81 = .ok (.getfield 12, 3) := by decide +kernel
theorem dX6_count_84 : decode cX6_count 84 = .ok (.getfield 92, 3) := by decide +kernel
theorem dX6_count_87 : decode cX6_count 87 = .ok (.getfield 163, 3) := by decide +kernel
theorem dX6_count_90 : decode cX6_count 90 = .ok (.ireturn, 1) := by decide +kernel
theorem dX6_count_91 : decode cX6_count 91 = .ok (.aload_n 0, 1) := by decide +kernel
theorem dX6_count_92 : decode cX6_count 92 = .ok (.getfield 12, 3) := by decide +kernel
theorem dX6_count_95 : decode cX6_count 95 = .ok (.getfield 92, 3) := by decide +kernel
theorem dX6_count_98 : decode cX6_count 98 = .ok (.invokevirtual 166, 3) := by decide +kernel
theorem dX6_count_101 : decode cX6_count 101 = .ok (.ireturn, 1) := by decide +kernel
theorem dX6_count_102 : decode cX6_count 102 = .ok (.aload_n 0, 1) := by decide +kernel
theorem dX6_count_103 : decode cX6_count 103 = .ok (.getfield 12, 3) := by decide +kernel
theorem dX6_count_106 : decode cX6_count 106 = .ok (.getfield 92, 3) := by decide +kernel
theorem dX6_count_109 : decode cX6_count 109 = .ok (.invokevirtual 169, 3) := by decide +kernel
theorem dX6_count_112 : decode cX6_count 112 = .ok (.ireturn, 1) := by decide +kernel
theorem dX6_count_113 : decode cX6_count 113 = .ok (.aload_n 0, 1) := by decide +kernel
theorem dX6_count_114 : decode cX6_count 114 = .ok (.getfield 12, 3) := by decide +kernel
theorem dX6_count_117 : decode cX6_count 117 = .ok (.getfield 92, 3) := by decide +kernel
theorem dX6_count_120 : decode cX6_count 120 = .ok (.invokevirtual 172, 3) := by decide +kernel
theorem dX6_count_123 : decode cX6_count 123 = .ok (.ireturn, 1) := by decide +kernel
theorem dX6_count_124 : decode cX6_count 124 = .ok (.aload_n 0, 1) := by decide +kernel
theorem dX6_count_125 : decode cX6_count 125 = .ok (.getfield 12, 3) := by decide +kernel
theorem dX6_count_128 : decode cX6_count 128 = .ok (.getfield 144, 3) := by decide +kernel
theorem dX6_count_131 : decode cX6_count 131 = .ok (.getfield 175, 3) := by decide +kernel
theorem dX6_count_134 : decode cX6_count 134 = .ok (.ireturn, 1) := by decide +kernel
theorem dX6_count_135 : decode cX6_count 135 = .ok (.aload_n 0, 1) := by decide +kernel
theorem dX6_count_136 : decode cX6_count 136 = .ok (.getfield 12, 3) := by decide +kernel
theorem dX6_count_139 : decode cX6_count 139 = .ok (.getfield 176, 3) := by decide +kernel
theorem dX6_count_142 : decode cX6_count 142 = .ok (.ireturn, 1) := by decide +kernel
theorem dX6_count_143 : decode cX6_count 143 = .ok (.aload_n 0, 1) := by decide +kernel
theorem dX6_count_144 : decode cX6_count 144 = .ok (.getfield 12, 3) := by decide +kernel
theorem dX6_count_147 : decode cX6_count 147 = .ok (.getfield 179, 3) := by decide +kernel
theorem dX6_count_150 : decode cX6_count 150 = .ok (.ireturn, 1) := by decide +kernel
theorem dX6_count_151 : decode cX6_count 151 = .ok (.aload_n 0, 1) := by decide +kernel
theorem dX6_count_152 : decode cX6_count 152 = .ok (.getfield 12, 3) := by decide +kernel
theorem dX6_count_155 : decode cX6_count 155 = .ok (.getfield 129, 3) := by decide +kernel
theorem dX6_count_158 : decode cX6_count 158 = .ok (.invokevirtual 182, 3) := by decide +kernel
theorem dX6_count_161 : decode cX6_count 161 = .ok (.ireturn, 1) := by decide +kernel
theorem dX6_count_162 : decode cX6_count 162 = .ok (.aload_n 0, 1) := by decide +kernel
theorem dX6_count_163 : decode cX6_count 163 = .ok (.getfield 40, 3) := by decide +kernel
theorem dX6_count_166 : decode cX6_count 166 = .ok (.getfield 185, 3) := by decide +kernel
theorem dX6_count_169 : decode cX6_count 169 = .ok (.ireturn, 1) := by decide +kernel
theorem dX6_count_170 : decode cX6_count 170 = .ok (.aload_n 0, 1) := by decide +kernel
theorem dX6_count_171 : decode cX6_count 171 = .ok (.getfield 29, 3) := by decide +kernel
theorem dX6_count_174 : decode cX6_count 174 = .ok (.getfield 186, 3) := by decide +kernel
theorem dX6_count_177 : decode cX6_count 177 = .ok (.ireturn, 1) := by decide +kernel
theorem dX6_count_178 : decode cX6_count 178 = .ok (.iload_n 1, 1) := by decide +kernel
theorem dX6_count_179 : decode cX6_count 179 = .ok (.bipush 12, 2) := by decide +kernel
theorem dX6_count_181 : decode cX6_count 181 = .ok (.isub, 1) := by decide +kernel
theorem dX6_count_182 : decode cX6_count 182 = .ok (.invokestatic 187, 3) := by decide +kernel
theorem dX6_count_185 : decode cX6_count 185 = .ok (.ifCond .eq 20, 3) := by decide +kernel
theorem dX6_count_188 : decode cX6_count 188 = .ok (.aload_n 0, 1) := by decide +kernel
theorem dX6_count_189 : decode cX6_count 189 = .ok (.getfield 12, 3) := by decide +kernel
theorem dX6_count_192 : decode cX6_count 192 = .ok (.getfield 190, 3) := by decide +kernel
theorem dX6_count_195 : decode cX6_count 195 = .ok (.iload_n 1, 1) := by decide +kernel
theorem dX6_count_196 : decode cX6_count 196 = .ok (.bipush 12, 2) := by decide +kernel
theorem dX6_count_198 : decode cX6_count 198 = .ok (.isub, 1) := by decide +kernel
theorem dX6_count_199 : decode cX6_count 199 = .ok (.invokevirtual 103, 3) := by decide +kernel
theorem dX6_count_202 : decode cX6_count 202 = .ok (.goto 5, 3) := by decide +kernel
theorem dX6_count_205 : decode cX6_count 205 = .ok (.bipush (-2), 2) := by decide +kernel
theorem dX6_count_207 : decode cX6_count 207 = .ok (.ireturn, 1) := by decide +kernel
theorem dX6_shareBits_0 : decode cX6_shareBits 0 = .ok (.aload_n 0, 1) := by decide +kernel
theorem dX6_shareBits_1 : decode cX6_shareBits 1 = .ok (.getfield 12, 3) := by decide +kernel
theorem dX6_shareBits_4 : decode cX6_shareBits 4 = .ok (.iload_n 1, 1) := by decide +kernel
theorem dX6_shareBits_5 : decode cX6_shareBits 5 = .ok (.invokevirtual 114, 3) := by decide +kernel
theorem dX6_shareBits_8 : decode cX6_shareBits 8 = .ok (.ifCond .ne 5, 3) := by decide +kernel
theorem dX6_shareBits_11 : decode cX6_shareBits 11 = .ok (.iconst (-1), 1) := by decide +kernel
theorem dX6_shareBits_12 : decode cX6_shareBits 12 = .ok (.ireturn, 1) := by decide +kernel
theorem dX6_shareBits_13 : decode cX6_shareBits 13 = .ok (.aload_n 0, 1) := by decide +kernel
theorem dX6_shareBits_14 : decode cX6_shareBits 14 = .ok (.getfield 12, 3) := by decide +kernel
theorem dX6_shareBits_17 : decode cX6_shareBits 17 = .ok (.getfield 92, 3) := by decide +kernel
theorem dX6_shareBits_20 : decode cX6_shareBits 20 = .ok (.getfield 120, 3) := by decide +kernel
theorem dX6_shareBits_23 : decode cX6_shareBits 23 = .ok (.iload_n 1, 1) := by decide +kernel
theorem dX6_shareBits_24 : decode cX6_shareBits 24 = .ok (.invokevirtual 103, 3) := by decide +kernel
theorem dX6_shareBits_27 : decode cX6_shareBits 27 = .ok (.aload_n 0, 1) := by decide +kernel
theorem dX6_shareBits_28 : decode cX6_shareBits 28 = .ok (.getfield 12, 3) := by decide +kernel
theorem dX6_shareBits_31 : decode cX6_shareBits 31 = .ok (.getfield 92, 3) := by decide +kernel
theorem dX6_shareBits_34 : decode cX6_shareBits 34 = .ok (.invokevirtual 166, 3) := by decide +kernel
theorem dX6_shareBits_37 : decode cX6_shareBits 37 = .ok (.invokestatic 193, 3) := by decide +kernel
theorem dX6_shareBits_40 : decode cX6_shareBits 40 = .ok (.ireturn, 1) := by decide +kernel
theorem dX6_hole_0 : decode cX6_hole 0 = .ok (.iload_n 1, 1) := by decide +kernel
theorem dX6_hole_1 : decode cX6_hole 1 = .ok (.invokestatic 196, 3) := by decide +kernel
theorem dX6_hole_4 : decode cX6_hole 4 = .ok (.ifCond .eq 12, 3) := by decide +kernel
theorem dX6_hole_7 : decode cX6_hole 7 = .ok (.iload_n 2, 1) := by decide +kernel
theorem dX6_hole_8 : decode cX6_hole 8 = .ok (.ifCond .lt 8, 3) := by decide +kernel
theorem dX6_hole_11 : decode cX6_hole 11 = .ok (.iload_n 2, 1) := by decide +kernel
theorem dX6_hole_12 : decode cX6_hole 12 = .ok (.iconst 2, 1) := by decide +kernel
theorem dX6_hole_13 : decode cX6_hole 13 = .ok (.if_icmp .le 6, 3) := by decide +kernel
theorem dX6_hole_16 : decode cX6_hole 16 = .ok (.bipush (-2), 2) := by decide +kernel
theorem dX6_hole_18 : decode cX6_hole 18 = .ok (.ireturn, 1) := by decide +kernel
theorem dX6_hole_19 : decode cX6_hole 19 = .ok (.aload_n 0, 1) := by decide +kernel
theorem dX6_hole_20 : decode cX6_hole 20 = .ok (.getfield 12, 3) := by decide +kernel
theorem dX6_hole_23 : decode cX6_hole 23 = .ok (.getfield 92, 3) := by decide +kernel
theorem dX6_hole_26 : decode cX6_hole 26 = .ok (.iload_n 1, 1) := by decide +kernel
theorem dX6_hole_27 : decode cX6_hole 27 = .ok (.iload_n 2, 1) := by decide +kernel
theorem dX6_hole_28 : decode cX6_hole 28 = .ok (.invokevirtual 199, 3) := by decide +kernel
theorem dX6_hole_31 : decode cX6_hole 31 = .ok (.istore_n 3, 1) := by decide +kernel
theorem dX6_hole_32 : decode cX6_hole 32 = .ok (.iload_n 3, 1) := by decide +kernel
theorem dX6_hole_33 : decode cX6_hole 33 = .ok (.bipush (-6), 2) := by decide +kernel
theorem dX6_hole_35 : decode cX6_hole 35 = .ok (.if_icmp .ne 8, 3) := by decide +kernel
theorem dX6_hole_38 : decode cX6_hole 38 = .ok (.bipush (-6), 2) := by decide +kernel
theorem dX6_hole_40 : decode cX6_hole 40 = .ok (.goto 14, 3) := by decide +kernel
theorem dX6_hole_43 : decode cX6_hole 43 = .ok (.aload_n 0, 1) := by decide +kernel
theorem dX6_hole_44 : decode cX6_hole 44 = .ok (.getfield 12, 3) := by decide +kernel
theorem dX6_hole_47 : decode cX6_hole 47 = .ok (.getfield 92, 3) := by decide +kernel
theorem dX6_hole_50 : decode cX6_hole 50 = .ok (.iload_n 3, 1) := by decide +kernel
theorem dX6_hole_51 : decode cX6_hole 51 = .ok (.invokevirtual 202, 3) := by decide +kernel
theorem dX6_hole_54 : decode cX6_hole 54 = .ok (.ireturn, 1) := by decide +kernel
theorem dX6_wouldBe_0 : decode cX6_wouldBe 0 = .ok (.aload_n 0, 1) := by decide +kernel
theorem dX6_wouldBe_1 : decode cX6_wouldBe 1 = .ok (.getfield 12, 3) := by decide +kernel
theorem dX6_wouldBe_4 : decode cX6_wouldBe 4 = .ok (.iload_n 1, 1) := by decide +kernel
theorem dX6_wouldBe_5 : decode cX6_wouldBe 5 = .ok (.invokevirtual 114, 3) := by decide +kernel
theorem dX6_wouldBe_8 : decode cX6_wouldBe 8 = .ok (.ifCond .ne 5, 3) := by decide +kernel
theorem dX6_wouldBe_11 : decode cX6_wouldBe 11 = .ok (.iconst (-1), 1) := by decide +kernel
theorem dX6_wouldBe_12 : decode cX6_wouldBe 12 = .ok (.ireturn, 1) := by decide +kernel
theorem dX6_wouldBe_13 : decode cX6_wouldBe 13 = .ok (.iload_n 2, 1) := by decide +kernel
theorem dX6_wouldBe_14 : decode cX6_wouldBe 14 = .ok (.iload_n 3, 1) := by decide +kernel
theorem dX6_wouldBe_15 : decode cX6_wouldBe 15 = .ok (.invokestatic 205, 3) := by decide +kernel
theorem dX6_wouldBe_18 : decode cX6_wouldBe 18 = .ok (.ifCond .ne 6, 3) := by decide +kernel
theorem dX6_wouldBe_21 : decode cX6_wouldBe 21 = .ok (.bipush (-2), 2) := by decide +kernel
theorem dX6_wouldBe_23 : decode cX6_wouldBe 23 = .ok (.ireturn, 1) := by decide +kernel
theorem dX6_wouldBe_24 : decode cX6_wouldBe 24 = .ok (.aload_n 0, 1) := by decide +kernel
theorem dX6_wouldBe_25 : decode cX6_wouldBe 25 = .ok (.getfield 22, 3) := by decide +kernel
theorem dX6_wouldBe_28 : decode cX6_wouldBe 28 = .ok (.aload_n 0, 1) := by decide +kernel
theorem dX6_wouldBe_29 : decode cX6_wouldBe 29 = .ok (.getfield 12, 3) := by decide +kernel
theorem dX6_wouldBe_32 : decode cX6_wouldBe 32 = .ok (.getfield 92, 3) := by decide +kernel
theorem dX6_wouldBe_35 : decode cX6_wouldBe 35 = .ok (.iload_n 1, 1) := by decide +kernel
theorem dX6_wouldBe_36 : decode cX6_wouldBe 36 = .ok (.iload_n 2, 1) := by decide +kernel
theorem dX6_wouldBe_37 : decode cX6_wouldBe 37 = .ok (.iload_n 3, 1) := by decide +kernel
theorem dX6_wouldBe_38 : decode cX6_wouldBe 38 = .ok (.invokevirtual 209, 3) := by decide +kernel
theorem dX6_wouldBe_41 : decode cX6_wouldBe 41 = .ok (.aload_n 0, 1) := by decide +kernel
end
section
theorem dX6_wouldBe_42 : decode cX6_wouldBe 42 = .ok (.getfield 22, 3) := by decide +kernel
theorem dX6_wouldBe_45 : decode cX6_wouldBe 45 = .ok (.getfield 163, 3) := by decide +kernel
theorem dX6_wouldBe_48 : decode cX6_wouldBe 48 = .ok (.ireturn, 1) := by decide +kernel
theorem dX6_quietest_0 : decode cX6_quietest 0 = .ok (.iload_n 1, 1) := by decide +kernel
theorem dX6_quietest_1 : decode cX6_quietest 1 = .ok (.invokestatic 196, 3) := by decide +kernel
theorem dX6_quietest_4 : decode cX6_quietest 4 = .ok (.ifCond .eq 12, 3) := by decide +kernel
theorem dX6_quietest_7 : decode cX6_quietest 7 = .ok (.iload_n 2, 1) := by decide +kernel
theorem dX6_quietest_8 : decode cX6_quietest 8 = .ok (.ifCond .lt 8, 3) := by decide +kernel
theorem dX6_quietest_11 : decode cX6_quietest 11 = .ok (.iload_n 2, 1) := by decide +kernel
theorem dX6_quietest_12 : decode cX6_quietest 12 = .ok (.iconst 1, 1) := by decide +kernel
theorem dX6_quietest_13 : decode cX6_quietest 13 = .ok (.if_icmp .le 6, 3) := by decide +kernel
theorem dX6_quietest_16 : decode cX6_quietest 16 = .ok (.bipush (-2), 2) := by decide +kernel
theorem dX6_quietest_18 : decode cX6_quietest 18 = .ok (.ireturn, 1) := by decide +kernel
theorem dX6_quietest_19 : decode cX6_quietest 19 = .ok (.aload_n 0, 1) := by decide +kernel
theorem dX6_quietest_20 : decode cX6_quietest 20 = .ok (.getfield 12, 3) := by decide +kernel
theorem dX6_quietest_23 : decode cX6_quietest 23 = .ok (.getfield 92, 3) := by decide +kernel
theorem dX6_quietest_26 : decode cX6_quietest 26 = .ok (.iload_n 1, 1) := by decide +kernel
theorem dX6_quietest_27 : decode cX6_quietest 27 = .ok (.invokevirtual 213, 3) := by decide +kernel
theorem dX6_quietest_30 : decode cX6_quietest 30 = .ok (.istore_n 3, 1) := by decide +kernel
theorem dX6_quietest_31 : decode cX6_quietest 31 = .ok (.iload_n 2, 1) := by decide +kernel
theorem dX6_quietest_32 : decode cX6_quietest 32 = .ok (.ifCond .ne 7, 3) := by decide +kernel
theorem dX6_quietest_35 : decode cX6_quietest 35 = .ok (.iload_n 3, 1) := by decide +kernel
theorem dX6_quietest_36 : decode cX6_quietest 36 = .ok (.goto 15, 3) := by decide +kernel
theorem dX6_quietest_39 : decode cX6_quietest 39 = .ok (.aload_n 0, 1) := by decide +kernel
theorem dX6_quietest_40 : decode cX6_quietest 40 = .ok (.getfield 12, 3) := by decide +kernel
theorem dX6_quietest_43 : decode cX6_quietest 43 = .ok (.getfield 92, 3) := by decide +kernel
theorem dX6_quietest_46 : decode cX6_quietest 46 = .ok (.iload_n 3, 1) := by decide +kernel
theorem dX6_quietest_47 : decode cX6_quietest 47 = .ok (.iload_n 1, 1) := by decide +kernel
theorem dX6_quietest_48 : decode cX6_quietest 48 = .ok (.invokevirtual 216, 3) := by decide +kernel
theorem dX6_quietest_51 : decode cX6_quietest 51 = .ok (.ireturn, 1) := by decide +kernel
theorem dX6_gaps_0 : decode cX6_gaps 0 = .ok (.aload_n 0, 1) := by decide +kernel
theorem dX6_gaps_1 : decode cX6_gaps 1 = .ok (.getfield 12, 3) := by decide +kernel
theorem dX6_gaps_4 : decode cX6_gaps 4 = .ok (.iload_n 1, 1) := by decide +kernel
theorem dX6_gaps_5 : decode cX6_gaps 5 = .ok (.invokevirtual 114, 3) := by decide +kernel
theorem dX6_gaps_8 : decode cX6_gaps 8 = .ok (.ifCond .eq 17, 3) := by decide +kernel
theorem dX6_gaps_11 : decode cX6_gaps 11 = .ok (.aload_n 0, 1) := by decide +kernel
theorem dX6_gaps_12 : decode cX6_gaps 12 = .ok (.getfield 12, 3) := by decide +kernel
theorem dX6_gaps_15 : decode cX6_gaps 15 = .ok (.getfield 92, 3) := by decide +kernel
theorem dX6_gaps_18 : decode cX6_gaps 18 = .ok (.iload_n 1, 1) := by decide +kernel
theorem dX6_gaps_19 : decode cX6_gaps 19 = .ok (.invokevirtual 219, 3) := by decide +kernel
theorem dX6_gaps_22 : decode cX6_gaps 22 = .ok (.goto 4, 3) := by decide +kernel
theorem dX6_gaps_25 : decode cX6_gaps 25 = .ok (.iconst (-1), 1) := by decide +kernel
theorem dX6_gaps_26 : decode cX6_gaps 26 = .ok (.ireturn, 1) := by decide +kernel
theorem dX6_exchange_0 : decode cX6_exchange 0 = .ok (.iload_n 1, 1) := by decide +kernel
theorem dX6_exchange_1 : decode cX6_exchange 1 = .ok (.ifCond .lt 8, 3) := by decide +kernel
theorem dX6_exchange_4 : decode cX6_exchange 4 = .ok (.iload_n 1, 1) := by decide +kernel
theorem dX6_exchange_5 : decode cX6_exchange 5 = .ok (.iconst 2, 1) := by decide +kernel
theorem dX6_exchange_6 : decode cX6_exchange 6 = .ok (.if_icmp .le 8, 3) := by decide +kernel
theorem dX6_exchange_9 : decode cX6_exchange 9 = .ok (.bipush (-2), 2) := by decide +kernel
theorem dX6_exchange_11 : decode cX6_exchange 11 = .ok (.goto 14, 3) := by decide +kernel
theorem dX6_exchange_14 : decode cX6_exchange 14 = .ok (.aload_n 0, 1) := by decide +kernel
theorem dX6_exchange_15 : decode cX6_exchange 15 = .ok (.getfield 12, 3) := by decide +kernel
theorem dX6_exchange_18 : decode cX6_exchange 18 = .ok (.getfield 92, 3) := by decide +kernel
theorem dX6_exchange_21 : decode cX6_exchange 21 = .ok (.iload_n 1, 1) := by decide +kernel
theorem dX6_exchange_22 : decode cX6_exchange 22 = .ok (.invokevirtual 222, 3) := by decide +kernel
theorem dX6_exchange_25 : decode cX6_exchange 25 = .ok (.ireturn, 1) := by decide +kernel
theorem dX6_losesIn_0 : decode cX6_losesIn 0 = .ok (.aload_n 0, 1) := by decide +kernel
theorem dX6_losesIn_1 : decode cX6_losesIn 1 = .ok (.getfield 12, 3) := by decide +kernel
theorem dX6_losesIn_4 : decode cX6_losesIn 4 = .ok (.iload_n 1, 1) := by decide +kernel
theorem dX6_losesIn_5 : decode cX6_losesIn 5 = .ok (.invokevirtual 114, 3) := by decide +kernel
theorem dX6_losesIn_8 : decode cX6_losesIn 8 = .ok (.ifCond .eq 14, 3) := by decide +kernel
theorem dX6_losesIn_11 : decode cX6_losesIn 11 = .ok (.aload_n 0, 1) := by decide +kernel
theorem dX6_losesIn_12 : decode cX6_losesIn 12 = .ok (.getfield 12, 3) := by decide +kernel
theorem dX6_losesIn_15 : decode cX6_losesIn 15 = .ok (.iload_n 1, 1) := by decide +kernel
theorem dX6_losesIn_16 : decode cX6_losesIn 16 = .ok (.invokevirtual 225, 3) := by decide +kernel
theorem dX6_losesIn_19 : decode cX6_losesIn 19 = .ok (.goto 4, 3) := by decide +kernel
theorem dX6_losesIn_22 : decode cX6_losesIn 22 = .ok (.iconst (-1), 1) := by decide +kernel
theorem dX6_losesIn_23 : decode cX6_losesIn 23 = .ok (.ireturn, 1) := by decide +kernel
theorem dX6_put_0 : decode cX6_put 0 = .ok (.lload_n 1, 1) := by decide +kernel
theorem dX6_put_1 : decode cX6_put 1 = .ok (.invokestatic 228, 3) := by decide +kernel
theorem dX6_put_4 : decode cX6_put 4 = .ok (.istore_n 3, 1) := by decide +kernel
theorem dX6_put_5 : decode cX6_put 5 = .ok (.iload_n 3, 1) := by decide +kernel
theorem dX6_put_6 : decode cX6_put 6 = .ok (.ifCond .ne 6, 3) := by decide +kernel
theorem dX6_put_9 : decode cX6_put 9 = .ok (.bipush (-2), 2) := by decide +kernel
theorem dX6_put_11 : decode cX6_put 11 = .ok (.ireturn, 1) := by decide +kernel
theorem dX6_put_12 : decode cX6_put 12 = .ok (.aload_n 0, 1) := by decide +kernel
theorem dX6_put_13 : decode cX6_put 13 = .ok (.getfield 40, 3) := by decide +kernel
theorem dX6_put_16 : decode cX6_put 16 = .ok (.lload_n 1, 1) := by decide +kernel
theorem dX6_put_17 : decode cX6_put 17 = .ok (.iload_n 3, 1) := by decide +kernel
theorem dX6_put_18 : decode cX6_put 18 = .ok (.invokevirtual 232, 3) := by decide +kernel
theorem dX6_put_21 : decode cX6_put 21 = .ok (.ifCond .eq 13, 3) := by decide +kernel
theorem dX6_put_24 : decode cX6_put 24 = .ok (.aload_n 0, 1) := by decide +kernel
theorem dX6_put_25 : decode cX6_put 25 = .ok (.getfield 40, 3) := by decide +kernel
theorem dX6_put_28 : decode cX6_put 28 = .ok (.getfield 185, 3) := by decide +kernel
theorem dX6_put_31 : decode cX6_put 31 = .ok (.goto 5, 3) := by decide +kernel
theorem dX6_put_34 : decode cX6_put 34 = .ok (.bipush (-4), 2) := by decide +kernel
theorem dX6_put_36 : decode cX6_put 36 = .ok (.ireturn, 1) := by decide +kernel
theorem dX6_wipe_0 : decode cX6_wipe 0 = .ok (.aload_n 0, 1) := by decide +kernel
theorem dX6_wipe_1 : decode cX6_wipe 1 = .ok (.getfield 40, 3) := by decide +kernel
theorem dX6_wipe_4 : decode cX6_wipe 4 = .ok (.getfield 185, 3) := by decide +kernel
theorem dX6_wipe_7 : decode cX6_wipe 7 = .ok (.istore_n 1, 1) := by decide +kernel
theorem dX6_wipe_8 : decode cX6_wipe 8 = .ok (.aload_n 0, 1) := by decide +kernel
theorem dX6_wipe_9 : decode cX6_wipe 9 = .ok (.getfield 40, 3) := by decide +kernel
theorem dX6_wipe_12 : decode cX6_wipe 12 = .ok (.iconst 0, 1) := by decide +kernel
theorem dX6_wipe_13 : decode cX6_wipe 13 = .ok (.putfield 185, 3) := by decide +kernel
theorem dX6_wipe_16 : decode cX6_wipe 16 = .ok (.iload_n 1, 1) := by decide +kernel
theorem dX6_wipe_17 : decode cX6_wipe 17 = .ok (.ireturn, 1) := by decide +kernel
theorem dX6_fault_0 : decode cX6_fault 0 = .ok (.aload_n 0, 1) := by decide +kernel
theorem dX6_fault_1 : decode cX6_fault 1 = .ok (.getfield 40, 3) := by decide +kernel
theorem dX6_fault_4 : decode cX6_fault 4 = .ok (.invokevirtual 236, 3) := by decide +kernel
theorem dX6_fault_7 : decode cX6_fault 7 = .ok (.ireturn, 1) := by decide +kernel
theorem dX6_carryOut_0 : decode cX6_carryOut 0 = .ok (.aload_n 0, 1) := by decide +kernel
theorem dX6_carryOut_1 : decode cX6_carryOut 1 = .ok (.getfield 40, 3) := by decide +kernel
theorem dX6_carryOut_4 : decode cX6_carryOut 4 = .ok (.invokevirtual 236, 3) := by decide +kernel
theorem dX6_carryOut_7 : decode cX6_carryOut 7 = .ok (.bipush (-6), 2) := by decide +kernel
theorem dX6_carryOut_9 : decode cX6_carryOut 9 = .ok (.if_icmp .eq 6, 3) := by decide +kernel
theorem dX6_carryOut_12 : decode cX6_carryOut 12 = .ok (.bipush (-3), 2) := by decide +kernel
theorem dX6_carryOut_14 : decode cX6_carryOut 14 = .ok (.ireturn, 1) := by decide +kernel
theorem dX6_carryOut_15 : decode cX6_carryOut 15 = .ok (.aload_n 0, 1) := by decide +kernel
theorem dX6_carryOut_16 : decode cX6_carryOut 16 = .ok (.getfield 29, 3) := by decide +kernel
theorem dX6_carryOut_19 : decode cX6_carryOut 19 = .ok (.aload_n 0, 1) := by decide +kernel
theorem dX6_carryOut_20 : decode cX6_carryOut 20 = .ok (.getfield 12, 3) := by decide +kernel
theorem dX6_carryOut_23 : decode cX6_carryOut 23 = .ok (.invokevirtual 44, 3) := by decide +kernel
theorem dX6_carryOut_26 : decode cX6_carryOut 26 = .ok (.iconst 0, 1) := by decide +kernel
theorem dX6_carryOut_27 : decode cX6_carryOut 27 = .ok (.istore_n 1, 1) := by decide +kernel
theorem dX6_carryOut_28 : decode cX6_carryOut 28 = .ok (.aload_n 0, 1) := by decide +kernel
theorem dX6_carryOut_29 : decode cX6_carryOut 29 = .ok (.getfield 40, 3) := by decide +kernel
theorem dX6_carryOut_32 : decode cX6_carryOut 32 = .ok (.iconst 0, 1) := by decide +kernel
theorem dX6_carryOut_33 : decode cX6_carryOut 33 = .ok (.putfield 239, 3) := by decide +kernel
theorem dX6_carryOut_36 : decode cX6_carryOut 36 = .ok (.aload_n 0, 1) := by decide +kernel
theorem dX6_carryOut_37 : decode cX6_carryOut 37 = .ok (.getfield 40, 3) := by decide +kernel
theorem dX6_carryOut_40 : decode cX6_carryOut 40 = .ok (.getfield 239, 3) := by decide +kernel
theorem dX6_carryOut_43 : decode cX6_carryOut 43 = .ok (.aload_n 0, 1) := by decide +kernel
theorem dX6_carryOut_44 : decode cX6_carryOut 44 = .ok (.getfield 40, 3) := by decide +kernel
theorem dX6_carryOut_47 : decode cX6_carryOut 47 = .ok (.getfield 185, 3) := by decide +kernel
theorem dX6_carryOut_50 : decode cX6_carryOut 50 = .ok (.if_icmp .ge 39, 3) := by decide +kernel
theorem dX6_carryOut_53 : decode cX6_carryOut 53 = .ok (.aload_n 0, 1) := by decide +kernel
theorem dX6_carryOut_54 : decode cX6_carryOut 54 = .ok (.getfield 40, 3) := by decide +kernel
theorem dX6_carryOut_57 : decode cX6_carryOut 57 = .ok (.invokevirtual 242, 3) := by decide +kernel
theorem dX6_carryOut_60 : decode cX6_carryOut 60 = .ok (.ifCond .eq 29, 3) := by decide +kernel
theorem dX6_carryOut_63 : decode cX6_carryOut 63 = .ok (.aload_n 0, 1) := by decide +kernel
theorem dX6_carryOut_64 : decode cX6_carryOut 64 = .ok (.invokevirtual 246, 3) := by decide +kernel
theorem dX6_carryOut_67 : decode cX6_carryOut 67 = .ok (.ifCond .lt 22, 3) := by decide +kernel
theorem dX6_carryOut_70 : decode cX6_carryOut 70 = .ok (.iinc 1 1, 3) := by decide +kernel
theorem dX6_carryOut_73 : decode cX6_carryOut 73 = .ok (.aload_n 0, 1) := by decide +kernel
theorem dX6_carryOut_74 : decode cX6_carryOut 74 = .ok (.getfield 40, 3) := by decide +kernel
theorem dX6_carryOut_77 : decode cX6_carryOut 77 = .ok (.dup, 1) := by decide +kernel
theorem dX6_carryOut_78 : decode cX6_carryOut 78 = .ok (.getfield 239, 3) := by decide +kernel
theorem dX6_carryOut_81 : decode cX6_carryOut 81 = .ok (.iconst 1, 1) := by decide +kernel
theorem dX6_carryOut_82 : decode cX6_carryOut 82 = .ok (.iadd, 1) := by decide +kernel
theorem dX6_carryOut_83 : decode cX6_carryOut 83 = .ok (.putfield 239, 3) := by decide +kernel
theorem dX6_carryOut_86 : decode cX6_carryOut 86 = .ok (.goto (-50), 3) := by decide +kernel
theorem dX6_carryOut_89 : decode cX6_carryOut 89 = .ok (.aload_n 0, 1) := by decide +kernel
theorem dX6_carryOut_90 : decode cX6_carryOut 90 = .ok (.getfield 40, 3) := by decide +kernel
theorem dX6_carryOut_93 : decode cX6_carryOut 93 = .ok (.iconst 0, 1) := by decide +kernel
theorem dX6_carryOut_94 : decode cX6_carryOut 94 = .ok (.putfield 185, 3) := by decide +kernel
theorem dX6_carryOut_97 : decode cX6_carryOut 97 = .ok (.aload_n 0, 1) := by decide +kernel
theorem dX6_carryOut_98 : decode cX6_carryOut 98 = .ok (.getfield 29, 3) := by decide +kernel
theorem dX6_carryOut_101 : decode cX6_carryOut 101 = .ok (.iload_n 1, 1) := by decide +kernel
theorem dX6_carryOut_102 : decode cX6_carryOut 102 = .ok (.invokevirtual 52, 3) := by decide +kernel
theorem dX6_carryOut_105 : decode cX6_carryOut 105 = .ok (.ireturn, 1) := by decide +kernel
theorem dX6_undo_0 : decode cX6_undo 0 = .ok (.aload_n 0, 1) := by decide +kernel
theorem dX6_undo_1 : decode cX6_undo 1 = .ok (.getfield 29, 3) := by decide +kernel
theorem dX6_undo_4 : decode cX6_undo 4 = .ok (.aload_n 0, 1) := by decide +kernel
theorem dX6_undo_5 : decode cX6_undo 5 = .ok (.getfield 12, 3) := by decide +kernel
theorem dX6_undo_8 : decode cX6_undo 8 = .ok (.invokevirtual 249, 3) := by decide +kernel
theorem dX6_undo_11 : decode cX6_undo 11 = .ok (.ifCond .eq 13, 3) := by decide +kernel
theorem dX6_undo_14 : decode cX6_undo 14 = .ok (.aload_n 0, 1) := by decide +kernel
theorem dX6_undo_15 : decode cX6_undo 15 = .ok (.getfield 29, 3) := by decide +kernel
theorem dX6_undo_18 : decode cX6_undo 18 = .ok (.getfield 186, 3) := by decide +kernel
theorem dX6_undo_21 : decode cX6_undo 21 = .ok (.goto 5, 3) := by decide +kernel
theorem dX6_undo_24 : decode cX6_undo 24 = .ok (.bipush (-5), 2) := by decide +kernel
theorem dX6_undo_26 : decode cX6_undo 26 = .ok (.ireturn, 1) := by decide +kernel
theorem dX6_save_0 : decode cX6_save 0 = .ok (.iload_n 1, 1) := by decide +kernel
theorem dX6_save_1 : decode cX6_save 1 = .ok (.invokestatic 253, 3) := by decide +kernel
theorem dX6_save_4 : decode cX6_save 4 = .ok (.ifCond .ne 6, 3) := by decide +kernel
theorem dX6_save_7 : decode cX6_save 7 = .ok (.bipush (-2), 2) := by decide +kernel
theorem dX6_save_9 : decode cX6_save 9 = .ok (.ireturn, 1) := by decide +kernel
theorem dX6_save_10 : decode cX6_save 10 = .ok (.aload_n 0, 1) := by decide +kernel
theorem dX6_save_11 : decode cX6_save 11 = .ok (.getfield 33, 3) := by decide +kernel
theorem dX6_save_14 : decode cX6_save 14 = .ok (.iload_n 1, 1) := by decide +kernel
theorem dX6_save_15 : decode cX6_save 15 = .ok (.aaload, 1) := by decide +kernel
theorem dX6_save_16 : decode cX6_save 16 = .ok (.astore_n 2, 1) := by decide +kernel
theorem dX6_save_17 : decode cX6_save 17 = .ok (.aload_n 2, 1) := by decide +kernel
theorem dX6_save_18 : decode cX6_save 18 = .ok (.ifnonnull 18, 3) := by decide +kernel
theorem dX6_save_21 : decode cX6_save 21 = .ok (.new 9, 3) := by decide +kernel
theorem dX6_save_24 : decode cX6_save 24 = .ok (.dup, 1) := by decide +kernel
theorem dX6_save_25 : decode cX6_save 25 = .ok (.invokespecial 11, 3) := by decide +kernel
theorem dX6_save_28 : decode cX6_save 28 = .ok (.astore_n 2, 1) := by decide +kernel
theorem dX6_save_29 : decode cX6_save 29 = .ok (.aload_n 0, 1) := by decide +kernel
theorem dX6_save_30 : decode cX6_save 30 = .ok (.getfield 33, 3) := by decide +kernel
theorem dX6_save_33 : decode cX6_save 33 = .ok (.iload_n 1, 1) := by decide +kernel
theorem dX6_save_34 : decode cX6_save 34 = .ok (.aload_n 2, 1) := by decide +kernel
theorem dX6_save_35 : decode cX6_save 35 = .ok (.aastore, 1) := by decide +kernel
theorem dX6_save_36 : decode cX6_save 36 = .ok (.aload_n 2, 1) := by decide +kernel
theorem dX6_save_37 : decode cX6_save 37 = .ok (.aload_n 0, 1) := by decide +kernel
theorem dX6_save_38 : decode cX6_save 38 = .ok (.getfield 12, 3) := by decide +kernel
theorem dX6_save_41 : decode cX6_save 41 = .ok (.invokevirtual 256, 3) := by decide +kernel
theorem dX6_save_44 : decode cX6_save 44 = .ok (.aload_n 0, 1) := by decide +kernel
theorem dX6_save_45 : decode cX6_save 45 = .ok (.getfield 12, 3) := by decide +kernel
theorem dX6_save_48 : decode cX6_save 48 = .ok (.getfield 156, 3) := by decide +kernel
theorem dX6_save_51 : decode cX6_save 51 = .ok (.ireturn, 1) := by decide +kernel
theorem dX6_restore_0 : decode cX6_restore 0 = .ok (.aload_n 0, 1) := by decide +kernel
theorem dX6_restore_1 : decode cX6_restore 1 = .ok (.getfield 29, 3) := by decide +kernel
theorem dX6_restore_4 : decode cX6_restore 4 = .ok (.aload_n 0, 1) := by decide +kernel
theorem dX6_restore_5 : decode cX6_restore 5 = .ok (.getfield 12, 3) := by decide +kernel
theorem dX6_restore_8 : decode cX6_restore 8 = .ok (.invokevirtual 44, 3) := by decide +kernel
theorem dX6_restore_11 : decode cX6_restore 11 = .ok (.aload_n 0, 1) := by decide +kernel
theorem dX6_restore_12 : decode cX6_restore 12 = .ok (.getfield 29, 3) := by decide +kernel
theorem dX6_restore_15 : decode cX6_restore 15 = .ok (.aload_n 0, 1) := by decide +kernel
theorem dX6_restore_16 : decode cX6_restore 16 = .ok (.iload_n 1, 1) := by decide +kernel
theorem dX6_restore_17 : decode cX6_restore 17 = .ok (.invokevirtual 259, 3) := by decide +kernel
theorem dX6_restore_20 : decode cX6_restore 20 = .ok (.invokevirtual 52, 3) := by decide +kernel
theorem dX6_restore_23 : decode cX6_restore 23 = .ok (.ireturn, 1) := by decide +kernel
theorem dX6_isSetting_0 : decode cX6_isSetting 0 = .ok (.iload_n 0, 1) := by decide +kernel
theorem dX6_isSetting_1 : decode cX6_isSetting 1 = .ok (.ifCond .lt 12, 3) := by decide +kernel
theorem dX6_isSetting_4 : decode cX6_isSetting 4 = .ok (.iload_n 0, 1) := by decide +kernel
theorem dX6_isSetting_5 : decode cX6_isSetting 5 = .ok (.iconst 5, 1) := by decide +kernel
theorem dX6_isSetting_6 : decode cX6_isSetting 6 = .ok (.if_icmp .ge 7, 3) := by decide +kernel
theorem dX6_isSetting_9 : decode cX6_isSetting 9 = .ok (.iconst 1, 1) := by decide +kernel
theorem dX6_isSetting_10 : decode cX6_isSetting 10 = .ok (.goto 4, 3) := by decide +kernel
theorem dX6_isSetting_13 : decode cX6_isSetting 13 = .ok (.iconst 0, 1) := by decide +kernel
theorem dX6_isSetting_14 : decode cX6_isSetting 14 = .ok (.ireturn, 1) := by decide +kernel
theorem dX6_isSlot_0 : decode cX6_isSlot 0 = .ok (.iload_n 0, 1) := by decide +kernel
theorem dX6_isSlot_1 : decode cX6_isSlot 1 = .ok (.ifCond .lt 12, 3) := by decide +kernel
theorem dX6_isSlot_4 : decode cX6_isSlot 4 = .ok (.iload_n 0, 1) := by decide +kernel
theorem dX6_isSlot_5 : decode cX6_isSlot 5 = .ok (.iconst 2, 1) := by decide +kernel
theorem dX6_isSlot_6 : decode cX6_isSlot 6 = .ok (.if_icmp .ge 7, 3) := by decide +kernel
theorem dX6_isSlot_9 : decode cX6_isSlot 9 = .ok (.iconst 1, 1) := by decide +kernel
theorem dX6_isSlot_10 : decode cX6_isSlot 10 = .ok (.goto 4, 3) := by decide +kernel
theorem dX6_isSlot_13 : decode cX6_isSlot 13 = .ok (.iconst 0, 1) := by decide +kernel
theorem dX6_isSlot_14 : decode cX6_isSlot 14 = .ok (.ireturn, 1) := by decide +kernel
theorem dX6_isAmount_0 : decode cX6_isAmount 0 = .ok (.iload_n 0, 1) := by decide +kernel
theorem dX6_isAmount_1 : decode cX6_isAmount 1 = .ok (.ifCond .lt 14, 3) := by decide +kernel
theorem dX6_isAmount_4 : decode cX6_isAmount 4 = .ok (.iload_n 0, 1) := by decide +kernel
theorem dX6_isAmount_5 : decode cX6_isAmount 5 = .ok (.ldc_w 262, 3) := by decide +kernel
theorem dX6_isAmount_8 : decode cX6_isAmount 8 = .ok (.if_icmp .gt 7, 3) := by decide +kernel
theorem dX6_isAmount_11 : decode cX6_isAmount 11 = .ok (.iconst 1, 1) := by decide +kernel
theorem dX6_isAmount_12 : decode cX6_isAmount 12 = .ok (.goto 4, 3) := by decide +kernel
theorem dX6_isAmount_15 : decode cX6_isAmount 15 = .ok (.iconst 0, 1) := by decide +kernel
theorem dX6_isAmount_16 : decode cX6_isAmount 16 = .ok (.ireturn, 1) := by decide +kernel
theorem dX6_isLength_0 : decode cX6_isLength 0 = .ok (.iload_n 0, 1) := by decide +kernel
theorem dX6_isLength_1 : decode cX6_isLength 1 = .ok (.iconst 1, 1) := by decide +kernel
theorem dX6_isLength_2 : decode cX6_isLength 2 = .ok (.if_icmp .lt 14, 3) := by decide +kernel
theorem dX6_isLength_5 : decode cX6_isLength 5 = .ok (.iload_n 0, 1) := by decide +kernel
theorem dX6_isLength_6 : decode cX6_isLength 6 = .ok (.sipush 10000, 3) := by decide +kernel
theorem dX6_isLength_9 : decode cX6_isLength 9 = .ok (.if_icmp .gt 7, 3) := by decide +kernel
theorem dX6_isLength_12 : decode cX6_isLength 12 = .ok (.iconst 1, 1) := by decide +kernel
theorem dX6_isLength_13 : decode cX6_isLength 13 = .ok (.goto 4, 3) := by decide +kernel
theorem dX6_isLength_16 : decode cX6_isLength 16 = .ok (.iconst 0, 1) := by decide +kernel
theorem dX6_isLength_17 : decode cX6_isLength 17 = .ok (.ireturn, 1) := by decide +kernel
theorem dX6_isPiece_0 : decode cX6_isPiece 0 = .ok (.iload_n 0, 1) := by decide +kernel
theorem dX6_isPiece_1 : decode cX6_isPiece 1 = .ok (.ifCond .lt 30, 3) := by decide +kernel
theorem dX6_isPiece_4 : decode cX6_isPiece 4 = .ok (.iload_n 0, 1) := by decide +kernel
theorem dX6_isPiece_5 : decode cX6_isPiece 5 = .ok (.sipush 10000, 3) := by decide +kernel
theorem dX6_isPiece_8 : decode cX6_isPiece 8 = .ok (.if_icmp .ge 23, 3) := by decide +kernel
theorem dX6_isPiece_11 : decode cX6_isPiece 11 = .ok (.iload_n 1, 1) := by decide +kernel
theorem dX6_isPiece_12 : decode cX6_isPiece 12 = .ok (.invokestatic 196, 3) := by decide +kernel
theorem dX6_isPiece_15 : decode cX6_isPiece 15 = .ok (.ifCond .eq 16, 3) := by decide +kernel
theorem dX6_isPiece_18 : decode cX6_isPiece 18 = .ok (.iload_n 0, 1) := by decide +kernel
theorem dX6_isPiece_19 : decode cX6_isPiece 19 = .ok (.iload_n 1, 1) := by decide +kernel
theorem dX6_isPiece_20 : decode cX6_isPiece 20 = .ok (.iadd, 1) := by decide +kernel
theorem dX6_isPiece_21 : decode cX6_isPiece 21 = .ok (.sipush 10000, 3) := by decide +kernel
theorem dX6_isPiece_24 : decode cX6_isPiece 24 = .ok (.if_icmp .gt 7, 3) := by decide +kernel
theorem dX6_isPiece_27 : decode cX6_isPiece 27 = .ok (.iconst 1, 1) := by decide +kernel
theorem dX6_isPiece_28 : decode cX6_isPiece 28 = .ok (.goto 4, 3) := by decide +kernel
theorem dX6_isPiece_31 : decode cX6_isPiece 31 = .ok (.iconst 0, 1) := by decide +kernel
theorem dX6_isPiece_32 : decode cX6_isPiece 32 = .ok (.ireturn, 1) := by decide +kernel
theorem dX6_changeSetting_0 : decode cX6_changeSetting 0 = .ok (.iload_n 1, 1) := by decide +kernel
theorem dX6_changeSetting_1 : decode cX6_changeSetting 1 = .ok (.invokestatic 187, 3) := by decide +kernel
theorem dX6_changeSetting_4 : decode cX6_changeSetting 4 = .ok (.ifCond .eq 21, 3) := by decide +kernel
theorem dX6_changeSetting_7 : decode cX6_changeSetting 7 = .ok (.iload_n 2, 1) := by decide +kernel
theorem dX6_changeSetting_8 : decode cX6_changeSetting 8 = .ok (.getstatic 263, 3) := by decide +kernel
theorem dX6_changeSetting_11 : decode cX6_changeSetting 11 = .ok (.iload_n 1, 1) := by decide +kernel
theorem dX6_changeSetting_12 : decode cX6_changeSetting 12 = .ok (.iaload, 1) := by decide +kernel
theorem dX6_changeSetting_13 : decode cX6_changeSetting 13 = .ok (.if_icmp .lt 12, 3) := by decide +kernel
theorem dX6_changeSetting_16 : decode cX6_changeSetting 16 = .ok (.iload_n 2, 1) := by decide +kernel
theorem dX6_changeSetting_17 : decode cX6_changeSetting 17 = .ok (.getstatic 267, 3) := by decide +kernel
theorem dX6_changeSetting_20 : decode cX6_changeSetting 20 = .ok (.iload_n 1, 1) := by decide +kernel
theorem dX6_changeSetting_21 : decode cX6_changeSetting 21 = .ok (.iaload, 1) := by decide +kernel
theorem dX6_changeSetting_22 : decode cX6_changeSetting 22 = .ok (.if_icmp .le 6, 3) := by decide +kernel
theorem dX6_changeSetting_25 : decode cX6_changeSetting 25 = .ok (.bipush (-2), 2) := by decide +kernel
theorem dX6_changeSetting_27 : decode cX6_changeSetting 27 = .ok (.ireturn, 1) := by decide +kernel
theorem dX6_changeSetting_28 : decode cX6_changeSetting 28 = .ok (.aload_n 0, 1) := by decide +kernel
theorem dX6_changeSetting_29 : decode cX6_changeSetting 29 = .ok (.getfield 12, 3) := by decide +kernel
theorem dX6_changeSetting_32 : decode cX6_changeSetting 32 = .ok (.getfield 190, 3) := by decide +kernel
theorem dX6_changeSetting_35 : decode cX6_changeSetting 35 = .ok (.iload_n 1, 1) := by decide +kernel
theorem dX6_changeSetting_36 : decode cX6_changeSetting 36 = .ok (.invokevirtual 103, 3) := by decide +kernel
theorem dX6_changeSetting_39 : decode cX6_changeSetting 39 = .ok (.istore_n 3, 1) := by decide +kernel
theorem dX6_changeSetting_40 : decode cX6_changeSetting 40 = .ok (.aload_n 0, 1) := by decide +kernel
theorem dX6_changeSetting_41 : decode cX6_changeSetting 41 = .ok (.getfield 12, 3) := by decide +kernel
theorem dX6_changeSetting_44 : decode cX6_changeSetting 44 = .ok (.getfield 190, 3) := by decide +kernel
theorem dX6_changeSetting_47 : decode cX6_changeSetting 47 = .ok (.iload_n 1, 1) := by decide +kernel
theorem dX6_changeSetting_48 : decode cX6_changeSetting 48 = .ok (.iload_n 2, 1) := by decide +kernel
theorem dX6_changeSetting_49 : decode cX6_changeSetting 49 = .ok (.invokevirtual 270, 3) := by decide +kernel
theorem dX6_changeSetting_52 : decode cX6_changeSetting 52 = .ok (.iload_n 3, 1) := by decide +kernel
theorem dX6_changeSetting_53 : decode cX6_changeSetting 53 = .ok (.ireturn, 1) := by decide +kernel
theorem dX6_addOwner_0 : decode cX6_addOwner 0 = .ok (.iload_n 1, 1) := by decide +kernel
theorem dX6_addOwner_1 : decode cX6_addOwner 1 = .ok (.invokestatic 274, 3) := by decide +kernel
theorem dX6_addOwner_4 : decode cX6_addOwner 4 = .ok (.ifCond .ne 6, 3) := by decide +kernel
theorem dX6_addOwner_7 : decode cX6_addOwner 7 = .ok (.bipush (-2), 2) := by decide +kernel
theorem dX6_addOwner_9 : decode cX6_addOwner 9 = .ok (.ireturn, 1) := by decide +kernel
theorem dX6_addOwner_10 : decode cX6_addOwner 10 = .ok (.aload_n 0, 1) := by decide +kernel
theorem dX6_addOwner_11 : decode cX6_addOwner 11 = .ok (.getfield 12, 3) := by decide +kernel
theorem dX6_addOwner_14 : decode cX6_addOwner 14 = .ok (.getfield 160, 3) := by decide +kernel
theorem dX6_addOwner_17 : decode cX6_addOwner 17 = .ok (.bipush 10, 2) := by decide +kernel
theorem dX6_addOwner_19 : decode cX6_addOwner 19 = .ok (.if_icmp .lt 6, 3) := by decide +kernel
theorem dX6_addOwner_22 : decode cX6_addOwner 22 = .ok (.bipush (-4), 2) := by decide +kernel
theorem dX6_addOwner_24 : decode cX6_addOwner 24 = .ok (.ireturn, 1) := by decide +kernel
theorem dX6_addOwner_25 : decode cX6_addOwner 25 = .ok (.aload_n 0, 1) := by decide +kernel
theorem dX6_addOwner_26 : decode cX6_addOwner 26 = .ok (.getfield 12, 3) := by decide +kernel
theorem dX6_addOwner_29 : decode cX6_addOwner 29 = .ok (.getfield 160, 3) := by decide +kernel
theorem dX6_addOwner_32 : decode cX6_addOwner 32 = .ok (.istore_n 2, 1) := by decide +kernel
theorem dX6_addOwner_33 : decode cX6_addOwner 33 = .ok (.aload_n 0, 1) := by decide +kernel
theorem dX6_addOwner_34 : decode cX6_addOwner 34 = .ok (.getfield 12, 3) := by decide +kernel
theorem dX6_addOwner_37 : decode cX6_addOwner 37 = .ok (.iload_n 2, 1) := by decide +kernel
theorem dX6_addOwner_38 : decode cX6_addOwner 38 = .ok (.iconst 1, 1) := by decide +kernel
theorem dX6_addOwner_39 : decode cX6_addOwner 39 = .ok (.iadd, 1) := by decide +kernel
theorem dX6_addOwner_40 : decode cX6_addOwner 40 = .ok (.putfield 160, 3) := by decide +kernel
theorem dX6_addOwner_43 : decode cX6_addOwner 43 = .ok (.aload_n 0, 1) := by decide +kernel
theorem dX6_addOwner_44 : decode cX6_addOwner 44 = .ok (.getfield 12, 3) := by decide +kernel
theorem dX6_addOwner_47 : decode cX6_addOwner 47 = .ok (.iload_n 2, 1) := by decide +kernel
theorem dX6_addOwner_48 : decode cX6_addOwner 48 = .ok (.iload_n 1, 1) := by decide +kernel
theorem dX6_addOwner_49 : decode cX6_addOwner 49 = .ok (.i2l, 1) := by decide +kernel
theorem dX6_addOwner_50 : decode cX6_addOwner 50 = .ok (.invokevirtual 277, 3) := by decide +kernel
theorem dX6_addOwner_53 : decode cX6_addOwner 53 = .ok (.iload_n 2, 1) := by decide +kernel
theorem dX6_addOwner_54 : decode cX6_addOwner 54 = .ok (.ireturn, 1) := by decide +kernel
theorem dX6_payIn_0 : decode cX6_payIn 0 = .ok (.aload_n 0, 1) := by decide +kernel
theorem dX6_payIn_1 : decode cX6_payIn 1 = .ok (.getfield 12, 3) := by decide +kernel
theorem dX6_payIn_4 : decode cX6_payIn 4 = .ok (.iload_n 1, 1) := by decide +kernel
theorem dX6_payIn_5 : decode cX6_payIn 5 = .ok (.invokevirtual 114, 3) := by decide +kernel
theorem dX6_payIn_8 : decode cX6_payIn 8 = .ok (.ifCond .ne 5, 3) := by decide +kernel
theorem dX6_payIn_11 : decode cX6_payIn 11 = .ok (.iconst (-1), 1) := by decide +kernel
theorem dX6_payIn_12 : decode cX6_payIn 12 = .ok (.ireturn, 1) := by decide +kernel
theorem dX6_payIn_13 : decode cX6_payIn 13 = .ok (.iload_n 2, 1) := by decide +kernel
theorem dX6_payIn_14 : decode cX6_payIn 14 = .ok (.invokestatic 274, 3) := by decide +kernel
theorem dX6_payIn_17 : decode cX6_payIn 17 = .ok (.ifCond .ne 6, 3) := by decide +kernel
theorem dX6_payIn_20 : decode cX6_payIn 20 = .ok (.bipush (-2), 2) := by decide +kernel
theorem dX6_payIn_22 : decode cX6_payIn 22 = .ok (.ireturn, 1) := by decide +kernel
theorem dX6_payIn_23 : decode cX6_payIn 23 = .ok (.aload_n 0, 1) := by decide +kernel
theorem dX6_payIn_24 : decode cX6_payIn 24 = .ok (.getfield 12, 3) := by decide +kernel
theorem dX6_payIn_27 : decode cX6_payIn 27 = .ok (.iload_n 1, 1) := by decide +kernel
theorem dX6_payIn_28 : decode cX6_payIn 28 = .ok (.iload_n 2, 1) := by decide +kernel
theorem dX6_payIn_29 : decode cX6_payIn 29 = .ok (.i2l, 1) := by decide +kernel
theorem dX6_payIn_30 : decode cX6_payIn 30 = .ok (.invokevirtual 277, 3) := by decide +kernel
theorem dX6_payIn_33 : decode cX6_payIn 33 = .ok (.aload_n 0, 1) := by decide +kernel
theorem dX6_payIn_34 : decode cX6_payIn 34 = .ok (.getfield 12, 3) := by decide +kernel
theorem dX6_payIn_37 : decode cX6_payIn 37 = .ok (.iload_n 1, 1) := by decide +kernel
theorem dX6_payIn_38 : decode cX6_payIn 38 = .ok (.invokevirtual 135, 3) := by decide +kernel
theorem dX6_payIn_41 : decode cX6_payIn 41 = .ok (.lconst 0, 1) := by decide +kernel
theorem dX6_payIn_42 : decode cX6_payIn 42 = .ok (.lcmp, 1) := by decide +kernel
theorem dX6_payIn_43 : decode cX6_payIn 43 = .ok (.ifCond .lt 7, 3) := by decide +kernel
theorem dX6_payIn_46 : decode cX6_payIn 46 = .ok (.iconst 1, 1) := by decide +kernel
theorem dX6_payIn_47 : decode cX6_payIn 47 = .ok (.goto 4, 3) := by decide +kernel
theorem dX6_payIn_50 : decode cX6_payIn 50 = .ok (.iconst 0, 1) := by decide +kernel
theorem dX6_payIn_51 : decode cX6_payIn 51 = .ok (.ireturn, 1) := by decide +kernel
theorem dX6_givePiece_0 : decode cX6_givePiece 0 = .ok (.aload_n 0, 1) := by decide +kernel
theorem dX6_givePiece_1 : decode cX6_givePiece 1 = .ok (.getfield 12, 3) := by decide +kernel
theorem dX6_givePiece_4 : decode cX6_givePiece 4 = .ok (.iload_n 1, 1) := by decide +kernel
theorem dX6_givePiece_5 : decode cX6_givePiece 5 = .ok (.invokevirtual 114, 3) := by decide +kernel
theorem dX6_givePiece_8 : decode cX6_givePiece 8 = .ok (.ifCond .ne 5, 3) := by decide +kernel
theorem dX6_givePiece_11 : decode cX6_givePiece 11 = .ok (.iconst (-1), 1) := by decide +kernel
theorem dX6_givePiece_12 : decode cX6_givePiece 12 = .ok (.ireturn, 1) := by decide +kernel
theorem dX6_givePiece_13 : decode cX6_givePiece 13 = .ok (.iload_n 2, 1) := by decide +kernel
theorem dX6_givePiece_14 : decode cX6_givePiece 14 = .ok (.iload_n 3, 1) := by decide +kernel
theorem dX6_givePiece_15 : decode cX6_givePiece 15 = .ok (.invokestatic 205, 3) := by decide +kernel
theorem dX6_givePiece_18 : decode cX6_givePiece 18 = .ok (.ifCond .ne 6, 3) := by decide +kernel
theorem dX6_givePiece_21 : decode cX6_givePiece 21 = .ok (.bipush (-2), 2) := by decide +kernel
theorem dX6_givePiece_23 : decode cX6_givePiece 23 = .ok (.ireturn, 1) := by decide +kernel
theorem dX6_givePiece_24 : decode cX6_givePiece 24 = .ok (.aload_n 0, 1) := by decide +kernel
theorem dX6_givePiece_25 : decode cX6_givePiece 25 = .ok (.getfield 22, 3) := by decide +kernel
theorem dX6_givePiece_28 : decode cX6_givePiece 28 = .ok (.aload_n 0, 1) := by decide +kernel
theorem dX6_givePiece_29 : decode cX6_givePiece 29 = .ok (.getfield 12, 3) := by decide +kernel
theorem dX6_givePiece_32 : decode cX6_givePiece 32 = .ok (.getfield 92, 3) := by decide +kernel
theorem dX6_givePiece_35 : decode cX6_givePiece 35 = .ok (.iload_n 1, 1) := by decide +kernel
theorem dX6_givePiece_36 : decode cX6_givePiece 36 = .ok (.iload_n 2, 1) := by decide +kernel
theorem dX6_givePiece_37 : decode cX6_givePiece 37 = .ok (.iload_n 3, 1) := by decide +kernel
theorem dX6_givePiece_38 : decode cX6_givePiece 38 = .ok (.invokevirtual 209, 3) := by decide +kernel
theorem dX6_givePiece_41 : decode cX6_givePiece 41 = .ok (.aload_n 0, 1) := by decide +kernel
theorem dX6_givePiece_42 : decode cX6_givePiece 42 = .ok (.getfield 22, 3) := by decide +kernel
theorem dX6_givePiece_45 : decode cX6_givePiece 45 = .ok (.getfield 163, 3) := by decide +kernel
theorem dX6_givePiece_48 : decode cX6_givePiece 48 = .ok (.bipush 40, 2) := by decide +kernel
theorem dX6_givePiece_50 : decode cX6_givePiece 50 = .ok (.if_icmp .le 6, 3) := by decide +kernel
theorem dX6_givePiece_53 : decode cX6_givePiece 53 = .ok (.bipush (-4), 2) := by decide +kernel
theorem dX6_givePiece_55 : decode cX6_givePiece 55 = .ok (.ireturn, 1) := by decide +kernel
theorem dX6_givePiece_56 : decode cX6_givePiece 56 = .ok (.aload_n 0, 1) := by decide +kernel
theorem dX6_givePiece_57 : decode cX6_givePiece 57 = .ok (.getfield 12, 3) := by decide +kernel
theorem dX6_givePiece_60 : decode cX6_givePiece 60 = .ok (.iload_n 1, 1) := by decide +kernel
theorem dX6_givePiece_61 : decode cX6_givePiece 61 = .ok (.iload_n 3, 1) := by decide +kernel
theorem dX6_givePiece_62 : decode cX6_givePiece 62 = .ok (.aload_n 0, 1) := by decide +kernel
theorem dX6_givePiece_63 : decode cX6_givePiece 63 = .ok (.getfield 12, 3) := by decide +kernel
theorem dX6_givePiece_66 : decode cX6_givePiece 66 = .ok (.getfield 92, 3) := by decide +kernel
theorem dX6_givePiece_69 : decode cX6_givePiece 69 = .ok (.iload_n 1, 1) := by decide +kernel
theorem dX6_givePiece_70 : decode cX6_givePiece 70 = .ok (.iload_n 2, 1) := by decide +kernel
theorem dX6_givePiece_71 : decode cX6_givePiece 71 = .ok (.iload_n 3, 1) := by decide +kernel
theorem dX6_givePiece_72 : decode cX6_givePiece 72 = .ok (.invokevirtual 281, 3) := by decide +kernel
theorem dX6_givePiece_75 : decode cX6_givePiece 75 = .ok (.isub, 1) := by decide +kernel
theorem dX6_givePiece_76 : decode cX6_givePiece 76 = .ok (.invokevirtual 284, 3) := by decide +kernel
theorem dX6_givePiece_79 : decode cX6_givePiece 79 = .ok (.ifCond .ne 6, 3) := by decide +kernel
theorem dX6_givePiece_82 : decode cX6_givePiece 82 = .ok (.bipush (-5), 2) := by decide +kernel
theorem dX6_givePiece_84 : decode cX6_givePiece 84 = .ok (.ireturn, 1) := by decide +kernel
theorem dX6_givePiece_85 : decode cX6_givePiece 85 = .ok (.aload_n 0, 1) := by decide +kernel
theorem dX6_givePiece_86 : decode cX6_givePiece 86 = .ok (.getfield 12, 3) := by decide +kernel
theorem dX6_givePiece_89 : decode cX6_givePiece 89 = .ok (.getfield 92, 3) := by decide +kernel
theorem dX6_givePiece_92 : decode cX6_givePiece 92 = .ok (.aload_n 0, 1) := by decide +kernel
theorem dX6_givePiece_93 : decode cX6_givePiece 93 = .ok (.getfield 22, 3) := by decide +kernel
theorem dX6_givePiece_96 : decode cX6_givePiece 96 = .ok (.invokevirtual 287, 3) := by decide +kernel
theorem dX6_givePiece_99 : decode cX6_givePiece 99 = .ok (.aload_n 0, 1) := by decide +kernel
theorem dX6_givePiece_100 : decode cX6_givePiece 100 = .ok (.getfield 22, 3) := by decide +kernel
theorem dX6_givePiece_103 : decode cX6_givePiece 103 = .ok (.getfield 163, 3) := by decide +kernel
theorem dX6_givePiece_106 : decode cX6_givePiece 106 = .ok (.ireturn, 1) := by decide +kernel
theorem dX6_freePiece_0 : decode cX6_freePiece 0 = .ok (.iload_n 1, 1) := by decide +kernel
theorem dX6_freePiece_1 : decode cX6_freePiece 1 = .ok (.iload_n 2, 1) := by decide +kernel
theorem dX6_freePiece_2 : decode cX6_freePiece 2 = .ok (.invokestatic 205, 3) := by decide +kernel
theorem dX6_freePiece_5 : decode cX6_freePiece 5 = .ok (.ifCond .ne 6, 3) := by decide +kernel
theorem dX6_freePiece_8 : decode cX6_freePiece 8 = .ok (.bipush (-2), 2) := by decide +kernel
theorem dX6_freePiece_10 : decode cX6_freePiece 10 = .ok (.ireturn, 1) := by decide +kernel
theorem dX6_freePiece_11 : decode cX6_freePiece 11 = .ok (.aload_n 0, 1) := by decide +kernel
theorem dX6_freePiece_12 : decode cX6_freePiece 12 = .ok (.getfield 22, 3) := by decide +kernel
theorem dX6_freePiece_15 : decode cX6_freePiece 15 = .ok (.aload_n 0, 1) := by decide +kernel
theorem dX6_freePiece_16 : decode cX6_freePiece 16 = .ok (.getfield 12, 3) := by decide +kernel
theorem dX6_freePiece_19 : decode cX6_freePiece 19 = .ok (.getfield 92, 3) := by decide +kernel
theorem dX6_freePiece_22 : decode cX6_freePiece 22 = .ok (.bipush (-6), 2) := by decide +kernel
theorem dX6_freePiece_24 : decode cX6_freePiece 24 = .ok (.iload_n 1, 1) := by decide +kernel
theorem dX6_freePiece_25 : decode cX6_freePiece 25 = .ok (.iload_n 2, 1) := by decide +kernel
theorem dX6_freePiece_26 : decode cX6_freePiece 26 = .ok (.invokevirtual 209, 3) := by decide +kernel
theorem dX6_freePiece_29 : decode cX6_freePiece 29 = .ok (.aload_n 0, 1) := by decide +kernel
theorem dX6_freePiece_30 : decode cX6_freePiece 30 = .ok (.getfield 22, 3) := by decide +kernel
theorem dX6_freePiece_33 : decode cX6_freePiece 33 = .ok (.getfield 163, 3) := by decide +kernel
theorem dX6_freePiece_36 : decode cX6_freePiece 36 = .ok (.bipush 40, 2) := by decide +kernel
theorem dX6_freePiece_38 : decode cX6_freePiece 38 = .ok (.if_icmp .le 6, 3) := by decide +kernel
theorem dX6_freePiece_41 : decode cX6_freePiece 41 = .ok (.bipush (-4), 2) := by decide +kernel
theorem dX6_freePiece_43 : decode cX6_freePiece 43 = .ok (.ireturn, 1) := by decide +kernel
theorem dX6_freePiece_44 : decode cX6_freePiece 44 = .ok (.aload_n 0, 1) := by decide +kernel
theorem dX6_freePiece_45 : decode cX6_freePiece 45 = .ok (.getfield 12, 3) := by decide +kernel
theorem dX6_freePiece_48 : decode cX6_freePiece 48 = .ok (.getfield 92, 3) := by decide +kernel
theorem dX6_freePiece_51 : decode cX6_freePiece 51 = .ok (.aload_n 0, 1) := by decide +kernel
theorem dX6_freePiece_52 : decode cX6_freePiece 52 = .ok (.getfield 22, 3) := by decide +kernel
theorem dX6_freePiece_55 : decode cX6_freePiece 55 = .ok (.invokevirtual 287, 3) := by decide +kernel
theorem dX6_freePiece_58 : decode cX6_freePiece 58 = .ok (.aload_n 0, 1) := by decide +kernel
theorem dX6_freePiece_59 : decode cX6_freePiece 59 = .ok (.getfield 22, 3) := by decide +kernel
theorem dX6_freePiece_62 : decode cX6_freePiece 62 = .ok (.getfield 163, 3) := by decide +kernel
theorem dX6_freePiece_65 : decode cX6_freePiece 65 = .ok (.ireturn, 1) := by decide +kernel
theorem dX6_grabPiece_0 : decode cX6_grabPiece 0 = .ok (.aload_n 0, 1) := by decide +kernel
theorem dX6_grabPiece_1 : decode cX6_grabPiece 1 = .ok (.getfield 12, 3) := by decide +kernel
theorem dX6_grabPiece_4 : decode cX6_grabPiece 4 = .ok (.iload_n 1, 1) := by decide +kernel
theorem dX6_grabPiece_5 : decode cX6_grabPiece 5 = .ok (.invokevirtual 114, 3) := by decide +kernel
theorem dX6_grabPiece_8 : decode cX6_grabPiece 8 = .ok (.ifCond .ne 5, 3) := by decide +kernel
theorem dX6_grabPiece_11 : decode cX6_grabPiece 11 = .ok (.iconst (-1), 1) := by decide +kernel
theorem dX6_grabPiece_12 : decode cX6_grabPiece 12 = .ok (.ireturn, 1) := by decide +kernel
theorem dX6_grabPiece_13 : decode cX6_grabPiece 13 = .ok (.iload_n 2, 1) := by decide +kernel
theorem dX6_grabPiece_14 : decode cX6_grabPiece 14 = .ok (.invokestatic 196, 3) := by decide +kernel
theorem dX6_grabPiece_17 : decode cX6_grabPiece 17 = .ok (.ifCond .ne 6, 3) := by decide +kernel
theorem dX6_grabPiece_20 : decode cX6_grabPiece 20 = .ok (.bipush (-2), 2) := by decide +kernel
theorem dX6_grabPiece_22 : decode cX6_grabPiece 22 = .ok (.ireturn, 1) := by decide +kernel
theorem dX6_grabPiece_23 : decode cX6_grabPiece 23 = .ok (.aload_n 0, 1) := by decide +kernel
theorem dX6_grabPiece_24 : decode cX6_grabPiece 24 = .ok (.getfield 12, 3) := by decide +kernel
theorem dX6_grabPiece_27 : decode cX6_grabPiece 27 = .ok (.getfield 92, 3) := by decide +kernel
theorem dX6_grabPiece_30 : decode cX6_grabPiece 30 = .ok (.iload_n 2, 1) := by decide +kernel
theorem dX6_grabPiece_31 : decode cX6_grabPiece 31 = .ok (.iconst 0, 1) := by decide +kernel
theorem dX6_grabPiece_32 : decode cX6_grabPiece 32 = .ok (.invokevirtual 199, 3) := by decide +kernel
theorem dX6_grabPiece_35 : decode cX6_grabPiece 35 = .ok (.istore_n 3, 1) := by decide +kernel
theorem dX6_grabPiece_36 : decode cX6_grabPiece 36 = .ok (.iload_n 3, 1) := by decide +kernel
theorem dX6_grabPiece_37 : decode cX6_grabPiece 37 = .ok (.bipush (-6), 2) := by decide +kernel
theorem dX6_grabPiece_39 : decode cX6_grabPiece 39 = .ok (.if_icmp .ne 6, 3) := by decide +kernel
theorem dX6_grabPiece_42 : decode cX6_grabPiece 42 = .ok (.bipush (-5), 2) := by decide +kernel
theorem dX6_grabPiece_44 : decode cX6_grabPiece 44 = .ok (.ireturn, 1) := by decide +kernel
theorem dX6_grabPiece_45 : decode cX6_grabPiece 45 = .ok (.aload_n 0, 1) := by decide +kernel
theorem dX6_grabPiece_46 : decode cX6_grabPiece 46 = .ok (.getfield 12, 3) := by decide +kernel
theorem dX6_grabPiece_49 : decode cX6_grabPiece 49 = .ok (.getfield 92, 3) := by decide +kernel
theorem dX6_grabPiece_52 : decode cX6_grabPiece 52 = .ok (.iload_n 3, 1) := by decide +kernel
theorem dX6_grabPiece_53 : decode cX6_grabPiece 53 = .ok (.invokevirtual 202, 3) := by decide +kernel
theorem dX6_grabPiece_56 : decode cX6_grabPiece 56 = .ok (.istore 4, 2) := by decide +kernel
theorem dX6_grabPiece_58 : decode cX6_grabPiece 58 = .ok (.aload_n 0, 1) := by decide +kernel
theorem dX6_grabPiece_59 : decode cX6_grabPiece 59 = .ok (.iload_n 1, 1) := by decide +kernel
theorem dX6_grabPiece_60 : decode cX6_grabPiece 60 = .ok (.iload 4, 2) := by decide +kernel
theorem dX6_grabPiece_62 : decode cX6_grabPiece 62 = .ok (.iload_n 2, 1) := by decide +kernel
theorem dX6_grabPiece_63 : decode cX6_grabPiece 63 = .ok (.invokevirtual 62, 3) := by decide +kernel
theorem dX6_grabPiece_66 : decode cX6_grabPiece 66 = .ok (.istore 5, 2) := by decide +kernel
theorem dX6_grabPiece_68 : decode cX6_grabPiece 68 = .ok (.iload 5, 2) := by decide +kernel
theorem dX6_grabPiece_70 : decode cX6_grabPiece 70 = .ok (.ifCond .ge 8, 3) := by decide +kernel
theorem dX6_grabPiece_73 : decode cX6_grabPiece 73 = .ok (.iload 5, 2) := by decide +kernel
theorem dX6_grabPiece_75 : decode cX6_grabPiece 75 = .ok (.goto 5, 3) := by decide +kernel
theorem dX6_grabPiece_78 : decode cX6_grabPiece 78 = .ok (.iload 4, 2) := by decide +kernel
theorem dX6_grabPiece_80 : decode cX6_grabPiece 80 = .ok (.ireturn, 1) := by decide +kernel
theorem dX6_handOver_0 : decode cX6_handOver 0 = .ok (.aload_n 0, 1) := by decide +kernel
theorem dX6_handOver_1 : decode cX6_handOver 1 = .ok (.getfield 12, 3) := by decide +kernel
theorem dX6_handOver_4 : decode cX6_handOver 4 = .ok (.iload_n 1, 1) := by decide +kernel
theorem dX6_handOver_5 : decode cX6_handOver 5 = .ok (.invokevirtual 114, 3) := by decide +kernel
theorem dX6_handOver_8 : decode cX6_handOver 8 = .ok (.ifCond .eq 19, 3) := by decide +kernel
theorem dX6_handOver_11 : decode cX6_handOver 11 = .ok (.aload_n 0, 1) := by decide +kernel
theorem dX6_handOver_12 : decode cX6_handOver 12 = .ok (.getfield 12, 3) := by decide +kernel
theorem dX6_handOver_15 : decode cX6_handOver 15 = .ok (.iload_n 2, 1) := by decide +kernel
theorem dX6_handOver_16 : decode cX6_handOver 16 = .ok (.invokevirtual 114, 3) := by decide +kernel
theorem dX6_handOver_19 : decode cX6_handOver 19 = .ok (.ifCond .eq 8, 3) := by decide +kernel
theorem dX6_handOver_22 : decode cX6_handOver 22 = .ok (.iload_n 1, 1) := by decide +kernel
theorem dX6_handOver_23 : decode cX6_handOver 23 = .ok (.iload_n 2, 1) := by decide +kernel
theorem dX6_handOver_24 : decode cX6_handOver 24 = .ok (.if_icmp .ne 5, 3) := by decide +kernel
theorem dX6_handOver_27 : decode cX6_handOver 27 = .ok (.iconst (-1), 1) := by decide +kernel
theorem dX6_handOver_28 : decode cX6_handOver 28 = .ok (.ireturn, 1) := by decide +kernel
theorem dX6_handOver_29 : decode cX6_handOver 29 = .ok (.aload_n 0, 1) := by decide +kernel
theorem dX6_handOver_30 : decode cX6_handOver 30 = .ok (.getfield 12, 3) := by decide +kernel
theorem dX6_handOver_33 : decode cX6_handOver 33 = .ok (.getfield 92, 3) := by decide +kernel
theorem dX6_handOver_36 : decode cX6_handOver 36 = .ok (.getfield 120, 3) := by decide +kernel
theorem dX6_handOver_39 : decode cX6_handOver 39 = .ok (.iload_n 1, 1) := by decide +kernel
theorem dX6_handOver_40 : decode cX6_handOver 40 = .ok (.invokevirtual 103, 3) := by decide +kernel
theorem dX6_handOver_43 : decode cX6_handOver 43 = .ok (.istore_n 3, 1) := by decide +kernel
theorem dX6_handOver_44 : decode cX6_handOver 44 = .ok (.aload_n 0, 1) := by decide +kernel
theorem dX6_handOver_45 : decode cX6_handOver 45 = .ok (.getfield 12, 3) := by decide +kernel
theorem dX6_handOver_48 : decode cX6_handOver 48 = .ok (.iload_n 2, 1) := by decide +kernel
theorem dX6_handOver_49 : decode cX6_handOver 49 = .ok (.iload_n 3, 1) := by decide +kernel
theorem dX6_handOver_50 : decode cX6_handOver 50 = .ok (.invokevirtual 284, 3) := by decide +kernel
theorem dX6_handOver_53 : decode cX6_handOver 53 = .ok (.ifCond .ne 6, 3) := by decide +kernel
theorem dX6_handOver_56 : decode cX6_handOver 56 = .ok (.bipush (-5), 2) := by decide +kernel
theorem dX6_handOver_58 : decode cX6_handOver 58 = .ok (.ireturn, 1) := by decide +kernel
theorem dX6_handOver_59 : decode cX6_handOver 59 = .ok (.aload_n 0, 1) := by decide +kernel
theorem dX6_handOver_60 : decode cX6_handOver 60 = .ok (.getfield 22, 3) := by decide +kernel
theorem dX6_handOver_63 : decode cX6_handOver 63 = .ok (.aload_n 0, 1) := by decide +kernel
theorem dX6_handOver_64 : decode cX6_handOver 64 = .ok (.getfield 12, 3) := by decide +kernel
theorem dX6_handOver_67 : decode cX6_handOver 67 = .ok (.getfield 92, 3) := by decide +kernel
theorem dX6_handOver_70 : decode cX6_handOver 70 = .ok (.iload_n 1, 1) := by decide +kernel
theorem dX6_handOver_71 : decode cX6_handOver 71 = .ok (.iload_n 2, 1) := by decide +kernel
theorem dX6_handOver_72 : decode cX6_handOver 72 = .ok (.invokevirtual 290, 3) := by decide +kernel
theorem dX6_handOver_75 : decode cX6_handOver 75 = .ok (.aload_n 0, 1) := by decide +kernel
theorem dX6_handOver_76 : decode cX6_handOver 76 = .ok (.getfield 12, 3) := by decide +kernel
theorem dX6_handOver_79 : decode cX6_handOver 79 = .ok (.getfield 92, 3) := by decide +kernel
theorem dX6_handOver_82 : decode cX6_handOver 82 = .ok (.aload_n 0, 1) := by decide +kernel
theorem dX6_handOver_83 : decode cX6_handOver 83 = .ok (.getfield 22, 3) := by decide +kernel
theorem dX6_handOver_86 : decode cX6_handOver 86 = .ok (.invokevirtual 287, 3) := by decide +kernel
theorem dX6_handOver_89 : decode cX6_handOver 89 = .ok (.iload_n 3, 1) := by decide +kernel
theorem dX6_handOver_90 : decode cX6_handOver 90 = .ok (.ireturn, 1) := by decide +kernel
theorem dX6_addTransfer_0 : decode cX6_addTransfer 0 = .ok (.aload_n 0, 1) := by decide +kernel
theorem dX6_addTransfer_1 : decode cX6_addTransfer 1 = .ok (.getfield 12, 3) := by decide +kernel
theorem dX6_addTransfer_4 : decode cX6_addTransfer 4 = .ok (.iload_n 1, 1) := by decide +kernel
theorem dX6_addTransfer_5 : decode cX6_addTransfer 5 = .ok (.invokevirtual 114, 3) := by decide +kernel
theorem dX6_addTransfer_8 : decode cX6_addTransfer 8 = .ok (.ifCond .eq 19, 3) := by decide +kernel
theorem dX6_addTransfer_11 : decode cX6_addTransfer 11 = .ok (.aload_n 0, 1) := by decide +kernel
theorem dX6_addTransfer_12 : decode cX6_addTransfer 12 = .ok (.getfield 12, 3) := by decide +kernel
theorem dX6_addTransfer_15 : decode cX6_addTransfer 15 = .ok (.iload_n 2, 1) := by decide +kernel
theorem dX6_addTransfer_16 : decode cX6_addTransfer 16 = .ok (.invokevirtual 114, 3) := by decide +kernel
theorem dX6_addTransfer_19 : decode cX6_addTransfer 19 = .ok (.ifCond .eq 8, 3) := by decide +kernel
theorem dX6_addTransfer_22 : decode cX6_addTransfer 22 = .ok (.iload_n 1, 1) := by decide +kernel
theorem dX6_addTransfer_23 : decode cX6_addTransfer 23 = .ok (.iload_n 2, 1) := by decide +kernel
theorem dX6_addTransfer_24 : decode cX6_addTransfer 24 = .ok (.if_icmp .ne 5, 3) := by decide +kernel
theorem dX6_addTransfer_27 : decode cX6_addTransfer 27 = .ok (.iconst (-1), 1) := by decide +kernel
theorem dX6_addTransfer_28 : decode cX6_addTransfer 28 = .ok (.ireturn, 1) := by decide +kernel
theorem dX6_addTransfer_29 : decode cX6_addTransfer 29 = .ok (.iload_n 3, 1) := by decide +kernel
theorem dX6_addTransfer_30 : decode cX6_addTransfer 30 = .ok (.iload 4, 2) := by decide +kernel
theorem dX6_addTransfer_32 : decode cX6_addTransfer 32 = .ok (.invokestatic 205, 3) := by decide +kernel
theorem dX6_addTransfer_35 : decode cX6_addTransfer 35 = .ok (.ifCond .eq 11, 3) := by decide +kernel
theorem dX6_addTransfer_38 : decode cX6_addTransfer 38 = .ok (.iload 5, 2) := by decide +kernel
theorem dX6_addTransfer_40 : decode cX6_addTransfer 40 = .ok (.invokestatic 274, 3) := by decide +kernel
theorem dX6_addTransfer_43 : decode cX6_addTransfer 43 = .ok (.ifCond .ne 6, 3) := by decide +kernel
theorem dX6_addTransfer_46 : decode cX6_addTransfer 46 = .ok (.bipush (-2), 2) := by decide +kernel
theorem dX6_addTransfer_48 : decode cX6_addTransfer 48 = .ok (.ireturn, 1) := by decide +kernel
theorem dX6_addTransfer_49 : decode cX6_addTransfer 49 = .ok (.aload_n 0, 1) := by decide +kernel
theorem dX6_addTransfer_50 : decode cX6_addTransfer 50 = .ok (.getfield 12, 3) := by decide +kernel
theorem dX6_addTransfer_53 : decode cX6_addTransfer 53 = .ok (.getfield 144, 3) := by decide +kernel
theorem dX6_addTransfer_56 : decode cX6_addTransfer 56 = .ok (.getfield 175, 3) := by decide +kernel
theorem dX6_addTransfer_59 : decode cX6_addTransfer 59 = .ok (.bipush 8, 2) := by decide +kernel
theorem dX6_addTransfer_61 : decode cX6_addTransfer 61 = .ok (.if_icmp .lt 6, 3) := by decide +kernel
theorem dX6_addTransfer_64 : decode cX6_addTransfer 64 = .ok (.bipush (-4), 2) := by decide +kernel
theorem dX6_addTransfer_66 : decode cX6_addTransfer 66 = .ok (.ireturn, 1) := by decide +kernel
theorem dX6_addTransfer_67 : decode cX6_addTransfer 67 = .ok (.aload_n 0, 1) := by decide +kernel
theorem dX6_addTransfer_68 : decode cX6_addTransfer 68 = .ok (.getfield 12, 3) := by decide +kernel
theorem dX6_addTransfer_71 : decode cX6_addTransfer 71 = .ok (.getfield 144, 3) := by decide +kernel
theorem dX6_addTransfer_74 : decode cX6_addTransfer 74 = .ok (.iload_n 1, 1) := by decide +kernel
theorem dX6_addTransfer_75 : decode cX6_addTransfer 75 = .ok (.iload_n 2, 1) := by decide +kernel
theorem dX6_addTransfer_76 : decode cX6_addTransfer 76 = .ok (.iload_n 3, 1) := by decide +kernel
theorem dX6_addTransfer_77 : decode cX6_addTransfer 77 = .ok (.iload 4, 2) := by decide +kernel
theorem dX6_addTransfer_79 : decode cX6_addTransfer 79 = .ok (.iload 5, 2) := by decide +kernel
theorem dX6_addTransfer_81 : decode cX6_addTransfer 81 = .ok (.invokevirtual 294, 3) := by decide +kernel
theorem dX6_addTransfer_84 : decode cX6_addTransfer 84 = .ok (.aload_n 0, 1) := by decide +kernel
theorem dX6_addTransfer_85 : decode cX6_addTransfer 85 = .ok (.getfield 12, 3) := by decide +kernel
theorem dX6_addTransfer_88 : decode cX6_addTransfer 88 = .ok (.getfield 144, 3) := by decide +kernel
theorem dX6_addTransfer_91 : decode cX6_addTransfer 91 = .ok (.getfield 175, 3) := by decide +kernel
theorem dX6_addTransfer_94 : decode cX6_addTransfer 94 = .ok (.ireturn, 1) := by decide +kernel
theorem dX6_dropTransfer_0 : decode cX6_dropTransfer 0 = .ok (.aload_n 0, 1) := by decide +kernel
theorem dX6_dropTransfer_1 : decode cX6_dropTransfer 1 = .ok (.getfield 12, 3) := by decide +kernel
theorem dX6_dropTransfer_4 : decode cX6_dropTransfer 4 = .ok (.getfield 144, 3) := by decide +kernel
theorem dX6_dropTransfer_7 : decode cX6_dropTransfer 7 = .ok (.getfield 175, 3) := by decide +kernel
theorem dX6_dropTransfer_10 : decode cX6_dropTransfer 10 = .ok (.ifCond .ne 6, 3) := by decide +kernel
theorem dX6_dropTransfer_13 : decode cX6_dropTransfer 13 = .ok (.bipush (-5), 2) := by decide +kernel
theorem dX6_dropTransfer_15 : decode cX6_dropTransfer 15 = .ok (.ireturn, 1) := by decide +kernel
theorem dX6_dropTransfer_16 : decode cX6_dropTransfer 16 = .ok (.aload_n 0, 1) := by decide +kernel
theorem dX6_dropTransfer_17 : decode cX6_dropTransfer 17 = .ok (.getfield 12, 3) := by decide +kernel
theorem dX6_dropTransfer_20 : decode cX6_dropTransfer 20 = .ok (.getfield 144, 3) := by decide +kernel
theorem dX6_dropTransfer_23 : decode cX6_dropTransfer 23 = .ok (.dup, 1) := by decide +kernel
theorem dX6_dropTransfer_24 : decode cX6_dropTransfer 24 = .ok (.getfield 175, 3) := by decide +kernel
theorem dX6_dropTransfer_27 : decode cX6_dropTransfer 27 = .ok (.iconst 1, 1) := by decide +kernel
theorem dX6_dropTransfer_28 : decode cX6_dropTransfer 28 = .ok (.isub, 1) := by decide +kernel
theorem dX6_dropTransfer_29 : decode cX6_dropTransfer 29 = .ok (.putfield 175, 3) := by decide +kernel
theorem dX6_dropTransfer_32 : decode cX6_dropTransfer 32 = .ok (.aload_n 0, 1) := by decide +kernel
theorem dX6_dropTransfer_33 : decode cX6_dropTransfer 33 = .ok (.getfield 12, 3) := by decide +kernel
theorem dX6_dropTransfer_36 : decode cX6_dropTransfer 36 = .ok (.getfield 144, 3) := by decide +kernel
theorem dX6_dropTransfer_39 : decode cX6_dropTransfer 39 = .ok (.getfield 175, 3) := by decide +kernel
theorem dX6_dropTransfer_42 : decode cX6_dropTransfer 42 = .ok (.ireturn, 1) := by decide +kernel
theorem dX6_closeDeal_0 : decode cX6_closeDeal 0 = .ok (.aload_n 0, 1) := by decide +kernel
theorem dX6_closeDeal_1 : decode cX6_closeDeal 1 = .ok (.getfield 12, 3) := by decide +kernel
theorem dX6_closeDeal_4 : decode cX6_closeDeal 4 = .ok (.getfield 144, 3) := by decide +kernel
theorem dX6_closeDeal_7 : decode cX6_closeDeal 7 = .ok (.getfield 175, 3) := by decide +kernel
theorem dX6_closeDeal_10 : decode cX6_closeDeal 10 = .ok (.istore_n 1, 1) := by decide +kernel
theorem dX6_closeDeal_11 : decode cX6_closeDeal 11 = .ok (.iload_n 1, 1) := by decide +kernel
theorem dX6_closeDeal_12 : decode cX6_closeDeal 12 = .ok (.ifCond .eq 12, 3) := by decide +kernel
theorem dX6_closeDeal_15 : decode cX6_closeDeal 15 = .ok (.aload_n 0, 1) := by decide +kernel
theorem dX6_closeDeal_16 : decode cX6_closeDeal 16 = .ok (.invokevirtual 86, 3) := by decide +kernel
theorem dX6_closeDeal_19 : decode cX6_closeDeal 19 = .ok (.bipush (-6), 2) := by decide +kernel
theorem dX6_closeDeal_21 : decode cX6_closeDeal 21 = .ok (.if_icmp .eq 6, 3) := by decide +kernel
theorem dX6_closeDeal_24 : decode cX6_closeDeal 24 = .ok (.bipush (-5), 2) := by decide +kernel
theorem dX6_closeDeal_26 : decode cX6_closeDeal 26 = .ok (.ireturn, 1) := by decide +kernel
theorem dX6_closeDeal_27 : decode cX6_closeDeal 27 = .ok (.aload_n 0, 1) := by decide +kernel
theorem dX6_closeDeal_28 : decode cX6_closeDeal 28 = .ok (.getfield 12, 3) := by decide +kernel
theorem dX6_closeDeal_31 : decode cX6_closeDeal 31 = .ok (.aload_n 0, 1) := by decide +kernel
theorem dX6_closeDeal_32 : decode cX6_closeDeal 32 = .ok (.getfield 16, 3) := by decide +kernel
theorem dX6_closeDeal_35 : decode cX6_closeDeal 35 = .ok (.invokevirtual 256, 3) := by decide +kernel
theorem dX6_closeDeal_38 : decode cX6_closeDeal 38 = .ok (.aload_n 0, 1) := by decide +kernel
theorem dX6_closeDeal_39 : decode cX6_closeDeal 39 = .ok (.getfield 12, 3) := by decide +kernel
theorem dX6_closeDeal_42 : decode cX6_closeDeal 42 = .ok (.getfield 144, 3) := by decide +kernel
theorem dX6_closeDeal_45 : decode cX6_closeDeal 45 = .ok (.iconst 0, 1) := by decide +kernel
theorem dX6_closeDeal_46 : decode cX6_closeDeal 46 = .ok (.putfield 175, 3) := by decide +kernel
theorem dX6_closeDeal_49 : decode cX6_closeDeal 49 = .ok (.aload_n 0, 1) := by decide +kernel
theorem dX6_closeDeal_50 : decode cX6_closeDeal 50 = .ok (.getfield 12, 3) := by decide +kernel
theorem dX6_closeDeal_53 : decode cX6_closeDeal 53 = .ok (.dup, 1) := by decide +kernel
theorem dX6_closeDeal_54 : decode cX6_closeDeal 54 = .ok (.getfield 176, 3) := by decide +kernel
theorem dX6_closeDeal_57 : decode cX6_closeDeal 57 = .ok (.iconst 1, 1) := by decide +kernel
theorem dX6_closeDeal_58 : decode cX6_closeDeal 58 = .ok (.iadd, 1) := by decide +kernel
theorem dX6_closeDeal_59 : decode cX6_closeDeal 59 = .ok (.putfield 176, 3) := by decide +kernel
theorem dX6_closeDeal_62 : decode cX6_closeDeal 62 = .ok (.iload_n 1, 1) := by decide +kernel
theorem dX6_closeDeal_63 : decode cX6_closeDeal 63 = .ok (.ireturn, 1) := by decide +kernel
theorem dX6_rehearse_0 : decode cX6_rehearse 0 = .ok (.aload_n 0, 1) := by decide +kernel
theorem dX6_rehearse_1 : decode cX6_rehearse 1 = .ok (.getfield 16, 3) := by decide +kernel
theorem dX6_rehearse_4 : decode cX6_rehearse 4 = .ok (.aload_n 0, 1) := by decide +kernel
theorem dX6_rehearse_5 : decode cX6_rehearse 5 = .ok (.getfield 12, 3) := by decide +kernel
theorem dX6_rehearse_8 : decode cX6_rehearse 8 = .ok (.invokevirtual 256, 3) := by decide +kernel
theorem dX6_rehearse_11 : decode cX6_rehearse 11 = .ok (.iconst 0, 1) := by decide +kernel
theorem dX6_rehearse_12 : decode cX6_rehearse 12 = .ok (.istore_n 1, 1) := by decide +kernel
theorem dX6_rehearse_13 : decode cX6_rehearse 13 = .ok (.iload_n 1, 1) := by decide +kernel
theorem dX6_rehearse_14 : decode cX6_rehearse 14 = .ok (.aload_n 0, 1) := by decide +kernel
theorem dX6_rehearse_15 : decode cX6_rehearse 15 = .ok (.getfield 16, 3) := by decide +kernel
theorem dX6_rehearse_18 : decode cX6_rehearse 18 = .ok (.getfield 144, 3) := by decide +kernel
theorem dX6_rehearse_21 : decode cX6_rehearse 21 = .ok (.getfield 175, 3) := by decide +kernel
theorem dX6_rehearse_24 : decode cX6_rehearse 24 = .ok (.if_icmp .ge 26, 3) := by decide +kernel
theorem dX6_rehearse_27 : decode cX6_rehearse 27 = .ok (.aload_n 0, 1) := by decide +kernel
theorem dX6_rehearse_28 : decode cX6_rehearse 28 = .ok (.getfield 16, 3) := by decide +kernel
theorem dX6_rehearse_31 : decode cX6_rehearse 31 = .ok (.iload_n 1, 1) := by decide +kernel
theorem dX6_rehearse_32 : decode cX6_rehearse 32 = .ok (.aload_n 0, 1) := by decide +kernel
theorem dX6_rehearse_33 : decode cX6_rehearse 33 = .ok (.getfield 22, 3) := by decide +kernel
theorem dX6_rehearse_36 : decode cX6_rehearse 36 = .ok (.invokevirtual 297, 3) := by decide +kernel
theorem dX6_rehearse_39 : decode cX6_rehearse 39 = .ok (.ifCond .ne 5, 3) := by decide +kernel
theorem dX6_rehearse_42 : decode cX6_rehearse 42 = .ok (.iload_n 1, 1) := by decide +kernel
theorem dX6_rehearse_43 : decode cX6_rehearse 43 = .ok (.ireturn, 1) := by decide +kernel
theorem dX6_rehearse_44 : decode cX6_rehearse 44 = .ok (.iinc 1 1, 3) := by decide +kernel
theorem dX6_rehearse_47 : decode cX6_rehearse 47 = .ok (.goto (-34), 3) := by decide +kernel
theorem dX6_rehearse_50 : decode cX6_rehearse 50 = .ok (.bipush (-6), 2) := by decide +kernel
theorem dX6_rehearse_52 : decode cX6_rehearse 52 = .ok (.ireturn, 1) := by decide +kernel
theorem dX6_passDays_0 : decode cX6_passDays 0 = .ok (.iload_n 1, 1) := by decide +kernel
theorem dX6_passDays_1 : decode cX6_passDays 1 = .ok (.iconst 1, 1) := by decide +kernel
theorem dX6_passDays_2 : decode cX6_passDays 2 = .ok (.if_icmp .lt 9, 3) := by decide +kernel
theorem dX6_passDays_5 : decode cX6_passDays 5 = .ok (.iload_n 1, 1) := by decide +kernel
theorem dX6_passDays_6 : decode cX6_passDays 6 = .ok (.bipush 60, 2) := by decide +kernel
theorem dX6_passDays_8 : decode cX6_passDays 8 = .ok (.if_icmp .le 6, 3) := by decide +kernel
theorem dX6_passDays_11 : decode cX6_passDays 11 = .ok (.bipush (-2), 2) := by decide +kernel
theorem dX6_passDays_13 : decode cX6_passDays 13 = .ok (.ireturn, 1) := by decide +kernel
theorem dX6_passDays_14 : decode cX6_passDays 14 = .ok (.iconst 0, 1) := by decide +kernel
theorem dX6_passDays_15 : decode cX6_passDays 15 = .ok (.istore_n 2, 1) := by decide +kernel
theorem dX6_passDays_16 : decode cX6_passDays 16 = .ok (.iload_n 2, 1) := by decide +kernel
theorem dX6_passDays_17 : decode cX6_passDays 17 = .ok (.iload_n 1, 1) := by decide +kernel
theorem dX6_passDays_18 : decode cX6_passDays 18 = .ok (.if_icmp .ge 16, 3) := by decide +kernel
theorem dX6_passDays_21 : decode cX6_passDays 21 = .ok (.aload_n 0, 1) := by decide +kernel
theorem dX6_passDays_22 : decode cX6_passDays 22 = .ok (.getfield 12, 3) := by decide +kernel
theorem dX6_passDays_25 : decode cX6_passDays 25 = .ok (.invokevirtual 301, 3) := by decide +kernel
theorem dX6_passDays_28 : decode cX6_passDays 28 = .ok (.iinc 2 1, 3) := by decide +kernel
theorem dX6_passDays_31 : decode cX6_passDays 31 = .ok (.goto (-15), 3) := by decide +kernel
theorem dX6_passDays_34 : decode cX6_passDays 34 = .ok (.aload_n 0, 1) := by decide +kernel
theorem dX6_passDays_35 : decode cX6_passDays 35 = .ok (.getfield 12, 3) := by decide +kernel
theorem dX6_passDays_38 : decode cX6_passDays 38 = .ok (.getfield 156, 3) := by decide +kernel
theorem dX6_passDays_41 : decode cX6_passDays 41 = .ok (.ireturn, 1) := by decide +kernel
theorem dX6_copyBack_0 : decode cX6_copyBack 0 = .ok (.iload_n 1, 1) := by decide +kernel
theorem dX6_copyBack_1 : decode cX6_copyBack 1 = .ok (.invokestatic 253, 3) := by decide +kernel
theorem dX6_copyBack_4 : decode cX6_copyBack 4 = .ok (.ifCond .ne 6, 3) := by decide +kernel
theorem dX6_copyBack_7 : decode cX6_copyBack 7 = .ok (.bipush (-2), 2) := by decide +kernel
theorem dX6_copyBack_9 : decode cX6_copyBack 9 = .ok (.ireturn, 1) := by decide +kernel
theorem dX6_copyBack_10 : decode cX6_copyBack 10 = .ok (.aload_n 0, 1) := by decide +kernel
theorem dX6_copyBack_11 : decode cX6_copyBack 11 = .ok (.getfield 33, 3) := by decide +kernel
theorem dX6_copyBack_14 : decode cX6_copyBack 14 = .ok (.iload_n 1, 1) := by decide +kernel
theorem dX6_copyBack_15 : decode cX6_copyBack 15 = .ok (.aaload, 1) := by decide +kernel
theorem dX6_copyBack_16 : decode cX6_copyBack 16 = .ok (.astore_n 2, 1) := by decide +kernel
theorem dX6_copyBack_17 : decode cX6_copyBack 17 = .ok (.aload_n 2, 1) := by decide +kernel
theorem dX6_copyBack_18 : decode cX6_copyBack 18 = .ok (.ifnonnull 6, 3) := by decide +kernel
theorem dX6_copyBack_21 : decode cX6_copyBack 21 = .ok (.bipush (-5), 2) := by decide +kernel
theorem dX6_copyBack_23 : decode cX6_copyBack 23 = .ok (.ireturn, 1) := by decide +kernel
theorem dX6_copyBack_24 : decode cX6_copyBack 24 = .ok (.aload_n 0, 1) := by decide +kernel
theorem dX6_copyBack_25 : decode cX6_copyBack 25 = .ok (.getfield 12, 3) := by decide +kernel
theorem dX6_copyBack_28 : decode cX6_copyBack 28 = .ok (.aload_n 2, 1) := by decide +kernel
theorem dX6_copyBack_29 : decode cX6_copyBack 29 = .ok (.invokevirtual 256, 3) := by decide +kernel
theorem dX6_copyBack_32 : decode cX6_copyBack 32 = .ok (.aload_n 0, 1) := by decide +kernel
theorem dX6_copyBack_33 : decode cX6_copyBack 33 = .ok (.getfield 12, 3) := by decide +kernel
theorem dX6_copyBack_36 : decode cX6_copyBack 36 = .ok (.getfield 156, 3) := by decide +kernel
theorem dX6_copyBack_39 : decode cX6_copyBack 39 = .ok (.ireturn, 1) := by decide +kernel
theorem dX6_carryEntry_0 : decode cX6_carryEntry 0 = .ok (.aload_n 0, 1) := by decide +kernel
theorem dX6_carryEntry_1 : decode cX6_carryEntry 1 = .ok (.getfield 40, 3) := by decide +kernel
theorem dX6_carryEntry_4 : decode cX6_carryEntry 4 = .ok (.getfield 304, 3) := by decide +kernel
theorem dX6_carryEntry_7 : decode cX6_carryEntry 7 = .ok (.lookupswitch 144 #[(43, 49), (45, 75), (100, 132), (103, 94), (112, 113)], 49) := by decide +kernel
theorem dX6_carryEntry_56 : decode cX6_carryEntry 56 = .ok (.aload_n 0, 1) := by decide +kernel
theorem dX6_carryEntry_57 : decode cX6_carryEntry 57 = .ok (.aload_n 0, 1) := by decide +kernel
theorem dX6_carryEntry_58 : decode cX6_carryEntry 58 = .ok (.getfield 40, 3) := by decide +kernel
theorem dX6_carryEntry_61 : decode cX6_carryEntry 61 = .ok (.getfield 307, 3) := by decide +kernel
theorem dX6_carryEntry_64 : decode cX6_carryEntry 64 = .ok (.aload_n 0, 1) := by decide +kernel
theorem dX6_carryEntry_65 : decode cX6_carryEntry 65 = .ok (.getfield 40, 3) := by decide +kernel
theorem dX6_carryEntry_68 : decode cX6_carryEntry 68 = .ok (.getfield 310, 3) := by decide +kernel
theorem dX6_carryEntry_71 : decode cX6_carryEntry 71 = .ok (.aload_n 0, 1) := by decide +kernel
theorem dX6_carryEntry_72 : decode cX6_carryEntry 72 = .ok (.getfield 40, 3) := by decide +kernel
theorem dX6_carryEntry_75 : decode cX6_carryEntry 75 = .ok (.getfield 313, 3) := by decide +kernel
theorem dX6_carryEntry_78 : decode cX6_carryEntry 78 = .ok (.invokevirtual 62, 3) := by decide +kernel
theorem dX6_carryEntry_81 : decode cX6_carryEntry 81 = .ok (.ireturn, 1) := by decide +kernel
theorem dX6_carryEntry_82 : decode cX6_carryEntry 82 = .ok (.aload_n 0, 1) := by decide +kernel
theorem dX6_carryEntry_83 : decode cX6_carryEntry 83 = .ok (.aload_n 0, 1) := by decide +kernel
theorem dX6_carryEntry_84 : decode cX6_carryEntry 84 = .ok (.getfield 40, 3) := by decide +kernel
theorem dX6_carryEntry_87 : decode cX6_carryEntry 87 = .ok (.getfield 310, 3) := by decide +kernel
theorem dX6_carryEntry_90 : decode cX6_carryEntry 90 = .ok (.aload_n 0, 1) := by decide +kernel
theorem dX6_carryEntry_91 : decode cX6_carryEntry 91 = .ok (.getfield 40, 3) := by decide +kernel
theorem dX6_carryEntry_94 : decode cX6_carryEntry 94 = .ok (.getfield 313, 3) := by decide +kernel
theorem dX6_carryEntry_97 : decode cX6_carryEntry 97 = .ok (.invokevirtual 66, 3) := by decide +kernel
theorem dX6_carryEntry_100 : decode cX6_carryEntry 100 = .ok (.ireturn, 1) := by decide +kernel
theorem dX6_carryEntry_101 : decode cX6_carryEntry 101 = .ok (.aload_n 0, 1) := by decide +kernel
theorem dX6_carryEntry_102 : decode cX6_carryEntry 102 = .ok (.aload_n 0, 1) := by decide +kernel
theorem dX6_carryEntry_103 : decode cX6_carryEntry 103 = .ok (.getfield 40, 3) := by decide +kernel
theorem dX6_carryEntry_106 : decode cX6_carryEntry 106 = .ok (.getfield 307, 3) := by decide +kernel
theorem dX6_carryEntry_109 : decode cX6_carryEntry 109 = .ok (.aload_n 0, 1) := by decide +kernel
theorem dX6_carryEntry_110 : decode cX6_carryEntry 110 = .ok (.getfield 40, 3) := by decide +kernel
theorem dX6_carryEntry_113 : decode cX6_carryEntry 113 = .ok (.getfield 310, 3) := by decide +kernel
theorem dX6_carryEntry_116 : decode cX6_carryEntry 116 = .ok (.invokevirtual 69, 3) := by decide +kernel
theorem dX6_carryEntry_119 : decode cX6_carryEntry 119 = .ok (.ireturn, 1) := by decide +kernel
theorem dX6_carryEntry_120 : decode cX6_carryEntry 120 = .ok (.aload_n 0, 1) := by decide +kernel
theorem dX6_carryEntry_121 : decode cX6_carryEntry 121 = .ok (.aload_n 0, 1) := by decide +kernel
theorem dX6_carryEntry_122 : decode cX6_carryEntry 122 = .ok (.getfield 40, 3) := by decide +kernel
theorem dX6_carryEntry_125 : decode cX6_carryEntry 125 = .ok (.getfield 307, 3) := by decide +kernel
theorem dX6_carryEntry_128 : decode cX6_carryEntry 128 = .ok (.aload_n 0, 1) := by decide +kernel
theorem dX6_carryEntry_129 : decode cX6_carryEntry 129 = .ok (.getfield 40, 3) := by decide +kernel
theorem dX6_carryEntry_132 : decode cX6_carryEntry 132 = .ok (.getfield 310, 3) := by decide +kernel
theorem dX6_carryEntry_135 : decode cX6_carryEntry 135 = .ok (.invokevirtual 59, 3) := by decide +kernel
theorem dX6_carryEntry_138 : decode cX6_carryEntry 138 = .ok (.ireturn, 1) := by decide +kernel
theorem dX6_carryEntry_139 : decode cX6_carryEntry 139 = .ok (.aload_n 0, 1) := by decide +kernel
theorem dX6_carryEntry_140 : decode cX6_carryEntry 140 = .ok (.aload_n 0, 1) := by decide +kernel
theorem dX6_carryEntry_141 : decode cX6_carryEntry 141 = .ok (.getfield 40, 3) := by decide +kernel
theorem dX6_carryEntry_144 : decode cX6_carryEntry 144 = .ok (.getfield 310, 3) := by decide +kernel
theorem dX6_carryEntry_147 : decode cX6_carryEntry 147 = .ok (.invokevirtual 89, 3) := by decide +kernel
theorem dX6_carryEntry_150 : decode cX6_carryEntry 150 = .ok (.ireturn, 1) := by decide +kernel
theorem dX6_carryEntry_151 : decode cX6_carryEntry 151 = .ok (.bipush (-3), 2) := by decide +kernel
theorem dX6_carryEntry_153 : decode cX6_carryEntry 153 = .ok (.ireturn, 1) := by decide +kernel
theorem dX6_bitsOfQuotient_0 : decode cX6_bitsOfQuotient 0 = .ok (.iload_n 0, 1) := by decide +kernel
theorem dX6_bitsOfQuotient_1 : decode cX6_bitsOfQuotient 1 = .ok (.ifCond .le 12, 3) := by decide +kernel
theorem dX6_bitsOfQuotient_4 : decode cX6_bitsOfQuotient 4 = .ok (.iload_n 1, 1) := by decide +kernel
theorem dX6_bitsOfQuotient_5 : decode cX6_bitsOfQuotient 5 = .ok (.ifCond .le 8, 3) := by decide +kernel
theorem dX6_bitsOfQuotient_8 : decode cX6_bitsOfQuotient 8 = .ok (.iload_n 0, 1) := by decide +kernel
theorem dX6_bitsOfQuotient_9 : decode cX6_bitsOfQuotient 9 = .ok (.iload_n 1, 1) := by decide +kernel
theorem dX6_bitsOfQuotient_10 : decode cX6_bitsOfQuotient 10 = .ok (.if_icmp .le 5, 3) := by decide +kernel
theorem dX6_bitsOfQuotient_13 : decode cX6_bitsOfQuotient 13 = .ok (.iconst 0, 1) := by decide +kernel
theorem dX6_bitsOfQuotient_14 : decode cX6_bitsOfQuotient 14 = .ok (.ireturn, 1) := by decide +kernel
theorem dX6_bitsOfQuotient_15 : decode cX6_bitsOfQuotient 15 = .ok (.iload_n 0, 1) := by decide +kernel
theorem dX6_bitsOfQuotient_16 : decode cX6_bitsOfQuotient 16 = .ok (.i2l, 1) := by decide +kernel
theorem dX6_bitsOfQuotient_17 : decode cX6_bitsOfQuotient 17 = .ok (.lstore_n 2, 1) := by decide +kernel
theorem dX6_bitsOfQuotient_18 : decode cX6_bitsOfQuotient 18 = .ok (.bipush 127, 2) := by decide +kernel
theorem dX6_bitsOfQuotient_20 : decode cX6_bitsOfQuotient 20 = .ok (.istore 4, 2) := by decide +kernel
theorem dX6_bitsOfQuotient_22 : decode cX6_bitsOfQuotient 22 = .ok (.lload_n 2, 1) := by decide +kernel
theorem dX6_bitsOfQuotient_23 : decode cX6_bitsOfQuotient 23 = .ok (.iload_n 1, 1) := by decide +kernel
theorem dX6_bitsOfQuotient_24 : decode cX6_bitsOfQuotient 24 = .ok (.i2l, 1) := by decide +kernel
theorem dX6_bitsOfQuotient_25 : decode cX6_bitsOfQuotient 25 = .ok (.lcmp, 1) := by decide +kernel
theorem dX6_bitsOfQuotient_26 : decode cX6_bitsOfQuotient 26 = .ok (.ifCond .ge 20, 3) := by decide +kernel
theorem dX6_bitsOfQuotient_29 : decode cX6_bitsOfQuotient 29 = .ok (.iload 4, 2) := by decide +kernel
theorem dX6_bitsOfQuotient_31 : decode cX6_bitsOfQuotient 31 = .ok (.ifCond .le 15, 3) := by decide +kernel
theorem dX6_bitsOfQuotient_34 : decode cX6_bitsOfQuotient 34 = .ok (.lload_n 2, 1) := by decide +kernel
theorem dX6_bitsOfQuotient_35 : decode cX6_bitsOfQuotient 35 = .ok (.ldc2_w 316, 3) := by decide +kernel
theorem dX6_bitsOfQuotient_38 : decode cX6_bitsOfQuotient 38 = .ok (.lmul, 1) := by decide +kernel
theorem dX6_bitsOfQuotient_39 : decode cX6_bitsOfQuotient 39 = .ok (.lstore_n 2, 1) := by decide +kernel
theorem dX6_bitsOfQuotient_40 : decode cX6_bitsOfQuotient 40 = .ok (.iinc 4 (-1), 3) := by decide +kernel
theorem dX6_bitsOfQuotient_43 : decode cX6_bitsOfQuotient 43 = .ok (.goto (-21), 3) := by decide +kernel
theorem dX6_bitsOfQuotient_46 : decode cX6_bitsOfQuotient 46 = .ok (.lload_n 2, 1) := by decide +kernel
theorem dX6_bitsOfQuotient_47 : decode cX6_bitsOfQuotient 47 = .ok (.bipush 23, 2) := by decide +kernel
theorem dX6_bitsOfQuotient_49 : decode cX6_bitsOfQuotient 49 = .ok (.lshl, 1) := by decide +kernel
theorem dX6_bitsOfQuotient_50 : decode cX6_bitsOfQuotient 50 = .ok (.lstore_n 2, 1) := by decide +kernel
theorem dX6_bitsOfQuotient_51 : decode cX6_bitsOfQuotient 51 = .ok (.ldc2_w 316, 3) := by decide +kernel
theorem dX6_bitsOfQuotient_54 : decode cX6_bitsOfQuotient 54 = .ok (.lload_n 2, 1) := by decide +kernel
theorem dX6_bitsOfQuotient_55 : decode cX6_bitsOfQuotient 55 = .ok (.lmul, 1) := by decide +kernel
theorem dX6_bitsOfQuotient_56 : decode cX6_bitsOfQuotient 56 = .ok (.iload_n 1, 1) := by decide +kernel
theorem dX6_bitsOfQuotient_57 : decode cX6_bitsOfQuotient 57 = .ok (.i2l, 1) := by decide +kernel
theorem dX6_bitsOfQuotient_58 : decode cX6_bitsOfQuotient 58 = .ok (.ladd, 1) := by decide +kernel
theorem dX6_bitsOfQuotient_59 : decode cX6_bitsOfQuotient 59 = .ok (.ldc2_w 316, 3) := by decide +kernel
theorem dX6_bitsOfQuotient_62 : decode cX6_bitsOfQuotient 62 = .ok (.iload_n 1, 1) := by decide +kernel
theorem dX6_bitsOfQuotient_63 : decode cX6_bitsOfQuotient 63 = .ok (.i2l, 1) := by decide +kernel
theorem dX6_bitsOfQuotient_64 : decode cX6_bitsOfQuotient 64 = .ok (.lmul, 1) := by decide +kernel
theorem dX6_bitsOfQuotient_65 : decode cX6_bitsOfQuotient 65 = .ok (.ldiv, 1) := by decide +kernel
theorem dX6_bitsOfQuotient_66 : decode cX6_bitsOfQuotient 66 = .ok (.lstore 5, 2) := by decide +kernel
theorem dX6_bitsOfQuotient_68 : decode cX6_bitsOfQuotient 68 = .ok (.iload 4, 2) := by decide +kernel
theorem dX6_bitsOfQuotient_70 : decode cX6_bitsOfQuotient 70 = .ok (.iconst 1, 1) := by decide +kernel
theorem dX6_bitsOfQuotient_71 : decode cX6_bitsOfQuotient 71 = .ok (.isub, 1) := by decide +kernel
theorem dX6_bitsOfQuotient_72 : decode cX6_bitsOfQuotient 72 = .ok (.bipush 23, 2) := by decide +kernel
theorem dX6_bitsOfQuotient_74 : decode cX6_bitsOfQuotient 74 = .ok (.ishl, 1) := by decide +kernel
theorem dX6_bitsOfQuotient_75 : decode cX6_bitsOfQuotient 75 = .ok (.lload 5, 2) := by decide +kernel
theorem dX6_bitsOfQuotient_77 : decode cX6_bitsOfQuotient 77 = .ok (.l2i, 1) := by decide +kernel
theorem dX6_bitsOfQuotient_78 : decode cX6_bitsOfQuotient 78 = .ok (.iadd, 1) := by decide +kernel
theorem dX6_bitsOfQuotient_79 : decode cX6_bitsOfQuotient 79 = .ok (.ireturn, 1) := by decide +kernel
theorem dX7_init_0 : decode cX7_init 0 = .ok (.aload_n 0, 1) := by decide +kernel
theorem dX7_init_1 : decode cX7_init 1 = .ok (.invokespecial 1, 3) := by decide +kernel
theorem dX7_init_4 : decode cX7_init 4 = .ok (.aload_n 0, 1) := by decide +kernel
theorem dX7_init_5 : decode cX7_init 5 = .ok (.sipush 400, 3) := by decide +kernel
theorem dX7_init_8 : decode cX7_init 8 = .ok (.newarray .int, 2) := by decide +kernel
theorem dX7_init_10 : decode cX7_init 10 = .ok (.putfield 7, 3) := by decide +kernel
theorem dX7_init_13 : decode cX7_init 13 = .ok (.aload_n 0, 1) := by decide +kernel
theorem dX7_init_14 : decode cX7_init 14 = .ok (.bipush 10, 2) := by decide +kernel
theorem dX7_init_16 : decode cX7_init 16 = .ok (.newarray .long, 2) := by decide +kernel
theorem dX7_init_18 : decode cX7_init 18 = .ok (.putfield 13, 3) := by decide +kernel
theorem dX7_init_21 : decode cX7_init 21 = .ok (.aload_n 0, 1) := by decide +kernel
theorem dX7_init_22 : decode cX7_init 22 = .ok (.sipush 400, 3) := by decide +kernel
theorem dX7_init_25 : decode cX7_init 25 = .ok (.newarray .int, 2) := by decide +kernel
theorem dX7_init_27 : decode cX7_init 27 = .ok (.putfield 17, 3) := by decide +kernel
theorem dX7_init_30 : decode cX7_init 30 = .ok (.aload_n 0, 1) := by decide +kernel
theorem dX7_init_31 : decode cX7_init 31 = .ok (.bipush 10, 2) := by decide +kernel
theorem dX7_init_33 : decode cX7_init 33 = .ok (.newarray .long, 2) := by decide +kernel
theorem dX7_init_35 : decode cX7_init 35 = .ok (.putfield 20, 3) := by decide +kernel
theorem dX7_init_38 : decode cX7_init 38 = .ok (.aload_n 0, 1) := by decide +kernel
theorem dX7_init_39 : decode cX7_init 39 = .ok (.sipush 400, 3) := by decide +kernel
theorem dX7_init_42 : decode cX7_init 42 = .ok (.newarray .int, 2) := by decide +kernel
theorem dX7_init_44 : decode cX7_init 44 = .ok (.putfield 23, 3) := by decide +kernel
theorem dX7_init_47 : decode cX7_init 47 = .ok (.aload_n 0, 1) := by decide +kernel
theorem dX7_init_48 : decode cX7_init 48 = .ok (.sipush 2400, 3) := by decide +kernel
theorem dX7_init_51 : decode cX7_init 51 = .ok (.newarray .int, 2) := by decide +kernel
theorem dX7_init_53 : decode cX7_init 53 = .ok (.putfield 26, 3) := by decide +kernel
theorem dX7_init_56 : decode cX7_init 56 = .ok (.aload_n 0, 1) := by decide +kernel
theorem dX7_init_57 : decode cX7_init 57 = .ok (.bipush 60, 2) := by decide +kernel
theorem dX7_init_59 : decode cX7_init 59 = .ok (.newarray .long, 2) := by decide +kernel
theorem dX7_init_61 : decode cX7_init 61 = .ok (.putfield 29, 3) := by decide +kernel
theorem dX7_init_64 : decode cX7_init 64 = .ok (.aload_n 0, 1) := by decide +kernel
theorem dX7_init_65 : decode cX7_init 65 = .ok (.sipush 800, 3) := by decide +kernel
theorem dX7_init_68 : decode cX7_init 68 = .ok (.newarray .int, 2) := by decide +kernel
theorem dX7_init_70 : decode cX7_init 70 = .ok (.putfield 32, 3) := by decide +kernel
theorem dX7_init_73 : decode cX7_init 73 = .ok (.aload_n 0, 1) := by decide +kernel
theorem dX7_init_74 : decode cX7_init 74 = .ok (.bipush 20, 2) := by decide +kernel
theorem dX7_init_76 : decode cX7_init 76 = .ok (.newarray .long, 2) := by decide +kernel
theorem dX7_init_78 : decode cX7_init 78 = .ok (.putfield 35, 3) := by decide +kernel
theorem dX7_init_81 : decode cX7_init 81 = .ok (.aload_n 0, 1) := by decide +kernel
theorem dX7_init_82 : decode cX7_init 82 = .ok (.iconst 2, 1) := by decide +kernel
theorem dX7_init_83 : decode cX7_init 83 = .ok (.newarray .boolean, 2) := by decide +kernel
theorem dX7_init_85 : decode cX7_init 85 = .ok (.putfield 38, 3) := by decide +kernel
theorem dX7_init_88 : decode cX7_init 88 = .ok (.aload_n 0, 1) := by decide +kernel
theorem dX7_init_89 : decode cX7_init 89 = .ok (.bipush 80, 2) := by decide +kernel
theorem dX7_init_91 : decode cX7_init 91 = .ok (.newarray .int, 2) := by decide +kernel
theorem dX7_init_93 : decode cX7_init 93 = .ok (.putfield 42, 3) := by decide +kernel
theorem dX7_init_96 : decode cX7_init 96 = .ok (.aload_n 0, 1) := by decide +kernel
theorem dX7_init_97 : decode cX7_init 97 = .ok (.sipush 200, 3) := by decide +kernel
theorem dX7_init_100 : decode cX7_init 100 = .ok (.newarray .int, 2) := by decide +kernel
theorem dX7_init_102 : decode cX7_init 102 = .ok (.putfield 45, 3) := by decide +kernel
theorem dX7_init_105 : decode cX7_init 105 = .ok (.aload_n 0, 1) := by decide +kernel
theorem dX7_init_106 : decode cX7_init 106 = .ok (.sipush 200, 3) := by decide +kernel
theorem dX7_init_109 : decode cX7_init 109 = .ok (.newarray .int, 2) := by decide +kernel
theorem dX7_init_111 : decode cX7_init 111 = .ok (.putfield 48, 3) := by decide +kernel
theorem dX7_init_114 : decode cX7_init 114 = .ok (.aload_n 0, 1) := by decide +kernel
theorem dX7_init_115 : decode cX7_init 115 = .ok (.sipush 240, 3) := by decide +kernel
theorem dX7_init_118 : decode cX7_init 118 = .ok (.newarray .int, 2) := by decide +kernel
theorem dX7_init_120 : decode cX7_init 120 = .ok (.putfield 51, 3) := by decide +kernel
theorem dX7_init_123 : decode cX7_init 123 = .ok (.aload_n 0, 1) := by decide +kernel
theorem dX7_init_124 : decode cX7_init 124 = .ok (.getfield 7, 3) := by decide +kernel
theorem dX7_init_127 : decode cX7_init 127 = .ok (.iconst 0, 1) := by decide +kernel
theorem dX7_init_128 : decode cX7_init 128 = .ok (.bipush 10, 2) := by decide +kernel
theorem dX7_init_130 : decode cX7_init 130 = .ok (.iastore, 1) := by decide +kernel
theorem dX7_init_131 : decode cX7_init 131 = .ok (.aload_n 0, 1) := by decide +kernel
theorem dX7_init_132 : decode cX7_init 132 = .ok (.getfield 7, 3) := by decide +kernel
theorem dX7_init_135 : decode cX7_init 135 = .ok (.iconst 1, 1) := by decide +kernel
theorem dX7_init_136 : decode cX7_init 136 = .ok (.bipush 25, 2) := by decide +kernel
theorem dX7_init_138 : decode cX7_init 138 = .ok (.iastore, 1) := by decide +kernel
theorem dX7_init_139 : decode cX7_init 139 = .ok (.aload_n 0, 1) := by decide +kernel
theorem dX7_init_140 : decode cX7_init 140 = .ok (.getfield 7, 3) := by decide +kernel
theorem dX7_init_143 : decode cX7_init 143 = .ok (.iconst 2, 1) := by decide +kernel
theorem dX7_init_144 : decode cX7_init 144 = .ok (.iconst 5, 1) := by decide +kernel
theorem dX7_init_145 : decode cX7_init 145 = .ok (.iastore, 1) := by decide +kernel
theorem dX7_init_146 : decode cX7_init 146 = .ok (.aload_n 0, 1) := by decide +kernel
theorem dX7_init_147 : decode cX7_init 147 = .ok (.getfield 7, 3) := by decide +kernel
theorem dX7_init_150 : decode cX7_init 150 = .ok (.iconst 3, 1) := by decide +kernel
theorem dX7_init_151 : decode cX7_init 151 = .ok (.iconst 1, 1) := by decide +kernel
theorem dX7_init_152 : decode cX7_init 152 = .ok (.iastore, 1) := by decide +kernel
theorem dX7_init_153 : decode cX7_init 153 = .ok (.aload_n 0, 1) := by decide +kernel
theorem dX7_init_154 : decode cX7_init 154 = .ok (.getfield 7, 3) := by decide +kernel
theorem dX7_init_157 : decode cX7_init 157 = .ok (.iconst 4, 1) := by decide +kernel
theorem dX7_init_158 : decode cX7_init 158 = .ok (.sipush 10000, 3) := by decide +kernel
theorem dX7_init_161 : decode cX7_init 161 = .ok (.iastore, 1) := by decide +kernel
theorem dX7_init_162 : decode cX7_init 162 = .ok (.aload_n 0, 1) := by decide +kernel
theorem dX7_init_163 : decode cX7_init 163 = .ok (.getfield 7, 3) := by decide +kernel
theorem dX7_init_166 : decode cX7_init 166 = .ok (.bipush 7, 2) := by decide +kernel
theorem dX7_init_168 : decode cX7_init 168 = .ok (.iconst 1, 1) := by decide +kernel
theorem dX7_init_169 : decode cX7_init 169 = .ok (.iastore, 1) := by decide +kernel
theorem dX7_init_170 : decode cX7_init 170 = .ok (.aload_n 0, 1) := by decide +kernel
theorem dX7_init_171 : decode cX7_init 171 = .ok (.getfield 7, 3) := by decide +kernel
theorem dX7_init_174 : decode cX7_init 174 = .ok (.bipush 100, 2) := by decide +kernel
theorem dX7_init_176 : decode cX7_init 176 = .ok (.iconst 0, 1) := by decide +kernel
theorem dX7_init_177 : decode cX7_init 177 = .ok (.iastore, 1) := by decide +kernel
theorem dX7_init_178 : decode cX7_init 178 = .ok (.aload_n 0, 1) := by decide +kernel
theorem dX7_init_179 : decode cX7_init 179 = .ok (.getfield 7, 3) := by decide +kernel
theorem dX7_init_182 : decode cX7_init 182 = .ok (.bipush 101, 2) := by decide +kernel
theorem dX7_init_184 : decode cX7_init 184 = .ok (.bipush (-6), 2) := by decide +kernel
theorem dX7_init_186 : decode cX7_init 186 = .ok (.iastore, 1) := by decide +kernel
theorem dX7_init_187 : decode cX7_init 187 = .ok (.return_, 1) := by decide +kernel
theorem dX7_in_0 : decode cX7_in 0 = .ok (.iload_n 0, 1) := by decide +kernel
theorem dX7_in_1 : decode cX7_in 1 = .ok (.iload_n 1, 1) := by decide +kernel
theorem dX7_in_2 : decode cX7_in 2 = .ok (.if_icmp .lt 12, 3) := by decide +kernel
theorem dX7_in_5 : decode cX7_in 5 = .ok (.iload_n 0, 1) := by decide +kernel
theorem dX7_in_6 : decode cX7_in 6 = .ok (.iload_n 2, 1) := by decide +kernel
theorem dX7_in_7 : decode cX7_in 7 = .ok (.if_icmp .gt 7, 3) := by decide +kernel
theorem dX7_in_10 : decode cX7_in 10 = .ok (.iconst 1, 1) := by decide +kernel
theorem dX7_in_11 : decode cX7_in 11 = .ok (.goto 4, 3) := by decide +kernel
theorem dX7_in_14 : decode cX7_in 14 = .ok (.iconst 0, 1) := by decide +kernel
theorem dX7_in_15 : decode cX7_in 15 = .ok (.ireturn, 1) := by decide +kernel
theorem dX7_record_0 : decode cX7_record 0 = .ok (.aload_n 0, 1) := by decide +kernel
theorem dX7_record_1 : decode cX7_record 1 = .ok (.getfield 54, 3) := by decide +kernel
theorem dX7_record_4 : decode cX7_record 4 = .ok (.ifCond .eq 4, 3) := by decide +kernel
theorem dX7_record_7 : decode cX7_record 7 = .ok (.return_, 1) := by decide +kernel
theorem dX7_record_8 : decode cX7_record 8 = .ok (.aload_n 0, 1) := by decide +kernel
theorem dX7_record_9 : decode cX7_record 9 = .ok (.getfield 58, 3) := by decide +kernel
theorem dX7_record_12 : decode cX7_record 12 = .ok (.bipush 6, 2) := by decide +kernel
theorem dX7_record_14 : decode cX7_record 14 = .ok (.if_icmp .ne 68, 3) := by decide +kernel
theorem dX7_record_17 : decode cX7_record 17 = .ok (.iconst 0, 1) := by decide +kernel
theorem dX7_record_18 : decode cX7_record 18 = .ok (.istore_n 1, 1) := by decide +kernel
theorem dX7_record_19 : decode cX7_record 19 = .ok (.iload_n 1, 1) := by decide +kernel
theorem dX7_record_20 : decode cX7_record 20 = .ok (.sipush 2000, 3) := by decide +kernel
theorem dX7_record_23 : decode cX7_record 23 = .ok (.if_icmp .ge 25, 3) := by decide +kernel
theorem dX7_record_26 : decode cX7_record 26 = .ok (.aload_n 0, 1) := by decide +kernel
theorem dX7_record_27 : decode cX7_record 27 = .ok (.getfield 26, 3) := by decide +kernel
theorem dX7_record_30 : decode cX7_record 30 = .ok (.iload_n 1, 1) := by decide +kernel
theorem dX7_record_31 : decode cX7_record 31 = .ok (.aload_n 0, 1) := by decide +kernel
theorem dX7_record_32 : decode cX7_record 32 = .ok (.getfield 26, 3) := by decide +kernel
theorem dX7_record_35 : decode cX7_record 35 = .ok (.iload_n 1, 1) := by decide +kernel
theorem dX7_record_36 : decode cX7_record 36 = .ok (.sipush 400, 3) := by decide +kernel
theorem dX7_record_39 : decode cX7_record 39 = .ok (.iadd, 1) := by decide +kernel
theorem dX7_record_40 : decode cX7_record 40 = .ok (.iaload, 1) := by decide +kernel
theorem dX7_record_41 : decode cX7_record 41 = .ok (.iastore, 1) := by decide +kernel
theorem dX7_record_42 : decode cX7_record 42 = .ok (.iinc 1 1, 3) := by decide +kernel
theorem dX7_record_45 : decode cX7_record 45 = .ok (.goto (-26), 3) := by decide +kernel
theorem dX7_record_48 : decode cX7_record 48 = .ok (.iconst 0, 1) := by decide +kernel
theorem dX7_record_49 : decode cX7_record 49 = .ok (.istore_n 1, 1) := by decide +kernel
theorem dX7_record_50 : decode cX7_record 50 = .ok (.iload_n 1, 1) := by decide +kernel
theorem dX7_record_51 : decode cX7_record 51 = .ok (.bipush 50, 2) := by decide +kernel
theorem dX7_record_53 : decode cX7_record 53 = .ok (.if_icmp .ge 24, 3) := by decide +kernel
theorem dX7_record_56 : decode cX7_record 56 = .ok (.aload_n 0, 1) := by decide +kernel
theorem dX7_record_57 : decode cX7_record 57 = .ok (.getfield 29, 3) := by decide +kernel
theorem dX7_record_60 : decode cX7_record 60 = .ok (.iload_n 1, 1) := by decide +kernel
theorem dX7_record_61 : decode cX7_record 61 = .ok (.aload_n 0, 1) := by decide +kernel
theorem dX7_record_62 : decode cX7_record 62 = .ok (.getfield 29, 3) := by decide +kernel
theorem dX7_record_65 : decode cX7_record 65 = .ok (.iload_n 1, 1) := by decide +kernel
theorem dX7_record_66 : decode cX7_record 66 = .ok (.bipush 10, 2) := by decide +kernel
theorem dX7_record_68 : decode cX7_record 68 = .ok (.iadd, 1) := by decide +kernel
theorem dX7_record_69 : decode cX7_record 69 = .ok (.laload, 1) := by decide +kernel
theorem dX7_record_70 : decode cX7_record 70 = .ok (.lastore, 1) := by decide +kernel
theorem dX7_record_71 : decode cX7_record 71 = .ok (.iinc 1 1, 3) := by decide +kernel
theorem dX7_record_74 : decode cX7_record 74 = .ok (.goto (-24), 3) := by decide +kernel
theorem dX7_record_77 : decode cX7_record 77 = .ok (.aload_n 0, 1) := by decide +kernel
theorem dX7_record_78 : decode cX7_record 78 = .ok (.iconst 5, 1) := by decide +kernel
theorem dX7_record_79 : decode cX7_record 79 = .ok (.putfield 58, 3) := by decide +kernel
theorem dX7_record_82 : decode cX7_record 82 = .ok (.iconst 0, 1) := by decide +kernel
theorem dX7_record_83 : decode cX7_record 83 = .ok (.istore_n 1, 1) := by decide +kernel
theorem dX7_record_84 : decode cX7_record 84 = .ok (.iload_n 1, 1) := by decide +kernel
theorem dX7_record_85 : decode cX7_record 85 = .ok (.sipush 400, 3) := by decide +kernel
theorem dX7_record_88 : decode cX7_record 88 = .ok (.if_icmp .ge 30, 3) := by decide +kernel
theorem dX7_record_91 : decode cX7_record 91 = .ok (.aload_n 0, 1) := by decide +kernel
theorem dX7_record_92 : decode cX7_record 92 = .ok (.getfield 26, 3) := by decide +kernel
theorem dX7_record_95 : decode cX7_record 95 = .ok (.aload_n 0, 1) := by decide +kernel
theorem dX7_record_96 : decode cX7_record 96 = .ok (.getfield 58, 3) := by decide +kernel
theorem dX7_record_99 : decode cX7_record 99 = .ok (.sipush 400, 3) := by decide +kernel
theorem dX7_record_102 : decode cX7_record 102 = .ok (.imul, 1) := by decide +kernel
theorem dX7_record_103 : decode cX7_record 103 = .ok (.iload_n 1, 1) := by decide +kernel
theorem dX7_record_104 : decode cX7_record 104 = .ok (.iadd, 1) := by decide +kernel
theorem dX7_record_105 : decode cX7_record 105 = .ok (.aload_n 0, 1) := by decide +kernel
theorem dX7_record_106 : decode cX7_record 106 = .ok (.getfield 7, 3) := by decide +kernel
theorem dX7_record_109 : decode cX7_record 109 = .ok (.iload_n 1, 1) := by decide +kernel
theorem dX7_record_110 : decode cX7_record 110 = .ok (.iaload, 1) := by decide +kernel
theorem dX7_record_111 : decode cX7_record 111 = .ok (.iastore, 1) := by decide +kernel
theorem dX7_record_112 : decode cX7_record 112 = .ok (.iinc 1 1, 3) := by decide +kernel
theorem dX7_record_115 : decode cX7_record 115 = .ok (.goto (-31), 3) := by decide +kernel
theorem dX7_record_118 : decode cX7_record 118 = .ok (.iconst 0, 1) := by decide +kernel
theorem dX7_record_119 : decode cX7_record 119 = .ok (.istore_n 1, 1) := by decide +kernel
theorem dX7_record_120 : decode cX7_record 120 = .ok (.iload_n 1, 1) := by decide +kernel
theorem dX7_record_121 : decode cX7_record 121 = .ok (.bipush 10, 2) := by decide +kernel
theorem dX7_record_123 : decode cX7_record 123 = .ok (.if_icmp .ge 29, 3) := by decide +kernel
theorem dX7_record_126 : decode cX7_record 126 = .ok (.aload_n 0, 1) := by decide +kernel
theorem dX7_record_127 : decode cX7_record 127 = .ok (.getfield 29, 3) := by decide +kernel
theorem dX7_record_130 : decode cX7_record 130 = .ok (.aload_n 0, 1) := by decide +kernel
theorem dX7_record_131 : decode cX7_record 131 = .ok (.getfield 58, 3) := by decide +kernel
theorem dX7_record_134 : decode cX7_record 134 = .ok (.bipush 10, 2) := by decide +kernel
theorem dX7_record_136 : decode cX7_record 136 = .ok (.imul, 1) := by decide +kernel
theorem dX7_record_137 : decode cX7_record 137 = .ok (.iload_n 1, 1) := by decide +kernel
theorem dX7_record_138 : decode cX7_record 138 = .ok (.iadd, 1) := by decide +kernel
theorem dX7_record_139 : decode cX7_record 139 = .ok (.aload_n 0, 1) := by decide +kernel
theorem dX7_record_140 : decode cX7_record 140 = .ok (.getfield 13, 3) := by decide +kernel
theorem dX7_record_143 : decode cX7_record 143 = .ok (.iload_n 1, 1) := by decide +kernel
theorem dX7_record_144 : decode cX7_record 144 = .ok (.laload, 1) := by decide +kernel
theorem dX7_record_145 : decode cX7_record 145 = .ok (.lastore, 1) := by decide +kernel
theorem dX7_record_146 : decode cX7_record 146 = .ok (.iinc 1 1, 3) := by decide +kernel
theorem dX7_record_149 : decode cX7_record 149 = .ok (.goto (-29), 3) := by decide +kernel
theorem dX7_record_152 : decode cX7_record 152 = .ok (.aload_n 0, 1) := by decide +kernel
theorem dX7_record_153 : decode cX7_record 153 = .ok (.dup, 1) := by decide +kernel
theorem dX7_record_154 : decode cX7_record 154 = .ok (.getfield 58, 3) := by decide +kernel
theorem dX7_record_157 : decode cX7_record 157 = .ok (.iconst 1, 1) := by decide +kernel
theorem dX7_record_158 : decode cX7_record 158 = .ok (.iadd, 1) := by decide +kernel
theorem dX7_record_159 : decode cX7_record 159 = .ok (.putfield 58, 3) := by decide +kernel
theorem dX7_record_162 : decode cX7_record 162 = .ok (.return_, 1) := by decide +kernel
theorem dX7_keep_0 : decode cX7_keep 0 = .ok (.iconst 0, 1) := by decide +kernel
theorem dX7_keep_1 : decode cX7_keep 1 = .ok (.istore_n 1, 1) := by decide +kernel
theorem dX7_keep_2 : decode cX7_keep 2 = .ok (.iload_n 1, 1) := by decide +kernel
theorem dX7_keep_3 : decode cX7_keep 3 = .ok (.sipush 400, 3) := by decide +kernel
theorem dX7_keep_6 : decode cX7_keep 6 = .ok (.if_icmp .ge 21, 3) := by decide +kernel
theorem dX7_keep_9 : decode cX7_keep 9 = .ok (.aload_n 0, 1) := by decide +kernel
theorem dX7_keep_10 : decode cX7_keep 10 = .ok (.getfield 17, 3) := by decide +kernel
theorem dX7_keep_13 : decode cX7_keep 13 = .ok (.iload_n 1, 1) := by decide +kernel
theorem dX7_keep_14 : decode cX7_keep 14 = .ok (.aload_n 0, 1) := by decide +kernel
theorem dX7_keep_15 : decode cX7_keep 15 = .ok (.getfield 7, 3) := by decide +kernel
theorem dX7_keep_18 : decode cX7_keep 18 = .ok (.iload_n 1, 1) := by decide +kernel
theorem dX7_keep_19 : decode cX7_keep 19 = .ok (.iaload, 1) := by decide +kernel
theorem dX7_keep_20 : decode cX7_keep 20 = .ok (.iastore, 1) := by decide +kernel
theorem dX7_keep_21 : decode cX7_keep 21 = .ok (.iinc 1 1, 3) := by decide +kernel
theorem dX7_keep_24 : decode cX7_keep 24 = .ok (.goto (-22), 3) := by decide +kernel
theorem dX7_keep_27 : decode cX7_keep 27 = .ok (.iconst 0, 1) := by decide +kernel
theorem dX7_keep_28 : decode cX7_keep 28 = .ok (.istore_n 1, 1) := by decide +kernel
theorem dX7_keep_29 : decode cX7_keep 29 = .ok (.iload_n 1, 1) := by decide +kernel
theorem dX7_keep_30 : decode cX7_keep 30 = .ok (.bipush 10, 2) := by decide +kernel
theorem dX7_keep_32 : decode cX7_keep 32 = .ok (.if_icmp .ge 21, 3) := by decide +kernel
theorem dX7_keep_35 : decode cX7_keep 35 = .ok (.aload_n 0, 1) := by decide +kernel
theorem dX7_keep_36 : decode cX7_keep 36 = .ok (.getfield 20, 3) := by decide +kernel
theorem dX7_keep_39 : decode cX7_keep 39 = .ok (.iload_n 1, 1) := by decide +kernel
theorem dX7_keep_40 : decode cX7_keep 40 = .ok (.aload_n 0, 1) := by decide +kernel
theorem dX7_keep_41 : decode cX7_keep 41 = .ok (.getfield 13, 3) := by decide +kernel
theorem dX7_keep_44 : decode cX7_keep 44 = .ok (.iload_n 1, 1) := by decide +kernel
theorem dX7_keep_45 : decode cX7_keep 45 = .ok (.laload, 1) := by decide +kernel
theorem dX7_keep_46 : decode cX7_keep 46 = .ok (.lastore, 1) := by decide +kernel
theorem dX7_keep_47 : decode cX7_keep 47 = .ok (.iinc 1 1, 3) := by decide +kernel
theorem dX7_keep_50 : decode cX7_keep 50 = .ok (.goto (-21), 3) := by decide +kernel
theorem dX7_keep_53 : decode cX7_keep 53 = .ok (.return_, 1) := by decide +kernel
theorem dX7_comeBack_0 : decode cX7_comeBack 0 = .ok (.iconst 0, 1) := by decide +kernel
theorem dX7_comeBack_1 : decode cX7_comeBack 1 = .ok (.istore_n 1, 1) := by decide +kernel
theorem dX7_comeBack_2 : decode cX7_comeBack 2 = .ok (.iload_n 1, 1) := by decide +kernel
theorem dX7_comeBack_3 : decode cX7_comeBack 3 = .ok (.sipush 400, 3) := by decide +kernel
theorem dX7_comeBack_6 : decode cX7_comeBack 6 = .ok (.if_icmp .ge 21, 3) := by decide +kernel
theorem dX7_comeBack_9 : decode cX7_comeBack 9 = .ok (.aload_n 0, 1) := by decide +kernel
theorem dX7_comeBack_10 : decode cX7_comeBack 10 = .ok (.getfield 7, 3) := by decide +kernel
theorem dX7_comeBack_13 : decode cX7_comeBack 13 = .ok (.iload_n 1, 1) := by decide +kernel
theorem dX7_comeBack_14 : decode cX7_comeBack 14 = .ok (.aload_n 0, 1) := by decide +kernel
theorem dX7_comeBack_15 : decode cX7_comeBack 15 = .ok (.getfield 17, 3) := by decide +kernel
theorem dX7_comeBack_18 : decode cX7_comeBack 18 = .ok (.iload_n 1, 1) := by decide +kernel
theorem dX7_comeBack_19 : decode cX7_comeBack 19 = .ok (.iaload, 1) := by decide +kernel
theorem dX7_comeBack_20 : decode cX7_comeBack 20 = .ok (.iastore, 1) := by decide +kernel
theorem dX7_comeBack_21 : decode cX7_comeBack 21 = .ok (.iinc 1 1, 3) := by decide +kernel
theorem dX7_comeBack_24 : decode cX7_comeBack 24 = .ok (.goto (-22), 3) := by decide +kernel
theorem dX7_comeBack_27 : decode cX7_comeBack 27 = .ok (.iconst 0, 1) := by decide +kernel
theorem dX7_comeBack_28 : decode cX7_comeBack 28 = .ok (.istore_n 1, 1) := by decide +kernel
theorem dX7_comeBack_29 : decode cX7_comeBack 29 = .ok (.iload_n 1, 1) := by decide +kernel
theorem dX7_comeBack_30 : decode cX7_comeBack 30 = .ok (.bipush 10, 2) := by decide +kernel
theorem dX7_comeBack_32 : decode cX7_comeBack 32 = .ok (.if_icmp .ge 21, 3) := by decide +kernel
theorem dX7_comeBack_35 : decode cX7_comeBack 35 = .ok (.aload_n 0, 1) := by decide +kernel
theorem dX7_comeBack_36 : decode cX7_comeBack 36 = .ok (.getfield 13, 3) := by decide +kernel
theorem dX7_comeBack_39 : decode cX7_comeBack 39 = .ok (.iload_n 1, 1) := by decide +kernel
theorem dX7_comeBack_40 : decode cX7_comeBack 40 = .ok (.aload_n 0, 1) := by decide +kernel
theorem dX7_comeBack_41 : decode cX7_comeBack 41 = .ok (.getfield 20, 3) := by decide +kernel
theorem dX7_comeBack_44 : decode cX7_comeBack 44 = .ok (.iload_n 1, 1) := by decide +kernel
theorem dX7_comeBack_45 : decode cX7_comeBack 45 = .ok (.laload, 1) := by decide +kernel
theorem dX7_comeBack_46 : decode cX7_comeBack 46 = .ok (.lastore, 1) := by decide +kernel
theorem dX7_comeBack_47 : decode cX7_comeBack 47 = .ok (.iinc 1 1, 3) := by decide +kernel
theorem dX7_comeBack_50 : decode cX7_comeBack 50 = .ok (.goto (-21), 3) := by decide +kernel
theorem dX7_comeBack_53 : decode cX7_comeBack 53 = .ok (.return_, 1) := by decide +kernel
theorem dX7_least_0 : decode cX7_least 0 = .ok (.iload_n 0, 1) := by decide +kernel
theorem dX7_least_1 : decode cX7_least 1 = .ok (.iconst 3, 1) := by decide +kernel
theorem dX7_least_2 : decode cX7_least 2 = .ok (.if_icmp .ge 7, 3) := by decide +kernel
theorem dX7_least_5 : decode cX7_least 5 = .ok (.iconst 0, 1) := by decide +kernel
theorem dX7_least_6 : decode cX7_least 6 = .ok (.goto 4, 3) := by decide +kernel
theorem dX7_least_9 : decode cX7_least 9 = .ok (.iconst 1, 1) := by decide +kernel
theorem dX7_least_10 : decode cX7_least 10 = .ok (.ireturn, 1) := by decide +kernel
theorem dX7_most_0 : decode cX7_most 0 = .ok (.iload_n 0, 1) := by decide +kernel
theorem dX7_most_1 : decode cX7_most 1 = .ok (.iconst 3, 1) := by decide +kernel
theorem dX7_most_2 : decode cX7_most 2 = .ok (.if_icmp .ge 9, 3) := by decide +kernel
theorem dX7_most_5 : decode cX7_most 5 = .ok (.sipush 1000, 3) := by decide +kernel
theorem dX7_most_8 : decode cX7_most 8 = .ok (.goto 16, 3) := by decide +kernel
theorem dX7_most_11 : decode cX7_most 11 = .ok (.iload_n 0, 1) := by decide +kernel
theorem dX7_most_12 : decode cX7_most 12 = .ok (.iconst 3, 1) := by decide +kernel
theorem dX7_most_13 : decode cX7_most 13 = .ok (.if_icmp .ne 8, 3) := by decide +kernel
theorem dX7_most_16 : decode cX7_most 16 = .ok (.bipush 100, 2) := by decide +kernel
theorem dX7_most_18 : decode cX7_most 18 = .ok (.goto 6, 3) := by decide +kernel
theorem dX7_most_21 : decode cX7_most 21 = .ok (.sipush 10000, 3) := by decide +kernel
theorem dX7_most_24 : decode cX7_most 24 = .ok (.ireturn, 1) := by decide +kernel
theorem dX7_set_0 : decode cX7_set 0 = .ok (.iload_n 1, 1) := by decide +kernel
theorem dX7_set_1 : decode cX7_set 1 = .ok (.iconst 0, 1) := by decide +kernel
theorem dX7_set_2 : decode cX7_set 2 = .ok (.iconst 4, 1) := by decide +kernel
theorem dX7_set_3 : decode cX7_set 3 = .ok (.invokestatic 62, 3) := by decide +kernel
theorem dX7_set_6 : decode cX7_set 6 = .ok (.ifCond .eq 18, 3) := by decide +kernel
theorem dX7_set_9 : decode cX7_set 9 = .ok (.iload_n 2, 1) := by decide +kernel
theorem dX7_set_10 : decode cX7_set 10 = .ok (.iload_n 1, 1) := by decide +kernel
theorem dX7_set_11 : decode cX7_set 11 = .ok (.invokestatic 66, 3) := by decide +kernel
theorem dX7_set_14 : decode cX7_set 14 = .ok (.iload_n 1, 1) := by decide +kernel
theorem dX7_set_15 : decode cX7_set 15 = .ok (.invokestatic 70, 3) := by decide +kernel
theorem dX7_set_18 : decode cX7_set 18 = .ok (.invokestatic 62, 3) := by decide +kernel
theorem dX7_set_21 : decode cX7_set 21 = .ok (.ifCond .ne 6, 3) := by decide +kernel
theorem dX7_set_24 : decode cX7_set 24 = .ok (.bipush (-2), 2) := by decide +kernel
theorem dX7_set_26 : decode cX7_set 26 = .ok (.ireturn, 1) := by decide +kernel
theorem dX7_set_27 : decode cX7_set 27 = .ok (.aload_n 0, 1) := by decide +kernel
theorem dX7_set_28 : decode cX7_set 28 = .ok (.invokevirtual 73, 3) := by decide +kernel
theorem dX7_set_31 : decode cX7_set 31 = .ok (.aload_n 0, 1) := by decide +kernel
theorem dX7_set_32 : decode cX7_set 32 = .ok (.getfield 7, 3) := by decide +kernel
theorem dX7_set_35 : decode cX7_set 35 = .ok (.iload_n 1, 1) := by decide +kernel
theorem dX7_set_36 : decode cX7_set 36 = .ok (.iaload, 1) := by decide +kernel
theorem dX7_set_37 : decode cX7_set 37 = .ok (.istore_n 3, 1) := by decide +kernel
theorem dX7_set_38 : decode cX7_set 38 = .ok (.aload_n 0, 1) := by decide +kernel
theorem dX7_set_39 : decode cX7_set 39 = .ok (.getfield 7, 3) := by decide +kernel
theorem dX7_set_42 : decode cX7_set 42 = .ok (.iload_n 1, 1) := by decide +kernel
theorem dX7_set_43 : decode cX7_set 43 = .ok (.iload_n 2, 1) := by decide +kernel
theorem dX7_set_44 : decode cX7_set 44 = .ok (.iastore, 1) := by decide +kernel
theorem dX7_set_45 : decode cX7_set 45 = .ok (.iload_n 3, 1) := by decide +kernel
theorem dX7_set_46 : decode cX7_set 46 = .ok (.ireturn, 1) := by decide +kernel
theorem dX7_owner_0 : decode cX7_owner 0 = .ok (.iload_n 1, 1) := by decide +kernel
theorem dX7_owner_1 : decode cX7_owner 1 = .ok (.iconst 0, 1) := by decide +kernel
theorem dX7_owner_2 : decode cX7_owner 2 = .ok (.ldc 76, 2) := by decide +kernel
theorem dX7_owner_4 : decode cX7_owner 4 = .ok (.invokestatic 62, 3) := by decide +kernel
theorem dX7_owner_7 : decode cX7_owner 7 = .ok (.ifCond .ne 6, 3) := by decide +kernel
theorem dX7_owner_10 : decode cX7_owner 10 = .ok (.bipush (-2), 2) := by decide +kernel
theorem dX7_owner_12 : decode cX7_owner 12 = .ok (.ireturn, 1) := by decide +kernel
theorem dX7_owner_13 : decode cX7_owner 13 = .ok (.aload_n 0, 1) := by decide +kernel
theorem dX7_owner_14 : decode cX7_owner 14 = .ok (.getfield 7, 3) := by decide +kernel
theorem dX7_owner_17 : decode cX7_owner 17 = .ok (.bipush 6, 2) := by decide +kernel
theorem dX7_owner_19 : decode cX7_owner 19 = .ok (.iaload, 1) := by decide +kernel
theorem dX7_owner_20 : decode cX7_owner 20 = .ok (.bipush 10, 2) := by decide +kernel
theorem dX7_owner_22 : decode cX7_owner 22 = .ok (.if_icmp .ne 6, 3) := by decide +kernel
theorem dX7_owner_25 : decode cX7_owner 25 = .ok (.bipush (-4), 2) := by decide +kernel
theorem dX7_owner_27 : decode cX7_owner 27 = .ok (.ireturn, 1) := by decide +kernel
theorem dX7_owner_28 : decode cX7_owner 28 = .ok (.aload_n 0, 1) := by decide +kernel
theorem dX7_owner_29 : decode cX7_owner 29 = .ok (.invokevirtual 73, 3) := by decide +kernel
theorem dX7_owner_32 : decode cX7_owner 32 = .ok (.aload_n 0, 1) := by decide +kernel
theorem dX7_owner_33 : decode cX7_owner 33 = .ok (.getfield 13, 3) := by decide +kernel
theorem dX7_owner_36 : decode cX7_owner 36 = .ok (.aload_n 0, 1) := by decide +kernel
theorem dX7_owner_37 : decode cX7_owner 37 = .ok (.getfield 7, 3) := by decide +kernel
theorem dX7_owner_40 : decode cX7_owner 40 = .ok (.bipush 6, 2) := by decide +kernel
theorem dX7_owner_42 : decode cX7_owner 42 = .ok (.iaload, 1) := by decide +kernel
theorem dX7_owner_43 : decode cX7_owner 43 = .ok (.iload_n 1, 1) := by decide +kernel
theorem dX7_owner_44 : decode cX7_owner 44 = .ok (.i2l, 1) := by decide +kernel
theorem dX7_owner_45 : decode cX7_owner 45 = .ok (.lastore, 1) := by decide +kernel
theorem dX7_owner_46 : decode cX7_owner 46 = .ok (.aload_n 0, 1) := by decide +kernel
theorem dX7_owner_47 : decode cX7_owner 47 = .ok (.getfield 7, 3) := by decide +kernel
theorem dX7_owner_50 : decode cX7_owner 50 = .ok (.bipush 6, 2) := by decide +kernel
theorem dX7_owner_52 : decode cX7_owner 52 = .ok (.dup2, 1) := by decide +kernel
theorem dX7_owner_53 : decode cX7_owner 53 = .ok (.iaload, 1) := by decide +kernel
theorem dX7_owner_54 : decode cX7_owner 54 = .ok (.iconst 1, 1) := by decide +kernel
theorem dX7_owner_55 : decode cX7_owner 55 = .ok (.iadd, 1) := by decide +kernel
theorem dX7_owner_56 : decode cX7_owner 56 = .ok (.iastore, 1) := by decide +kernel
theorem dX7_owner_57 : decode cX7_owner 57 = .ok (.aload_n 0, 1) := by decide +kernel
theorem dX7_owner_58 : decode cX7_owner 58 = .ok (.getfield 7, 3) := by decide +kernel
theorem dX7_owner_61 : decode cX7_owner 61 = .ok (.bipush 6, 2) := by decide +kernel
theorem dX7_owner_63 : decode cX7_owner 63 = .ok (.iaload, 1) := by decide +kernel
theorem dX7_owner_64 : decode cX7_owner 64 = .ok (.iconst 1, 1) := by decide +kernel
theorem dX7_owner_65 : decode cX7_owner 65 = .ok (.isub, 1) := by decide +kernel
theorem dX7_owner_66 : decode cX7_owner 66 = .ok (.ireturn, 1) := by decide +kernel
theorem dX7_isOwner_0 : decode cX7_isOwner 0 = .ok (.iload_n 1, 1) := by decide +kernel
theorem dX7_isOwner_1 : decode cX7_isOwner 1 = .ok (.iconst 0, 1) := by decide +kernel
theorem dX7_isOwner_2 : decode cX7_isOwner 2 = .ok (.aload_n 0, 1) := by decide +kernel
theorem dX7_isOwner_3 : decode cX7_isOwner 3 = .ok (.getfield 7, 3) := by decide +kernel
theorem dX7_isOwner_6 : decode cX7_isOwner 6 = .ok (.bipush 6, 2) := by decide +kernel
theorem dX7_isOwner_8 : decode cX7_isOwner 8 = .ok (.iaload, 1) := by decide +kernel
theorem dX7_isOwner_9 : decode cX7_isOwner 9 = .ok (.iconst 1, 1) := by decide +kernel
theorem dX7_isOwner_10 : decode cX7_isOwner 10 = .ok (.isub, 1) := by decide +kernel
theorem dX7_isOwner_11 : decode cX7_isOwner 11 = .ok (.invokestatic 62, 3) := by decide +kernel
theorem dX7_isOwner_14 : decode cX7_isOwner 14 = .ok (.ireturn, 1) := by decide +kernel
theorem dX7_pay_0 : decode cX7_pay 0 = .ok (.aload_n 0, 1) := by decide +kernel
theorem dX7_pay_1 : decode cX7_pay 1 = .ok (.iload_n 1, 1) := by decide +kernel
theorem dX7_pay_2 : decode cX7_pay 2 = .ok (.invokevirtual 77, 3) := by decide +kernel
theorem dX7_pay_5 : decode cX7_pay 5 = .ok (.ifCond .ne 5, 3) := by decide +kernel
theorem dX7_pay_8 : decode cX7_pay 8 = .ok (.iconst (-1), 1) := by decide +kernel
theorem dX7_pay_9 : decode cX7_pay 9 = .ok (.ireturn, 1) := by decide +kernel
theorem dX7_pay_10 : decode cX7_pay 10 = .ok (.iload_n 2, 1) := by decide +kernel
theorem dX7_pay_11 : decode cX7_pay 11 = .ok (.iconst 0, 1) := by decide +kernel
theorem dX7_pay_12 : decode cX7_pay 12 = .ok (.ldc 76, 2) := by decide +kernel
theorem dX7_pay_14 : decode cX7_pay 14 = .ok (.invokestatic 62, 3) := by decide +kernel
theorem dX7_pay_17 : decode cX7_pay 17 = .ok (.ifCond .ne 6, 3) := by decide +kernel
theorem dX7_pay_20 : decode cX7_pay 20 = .ok (.bipush (-2), 2) := by decide +kernel
theorem dX7_pay_22 : decode cX7_pay 22 = .ok (.ireturn, 1) := by decide +kernel
theorem dX7_pay_23 : decode cX7_pay 23 = .ok (.aload_n 0, 1) := by decide +kernel
theorem dX7_pay_24 : decode cX7_pay 24 = .ok (.invokevirtual 73, 3) := by decide +kernel
theorem dX7_pay_27 : decode cX7_pay 27 = .ok (.aload_n 0, 1) := by decide +kernel
theorem dX7_pay_28 : decode cX7_pay 28 = .ok (.getfield 13, 3) := by decide +kernel
theorem dX7_pay_31 : decode cX7_pay 31 = .ok (.iload_n 1, 1) := by decide +kernel
theorem dX7_pay_32 : decode cX7_pay 32 = .ok (.dup2, 1) := by decide +kernel
theorem dX7_pay_33 : decode cX7_pay 33 = .ok (.laload, 1) := by decide +kernel
theorem dX7_pay_34 : decode cX7_pay 34 = .ok (.iload_n 2, 1) := by decide +kernel
theorem dX7_pay_35 : decode cX7_pay 35 = .ok (.i2l, 1) := by decide +kernel
theorem dX7_pay_36 : decode cX7_pay 36 = .ok (.ladd, 1) := by decide +kernel
theorem dX7_pay_37 : decode cX7_pay 37 = .ok (.lastore, 1) := by decide +kernel
theorem dX7_pay_38 : decode cX7_pay 38 = .ok (.aload_n 0, 1) := by decide +kernel
theorem dX7_pay_39 : decode cX7_pay 39 = .ok (.getfield 13, 3) := by decide +kernel
theorem dX7_pay_42 : decode cX7_pay 42 = .ok (.iload_n 1, 1) := by decide +kernel
theorem dX7_pay_43 : decode cX7_pay 43 = .ok (.laload, 1) := by decide +kernel
theorem dX7_pay_44 : decode cX7_pay 44 = .ok (.lconst 0, 1) := by decide +kernel
theorem dX7_pay_45 : decode cX7_pay 45 = .ok (.lcmp, 1) := by decide +kernel
theorem dX7_pay_46 : decode cX7_pay 46 = .ok (.ifCond .lt 7, 3) := by decide +kernel
theorem dX7_pay_49 : decode cX7_pay 49 = .ok (.iconst 1, 1) := by decide +kernel
theorem dX7_pay_50 : decode cX7_pay 50 = .ok (.goto 4, 3) := by decide +kernel
theorem dX7_pay_53 : decode cX7_pay 53 = .ok (.iconst 0, 1) := by decide +kernel
theorem dX7_pay_54 : decode cX7_pay 54 = .ok (.ireturn, 1) := by decide +kernel
theorem dX7_first_0 : decode cX7_first 0 = .ok (.aload_n 0, 1) := by decide +kernel
theorem dX7_first_1 : decode cX7_first 1 = .ok (.getfield 7, 3) := by decide +kernel
theorem dX7_first_4 : decode cX7_first 4 = .ok (.bipush 100, 2) := by decide +kernel
theorem dX7_first_6 : decode cX7_first 6 = .ok (.iconst 2, 1) := by decide +kernel
theorem dX7_first_7 : decode cX7_first 7 = .ok (.iload_n 1, 1) := by decide +kernel
theorem dX7_first_8 : decode cX7_first 8 = .ok (.imul, 1) := by decide +kernel
theorem dX7_first_9 : decode cX7_first 9 = .ok (.iadd, 1) := by decide +kernel
theorem dX7_first_10 : decode cX7_first 10 = .ok (.iaload, 1) := by decide +kernel
theorem dX7_first_11 : decode cX7_first 11 = .ok (.ireturn, 1) := by decide +kernel
theorem dX7_ownerOf_0 : decode cX7_ownerOf 0 = .ok (.aload_n 0, 1) := by decide +kernel
theorem dX7_ownerOf_1 : decode cX7_ownerOf 1 = .ok (.getfield 7, 3) := by decide +kernel
theorem dX7_ownerOf_4 : decode cX7_ownerOf 4 = .ok (.bipush 100, 2) := by decide +kernel
end
section
theorem dX7_ownerOf_6 : decode cX7_ownerOf 6 = .ok (.iconst 2, 1) := by decide +kernel
theorem dX7_ownerOf_7 : decode cX7_ownerOf 7 = .ok (.iload_n 1, 1) := by decide +kernel
theorem dX7_ownerOf_8 : decode cX7_ownerOf 8 = .ok (.imul, 1) := by decide +kernel
theorem dX7_ownerOf_9 : decode cX7_ownerOf 9 = .ok (.iadd, 1) := by decide +kernel
theorem dX7_ownerOf_10 : decode cX7_ownerOf 10 = .ok (.iconst 1, 1) := by decide +kernel
theorem dX7_ownerOf_11 : decode cX7_ownerOf 11 = .ok (.iadd, 1) := by decide +kernel
theorem dX7_ownerOf_12 : decode cX7_ownerOf 12 = .ok (.iaload, 1) := by decide +kernel
theorem dX7_ownerOf_13 : decode cX7_ownerOf 13 = .ok (.ireturn, 1) := by decide +kernel
theorem dX7_behind_0 : decode cX7_behind 0 = .ok (.iload_n 1, 1) := by decide +kernel
theorem dX7_behind_1 : decode cX7_behind 1 = .ok (.iconst 1, 1) := by decide +kernel
theorem dX7_behind_2 : decode cX7_behind 2 = .ok (.iadd, 1) := by decide +kernel
theorem dX7_behind_3 : decode cX7_behind 3 = .ok (.aload_n 0, 1) := by decide +kernel
theorem dX7_behind_4 : decode cX7_behind 4 = .ok (.getfield 7, 3) := by decide +kernel
theorem dX7_behind_7 : decode cX7_behind 7 = .ok (.bipush 7, 2) := by decide +kernel
theorem dX7_behind_9 : decode cX7_behind 9 = .ok (.iaload, 1) := by decide +kernel
theorem dX7_behind_10 : decode cX7_behind 10 = .ok (.if_icmp .ge 13, 3) := by decide +kernel
theorem dX7_behind_13 : decode cX7_behind 13 = .ok (.aload_n 0, 1) := by decide +kernel
theorem dX7_behind_14 : decode cX7_behind 14 = .ok (.iload_n 1, 1) := by decide +kernel
theorem dX7_behind_15 : decode cX7_behind 15 = .ok (.iconst 1, 1) := by decide +kernel
theorem dX7_behind_16 : decode cX7_behind 16 = .ok (.iadd, 1) := by decide +kernel
theorem dX7_behind_17 : decode cX7_behind 17 = .ok (.invokevirtual 81, 3) := by decide +kernel
theorem dX7_behind_20 : decode cX7_behind 20 = .ok (.goto 6, 3) := by decide +kernel
theorem dX7_behind_23 : decode cX7_behind 23 = .ok (.sipush 10000, 3) := by decide +kernel
theorem dX7_behind_26 : decode cX7_behind 26 = .ok (.ireturn, 1) := by decide +kernel
theorem dX7_length_0 : decode cX7_length 0 = .ok (.aload_n 0, 1) := by decide +kernel
theorem dX7_length_1 : decode cX7_length 1 = .ok (.iload_n 1, 1) := by decide +kernel
theorem dX7_length_2 : decode cX7_length 2 = .ok (.invokevirtual 84, 3) := by decide +kernel
theorem dX7_length_5 : decode cX7_length 5 = .ok (.aload_n 0, 1) := by decide +kernel
theorem dX7_length_6 : decode cX7_length 6 = .ok (.iload_n 1, 1) := by decide +kernel
theorem dX7_length_7 : decode cX7_length 7 = .ok (.invokevirtual 81, 3) := by decide +kernel
theorem dX7_length_10 : decode cX7_length 10 = .ok (.isub, 1) := by decide +kernel
theorem dX7_length_11 : decode cX7_length 11 = .ok (.ireturn, 1) := by decide +kernel
theorem dX7_rangesNow_0 : decode cX7_rangesNow 0 = .ok (.iconst 0, 1) := by decide +kernel
theorem dX7_rangesNow_1 : decode cX7_rangesNow 1 = .ok (.istore_n 1, 1) := by decide +kernel
theorem dX7_rangesNow_2 : decode cX7_rangesNow 2 = .ok (.iconst 0, 1) := by decide +kernel
theorem dX7_rangesNow_3 : decode cX7_rangesNow 3 = .ok (.istore_n 2, 1) := by decide +kernel
theorem dX7_rangesNow_4 : decode cX7_rangesNow 4 = .ok (.iload_n 2, 1) := by decide +kernel
theorem dX7_rangesNow_5 : decode cX7_rangesNow 5 = .ok (.aload_n 0, 1) := by decide +kernel
theorem dX7_rangesNow_6 : decode cX7_rangesNow 6 = .ok (.getfield 7, 3) := by decide +kernel
theorem dX7_rangesNow_9 : decode cX7_rangesNow 9 = .ok (.bipush 7, 2) := by decide +kernel
theorem dX7_rangesNow_11 : decode cX7_rangesNow 11 = .ok (.iaload, 1) := by decide +kernel
theorem dX7_rangesNow_12 : decode cX7_rangesNow 12 = .ok (.if_icmp .ge 25, 3) := by decide +kernel
theorem dX7_rangesNow_15 : decode cX7_rangesNow 15 = .ok (.iload_n 1, 1) := by decide +kernel
theorem dX7_rangesNow_16 : decode cX7_rangesNow 16 = .ok (.aload_n 0, 1) := by decide +kernel
theorem dX7_rangesNow_17 : decode cX7_rangesNow 17 = .ok (.iload_n 2, 1) := by decide +kernel
theorem dX7_rangesNow_18 : decode cX7_rangesNow 18 = .ok (.invokevirtual 87, 3) := by decide +kernel
theorem dX7_rangesNow_21 : decode cX7_rangesNow 21 = .ok (.ifCond .lt 7, 3) := by decide +kernel
theorem dX7_rangesNow_24 : decode cX7_rangesNow 24 = .ok (.iconst 1, 1) := by decide +kernel
theorem dX7_rangesNow_25 : decode cX7_rangesNow 25 = .ok (.goto 4, 3) := by decide +kernel
theorem dX7_rangesNow_28 : decode cX7_rangesNow 28 = .ok (.iconst 0, 1) := by decide +kernel
theorem dX7_rangesNow_29 : decode cX7_rangesNow 29 = .ok (.iadd, 1) := by decide +kernel
theorem dX7_rangesNow_30 : decode cX7_rangesNow 30 = .ok (.istore_n 1, 1) := by decide +kernel
theorem dX7_rangesNow_31 : decode cX7_rangesNow 31 = .ok (.iinc 2 1, 3) := by decide +kernel
theorem dX7_rangesNow_34 : decode cX7_rangesNow 34 = .ok (.goto (-30), 3) := by decide +kernel
theorem dX7_rangesNow_37 : decode cX7_rangesNow 37 = .ok (.iload_n 1, 1) := by decide +kernel
theorem dX7_rangesNow_38 : decode cX7_rangesNow 38 = .ok (.ireturn, 1) := by decide +kernel
theorem dX7_lay_0 : decode cX7_lay 0 = .ok (.iload_n 1, 1) := by decide +kernel
theorem dX7_lay_1 : decode cX7_lay 1 = .ok (.iload_n 2, 1) := by decide +kernel
theorem dX7_lay_2 : decode cX7_lay 2 = .ok (.if_icmp .ge 55, 3) := by decide +kernel
theorem dX7_lay_5 : decode cX7_lay 5 = .ok (.aload_n 0, 1) := by decide +kernel
theorem dX7_lay_6 : decode cX7_lay 6 = .ok (.getfield 90, 3) := by decide +kernel
theorem dX7_lay_9 : decode cX7_lay 9 = .ok (.ifCond .eq 18, 3) := by decide +kernel
theorem dX7_lay_12 : decode cX7_lay 12 = .ok (.aload_n 0, 1) := by decide +kernel
theorem dX7_lay_13 : decode cX7_lay 13 = .ok (.getfield 48, 3) := by decide +kernel
theorem dX7_lay_16 : decode cX7_lay 16 = .ok (.aload_n 0, 1) := by decide +kernel
theorem dX7_lay_17 : decode cX7_lay 17 = .ok (.getfield 90, 3) := by decide +kernel
theorem dX7_lay_20 : decode cX7_lay 20 = .ok (.iconst 1, 1) := by decide +kernel
theorem dX7_lay_21 : decode cX7_lay 21 = .ok (.isub, 1) := by decide +kernel
theorem dX7_lay_22 : decode cX7_lay 22 = .ok (.iaload, 1) := by decide +kernel
theorem dX7_lay_23 : decode cX7_lay 23 = .ok (.iload_n 3, 1) := by decide +kernel
theorem dX7_lay_24 : decode cX7_lay 24 = .ok (.if_icmp .eq 33, 3) := by decide +kernel
theorem dX7_lay_27 : decode cX7_lay 27 = .ok (.aload_n 0, 1) := by decide +kernel
theorem dX7_lay_28 : decode cX7_lay 28 = .ok (.getfield 45, 3) := by decide +kernel
theorem dX7_lay_31 : decode cX7_lay 31 = .ok (.aload_n 0, 1) := by decide +kernel
theorem dX7_lay_32 : decode cX7_lay 32 = .ok (.getfield 90, 3) := by decide +kernel
theorem dX7_lay_35 : decode cX7_lay 35 = .ok (.iload_n 1, 1) := by decide +kernel
theorem dX7_lay_36 : decode cX7_lay 36 = .ok (.iastore, 1) := by decide +kernel
theorem dX7_lay_37 : decode cX7_lay 37 = .ok (.aload_n 0, 1) := by decide +kernel
theorem dX7_lay_38 : decode cX7_lay 38 = .ok (.getfield 48, 3) := by decide +kernel
theorem dX7_lay_41 : decode cX7_lay 41 = .ok (.aload_n 0, 1) := by decide +kernel
theorem dX7_lay_42 : decode cX7_lay 42 = .ok (.getfield 90, 3) := by decide +kernel
theorem dX7_lay_45 : decode cX7_lay 45 = .ok (.iload_n 3, 1) := by decide +kernel
theorem dX7_lay_46 : decode cX7_lay 46 = .ok (.iastore, 1) := by decide +kernel
theorem dX7_lay_47 : decode cX7_lay 47 = .ok (.aload_n 0, 1) := by decide +kernel
theorem dX7_lay_48 : decode cX7_lay 48 = .ok (.dup, 1) := by decide +kernel
theorem dX7_lay_49 : decode cX7_lay 49 = .ok (.getfield 90, 3) := by decide +kernel
theorem dX7_lay_52 : decode cX7_lay 52 = .ok (.iconst 1, 1) := by decide +kernel
theorem dX7_lay_53 : decode cX7_lay 53 = .ok (.iadd, 1) := by decide +kernel
theorem dX7_lay_54 : decode cX7_lay 54 = .ok (.putfield 90, 3) := by decide +kernel
theorem dX7_lay_57 : decode cX7_lay 57 = .ok (.return_, 1) := by decide +kernel
theorem dX7_layRow_0 : decode cX7_layRow 0 = .ok (.aload_n 0, 1) := by decide +kernel
theorem dX7_layRow_1 : decode cX7_layRow 1 = .ok (.iconst 0, 1) := by decide +kernel
theorem dX7_layRow_2 : decode cX7_layRow 2 = .ok (.putfield 90, 3) := by decide +kernel
theorem dX7_layRow_5 : decode cX7_layRow 5 = .ok (.iconst 0, 1) := by decide +kernel
theorem dX7_layRow_6 : decode cX7_layRow 6 = .ok (.istore 4, 2) := by decide +kernel
theorem dX7_layRow_8 : decode cX7_layRow 8 = .ok (.iload 4, 2) := by decide +kernel
theorem dX7_layRow_10 : decode cX7_layRow 10 = .ok (.aload_n 0, 1) := by decide +kernel
theorem dX7_layRow_11 : decode cX7_layRow 11 = .ok (.getfield 7, 3) := by decide +kernel
theorem dX7_layRow_14 : decode cX7_layRow 14 = .ok (.bipush 7, 2) := by decide +kernel
theorem dX7_layRow_16 : decode cX7_layRow 16 = .ok (.iaload, 1) := by decide +kernel
theorem dX7_layRow_17 : decode cX7_layRow 17 = .ok (.if_icmp .ge 92, 3) := by decide +kernel
theorem dX7_layRow_20 : decode cX7_layRow 20 = .ok (.aload_n 0, 1) := by decide +kernel
theorem dX7_layRow_21 : decode cX7_layRow 21 = .ok (.iload 4, 2) := by decide +kernel
theorem dX7_layRow_23 : decode cX7_layRow 23 = .ok (.invokevirtual 81, 3) := by decide +kernel
theorem dX7_layRow_26 : decode cX7_layRow 26 = .ok (.istore 5, 2) := by decide +kernel
theorem dX7_layRow_28 : decode cX7_layRow 28 = .ok (.aload_n 0, 1) := by decide +kernel
theorem dX7_layRow_29 : decode cX7_layRow 29 = .ok (.iload 4, 2) := by decide +kernel
theorem dX7_layRow_31 : decode cX7_layRow 31 = .ok (.invokevirtual 84, 3) := by decide +kernel
theorem dX7_layRow_34 : decode cX7_layRow 34 = .ok (.istore 6, 2) := by decide +kernel
theorem dX7_layRow_36 : decode cX7_layRow 36 = .ok (.aload_n 0, 1) := by decide +kernel
theorem dX7_layRow_37 : decode cX7_layRow 37 = .ok (.iload 5, 2) := by decide +kernel
theorem dX7_layRow_39 : decode cX7_layRow 39 = .ok (.iload 6, 2) := by decide +kernel
theorem dX7_layRow_41 : decode cX7_layRow 41 = .ok (.iload_n 1, 1) := by decide +kernel
theorem dX7_layRow_42 : decode cX7_layRow 42 = .ok (.if_icmp .ge 8, 3) := by decide +kernel
theorem dX7_layRow_45 : decode cX7_layRow 45 = .ok (.iload 6, 2) := by decide +kernel
theorem dX7_layRow_47 : decode cX7_layRow 47 = .ok (.goto 4, 3) := by decide +kernel
theorem dX7_layRow_50 : decode cX7_layRow 50 = .ok (.iload_n 1, 1) := by decide +kernel
theorem dX7_layRow_51 : decode cX7_layRow 51 = .ok (.aload_n 0, 1) := by decide +kernel
theorem dX7_layRow_52 : decode cX7_layRow 52 = .ok (.iload 4, 2) := by decide +kernel
theorem dX7_layRow_54 : decode cX7_layRow 54 = .ok (.invokevirtual 87, 3) := by decide +kernel
theorem dX7_layRow_57 : decode cX7_layRow 57 = .ok (.invokevirtual 93, 3) := by decide +kernel
theorem dX7_layRow_60 : decode cX7_layRow 60 = .ok (.iload_n 1, 1) := by decide +kernel
theorem dX7_layRow_61 : decode cX7_layRow 61 = .ok (.iload 5, 2) := by decide +kernel
theorem dX7_layRow_63 : decode cX7_layRow 63 = .ok (.if_icmp .lt 16, 3) := by decide +kernel
theorem dX7_layRow_66 : decode cX7_layRow 66 = .ok (.iload_n 1, 1) := by decide +kernel
theorem dX7_layRow_67 : decode cX7_layRow 67 = .ok (.iload 6, 2) := by decide +kernel
theorem dX7_layRow_69 : decode cX7_layRow 69 = .ok (.if_icmp .ge 10, 3) := by decide +kernel
theorem dX7_layRow_72 : decode cX7_layRow 72 = .ok (.aload_n 0, 1) := by decide +kernel
theorem dX7_layRow_73 : decode cX7_layRow 73 = .ok (.iload_n 1, 1) := by decide +kernel
theorem dX7_layRow_74 : decode cX7_layRow 74 = .ok (.iload_n 2, 1) := by decide +kernel
theorem dX7_layRow_75 : decode cX7_layRow 75 = .ok (.iload_n 3, 1) := by decide +kernel
theorem dX7_layRow_76 : decode cX7_layRow 76 = .ok (.invokevirtual 93, 3) := by decide +kernel
theorem dX7_layRow_79 : decode cX7_layRow 79 = .ok (.aload_n 0, 1) := by decide +kernel
theorem dX7_layRow_80 : decode cX7_layRow 80 = .ok (.iload 5, 2) := by decide +kernel
theorem dX7_layRow_82 : decode cX7_layRow 82 = .ok (.iload_n 2, 1) := by decide +kernel
theorem dX7_layRow_83 : decode cX7_layRow 83 = .ok (.if_icmp .le 8, 3) := by decide +kernel
theorem dX7_layRow_86 : decode cX7_layRow 86 = .ok (.iload 5, 2) := by decide +kernel
theorem dX7_layRow_88 : decode cX7_layRow 88 = .ok (.goto 4, 3) := by decide +kernel
theorem dX7_layRow_91 : decode cX7_layRow 91 = .ok (.iload_n 2, 1) := by decide +kernel
theorem dX7_layRow_92 : decode cX7_layRow 92 = .ok (.iload 6, 2) := by decide +kernel
theorem dX7_layRow_94 : decode cX7_layRow 94 = .ok (.aload_n 0, 1) := by decide +kernel
theorem dX7_layRow_95 : decode cX7_layRow 95 = .ok (.iload 4, 2) := by decide +kernel
theorem dX7_layRow_97 : decode cX7_layRow 97 = .ok (.invokevirtual 87, 3) := by decide +kernel
theorem dX7_layRow_100 : decode cX7_layRow 100 = .ok (.invokevirtual 93, 3) := by decide +kernel
theorem dX7_layRow_103 : decode cX7_layRow 103 = .ok (.iinc 4 1, 3) := by decide +kernel
theorem dX7_layRow_106 : decode cX7_layRow 106 = .ok (.goto (-98), 3) := by decide +kernel
theorem dX7_layRow_109 : decode cX7_layRow 109 = .ok (.return_, 1) := by decide +kernel
theorem dX7_rangesInRow_0 : decode cX7_rangesInRow 0 = .ok (.iconst 0, 1) := by decide +kernel
theorem dX7_rangesInRow_1 : decode cX7_rangesInRow 1 = .ok (.istore_n 1, 1) := by decide +kernel
theorem dX7_rangesInRow_2 : decode cX7_rangesInRow 2 = .ok (.iconst 0, 1) := by decide +kernel
theorem dX7_rangesInRow_3 : decode cX7_rangesInRow 3 = .ok (.istore_n 2, 1) := by decide +kernel
theorem dX7_rangesInRow_4 : decode cX7_rangesInRow 4 = .ok (.iload_n 2, 1) := by decide +kernel
theorem dX7_rangesInRow_5 : decode cX7_rangesInRow 5 = .ok (.aload_n 0, 1) := by decide +kernel
theorem dX7_rangesInRow_6 : decode cX7_rangesInRow 6 = .ok (.getfield 90, 3) := by decide +kernel
theorem dX7_rangesInRow_9 : decode cX7_rangesInRow 9 = .ok (.if_icmp .ge 26, 3) := by decide +kernel
theorem dX7_rangesInRow_12 : decode cX7_rangesInRow 12 = .ok (.iload_n 1, 1) := by decide +kernel
theorem dX7_rangesInRow_13 : decode cX7_rangesInRow 13 = .ok (.aload_n 0, 1) := by decide +kernel
theorem dX7_rangesInRow_14 : decode cX7_rangesInRow 14 = .ok (.getfield 48, 3) := by decide +kernel
theorem dX7_rangesInRow_17 : decode cX7_rangesInRow 17 = .ok (.iload_n 2, 1) := by decide +kernel
theorem dX7_rangesInRow_18 : decode cX7_rangesInRow 18 = .ok (.iaload, 1) := by decide +kernel
theorem dX7_rangesInRow_19 : decode cX7_rangesInRow 19 = .ok (.ifCond .lt 7, 3) := by decide +kernel
theorem dX7_rangesInRow_22 : decode cX7_rangesInRow 22 = .ok (.iconst 1, 1) := by decide +kernel
theorem dX7_rangesInRow_23 : decode cX7_rangesInRow 23 = .ok (.goto 4, 3) := by decide +kernel
theorem dX7_rangesInRow_26 : decode cX7_rangesInRow 26 = .ok (.iconst 0, 1) := by decide +kernel
theorem dX7_rangesInRow_27 : decode cX7_rangesInRow 27 = .ok (.iadd, 1) := by decide +kernel
theorem dX7_rangesInRow_28 : decode cX7_rangesInRow 28 = .ok (.istore_n 1, 1) := by decide +kernel
theorem dX7_rangesInRow_29 : decode cX7_rangesInRow 29 = .ok (.iinc 2 1, 3) := by decide +kernel
theorem dX7_rangesInRow_32 : decode cX7_rangesInRow 32 = .ok (.goto (-28), 3) := by decide +kernel
theorem dX7_rangesInRow_35 : decode cX7_rangesInRow 35 = .ok (.iload_n 1, 1) := by decide +kernel
theorem dX7_rangesInRow_36 : decode cX7_rangesInRow 36 = .ok (.ireturn, 1) := by decide +kernel
theorem dX7_takeRow_0 : decode cX7_takeRow 0 = .ok (.aload_n 0, 1) := by decide +kernel
theorem dX7_takeRow_1 : decode cX7_takeRow 1 = .ok (.getfield 7, 3) := by decide +kernel
theorem dX7_takeRow_4 : decode cX7_takeRow 4 = .ok (.bipush 7, 2) := by decide +kernel
theorem dX7_takeRow_6 : decode cX7_takeRow 6 = .ok (.aload_n 0, 1) := by decide +kernel
theorem dX7_takeRow_7 : decode cX7_takeRow 7 = .ok (.getfield 90, 3) := by decide +kernel
theorem dX7_takeRow_10 : decode cX7_takeRow 10 = .ok (.iastore, 1) := by decide +kernel
theorem dX7_takeRow_11 : decode cX7_takeRow 11 = .ok (.iconst 0, 1) := by decide +kernel
theorem dX7_takeRow_12 : decode cX7_takeRow 12 = .ok (.istore_n 1, 1) := by decide +kernel
theorem dX7_takeRow_13 : decode cX7_takeRow 13 = .ok (.iload_n 1, 1) := by decide +kernel
theorem dX7_takeRow_14 : decode cX7_takeRow 14 = .ok (.aload_n 0, 1) := by decide +kernel
theorem dX7_takeRow_15 : decode cX7_takeRow 15 = .ok (.getfield 90, 3) := by decide +kernel
theorem dX7_takeRow_18 : decode cX7_takeRow 18 = .ok (.if_icmp .ge 45, 3) := by decide +kernel
theorem dX7_takeRow_21 : decode cX7_takeRow 21 = .ok (.aload_n 0, 1) := by decide +kernel
theorem dX7_takeRow_22 : decode cX7_takeRow 22 = .ok (.getfield 7, 3) := by decide +kernel
theorem dX7_takeRow_25 : decode cX7_takeRow 25 = .ok (.bipush 100, 2) := by decide +kernel
theorem dX7_takeRow_27 : decode cX7_takeRow 27 = .ok (.iconst 2, 1) := by decide +kernel
theorem dX7_takeRow_28 : decode cX7_takeRow 28 = .ok (.iload_n 1, 1) := by decide +kernel
theorem dX7_takeRow_29 : decode cX7_takeRow 29 = .ok (.imul, 1) := by decide +kernel
theorem dX7_takeRow_30 : decode cX7_takeRow 30 = .ok (.iadd, 1) := by decide +kernel
theorem dX7_takeRow_31 : decode cX7_takeRow 31 = .ok (.aload_n 0, 1) := by decide +kernel
theorem dX7_takeRow_32 : decode cX7_takeRow 32 = .ok (.getfield 45, 3) := by decide +kernel
theorem dX7_takeRow_35 : decode cX7_takeRow 35 = .ok (.iload_n 1, 1) := by decide +kernel
theorem dX7_takeRow_36 : decode cX7_takeRow 36 = .ok (.iaload, 1) := by decide +kernel
theorem dX7_takeRow_37 : decode cX7_takeRow 37 = .ok (.iastore, 1) := by decide +kernel
theorem dX7_takeRow_38 : decode cX7_takeRow 38 = .ok (.aload_n 0, 1) := by decide +kernel
theorem dX7_takeRow_39 : decode cX7_takeRow 39 = .ok (.getfield 7, 3) := by decide +kernel
theorem dX7_takeRow_42 : decode cX7_takeRow 42 = .ok (.bipush 100, 2) := by decide +kernel
theorem dX7_takeRow_44 : decode cX7_takeRow 44 = .ok (.iconst 2, 1) := by decide +kernel
theorem dX7_takeRow_45 : decode cX7_takeRow 45 = .ok (.iload_n 1, 1) := by decide +kernel
theorem dX7_takeRow_46 : decode cX7_takeRow 46 = .ok (.imul, 1) := by decide +kernel
theorem dX7_takeRow_47 : decode cX7_takeRow 47 = .ok (.iadd, 1) := by decide +kernel
theorem dX7_takeRow_48 : decode cX7_takeRow 48 = .ok (.iconst 1, 1) := by decide +kernel
theorem dX7_takeRow_49 : decode cX7_takeRow 49 = .ok (.iadd, 1) := by decide +kernel
theorem dX7_takeRow_50 : decode cX7_takeRow 50 = .ok (.aload_n 0, 1) := by decide +kernel
theorem dX7_takeRow_51 : decode cX7_takeRow 51 = .ok (.getfield 48, 3) := by decide +kernel
theorem dX7_takeRow_54 : decode cX7_takeRow 54 = .ok (.iload_n 1, 1) := by decide +kernel
theorem dX7_takeRow_55 : decode cX7_takeRow 55 = .ok (.iaload, 1) := by decide +kernel
theorem dX7_takeRow_56 : decode cX7_takeRow 56 = .ok (.iastore, 1) := by decide +kernel
theorem dX7_takeRow_57 : decode cX7_takeRow 57 = .ok (.iinc 1 1, 3) := by decide +kernel
theorem dX7_takeRow_60 : decode cX7_takeRow 60 = .ok (.goto (-47), 3) := by decide +kernel
theorem dX7_takeRow_63 : decode cX7_takeRow 63 = .ok (.return_, 1) := by decide +kernel
theorem dX7_isPiece_0 : decode cX7_isPiece 0 = .ok (.iload_n 0, 1) := by decide +kernel
theorem dX7_isPiece_1 : decode cX7_isPiece 1 = .ok (.iconst 0, 1) := by decide +kernel
theorem dX7_isPiece_2 : decode cX7_isPiece 2 = .ok (.sipush 9999, 3) := by decide +kernel
theorem dX7_isPiece_5 : decode cX7_isPiece 5 = .ok (.invokestatic 62, 3) := by decide +kernel
theorem dX7_isPiece_8 : decode cX7_isPiece 8 = .ok (.ifCond .eq 27, 3) := by decide +kernel
theorem dX7_isPiece_11 : decode cX7_isPiece 11 = .ok (.iload_n 1, 1) := by decide +kernel
theorem dX7_isPiece_12 : decode cX7_isPiece 12 = .ok (.iconst 1, 1) := by decide +kernel
theorem dX7_isPiece_13 : decode cX7_isPiece 13 = .ok (.sipush 10000, 3) := by decide +kernel
theorem dX7_isPiece_16 : decode cX7_isPiece 16 = .ok (.invokestatic 62, 3) := by decide +kernel
theorem dX7_isPiece_19 : decode cX7_isPiece 19 = .ok (.ifCond .eq 16, 3) := by decide +kernel
theorem dX7_isPiece_22 : decode cX7_isPiece 22 = .ok (.iload_n 1, 1) := by decide +kernel
theorem dX7_isPiece_23 : decode cX7_isPiece 23 = .ok (.sipush 10000, 3) := by decide +kernel
theorem dX7_isPiece_26 : decode cX7_isPiece 26 = .ok (.iload_n 0, 1) := by decide +kernel
theorem dX7_isPiece_27 : decode cX7_isPiece 27 = .ok (.isub, 1) := by decide +kernel
theorem dX7_isPiece_28 : decode cX7_isPiece 28 = .ok (.if_icmp .gt 7, 3) := by decide +kernel
theorem dX7_isPiece_31 : decode cX7_isPiece 31 = .ok (.iconst 1, 1) := by decide +kernel
theorem dX7_isPiece_32 : decode cX7_isPiece 32 = .ok (.goto 4, 3) := by decide +kernel
theorem dX7_isPiece_35 : decode cX7_isPiece 35 = .ok (.iconst 0, 1) := by decide +kernel
theorem dX7_isPiece_36 : decode cX7_isPiece 36 = .ok (.ireturn, 1) := by decide +kernel
theorem dX7_metersIn_0 : decode cX7_metersIn 0 = .ok (.iconst 0, 1) := by decide +kernel
theorem dX7_metersIn_1 : decode cX7_metersIn 1 = .ok (.istore 4, 2) := by decide +kernel
theorem dX7_metersIn_3 : decode cX7_metersIn 3 = .ok (.iconst 0, 1) := by decide +kernel
theorem dX7_metersIn_4 : decode cX7_metersIn 4 = .ok (.istore 5, 2) := by decide +kernel
theorem dX7_metersIn_6 : decode cX7_metersIn 6 = .ok (.iload 5, 2) := by decide +kernel
theorem dX7_metersIn_8 : decode cX7_metersIn 8 = .ok (.aload_n 0, 1) := by decide +kernel
theorem dX7_metersIn_9 : decode cX7_metersIn 9 = .ok (.getfield 7, 3) := by decide +kernel
theorem dX7_metersIn_12 : decode cX7_metersIn 12 = .ok (.bipush 7, 2) := by decide +kernel
theorem dX7_metersIn_14 : decode cX7_metersIn 14 = .ok (.iaload, 1) := by decide +kernel
theorem dX7_metersIn_15 : decode cX7_metersIn 15 = .ok (.if_icmp .ge 84, 3) := by decide +kernel
theorem dX7_metersIn_18 : decode cX7_metersIn 18 = .ok (.aload_n 0, 1) := by decide +kernel
theorem dX7_metersIn_19 : decode cX7_metersIn 19 = .ok (.iload 5, 2) := by decide +kernel
theorem dX7_metersIn_21 : decode cX7_metersIn 21 = .ok (.invokevirtual 81, 3) := by decide +kernel
theorem dX7_metersIn_24 : decode cX7_metersIn 24 = .ok (.iload_n 1, 1) := by decide +kernel
theorem dX7_metersIn_25 : decode cX7_metersIn 25 = .ok (.if_icmp .le 12, 3) := by decide +kernel
theorem dX7_metersIn_28 : decode cX7_metersIn 28 = .ok (.aload_n 0, 1) := by decide +kernel
theorem dX7_metersIn_29 : decode cX7_metersIn 29 = .ok (.iload 5, 2) := by decide +kernel
theorem dX7_metersIn_31 : decode cX7_metersIn 31 = .ok (.invokevirtual 81, 3) := by decide +kernel
theorem dX7_metersIn_34 : decode cX7_metersIn 34 = .ok (.goto 4, 3) := by decide +kernel
theorem dX7_metersIn_37 : decode cX7_metersIn 37 = .ok (.iload_n 1, 1) := by decide +kernel
theorem dX7_metersIn_38 : decode cX7_metersIn 38 = .ok (.istore 6, 2) := by decide +kernel
theorem dX7_metersIn_40 : decode cX7_metersIn 40 = .ok (.aload_n 0, 1) := by decide +kernel
theorem dX7_metersIn_41 : decode cX7_metersIn 41 = .ok (.iload 5, 2) := by decide +kernel
theorem dX7_metersIn_43 : decode cX7_metersIn 43 = .ok (.invokevirtual 84, 3) := by decide +kernel
theorem dX7_metersIn_46 : decode cX7_metersIn 46 = .ok (.iload_n 2, 1) := by decide +kernel
theorem dX7_metersIn_47 : decode cX7_metersIn 47 = .ok (.if_icmp .ge 12, 3) := by decide +kernel
theorem dX7_metersIn_50 : decode cX7_metersIn 50 = .ok (.aload_n 0, 1) := by decide +kernel
theorem dX7_metersIn_51 : decode cX7_metersIn 51 = .ok (.iload 5, 2) := by decide +kernel
theorem dX7_metersIn_53 : decode cX7_metersIn 53 = .ok (.invokevirtual 84, 3) := by decide +kernel
theorem dX7_metersIn_56 : decode cX7_metersIn 56 = .ok (.goto 4, 3) := by decide +kernel
theorem dX7_metersIn_59 : decode cX7_metersIn 59 = .ok (.iload_n 2, 1) := by decide +kernel
theorem dX7_metersIn_60 : decode cX7_metersIn 60 = .ok (.istore 7, 2) := by decide +kernel
theorem dX7_metersIn_62 : decode cX7_metersIn 62 = .ok (.iload 4, 2) := by decide +kernel
theorem dX7_metersIn_64 : decode cX7_metersIn 64 = .ok (.aload_n 0, 1) := by decide +kernel
theorem dX7_metersIn_65 : decode cX7_metersIn 65 = .ok (.iload 5, 2) := by decide +kernel
theorem dX7_metersIn_67 : decode cX7_metersIn 67 = .ok (.invokevirtual 87, 3) := by decide +kernel
theorem dX7_metersIn_70 : decode cX7_metersIn 70 = .ok (.iload_n 3, 1) := by decide +kernel
theorem dX7_metersIn_71 : decode cX7_metersIn 71 = .ok (.if_icmp .ne 18, 3) := by decide +kernel
theorem dX7_metersIn_74 : decode cX7_metersIn 74 = .ok (.iload 7, 2) := by decide +kernel
theorem dX7_metersIn_76 : decode cX7_metersIn 76 = .ok (.iload 6, 2) := by decide +kernel
theorem dX7_metersIn_78 : decode cX7_metersIn 78 = .ok (.if_icmp .le 11, 3) := by decide +kernel
theorem dX7_metersIn_81 : decode cX7_metersIn 81 = .ok (.iload 7, 2) := by decide +kernel
theorem dX7_metersIn_83 : decode cX7_metersIn 83 = .ok (.iload 6, 2) := by decide +kernel
theorem dX7_metersIn_85 : decode cX7_metersIn 85 = .ok (.isub, 1) := by decide +kernel
theorem dX7_metersIn_86 : decode cX7_metersIn 86 = .ok (.goto 4, 3) := by decide +kernel
theorem dX7_metersIn_89 : decode cX7_metersIn 89 = .ok (.iconst 0, 1) := by decide +kernel
theorem dX7_metersIn_90 : decode cX7_metersIn 90 = .ok (.iadd, 1) := by decide +kernel
theorem dX7_metersIn_91 : decode cX7_metersIn 91 = .ok (.istore 4, 2) := by decide +kernel
theorem dX7_metersIn_93 : decode cX7_metersIn 93 = .ok (.iinc 5 1, 3) := by decide +kernel
theorem dX7_metersIn_96 : decode cX7_metersIn 96 = .ok (.goto (-90), 3) := by decide +kernel
theorem dX7_metersIn_99 : decode cX7_metersIn 99 = .ok (.iload 4, 2) := by decide +kernel
theorem dX7_metersIn_101 : decode cX7_metersIn 101 = .ok (.ireturn, 1) := by decide +kernel
theorem dX7_metersOf_0 : decode cX7_metersOf 0 = .ok (.aload_n 0, 1) := by decide +kernel
theorem dX7_metersOf_1 : decode cX7_metersOf 1 = .ok (.iconst 0, 1) := by decide +kernel
theorem dX7_metersOf_2 : decode cX7_metersOf 2 = .ok (.sipush 10000, 3) := by decide +kernel
theorem dX7_metersOf_5 : decode cX7_metersOf 5 = .ok (.iload_n 1, 1) := by decide +kernel
theorem dX7_metersOf_6 : decode cX7_metersOf 6 = .ok (.invokevirtual 97, 3) := by decide +kernel
theorem dX7_metersOf_9 : decode cX7_metersOf 9 = .ok (.ireturn, 1) := by decide +kernel
theorem dX7_mayGet_0 : decode cX7_mayGet 0 = .ok (.iload_n 2, 1) := by decide +kernel
theorem dX7_mayGet_1 : decode cX7_mayGet 1 = .ok (.ifCond .eq 19, 3) := by decide +kernel
theorem dX7_mayGet_4 : decode cX7_mayGet 4 = .ok (.aload_n 0, 1) := by decide +kernel
theorem dX7_mayGet_5 : decode cX7_mayGet 5 = .ok (.iload_n 1, 1) := by decide +kernel
theorem dX7_mayGet_6 : decode cX7_mayGet 6 = .ok (.invokevirtual 101, 3) := by decide +kernel
theorem dX7_mayGet_9 : decode cX7_mayGet 9 = .ok (.iload_n 2, 1) := by decide +kernel
theorem dX7_mayGet_10 : decode cX7_mayGet 10 = .ok (.iadd, 1) := by decide +kernel
theorem dX7_mayGet_11 : decode cX7_mayGet 11 = .ok (.aload_n 0, 1) := by decide +kernel
theorem dX7_mayGet_12 : decode cX7_mayGet 12 = .ok (.getfield 7, 3) := by decide +kernel
theorem dX7_mayGet_15 : decode cX7_mayGet 15 = .ok (.iconst 4, 1) := by decide +kernel
theorem dX7_mayGet_16 : decode cX7_mayGet 16 = .ok (.iaload, 1) := by decide +kernel
theorem dX7_mayGet_17 : decode cX7_mayGet 17 = .ok (.if_icmp .gt 7, 3) := by decide +kernel
theorem dX7_mayGet_20 : decode cX7_mayGet 20 = .ok (.iconst 1, 1) := by decide +kernel
theorem dX7_mayGet_21 : decode cX7_mayGet 21 = .ok (.goto 4, 3) := by decide +kernel
theorem dX7_mayGet_24 : decode cX7_mayGet 24 = .ok (.iconst 0, 1) := by decide +kernel
theorem dX7_mayGet_25 : decode cX7_mayGet 25 = .ok (.ireturn, 1) := by decide +kernel
theorem dX7_give_0 : decode cX7_give 0 = .ok (.aload_n 0, 1) := by decide +kernel
theorem dX7_give_1 : decode cX7_give 1 = .ok (.iload_n 1, 1) := by decide +kernel
theorem dX7_give_2 : decode cX7_give 2 = .ok (.invokevirtual 77, 3) := by decide +kernel
theorem dX7_give_5 : decode cX7_give 5 = .ok (.ifCond .ne 5, 3) := by decide +kernel
theorem dX7_give_8 : decode cX7_give 8 = .ok (.iconst (-1), 1) := by decide +kernel
theorem dX7_give_9 : decode cX7_give 9 = .ok (.ireturn, 1) := by decide +kernel
theorem dX7_give_10 : decode cX7_give 10 = .ok (.iload_n 2, 1) := by decide +kernel
theorem dX7_give_11 : decode cX7_give 11 = .ok (.iload_n 3, 1) := by decide +kernel
theorem dX7_give_12 : decode cX7_give 12 = .ok (.invokestatic 104, 3) := by decide +kernel
theorem dX7_give_15 : decode cX7_give 15 = .ok (.ifCond .ne 6, 3) := by decide +kernel
theorem dX7_give_18 : decode cX7_give 18 = .ok (.bipush (-2), 2) := by decide +kernel
theorem dX7_give_20 : decode cX7_give 20 = .ok (.ireturn, 1) := by decide +kernel
theorem dX7_give_21 : decode cX7_give 21 = .ok (.aload_n 0, 1) := by decide +kernel
theorem dX7_give_22 : decode cX7_give 22 = .ok (.iload_n 2, 1) := by decide +kernel
theorem dX7_give_23 : decode cX7_give 23 = .ok (.iload_n 2, 1) := by decide +kernel
theorem dX7_give_24 : decode cX7_give 24 = .ok (.iload_n 3, 1) := by decide +kernel
theorem dX7_give_25 : decode cX7_give 25 = .ok (.iadd, 1) := by decide +kernel
theorem dX7_give_26 : decode cX7_give 26 = .ok (.iload_n 1, 1) := by decide +kernel
theorem dX7_give_27 : decode cX7_give 27 = .ok (.invokevirtual 108, 3) := by decide +kernel
theorem dX7_give_30 : decode cX7_give 30 = .ok (.aload_n 0, 1) := by decide +kernel
theorem dX7_give_31 : decode cX7_give 31 = .ok (.invokevirtual 111, 3) := by decide +kernel
theorem dX7_give_34 : decode cX7_give 34 = .ok (.bipush 40, 2) := by decide +kernel
theorem dX7_give_36 : decode cX7_give 36 = .ok (.if_icmp .le 6, 3) := by decide +kernel
theorem dX7_give_39 : decode cX7_give 39 = .ok (.bipush (-4), 2) := by decide +kernel
theorem dX7_give_41 : decode cX7_give 41 = .ok (.ireturn, 1) := by decide +kernel
theorem dX7_give_42 : decode cX7_give 42 = .ok (.aload_n 0, 1) := by decide +kernel
theorem dX7_give_43 : decode cX7_give 43 = .ok (.iload_n 1, 1) := by decide +kernel
theorem dX7_give_44 : decode cX7_give 44 = .ok (.iload_n 3, 1) := by decide +kernel
theorem dX7_give_45 : decode cX7_give 45 = .ok (.aload_n 0, 1) := by decide +kernel
theorem dX7_give_46 : decode cX7_give 46 = .ok (.iload_n 2, 1) := by decide +kernel
theorem dX7_give_47 : decode cX7_give 47 = .ok (.iload_n 2, 1) := by decide +kernel
theorem dX7_give_48 : decode cX7_give 48 = .ok (.iload_n 3, 1) := by decide +kernel
theorem dX7_give_49 : decode cX7_give 49 = .ok (.iadd, 1) := by decide +kernel
theorem dX7_give_50 : decode cX7_give 50 = .ok (.iload_n 1, 1) := by decide +kernel
theorem dX7_give_51 : decode cX7_give 51 = .ok (.invokevirtual 97, 3) := by decide +kernel
theorem dX7_give_54 : decode cX7_give 54 = .ok (.isub, 1) := by decide +kernel
theorem dX7_give_55 : decode cX7_give 55 = .ok (.invokevirtual 115, 3) := by decide +kernel
theorem dX7_give_58 : decode cX7_give 58 = .ok (.ifCond .ne 6, 3) := by decide +kernel
theorem dX7_give_61 : decode cX7_give 61 = .ok (.bipush (-5), 2) := by decide +kernel
theorem dX7_give_63 : decode cX7_give 63 = .ok (.ireturn, 1) := by decide +kernel
theorem dX7_give_64 : decode cX7_give 64 = .ok (.aload_n 0, 1) := by decide +kernel
theorem dX7_give_65 : decode cX7_give 65 = .ok (.invokevirtual 73, 3) := by decide +kernel
theorem dX7_give_68 : decode cX7_give 68 = .ok (.aload_n 0, 1) := by decide +kernel
theorem dX7_give_69 : decode cX7_give 69 = .ok (.invokevirtual 118, 3) := by decide +kernel
theorem dX7_give_72 : decode cX7_give 72 = .ok (.aload_n 0, 1) := by decide +kernel
theorem dX7_give_73 : decode cX7_give 73 = .ok (.invokevirtual 121, 3) := by decide +kernel
theorem dX7_give_76 : decode cX7_give 76 = .ok (.ireturn, 1) := by decide +kernel
theorem dX7_free_0 : decode cX7_free 0 = .ok (.iload_n 1, 1) := by decide +kernel
theorem dX7_free_1 : decode cX7_free 1 = .ok (.iload_n 2, 1) := by decide +kernel
theorem dX7_free_2 : decode cX7_free 2 = .ok (.invokestatic 104, 3) := by decide +kernel
theorem dX7_free_5 : decode cX7_free 5 = .ok (.ifCond .ne 6, 3) := by decide +kernel
theorem dX7_free_8 : decode cX7_free 8 = .ok (.bipush (-2), 2) := by decide +kernel
theorem dX7_free_10 : decode cX7_free 10 = .ok (.ireturn, 1) := by decide +kernel
theorem dX7_free_11 : decode cX7_free 11 = .ok (.aload_n 0, 1) := by decide +kernel
theorem dX7_free_12 : decode cX7_free 12 = .ok (.iload_n 1, 1) := by decide +kernel
theorem dX7_free_13 : decode cX7_free 13 = .ok (.iload_n 1, 1) := by decide +kernel
theorem dX7_free_14 : decode cX7_free 14 = .ok (.iload_n 2, 1) := by decide +kernel
theorem dX7_free_15 : decode cX7_free 15 = .ok (.iadd, 1) := by decide +kernel
theorem dX7_free_16 : decode cX7_free 16 = .ok (.bipush (-6), 2) := by decide +kernel
theorem dX7_free_18 : decode cX7_free 18 = .ok (.invokevirtual 108, 3) := by decide +kernel
theorem dX7_free_21 : decode cX7_free 21 = .ok (.aload_n 0, 1) := by decide +kernel
theorem dX7_free_22 : decode cX7_free 22 = .ok (.invokevirtual 111, 3) := by decide +kernel
theorem dX7_free_25 : decode cX7_free 25 = .ok (.bipush 40, 2) := by decide +kernel
theorem dX7_free_27 : decode cX7_free 27 = .ok (.if_icmp .le 6, 3) := by decide +kernel
theorem dX7_free_30 : decode cX7_free 30 = .ok (.bipush (-4), 2) := by decide +kernel
theorem dX7_free_32 : decode cX7_free 32 = .ok (.ireturn, 1) := by decide +kernel
theorem dX7_free_33 : decode cX7_free 33 = .ok (.aload_n 0, 1) := by decide +kernel
theorem dX7_free_34 : decode cX7_free 34 = .ok (.invokevirtual 73, 3) := by decide +kernel
theorem dX7_free_37 : decode cX7_free 37 = .ok (.aload_n 0, 1) := by decide +kernel
theorem dX7_free_38 : decode cX7_free 38 = .ok (.invokevirtual 118, 3) := by decide +kernel
theorem dX7_free_41 : decode cX7_free 41 = .ok (.aload_n 0, 1) := by decide +kernel
theorem dX7_free_42 : decode cX7_free 42 = .ok (.invokevirtual 121, 3) := by decide +kernel
theorem dX7_free_45 : decode cX7_free 45 = .ok (.ireturn, 1) := by decide +kernel
theorem dX7_holeFor_0 : decode cX7_holeFor 0 = .ok (.bipush (-6), 2) := by decide +kernel
theorem dX7_holeFor_2 : decode cX7_holeFor 2 = .ok (.istore_n 3, 1) := by decide +kernel
theorem dX7_holeFor_3 : decode cX7_holeFor 3 = .ok (.iconst 0, 1) := by decide +kernel
theorem dX7_holeFor_4 : decode cX7_holeFor 4 = .ok (.istore 4, 2) := by decide +kernel
theorem dX7_holeFor_6 : decode cX7_holeFor 6 = .ok (.iload 4, 2) := by decide +kernel
theorem dX7_holeFor_8 : decode cX7_holeFor 8 = .ok (.aload_n 0, 1) := by decide +kernel
theorem dX7_holeFor_9 : decode cX7_holeFor 9 = .ok (.getfield 7, 3) := by decide +kernel
theorem dX7_holeFor_12 : decode cX7_holeFor 12 = .ok (.bipush 7, 2) := by decide +kernel
theorem dX7_holeFor_14 : decode cX7_holeFor 14 = .ok (.iaload, 1) := by decide +kernel
theorem dX7_holeFor_15 : decode cX7_holeFor 15 = .ok (.if_icmp .ge 101, 3) := by decide +kernel
theorem dX7_holeFor_18 : decode cX7_holeFor 18 = .ok (.aload_n 0, 1) := by decide +kernel
theorem dX7_holeFor_19 : decode cX7_holeFor 19 = .ok (.iload 4, 2) := by decide +kernel
theorem dX7_holeFor_21 : decode cX7_holeFor 21 = .ok (.invokevirtual 87, 3) := by decide +kernel
theorem dX7_holeFor_24 : decode cX7_holeFor 24 = .ok (.ifCond .ge 17, 3) := by decide +kernel
theorem dX7_holeFor_27 : decode cX7_holeFor 27 = .ok (.aload_n 0, 1) := by decide +kernel
theorem dX7_holeFor_28 : decode cX7_holeFor 28 = .ok (.iload 4, 2) := by decide +kernel
theorem dX7_holeFor_30 : decode cX7_holeFor 30 = .ok (.invokevirtual 124, 3) := by decide +kernel
theorem dX7_holeFor_33 : decode cX7_holeFor 33 = .ok (.iload_n 1, 1) := by decide +kernel
theorem dX7_holeFor_34 : decode cX7_holeFor 34 = .ok (.if_icmp .lt 7, 3) := by decide +kernel
theorem dX7_holeFor_37 : decode cX7_holeFor 37 = .ok (.iconst 1, 1) := by decide +kernel
theorem dX7_holeFor_38 : decode cX7_holeFor 38 = .ok (.goto 4, 3) := by decide +kernel
theorem dX7_holeFor_41 : decode cX7_holeFor 41 = .ok (.iconst 0, 1) := by decide +kernel
theorem dX7_holeFor_42 : decode cX7_holeFor 42 = .ok (.istore 5, 2) := by decide +kernel
theorem dX7_holeFor_44 : decode cX7_holeFor 44 = .ok (.iload_n 3, 1) := by decide +kernel
theorem dX7_holeFor_45 : decode cX7_holeFor 45 = .ok (.ifCond .lt 41, 3) := by decide +kernel
theorem dX7_holeFor_48 : decode cX7_holeFor 48 = .ok (.iload_n 2, 1) := by decide +kernel
theorem dX7_holeFor_49 : decode cX7_holeFor 49 = .ok (.iconst 1, 1) := by decide +kernel
theorem dX7_holeFor_50 : decode cX7_holeFor 50 = .ok (.if_icmp .ne 17, 3) := by decide +kernel
theorem dX7_holeFor_53 : decode cX7_holeFor 53 = .ok (.aload_n 0, 1) := by decide +kernel
theorem dX7_holeFor_54 : decode cX7_holeFor 54 = .ok (.iload 4, 2) := by decide +kernel
theorem dX7_holeFor_56 : decode cX7_holeFor 56 = .ok (.invokevirtual 124, 3) := by decide +kernel
theorem dX7_holeFor_59 : decode cX7_holeFor 59 = .ok (.aload_n 0, 1) := by decide +kernel
theorem dX7_holeFor_60 : decode cX7_holeFor 60 = .ok (.iload_n 3, 1) := by decide +kernel
theorem dX7_holeFor_61 : decode cX7_holeFor 61 = .ok (.invokevirtual 124, 3) := by decide +kernel
theorem dX7_holeFor_64 : decode cX7_holeFor 64 = .ok (.if_icmp .lt 22, 3) := by decide +kernel
theorem dX7_holeFor_67 : decode cX7_holeFor 67 = .ok (.iload_n 2, 1) := by decide +kernel
theorem dX7_holeFor_68 : decode cX7_holeFor 68 = .ok (.iconst 2, 1) := by decide +kernel
theorem dX7_holeFor_69 : decode cX7_holeFor 69 = .ok (.if_icmp .ne 21, 3) := by decide +kernel
theorem dX7_holeFor_72 : decode cX7_holeFor 72 = .ok (.aload_n 0, 1) := by decide +kernel
theorem dX7_holeFor_73 : decode cX7_holeFor 73 = .ok (.iload 4, 2) := by decide +kernel
theorem dX7_holeFor_75 : decode cX7_holeFor 75 = .ok (.invokevirtual 124, 3) := by decide +kernel
theorem dX7_holeFor_78 : decode cX7_holeFor 78 = .ok (.aload_n 0, 1) := by decide +kernel
theorem dX7_holeFor_79 : decode cX7_holeFor 79 = .ok (.iload_n 3, 1) := by decide +kernel
theorem dX7_holeFor_80 : decode cX7_holeFor 80 = .ok (.invokevirtual 124, 3) := by decide +kernel
theorem dX7_holeFor_83 : decode cX7_holeFor 83 = .ok (.if_icmp .le 7, 3) := by decide +kernel
theorem dX7_holeFor_86 : decode cX7_holeFor 86 = .ok (.iconst 1, 1) := by decide +kernel
theorem dX7_holeFor_87 : decode cX7_holeFor 87 = .ok (.goto 4, 3) := by decide +kernel
theorem dX7_holeFor_90 : decode cX7_holeFor 90 = .ok (.iconst 0, 1) := by decide +kernel
theorem dX7_holeFor_91 : decode cX7_holeFor 91 = .ok (.istore 6, 2) := by decide +kernel
theorem dX7_holeFor_93 : decode cX7_holeFor 93 = .ok (.iload 5, 2) := by decide +kernel
theorem dX7_holeFor_95 : decode cX7_holeFor 95 = .ok (.ifCond .eq 13, 3) := by decide +kernel
theorem dX7_holeFor_98 : decode cX7_holeFor 98 = .ok (.iload 6, 2) := by decide +kernel
theorem dX7_holeFor_100 : decode cX7_holeFor 100 = .ok (.ifCond .eq 8, 3) := by decide +kernel
theorem dX7_holeFor_103 : decode cX7_holeFor 103 = .ok (.iload 4, 2) := by decide +kernel
theorem dX7_holeFor_105 : decode cX7_holeFor 105 = .ok (.goto 4, 3) := by decide +kernel
theorem dX7_holeFor_108 : decode cX7_holeFor 108 = .ok (.iload_n 3, 1) := by decide +kernel
theorem dX7_holeFor_109 : decode cX7_holeFor 109 = .ok (.istore_n 3, 1) := by decide +kernel
theorem dX7_holeFor_110 : decode cX7_holeFor 110 = .ok (.iinc 4 1, 3) := by decide +kernel
theorem dX7_holeFor_113 : decode cX7_holeFor 113 = .ok (.goto (-107), 3) := by decide +kernel
theorem dX7_holeFor_116 : decode cX7_holeFor 116 = .ok (.iload_n 3, 1) := by decide +kernel
theorem dX7_holeFor_117 : decode cX7_holeFor 117 = .ok (.ifCond .ge 8, 3) := by decide +kernel
theorem dX7_holeFor_120 : decode cX7_holeFor 120 = .ok (.bipush (-6), 2) := by decide +kernel
theorem dX7_holeFor_122 : decode cX7_holeFor 122 = .ok (.goto 8, 3) := by decide +kernel
theorem dX7_holeFor_125 : decode cX7_holeFor 125 = .ok (.aload_n 0, 1) := by decide +kernel
theorem dX7_holeFor_126 : decode cX7_holeFor 126 = .ok (.iload_n 3, 1) := by decide +kernel
theorem dX7_holeFor_127 : decode cX7_holeFor 127 = .ok (.invokevirtual 81, 3) := by decide +kernel
theorem dX7_holeFor_130 : decode cX7_holeFor 130 = .ok (.ireturn, 1) := by decide +kernel
theorem dX7_grab_0 : decode cX7_grab 0 = .ok (.aload_n 0, 1) := by decide +kernel
theorem dX7_grab_1 : decode cX7_grab 1 = .ok (.iload_n 1, 1) := by decide +kernel
theorem dX7_grab_2 : decode cX7_grab 2 = .ok (.invokevirtual 77, 3) := by decide +kernel
theorem dX7_grab_5 : decode cX7_grab 5 = .ok (.ifCond .ne 5, 3) := by decide +kernel
theorem dX7_grab_8 : decode cX7_grab 8 = .ok (.iconst (-1), 1) := by decide +kernel
theorem dX7_grab_9 : decode cX7_grab 9 = .ok (.ireturn, 1) := by decide +kernel
theorem dX7_grab_10 : decode cX7_grab 10 = .ok (.iload_n 2, 1) := by decide +kernel
theorem dX7_grab_11 : decode cX7_grab 11 = .ok (.iconst 1, 1) := by decide +kernel
theorem dX7_grab_12 : decode cX7_grab 12 = .ok (.sipush 10000, 3) := by decide +kernel
theorem dX7_grab_15 : decode cX7_grab 15 = .ok (.invokestatic 62, 3) := by decide +kernel
theorem dX7_grab_18 : decode cX7_grab 18 = .ok (.ifCond .ne 6, 3) := by decide +kernel
theorem dX7_grab_21 : decode cX7_grab 21 = .ok (.bipush (-2), 2) := by decide +kernel
theorem dX7_grab_23 : decode cX7_grab 23 = .ok (.ireturn, 1) := by decide +kernel
theorem dX7_grab_24 : decode cX7_grab 24 = .ok (.aload_n 0, 1) := by decide +kernel
theorem dX7_grab_25 : decode cX7_grab 25 = .ok (.iload_n 2, 1) := by decide +kernel
theorem dX7_grab_26 : decode cX7_grab 26 = .ok (.iconst 0, 1) := by decide +kernel
theorem dX7_grab_27 : decode cX7_grab 27 = .ok (.invokevirtual 127, 3) := by decide +kernel
theorem dX7_grab_30 : decode cX7_grab 30 = .ok (.istore_n 3, 1) := by decide +kernel
theorem dX7_grab_31 : decode cX7_grab 31 = .ok (.iload_n 3, 1) := by decide +kernel
theorem dX7_grab_32 : decode cX7_grab 32 = .ok (.ifCond .lt 24, 3) := by decide +kernel
theorem dX7_grab_35 : decode cX7_grab 35 = .ok (.aload_n 0, 1) := by decide +kernel
theorem dX7_grab_36 : decode cX7_grab 36 = .ok (.iload_n 3, 1) := by decide +kernel
theorem dX7_grab_37 : decode cX7_grab 37 = .ok (.iload_n 3, 1) := by decide +kernel
theorem dX7_grab_38 : decode cX7_grab 38 = .ok (.iload_n 2, 1) := by decide +kernel
theorem dX7_grab_39 : decode cX7_grab 39 = .ok (.iadd, 1) := by decide +kernel
theorem dX7_grab_40 : decode cX7_grab 40 = .ok (.iload_n 1, 1) := by decide +kernel
theorem dX7_grab_41 : decode cX7_grab 41 = .ok (.invokevirtual 108, 3) := by decide +kernel
theorem dX7_grab_44 : decode cX7_grab 44 = .ok (.aload_n 0, 1) := by decide +kernel
theorem dX7_grab_45 : decode cX7_grab 45 = .ok (.invokevirtual 111, 3) := by decide +kernel
theorem dX7_grab_48 : decode cX7_grab 48 = .ok (.bipush 40, 2) := by decide +kernel
theorem dX7_grab_50 : decode cX7_grab 50 = .ok (.if_icmp .le 6, 3) := by decide +kernel
theorem dX7_grab_53 : decode cX7_grab 53 = .ok (.bipush (-4), 2) := by decide +kernel
theorem dX7_grab_55 : decode cX7_grab 55 = .ok (.ireturn, 1) := by decide +kernel
theorem dX7_grab_56 : decode cX7_grab 56 = .ok (.iload_n 3, 1) := by decide +kernel
theorem dX7_grab_57 : decode cX7_grab 57 = .ok (.ifCond .lt 12, 3) := by decide +kernel
theorem dX7_grab_60 : decode cX7_grab 60 = .ok (.aload_n 0, 1) := by decide +kernel
theorem dX7_grab_61 : decode cX7_grab 61 = .ok (.iload_n 1, 1) := by decide +kernel
theorem dX7_grab_62 : decode cX7_grab 62 = .ok (.iload_n 2, 1) := by decide +kernel
theorem dX7_grab_63 : decode cX7_grab 63 = .ok (.invokevirtual 115, 3) := by decide +kernel
theorem dX7_grab_66 : decode cX7_grab 66 = .ok (.ifCond .ne 6, 3) := by decide +kernel
theorem dX7_grab_69 : decode cX7_grab 69 = .ok (.bipush (-5), 2) := by decide +kernel
theorem dX7_grab_71 : decode cX7_grab 71 = .ok (.ireturn, 1) := by decide +kernel
theorem dX7_grab_72 : decode cX7_grab 72 = .ok (.aload_n 0, 1) := by decide +kernel
theorem dX7_grab_73 : decode cX7_grab 73 = .ok (.invokevirtual 73, 3) := by decide +kernel
theorem dX7_grab_76 : decode cX7_grab 76 = .ok (.aload_n 0, 1) := by decide +kernel
theorem dX7_grab_77 : decode cX7_grab 77 = .ok (.invokevirtual 118, 3) := by decide +kernel
theorem dX7_grab_80 : decode cX7_grab 80 = .ok (.iload_n 3, 1) := by decide +kernel
theorem dX7_grab_81 : decode cX7_grab 81 = .ok (.ireturn, 1) := by decide +kernel
theorem dX7_layAll_0 : decode cX7_layAll 0 = .ok (.aload_n 0, 1) := by decide +kernel
theorem dX7_layAll_1 : decode cX7_layAll 1 = .ok (.iconst 0, 1) := by decide +kernel
theorem dX7_layAll_2 : decode cX7_layAll 2 = .ok (.putfield 90, 3) := by decide +kernel
theorem dX7_layAll_5 : decode cX7_layAll 5 = .ok (.iconst 0, 1) := by decide +kernel
theorem dX7_layAll_6 : decode cX7_layAll 6 = .ok (.istore_n 3, 1) := by decide +kernel
theorem dX7_layAll_7 : decode cX7_layAll 7 = .ok (.iload_n 3, 1) := by decide +kernel
theorem dX7_layAll_8 : decode cX7_layAll 8 = .ok (.aload_n 0, 1) := by decide +kernel
theorem dX7_layAll_9 : decode cX7_layAll 9 = .ok (.getfield 7, 3) := by decide +kernel
theorem dX7_layAll_12 : decode cX7_layAll 12 = .ok (.bipush 7, 2) := by decide +kernel
theorem dX7_layAll_14 : decode cX7_layAll 14 = .ok (.iaload, 1) := by decide +kernel
theorem dX7_layAll_15 : decode cX7_layAll 15 = .ok (.if_icmp .ge 41, 3) := by decide +kernel
theorem dX7_layAll_18 : decode cX7_layAll 18 = .ok (.aload_n 0, 1) := by decide +kernel
theorem dX7_layAll_19 : decode cX7_layAll 19 = .ok (.aload_n 0, 1) := by decide +kernel
theorem dX7_layAll_20 : decode cX7_layAll 20 = .ok (.iload_n 3, 1) := by decide +kernel
theorem dX7_layAll_21 : decode cX7_layAll 21 = .ok (.invokevirtual 81, 3) := by decide +kernel
theorem dX7_layAll_24 : decode cX7_layAll 24 = .ok (.aload_n 0, 1) := by decide +kernel
theorem dX7_layAll_25 : decode cX7_layAll 25 = .ok (.iload_n 3, 1) := by decide +kernel
theorem dX7_layAll_26 : decode cX7_layAll 26 = .ok (.invokevirtual 84, 3) := by decide +kernel
theorem dX7_layAll_29 : decode cX7_layAll 29 = .ok (.aload_n 0, 1) := by decide +kernel
theorem dX7_layAll_30 : decode cX7_layAll 30 = .ok (.iload_n 3, 1) := by decide +kernel
theorem dX7_layAll_31 : decode cX7_layAll 31 = .ok (.invokevirtual 87, 3) := by decide +kernel
theorem dX7_layAll_34 : decode cX7_layAll 34 = .ok (.iload_n 1, 1) := by decide +kernel
theorem dX7_layAll_35 : decode cX7_layAll 35 = .ok (.if_icmp .ne 7, 3) := by decide +kernel
theorem dX7_layAll_38 : decode cX7_layAll 38 = .ok (.iload_n 2, 1) := by decide +kernel
theorem dX7_layAll_39 : decode cX7_layAll 39 = .ok (.goto 8, 3) := by decide +kernel
theorem dX7_layAll_42 : decode cX7_layAll 42 = .ok (.aload_n 0, 1) := by decide +kernel
theorem dX7_layAll_43 : decode cX7_layAll 43 = .ok (.iload_n 3, 1) := by decide +kernel
theorem dX7_layAll_44 : decode cX7_layAll 44 = .ok (.invokevirtual 87, 3) := by decide +kernel
theorem dX7_layAll_47 : decode cX7_layAll 47 = .ok (.invokevirtual 93, 3) := by decide +kernel
theorem dX7_layAll_50 : decode cX7_layAll 50 = .ok (.iinc 3 1, 3) := by decide +kernel
theorem dX7_layAll_53 : decode cX7_layAll 53 = .ok (.goto (-46), 3) := by decide +kernel
theorem dX7_layAll_56 : decode cX7_layAll 56 = .ok (.return_, 1) := by decide +kernel
theorem dX7_inherit_0 : decode cX7_inherit 0 = .ok (.aload_n 0, 1) := by decide +kernel
theorem dX7_inherit_1 : decode cX7_inherit 1 = .ok (.iload_n 1, 1) := by decide +kernel
theorem dX7_inherit_2 : decode cX7_inherit 2 = .ok (.invokevirtual 77, 3) := by decide +kernel
theorem dX7_inherit_5 : decode cX7_inherit 5 = .ok (.ifCond .eq 16, 3) := by decide +kernel
theorem dX7_inherit_8 : decode cX7_inherit 8 = .ok (.aload_n 0, 1) := by decide +kernel
theorem dX7_inherit_9 : decode cX7_inherit 9 = .ok (.iload_n 2, 1) := by decide +kernel
theorem dX7_inherit_10 : decode cX7_inherit 10 = .ok (.invokevirtual 77, 3) := by decide +kernel
theorem dX7_inherit_13 : decode cX7_inherit 13 = .ok (.ifCond .eq 8, 3) := by decide +kernel
theorem dX7_inherit_16 : decode cX7_inherit 16 = .ok (.iload_n 1, 1) := by decide +kernel
theorem dX7_inherit_17 : decode cX7_inherit 17 = .ok (.iload_n 2, 1) := by decide +kernel
theorem dX7_inherit_18 : decode cX7_inherit 18 = .ok (.if_icmp .ne 5, 3) := by decide +kernel
theorem dX7_inherit_21 : decode cX7_inherit 21 = .ok (.iconst (-1), 1) := by decide +kernel
theorem dX7_inherit_22 : decode cX7_inherit 22 = .ok (.ireturn, 1) := by decide +kernel
theorem dX7_inherit_23 : decode cX7_inherit 23 = .ok (.aload_n 0, 1) := by decide +kernel
theorem dX7_inherit_24 : decode cX7_inherit 24 = .ok (.iload_n 1, 1) := by decide +kernel
theorem dX7_inherit_25 : decode cX7_inherit 25 = .ok (.invokevirtual 101, 3) := by decide +kernel
theorem dX7_inherit_28 : decode cX7_inherit 28 = .ok (.istore_n 3, 1) := by decide +kernel
theorem dX7_inherit_29 : decode cX7_inherit 29 = .ok (.aload_n 0, 1) := by decide +kernel
theorem dX7_inherit_30 : decode cX7_inherit 30 = .ok (.iload_n 2, 1) := by decide +kernel
theorem dX7_inherit_31 : decode cX7_inherit 31 = .ok (.iload_n 3, 1) := by decide +kernel
theorem dX7_inherit_32 : decode cX7_inherit 32 = .ok (.invokevirtual 115, 3) := by decide +kernel
theorem dX7_inherit_35 : decode cX7_inherit 35 = .ok (.ifCond .ne 6, 3) := by decide +kernel
theorem dX7_inherit_38 : decode cX7_inherit 38 = .ok (.bipush (-5), 2) := by decide +kernel
theorem dX7_inherit_40 : decode cX7_inherit 40 = .ok (.ireturn, 1) := by decide +kernel
theorem dX7_inherit_41 : decode cX7_inherit 41 = .ok (.aload_n 0, 1) := by decide +kernel
theorem dX7_inherit_42 : decode cX7_inherit 42 = .ok (.invokevirtual 73, 3) := by decide +kernel
theorem dX7_inherit_45 : decode cX7_inherit 45 = .ok (.aload_n 0, 1) := by decide +kernel
theorem dX7_inherit_46 : decode cX7_inherit 46 = .ok (.iload_n 1, 1) := by decide +kernel
theorem dX7_inherit_47 : decode cX7_inherit 47 = .ok (.iload_n 2, 1) := by decide +kernel
theorem dX7_inherit_48 : decode cX7_inherit 48 = .ok (.invokevirtual 131, 3) := by decide +kernel
theorem dX7_inherit_51 : decode cX7_inherit 51 = .ok (.aload_n 0, 1) := by decide +kernel
theorem dX7_inherit_52 : decode cX7_inherit 52 = .ok (.invokevirtual 118, 3) := by decide +kernel
theorem dX7_inherit_55 : decode cX7_inherit 55 = .ok (.iload_n 3, 1) := by decide +kernel
theorem dX7_inherit_56 : decode cX7_inherit 56 = .ok (.ireturn, 1) := by decide +kernel
theorem dX7_transfer_0 : decode cX7_transfer 0 = .ok (.aload_n 0, 1) := by decide +kernel
theorem dX7_transfer_1 : decode cX7_transfer 1 = .ok (.iload_n 1, 1) := by decide +kernel
theorem dX7_transfer_2 : decode cX7_transfer 2 = .ok (.invokevirtual 77, 3) := by decide +kernel
theorem dX7_transfer_5 : decode cX7_transfer 5 = .ok (.ifCond .eq 16, 3) := by decide +kernel
theorem dX7_transfer_8 : decode cX7_transfer 8 = .ok (.aload_n 0, 1) := by decide +kernel
theorem dX7_transfer_9 : decode cX7_transfer 9 = .ok (.iload_n 2, 1) := by decide +kernel
theorem dX7_transfer_10 : decode cX7_transfer 10 = .ok (.invokevirtual 77, 3) := by decide +kernel
theorem dX7_transfer_13 : decode cX7_transfer 13 = .ok (.ifCond .eq 8, 3) := by decide +kernel
theorem dX7_transfer_16 : decode cX7_transfer 16 = .ok (.iload_n 1, 1) := by decide +kernel
theorem dX7_transfer_17 : decode cX7_transfer 17 = .ok (.iload_n 2, 1) := by decide +kernel
theorem dX7_transfer_18 : decode cX7_transfer 18 = .ok (.if_icmp .ne 5, 3) := by decide +kernel
theorem dX7_transfer_21 : decode cX7_transfer 21 = .ok (.iconst (-1), 1) := by decide +kernel
theorem dX7_transfer_22 : decode cX7_transfer 22 = .ok (.ireturn, 1) := by decide +kernel
theorem dX7_transfer_23 : decode cX7_transfer 23 = .ok (.iload_n 3, 1) := by decide +kernel
theorem dX7_transfer_24 : decode cX7_transfer 24 = .ok (.iload 4, 2) := by decide +kernel
theorem dX7_transfer_26 : decode cX7_transfer 26 = .ok (.invokestatic 104, 3) := by decide +kernel
theorem dX7_transfer_29 : decode cX7_transfer 29 = .ok (.ifCond .eq 14, 3) := by decide +kernel
theorem dX7_transfer_32 : decode cX7_transfer 32 = .ok (.iload 5, 2) := by decide +kernel
theorem dX7_transfer_34 : decode cX7_transfer 34 = .ok (.iconst 0, 1) := by decide +kernel
theorem dX7_transfer_35 : decode cX7_transfer 35 = .ok (.ldc 76, 2) := by decide +kernel
theorem dX7_transfer_37 : decode cX7_transfer 37 = .ok (.invokestatic 62, 3) := by decide +kernel
theorem dX7_transfer_40 : decode cX7_transfer 40 = .ok (.ifCond .ne 6, 3) := by decide +kernel
theorem dX7_transfer_43 : decode cX7_transfer 43 = .ok (.bipush (-2), 2) := by decide +kernel
theorem dX7_transfer_45 : decode cX7_transfer 45 = .ok (.ireturn, 1) := by decide +kernel
theorem dX7_transfer_46 : decode cX7_transfer 46 = .ok (.aload_n 0, 1) := by decide +kernel
theorem dX7_transfer_47 : decode cX7_transfer 47 = .ok (.getfield 7, 3) := by decide +kernel
theorem dX7_transfer_50 : decode cX7_transfer 50 = .ok (.bipush 8, 2) := by decide +kernel
theorem dX7_transfer_52 : decode cX7_transfer 52 = .ok (.iaload, 1) := by decide +kernel
theorem dX7_transfer_53 : decode cX7_transfer 53 = .ok (.bipush 8, 2) := by decide +kernel
theorem dX7_transfer_55 : decode cX7_transfer 55 = .ok (.if_icmp .ne 6, 3) := by decide +kernel
theorem dX7_transfer_58 : decode cX7_transfer 58 = .ok (.bipush (-4), 2) := by decide +kernel
theorem dX7_transfer_60 : decode cX7_transfer 60 = .ok (.ireturn, 1) := by decide +kernel
theorem dX7_transfer_61 : decode cX7_transfer 61 = .ok (.aload_n 0, 1) := by decide +kernel
theorem dX7_transfer_62 : decode cX7_transfer 62 = .ok (.invokevirtual 73, 3) := by decide +kernel
theorem dX7_transfer_65 : decode cX7_transfer 65 = .ok (.bipush 50, 2) := by decide +kernel
theorem dX7_transfer_67 : decode cX7_transfer 67 = .ok (.iconst 5, 1) := by decide +kernel
theorem dX7_transfer_68 : decode cX7_transfer 68 = .ok (.aload_n 0, 1) := by decide +kernel
theorem dX7_transfer_69 : decode cX7_transfer 69 = .ok (.getfield 7, 3) := by decide +kernel
theorem dX7_transfer_72 : decode cX7_transfer 72 = .ok (.bipush 8, 2) := by decide +kernel
theorem dX7_transfer_74 : decode cX7_transfer 74 = .ok (.iaload, 1) := by decide +kernel
theorem dX7_transfer_75 : decode cX7_transfer 75 = .ok (.imul, 1) := by decide +kernel
theorem dX7_transfer_76 : decode cX7_transfer 76 = .ok (.iadd, 1) := by decide +kernel
theorem dX7_transfer_77 : decode cX7_transfer 77 = .ok (.istore 6, 2) := by decide +kernel
theorem dX7_transfer_79 : decode cX7_transfer 79 = .ok (.aload_n 0, 1) := by decide +kernel
theorem dX7_transfer_80 : decode cX7_transfer 80 = .ok (.getfield 7, 3) := by decide +kernel
theorem dX7_transfer_83 : decode cX7_transfer 83 = .ok (.iload 6, 2) := by decide +kernel
theorem dX7_transfer_85 : decode cX7_transfer 85 = .ok (.iload_n 1, 1) := by decide +kernel
theorem dX7_transfer_86 : decode cX7_transfer 86 = .ok (.iastore, 1) := by decide +kernel
theorem dX7_transfer_87 : decode cX7_transfer 87 = .ok (.aload_n 0, 1) := by decide +kernel
theorem dX7_transfer_88 : decode cX7_transfer 88 = .ok (.getfield 7, 3) := by decide +kernel
theorem dX7_transfer_91 : decode cX7_transfer 91 = .ok (.iload 6, 2) := by decide +kernel
theorem dX7_transfer_93 : decode cX7_transfer 93 = .ok (.iconst 1, 1) := by decide +kernel
theorem dX7_transfer_94 : decode cX7_transfer 94 = .ok (.iadd, 1) := by decide +kernel
theorem dX7_transfer_95 : decode cX7_transfer 95 = .ok (.iload_n 2, 1) := by decide +kernel
theorem dX7_transfer_96 : decode cX7_transfer 96 = .ok (.iastore, 1) := by decide +kernel
theorem dX7_transfer_97 : decode cX7_transfer 97 = .ok (.aload_n 0, 1) := by decide +kernel
theorem dX7_transfer_98 : decode cX7_transfer 98 = .ok (.getfield 7, 3) := by decide +kernel
theorem dX7_transfer_101 : decode cX7_transfer 101 = .ok (.iload 6, 2) := by decide +kernel
theorem dX7_transfer_103 : decode cX7_transfer 103 = .ok (.iconst 2, 1) := by decide +kernel
theorem dX7_transfer_104 : decode cX7_transfer 104 = .ok (.iadd, 1) := by decide +kernel
theorem dX7_transfer_105 : decode cX7_transfer 105 = .ok (.iload_n 3, 1) := by decide +kernel
theorem dX7_transfer_106 : decode cX7_transfer 106 = .ok (.iastore, 1) := by decide +kernel
theorem dX7_transfer_107 : decode cX7_transfer 107 = .ok (.aload_n 0, 1) := by decide +kernel
theorem dX7_transfer_108 : decode cX7_transfer 108 = .ok (.getfield 7, 3) := by decide +kernel
theorem dX7_transfer_111 : decode cX7_transfer 111 = .ok (.iload 6, 2) := by decide +kernel
theorem dX7_transfer_113 : decode cX7_transfer 113 = .ok (.iconst 3, 1) := by decide +kernel
theorem dX7_transfer_114 : decode cX7_transfer 114 = .ok (.iadd, 1) := by decide +kernel
theorem dX7_transfer_115 : decode cX7_transfer 115 = .ok (.iload 4, 2) := by decide +kernel
theorem dX7_transfer_117 : decode cX7_transfer 117 = .ok (.iastore, 1) := by decide +kernel
theorem dX7_transfer_118 : decode cX7_transfer 118 = .ok (.aload_n 0, 1) := by decide +kernel
theorem dX7_transfer_119 : decode cX7_transfer 119 = .ok (.getfield 7, 3) := by decide +kernel
theorem dX7_transfer_122 : decode cX7_transfer 122 = .ok (.iload 6, 2) := by decide +kernel
theorem dX7_transfer_124 : decode cX7_transfer 124 = .ok (.iconst 4, 1) := by decide +kernel
theorem dX7_transfer_125 : decode cX7_transfer 125 = .ok (.iadd, 1) := by decide +kernel
theorem dX7_transfer_126 : decode cX7_transfer 126 = .ok (.iload 5, 2) := by decide +kernel
theorem dX7_transfer_128 : decode cX7_transfer 128 = .ok (.iastore, 1) := by decide +kernel
theorem dX7_transfer_129 : decode cX7_transfer 129 = .ok (.aload_n 0, 1) := by decide +kernel
theorem dX7_transfer_130 : decode cX7_transfer 130 = .ok (.getfield 7, 3) := by decide +kernel
theorem dX7_transfer_133 : decode cX7_transfer 133 = .ok (.bipush 8, 2) := by decide +kernel
theorem dX7_transfer_135 : decode cX7_transfer 135 = .ok (.dup2, 1) := by decide +kernel
theorem dX7_transfer_136 : decode cX7_transfer 136 = .ok (.iaload, 1) := by decide +kernel
theorem dX7_transfer_137 : decode cX7_transfer 137 = .ok (.iconst 1, 1) := by decide +kernel
theorem dX7_transfer_138 : decode cX7_transfer 138 = .ok (.iadd, 1) := by decide +kernel
theorem dX7_transfer_139 : decode cX7_transfer 139 = .ok (.iastore, 1) := by decide +kernel
theorem dX7_transfer_140 : decode cX7_transfer 140 = .ok (.aload_n 0, 1) := by decide +kernel
theorem dX7_transfer_141 : decode cX7_transfer 141 = .ok (.getfield 7, 3) := by decide +kernel
theorem dX7_transfer_144 : decode cX7_transfer 144 = .ok (.bipush 8, 2) := by decide +kernel
theorem dX7_transfer_146 : decode cX7_transfer 146 = .ok (.iaload, 1) := by decide +kernel
theorem dX7_transfer_147 : decode cX7_transfer 147 = .ok (.ireturn, 1) := by decide +kernel
theorem dX7_drop_0 : decode cX7_drop 0 = .ok (.aload_n 0, 1) := by decide +kernel
theorem dX7_drop_1 : decode cX7_drop 1 = .ok (.getfield 7, 3) := by decide +kernel
theorem dX7_drop_4 : decode cX7_drop 4 = .ok (.bipush 8, 2) := by decide +kernel
theorem dX7_drop_6 : decode cX7_drop 6 = .ok (.iaload, 1) := by decide +kernel
theorem dX7_drop_7 : decode cX7_drop 7 = .ok (.ifCond .ne 6, 3) := by decide +kernel
theorem dX7_drop_10 : decode cX7_drop 10 = .ok (.bipush (-5), 2) := by decide +kernel
theorem dX7_drop_12 : decode cX7_drop 12 = .ok (.ireturn, 1) := by decide +kernel
theorem dX7_drop_13 : decode cX7_drop 13 = .ok (.aload_n 0, 1) := by decide +kernel
theorem dX7_drop_14 : decode cX7_drop 14 = .ok (.invokevirtual 73, 3) := by decide +kernel
theorem dX7_drop_17 : decode cX7_drop 17 = .ok (.aload_n 0, 1) := by decide +kernel
theorem dX7_drop_18 : decode cX7_drop 18 = .ok (.getfield 7, 3) := by decide +kernel
theorem dX7_drop_21 : decode cX7_drop 21 = .ok (.bipush 8, 2) := by decide +kernel
theorem dX7_drop_23 : decode cX7_drop 23 = .ok (.dup2, 1) := by decide +kernel
theorem dX7_drop_24 : decode cX7_drop 24 = .ok (.iaload, 1) := by decide +kernel
theorem dX7_drop_25 : decode cX7_drop 25 = .ok (.iconst 1, 1) := by decide +kernel
theorem dX7_drop_26 : decode cX7_drop 26 = .ok (.isub, 1) := by decide +kernel
theorem dX7_drop_27 : decode cX7_drop 27 = .ok (.iastore, 1) := by decide +kernel
theorem dX7_drop_28 : decode cX7_drop 28 = .ok (.aload_n 0, 1) := by decide +kernel
theorem dX7_drop_29 : decode cX7_drop 29 = .ok (.getfield 7, 3) := by decide +kernel
theorem dX7_drop_32 : decode cX7_drop 32 = .ok (.bipush 8, 2) := by decide +kernel
theorem dX7_drop_34 : decode cX7_drop 34 = .ok (.iaload, 1) := by decide +kernel
theorem dX7_drop_35 : decode cX7_drop 35 = .ok (.ireturn, 1) := by decide +kernel
theorem dX7_isLong_0 : decode cX7_isLong 0 = .ok (.iconst 0, 1) := by decide +kernel
theorem dX7_isLong_1 : decode cX7_isLong 1 = .ok (.istore_n 2, 1) := by decide +kernel
theorem dX7_isLong_2 : decode cX7_isLong 2 = .ok (.iload_n 2, 1) := by decide +kernel
theorem dX7_isLong_3 : decode cX7_isLong 3 = .ok (.aload_n 0, 1) := by decide +kernel
theorem dX7_isLong_4 : decode cX7_isLong 4 = .ok (.getfield 7, 3) := by decide +kernel
theorem dX7_isLong_7 : decode cX7_isLong 7 = .ok (.bipush 7, 2) := by decide +kernel
theorem dX7_isLong_9 : decode cX7_isLong 9 = .ok (.iaload, 1) := by decide +kernel
theorem dX7_isLong_10 : decode cX7_isLong 10 = .ok (.if_icmp .ge 34, 3) := by decide +kernel
theorem dX7_isLong_13 : decode cX7_isLong 13 = .ok (.aload_n 0, 1) := by decide +kernel
theorem dX7_isLong_14 : decode cX7_isLong 14 = .ok (.iload_n 2, 1) := by decide +kernel
theorem dX7_isLong_15 : decode cX7_isLong 15 = .ok (.invokevirtual 87, 3) := by decide +kernel
theorem dX7_isLong_18 : decode cX7_isLong 18 = .ok (.iload_n 1, 1) := by decide +kernel
theorem dX7_isLong_19 : decode cX7_isLong 19 = .ok (.if_icmp .ne 19, 3) := by decide +kernel
theorem dX7_isLong_22 : decode cX7_isLong 22 = .ok (.aload_n 0, 1) := by decide +kernel
theorem dX7_isLong_23 : decode cX7_isLong 23 = .ok (.iload_n 2, 1) := by decide +kernel
theorem dX7_isLong_24 : decode cX7_isLong 24 = .ok (.invokevirtual 124, 3) := by decide +kernel
theorem dX7_isLong_27 : decode cX7_isLong 27 = .ok (.aload_n 0, 1) := by decide +kernel
theorem dX7_isLong_28 : decode cX7_isLong 28 = .ok (.getfield 7, 3) := by decide +kernel
theorem dX7_isLong_31 : decode cX7_isLong 31 = .ok (.iconst 3, 1) := by decide +kernel
theorem dX7_isLong_32 : decode cX7_isLong 32 = .ok (.iaload, 1) := by decide +kernel
theorem dX7_isLong_33 : decode cX7_isLong 33 = .ok (.if_icmp .ge 5, 3) := by decide +kernel
theorem dX7_isLong_36 : decode cX7_isLong 36 = .ok (.iconst 0, 1) := by decide +kernel
theorem dX7_isLong_37 : decode cX7_isLong 37 = .ok (.ireturn, 1) := by decide +kernel
theorem dX7_isLong_38 : decode cX7_isLong 38 = .ok (.iinc 2 1, 3) := by decide +kernel
theorem dX7_isLong_41 : decode cX7_isLong 41 = .ok (.goto (-39), 3) := by decide +kernel
theorem dX7_isLong_44 : decode cX7_isLong 44 = .ok (.iconst 1, 1) := by decide +kernel
theorem dX7_isLong_45 : decode cX7_isLong 45 = .ok (.ireturn, 1) := by decide +kernel
theorem dX7_goes_0 : decode cX7_goes 0 = .ok (.bipush 50, 2) := by decide +kernel
theorem dX7_goes_2 : decode cX7_goes 2 = .ok (.iconst 5, 1) := by decide +kernel
theorem dX7_goes_3 : decode cX7_goes 3 = .ok (.iload_n 1, 1) := by decide +kernel
theorem dX7_goes_4 : decode cX7_goes 4 = .ok (.imul, 1) := by decide +kernel
theorem dX7_goes_5 : decode cX7_goes 5 = .ok (.iadd, 1) := by decide +kernel
theorem dX7_goes_6 : decode cX7_goes 6 = .ok (.istore_n 2, 1) := by decide +kernel
theorem dX7_goes_7 : decode cX7_goes 7 = .ok (.aload_n 0, 1) := by decide +kernel
theorem dX7_goes_8 : decode cX7_goes 8 = .ok (.getfield 7, 3) := by decide +kernel
theorem dX7_goes_11 : decode cX7_goes 11 = .ok (.iload_n 2, 1) := by decide +kernel
theorem dX7_goes_12 : decode cX7_goes 12 = .ok (.iaload, 1) := by decide +kernel
theorem dX7_goes_13 : decode cX7_goes 13 = .ok (.istore_n 3, 1) := by decide +kernel
theorem dX7_goes_14 : decode cX7_goes 14 = .ok (.aload_n 0, 1) := by decide +kernel
theorem dX7_goes_15 : decode cX7_goes 15 = .ok (.getfield 7, 3) := by decide +kernel
theorem dX7_goes_18 : decode cX7_goes 18 = .ok (.iload_n 2, 1) := by decide +kernel
theorem dX7_goes_19 : decode cX7_goes 19 = .ok (.iconst 1, 1) := by decide +kernel
theorem dX7_goes_20 : decode cX7_goes 20 = .ok (.iadd, 1) := by decide +kernel
theorem dX7_goes_21 : decode cX7_goes 21 = .ok (.iaload, 1) := by decide +kernel
theorem dX7_goes_22 : decode cX7_goes 22 = .ok (.istore 4, 2) := by decide +kernel
theorem dX7_goes_24 : decode cX7_goes 24 = .ok (.aload_n 0, 1) := by decide +kernel
theorem dX7_goes_25 : decode cX7_goes 25 = .ok (.getfield 7, 3) := by decide +kernel
theorem dX7_goes_28 : decode cX7_goes 28 = .ok (.iload_n 2, 1) := by decide +kernel
theorem dX7_goes_29 : decode cX7_goes 29 = .ok (.iconst 2, 1) := by decide +kernel
theorem dX7_goes_30 : decode cX7_goes 30 = .ok (.iadd, 1) := by decide +kernel
theorem dX7_goes_31 : decode cX7_goes 31 = .ok (.iaload, 1) := by decide +kernel
theorem dX7_goes_32 : decode cX7_goes 32 = .ok (.istore 5, 2) := by decide +kernel
theorem dX7_goes_34 : decode cX7_goes 34 = .ok (.aload_n 0, 1) := by decide +kernel
theorem dX7_goes_35 : decode cX7_goes 35 = .ok (.getfield 7, 3) := by decide +kernel
theorem dX7_goes_38 : decode cX7_goes 38 = .ok (.iload_n 2, 1) := by decide +kernel
theorem dX7_goes_39 : decode cX7_goes 39 = .ok (.iconst 3, 1) := by decide +kernel
theorem dX7_goes_40 : decode cX7_goes 40 = .ok (.iadd, 1) := by decide +kernel
theorem dX7_goes_41 : decode cX7_goes 41 = .ok (.iaload, 1) := by decide +kernel
theorem dX7_goes_42 : decode cX7_goes 42 = .ok (.istore 6, 2) := by decide +kernel
theorem dX7_goes_44 : decode cX7_goes 44 = .ok (.aload_n 0, 1) := by decide +kernel
theorem dX7_goes_45 : decode cX7_goes 45 = .ok (.getfield 7, 3) := by decide +kernel
theorem dX7_goes_48 : decode cX7_goes 48 = .ok (.iload_n 2, 1) := by decide +kernel
theorem dX7_goes_49 : decode cX7_goes 49 = .ok (.iconst 4, 1) := by decide +kernel
theorem dX7_goes_50 : decode cX7_goes 50 = .ok (.iadd, 1) := by decide +kernel
theorem dX7_goes_51 : decode cX7_goes 51 = .ok (.iaload, 1) := by decide +kernel
theorem dX7_goes_52 : decode cX7_goes 52 = .ok (.istore 7, 2) := by decide +kernel
theorem dX7_goes_54 : decode cX7_goes 54 = .ok (.aload_n 0, 1) := by decide +kernel
theorem dX7_goes_55 : decode cX7_goes 55 = .ok (.iload 5, 2) := by decide +kernel
theorem dX7_goes_57 : decode cX7_goes 57 = .ok (.iload 5, 2) := by decide +kernel
theorem dX7_goes_59 : decode cX7_goes 59 = .ok (.iload 6, 2) := by decide +kernel
theorem dX7_goes_61 : decode cX7_goes 61 = .ok (.iadd, 1) := by decide +kernel
theorem dX7_goes_62 : decode cX7_goes 62 = .ok (.iload_n 3, 1) := by decide +kernel
theorem dX7_goes_63 : decode cX7_goes 63 = .ok (.invokevirtual 97, 3) := by decide +kernel
theorem dX7_goes_66 : decode cX7_goes 66 = .ok (.iload 6, 2) := by decide +kernel
theorem dX7_goes_68 : decode cX7_goes 68 = .ok (.if_icmp .lt 35, 3) := by decide +kernel
theorem dX7_goes_71 : decode cX7_goes 71 = .ok (.aload_n 0, 1) := by decide +kernel
theorem dX7_goes_72 : decode cX7_goes 72 = .ok (.getfield 13, 3) := by decide +kernel
theorem dX7_goes_75 : decode cX7_goes 75 = .ok (.iload 4, 2) := by decide +kernel
theorem dX7_goes_77 : decode cX7_goes 77 = .ok (.laload, 1) := by decide +kernel
theorem dX7_goes_78 : decode cX7_goes 78 = .ok (.iload 7, 2) := by decide +kernel
theorem dX7_goes_80 : decode cX7_goes 80 = .ok (.aload_n 0, 1) := by decide +kernel
theorem dX7_goes_81 : decode cX7_goes 81 = .ok (.getfield 7, 3) := by decide +kernel
theorem dX7_goes_84 : decode cX7_goes 84 = .ok (.iconst 2, 1) := by decide +kernel
theorem dX7_goes_85 : decode cX7_goes 85 = .ok (.iaload, 1) := by decide +kernel
theorem dX7_goes_86 : decode cX7_goes 86 = .ok (.iadd, 1) := by decide +kernel
theorem dX7_goes_87 : decode cX7_goes 87 = .ok (.i2l, 1) := by decide +kernel
theorem dX7_goes_88 : decode cX7_goes 88 = .ok (.lcmp, 1) := by decide +kernel
theorem dX7_goes_89 : decode cX7_goes 89 = .ok (.ifCond .lt 14, 3) := by decide +kernel
theorem dX7_goes_92 : decode cX7_goes 92 = .ok (.aload_n 0, 1) := by decide +kernel
theorem dX7_goes_93 : decode cX7_goes 93 = .ok (.iload 4, 2) := by decide +kernel
theorem dX7_goes_95 : decode cX7_goes 95 = .ok (.iload 6, 2) := by decide +kernel
theorem dX7_goes_97 : decode cX7_goes 97 = .ok (.invokevirtual 115, 3) := by decide +kernel
theorem dX7_goes_100 : decode cX7_goes 100 = .ok (.ifCond .ne 5, 3) := by decide +kernel
theorem dX7_goes_103 : decode cX7_goes 103 = .ok (.iconst 0, 1) := by decide +kernel
theorem dX7_goes_104 : decode cX7_goes 104 = .ok (.ireturn, 1) := by decide +kernel
theorem dX7_goes_105 : decode cX7_goes 105 = .ok (.aload_n 0, 1) := by decide +kernel
theorem dX7_goes_106 : decode cX7_goes 106 = .ok (.iload 5, 2) := by decide +kernel
theorem dX7_goes_108 : decode cX7_goes 108 = .ok (.iload 5, 2) := by decide +kernel
theorem dX7_goes_110 : decode cX7_goes 110 = .ok (.iload 6, 2) := by decide +kernel
theorem dX7_goes_112 : decode cX7_goes 112 = .ok (.iadd, 1) := by decide +kernel
theorem dX7_goes_113 : decode cX7_goes 113 = .ok (.iload 4, 2) := by decide +kernel
theorem dX7_goes_115 : decode cX7_goes 115 = .ok (.invokevirtual 108, 3) := by decide +kernel
theorem dX7_goes_118 : decode cX7_goes 118 = .ok (.aload_n 0, 1) := by decide +kernel
theorem dX7_goes_119 : decode cX7_goes 119 = .ok (.invokevirtual 111, 3) := by decide +kernel
theorem dX7_goes_122 : decode cX7_goes 122 = .ok (.bipush 40, 2) := by decide +kernel
theorem dX7_goes_124 : decode cX7_goes 124 = .ok (.if_icmp .le 5, 3) := by decide +kernel
theorem dX7_goes_127 : decode cX7_goes 127 = .ok (.iconst 0, 1) := by decide +kernel
theorem dX7_goes_128 : decode cX7_goes 128 = .ok (.ireturn, 1) := by decide +kernel
theorem dX7_goes_129 : decode cX7_goes 129 = .ok (.aload_n 0, 1) := by decide +kernel
theorem dX7_goes_130 : decode cX7_goes 130 = .ok (.invokevirtual 118, 3) := by decide +kernel
theorem dX7_goes_133 : decode cX7_goes 133 = .ok (.aload_n 0, 1) := by decide +kernel
theorem dX7_goes_134 : decode cX7_goes 134 = .ok (.getfield 13, 3) := by decide +kernel
theorem dX7_goes_137 : decode cX7_goes 137 = .ok (.iload 4, 2) := by decide +kernel
theorem dX7_goes_139 : decode cX7_goes 139 = .ok (.dup2, 1) := by decide +kernel
theorem dX7_goes_140 : decode cX7_goes 140 = .ok (.laload, 1) := by decide +kernel
theorem dX7_goes_141 : decode cX7_goes 141 = .ok (.iload 7, 2) := by decide +kernel
theorem dX7_goes_143 : decode cX7_goes 143 = .ok (.aload_n 0, 1) := by decide +kernel
theorem dX7_goes_144 : decode cX7_goes 144 = .ok (.getfield 7, 3) := by decide +kernel
theorem dX7_goes_147 : decode cX7_goes 147 = .ok (.iconst 2, 1) := by decide +kernel
theorem dX7_goes_148 : decode cX7_goes 148 = .ok (.iaload, 1) := by decide +kernel
theorem dX7_goes_149 : decode cX7_goes 149 = .ok (.iadd, 1) := by decide +kernel
theorem dX7_goes_150 : decode cX7_goes 150 = .ok (.i2l, 1) := by decide +kernel
theorem dX7_goes_151 : decode cX7_goes 151 = .ok (.lsub, 1) := by decide +kernel
theorem dX7_goes_152 : decode cX7_goes 152 = .ok (.lastore, 1) := by decide +kernel
theorem dX7_goes_153 : decode cX7_goes 153 = .ok (.aload_n 0, 1) := by decide +kernel
theorem dX7_goes_154 : decode cX7_goes 154 = .ok (.getfield 13, 3) := by decide +kernel
theorem dX7_goes_157 : decode cX7_goes 157 = .ok (.iload_n 3, 1) := by decide +kernel
theorem dX7_goes_158 : decode cX7_goes 158 = .ok (.dup2, 1) := by decide +kernel
theorem dX7_goes_159 : decode cX7_goes 159 = .ok (.laload, 1) := by decide +kernel
theorem dX7_goes_160 : decode cX7_goes 160 = .ok (.iload 7, 2) := by decide +kernel
theorem dX7_goes_162 : decode cX7_goes 162 = .ok (.i2l, 1) := by decide +kernel
theorem dX7_goes_163 : decode cX7_goes 163 = .ok (.ladd, 1) := by decide +kernel
theorem dX7_goes_164 : decode cX7_goes 164 = .ok (.lastore, 1) := by decide +kernel
theorem dX7_goes_165 : decode cX7_goes 165 = .ok (.aload_n 0, 1) := by decide +kernel
theorem dX7_goes_166 : decode cX7_goes 166 = .ok (.getfield 7, 3) := by decide +kernel
theorem dX7_goes_169 : decode cX7_goes 169 = .ok (.bipush 10, 2) := by decide +kernel
theorem dX7_goes_171 : decode cX7_goes 171 = .ok (.dup2, 1) := by decide +kernel
theorem dX7_goes_172 : decode cX7_goes 172 = .ok (.iaload, 1) := by decide +kernel
theorem dX7_goes_173 : decode cX7_goes 173 = .ok (.aload_n 0, 1) := by decide +kernel
theorem dX7_goes_174 : decode cX7_goes 174 = .ok (.getfield 7, 3) := by decide +kernel
theorem dX7_goes_177 : decode cX7_goes 177 = .ok (.iconst 2, 1) := by decide +kernel
theorem dX7_goes_178 : decode cX7_goes 178 = .ok (.iaload, 1) := by decide +kernel
theorem dX7_goes_179 : decode cX7_goes 179 = .ok (.iadd, 1) := by decide +kernel
theorem dX7_goes_180 : decode cX7_goes 180 = .ok (.iastore, 1) := by decide +kernel
theorem dX7_goes_181 : decode cX7_goes 181 = .ok (.aload_n 0, 1) := by decide +kernel
theorem dX7_goes_182 : decode cX7_goes 182 = .ok (.iload_n 3, 1) := by decide +kernel
theorem dX7_goes_183 : decode cX7_goes 183 = .ok (.invokevirtual 135, 3) := by decide +kernel
theorem dX7_goes_186 : decode cX7_goes 186 = .ok (.ifCond .eq 16, 3) := by decide +kernel
theorem dX7_goes_189 : decode cX7_goes 189 = .ok (.aload_n 0, 1) := by decide +kernel
theorem dX7_goes_190 : decode cX7_goes 190 = .ok (.iload 4, 2) := by decide +kernel
theorem dX7_goes_192 : decode cX7_goes 192 = .ok (.invokevirtual 135, 3) := by decide +kernel
theorem dX7_goes_195 : decode cX7_goes 195 = .ok (.ifCond .eq 7, 3) := by decide +kernel
theorem dX7_goes_198 : decode cX7_goes 198 = .ok (.iconst 1, 1) := by decide +kernel
theorem dX7_goes_199 : decode cX7_goes 199 = .ok (.goto 4, 3) := by decide +kernel
theorem dX7_goes_202 : decode cX7_goes 202 = .ok (.iconst 0, 1) := by decide +kernel
theorem dX7_goes_203 : decode cX7_goes 203 = .ok (.ireturn, 1) := by decide +kernel
theorem dX7_doDeal_0 : decode cX7_doDeal 0 = .ok (.iconst 0, 1) := by decide +kernel
theorem dX7_doDeal_1 : decode cX7_doDeal 1 = .ok (.istore_n 1, 1) := by decide +kernel
theorem dX7_doDeal_2 : decode cX7_doDeal 2 = .ok (.iload_n 1, 1) := by decide +kernel
theorem dX7_doDeal_3 : decode cX7_doDeal 3 = .ok (.aload_n 0, 1) := by decide +kernel
theorem dX7_doDeal_4 : decode cX7_doDeal 4 = .ok (.getfield 7, 3) := by decide +kernel
theorem dX7_doDeal_7 : decode cX7_doDeal 7 = .ok (.bipush 8, 2) := by decide +kernel
theorem dX7_doDeal_9 : decode cX7_doDeal 9 = .ok (.iaload, 1) := by decide +kernel
theorem dX7_doDeal_10 : decode cX7_doDeal 10 = .ok (.if_icmp .ge 19, 3) := by decide +kernel
theorem dX7_doDeal_13 : decode cX7_doDeal 13 = .ok (.aload_n 0, 1) := by decide +kernel
theorem dX7_doDeal_14 : decode cX7_doDeal 14 = .ok (.iload_n 1, 1) := by decide +kernel
theorem dX7_doDeal_15 : decode cX7_doDeal 15 = .ok (.invokevirtual 138, 3) := by decide +kernel
theorem dX7_doDeal_18 : decode cX7_doDeal 18 = .ok (.ifCond .ne 5, 3) := by decide +kernel
theorem dX7_doDeal_21 : decode cX7_doDeal 21 = .ok (.iload_n 1, 1) := by decide +kernel
theorem dX7_doDeal_22 : decode cX7_doDeal 22 = .ok (.ireturn, 1) := by decide +kernel
theorem dX7_doDeal_23 : decode cX7_doDeal 23 = .ok (.iinc 1 1, 3) := by decide +kernel
theorem dX7_doDeal_26 : decode cX7_doDeal 26 = .ok (.goto (-24), 3) := by decide +kernel
theorem dX7_doDeal_29 : decode cX7_doDeal 29 = .ok (.bipush (-6), 2) := by decide +kernel
theorem dX7_doDeal_31 : decode cX7_doDeal 31 = .ok (.ireturn, 1) := by decide +kernel
theorem dX7_failing_0 : decode cX7_failing 0 = .ok (.aload_n 0, 1) := by decide +kernel
theorem dX7_failing_1 : decode cX7_failing 1 = .ok (.invokevirtual 141, 3) := by decide +kernel
theorem dX7_failing_4 : decode cX7_failing 4 = .ok (.aload_n 0, 1) := by decide +kernel
theorem dX7_failing_5 : decode cX7_failing 5 = .ok (.invokevirtual 144, 3) := by decide +kernel
theorem dX7_failing_8 : decode cX7_failing 8 = .ok (.istore_n 1, 1) := by decide +kernel
theorem dX7_failing_9 : decode cX7_failing 9 = .ok (.aload_n 0, 1) := by decide +kernel
theorem dX7_failing_10 : decode cX7_failing 10 = .ok (.invokevirtual 147, 3) := by decide +kernel
theorem dX7_failing_13 : decode cX7_failing 13 = .ok (.iload_n 1, 1) := by decide +kernel
theorem dX7_failing_14 : decode cX7_failing 14 = .ok (.ireturn, 1) := by decide +kernel
theorem dX7_close_0 : decode cX7_close 0 = .ok (.aload_n 0, 1) := by decide +kernel
theorem dX7_close_1 : decode cX7_close 1 = .ok (.getfield 7, 3) := by decide +kernel
theorem dX7_close_4 : decode cX7_close 4 = .ok (.bipush 8, 2) := by decide +kernel
theorem dX7_close_6 : decode cX7_close 6 = .ok (.iaload, 1) := by decide +kernel
theorem dX7_close_7 : decode cX7_close 7 = .ok (.ifCond .eq 10, 3) := by decide +kernel
theorem dX7_close_10 : decode cX7_close 10 = .ok (.aload_n 0, 1) := by decide +kernel
theorem dX7_close_11 : decode cX7_close 11 = .ok (.invokevirtual 150, 3) := by decide +kernel
theorem dX7_close_14 : decode cX7_close 14 = .ok (.ifCond .lt 6, 3) := by decide +kernel
theorem dX7_close_17 : decode cX7_close 17 = .ok (.bipush (-5), 2) := by decide +kernel
theorem dX7_close_19 : decode cX7_close 19 = .ok (.ireturn, 1) := by decide +kernel
theorem dX7_close_20 : decode cX7_close 20 = .ok (.aload_n 0, 1) := by decide +kernel
theorem dX7_close_21 : decode cX7_close 21 = .ok (.invokevirtual 73, 3) := by decide +kernel
theorem dX7_close_24 : decode cX7_close 24 = .ok (.aload_n 0, 1) := by decide +kernel
theorem dX7_close_25 : decode cX7_close 25 = .ok (.invokevirtual 144, 3) := by decide +kernel
theorem dX7_close_28 : decode cX7_close 28 = .ok (.pop, 1) := by decide +kernel
theorem dX7_close_29 : decode cX7_close 29 = .ok (.aload_n 0, 1) := by decide +kernel
theorem dX7_close_30 : decode cX7_close 30 = .ok (.getfield 7, 3) := by decide +kernel
theorem dX7_close_33 : decode cX7_close 33 = .ok (.bipush 8, 2) := by decide +kernel
theorem dX7_close_35 : decode cX7_close 35 = .ok (.iaload, 1) := by decide +kernel
theorem dX7_close_36 : decode cX7_close 36 = .ok (.istore_n 1, 1) := by decide +kernel
theorem dX7_close_37 : decode cX7_close 37 = .ok (.aload_n 0, 1) := by decide +kernel
theorem dX7_close_38 : decode cX7_close 38 = .ok (.getfield 7, 3) := by decide +kernel
theorem dX7_close_41 : decode cX7_close 41 = .ok (.bipush 8, 2) := by decide +kernel
theorem dX7_close_43 : decode cX7_close 43 = .ok (.iconst 0, 1) := by decide +kernel
theorem dX7_close_44 : decode cX7_close 44 = .ok (.iastore, 1) := by decide +kernel
theorem dX7_close_45 : decode cX7_close 45 = .ok (.aload_n 0, 1) := by decide +kernel
theorem dX7_close_46 : decode cX7_close 46 = .ok (.getfield 7, 3) := by decide +kernel
theorem dX7_close_49 : decode cX7_close 49 = .ok (.bipush 9, 2) := by decide +kernel
theorem dX7_close_51 : decode cX7_close 51 = .ok (.dup2, 1) := by decide +kernel
theorem dX7_close_52 : decode cX7_close 52 = .ok (.iaload, 1) := by decide +kernel
theorem dX7_close_53 : decode cX7_close 53 = .ok (.iconst 1, 1) := by decide +kernel
theorem dX7_close_54 : decode cX7_close 54 = .ok (.iadd, 1) := by decide +kernel
theorem dX7_close_55 : decode cX7_close 55 = .ok (.iastore, 1) := by decide +kernel
theorem dX7_close_56 : decode cX7_close 56 = .ok (.iload_n 1, 1) := by decide +kernel
theorem dX7_close_57 : decode cX7_close 57 = .ok (.ireturn, 1) := by decide +kernel
theorem dX7_lengthTax_0 : decode cX7_lengthTax 0 = .ok (.iload_n 1, 1) := by decide +kernel
theorem dX7_lengthTax_1 : decode cX7_lengthTax 1 = .ok (.bipush 9, 2) := by decide +kernel
theorem dX7_lengthTax_3 : decode cX7_lengthTax 3 = .ok (.iadd, 1) := by decide +kernel
theorem dX7_lengthTax_4 : decode cX7_lengthTax 4 = .ok (.bipush 10, 2) := by decide +kernel
theorem dX7_lengthTax_6 : decode cX7_lengthTax 6 = .ok (.idiv, 1) := by decide +kernel
theorem dX7_lengthTax_7 : decode cX7_lengthTax 7 = .ok (.aload_n 0, 1) := by decide +kernel
theorem dX7_lengthTax_8 : decode cX7_lengthTax 8 = .ok (.getfield 7, 3) := by decide +kernel
theorem dX7_lengthTax_11 : decode cX7_lengthTax 11 = .ok (.iconst 0, 1) := by decide +kernel
theorem dX7_lengthTax_12 : decode cX7_lengthTax 12 = .ok (.iaload, 1) := by decide +kernel
theorem dX7_lengthTax_13 : decode cX7_lengthTax 13 = .ok (.imul, 1) := by decide +kernel
theorem dX7_lengthTax_14 : decode cX7_lengthTax 14 = .ok (.ireturn, 1) := by decide +kernel
theorem dX7_manyOf_0 : decode cX7_manyOf 0 = .ok (.iconst 0, 1) := by decide +kernel
theorem dX7_manyOf_1 : decode cX7_manyOf 1 = .ok (.istore_n 2, 1) := by decide +kernel
theorem dX7_manyOf_2 : decode cX7_manyOf 2 = .ok (.iconst 0, 1) := by decide +kernel
theorem dX7_manyOf_3 : decode cX7_manyOf 3 = .ok (.istore_n 3, 1) := by decide +kernel
theorem dX7_manyOf_4 : decode cX7_manyOf 4 = .ok (.iload_n 3, 1) := by decide +kernel
theorem dX7_manyOf_5 : decode cX7_manyOf 5 = .ok (.aload_n 0, 1) := by decide +kernel
theorem dX7_manyOf_6 : decode cX7_manyOf 6 = .ok (.getfield 7, 3) := by decide +kernel
theorem dX7_manyOf_9 : decode cX7_manyOf 9 = .ok (.bipush 7, 2) := by decide +kernel
theorem dX7_manyOf_11 : decode cX7_manyOf 11 = .ok (.iaload, 1) := by decide +kernel
theorem dX7_manyOf_12 : decode cX7_manyOf 12 = .ok (.if_icmp .ge 26, 3) := by decide +kernel
theorem dX7_manyOf_15 : decode cX7_manyOf 15 = .ok (.iload_n 2, 1) := by decide +kernel
theorem dX7_manyOf_16 : decode cX7_manyOf 16 = .ok (.aload_n 0, 1) := by decide +kernel
theorem dX7_manyOf_17 : decode cX7_manyOf 17 = .ok (.iload_n 3, 1) := by decide +kernel
theorem dX7_manyOf_18 : decode cX7_manyOf 18 = .ok (.invokevirtual 87, 3) := by decide +kernel
theorem dX7_manyOf_21 : decode cX7_manyOf 21 = .ok (.iload_n 1, 1) := by decide +kernel
theorem dX7_manyOf_22 : decode cX7_manyOf 22 = .ok (.if_icmp .ne 7, 3) := by decide +kernel
theorem dX7_manyOf_25 : decode cX7_manyOf 25 = .ok (.iconst 1, 1) := by decide +kernel
theorem dX7_manyOf_26 : decode cX7_manyOf 26 = .ok (.goto 4, 3) := by decide +kernel
theorem dX7_manyOf_29 : decode cX7_manyOf 29 = .ok (.iconst 0, 1) := by decide +kernel
theorem dX7_manyOf_30 : decode cX7_manyOf 30 = .ok (.iadd, 1) := by decide +kernel
theorem dX7_manyOf_31 : decode cX7_manyOf 31 = .ok (.istore_n 2, 1) := by decide +kernel
theorem dX7_manyOf_32 : decode cX7_manyOf 32 = .ok (.iinc 3 1, 3) := by decide +kernel
theorem dX7_manyOf_35 : decode cX7_manyOf 35 = .ok (.goto (-31), 3) := by decide +kernel
theorem dX7_manyOf_38 : decode cX7_manyOf 38 = .ok (.iload_n 2, 1) := by decide +kernel
theorem dX7_manyOf_39 : decode cX7_manyOf 39 = .ok (.ireturn, 1) := by decide +kernel
theorem dX7_taxOf_0 : decode cX7_taxOf 0 = .ok (.aload_n 0, 1) := by decide +kernel
theorem dX7_taxOf_1 : decode cX7_taxOf 1 = .ok (.iload_n 1, 1) := by decide +kernel
theorem dX7_taxOf_2 : decode cX7_taxOf 2 = .ok (.invokevirtual 153, 3) := by decide +kernel
theorem dX7_taxOf_5 : decode cX7_taxOf 5 = .ok (.aload_n 0, 1) := by decide +kernel
theorem dX7_taxOf_6 : decode cX7_taxOf 6 = .ok (.getfield 7, 3) := by decide +kernel
theorem dX7_taxOf_9 : decode cX7_taxOf 9 = .ok (.iconst 1, 1) := by decide +kernel
theorem dX7_taxOf_10 : decode cX7_taxOf 10 = .ok (.iaload, 1) := by decide +kernel
theorem dX7_taxOf_11 : decode cX7_taxOf 11 = .ok (.imul, 1) := by decide +kernel
theorem dX7_taxOf_12 : decode cX7_taxOf 12 = .ok (.aload_n 0, 1) := by decide +kernel
theorem dX7_taxOf_13 : decode cX7_taxOf 13 = .ok (.aload_n 0, 1) := by decide +kernel
theorem dX7_taxOf_14 : decode cX7_taxOf 14 = .ok (.iload_n 1, 1) := by decide +kernel
theorem dX7_taxOf_15 : decode cX7_taxOf 15 = .ok (.invokevirtual 101, 3) := by decide +kernel
theorem dX7_taxOf_18 : decode cX7_taxOf 18 = .ok (.invokevirtual 156, 3) := by decide +kernel
theorem dX7_taxOf_21 : decode cX7_taxOf 21 = .ok (.iadd, 1) := by decide +kernel
theorem dX7_taxOf_22 : decode cX7_taxOf 22 = .ok (.ireturn, 1) := by decide +kernel
theorem dX7_shortestOf_0 : decode cX7_shortestOf 0 = .ok (.bipush (-6), 2) := by decide +kernel
theorem dX7_shortestOf_2 : decode cX7_shortestOf 2 = .ok (.istore_n 2, 1) := by decide +kernel
theorem dX7_shortestOf_3 : decode cX7_shortestOf 3 = .ok (.iconst 0, 1) := by decide +kernel
theorem dX7_shortestOf_4 : decode cX7_shortestOf 4 = .ok (.istore_n 3, 1) := by decide +kernel
theorem dX7_shortestOf_5 : decode cX7_shortestOf 5 = .ok (.iload_n 3, 1) := by decide +kernel
theorem dX7_shortestOf_6 : decode cX7_shortestOf 6 = .ok (.aload_n 0, 1) := by decide +kernel
theorem dX7_shortestOf_7 : decode cX7_shortestOf 7 = .ok (.getfield 7, 3) := by decide +kernel
theorem dX7_shortestOf_10 : decode cX7_shortestOf 10 = .ok (.bipush 7, 2) := by decide +kernel
theorem dX7_shortestOf_12 : decode cX7_shortestOf 12 = .ok (.iaload, 1) := by decide +kernel
theorem dX7_shortestOf_13 : decode cX7_shortestOf 13 = .ok (.if_icmp .ge 41, 3) := by decide +kernel
theorem dX7_shortestOf_16 : decode cX7_shortestOf 16 = .ok (.aload_n 0, 1) := by decide +kernel
theorem dX7_shortestOf_17 : decode cX7_shortestOf 17 = .ok (.iload_n 3, 1) := by decide +kernel
theorem dX7_shortestOf_18 : decode cX7_shortestOf 18 = .ok (.invokevirtual 87, 3) := by decide +kernel
theorem dX7_shortestOf_21 : decode cX7_shortestOf 21 = .ok (.iload_n 1, 1) := by decide +kernel
theorem dX7_shortestOf_22 : decode cX7_shortestOf 22 = .ok (.if_icmp .ne 24, 3) := by decide +kernel
theorem dX7_shortestOf_25 : decode cX7_shortestOf 25 = .ok (.iload_n 2, 1) := by decide +kernel
theorem dX7_shortestOf_26 : decode cX7_shortestOf 26 = .ok (.ifCond .lt 16, 3) := by decide +kernel
theorem dX7_shortestOf_29 : decode cX7_shortestOf 29 = .ok (.aload_n 0, 1) := by decide +kernel
theorem dX7_shortestOf_30 : decode cX7_shortestOf 30 = .ok (.iload_n 3, 1) := by decide +kernel
theorem dX7_shortestOf_31 : decode cX7_shortestOf 31 = .ok (.invokevirtual 124, 3) := by decide +kernel
theorem dX7_shortestOf_34 : decode cX7_shortestOf 34 = .ok (.aload_n 0, 1) := by decide +kernel
theorem dX7_shortestOf_35 : decode cX7_shortestOf 35 = .ok (.iload_n 2, 1) := by decide +kernel
theorem dX7_shortestOf_36 : decode cX7_shortestOf 36 = .ok (.invokevirtual 124, 3) := by decide +kernel
theorem dX7_shortestOf_39 : decode cX7_shortestOf 39 = .ok (.if_icmp .gt 7, 3) := by decide +kernel
theorem dX7_shortestOf_42 : decode cX7_shortestOf 42 = .ok (.iload_n 3, 1) := by decide +kernel
theorem dX7_shortestOf_43 : decode cX7_shortestOf 43 = .ok (.goto 4, 3) := by decide +kernel
theorem dX7_shortestOf_46 : decode cX7_shortestOf 46 = .ok (.iload_n 2, 1) := by decide +kernel
theorem dX7_shortestOf_47 : decode cX7_shortestOf 47 = .ok (.istore_n 2, 1) := by decide +kernel
theorem dX7_shortestOf_48 : decode cX7_shortestOf 48 = .ok (.iinc 3 1, 3) := by decide +kernel
theorem dX7_shortestOf_51 : decode cX7_shortestOf 51 = .ok (.goto (-46), 3) := by decide +kernel
theorem dX7_shortestOf_54 : decode cX7_shortestOf 54 = .ok (.iload_n 2, 1) := by decide +kernel
theorem dX7_shortestOf_55 : decode cX7_shortestOf 55 = .ok (.ireturn, 1) := by decide +kernel
theorem dX7_passDay_0 : decode cX7_passDay 0 = .ok (.iconst 0, 1) := by decide +kernel
theorem dX7_passDay_1 : decode cX7_passDay 1 = .ok (.istore_n 1, 1) := by decide +kernel
theorem dX7_passDay_2 : decode cX7_passDay 2 = .ok (.iload_n 1, 1) := by decide +kernel
theorem dX7_passDay_3 : decode cX7_passDay 3 = .ok (.aload_n 0, 1) := by decide +kernel
theorem dX7_passDay_4 : decode cX7_passDay 4 = .ok (.getfield 7, 3) := by decide +kernel
theorem dX7_passDay_7 : decode cX7_passDay 7 = .ok (.bipush 6, 2) := by decide +kernel
theorem dX7_passDay_9 : decode cX7_passDay 9 = .ok (.iaload, 1) := by decide +kernel
theorem dX7_passDay_10 : decode cX7_passDay 10 = .ok (.if_icmp .ge 157, 3) := by decide +kernel
theorem dX7_passDay_13 : decode cX7_passDay 13 = .ok (.aload_n 0, 1) := by decide +kernel
theorem dX7_passDay_14 : decode cX7_passDay 14 = .ok (.iload_n 1, 1) := by decide +kernel
theorem dX7_passDay_15 : decode cX7_passDay 15 = .ok (.invokevirtual 159, 3) := by decide +kernel
theorem dX7_passDay_18 : decode cX7_passDay 18 = .ok (.istore_n 2, 1) := by decide +kernel
theorem dX7_passDay_19 : decode cX7_passDay 19 = .ok (.aload_n 0, 1) := by decide +kernel
theorem dX7_passDay_20 : decode cX7_passDay 20 = .ok (.getfield 13, 3) := by decide +kernel
theorem dX7_passDay_23 : decode cX7_passDay 23 = .ok (.iload_n 1, 1) := by decide +kernel
theorem dX7_passDay_24 : decode cX7_passDay 24 = .ok (.dup2, 1) := by decide +kernel
theorem dX7_passDay_25 : decode cX7_passDay 25 = .ok (.laload, 1) := by decide +kernel
theorem dX7_passDay_26 : decode cX7_passDay 26 = .ok (.iload_n 2, 1) := by decide +kernel
theorem dX7_passDay_27 : decode cX7_passDay 27 = .ok (.i2l, 1) := by decide +kernel
theorem dX7_passDay_28 : decode cX7_passDay 28 = .ok (.lsub, 1) := by decide +kernel
theorem dX7_passDay_29 : decode cX7_passDay 29 = .ok (.lastore, 1) := by decide +kernel
theorem dX7_passDay_30 : decode cX7_passDay 30 = .ok (.aload_n 0, 1) := by decide +kernel
theorem dX7_passDay_31 : decode cX7_passDay 31 = .ok (.getfield 7, 3) := by decide +kernel
theorem dX7_passDay_34 : decode cX7_passDay 34 = .ok (.bipush 20, 2) := by decide +kernel
theorem dX7_passDay_36 : decode cX7_passDay 36 = .ok (.iconst 2, 1) := by decide +kernel
theorem dX7_passDay_37 : decode cX7_passDay 37 = .ok (.iload_n 1, 1) := by decide +kernel
theorem dX7_passDay_38 : decode cX7_passDay 38 = .ok (.imul, 1) := by decide +kernel
theorem dX7_passDay_39 : decode cX7_passDay 39 = .ok (.iadd, 1) := by decide +kernel
theorem dX7_passDay_40 : decode cX7_passDay 40 = .ok (.dup2, 1) := by decide +kernel
theorem dX7_passDay_41 : decode cX7_passDay 41 = .ok (.iaload, 1) := by decide +kernel
theorem dX7_passDay_42 : decode cX7_passDay 42 = .ok (.iload_n 2, 1) := by decide +kernel
theorem dX7_passDay_43 : decode cX7_passDay 43 = .ok (.iadd, 1) := by decide +kernel
theorem dX7_passDay_44 : decode cX7_passDay 44 = .ok (.iastore, 1) := by decide +kernel
theorem dX7_passDay_45 : decode cX7_passDay 45 = .ok (.aload_n 0, 1) := by decide +kernel
theorem dX7_passDay_46 : decode cX7_passDay 46 = .ok (.iload_n 1, 1) := by decide +kernel
theorem dX7_passDay_47 : decode cX7_passDay 47 = .ok (.invokevirtual 162, 3) := by decide +kernel
theorem dX7_passDay_50 : decode cX7_passDay 50 = .ok (.istore_n 3, 1) := by decide +kernel
theorem dX7_passDay_51 : decode cX7_passDay 51 = .ok (.aload_n 0, 1) := by decide +kernel
theorem dX7_passDay_52 : decode cX7_passDay 52 = .ok (.getfield 13, 3) := by decide +kernel
theorem dX7_passDay_55 : decode cX7_passDay 55 = .ok (.iload_n 1, 1) := by decide +kernel
theorem dX7_passDay_56 : decode cX7_passDay 56 = .ok (.laload, 1) := by decide +kernel
theorem dX7_passDay_57 : decode cX7_passDay 57 = .ok (.lconst 0, 1) := by decide +kernel
theorem dX7_passDay_58 : decode cX7_passDay 58 = .ok (.lcmp, 1) := by decide +kernel
theorem dX7_passDay_59 : decode cX7_passDay 59 = .ok (.ifCond .ge 102, 3) := by decide +kernel
theorem dX7_passDay_62 : decode cX7_passDay 62 = .ok (.iload_n 3, 1) := by decide +kernel
theorem dX7_passDay_63 : decode cX7_passDay 63 = .ok (.ifCond .lt 98, 3) := by decide +kernel
theorem dX7_passDay_66 : decode cX7_passDay 66 = .ok (.aload_n 0, 1) := by decide +kernel
theorem dX7_passDay_67 : decode cX7_passDay 67 = .ok (.iload_n 1, 1) := by decide +kernel
theorem dX7_passDay_68 : decode cX7_passDay 68 = .ok (.invokevirtual 159, 3) := by decide +kernel
theorem dX7_passDay_71 : decode cX7_passDay 71 = .ok (.istore 4, 2) := by decide +kernel
theorem dX7_passDay_73 : decode cX7_passDay 73 = .ok (.aload_n 0, 1) := by decide +kernel
theorem dX7_passDay_74 : decode cX7_passDay 74 = .ok (.getfield 7, 3) := by decide +kernel
theorem dX7_passDay_77 : decode cX7_passDay 77 = .ok (.bipush 20, 2) := by decide +kernel
theorem dX7_passDay_79 : decode cX7_passDay 79 = .ok (.iconst 2, 1) := by decide +kernel
theorem dX7_passDay_80 : decode cX7_passDay 80 = .ok (.iload_n 1, 1) := by decide +kernel
theorem dX7_passDay_81 : decode cX7_passDay 81 = .ok (.imul, 1) := by decide +kernel
theorem dX7_passDay_82 : decode cX7_passDay 82 = .ok (.iadd, 1) := by decide +kernel
theorem dX7_passDay_83 : decode cX7_passDay 83 = .ok (.iconst 1, 1) := by decide +kernel
theorem dX7_passDay_84 : decode cX7_passDay 84 = .ok (.iadd, 1) := by decide +kernel
theorem dX7_passDay_85 : decode cX7_passDay 85 = .ok (.dup2, 1) := by decide +kernel
theorem dX7_passDay_86 : decode cX7_passDay 86 = .ok (.iaload, 1) := by decide +kernel
theorem dX7_passDay_87 : decode cX7_passDay 87 = .ok (.aload_n 0, 1) := by decide +kernel
theorem dX7_passDay_88 : decode cX7_passDay 88 = .ok (.iload_n 3, 1) := by decide +kernel
theorem dX7_passDay_89 : decode cX7_passDay 89 = .ok (.invokevirtual 124, 3) := by decide +kernel
theorem dX7_passDay_92 : decode cX7_passDay 92 = .ok (.iadd, 1) := by decide +kernel
theorem dX7_passDay_93 : decode cX7_passDay 93 = .ok (.iastore, 1) := by decide +kernel
theorem dX7_passDay_94 : decode cX7_passDay 94 = .ok (.aload_n 0, 1) := by decide +kernel
theorem dX7_passDay_95 : decode cX7_passDay 95 = .ok (.aload_n 0, 1) := by decide +kernel
theorem dX7_passDay_96 : decode cX7_passDay 96 = .ok (.iload_n 3, 1) := by decide +kernel
theorem dX7_passDay_97 : decode cX7_passDay 97 = .ok (.invokevirtual 81, 3) := by decide +kernel
theorem dX7_passDay_100 : decode cX7_passDay 100 = .ok (.aload_n 0, 1) := by decide +kernel
theorem dX7_passDay_101 : decode cX7_passDay 101 = .ok (.iload_n 3, 1) := by decide +kernel
theorem dX7_passDay_102 : decode cX7_passDay 102 = .ok (.invokevirtual 84, 3) := by decide +kernel
theorem dX7_passDay_105 : decode cX7_passDay 105 = .ok (.bipush (-6), 2) := by decide +kernel
theorem dX7_passDay_107 : decode cX7_passDay 107 = .ok (.invokevirtual 108, 3) := by decide +kernel
theorem dX7_passDay_110 : decode cX7_passDay 110 = .ok (.aload_n 0, 1) := by decide +kernel
theorem dX7_passDay_111 : decode cX7_passDay 111 = .ok (.invokevirtual 118, 3) := by decide +kernel
theorem dX7_passDay_114 : decode cX7_passDay 114 = .ok (.iload 4, 2) := by decide +kernel
theorem dX7_passDay_116 : decode cX7_passDay 116 = .ok (.aload_n 0, 1) := by decide +kernel
theorem dX7_passDay_117 : decode cX7_passDay 117 = .ok (.iload_n 1, 1) := by decide +kernel
theorem dX7_passDay_118 : decode cX7_passDay 118 = .ok (.invokevirtual 159, 3) := by decide +kernel
theorem dX7_passDay_121 : decode cX7_passDay 121 = .ok (.isub, 1) := by decide +kernel
theorem dX7_passDay_122 : decode cX7_passDay 122 = .ok (.istore 5, 2) := by decide +kernel
theorem dX7_passDay_124 : decode cX7_passDay 124 = .ok (.aload_n 0, 1) := by decide +kernel
theorem dX7_passDay_125 : decode cX7_passDay 125 = .ok (.getfield 13, 3) := by decide +kernel
theorem dX7_passDay_128 : decode cX7_passDay 128 = .ok (.iload_n 1, 1) := by decide +kernel
theorem dX7_passDay_129 : decode cX7_passDay 129 = .ok (.dup2, 1) := by decide +kernel
theorem dX7_passDay_130 : decode cX7_passDay 130 = .ok (.laload, 1) := by decide +kernel
theorem dX7_passDay_131 : decode cX7_passDay 131 = .ok (.iload 5, 2) := by decide +kernel
theorem dX7_passDay_133 : decode cX7_passDay 133 = .ok (.i2l, 1) := by decide +kernel
theorem dX7_passDay_134 : decode cX7_passDay 134 = .ok (.ladd, 1) := by decide +kernel
theorem dX7_passDay_135 : decode cX7_passDay 135 = .ok (.lastore, 1) := by decide +kernel
theorem dX7_passDay_136 : decode cX7_passDay 136 = .ok (.aload_n 0, 1) := by decide +kernel
theorem dX7_passDay_137 : decode cX7_passDay 137 = .ok (.getfield 7, 3) := by decide +kernel
theorem dX7_passDay_140 : decode cX7_passDay 140 = .ok (.bipush 20, 2) := by decide +kernel
theorem dX7_passDay_142 : decode cX7_passDay 142 = .ok (.iconst 2, 1) := by decide +kernel
theorem dX7_passDay_143 : decode cX7_passDay 143 = .ok (.iload_n 1, 1) := by decide +kernel
theorem dX7_passDay_144 : decode cX7_passDay 144 = .ok (.imul, 1) := by decide +kernel
theorem dX7_passDay_145 : decode cX7_passDay 145 = .ok (.iadd, 1) := by decide +kernel
theorem dX7_passDay_146 : decode cX7_passDay 146 = .ok (.dup2, 1) := by decide +kernel
theorem dX7_passDay_147 : decode cX7_passDay 147 = .ok (.iaload, 1) := by decide +kernel
theorem dX7_passDay_148 : decode cX7_passDay 148 = .ok (.iload 5, 2) := by decide +kernel
theorem dX7_passDay_150 : decode cX7_passDay 150 = .ok (.isub, 1) := by decide +kernel
theorem dX7_passDay_151 : decode cX7_passDay 151 = .ok (.iastore, 1) := by decide +kernel
theorem dX7_passDay_152 : decode cX7_passDay 152 = .ok (.aload_n 0, 1) := by decide +kernel
theorem dX7_passDay_153 : decode cX7_passDay 153 = .ok (.iload_n 1, 1) := by decide +kernel
theorem dX7_passDay_154 : decode cX7_passDay 154 = .ok (.invokevirtual 162, 3) := by decide +kernel
theorem dX7_passDay_157 : decode cX7_passDay 157 = .ok (.istore_n 3, 1) := by decide +kernel
theorem dX7_passDay_158 : decode cX7_passDay 158 = .ok (.goto (-107), 3) := by decide +kernel
theorem dX7_passDay_161 : decode cX7_passDay 161 = .ok (.iinc 1 1, 3) := by decide +kernel
theorem dX7_passDay_164 : decode cX7_passDay 164 = .ok (.goto (-162), 3) := by decide +kernel
theorem dX7_passDay_167 : decode cX7_passDay 167 = .ok (.aload_n 0, 1) := by decide +kernel
theorem dX7_passDay_168 : decode cX7_passDay 168 = .ok (.getfield 7, 3) := by decide +kernel
theorem dX7_passDay_171 : decode cX7_passDay 171 = .ok (.iconst 5, 1) := by decide +kernel
theorem dX7_passDay_172 : decode cX7_passDay 172 = .ok (.dup2, 1) := by decide +kernel
theorem dX7_passDay_173 : decode cX7_passDay 173 = .ok (.iaload, 1) := by decide +kernel
theorem dX7_passDay_174 : decode cX7_passDay 174 = .ok (.iconst 1, 1) := by decide +kernel
theorem dX7_passDay_175 : decode cX7_passDay 175 = .ok (.iadd, 1) := by decide +kernel
theorem dX7_passDay_176 : decode cX7_passDay 176 = .ok (.iastore, 1) := by decide +kernel
theorem dX7_passDay_177 : decode cX7_passDay 177 = .ok (.return_, 1) := by decide +kernel
theorem dX7_days_0 : decode cX7_days 0 = .ok (.iload_n 1, 1) := by decide +kernel
theorem dX7_days_1 : decode cX7_days 1 = .ok (.iconst 1, 1) := by decide +kernel
theorem dX7_days_2 : decode cX7_days 2 = .ok (.bipush 60, 2) := by decide +kernel
theorem dX7_days_4 : decode cX7_days 4 = .ok (.invokestatic 62, 3) := by decide +kernel
theorem dX7_days_7 : decode cX7_days 7 = .ok (.ifCond .ne 6, 3) := by decide +kernel
theorem dX7_days_10 : decode cX7_days 10 = .ok (.bipush (-2), 2) := by decide +kernel
theorem dX7_days_12 : decode cX7_days 12 = .ok (.ireturn, 1) := by decide +kernel
theorem dX7_days_13 : decode cX7_days 13 = .ok (.aload_n 0, 1) := by decide +kernel
theorem dX7_days_14 : decode cX7_days 14 = .ok (.invokevirtual 73, 3) := by decide +kernel
theorem dX7_days_17 : decode cX7_days 17 = .ok (.iconst 0, 1) := by decide +kernel
theorem dX7_days_18 : decode cX7_days 18 = .ok (.istore_n 2, 1) := by decide +kernel
theorem dX7_days_19 : decode cX7_days 19 = .ok (.iload_n 2, 1) := by decide +kernel
theorem dX7_days_20 : decode cX7_days 20 = .ok (.iload_n 1, 1) := by decide +kernel
theorem dX7_days_21 : decode cX7_days 21 = .ok (.if_icmp .ge 13, 3) := by decide +kernel
theorem dX7_days_24 : decode cX7_days 24 = .ok (.aload_n 0, 1) := by decide +kernel
theorem dX7_days_25 : decode cX7_days 25 = .ok (.invokevirtual 165, 3) := by decide +kernel
theorem dX7_days_28 : decode cX7_days 28 = .ok (.iinc 2 1, 3) := by decide +kernel
theorem dX7_days_31 : decode cX7_days 31 = .ok (.goto (-12), 3) := by decide +kernel
theorem dX7_days_34 : decode cX7_days 34 = .ok (.aload_n 0, 1) := by decide +kernel
theorem dX7_days_35 : decode cX7_days 35 = .ok (.getfield 7, 3) := by decide +kernel
theorem dX7_days_38 : decode cX7_days 38 = .ok (.iconst 5, 1) := by decide +kernel
theorem dX7_days_39 : decode cX7_days 39 = .ok (.iaload, 1) := by decide +kernel
theorem dX7_days_40 : decode cX7_days 40 = .ok (.ireturn, 1) := by decide +kernel
theorem dX7_pieceOf_0 : decode cX7_pieceOf 0 = .ok (.iconst 0, 1) := by decide +kernel
theorem dX7_pieceOf_1 : decode cX7_pieceOf 1 = .ok (.istore_n 2, 1) := by decide +kernel
theorem dX7_pieceOf_2 : decode cX7_pieceOf 2 = .ok (.iconst 0, 1) := by decide +kernel
theorem dX7_pieceOf_3 : decode cX7_pieceOf 3 = .ok (.istore_n 3, 1) := by decide +kernel
theorem dX7_pieceOf_4 : decode cX7_pieceOf 4 = .ok (.iload_n 3, 1) := by decide +kernel
theorem dX7_pieceOf_5 : decode cX7_pieceOf 5 = .ok (.aload_n 0, 1) := by decide +kernel
theorem dX7_pieceOf_6 : decode cX7_pieceOf 6 = .ok (.getfield 7, 3) := by decide +kernel
theorem dX7_pieceOf_9 : decode cX7_pieceOf 9 = .ok (.bipush 7, 2) := by decide +kernel
theorem dX7_pieceOf_11 : decode cX7_pieceOf 11 = .ok (.iaload, 1) := by decide +kernel
theorem dX7_pieceOf_12 : decode cX7_pieceOf 12 = .ok (.if_icmp .ge 27, 3) := by decide +kernel
theorem dX7_pieceOf_15 : decode cX7_pieceOf 15 = .ok (.aload_n 0, 1) := by decide +kernel
theorem dX7_pieceOf_16 : decode cX7_pieceOf 16 = .ok (.iload_n 3, 1) := by decide +kernel
theorem dX7_pieceOf_17 : decode cX7_pieceOf 17 = .ok (.invokevirtual 87, 3) := by decide +kernel
theorem dX7_pieceOf_20 : decode cX7_pieceOf 20 = .ok (.ifCond .lt 13, 3) := by decide +kernel
theorem dX7_pieceOf_23 : decode cX7_pieceOf 23 = .ok (.iload_n 2, 1) := by decide +kernel
theorem dX7_pieceOf_24 : decode cX7_pieceOf 24 = .ok (.iload_n 1, 1) := by decide +kernel
theorem dX7_pieceOf_25 : decode cX7_pieceOf 25 = .ok (.if_icmp .ne 5, 3) := by decide +kernel
theorem dX7_pieceOf_28 : decode cX7_pieceOf 28 = .ok (.iload_n 3, 1) := by decide +kernel
theorem dX7_pieceOf_29 : decode cX7_pieceOf 29 = .ok (.ireturn, 1) := by decide +kernel
theorem dX7_pieceOf_30 : decode cX7_pieceOf 30 = .ok (.iinc 2 1, 3) := by decide +kernel
theorem dX7_pieceOf_33 : decode cX7_pieceOf 33 = .ok (.iinc 3 1, 3) := by decide +kernel
theorem dX7_pieceOf_36 : decode cX7_pieceOf 36 = .ok (.goto (-32), 3) := by decide +kernel
theorem dX7_pieceOf_39 : decode cX7_pieceOf 39 = .ok (.bipush (-6), 2) := by decide +kernel
theorem dX7_pieceOf_41 : decode cX7_pieceOf 41 = .ok (.ireturn, 1) := by decide +kernel
theorem dX7_ofRange_0 : decode cX7_ofRange 0 = .ok (.aload_n 0, 1) := by decide +kernel
theorem dX7_ofRange_1 : decode cX7_ofRange 1 = .ok (.iload_n 1, 1) := by decide +kernel
theorem dX7_ofRange_2 : decode cX7_ofRange 2 = .ok (.invokevirtual 168, 3) := by decide +kernel
theorem dX7_ofRange_5 : decode cX7_ofRange 5 = .ok (.istore_n 3, 1) := by decide +kernel
theorem dX7_ofRange_6 : decode cX7_ofRange 6 = .ok (.iload_n 3, 1) := by decide +kernel
theorem dX7_ofRange_7 : decode cX7_ofRange 7 = .ok (.ifCond .ge 5, 3) := by decide +kernel
theorem dX7_ofRange_10 : decode cX7_ofRange 10 = .ok (.iconst (-1), 1) := by decide +kernel
theorem dX7_ofRange_11 : decode cX7_ofRange 11 = .ok (.ireturn, 1) := by decide +kernel
theorem dX7_ofRange_12 : decode cX7_ofRange 12 = .ok (.iload_n 2, 1) := by decide +kernel
theorem dX7_ofRange_13 : decode cX7_ofRange 13 = .ok (.ifCond .ne 11, 3) := by decide +kernel
theorem dX7_ofRange_16 : decode cX7_ofRange 16 = .ok (.aload_n 0, 1) := by decide +kernel
theorem dX7_ofRange_17 : decode cX7_ofRange 17 = .ok (.iload_n 3, 1) := by decide +kernel
theorem dX7_ofRange_18 : decode cX7_ofRange 18 = .ok (.invokevirtual 87, 3) := by decide +kernel
theorem dX7_ofRange_21 : decode cX7_ofRange 21 = .ok (.goto 31, 3) := by decide +kernel
theorem dX7_ofRange_24 : decode cX7_ofRange 24 = .ok (.iload_n 2, 1) := by decide +kernel
theorem dX7_ofRange_25 : decode cX7_ofRange 25 = .ok (.iconst 1, 1) := by decide +kernel
theorem dX7_ofRange_26 : decode cX7_ofRange 26 = .ok (.if_icmp .ne 11, 3) := by decide +kernel
theorem dX7_ofRange_29 : decode cX7_ofRange 29 = .ok (.aload_n 0, 1) := by decide +kernel
theorem dX7_ofRange_30 : decode cX7_ofRange 30 = .ok (.iload_n 3, 1) := by decide +kernel
theorem dX7_ofRange_31 : decode cX7_ofRange 31 = .ok (.invokevirtual 81, 3) := by decide +kernel
theorem dX7_ofRange_34 : decode cX7_ofRange 34 = .ok (.goto 18, 3) := by decide +kernel
theorem dX7_ofRange_37 : decode cX7_ofRange 37 = .ok (.iload_n 2, 1) := by decide +kernel
theorem dX7_ofRange_38 : decode cX7_ofRange 38 = .ok (.iconst 2, 1) := by decide +kernel
theorem dX7_ofRange_39 : decode cX7_ofRange 39 = .ok (.if_icmp .ne 11, 3) := by decide +kernel
theorem dX7_ofRange_42 : decode cX7_ofRange 42 = .ok (.aload_n 0, 1) := by decide +kernel
theorem dX7_ofRange_43 : decode cX7_ofRange 43 = .ok (.iload_n 3, 1) := by decide +kernel
theorem dX7_ofRange_44 : decode cX7_ofRange 44 = .ok (.invokevirtual 124, 3) := by decide +kernel
theorem dX7_ofRange_47 : decode cX7_ofRange 47 = .ok (.goto 5, 3) := by decide +kernel
theorem dX7_ofRange_50 : decode cX7_ofRange 50 = .ok (.bipush (-2), 2) := by decide +kernel
theorem dX7_ofRange_52 : decode cX7_ofRange 52 = .ok (.ireturn, 1) := by decide +kernel
theorem dX7_longestOf_0 : decode cX7_longestOf 0 = .ok (.iconst 0, 1) := by decide +kernel
theorem dX7_longestOf_1 : decode cX7_longestOf 1 = .ok (.istore_n 2, 1) := by decide +kernel
theorem dX7_longestOf_2 : decode cX7_longestOf 2 = .ok (.iconst 0, 1) := by decide +kernel
theorem dX7_longestOf_3 : decode cX7_longestOf 3 = .ok (.istore_n 3, 1) := by decide +kernel
theorem dX7_longestOf_4 : decode cX7_longestOf 4 = .ok (.iload_n 3, 1) := by decide +kernel
theorem dX7_longestOf_5 : decode cX7_longestOf 5 = .ok (.aload_n 0, 1) := by decide +kernel
theorem dX7_longestOf_6 : decode cX7_longestOf 6 = .ok (.getfield 7, 3) := by decide +kernel
theorem dX7_longestOf_9 : decode cX7_longestOf 9 = .ok (.bipush 7, 2) := by decide +kernel
theorem dX7_longestOf_11 : decode cX7_longestOf 11 = .ok (.iaload, 1) := by decide +kernel
theorem dX7_longestOf_12 : decode cX7_longestOf 12 = .ok (.if_icmp .ge 37, 3) := by decide +kernel
theorem dX7_longestOf_15 : decode cX7_longestOf 15 = .ok (.aload_n 0, 1) := by decide +kernel
theorem dX7_longestOf_16 : decode cX7_longestOf 16 = .ok (.iload_n 3, 1) := by decide +kernel
theorem dX7_longestOf_17 : decode cX7_longestOf 17 = .ok (.invokevirtual 87, 3) := by decide +kernel
theorem dX7_longestOf_20 : decode cX7_longestOf 20 = .ok (.iload_n 1, 1) := by decide +kernel
theorem dX7_longestOf_21 : decode cX7_longestOf 21 = .ok (.if_icmp .ne 20, 3) := by decide +kernel
theorem dX7_longestOf_24 : decode cX7_longestOf 24 = .ok (.aload_n 0, 1) := by decide +kernel
theorem dX7_longestOf_25 : decode cX7_longestOf 25 = .ok (.iload_n 3, 1) := by decide +kernel
theorem dX7_longestOf_26 : decode cX7_longestOf 26 = .ok (.invokevirtual 124, 3) := by decide +kernel
theorem dX7_longestOf_29 : decode cX7_longestOf 29 = .ok (.iload_n 2, 1) := by decide +kernel
theorem dX7_longestOf_30 : decode cX7_longestOf 30 = .ok (.if_icmp .le 11, 3) := by decide +kernel
theorem dX7_longestOf_33 : decode cX7_longestOf 33 = .ok (.aload_n 0, 1) := by decide +kernel
theorem dX7_longestOf_34 : decode cX7_longestOf 34 = .ok (.iload_n 3, 1) := by decide +kernel
theorem dX7_longestOf_35 : decode cX7_longestOf 35 = .ok (.invokevirtual 124, 3) := by decide +kernel
theorem dX7_longestOf_38 : decode cX7_longestOf 38 = .ok (.goto 4, 3) := by decide +kernel
theorem dX7_longestOf_41 : decode cX7_longestOf 41 = .ok (.iload_n 2, 1) := by decide +kernel
theorem dX7_longestOf_42 : decode cX7_longestOf 42 = .ok (.istore_n 2, 1) := by decide +kernel
theorem dX7_longestOf_43 : decode cX7_longestOf 43 = .ok (.iinc 3 1, 3) := by decide +kernel
theorem dX7_longestOf_46 : decode cX7_longestOf 46 = .ok (.goto (-42), 3) := by decide +kernel
theorem dX7_longestOf_49 : decode cX7_longestOf 49 = .ok (.iload_n 2, 1) := by decide +kernel
theorem dX7_longestOf_50 : decode cX7_longestOf 50 = .ok (.ireturn, 1) := by decide +kernel
theorem dX7_ofOwner_0 : decode cX7_ofOwner 0 = .ok (.aload_n 0, 1) := by decide +kernel
theorem dX7_ofOwner_1 : decode cX7_ofOwner 1 = .ok (.iload_n 1, 1) := by decide +kernel
theorem dX7_ofOwner_2 : decode cX7_ofOwner 2 = .ok (.invokevirtual 77, 3) := by decide +kernel
end
section
theorem dX7_ofOwner_5 : decode cX7_ofOwner 5 = .ok (.ifCond .ne 5, 3) := by decide +kernel
theorem dX7_ofOwner_8 : decode cX7_ofOwner 8 = .ok (.iconst (-1), 1) := by decide +kernel
theorem dX7_ofOwner_9 : decode cX7_ofOwner 9 = .ok (.ireturn, 1) := by decide +kernel
theorem dX7_ofOwner_10 : decode cX7_ofOwner 10 = .ok (.iload_n 2, 1) := by decide +kernel
theorem dX7_ofOwner_11 : decode cX7_ofOwner 11 = .ok (.tableswitch 77 0 5 #[37, 43, 49, 55, 61, 61], 37) := by decide +kernel
theorem dX7_ofOwner_48 : decode cX7_ofOwner 48 = .ok (.aload_n 0, 1) := by decide +kernel
theorem dX7_ofOwner_49 : decode cX7_ofOwner 49 = .ok (.iload_n 1, 1) := by decide +kernel
theorem dX7_ofOwner_50 : decode cX7_ofOwner 50 = .ok (.invokevirtual 153, 3) := by decide +kernel
theorem dX7_ofOwner_53 : decode cX7_ofOwner 53 = .ok (.ireturn, 1) := by decide +kernel
theorem dX7_ofOwner_54 : decode cX7_ofOwner 54 = .ok (.aload_n 0, 1) := by decide +kernel
theorem dX7_ofOwner_55 : decode cX7_ofOwner 55 = .ok (.iload_n 1, 1) := by decide +kernel
theorem dX7_ofOwner_56 : decode cX7_ofOwner 56 = .ok (.invokevirtual 101, 3) := by decide +kernel
theorem dX7_ofOwner_59 : decode cX7_ofOwner 59 = .ok (.ireturn, 1) := by decide +kernel
theorem dX7_ofOwner_60 : decode cX7_ofOwner 60 = .ok (.aload_n 0, 1) := by decide +kernel
theorem dX7_ofOwner_61 : decode cX7_ofOwner 61 = .ok (.iload_n 1, 1) := by decide +kernel
theorem dX7_ofOwner_62 : decode cX7_ofOwner 62 = .ok (.invokevirtual 171, 3) := by decide +kernel
theorem dX7_ofOwner_65 : decode cX7_ofOwner 65 = .ok (.ireturn, 1) := by decide +kernel
theorem dX7_ofOwner_66 : decode cX7_ofOwner 66 = .ok (.aload_n 0, 1) := by decide +kernel
theorem dX7_ofOwner_67 : decode cX7_ofOwner 67 = .ok (.iload_n 1, 1) := by decide +kernel
theorem dX7_ofOwner_68 : decode cX7_ofOwner 68 = .ok (.invokevirtual 159, 3) := by decide +kernel
theorem dX7_ofOwner_71 : decode cX7_ofOwner 71 = .ok (.ireturn, 1) := by decide +kernel
theorem dX7_ofOwner_72 : decode cX7_ofOwner 72 = .ok (.aload_n 0, 1) := by decide +kernel
theorem dX7_ofOwner_73 : decode cX7_ofOwner 73 = .ok (.getfield 7, 3) := by decide +kernel
theorem dX7_ofOwner_76 : decode cX7_ofOwner 76 = .ok (.bipush 20, 2) := by decide +kernel
theorem dX7_ofOwner_78 : decode cX7_ofOwner 78 = .ok (.iconst 2, 1) := by decide +kernel
theorem dX7_ofOwner_79 : decode cX7_ofOwner 79 = .ok (.iload_n 1, 1) := by decide +kernel
theorem dX7_ofOwner_80 : decode cX7_ofOwner 80 = .ok (.imul, 1) := by decide +kernel
theorem dX7_ofOwner_81 : decode cX7_ofOwner 81 = .ok (.iadd, 1) := by decide +kernel
theorem dX7_ofOwner_82 : decode cX7_ofOwner 82 = .ok (.iload_n 2, 1) := by decide +kernel
theorem dX7_ofOwner_83 : decode cX7_ofOwner 83 = .ok (.iadd, 1) := by decide +kernel
theorem dX7_ofOwner_84 : decode cX7_ofOwner 84 = .ok (.iconst 4, 1) := by decide +kernel
theorem dX7_ofOwner_85 : decode cX7_ofOwner 85 = .ok (.isub, 1) := by decide +kernel
theorem dX7_ofOwner_86 : decode cX7_ofOwner 86 = .ok (.iaload, 1) := by decide +kernel
theorem dX7_ofOwner_87 : decode cX7_ofOwner 87 = .ok (.ireturn, 1) := by decide +kernel
theorem dX7_ofOwner_88 : decode cX7_ofOwner 88 = .ok (.bipush (-2), 2) := by decide +kernel
theorem dX7_ofOwner_90 : decode cX7_ofOwner 90 = .ok (.ireturn, 1) := by decide +kernel
theorem dX7_money_0 : decode cX7_money 0 = .ok (.aload_n 0, 1) := by decide +kernel
theorem dX7_money_1 : decode cX7_money 1 = .ok (.iload_n 1, 1) := by decide +kernel
theorem dX7_money_2 : decode cX7_money 2 = .ok (.invokevirtual 77, 3) := by decide +kernel
theorem dX7_money_5 : decode cX7_money 5 = .ok (.ifCond .eq 12, 3) := by decide +kernel
theorem dX7_money_8 : decode cX7_money 8 = .ok (.aload_n 0, 1) := by decide +kernel
theorem dX7_money_9 : decode cX7_money 9 = .ok (.getfield 13, 3) := by decide +kernel
theorem dX7_money_12 : decode cX7_money 12 = .ok (.iload_n 1, 1) := by decide +kernel
theorem dX7_money_13 : decode cX7_money 13 = .ok (.laload, 1) := by decide +kernel
theorem dX7_money_14 : decode cX7_money 14 = .ok (.goto 6, 3) := by decide +kernel
theorem dX7_money_17 : decode cX7_money 17 = .ok (.ldc2_w 174, 3) := by decide +kernel
theorem dX7_money_20 : decode cX7_money 20 = .ok (.lreturn, 1) := by decide +kernel
theorem dX7_ownerOn_0 : decode cX7_ownerOn 0 = .ok (.bipush (-6), 2) := by decide +kernel
theorem dX7_ownerOn_2 : decode cX7_ownerOn 2 = .ok (.istore_n 2, 1) := by decide +kernel
theorem dX7_ownerOn_3 : decode cX7_ownerOn 3 = .ok (.iconst 0, 1) := by decide +kernel
theorem dX7_ownerOn_4 : decode cX7_ownerOn 4 = .ok (.istore_n 3, 1) := by decide +kernel
theorem dX7_ownerOn_5 : decode cX7_ownerOn 5 = .ok (.iload_n 3, 1) := by decide +kernel
theorem dX7_ownerOn_6 : decode cX7_ownerOn 6 = .ok (.aload_n 0, 1) := by decide +kernel
theorem dX7_ownerOn_7 : decode cX7_ownerOn 7 = .ok (.getfield 7, 3) := by decide +kernel
theorem dX7_ownerOn_10 : decode cX7_ownerOn 10 = .ok (.bipush 7, 2) := by decide +kernel
theorem dX7_ownerOn_12 : decode cX7_ownerOn 12 = .ok (.iaload, 1) := by decide +kernel
theorem dX7_ownerOn_13 : decode cX7_ownerOn 13 = .ok (.if_icmp .ge 28, 3) := by decide +kernel
theorem dX7_ownerOn_16 : decode cX7_ownerOn 16 = .ok (.aload_n 0, 1) := by decide +kernel
theorem dX7_ownerOn_17 : decode cX7_ownerOn 17 = .ok (.iload_n 3, 1) := by decide +kernel
theorem dX7_ownerOn_18 : decode cX7_ownerOn 18 = .ok (.invokevirtual 81, 3) := by decide +kernel
theorem dX7_ownerOn_21 : decode cX7_ownerOn 21 = .ok (.iload_n 1, 1) := by decide +kernel
theorem dX7_ownerOn_22 : decode cX7_ownerOn 22 = .ok (.if_icmp .gt 11, 3) := by decide +kernel
theorem dX7_ownerOn_25 : decode cX7_ownerOn 25 = .ok (.aload_n 0, 1) := by decide +kernel
theorem dX7_ownerOn_26 : decode cX7_ownerOn 26 = .ok (.iload_n 3, 1) := by decide +kernel
theorem dX7_ownerOn_27 : decode cX7_ownerOn 27 = .ok (.invokevirtual 87, 3) := by decide +kernel
theorem dX7_ownerOn_30 : decode cX7_ownerOn 30 = .ok (.goto 4, 3) := by decide +kernel
theorem dX7_ownerOn_33 : decode cX7_ownerOn 33 = .ok (.iload_n 2, 1) := by decide +kernel
theorem dX7_ownerOn_34 : decode cX7_ownerOn 34 = .ok (.istore_n 2, 1) := by decide +kernel
theorem dX7_ownerOn_35 : decode cX7_ownerOn 35 = .ok (.iinc 3 1, 3) := by decide +kernel
theorem dX7_ownerOn_38 : decode cX7_ownerOn 38 = .ok (.goto (-33), 3) := by decide +kernel
theorem dX7_ownerOn_41 : decode cX7_ownerOn 41 = .ok (.iload_n 2, 1) := by decide +kernel
theorem dX7_ownerOn_42 : decode cX7_ownerOn 42 = .ok (.ireturn, 1) := by decide +kernel
theorem dX7_ownerAt_0 : decode cX7_ownerAt 0 = .ok (.iload_n 1, 1) := by decide +kernel
theorem dX7_ownerAt_1 : decode cX7_ownerAt 1 = .ok (.iconst 0, 1) := by decide +kernel
theorem dX7_ownerAt_2 : decode cX7_ownerAt 2 = .ok (.sipush 9999, 3) := by decide +kernel
theorem dX7_ownerAt_5 : decode cX7_ownerAt 5 = .ok (.invokestatic 62, 3) := by decide +kernel
theorem dX7_ownerAt_8 : decode cX7_ownerAt 8 = .ok (.ifCond .eq 11, 3) := by decide +kernel
theorem dX7_ownerAt_11 : decode cX7_ownerAt 11 = .ok (.aload_n 0, 1) := by decide +kernel
theorem dX7_ownerAt_12 : decode cX7_ownerAt 12 = .ok (.iload_n 1, 1) := by decide +kernel
theorem dX7_ownerAt_13 : decode cX7_ownerAt 13 = .ok (.invokevirtual 176, 3) := by decide +kernel
theorem dX7_ownerAt_16 : decode cX7_ownerAt 16 = .ok (.goto 5, 3) := by decide +kernel
theorem dX7_ownerAt_19 : decode cX7_ownerAt 19 = .ok (.bipush (-2), 2) := by decide +kernel
theorem dX7_ownerAt_21 : decode cX7_ownerAt 21 = .ok (.ireturn, 1) := by decide +kernel
theorem dX7_ofTransfer_0 : decode cX7_ofTransfer 0 = .ok (.iload_n 1, 1) := by decide +kernel
theorem dX7_ofTransfer_1 : decode cX7_ofTransfer 1 = .ok (.iconst 0, 1) := by decide +kernel
theorem dX7_ofTransfer_2 : decode cX7_ofTransfer 2 = .ok (.aload_n 0, 1) := by decide +kernel
theorem dX7_ofTransfer_3 : decode cX7_ofTransfer 3 = .ok (.getfield 7, 3) := by decide +kernel
theorem dX7_ofTransfer_6 : decode cX7_ofTransfer 6 = .ok (.bipush 8, 2) := by decide +kernel
theorem dX7_ofTransfer_8 : decode cX7_ofTransfer 8 = .ok (.iaload, 1) := by decide +kernel
theorem dX7_ofTransfer_9 : decode cX7_ofTransfer 9 = .ok (.iconst 1, 1) := by decide +kernel
theorem dX7_ofTransfer_10 : decode cX7_ofTransfer 10 = .ok (.isub, 1) := by decide +kernel
theorem dX7_ofTransfer_11 : decode cX7_ofTransfer 11 = .ok (.invokestatic 62, 3) := by decide +kernel
theorem dX7_ofTransfer_14 : decode cX7_ofTransfer 14 = .ok (.ifCond .ne 5, 3) := by decide +kernel
theorem dX7_ofTransfer_17 : decode cX7_ofTransfer 17 = .ok (.iconst (-1), 1) := by decide +kernel
theorem dX7_ofTransfer_18 : decode cX7_ofTransfer 18 = .ok (.ireturn, 1) := by decide +kernel
theorem dX7_ofTransfer_19 : decode cX7_ofTransfer 19 = .ok (.iload_n 2, 1) := by decide +kernel
theorem dX7_ofTransfer_20 : decode cX7_ofTransfer 20 = .ok (.iconst 0, 1) := by decide +kernel
theorem dX7_ofTransfer_21 : decode cX7_ofTransfer 21 = .ok (.iconst 4, 1) := by decide +kernel
theorem dX7_ofTransfer_22 : decode cX7_ofTransfer 22 = .ok (.invokestatic 62, 3) := by decide +kernel
theorem dX7_ofTransfer_25 : decode cX7_ofTransfer 25 = .ok (.ifCond .eq 19, 3) := by decide +kernel
theorem dX7_ofTransfer_28 : decode cX7_ofTransfer 28 = .ok (.aload_n 0, 1) := by decide +kernel
theorem dX7_ofTransfer_29 : decode cX7_ofTransfer 29 = .ok (.getfield 7, 3) := by decide +kernel
theorem dX7_ofTransfer_32 : decode cX7_ofTransfer 32 = .ok (.bipush 50, 2) := by decide +kernel
theorem dX7_ofTransfer_34 : decode cX7_ofTransfer 34 = .ok (.iconst 5, 1) := by decide +kernel
theorem dX7_ofTransfer_35 : decode cX7_ofTransfer 35 = .ok (.iload_n 1, 1) := by decide +kernel
theorem dX7_ofTransfer_36 : decode cX7_ofTransfer 36 = .ok (.imul, 1) := by decide +kernel
theorem dX7_ofTransfer_37 : decode cX7_ofTransfer 37 = .ok (.iadd, 1) := by decide +kernel
theorem dX7_ofTransfer_38 : decode cX7_ofTransfer 38 = .ok (.iload_n 2, 1) := by decide +kernel
theorem dX7_ofTransfer_39 : decode cX7_ofTransfer 39 = .ok (.iadd, 1) := by decide +kernel
theorem dX7_ofTransfer_40 : decode cX7_ofTransfer 40 = .ok (.iaload, 1) := by decide +kernel
theorem dX7_ofTransfer_41 : decode cX7_ofTransfer 41 = .ok (.goto 5, 3) := by decide +kernel
theorem dX7_ofTransfer_44 : decode cX7_ofTransfer 44 = .ok (.bipush (-2), 2) := by decide +kernel
theorem dX7_ofTransfer_46 : decode cX7_ofTransfer 46 = .ok (.ireturn, 1) := by decide +kernel
theorem dX7_taxes_0 : decode cX7_taxes 0 = .ok (.iconst 0, 1) := by decide +kernel
theorem dX7_taxes_1 : decode cX7_taxes 1 = .ok (.istore_n 1, 1) := by decide +kernel
theorem dX7_taxes_2 : decode cX7_taxes 2 = .ok (.iconst 0, 1) := by decide +kernel
theorem dX7_taxes_3 : decode cX7_taxes 3 = .ok (.istore_n 2, 1) := by decide +kernel
theorem dX7_taxes_4 : decode cX7_taxes 4 = .ok (.iload_n 2, 1) := by decide +kernel
theorem dX7_taxes_5 : decode cX7_taxes 5 = .ok (.aload_n 0, 1) := by decide +kernel
theorem dX7_taxes_6 : decode cX7_taxes 6 = .ok (.getfield 7, 3) := by decide +kernel
theorem dX7_taxes_9 : decode cX7_taxes 9 = .ok (.bipush 6, 2) := by decide +kernel
theorem dX7_taxes_11 : decode cX7_taxes 11 = .ok (.iaload, 1) := by decide +kernel
theorem dX7_taxes_12 : decode cX7_taxes 12 = .ok (.if_icmp .ge 23, 3) := by decide +kernel
theorem dX7_taxes_15 : decode cX7_taxes 15 = .ok (.iload_n 1, 1) := by decide +kernel
theorem dX7_taxes_16 : decode cX7_taxes 16 = .ok (.aload_n 0, 1) := by decide +kernel
theorem dX7_taxes_17 : decode cX7_taxes 17 = .ok (.getfield 7, 3) := by decide +kernel
theorem dX7_taxes_20 : decode cX7_taxes 20 = .ok (.bipush 20, 2) := by decide +kernel
theorem dX7_taxes_22 : decode cX7_taxes 22 = .ok (.iconst 2, 1) := by decide +kernel
theorem dX7_taxes_23 : decode cX7_taxes 23 = .ok (.iload_n 2, 1) := by decide +kernel
theorem dX7_taxes_24 : decode cX7_taxes 24 = .ok (.imul, 1) := by decide +kernel
theorem dX7_taxes_25 : decode cX7_taxes 25 = .ok (.iadd, 1) := by decide +kernel
theorem dX7_taxes_26 : decode cX7_taxes 26 = .ok (.iaload, 1) := by decide +kernel
theorem dX7_taxes_27 : decode cX7_taxes 27 = .ok (.iadd, 1) := by decide +kernel
theorem dX7_taxes_28 : decode cX7_taxes 28 = .ok (.istore_n 1, 1) := by decide +kernel
theorem dX7_taxes_29 : decode cX7_taxes 29 = .ok (.iinc 2 1, 3) := by decide +kernel
theorem dX7_taxes_32 : decode cX7_taxes 32 = .ok (.goto (-28), 3) := by decide +kernel
theorem dX7_taxes_35 : decode cX7_taxes 35 = .ok (.iload_n 1, 1) := by decide +kernel
theorem dX7_taxes_36 : decode cX7_taxes 36 = .ok (.ireturn, 1) := by decide +kernel
theorem dX7_count_0 : decode cX7_count 0 = .ok (.iload_n 1, 1) := by decide +kernel
theorem dX7_count_1 : decode cX7_count 1 = .ok (.bipush 12, 2) := by decide +kernel
theorem dX7_count_3 : decode cX7_count 3 = .ok (.bipush 16, 2) := by decide +kernel
theorem dX7_count_5 : decode cX7_count 5 = .ok (.invokestatic 62, 3) := by decide +kernel
theorem dX7_count_8 : decode cX7_count 8 = .ok (.ifCond .eq 13, 3) := by decide +kernel
theorem dX7_count_11 : decode cX7_count 11 = .ok (.aload_n 0, 1) := by decide +kernel
theorem dX7_count_12 : decode cX7_count 12 = .ok (.getfield 7, 3) := by decide +kernel
theorem dX7_count_15 : decode cX7_count 15 = .ok (.iload_n 1, 1) := by decide +kernel
theorem dX7_count_16 : decode cX7_count 16 = .ok (.bipush 12, 2) := by decide +kernel
theorem dX7_count_18 : decode cX7_count 18 = .ok (.isub, 1) := by decide +kernel
theorem dX7_count_19 : decode cX7_count 19 = .ok (.iaload, 1) := by decide +kernel
theorem dX7_count_20 : decode cX7_count 20 = .ok (.ireturn, 1) := by decide +kernel
theorem dX7_count_21 : decode cX7_count 21 = .ok (.iload_n 1, 1) := by decide +kernel
theorem dX7_count_22 : decode cX7_count 22 = .ok (.tableswitch 137 0 10 #[58, 65, 73, 78, 89, 96, 103, 111, 119, 127, 132], 58) := by decide +kernel
theorem dX7_count_80 : decode cX7_count 80 = .ok (.aload_n 0, 1) := by decide +kernel
theorem dX7_count_81 : decode cX7_count 81 = .ok (.getfield 7, 3) := by decide +kernel
theorem dX7_count_84 : decode cX7_count 84 = .ok (.iconst 5, 1) := by decide +kernel
theorem dX7_count_85 : decode cX7_count 85 = .ok (.iaload, 1) := by decide +kernel
theorem dX7_count_86 : decode cX7_count 86 = .ok (.ireturn, 1) := by decide +kernel
theorem dX7_count_87 : decode cX7_count 87 = .ok (.aload_n 0, 1) := by decide +kernel
theorem dX7_count_88 : decode cX7_count 88 = .ok (.getfield 7, 3) := by decide +kernel
theorem dX7_count_91 : decode cX7_count 91 = .ok (.bipush 6, 2) := by decide +kernel
theorem dX7_count_93 : decode cX7_count 93 = .ok (.iaload, 1) := by decide +kernel
theorem dX7_count_94 : decode cX7_count 94 = .ok (.ireturn, 1) := by decide +kernel
theorem dX7_count_95 : decode cX7_count 95 = .ok (.aload_n 0, 1) := by decide +kernel
theorem dX7_count_96 : decode cX7_count 96 = .ok (.invokevirtual 121, 3) := by decide +kernel
theorem dX7_count_99 : decode cX7_count 99 = .ok (.ireturn, 1) := by decide +kernel
theorem dX7_count_100 : decode cX7_count 100 = .ok (.sipush 10000, 3) := by decide +kernel
theorem dX7_count_103 : decode cX7_count 103 = .ok (.aload_n 0, 1) := by decide +kernel
theorem dX7_count_104 : decode cX7_count 104 = .ok (.bipush (-6), 2) := by decide +kernel
theorem dX7_count_106 : decode cX7_count 106 = .ok (.invokevirtual 101, 3) := by decide +kernel
theorem dX7_count_109 : decode cX7_count 109 = .ok (.isub, 1) := by decide +kernel
theorem dX7_count_110 : decode cX7_count 110 = .ok (.ireturn, 1) := by decide +kernel
theorem dX7_count_111 : decode cX7_count 111 = .ok (.aload_n 0, 1) := by decide +kernel
theorem dX7_count_112 : decode cX7_count 112 = .ok (.bipush (-6), 2) := by decide +kernel
theorem dX7_count_114 : decode cX7_count 114 = .ok (.invokevirtual 153, 3) := by decide +kernel
theorem dX7_count_117 : decode cX7_count 117 = .ok (.ireturn, 1) := by decide +kernel
theorem dX7_count_118 : decode cX7_count 118 = .ok (.aload_n 0, 1) := by decide +kernel
theorem dX7_count_119 : decode cX7_count 119 = .ok (.bipush (-6), 2) := by decide +kernel
theorem dX7_count_121 : decode cX7_count 121 = .ok (.invokevirtual 171, 3) := by decide +kernel
theorem dX7_count_124 : decode cX7_count 124 = .ok (.ireturn, 1) := by decide +kernel
theorem dX7_count_125 : decode cX7_count 125 = .ok (.aload_n 0, 1) := by decide +kernel
theorem dX7_count_126 : decode cX7_count 126 = .ok (.getfield 7, 3) := by decide +kernel
theorem dX7_count_129 : decode cX7_count 129 = .ok (.bipush 8, 2) := by decide +kernel
theorem dX7_count_131 : decode cX7_count 131 = .ok (.iaload, 1) := by decide +kernel
theorem dX7_count_132 : decode cX7_count 132 = .ok (.ireturn, 1) := by decide +kernel
theorem dX7_count_133 : decode cX7_count 133 = .ok (.aload_n 0, 1) := by decide +kernel
theorem dX7_count_134 : decode cX7_count 134 = .ok (.getfield 7, 3) := by decide +kernel
theorem dX7_count_137 : decode cX7_count 137 = .ok (.bipush 9, 2) := by decide +kernel
theorem dX7_count_139 : decode cX7_count 139 = .ok (.iaload, 1) := by decide +kernel
theorem dX7_count_140 : decode cX7_count 140 = .ok (.ireturn, 1) := by decide +kernel
theorem dX7_count_141 : decode cX7_count 141 = .ok (.aload_n 0, 1) := by decide +kernel
theorem dX7_count_142 : decode cX7_count 142 = .ok (.getfield 7, 3) := by decide +kernel
theorem dX7_count_145 : decode cX7_count 145 = .ok (.bipush 10, 2) := by decide +kernel
theorem dX7_count_147 : decode cX7_count 147 = .ok (.iaload, 1) := by decide +kernel
theorem dX7_count_148 : decode cX7_count 148 = .ok (.ireturn, 1) := by decide +kernel
theorem dX7_count_149 : decode cX7_count 149 = .ok (.aload_n 0, 1) := by decide +kernel
theorem dX7_count_150 : decode cX7_count 150 = .ok (.invokevirtual 179, 3) := by decide +kernel
theorem dX7_count_153 : decode cX7_count 153 = .ok (.ireturn, 1) := by decide +kernel
theorem dX7_count_154 : decode cX7_count 154 = .ok (.aload_n 0, 1) := by decide +kernel
theorem dX7_count_155 : decode cX7_count 155 = .ok (.getfield 182, 3) := by decide +kernel
theorem dX7_count_158 : decode cX7_count 158 = .ok (.ireturn, 1) := by decide +kernel
theorem dX7_count_159 : decode cX7_count 159 = .ok (.iload_n 1, 1) := by decide +kernel
theorem dX7_count_160 : decode cX7_count 160 = .ok (.bipush 11, 2) := by decide +kernel
theorem dX7_count_162 : decode cX7_count 162 = .ok (.if_icmp .ne 10, 3) := by decide +kernel
theorem dX7_count_165 : decode cX7_count 165 = .ok (.aload_n 0, 1) := by decide +kernel
theorem dX7_count_166 : decode cX7_count 166 = .ok (.getfield 58, 3) := by decide +kernel
theorem dX7_count_169 : decode cX7_count 169 = .ok (.goto 5, 3) := by decide +kernel
theorem dX7_count_172 : decode cX7_count 172 = .ok (.bipush (-2), 2) := by decide +kernel
theorem dX7_count_174 : decode cX7_count 174 = .ok (.ireturn, 1) := by decide +kernel
theorem dX7_shareBits_0 : decode cX7_shareBits 0 = .ok (.aload_n 0, 1) := by decide +kernel
theorem dX7_shareBits_1 : decode cX7_shareBits 1 = .ok (.iload_n 1, 1) := by decide +kernel
theorem dX7_shareBits_2 : decode cX7_shareBits 2 = .ok (.invokevirtual 77, 3) := by decide +kernel
theorem dX7_shareBits_5 : decode cX7_shareBits 5 = .ok (.ifCond .ne 5, 3) := by decide +kernel
theorem dX7_shareBits_8 : decode cX7_shareBits 8 = .ok (.iconst (-1), 1) := by decide +kernel
theorem dX7_shareBits_9 : decode cX7_shareBits 9 = .ok (.ireturn, 1) := by decide +kernel
theorem dX7_shareBits_10 : decode cX7_shareBits 10 = .ok (.sipush 10000, 3) := by decide +kernel
theorem dX7_shareBits_13 : decode cX7_shareBits 13 = .ok (.aload_n 0, 1) := by decide +kernel
theorem dX7_shareBits_14 : decode cX7_shareBits 14 = .ok (.bipush (-6), 2) := by decide +kernel
theorem dX7_shareBits_16 : decode cX7_shareBits 16 = .ok (.invokevirtual 101, 3) := by decide +kernel
theorem dX7_shareBits_19 : decode cX7_shareBits 19 = .ok (.isub, 1) := by decide +kernel
theorem dX7_shareBits_20 : decode cX7_shareBits 20 = .ok (.istore_n 2, 1) := by decide +kernel
theorem dX7_shareBits_21 : decode cX7_shareBits 21 = .ok (.iload_n 2, 1) := by decide +kernel
theorem dX7_shareBits_22 : decode cX7_shareBits 22 = .ok (.ifCond .ne 7, 3) := by decide +kernel
theorem dX7_shareBits_25 : decode cX7_shareBits 25 = .ok (.iconst 0, 1) := by decide +kernel
theorem dX7_shareBits_26 : decode cX7_shareBits 26 = .ok (.goto 16, 3) := by decide +kernel
theorem dX7_shareBits_29 : decode cX7_shareBits 29 = .ok (.aload_n 0, 1) := by decide +kernel
theorem dX7_shareBits_30 : decode cX7_shareBits 30 = .ok (.iload_n 1, 1) := by decide +kernel
theorem dX7_shareBits_31 : decode cX7_shareBits 31 = .ok (.invokevirtual 101, 3) := by decide +kernel
theorem dX7_shareBits_34 : decode cX7_shareBits 34 = .ok (.i2d, 1) := by decide +kernel
theorem dX7_shareBits_35 : decode cX7_shareBits 35 = .ok (.iload_n 2, 1) := by decide +kernel
theorem dX7_shareBits_36 : decode cX7_shareBits 36 = .ok (.i2d, 1) := by decide +kernel
theorem dX7_shareBits_37 : decode cX7_shareBits 37 = .ok (.ddiv, 1) := by decide +kernel
theorem dX7_shareBits_38 : decode cX7_shareBits 38 = .ok (.d2f, 1) := by decide +kernel
theorem dX7_shareBits_39 : decode cX7_shareBits 39 = .ok (.invokestatic 185, 3) := by decide +kernel
theorem dX7_shareBits_42 : decode cX7_shareBits 42 = .ok (.ireturn, 1) := by decide +kernel
theorem dX7_hole_0 : decode cX7_hole 0 = .ok (.iload_n 1, 1) := by decide +kernel
theorem dX7_hole_1 : decode cX7_hole 1 = .ok (.iconst 1, 1) := by decide +kernel
theorem dX7_hole_2 : decode cX7_hole 2 = .ok (.sipush 10000, 3) := by decide +kernel
theorem dX7_hole_5 : decode cX7_hole 5 = .ok (.invokestatic 62, 3) := by decide +kernel
theorem dX7_hole_8 : decode cX7_hole 8 = .ok (.ifCond .eq 21, 3) := by decide +kernel
theorem dX7_hole_11 : decode cX7_hole 11 = .ok (.iload_n 2, 1) := by decide +kernel
theorem dX7_hole_12 : decode cX7_hole 12 = .ok (.iconst 0, 1) := by decide +kernel
theorem dX7_hole_13 : decode cX7_hole 13 = .ok (.iconst 2, 1) := by decide +kernel
theorem dX7_hole_14 : decode cX7_hole 14 = .ok (.invokestatic 62, 3) := by decide +kernel
theorem dX7_hole_17 : decode cX7_hole 17 = .ok (.ifCond .eq 12, 3) := by decide +kernel
theorem dX7_hole_20 : decode cX7_hole 20 = .ok (.aload_n 0, 1) := by decide +kernel
theorem dX7_hole_21 : decode cX7_hole 21 = .ok (.iload_n 1, 1) := by decide +kernel
theorem dX7_hole_22 : decode cX7_hole 22 = .ok (.iload_n 2, 1) := by decide +kernel
theorem dX7_hole_23 : decode cX7_hole 23 = .ok (.invokevirtual 127, 3) := by decide +kernel
theorem dX7_hole_26 : decode cX7_hole 26 = .ok (.goto 5, 3) := by decide +kernel
theorem dX7_hole_29 : decode cX7_hole 29 = .ok (.bipush (-2), 2) := by decide +kernel
theorem dX7_hole_31 : decode cX7_hole 31 = .ok (.ireturn, 1) := by decide +kernel
theorem dX7_wouldBe_0 : decode cX7_wouldBe 0 = .ok (.aload_n 0, 1) := by decide +kernel
theorem dX7_wouldBe_1 : decode cX7_wouldBe 1 = .ok (.iload_n 1, 1) := by decide +kernel
theorem dX7_wouldBe_2 : decode cX7_wouldBe 2 = .ok (.invokevirtual 77, 3) := by decide +kernel
theorem dX7_wouldBe_5 : decode cX7_wouldBe 5 = .ok (.ifCond .ne 5, 3) := by decide +kernel
theorem dX7_wouldBe_8 : decode cX7_wouldBe 8 = .ok (.iconst (-1), 1) := by decide +kernel
theorem dX7_wouldBe_9 : decode cX7_wouldBe 9 = .ok (.ireturn, 1) := by decide +kernel
theorem dX7_wouldBe_10 : decode cX7_wouldBe 10 = .ok (.iload_n 2, 1) := by decide +kernel
theorem dX7_wouldBe_11 : decode cX7_wouldBe 11 = .ok (.iload_n 3, 1) := by decide +kernel
theorem dX7_wouldBe_12 : decode cX7_wouldBe 12 = .ok (.invokestatic 104, 3) := by decide +kernel
theorem dX7_wouldBe_15 : decode cX7_wouldBe 15 = .ok (.ifCond .ne 6, 3) := by decide +kernel
theorem dX7_wouldBe_18 : decode cX7_wouldBe 18 = .ok (.bipush (-2), 2) := by decide +kernel
theorem dX7_wouldBe_20 : decode cX7_wouldBe 20 = .ok (.ireturn, 1) := by decide +kernel
theorem dX7_wouldBe_21 : decode cX7_wouldBe 21 = .ok (.aload_n 0, 1) := by decide +kernel
theorem dX7_wouldBe_22 : decode cX7_wouldBe 22 = .ok (.iload_n 2, 1) := by decide +kernel
theorem dX7_wouldBe_23 : decode cX7_wouldBe 23 = .ok (.iload_n 2, 1) := by decide +kernel
theorem dX7_wouldBe_24 : decode cX7_wouldBe 24 = .ok (.iload_n 3, 1) := by decide +kernel
theorem dX7_wouldBe_25 : decode cX7_wouldBe 25 = .ok (.iadd, 1) := by decide +kernel
theorem dX7_wouldBe_26 : decode cX7_wouldBe 26 = .ok (.iload_n 1, 1) := by decide +kernel
theorem dX7_wouldBe_27 : decode cX7_wouldBe 27 = .ok (.invokevirtual 108, 3) := by decide +kernel
theorem dX7_wouldBe_30 : decode cX7_wouldBe 30 = .ok (.aload_n 0, 1) := by decide +kernel
theorem dX7_wouldBe_31 : decode cX7_wouldBe 31 = .ok (.invokevirtual 111, 3) := by decide +kernel
theorem dX7_wouldBe_34 : decode cX7_wouldBe 34 = .ok (.ireturn, 1) := by decide +kernel
theorem dX7_ownersIn_0 : decode cX7_ownersIn 0 = .ok (.iconst 0, 1) := by decide +kernel
theorem dX7_ownersIn_1 : decode cX7_ownersIn 1 = .ok (.istore_n 3, 1) := by decide +kernel
theorem dX7_ownersIn_2 : decode cX7_ownersIn 2 = .ok (.iconst 0, 1) := by decide +kernel
theorem dX7_ownersIn_3 : decode cX7_ownersIn 3 = .ok (.istore 4, 2) := by decide +kernel
theorem dX7_ownersIn_5 : decode cX7_ownersIn 5 = .ok (.iload 4, 2) := by decide +kernel
theorem dX7_ownersIn_7 : decode cX7_ownersIn 7 = .ok (.aload_n 0, 1) := by decide +kernel
theorem dX7_ownersIn_8 : decode cX7_ownersIn 8 = .ok (.getfield 7, 3) := by decide +kernel
theorem dX7_ownersIn_11 : decode cX7_ownersIn 11 = .ok (.bipush 7, 2) := by decide +kernel
theorem dX7_ownersIn_13 : decode cX7_ownersIn 13 = .ok (.iaload, 1) := by decide +kernel
theorem dX7_ownersIn_14 : decode cX7_ownersIn 14 = .ok (.if_icmp .ge 53, 3) := by decide +kernel
theorem dX7_ownersIn_17 : decode cX7_ownersIn 17 = .ok (.iload_n 3, 1) := by decide +kernel
theorem dX7_ownersIn_18 : decode cX7_ownersIn 18 = .ok (.aload_n 0, 1) := by decide +kernel
theorem dX7_ownersIn_19 : decode cX7_ownersIn 19 = .ok (.iload 4, 2) := by decide +kernel
theorem dX7_ownersIn_21 : decode cX7_ownersIn 21 = .ok (.invokevirtual 87, 3) := by decide +kernel
theorem dX7_ownersIn_24 : decode cX7_ownersIn 24 = .ok (.ifCond .lt 34, 3) := by decide +kernel
theorem dX7_ownersIn_27 : decode cX7_ownersIn 27 = .ok (.aload_n 0, 1) := by decide +kernel
theorem dX7_ownersIn_28 : decode cX7_ownersIn 28 = .ok (.iload 4, 2) := by decide +kernel
theorem dX7_ownersIn_30 : decode cX7_ownersIn 30 = .ok (.invokevirtual 81, 3) := by decide +kernel
theorem dX7_ownersIn_33 : decode cX7_ownersIn 33 = .ok (.iload_n 2, 1) := by decide +kernel
theorem dX7_ownersIn_34 : decode cX7_ownersIn 34 = .ok (.if_icmp .ge 24, 3) := by decide +kernel
theorem dX7_ownersIn_37 : decode cX7_ownersIn 37 = .ok (.aload_n 0, 1) := by decide +kernel
theorem dX7_ownersIn_38 : decode cX7_ownersIn 38 = .ok (.iload 4, 2) := by decide +kernel
theorem dX7_ownersIn_40 : decode cX7_ownersIn 40 = .ok (.invokevirtual 84, 3) := by decide +kernel
theorem dX7_ownersIn_43 : decode cX7_ownersIn 43 = .ok (.iload_n 1, 1) := by decide +kernel
theorem dX7_ownersIn_44 : decode cX7_ownersIn 44 = .ok (.if_icmp .le 14, 3) := by decide +kernel
theorem dX7_ownersIn_47 : decode cX7_ownersIn 47 = .ok (.iconst 1, 1) := by decide +kernel
theorem dX7_ownersIn_48 : decode cX7_ownersIn 48 = .ok (.aload_n 0, 1) := by decide +kernel
theorem dX7_ownersIn_49 : decode cX7_ownersIn 49 = .ok (.iload 4, 2) := by decide +kernel
theorem dX7_ownersIn_51 : decode cX7_ownersIn 51 = .ok (.invokevirtual 87, 3) := by decide +kernel
theorem dX7_ownersIn_54 : decode cX7_ownersIn 54 = .ok (.ishl, 1) := by decide +kernel
theorem dX7_ownersIn_55 : decode cX7_ownersIn 55 = .ok (.goto 4, 3) := by decide +kernel
theorem dX7_ownersIn_58 : decode cX7_ownersIn 58 = .ok (.iconst 0, 1) := by decide +kernel
theorem dX7_ownersIn_59 : decode cX7_ownersIn 59 = .ok (.ior, 1) := by decide +kernel
theorem dX7_ownersIn_60 : decode cX7_ownersIn 60 = .ok (.istore_n 3, 1) := by decide +kernel
theorem dX7_ownersIn_61 : decode cX7_ownersIn 61 = .ok (.iinc 4 1, 3) := by decide +kernel
theorem dX7_ownersIn_64 : decode cX7_ownersIn 64 = .ok (.goto (-59), 3) := by decide +kernel
theorem dX7_ownersIn_67 : decode cX7_ownersIn 67 = .ok (.iconst 0, 1) := by decide +kernel
theorem dX7_ownersIn_68 : decode cX7_ownersIn 68 = .ok (.istore 4, 2) := by decide +kernel
theorem dX7_ownersIn_70 : decode cX7_ownersIn 70 = .ok (.iconst 0, 1) := by decide +kernel
theorem dX7_ownersIn_71 : decode cX7_ownersIn 71 = .ok (.istore 5, 2) := by decide +kernel
theorem dX7_ownersIn_73 : decode cX7_ownersIn 73 = .ok (.iload 5, 2) := by decide +kernel
theorem dX7_ownersIn_75 : decode cX7_ownersIn 75 = .ok (.bipush 10, 2) := by decide +kernel
theorem dX7_ownersIn_77 : decode cX7_ownersIn 77 = .ok (.if_icmp .ge 20, 3) := by decide +kernel
theorem dX7_ownersIn_80 : decode cX7_ownersIn 80 = .ok (.iload 4, 2) := by decide +kernel
theorem dX7_ownersIn_82 : decode cX7_ownersIn 82 = .ok (.iload_n 3, 1) := by decide +kernel
theorem dX7_ownersIn_83 : decode cX7_ownersIn 83 = .ok (.iload 5, 2) := by decide +kernel
theorem dX7_ownersIn_85 : decode cX7_ownersIn 85 = .ok (.ishr, 1) := by decide +kernel
theorem dX7_ownersIn_86 : decode cX7_ownersIn 86 = .ok (.iconst 1, 1) := by decide +kernel
theorem dX7_ownersIn_87 : decode cX7_ownersIn 87 = .ok (.iand, 1) := by decide +kernel
theorem dX7_ownersIn_88 : decode cX7_ownersIn 88 = .ok (.iadd, 1) := by decide +kernel
theorem dX7_ownersIn_89 : decode cX7_ownersIn 89 = .ok (.istore 4, 2) := by decide +kernel
theorem dX7_ownersIn_91 : decode cX7_ownersIn 91 = .ok (.iinc 5 1, 3) := by decide +kernel
theorem dX7_ownersIn_94 : decode cX7_ownersIn 94 = .ok (.goto (-21), 3) := by decide +kernel
theorem dX7_ownersIn_97 : decode cX7_ownersIn 97 = .ok (.iload 4, 2) := by decide +kernel
theorem dX7_ownersIn_99 : decode cX7_ownersIn 99 = .ok (.ireturn, 1) := by decide +kernel
theorem dX7_quietest_0 : decode cX7_quietest 0 = .ok (.iload_n 1, 1) := by decide +kernel
theorem dX7_quietest_1 : decode cX7_quietest 1 = .ok (.iconst 1, 1) := by decide +kernel
theorem dX7_quietest_2 : decode cX7_quietest 2 = .ok (.sipush 10000, 3) := by decide +kernel
theorem dX7_quietest_5 : decode cX7_quietest 5 = .ok (.invokestatic 62, 3) := by decide +kernel
theorem dX7_quietest_8 : decode cX7_quietest 8 = .ok (.ifCond .eq 12, 3) := by decide +kernel
theorem dX7_quietest_11 : decode cX7_quietest 11 = .ok (.iload_n 2, 1) := by decide +kernel
theorem dX7_quietest_12 : decode cX7_quietest 12 = .ok (.iconst 0, 1) := by decide +kernel
theorem dX7_quietest_13 : decode cX7_quietest 13 = .ok (.iconst 1, 1) := by decide +kernel
theorem dX7_quietest_14 : decode cX7_quietest 14 = .ok (.invokestatic 62, 3) := by decide +kernel
theorem dX7_quietest_17 : decode cX7_quietest 17 = .ok (.ifCond .ne 6, 3) := by decide +kernel
theorem dX7_quietest_20 : decode cX7_quietest 20 = .ok (.bipush (-2), 2) := by decide +kernel
theorem dX7_quietest_22 : decode cX7_quietest 22 = .ok (.ireturn, 1) := by decide +kernel
theorem dX7_quietest_23 : decode cX7_quietest 23 = .ok (.iconst 0, 1) := by decide +kernel
theorem dX7_quietest_24 : decode cX7_quietest 24 = .ok (.istore_n 3, 1) := by decide +kernel
theorem dX7_quietest_25 : decode cX7_quietest 25 = .ok (.bipush 99, 2) := by decide +kernel
theorem dX7_quietest_27 : decode cX7_quietest 27 = .ok (.istore 4, 2) := by decide +kernel
theorem dX7_quietest_29 : decode cX7_quietest 29 = .ok (.iconst 0, 1) := by decide +kernel
theorem dX7_quietest_30 : decode cX7_quietest 30 = .ok (.istore 5, 2) := by decide +kernel
theorem dX7_quietest_32 : decode cX7_quietest 32 = .ok (.iload 5, 2) := by decide +kernel
theorem dX7_quietest_34 : decode cX7_quietest 34 = .ok (.iload_n 1, 1) := by decide +kernel
theorem dX7_quietest_35 : decode cX7_quietest 35 = .ok (.iadd, 1) := by decide +kernel
theorem dX7_quietest_36 : decode cX7_quietest 36 = .ok (.sipush 10000, 3) := by decide +kernel
theorem dX7_quietest_39 : decode cX7_quietest 39 = .ok (.if_icmp .gt 56, 3) := by decide +kernel
theorem dX7_quietest_42 : decode cX7_quietest 42 = .ok (.iload 4, 2) := by decide +kernel
theorem dX7_quietest_44 : decode cX7_quietest 44 = .ok (.ifCond .le 51, 3) := by decide +kernel
theorem dX7_quietest_47 : decode cX7_quietest 47 = .ok (.aload_n 0, 1) := by decide +kernel
theorem dX7_quietest_48 : decode cX7_quietest 48 = .ok (.iload 5, 2) := by decide +kernel
theorem dX7_quietest_50 : decode cX7_quietest 50 = .ok (.iload 5, 2) := by decide +kernel
theorem dX7_quietest_52 : decode cX7_quietest 52 = .ok (.iload_n 1, 1) := by decide +kernel
theorem dX7_quietest_53 : decode cX7_quietest 53 = .ok (.iadd, 1) := by decide +kernel
theorem dX7_quietest_54 : decode cX7_quietest 54 = .ok (.invokevirtual 191, 3) := by decide +kernel
theorem dX7_quietest_57 : decode cX7_quietest 57 = .ok (.istore 6, 2) := by decide +kernel
theorem dX7_quietest_59 : decode cX7_quietest 59 = .ok (.iload 6, 2) := by decide +kernel
theorem dX7_quietest_61 : decode cX7_quietest 61 = .ok (.iload 4, 2) := by decide +kernel
theorem dX7_quietest_63 : decode cX7_quietest 63 = .ok (.if_icmp .ge 8, 3) := by decide +kernel
theorem dX7_quietest_66 : decode cX7_quietest 66 = .ok (.iload 5, 2) := by decide +kernel
theorem dX7_quietest_68 : decode cX7_quietest 68 = .ok (.goto 4, 3) := by decide +kernel
theorem dX7_quietest_71 : decode cX7_quietest 71 = .ok (.iload_n 3, 1) := by decide +kernel
theorem dX7_quietest_72 : decode cX7_quietest 72 = .ok (.istore_n 3, 1) := by decide +kernel
theorem dX7_quietest_73 : decode cX7_quietest 73 = .ok (.iload 6, 2) := by decide +kernel
theorem dX7_quietest_75 : decode cX7_quietest 75 = .ok (.iload 4, 2) := by decide +kernel
theorem dX7_quietest_77 : decode cX7_quietest 77 = .ok (.if_icmp .ge 8, 3) := by decide +kernel
theorem dX7_quietest_80 : decode cX7_quietest 80 = .ok (.iload 6, 2) := by decide +kernel
theorem dX7_quietest_82 : decode cX7_quietest 82 = .ok (.goto 5, 3) := by decide +kernel
theorem dX7_quietest_85 : decode cX7_quietest 85 = .ok (.iload 4, 2) := by decide +kernel
theorem dX7_quietest_87 : decode cX7_quietest 87 = .ok (.istore 4, 2) := by decide +kernel
theorem dX7_quietest_89 : decode cX7_quietest 89 = .ok (.iinc 5 1, 3) := by decide +kernel
theorem dX7_quietest_92 : decode cX7_quietest 92 = .ok (.goto (-60), 3) := by decide +kernel
theorem dX7_quietest_95 : decode cX7_quietest 95 = .ok (.iload_n 2, 1) := by decide +kernel
theorem dX7_quietest_96 : decode cX7_quietest 96 = .ok (.ifCond .ne 7, 3) := by decide +kernel
theorem dX7_quietest_99 : decode cX7_quietest 99 = .ok (.iload_n 3, 1) := by decide +kernel
theorem dX7_quietest_100 : decode cX7_quietest 100 = .ok (.goto 5, 3) := by decide +kernel
theorem dX7_quietest_103 : decode cX7_quietest 103 = .ok (.iload 4, 2) := by decide +kernel
theorem dX7_quietest_105 : decode cX7_quietest 105 = .ok (.ireturn, 1) := by decide +kernel
theorem dX7_gaps_0 : decode cX7_gaps 0 = .ok (.aload_n 0, 1) := by decide +kernel
theorem dX7_gaps_1 : decode cX7_gaps 1 = .ok (.iload_n 1, 1) := by decide +kernel
theorem dX7_gaps_2 : decode cX7_gaps 2 = .ok (.invokevirtual 77, 3) := by decide +kernel
theorem dX7_gaps_5 : decode cX7_gaps 5 = .ok (.ifCond .ne 5, 3) := by decide +kernel
theorem dX7_gaps_8 : decode cX7_gaps 8 = .ok (.iconst (-1), 1) := by decide +kernel
theorem dX7_gaps_9 : decode cX7_gaps 9 = .ok (.ireturn, 1) := by decide +kernel
theorem dX7_gaps_10 : decode cX7_gaps 10 = .ok (.bipush (-6), 2) := by decide +kernel
theorem dX7_gaps_12 : decode cX7_gaps 12 = .ok (.istore_n 2, 1) := by decide +kernel
theorem dX7_gaps_13 : decode cX7_gaps 13 = .ok (.iconst 0, 1) := by decide +kernel
theorem dX7_gaps_14 : decode cX7_gaps 14 = .ok (.istore_n 3, 1) := by decide +kernel
theorem dX7_gaps_15 : decode cX7_gaps 15 = .ok (.iconst 0, 1) := by decide +kernel
theorem dX7_gaps_16 : decode cX7_gaps 16 = .ok (.istore 4, 2) := by decide +kernel
theorem dX7_gaps_18 : decode cX7_gaps 18 = .ok (.iload 4, 2) := by decide +kernel
theorem dX7_gaps_20 : decode cX7_gaps 20 = .ok (.aload_n 0, 1) := by decide +kernel
theorem dX7_gaps_21 : decode cX7_gaps 21 = .ok (.getfield 7, 3) := by decide +kernel
theorem dX7_gaps_24 : decode cX7_gaps 24 = .ok (.bipush 7, 2) := by decide +kernel
theorem dX7_gaps_26 : decode cX7_gaps 26 = .ok (.iaload, 1) := by decide +kernel
theorem dX7_gaps_27 : decode cX7_gaps 27 = .ok (.if_icmp .ge 55, 3) := by decide +kernel
theorem dX7_gaps_30 : decode cX7_gaps 30 = .ok (.aload_n 0, 1) := by decide +kernel
theorem dX7_gaps_31 : decode cX7_gaps 31 = .ok (.iload 4, 2) := by decide +kernel
theorem dX7_gaps_33 : decode cX7_gaps 33 = .ok (.invokevirtual 87, 3) := by decide +kernel
theorem dX7_gaps_36 : decode cX7_gaps 36 = .ok (.iload_n 1, 1) := by decide +kernel
theorem dX7_gaps_37 : decode cX7_gaps 37 = .ok (.if_icmp .ne 16, 3) := by decide +kernel
theorem dX7_gaps_40 : decode cX7_gaps 40 = .ok (.iload_n 2, 1) := by decide +kernel
theorem dX7_gaps_41 : decode cX7_gaps 41 = .ok (.ifCond .ge 12, 3) := by decide +kernel
theorem dX7_gaps_44 : decode cX7_gaps 44 = .ok (.aload_n 0, 1) := by decide +kernel
theorem dX7_gaps_45 : decode cX7_gaps 45 = .ok (.iload 4, 2) := by decide +kernel
theorem dX7_gaps_47 : decode cX7_gaps 47 = .ok (.invokevirtual 81, 3) := by decide +kernel
theorem dX7_gaps_50 : decode cX7_gaps 50 = .ok (.goto 4, 3) := by decide +kernel
theorem dX7_gaps_53 : decode cX7_gaps 53 = .ok (.iload_n 2, 1) := by decide +kernel
theorem dX7_gaps_54 : decode cX7_gaps 54 = .ok (.istore_n 2, 1) := by decide +kernel
theorem dX7_gaps_55 : decode cX7_gaps 55 = .ok (.aload_n 0, 1) := by decide +kernel
theorem dX7_gaps_56 : decode cX7_gaps 56 = .ok (.iload 4, 2) := by decide +kernel
theorem dX7_gaps_58 : decode cX7_gaps 58 = .ok (.invokevirtual 87, 3) := by decide +kernel
theorem dX7_gaps_61 : decode cX7_gaps 61 = .ok (.iload_n 1, 1) := by decide +kernel
theorem dX7_gaps_62 : decode cX7_gaps 62 = .ok (.if_icmp .ne 12, 3) := by decide +kernel
theorem dX7_gaps_65 : decode cX7_gaps 65 = .ok (.aload_n 0, 1) := by decide +kernel
theorem dX7_gaps_66 : decode cX7_gaps 66 = .ok (.iload 4, 2) := by decide +kernel
theorem dX7_gaps_68 : decode cX7_gaps 68 = .ok (.invokevirtual 84, 3) := by decide +kernel
theorem dX7_gaps_71 : decode cX7_gaps 71 = .ok (.goto 4, 3) := by decide +kernel
theorem dX7_gaps_74 : decode cX7_gaps 74 = .ok (.iload_n 3, 1) := by decide +kernel
theorem dX7_gaps_75 : decode cX7_gaps 75 = .ok (.istore_n 3, 1) := by decide +kernel
theorem dX7_gaps_76 : decode cX7_gaps 76 = .ok (.iinc 4 1, 3) := by decide +kernel
theorem dX7_gaps_79 : decode cX7_gaps 79 = .ok (.goto (-61), 3) := by decide +kernel
theorem dX7_gaps_82 : decode cX7_gaps 82 = .ok (.iload_n 2, 1) := by decide +kernel
theorem dX7_gaps_83 : decode cX7_gaps 83 = .ok (.ifCond .ge 7, 3) := by decide +kernel
theorem dX7_gaps_86 : decode cX7_gaps 86 = .ok (.iconst 0, 1) := by decide +kernel
theorem dX7_gaps_87 : decode cX7_gaps 87 = .ok (.goto 12, 3) := by decide +kernel
theorem dX7_gaps_90 : decode cX7_gaps 90 = .ok (.iload_n 3, 1) := by decide +kernel
theorem dX7_gaps_91 : decode cX7_gaps 91 = .ok (.iload_n 2, 1) := by decide +kernel
theorem dX7_gaps_92 : decode cX7_gaps 92 = .ok (.isub, 1) := by decide +kernel
theorem dX7_gaps_93 : decode cX7_gaps 93 = .ok (.aload_n 0, 1) := by decide +kernel
theorem dX7_gaps_94 : decode cX7_gaps 94 = .ok (.iload_n 1, 1) := by decide +kernel
theorem dX7_gaps_95 : decode cX7_gaps 95 = .ok (.invokevirtual 101, 3) := by decide +kernel
theorem dX7_gaps_98 : decode cX7_gaps 98 = .ok (.isub, 1) := by decide +kernel
theorem dX7_gaps_99 : decode cX7_gaps 99 = .ok (.ireturn, 1) := by decide +kernel
theorem dX7_rangesBy_0 : decode cX7_rangesBy 0 = .ok (.aload_n 0, 1) := by decide +kernel
theorem dX7_rangesBy_1 : decode cX7_rangesBy 1 = .ok (.iconst 0, 1) := by decide +kernel
theorem dX7_rangesBy_2 : decode cX7_rangesBy 2 = .ok (.putfield 90, 3) := by decide +kernel
theorem dX7_rangesBy_5 : decode cX7_rangesBy 5 = .ok (.iconst 0, 1) := by decide +kernel
theorem dX7_rangesBy_6 : decode cX7_rangesBy 6 = .ok (.istore_n 3, 1) := by decide +kernel
theorem dX7_rangesBy_7 : decode cX7_rangesBy 7 = .ok (.iload_n 3, 1) := by decide +kernel
theorem dX7_rangesBy_8 : decode cX7_rangesBy 8 = .ok (.aload_n 0, 1) := by decide +kernel
theorem dX7_rangesBy_9 : decode cX7_rangesBy 9 = .ok (.getfield 7, 3) := by decide +kernel
theorem dX7_rangesBy_12 : decode cX7_rangesBy 12 = .ok (.bipush 7, 2) := by decide +kernel
theorem dX7_rangesBy_14 : decode cX7_rangesBy 14 = .ok (.iaload, 1) := by decide +kernel
theorem dX7_rangesBy_15 : decode cX7_rangesBy 15 = .ok (.if_icmp .ge 54, 3) := by decide +kernel
theorem dX7_rangesBy_18 : decode cX7_rangesBy 18 = .ok (.aload_n 0, 1) := by decide +kernel
theorem dX7_rangesBy_19 : decode cX7_rangesBy 19 = .ok (.aload_n 0, 1) := by decide +kernel
theorem dX7_rangesBy_20 : decode cX7_rangesBy 20 = .ok (.iload_n 3, 1) := by decide +kernel
theorem dX7_rangesBy_21 : decode cX7_rangesBy 21 = .ok (.invokevirtual 81, 3) := by decide +kernel
theorem dX7_rangesBy_24 : decode cX7_rangesBy 24 = .ok (.aload_n 0, 1) := by decide +kernel
theorem dX7_rangesBy_25 : decode cX7_rangesBy 25 = .ok (.iload_n 3, 1) := by decide +kernel
theorem dX7_rangesBy_26 : decode cX7_rangesBy 26 = .ok (.invokevirtual 84, 3) := by decide +kernel
theorem dX7_rangesBy_29 : decode cX7_rangesBy 29 = .ok (.iload_n 3, 1) := by decide +kernel
theorem dX7_rangesBy_30 : decode cX7_rangesBy 30 = .ok (.iload_n 1, 1) := by decide +kernel
theorem dX7_rangesBy_31 : decode cX7_rangesBy 31 = .ok (.if_icmp .ne 11, 3) := by decide +kernel
theorem dX7_rangesBy_34 : decode cX7_rangesBy 34 = .ok (.aload_n 0, 1) := by decide +kernel
theorem dX7_rangesBy_35 : decode cX7_rangesBy 35 = .ok (.iload_n 2, 1) := by decide +kernel
theorem dX7_rangesBy_36 : decode cX7_rangesBy 36 = .ok (.invokevirtual 87, 3) := by decide +kernel
theorem dX7_rangesBy_39 : decode cX7_rangesBy 39 = .ok (.goto 21, 3) := by decide +kernel
theorem dX7_rangesBy_42 : decode cX7_rangesBy 42 = .ok (.iload_n 3, 1) := by decide +kernel
theorem dX7_rangesBy_43 : decode cX7_rangesBy 43 = .ok (.iload_n 2, 1) := by decide +kernel
theorem dX7_rangesBy_44 : decode cX7_rangesBy 44 = .ok (.if_icmp .ne 11, 3) := by decide +kernel
theorem dX7_rangesBy_47 : decode cX7_rangesBy 47 = .ok (.aload_n 0, 1) := by decide +kernel
theorem dX7_rangesBy_48 : decode cX7_rangesBy 48 = .ok (.iload_n 1, 1) := by decide +kernel
theorem dX7_rangesBy_49 : decode cX7_rangesBy 49 = .ok (.invokevirtual 87, 3) := by decide +kernel
theorem dX7_rangesBy_52 : decode cX7_rangesBy 52 = .ok (.goto 8, 3) := by decide +kernel
theorem dX7_rangesBy_55 : decode cX7_rangesBy 55 = .ok (.aload_n 0, 1) := by decide +kernel
theorem dX7_rangesBy_56 : decode cX7_rangesBy 56 = .ok (.iload_n 3, 1) := by decide +kernel
theorem dX7_rangesBy_57 : decode cX7_rangesBy 57 = .ok (.invokevirtual 87, 3) := by decide +kernel
theorem dX7_rangesBy_60 : decode cX7_rangesBy 60 = .ok (.invokevirtual 93, 3) := by decide +kernel
theorem dX7_rangesBy_63 : decode cX7_rangesBy 63 = .ok (.iinc 3 1, 3) := by decide +kernel
theorem dX7_rangesBy_66 : decode cX7_rangesBy 66 = .ok (.goto (-59), 3) := by decide +kernel
theorem dX7_rangesBy_69 : decode cX7_rangesBy 69 = .ok (.aload_n 0, 1) := by decide +kernel
theorem dX7_rangesBy_70 : decode cX7_rangesBy 70 = .ok (.invokevirtual 111, 3) := by decide +kernel
theorem dX7_rangesBy_73 : decode cX7_rangesBy 73 = .ok (.ireturn, 1) := by decide +kernel
theorem dX7_exchange_0 : decode cX7_exchange 0 = .ok (.iload_n 1, 1) := by decide +kernel
theorem dX7_exchange_1 : decode cX7_exchange 1 = .ok (.iconst 0, 1) := by decide +kernel
theorem dX7_exchange_2 : decode cX7_exchange 2 = .ok (.iconst 2, 1) := by decide +kernel
theorem dX7_exchange_3 : decode cX7_exchange 3 = .ok (.invokestatic 62, 3) := by decide +kernel
theorem dX7_exchange_6 : decode cX7_exchange 6 = .ok (.ifCond .ne 6, 3) := by decide +kernel
theorem dX7_exchange_9 : decode cX7_exchange 9 = .ok (.bipush (-2), 2) := by decide +kernel
theorem dX7_exchange_11 : decode cX7_exchange 11 = .ok (.ireturn, 1) := by decide +kernel
theorem dX7_exchange_12 : decode cX7_exchange 12 = .ok (.aload_n 0, 1) := by decide +kernel
theorem dX7_exchange_13 : decode cX7_exchange 13 = .ok (.invokevirtual 121, 3) := by decide +kernel
theorem dX7_exchange_16 : decode cX7_exchange 16 = .ok (.istore_n 2, 1) := by decide +kernel
theorem dX7_exchange_17 : decode cX7_exchange 17 = .ok (.iload_n 2, 1) := by decide +kernel
theorem dX7_exchange_18 : decode cX7_exchange 18 = .ok (.istore_n 3, 1) := by decide +kernel
theorem dX7_exchange_19 : decode cX7_exchange 19 = .ok (.bipush (-6), 2) := by decide +kernel
theorem dX7_exchange_21 : decode cX7_exchange 21 = .ok (.istore 4, 2) := by decide +kernel
theorem dX7_exchange_23 : decode cX7_exchange 23 = .ok (.bipush (-6), 2) := by decide +kernel
theorem dX7_exchange_25 : decode cX7_exchange 25 = .ok (.istore 5, 2) := by decide +kernel
theorem dX7_exchange_27 : decode cX7_exchange 27 = .ok (.iconst 0, 1) := by decide +kernel
theorem dX7_exchange_28 : decode cX7_exchange 28 = .ok (.istore 6, 2) := by decide +kernel
theorem dX7_exchange_30 : decode cX7_exchange 30 = .ok (.iload 6, 2) := by decide +kernel
theorem dX7_exchange_32 : decode cX7_exchange 32 = .ok (.iload_n 2, 1) := by decide +kernel
theorem dX7_exchange_33 : decode cX7_exchange 33 = .ok (.if_icmp .ge 102, 3) := by decide +kernel
theorem dX7_exchange_36 : decode cX7_exchange 36 = .ok (.iload 6, 2) := by decide +kernel
theorem dX7_exchange_38 : decode cX7_exchange 38 = .ok (.iconst 1, 1) := by decide +kernel
theorem dX7_exchange_39 : decode cX7_exchange 39 = .ok (.iadd, 1) := by decide +kernel
theorem dX7_exchange_40 : decode cX7_exchange 40 = .ok (.istore 7, 2) := by decide +kernel
theorem dX7_exchange_42 : decode cX7_exchange 42 = .ok (.iload 7, 2) := by decide +kernel
theorem dX7_exchange_44 : decode cX7_exchange 44 = .ok (.iload_n 2, 1) := by decide +kernel
theorem dX7_exchange_45 : decode cX7_exchange 45 = .ok (.if_icmp .ge 84, 3) := by decide +kernel
theorem dX7_exchange_48 : decode cX7_exchange 48 = .ok (.aload_n 0, 1) := by decide +kernel
theorem dX7_exchange_49 : decode cX7_exchange 49 = .ok (.iload 6, 2) := by decide +kernel
theorem dX7_exchange_51 : decode cX7_exchange 51 = .ok (.invokevirtual 168, 3) := by decide +kernel
theorem dX7_exchange_54 : decode cX7_exchange 54 = .ok (.istore 8, 2) := by decide +kernel
theorem dX7_exchange_56 : decode cX7_exchange 56 = .ok (.aload_n 0, 1) := by decide +kernel
theorem dX7_exchange_57 : decode cX7_exchange 57 = .ok (.iload 7, 2) := by decide +kernel
theorem dX7_exchange_59 : decode cX7_exchange 59 = .ok (.invokevirtual 168, 3) := by decide +kernel
theorem dX7_exchange_62 : decode cX7_exchange 62 = .ok (.istore 9, 2) := by decide +kernel
theorem dX7_exchange_64 : decode cX7_exchange 64 = .ok (.aload_n 0, 1) := by decide +kernel
theorem dX7_exchange_65 : decode cX7_exchange 65 = .ok (.iload 8, 2) := by decide +kernel
theorem dX7_exchange_67 : decode cX7_exchange 67 = .ok (.invokevirtual 124, 3) := by decide +kernel
theorem dX7_exchange_70 : decode cX7_exchange 70 = .ok (.aload_n 0, 1) := by decide +kernel
theorem dX7_exchange_71 : decode cX7_exchange 71 = .ok (.iload 9, 2) := by decide +kernel
theorem dX7_exchange_73 : decode cX7_exchange 73 = .ok (.invokevirtual 124, 3) := by decide +kernel
theorem dX7_exchange_76 : decode cX7_exchange 76 = .ok (.if_icmp .ne 47, 3) := by decide +kernel
theorem dX7_exchange_79 : decode cX7_exchange 79 = .ok (.aload_n 0, 1) := by decide +kernel
theorem dX7_exchange_80 : decode cX7_exchange 80 = .ok (.iload 8, 2) := by decide +kernel
theorem dX7_exchange_82 : decode cX7_exchange 82 = .ok (.invokevirtual 87, 3) := by decide +kernel
theorem dX7_exchange_85 : decode cX7_exchange 85 = .ok (.aload_n 0, 1) := by decide +kernel
theorem dX7_exchange_86 : decode cX7_exchange 86 = .ok (.iload 9, 2) := by decide +kernel
theorem dX7_exchange_88 : decode cX7_exchange 88 = .ok (.invokevirtual 87, 3) := by decide +kernel
theorem dX7_exchange_91 : decode cX7_exchange 91 = .ok (.if_icmp .eq 32, 3) := by decide +kernel
theorem dX7_exchange_94 : decode cX7_exchange 94 = .ok (.aload_n 0, 1) := by decide +kernel
theorem dX7_exchange_95 : decode cX7_exchange 95 = .ok (.iload 8, 2) := by decide +kernel
theorem dX7_exchange_97 : decode cX7_exchange 97 = .ok (.iload 9, 2) := by decide +kernel
theorem dX7_exchange_99 : decode cX7_exchange 99 = .ok (.invokevirtual 194, 3) := by decide +kernel
theorem dX7_exchange_102 : decode cX7_exchange 102 = .ok (.iload_n 3, 1) := by decide +kernel
theorem dX7_exchange_103 : decode cX7_exchange 103 = .ok (.if_icmp .ge 20, 3) := by decide +kernel
theorem dX7_exchange_106 : decode cX7_exchange 106 = .ok (.aload_n 0, 1) := by decide +kernel
theorem dX7_exchange_107 : decode cX7_exchange 107 = .ok (.iload 8, 2) := by decide +kernel
theorem dX7_exchange_109 : decode cX7_exchange 109 = .ok (.iload 9, 2) := by decide +kernel
theorem dX7_exchange_111 : decode cX7_exchange 111 = .ok (.invokevirtual 194, 3) := by decide +kernel
theorem dX7_exchange_114 : decode cX7_exchange 114 = .ok (.istore_n 3, 1) := by decide +kernel
theorem dX7_exchange_115 : decode cX7_exchange 115 = .ok (.iload 6, 2) := by decide +kernel
theorem dX7_exchange_117 : decode cX7_exchange 117 = .ok (.istore 4, 2) := by decide +kernel
theorem dX7_exchange_119 : decode cX7_exchange 119 = .ok (.iload 7, 2) := by decide +kernel
theorem dX7_exchange_121 : decode cX7_exchange 121 = .ok (.istore 5, 2) := by decide +kernel
theorem dX7_exchange_123 : decode cX7_exchange 123 = .ok (.iinc 7 1, 3) := by decide +kernel
theorem dX7_exchange_126 : decode cX7_exchange 126 = .ok (.goto (-84), 3) := by decide +kernel
theorem dX7_exchange_129 : decode cX7_exchange 129 = .ok (.iinc 6 1, 3) := by decide +kernel
theorem dX7_exchange_132 : decode cX7_exchange 132 = .ok (.goto (-102), 3) := by decide +kernel
theorem dX7_exchange_135 : decode cX7_exchange 135 = .ok (.iload 4, 2) := by decide +kernel
theorem dX7_exchange_137 : decode cX7_exchange 137 = .ok (.ifCond .ge 8, 3) := by decide +kernel
theorem dX7_exchange_140 : decode cX7_exchange 140 = .ok (.bipush (-6), 2) := by decide +kernel
theorem dX7_exchange_142 : decode cX7_exchange 142 = .ok (.goto 23, 3) := by decide +kernel
theorem dX7_exchange_145 : decode cX7_exchange 145 = .ok (.iload_n 1, 1) := by decide +kernel
theorem dX7_exchange_146 : decode cX7_exchange 146 = .ok (.ifCond .ne 8, 3) := by decide +kernel
theorem dX7_exchange_149 : decode cX7_exchange 149 = .ok (.iload 4, 2) := by decide +kernel
theorem dX7_exchange_151 : decode cX7_exchange 151 = .ok (.goto 14, 3) := by decide +kernel
theorem dX7_exchange_154 : decode cX7_exchange 154 = .ok (.iload_n 1, 1) := by decide +kernel
theorem dX7_exchange_155 : decode cX7_exchange 155 = .ok (.iconst 1, 1) := by decide +kernel
theorem dX7_exchange_156 : decode cX7_exchange 156 = .ok (.if_icmp .ne 8, 3) := by decide +kernel
theorem dX7_exchange_159 : decode cX7_exchange 159 = .ok (.iload 5, 2) := by decide +kernel
theorem dX7_exchange_161 : decode cX7_exchange 161 = .ok (.goto 4, 3) := by decide +kernel
theorem dX7_exchange_164 : decode cX7_exchange 164 = .ok (.iload_n 3, 1) := by decide +kernel
theorem dX7_exchange_165 : decode cX7_exchange 165 = .ok (.ireturn, 1) := by decide +kernel
theorem dX7_losesIn_0 : decode cX7_losesIn 0 = .ok (.aload_n 0, 1) := by decide +kernel
theorem dX7_losesIn_1 : decode cX7_losesIn 1 = .ok (.iload_n 1, 1) := by decide +kernel
theorem dX7_losesIn_2 : decode cX7_losesIn 2 = .ok (.invokevirtual 77, 3) := by decide +kernel
theorem dX7_losesIn_5 : decode cX7_losesIn 5 = .ok (.ifCond .ne 5, 3) := by decide +kernel
theorem dX7_losesIn_8 : decode cX7_losesIn 8 = .ok (.iconst (-1), 1) := by decide +kernel
theorem dX7_losesIn_9 : decode cX7_losesIn 9 = .ok (.ireturn, 1) := by decide +kernel
theorem dX7_losesIn_10 : decode cX7_losesIn 10 = .ok (.aload_n 0, 1) := by decide +kernel
theorem dX7_losesIn_11 : decode cX7_losesIn 11 = .ok (.invokevirtual 141, 3) := by decide +kernel
theorem dX7_losesIn_14 : decode cX7_losesIn 14 = .ok (.aload_n 0, 1) := by decide +kernel
theorem dX7_losesIn_15 : decode cX7_losesIn 15 = .ok (.getfield 7, 3) := by decide +kernel
theorem dX7_losesIn_18 : decode cX7_losesIn 18 = .ok (.bipush 20, 2) := by decide +kernel
theorem dX7_losesIn_20 : decode cX7_losesIn 20 = .ok (.iconst 2, 1) := by decide +kernel
theorem dX7_losesIn_21 : decode cX7_losesIn 21 = .ok (.iload_n 1, 1) := by decide +kernel
theorem dX7_losesIn_22 : decode cX7_losesIn 22 = .ok (.imul, 1) := by decide +kernel
theorem dX7_losesIn_23 : decode cX7_losesIn 23 = .ok (.iadd, 1) := by decide +kernel
theorem dX7_losesIn_24 : decode cX7_losesIn 24 = .ok (.iconst 1, 1) := by decide +kernel
theorem dX7_losesIn_25 : decode cX7_losesIn 25 = .ok (.iadd, 1) := by decide +kernel
theorem dX7_losesIn_26 : decode cX7_losesIn 26 = .ok (.iaload, 1) := by decide +kernel
theorem dX7_losesIn_27 : decode cX7_losesIn 27 = .ok (.istore_n 2, 1) := by decide +kernel
theorem dX7_losesIn_28 : decode cX7_losesIn 28 = .ok (.bipush (-6), 2) := by decide +kernel
theorem dX7_losesIn_30 : decode cX7_losesIn 30 = .ok (.istore_n 3, 1) := by decide +kernel
theorem dX7_losesIn_31 : decode cX7_losesIn 31 = .ok (.iconst 1, 1) := by decide +kernel
theorem dX7_losesIn_32 : decode cX7_losesIn 32 = .ok (.istore 4, 2) := by decide +kernel
theorem dX7_losesIn_34 : decode cX7_losesIn 34 = .ok (.iload 4, 2) := by decide +kernel
theorem dX7_losesIn_36 : decode cX7_losesIn 36 = .ok (.sipush 300, 3) := by decide +kernel
theorem dX7_losesIn_39 : decode cX7_losesIn 39 = .ok (.if_icmp .gt 41, 3) := by decide +kernel
theorem dX7_losesIn_42 : decode cX7_losesIn 42 = .ok (.iload_n 3, 1) := by decide +kernel
theorem dX7_losesIn_43 : decode cX7_losesIn 43 = .ok (.ifCond .ge 37, 3) := by decide +kernel
theorem dX7_losesIn_46 : decode cX7_losesIn 46 = .ok (.aload_n 0, 1) := by decide +kernel
theorem dX7_losesIn_47 : decode cX7_losesIn 47 = .ok (.invokevirtual 165, 3) := by decide +kernel
theorem dX7_losesIn_50 : decode cX7_losesIn 50 = .ok (.aload_n 0, 1) := by decide +kernel
theorem dX7_losesIn_51 : decode cX7_losesIn 51 = .ok (.getfield 7, 3) := by decide +kernel
theorem dX7_losesIn_54 : decode cX7_losesIn 54 = .ok (.bipush 20, 2) := by decide +kernel
theorem dX7_losesIn_56 : decode cX7_losesIn 56 = .ok (.iconst 2, 1) := by decide +kernel
theorem dX7_losesIn_57 : decode cX7_losesIn 57 = .ok (.iload_n 1, 1) := by decide +kernel
theorem dX7_losesIn_58 : decode cX7_losesIn 58 = .ok (.imul, 1) := by decide +kernel
theorem dX7_losesIn_59 : decode cX7_losesIn 59 = .ok (.iadd, 1) := by decide +kernel
theorem dX7_losesIn_60 : decode cX7_losesIn 60 = .ok (.iconst 1, 1) := by decide +kernel
theorem dX7_losesIn_61 : decode cX7_losesIn 61 = .ok (.iadd, 1) := by decide +kernel
theorem dX7_losesIn_62 : decode cX7_losesIn 62 = .ok (.iaload, 1) := by decide +kernel
theorem dX7_losesIn_63 : decode cX7_losesIn 63 = .ok (.iload_n 2, 1) := by decide +kernel
theorem dX7_losesIn_64 : decode cX7_losesIn 64 = .ok (.if_icmp .le 8, 3) := by decide +kernel
theorem dX7_losesIn_67 : decode cX7_losesIn 67 = .ok (.iload 4, 2) := by decide +kernel
theorem dX7_losesIn_69 : decode cX7_losesIn 69 = .ok (.goto 4, 3) := by decide +kernel
theorem dX7_losesIn_72 : decode cX7_losesIn 72 = .ok (.iload_n 3, 1) := by decide +kernel
theorem dX7_losesIn_73 : decode cX7_losesIn 73 = .ok (.istore_n 3, 1) := by decide +kernel
theorem dX7_losesIn_74 : decode cX7_losesIn 74 = .ok (.iinc 4 1, 3) := by decide +kernel
theorem dX7_losesIn_77 : decode cX7_losesIn 77 = .ok (.goto (-43), 3) := by decide +kernel
theorem dX7_losesIn_80 : decode cX7_losesIn 80 = .ok (.aload_n 0, 1) := by decide +kernel
theorem dX7_losesIn_81 : decode cX7_losesIn 81 = .ok (.invokevirtual 147, 3) := by decide +kernel
theorem dX7_losesIn_84 : decode cX7_losesIn 84 = .ok (.iload_n 3, 1) := by decide +kernel
theorem dX7_losesIn_85 : decode cX7_losesIn 85 = .ok (.ireturn, 1) := by decide +kernel
theorem dX7_sign_0 : decode cX7_sign 0 = .ok (.aload_n 0, 1) := by decide +kernel
theorem dX7_sign_1 : decode cX7_sign 1 = .ok (.getfield 197, 3) := by decide +kernel
theorem dX7_sign_4 : decode cX7_sign 4 = .ok (.aload_n 0, 1) := by decide +kernel
theorem dX7_sign_5 : decode cX7_sign 5 = .ok (.getfield 182, 3) := by decide +kernel
theorem dX7_sign_8 : decode cX7_sign 8 = .ok (.if_icmp .ge 15, 3) := by decide +kernel
theorem dX7_sign_11 : decode cX7_sign 11 = .ok (.aload_n 0, 1) := by decide +kernel
theorem dX7_sign_12 : decode cX7_sign 12 = .ok (.getfield 42, 3) := by decide +kernel
theorem dX7_sign_15 : decode cX7_sign 15 = .ok (.aload_n 0, 1) := by decide +kernel
theorem dX7_sign_16 : decode cX7_sign 16 = .ok (.getfield 197, 3) := by decide +kernel
theorem dX7_sign_19 : decode cX7_sign 19 = .ok (.iaload, 1) := by decide +kernel
theorem dX7_sign_20 : decode cX7_sign 20 = .ok (.goto 4, 3) := by decide +kernel
theorem dX7_sign_23 : decode cX7_sign 23 = .ok (.iconst 0, 1) := by decide +kernel
theorem dX7_sign_24 : decode cX7_sign 24 = .ok (.ireturn, 1) := by decide +kernel
theorem dX7_one_0 : decode cX7_one 0 = .ok (.aload_n 0, 1) := by decide +kernel
theorem dX7_one_1 : decode cX7_one 1 = .ok (.invokevirtual 200, 3) := by decide +kernel
theorem dX7_one_4 : decode cX7_one 4 = .ok (.iload_n 1, 1) := by decide +kernel
theorem dX7_one_5 : decode cX7_one 5 = .ok (.isub, 1) := by decide +kernel
theorem dX7_one_6 : decode cX7_one 6 = .ok (.istore_n 3, 1) := by decide +kernel
theorem dX7_one_7 : decode cX7_one 7 = .ok (.aload_n 0, 1) := by decide +kernel
theorem dX7_one_8 : decode cX7_one 8 = .ok (.aload_n 0, 1) := by decide +kernel
theorem dX7_one_9 : decode cX7_one 9 = .ok (.getfield 203, 3) := by decide +kernel
theorem dX7_one_12 : decode cX7_one 12 = .ok (.ifCond .ne 12, 3) := by decide +kernel
theorem dX7_one_15 : decode cX7_one 15 = .ok (.iload_n 3, 1) := by decide +kernel
theorem dX7_one_16 : decode cX7_one 16 = .ok (.iconst 0, 1) := by decide +kernel
theorem dX7_one_17 : decode cX7_one 17 = .ok (.iload_n 2, 1) := by decide +kernel
theorem dX7_one_18 : decode cX7_one 18 = .ok (.invokestatic 62, 3) := by decide +kernel
theorem dX7_one_21 : decode cX7_one 21 = .ok (.ifCond .ne 7, 3) := by decide +kernel
theorem dX7_one_24 : decode cX7_one 24 = .ok (.iconst 1, 1) := by decide +kernel
theorem dX7_one_25 : decode cX7_one 25 = .ok (.goto 4, 3) := by decide +kernel
theorem dX7_one_28 : decode cX7_one 28 = .ok (.iconst 0, 1) := by decide +kernel
theorem dX7_one_29 : decode cX7_one 29 = .ok (.putfield 203, 3) := by decide +kernel
theorem dX7_one_32 : decode cX7_one 32 = .ok (.aload_n 0, 1) := by decide +kernel
theorem dX7_one_33 : decode cX7_one 33 = .ok (.dup, 1) := by decide +kernel
theorem dX7_one_34 : decode cX7_one 34 = .ok (.getfield 197, 3) := by decide +kernel
theorem dX7_one_37 : decode cX7_one 37 = .ok (.aload_n 0, 1) := by decide +kernel
theorem dX7_one_38 : decode cX7_one 38 = .ok (.getfield 203, 3) := by decide +kernel
theorem dX7_one_41 : decode cX7_one 41 = .ok (.ifCond .eq 7, 3) := by decide +kernel
theorem dX7_one_44 : decode cX7_one 44 = .ok (.iconst 0, 1) := by decide +kernel
theorem dX7_one_45 : decode cX7_one 45 = .ok (.goto 4, 3) := by decide +kernel
theorem dX7_one_48 : decode cX7_one 48 = .ok (.iconst 1, 1) := by decide +kernel
theorem dX7_one_49 : decode cX7_one 49 = .ok (.iadd, 1) := by decide +kernel
theorem dX7_one_50 : decode cX7_one 50 = .ok (.putfield 197, 3) := by decide +kernel
theorem dX7_one_53 : decode cX7_one 53 = .ok (.iload_n 3, 1) := by decide +kernel
theorem dX7_one_54 : decode cX7_one 54 = .ok (.ireturn, 1) := by decide +kernel
theorem dX7_number_0 : decode cX7_number 0 = .ok (.aload_n 0, 1) := by decide +kernel
theorem dX7_number_1 : decode cX7_number 1 = .ok (.bipush 48, 2) := by decide +kernel
theorem dX7_number_3 : decode cX7_number 3 = .ok (.bipush 9, 2) := by decide +kernel
theorem dX7_number_5 : decode cX7_number 5 = .ok (.invokevirtual 206, 3) := by decide +kernel
theorem dX7_number_8 : decode cX7_number 8 = .ok (.istore_n 1, 1) := by decide +kernel
theorem dX7_number_9 : decode cX7_number 9 = .ok (.aload_n 0, 1) := by decide +kernel
theorem dX7_number_10 : decode cX7_number 10 = .ok (.getfield 203, 3) := by decide +kernel
theorem dX7_number_13 : decode cX7_number 13 = .ok (.ifCond .ne 65, 3) := by decide +kernel
theorem dX7_number_16 : decode cX7_number 16 = .ok (.iload_n 1, 1) := by decide +kernel
theorem dX7_number_17 : decode cX7_number 17 = .ok (.ifCond .le 61, 3) := by decide +kernel
theorem dX7_number_20 : decode cX7_number 20 = .ok (.aload_n 0, 1) := by decide +kernel
theorem dX7_number_21 : decode cX7_number 21 = .ok (.invokevirtual 200, 3) := by decide +kernel
theorem dX7_number_24 : decode cX7_number 24 = .ok (.bipush 48, 2) := by decide +kernel
theorem dX7_number_26 : decode cX7_number 26 = .ok (.bipush 57, 2) := by decide +kernel
theorem dX7_number_28 : decode cX7_number 28 = .ok (.invokestatic 62, 3) := by decide +kernel
theorem dX7_number_31 : decode cX7_number 31 = .ok (.ifCond .eq 47, 3) := by decide +kernel
theorem dX7_number_34 : decode cX7_number 34 = .ok (.bipush 10, 2) := by decide +kernel
theorem dX7_number_36 : decode cX7_number 36 = .ok (.iload_n 1, 1) := by decide +kernel
theorem dX7_number_37 : decode cX7_number 37 = .ok (.imul, 1) := by decide +kernel
theorem dX7_number_38 : decode cX7_number 38 = .ok (.aload_n 0, 1) := by decide +kernel
theorem dX7_number_39 : decode cX7_number 39 = .ok (.invokevirtual 200, 3) := by decide +kernel
theorem dX7_number_42 : decode cX7_number 42 = .ok (.iadd, 1) := by decide +kernel
theorem dX7_number_43 : decode cX7_number 43 = .ok (.bipush 48, 2) := by decide +kernel
theorem dX7_number_45 : decode cX7_number 45 = .ok (.isub, 1) := by decide +kernel
theorem dX7_number_46 : decode cX7_number 46 = .ok (.sipush 9999, 3) := by decide +kernel
theorem dX7_number_49 : decode cX7_number 49 = .ok (.if_icmp .gt 29, 3) := by decide +kernel
theorem dX7_number_52 : decode cX7_number 52 = .ok (.bipush 10, 2) := by decide +kernel
theorem dX7_number_54 : decode cX7_number 54 = .ok (.iload_n 1, 1) := by decide +kernel
theorem dX7_number_55 : decode cX7_number 55 = .ok (.imul, 1) := by decide +kernel
theorem dX7_number_56 : decode cX7_number 56 = .ok (.aload_n 0, 1) := by decide +kernel
theorem dX7_number_57 : decode cX7_number 57 = .ok (.invokevirtual 200, 3) := by decide +kernel
theorem dX7_number_60 : decode cX7_number 60 = .ok (.iadd, 1) := by decide +kernel
theorem dX7_number_61 : decode cX7_number 61 = .ok (.bipush 48, 2) := by decide +kernel
theorem dX7_number_63 : decode cX7_number 63 = .ok (.isub, 1) := by decide +kernel
theorem dX7_number_64 : decode cX7_number 64 = .ok (.istore_n 1, 1) := by decide +kernel
theorem dX7_number_65 : decode cX7_number 65 = .ok (.aload_n 0, 1) := by decide +kernel
theorem dX7_number_66 : decode cX7_number 66 = .ok (.dup, 1) := by decide +kernel
theorem dX7_number_67 : decode cX7_number 67 = .ok (.getfield 197, 3) := by decide +kernel
theorem dX7_number_70 : decode cX7_number 70 = .ok (.iconst 1, 1) := by decide +kernel
theorem dX7_number_71 : decode cX7_number 71 = .ok (.iadd, 1) := by decide +kernel
theorem dX7_number_72 : decode cX7_number 72 = .ok (.putfield 197, 3) := by decide +kernel
theorem dX7_number_75 : decode cX7_number 75 = .ok (.goto (-66), 3) := by decide +kernel
theorem dX7_number_78 : decode cX7_number 78 = .ok (.iload_n 1, 1) := by decide +kernel
theorem dX7_number_79 : decode cX7_number 79 = .ok (.ireturn, 1) := by decide +kernel
theorem dX7_readOne_0 : decode cX7_readOne 0 = .ok (.iconst 4, 1) := by decide +kernel
theorem dX7_readOne_1 : decode cX7_readOne 1 = .ok (.aload_n 0, 1) := by decide +kernel
theorem dX7_readOne_2 : decode cX7_readOne 2 = .ok (.getfield 209, 3) := by decide +kernel
theorem dX7_readOne_5 : decode cX7_readOne 5 = .ok (.imul, 1) := by decide +kernel
theorem dX7_readOne_6 : decode cX7_readOne 6 = .ok (.istore_n 1, 1) := by decide +kernel
theorem dX7_readOne_7 : decode cX7_readOne 7 = .ok (.aload_n 0, 1) := by decide +kernel
theorem dX7_readOne_8 : decode cX7_readOne 8 = .ok (.invokevirtual 200, 3) := by decide +kernel
theorem dX7_readOne_11 : decode cX7_readOne 11 = .ok (.istore_n 2, 1) := by decide +kernel
theorem dX7_readOne_12 : decode cX7_readOne 12 = .ok (.aload_n 0, 1) := by decide +kernel
theorem dX7_readOne_13 : decode cX7_readOne 13 = .ok (.getfield 51, 3) := by decide +kernel
theorem dX7_readOne_16 : decode cX7_readOne 16 = .ok (.iload_n 1, 1) := by decide +kernel
theorem dX7_readOne_17 : decode cX7_readOne 17 = .ok (.iload_n 2, 1) := by decide +kernel
theorem dX7_readOne_18 : decode cX7_readOne 18 = .ok (.iastore, 1) := by decide +kernel
theorem dX7_readOne_19 : decode cX7_readOne 19 = .ok (.aload_n 0, 1) := by decide +kernel
theorem dX7_readOne_20 : decode cX7_readOne 20 = .ok (.iload_n 2, 1) := by decide +kernel
theorem dX7_readOne_21 : decode cX7_readOne 21 = .ok (.bipush 43, 2) := by decide +kernel
theorem dX7_readOne_23 : decode cX7_readOne 23 = .ok (.if_icmp .eq 31, 3) := by decide +kernel
theorem dX7_readOne_26 : decode cX7_readOne 26 = .ok (.iload_n 2, 1) := by decide +kernel
theorem dX7_readOne_27 : decode cX7_readOne 27 = .ok (.bipush 45, 2) := by decide +kernel
theorem dX7_readOne_29 : decode cX7_readOne 29 = .ok (.if_icmp .eq 25, 3) := by decide +kernel
theorem dX7_readOne_32 : decode cX7_readOne 32 = .ok (.iload_n 2, 1) := by decide +kernel
theorem dX7_readOne_33 : decode cX7_readOne 33 = .ok (.bipush 103, 2) := by decide +kernel
theorem dX7_readOne_35 : decode cX7_readOne 35 = .ok (.if_icmp .eq 19, 3) := by decide +kernel
theorem dX7_readOne_38 : decode cX7_readOne 38 = .ok (.iload_n 2, 1) := by decide +kernel
theorem dX7_readOne_39 : decode cX7_readOne 39 = .ok (.bipush 112, 2) := by decide +kernel
theorem dX7_readOne_41 : decode cX7_readOne 41 = .ok (.if_icmp .eq 13, 3) := by decide +kernel
theorem dX7_readOne_44 : decode cX7_readOne 44 = .ok (.iload_n 2, 1) := by decide +kernel
theorem dX7_readOne_45 : decode cX7_readOne 45 = .ok (.bipush 100, 2) := by decide +kernel
theorem dX7_readOne_47 : decode cX7_readOne 47 = .ok (.if_icmp .eq 7, 3) := by decide +kernel
theorem dX7_readOne_50 : decode cX7_readOne 50 = .ok (.iconst 1, 1) := by decide +kernel
theorem dX7_readOne_51 : decode cX7_readOne 51 = .ok (.goto 4, 3) := by decide +kernel
theorem dX7_readOne_54 : decode cX7_readOne 54 = .ok (.iconst 0, 1) := by decide +kernel
theorem dX7_readOne_55 : decode cX7_readOne 55 = .ok (.putfield 203, 3) := by decide +kernel
theorem dX7_readOne_58 : decode cX7_readOne 58 = .ok (.aload_n 0, 1) := by decide +kernel
theorem dX7_readOne_59 : decode cX7_readOne 59 = .ok (.getfield 203, 3) := by decide +kernel
theorem dX7_readOne_62 : decode cX7_readOne 62 = .ok (.ifCond .eq 4, 3) := by decide +kernel
theorem dX7_readOne_65 : decode cX7_readOne 65 = .ok (.return_, 1) := by decide +kernel
theorem dX7_readOne_66 : decode cX7_readOne 66 = .ok (.aload_n 0, 1) := by decide +kernel
theorem dX7_readOne_67 : decode cX7_readOne 67 = .ok (.dup, 1) := by decide +kernel
theorem dX7_readOne_68 : decode cX7_readOne 68 = .ok (.getfield 197, 3) := by decide +kernel
theorem dX7_readOne_71 : decode cX7_readOne 71 = .ok (.iconst 1, 1) := by decide +kernel
theorem dX7_readOne_72 : decode cX7_readOne 72 = .ok (.iadd, 1) := by decide +kernel
theorem dX7_readOne_73 : decode cX7_readOne 73 = .ok (.putfield 197, 3) := by decide +kernel
theorem dX7_readOne_76 : decode cX7_readOne 76 = .ok (.aload_n 0, 1) := by decide +kernel
theorem dX7_readOne_77 : decode cX7_readOne 77 = .ok (.getfield 51, 3) := by decide +kernel
theorem dX7_readOne_80 : decode cX7_readOne 80 = .ok (.iload_n 1, 1) := by decide +kernel
theorem dX7_readOne_81 : decode cX7_readOne 81 = .ok (.iconst 1, 1) := by decide +kernel
theorem dX7_readOne_82 : decode cX7_readOne 82 = .ok (.iadd, 1) := by decide +kernel
theorem dX7_readOne_83 : decode cX7_readOne 83 = .ok (.iload_n 2, 1) := by decide +kernel
theorem dX7_readOne_84 : decode cX7_readOne 84 = .ok (.bipush 45, 2) := by decide +kernel
theorem dX7_readOne_86 : decode cX7_readOne 86 = .ok (.if_icmp .eq 9, 3) := by decide +kernel
theorem dX7_readOne_89 : decode cX7_readOne 89 = .ok (.iload_n 2, 1) := by decide +kernel
theorem dX7_readOne_90 : decode cX7_readOne 90 = .ok (.bipush 100, 2) := by decide +kernel
theorem dX7_readOne_92 : decode cX7_readOne 92 = .ok (.if_icmp .ne 7, 3) := by decide +kernel
theorem dX7_readOne_95 : decode cX7_readOne 95 = .ok (.iconst 0, 1) := by decide +kernel
theorem dX7_readOne_96 : decode cX7_readOne 96 = .ok (.goto 11, 3) := by decide +kernel
theorem dX7_readOne_99 : decode cX7_readOne 99 = .ok (.aload_n 0, 1) := by decide +kernel
theorem dX7_readOne_100 : decode cX7_readOne 100 = .ok (.bipush 65, 2) := by decide +kernel
theorem dX7_readOne_102 : decode cX7_readOne 102 = .ok (.bipush 9, 2) := by decide +kernel
theorem dX7_readOne_104 : decode cX7_readOne 104 = .ok (.invokevirtual 206, 3) := by decide +kernel
theorem dX7_readOne_107 : decode cX7_readOne 107 = .ok (.iastore, 1) := by decide +kernel
theorem dX7_readOne_108 : decode cX7_readOne 108 = .ok (.aload_n 0, 1) := by decide +kernel
theorem dX7_readOne_109 : decode cX7_readOne 109 = .ok (.getfield 51, 3) := by decide +kernel
theorem dX7_readOne_112 : decode cX7_readOne 112 = .ok (.iload_n 1, 1) := by decide +kernel
theorem dX7_readOne_113 : decode cX7_readOne 113 = .ok (.iconst 2, 1) := by decide +kernel
theorem dX7_readOne_114 : decode cX7_readOne 114 = .ok (.iadd, 1) := by decide +kernel
theorem dX7_readOne_115 : decode cX7_readOne 115 = .ok (.aload_n 0, 1) := by decide +kernel
theorem dX7_readOne_116 : decode cX7_readOne 116 = .ok (.getfield 203, 3) := by decide +kernel
theorem dX7_readOne_119 : decode cX7_readOne 119 = .ok (.ifCond .eq 7, 3) := by decide +kernel
theorem dX7_readOne_122 : decode cX7_readOne 122 = .ok (.iconst 0, 1) := by decide +kernel
theorem dX7_readOne_123 : decode cX7_readOne 123 = .ok (.goto 7, 3) := by decide +kernel
theorem dX7_readOne_126 : decode cX7_readOne 126 = .ok (.aload_n 0, 1) := by decide +kernel
theorem dX7_readOne_127 : decode cX7_readOne 127 = .ok (.invokevirtual 212, 3) := by decide +kernel
theorem dX7_readOne_130 : decode cX7_readOne 130 = .ok (.iastore, 1) := by decide +kernel
theorem dX7_readOne_131 : decode cX7_readOne 131 = .ok (.iload_n 2, 1) := by decide +kernel
theorem dX7_readOne_132 : decode cX7_readOne 132 = .ok (.bipush 43, 2) := by decide +kernel
theorem dX7_readOne_134 : decode cX7_readOne 134 = .ok (.if_icmp .eq 9, 3) := by decide +kernel
theorem dX7_readOne_137 : decode cX7_readOne 137 = .ok (.iload_n 2, 1) := by decide +kernel
theorem dX7_readOne_138 : decode cX7_readOne 138 = .ok (.bipush 45, 2) := by decide +kernel
theorem dX7_readOne_140 : decode cX7_readOne 140 = .ok (.if_icmp .ne 72, 3) := by decide +kernel
theorem dX7_readOne_143 : decode cX7_readOne 143 = .ok (.aload_n 0, 1) := by decide +kernel
theorem dX7_readOne_144 : decode cX7_readOne 144 = .ok (.aload_n 0, 1) := by decide +kernel
theorem dX7_readOne_145 : decode cX7_readOne 145 = .ok (.getfield 203, 3) := by decide +kernel
theorem dX7_readOne_148 : decode cX7_readOne 148 = .ok (.ifCond .ne 12, 3) := by decide +kernel
theorem dX7_readOne_151 : decode cX7_readOne 151 = .ok (.aload_n 0, 1) := by decide +kernel
theorem dX7_readOne_152 : decode cX7_readOne 152 = .ok (.invokevirtual 200, 3) := by decide +kernel
theorem dX7_readOne_155 : decode cX7_readOne 155 = .ok (.bipush 58, 2) := by decide +kernel
theorem dX7_readOne_157 : decode cX7_readOne 157 = .ok (.if_icmp .eq 7, 3) := by decide +kernel
theorem dX7_readOne_160 : decode cX7_readOne 160 = .ok (.iconst 1, 1) := by decide +kernel
theorem dX7_readOne_161 : decode cX7_readOne 161 = .ok (.goto 4, 3) := by decide +kernel
theorem dX7_readOne_164 : decode cX7_readOne 164 = .ok (.iconst 0, 1) := by decide +kernel
theorem dX7_readOne_165 : decode cX7_readOne 165 = .ok (.putfield 203, 3) := by decide +kernel
theorem dX7_readOne_168 : decode cX7_readOne 168 = .ok (.aload_n 0, 1) := by decide +kernel
theorem dX7_readOne_169 : decode cX7_readOne 169 = .ok (.dup, 1) := by decide +kernel
theorem dX7_readOne_170 : decode cX7_readOne 170 = .ok (.getfield 197, 3) := by decide +kernel
theorem dX7_readOne_173 : decode cX7_readOne 173 = .ok (.aload_n 0, 1) := by decide +kernel
theorem dX7_readOne_174 : decode cX7_readOne 174 = .ok (.getfield 203, 3) := by decide +kernel
theorem dX7_readOne_177 : decode cX7_readOne 177 = .ok (.ifCond .eq 7, 3) := by decide +kernel
theorem dX7_readOne_180 : decode cX7_readOne 180 = .ok (.iconst 0, 1) := by decide +kernel
theorem dX7_readOne_181 : decode cX7_readOne 181 = .ok (.goto 4, 3) := by decide +kernel
theorem dX7_readOne_184 : decode cX7_readOne 184 = .ok (.iconst 1, 1) := by decide +kernel
theorem dX7_readOne_185 : decode cX7_readOne 185 = .ok (.iadd, 1) := by decide +kernel
theorem dX7_readOne_186 : decode cX7_readOne 186 = .ok (.putfield 197, 3) := by decide +kernel
theorem dX7_readOne_189 : decode cX7_readOne 189 = .ok (.aload_n 0, 1) := by decide +kernel
theorem dX7_readOne_190 : decode cX7_readOne 190 = .ok (.getfield 51, 3) := by decide +kernel
theorem dX7_readOne_193 : decode cX7_readOne 193 = .ok (.iload_n 1, 1) := by decide +kernel
theorem dX7_readOne_194 : decode cX7_readOne 194 = .ok (.iconst 3, 1) := by decide +kernel
theorem dX7_readOne_195 : decode cX7_readOne 195 = .ok (.iadd, 1) := by decide +kernel
theorem dX7_readOne_196 : decode cX7_readOne 196 = .ok (.aload_n 0, 1) := by decide +kernel
theorem dX7_readOne_197 : decode cX7_readOne 197 = .ok (.getfield 203, 3) := by decide +kernel
theorem dX7_readOne_200 : decode cX7_readOne 200 = .ok (.ifCond .eq 7, 3) := by decide +kernel
theorem dX7_readOne_203 : decode cX7_readOne 203 = .ok (.iconst 0, 1) := by decide +kernel
theorem dX7_readOne_204 : decode cX7_readOne 204 = .ok (.goto 7, 3) := by decide +kernel
theorem dX7_readOne_207 : decode cX7_readOne 207 = .ok (.aload_n 0, 1) := by decide +kernel
theorem dX7_readOne_208 : decode cX7_readOne 208 = .ok (.invokevirtual 212, 3) := by decide +kernel
theorem dX7_readOne_211 : decode cX7_readOne 211 = .ok (.iastore, 1) := by decide +kernel
theorem dX7_readOne_212 : decode cX7_readOne 212 = .ok (.aload_n 0, 1) := by decide +kernel
theorem dX7_readOne_213 : decode cX7_readOne 213 = .ok (.dup, 1) := by decide +kernel
theorem dX7_readOne_214 : decode cX7_readOne 214 = .ok (.getfield 209, 3) := by decide +kernel
theorem dX7_readOne_217 : decode cX7_readOne 217 = .ok (.iconst 1, 1) := by decide +kernel
theorem dX7_readOne_218 : decode cX7_readOne 218 = .ok (.iadd, 1) := by decide +kernel
theorem dX7_readOne_219 : decode cX7_readOne 219 = .ok (.putfield 209, 3) := by decide +kernel
theorem dX7_readOne_222 : decode cX7_readOne 222 = .ok (.return_, 1) := by decide +kernel
theorem dX7_faultOf_0 : decode cX7_faultOf 0 = .ok (.aload_n 0, 1) := by decide +kernel
theorem dX7_faultOf_1 : decode cX7_faultOf 1 = .ok (.iconst 0, 1) := by decide +kernel
theorem dX7_faultOf_2 : decode cX7_faultOf 2 = .ok (.putfield 197, 3) := by decide +kernel
theorem dX7_faultOf_5 : decode cX7_faultOf 5 = .ok (.aload_n 0, 1) := by decide +kernel
theorem dX7_faultOf_6 : decode cX7_faultOf 6 = .ok (.iconst 0, 1) := by decide +kernel
theorem dX7_faultOf_7 : decode cX7_faultOf 7 = .ok (.putfield 209, 3) := by decide +kernel
theorem dX7_faultOf_10 : decode cX7_faultOf 10 = .ok (.aload_n 0, 1) := by decide +kernel
theorem dX7_faultOf_11 : decode cX7_faultOf 11 = .ok (.iconst 0, 1) := by decide +kernel
theorem dX7_faultOf_12 : decode cX7_faultOf 12 = .ok (.putfield 203, 3) := by decide +kernel
theorem dX7_faultOf_15 : decode cX7_faultOf 15 = .ok (.aload_n 0, 1) := by decide +kernel
theorem dX7_faultOf_16 : decode cX7_faultOf 16 = .ok (.invokevirtual 215, 3) := by decide +kernel
theorem dX7_faultOf_19 : decode cX7_faultOf 19 = .ok (.aload_n 0, 1) := by decide +kernel
theorem dX7_faultOf_20 : decode cX7_faultOf 20 = .ok (.getfield 203, 3) := by decide +kernel
theorem dX7_faultOf_23 : decode cX7_faultOf 23 = .ok (.ifCond .ne 56, 3) := by decide +kernel
theorem dX7_faultOf_26 : decode cX7_faultOf 26 = .ok (.aload_n 0, 1) := by decide +kernel
theorem dX7_faultOf_27 : decode cX7_faultOf 27 = .ok (.getfield 197, 3) := by decide +kernel
theorem dX7_faultOf_30 : decode cX7_faultOf 30 = .ok (.aload_n 0, 1) := by decide +kernel
theorem dX7_faultOf_31 : decode cX7_faultOf 31 = .ok (.getfield 182, 3) := by decide +kernel
theorem dX7_faultOf_34 : decode cX7_faultOf 34 = .ok (.if_icmp .ge 45, 3) := by decide +kernel
theorem dX7_faultOf_37 : decode cX7_faultOf 37 = .ok (.aload_n 0, 1) := by decide +kernel
theorem dX7_faultOf_38 : decode cX7_faultOf 38 = .ok (.aload_n 0, 1) := by decide +kernel
theorem dX7_faultOf_39 : decode cX7_faultOf 39 = .ok (.invokevirtual 200, 3) := by decide +kernel
theorem dX7_faultOf_42 : decode cX7_faultOf 42 = .ok (.bipush 59, 2) := by decide +kernel
theorem dX7_faultOf_44 : decode cX7_faultOf 44 = .ok (.if_icmp .eq 7, 3) := by decide +kernel
theorem dX7_faultOf_47 : decode cX7_faultOf 47 = .ok (.iconst 1, 1) := by decide +kernel
theorem dX7_faultOf_48 : decode cX7_faultOf 48 = .ok (.goto 4, 3) := by decide +kernel
theorem dX7_faultOf_51 : decode cX7_faultOf 51 = .ok (.iconst 0, 1) := by decide +kernel
theorem dX7_faultOf_52 : decode cX7_faultOf 52 = .ok (.putfield 203, 3) := by decide +kernel
theorem dX7_faultOf_55 : decode cX7_faultOf 55 = .ok (.aload_n 0, 1) := by decide +kernel
theorem dX7_faultOf_56 : decode cX7_faultOf 56 = .ok (.getfield 203, 3) := by decide +kernel
theorem dX7_faultOf_59 : decode cX7_faultOf 59 = .ok (.ifCond .ne (-40), 3) := by decide +kernel
theorem dX7_faultOf_62 : decode cX7_faultOf 62 = .ok (.aload_n 0, 1) := by decide +kernel
theorem dX7_faultOf_63 : decode cX7_faultOf 63 = .ok (.dup, 1) := by decide +kernel
theorem dX7_faultOf_64 : decode cX7_faultOf 64 = .ok (.getfield 197, 3) := by decide +kernel
theorem dX7_faultOf_67 : decode cX7_faultOf 67 = .ok (.iconst 1, 1) := by decide +kernel
theorem dX7_faultOf_68 : decode cX7_faultOf 68 = .ok (.iadd, 1) := by decide +kernel
theorem dX7_faultOf_69 : decode cX7_faultOf 69 = .ok (.putfield 197, 3) := by decide +kernel
theorem dX7_faultOf_72 : decode cX7_faultOf 72 = .ok (.aload_n 0, 1) := by decide +kernel
theorem dX7_faultOf_73 : decode cX7_faultOf 73 = .ok (.invokevirtual 215, 3) := by decide +kernel
theorem dX7_faultOf_76 : decode cX7_faultOf 76 = .ok (.goto (-57), 3) := by decide +kernel
theorem dX7_faultOf_79 : decode cX7_faultOf 79 = .ok (.aload_n 0, 1) := by decide +kernel
theorem dX7_faultOf_80 : decode cX7_faultOf 80 = .ok (.getfield 203, 3) := by decide +kernel
theorem dX7_faultOf_83 : decode cX7_faultOf 83 = .ok (.ifCond .eq 10, 3) := by decide +kernel
theorem dX7_faultOf_86 : decode cX7_faultOf 86 = .ok (.aload_n 0, 1) := by decide +kernel
theorem dX7_faultOf_87 : decode cX7_faultOf 87 = .ok (.getfield 197, 3) := by decide +kernel
theorem dX7_faultOf_90 : decode cX7_faultOf 90 = .ok (.goto 5, 3) := by decide +kernel
theorem dX7_faultOf_93 : decode cX7_faultOf 93 = .ok (.bipush (-6), 2) := by decide +kernel
theorem dX7_faultOf_95 : decode cX7_faultOf 95 = .ok (.ireturn, 1) := by decide +kernel
theorem dX7_put_0 : decode cX7_put 0 = .ok (.iconst 0, 1) := by decide +kernel
theorem dX7_put_1 : decode cX7_put 1 = .ok (.istore_n 3, 1) := by decide +kernel
theorem dX7_put_2 : decode cX7_put 2 = .ok (.lload_n 1, 1) := by decide +kernel
theorem dX7_put_3 : decode cX7_put 3 = .ok (.lstore 4, 2) := by decide +kernel
theorem dX7_put_5 : decode cX7_put 5 = .ok (.lload 4, 2) := by decide +kernel
theorem dX7_put_7 : decode cX7_put 7 = .ok (.ldc2_w 218, 3) := by decide +kernel
theorem dX7_put_10 : decode cX7_put 10 = .ok (.land, 1) := by decide +kernel
theorem dX7_put_11 : decode cX7_put 11 = .ok (.lconst 0, 1) := by decide +kernel
theorem dX7_put_12 : decode cX7_put 12 = .ok (.lcmp, 1) := by decide +kernel
theorem dX7_put_13 : decode cX7_put 13 = .ok (.ifCond .eq 36, 3) := by decide +kernel
theorem dX7_put_16 : decode cX7_put 16 = .ok (.lload 4, 2) := by decide +kernel
theorem dX7_put_18 : decode cX7_put 18 = .ok (.ldc2_w 218, 3) := by decide +kernel
theorem dX7_put_21 : decode cX7_put 21 = .ok (.land, 1) := by decide +kernel
theorem dX7_put_22 : decode cX7_put 22 = .ok (.l2i, 1) := by decide +kernel
theorem dX7_put_23 : decode cX7_put 23 = .ok (.bipush 33, 2) := by decide +kernel
theorem dX7_put_25 : decode cX7_put 25 = .ok (.bipush 126, 2) := by decide +kernel
theorem dX7_put_27 : decode cX7_put 27 = .ok (.invokestatic 62, 3) := by decide +kernel
theorem dX7_put_30 : decode cX7_put 30 = .ok (.ifCond .ne 6, 3) := by decide +kernel
theorem dX7_put_33 : decode cX7_put 33 = .ok (.bipush (-2), 2) := by decide +kernel
theorem dX7_put_35 : decode cX7_put 35 = .ok (.ireturn, 1) := by decide +kernel
theorem dX7_put_36 : decode cX7_put 36 = .ok (.iinc 3 1, 3) := by decide +kernel
theorem dX7_put_39 : decode cX7_put 39 = .ok (.lload 4, 2) := by decide +kernel
theorem dX7_put_41 : decode cX7_put 41 = .ok (.bipush 8, 2) := by decide +kernel
theorem dX7_put_43 : decode cX7_put 43 = .ok (.lushr, 1) := by decide +kernel
theorem dX7_put_44 : decode cX7_put 44 = .ok (.lstore 4, 2) := by decide +kernel
theorem dX7_put_46 : decode cX7_put 46 = .ok (.goto (-41), 3) := by decide +kernel
theorem dX7_put_49 : decode cX7_put 49 = .ok (.lload 4, 2) := by decide +kernel
theorem dX7_put_51 : decode cX7_put 51 = .ok (.lconst 0, 1) := by decide +kernel
theorem dX7_put_52 : decode cX7_put 52 = .ok (.lcmp, 1) := by decide +kernel
theorem dX7_put_53 : decode cX7_put 53 = .ok (.ifCond .ne 7, 3) := by decide +kernel
theorem dX7_put_56 : decode cX7_put 56 = .ok (.iload_n 3, 1) := by decide +kernel
theorem dX7_put_57 : decode cX7_put 57 = .ok (.ifCond .ne 6, 3) := by decide +kernel
theorem dX7_put_60 : decode cX7_put 60 = .ok (.bipush (-2), 2) := by decide +kernel
theorem dX7_put_62 : decode cX7_put 62 = .ok (.ireturn, 1) := by decide +kernel
theorem dX7_put_63 : decode cX7_put 63 = .ok (.aload_n 0, 1) := by decide +kernel
theorem dX7_put_64 : decode cX7_put 64 = .ok (.getfield 182, 3) := by decide +kernel
theorem dX7_put_67 : decode cX7_put 67 = .ok (.iload_n 3, 1) := by decide +kernel
theorem dX7_put_68 : decode cX7_put 68 = .ok (.iadd, 1) := by decide +kernel
theorem dX7_put_69 : decode cX7_put 69 = .ok (.bipush 80, 2) := by decide +kernel
theorem dX7_put_71 : decode cX7_put 71 = .ok (.if_icmp .le 6, 3) := by decide +kernel
theorem dX7_put_74 : decode cX7_put 74 = .ok (.bipush (-4), 2) := by decide +kernel
theorem dX7_put_76 : decode cX7_put 76 = .ok (.ireturn, 1) := by decide +kernel
theorem dX7_put_77 : decode cX7_put 77 = .ok (.lload_n 1, 1) := by decide +kernel
theorem dX7_put_78 : decode cX7_put 78 = .ok (.lstore 4, 2) := by decide +kernel
theorem dX7_put_80 : decode cX7_put 80 = .ok (.iload_n 3, 1) := by decide +kernel
theorem dX7_put_81 : decode cX7_put 81 = .ok (.iconst 1, 1) := by decide +kernel
theorem dX7_put_82 : decode cX7_put 82 = .ok (.isub, 1) := by decide +kernel
theorem dX7_put_83 : decode cX7_put 83 = .ok (.istore 6, 2) := by decide +kernel
theorem dX7_put_85 : decode cX7_put 85 = .ok (.iload 6, 2) := by decide +kernel
theorem dX7_put_87 : decode cX7_put 87 = .ok (.ifCond .lt 35, 3) := by decide +kernel
theorem dX7_put_90 : decode cX7_put 90 = .ok (.aload_n 0, 1) := by decide +kernel
theorem dX7_put_91 : decode cX7_put 91 = .ok (.getfield 42, 3) := by decide +kernel
theorem dX7_put_94 : decode cX7_put 94 = .ok (.aload_n 0, 1) := by decide +kernel
theorem dX7_put_95 : decode cX7_put 95 = .ok (.getfield 182, 3) := by decide +kernel
theorem dX7_put_98 : decode cX7_put 98 = .ok (.iload 6, 2) := by decide +kernel
theorem dX7_put_100 : decode cX7_put 100 = .ok (.iadd, 1) := by decide +kernel
theorem dX7_put_101 : decode cX7_put 101 = .ok (.lload 4, 2) := by decide +kernel
theorem dX7_put_103 : decode cX7_put 103 = .ok (.ldc2_w 218, 3) := by decide +kernel
theorem dX7_put_106 : decode cX7_put 106 = .ok (.land, 1) := by decide +kernel
theorem dX7_put_107 : decode cX7_put 107 = .ok (.l2i, 1) := by decide +kernel
theorem dX7_put_108 : decode cX7_put 108 = .ok (.iastore, 1) := by decide +kernel
theorem dX7_put_109 : decode cX7_put 109 = .ok (.lload 4, 2) := by decide +kernel
theorem dX7_put_111 : decode cX7_put 111 = .ok (.bipush 8, 2) := by decide +kernel
theorem dX7_put_113 : decode cX7_put 113 = .ok (.lushr, 1) := by decide +kernel
theorem dX7_put_114 : decode cX7_put 114 = .ok (.lstore 4, 2) := by decide +kernel
theorem dX7_put_116 : decode cX7_put 116 = .ok (.iinc 6 (-1), 3) := by decide +kernel
theorem dX7_put_119 : decode cX7_put 119 = .ok (.goto (-34), 3) := by decide +kernel
theorem dX7_put_122 : decode cX7_put 122 = .ok (.aload_n 0, 1) := by decide +kernel
theorem dX7_put_123 : decode cX7_put 123 = .ok (.dup, 1) := by decide +kernel
theorem dX7_put_124 : decode cX7_put 124 = .ok (.getfield 182, 3) := by decide +kernel
theorem dX7_put_127 : decode cX7_put 127 = .ok (.iload_n 3, 1) := by decide +kernel
theorem dX7_put_128 : decode cX7_put 128 = .ok (.iadd, 1) := by decide +kernel
theorem dX7_put_129 : decode cX7_put 129 = .ok (.putfield 182, 3) := by decide +kernel
theorem dX7_put_132 : decode cX7_put 132 = .ok (.aload_n 0, 1) := by decide +kernel
theorem dX7_put_133 : decode cX7_put 133 = .ok (.getfield 182, 3) := by decide +kernel
theorem dX7_put_136 : decode cX7_put 136 = .ok (.ireturn, 1) := by decide +kernel
theorem dX7_wipe_0 : decode cX7_wipe 0 = .ok (.aload_n 0, 1) := by decide +kernel
theorem dX7_wipe_1 : decode cX7_wipe 1 = .ok (.getfield 182, 3) := by decide +kernel
theorem dX7_wipe_4 : decode cX7_wipe 4 = .ok (.istore_n 1, 1) := by decide +kernel
theorem dX7_wipe_5 : decode cX7_wipe 5 = .ok (.aload_n 0, 1) := by decide +kernel
theorem dX7_wipe_6 : decode cX7_wipe 6 = .ok (.iconst 0, 1) := by decide +kernel
theorem dX7_wipe_7 : decode cX7_wipe 7 = .ok (.putfield 182, 3) := by decide +kernel
theorem dX7_wipe_10 : decode cX7_wipe 10 = .ok (.iload_n 1, 1) := by decide +kernel
theorem dX7_wipe_11 : decode cX7_wipe 11 = .ok (.ireturn, 1) := by decide +kernel
theorem dX7_fault_0 : decode cX7_fault 0 = .ok (.aload_n 0, 1) := by decide +kernel
theorem dX7_fault_1 : decode cX7_fault 1 = .ok (.invokevirtual 220, 3) := by decide +kernel
theorem dX7_fault_4 : decode cX7_fault 4 = .ok (.ireturn, 1) := by decide +kernel
theorem dX7_carry_0 : decode cX7_carry 0 = .ok (.aload_n 0, 1) := by decide +kernel
theorem dX7_carry_1 : decode cX7_carry 1 = .ok (.getfield 51, 3) := by decide +kernel
theorem dX7_carry_4 : decode cX7_carry 4 = .ok (.iload_n 1, 1) := by decide +kernel
theorem dX7_carry_5 : decode cX7_carry 5 = .ok (.iconst 1, 1) := by decide +kernel
theorem dX7_carry_6 : decode cX7_carry 6 = .ok (.iadd, 1) := by decide +kernel
theorem dX7_carry_7 : decode cX7_carry 7 = .ok (.iaload, 1) := by decide +kernel
theorem dX7_carry_8 : decode cX7_carry 8 = .ok (.istore_n 2, 1) := by decide +kernel
theorem dX7_carry_9 : decode cX7_carry 9 = .ok (.aload_n 0, 1) := by decide +kernel
theorem dX7_carry_10 : decode cX7_carry 10 = .ok (.getfield 51, 3) := by decide +kernel
theorem dX7_carry_13 : decode cX7_carry 13 = .ok (.iload_n 1, 1) := by decide +kernel
theorem dX7_carry_14 : decode cX7_carry 14 = .ok (.iconst 2, 1) := by decide +kernel
theorem dX7_carry_15 : decode cX7_carry 15 = .ok (.iadd, 1) := by decide +kernel
theorem dX7_carry_16 : decode cX7_carry 16 = .ok (.iaload, 1) := by decide +kernel
theorem dX7_carry_17 : decode cX7_carry 17 = .ok (.istore_n 3, 1) := by decide +kernel
theorem dX7_carry_18 : decode cX7_carry 18 = .ok (.aload_n 0, 1) := by decide +kernel
theorem dX7_carry_19 : decode cX7_carry 19 = .ok (.getfield 51, 3) := by decide +kernel
theorem dX7_carry_22 : decode cX7_carry 22 = .ok (.iload_n 1, 1) := by decide +kernel
theorem dX7_carry_23 : decode cX7_carry 23 = .ok (.iaload, 1) := by decide +kernel
theorem dX7_carry_24 : decode cX7_carry 24 = .ok (.lookupswitch 87 #[(43, 44), (45, 59), (103, 73), (112, 80)], 44) := by decide +kernel
theorem dX7_carry_68 : decode cX7_carry 68 = .ok (.aload_n 0, 1) := by decide +kernel
theorem dX7_carry_69 : decode cX7_carry 69 = .ok (.iload_n 2, 1) := by decide +kernel
theorem dX7_carry_70 : decode cX7_carry 70 = .ok (.iload_n 3, 1) := by decide +kernel
theorem dX7_carry_71 : decode cX7_carry 71 = .ok (.aload_n 0, 1) := by decide +kernel
theorem dX7_carry_72 : decode cX7_carry 72 = .ok (.getfield 51, 3) := by decide +kernel
theorem dX7_carry_75 : decode cX7_carry 75 = .ok (.iload_n 1, 1) := by decide +kernel
theorem dX7_carry_76 : decode cX7_carry 76 = .ok (.iconst 3, 1) := by decide +kernel
theorem dX7_carry_77 : decode cX7_carry 77 = .ok (.iadd, 1) := by decide +kernel
theorem dX7_carry_78 : decode cX7_carry 78 = .ok (.iaload, 1) := by decide +kernel
theorem dX7_carry_79 : decode cX7_carry 79 = .ok (.invokevirtual 223, 3) := by decide +kernel
theorem dX7_carry_82 : decode cX7_carry 82 = .ok (.ireturn, 1) := by decide +kernel
theorem dX7_carry_83 : decode cX7_carry 83 = .ok (.aload_n 0, 1) := by decide +kernel
theorem dX7_carry_84 : decode cX7_carry 84 = .ok (.iload_n 3, 1) := by decide +kernel
theorem dX7_carry_85 : decode cX7_carry 85 = .ok (.aload_n 0, 1) := by decide +kernel
theorem dX7_carry_86 : decode cX7_carry 86 = .ok (.getfield 51, 3) := by decide +kernel
theorem dX7_carry_89 : decode cX7_carry 89 = .ok (.iload_n 1, 1) := by decide +kernel
theorem dX7_carry_90 : decode cX7_carry 90 = .ok (.iconst 3, 1) := by decide +kernel
theorem dX7_carry_91 : decode cX7_carry 91 = .ok (.iadd, 1) := by decide +kernel
theorem dX7_carry_92 : decode cX7_carry 92 = .ok (.iaload, 1) := by decide +kernel
theorem dX7_carry_93 : decode cX7_carry 93 = .ok (.invokevirtual 226, 3) := by decide +kernel
theorem dX7_carry_96 : decode cX7_carry 96 = .ok (.ireturn, 1) := by decide +kernel
theorem dX7_carry_97 : decode cX7_carry 97 = .ok (.aload_n 0, 1) := by decide +kernel
theorem dX7_carry_98 : decode cX7_carry 98 = .ok (.iload_n 2, 1) := by decide +kernel
theorem dX7_carry_99 : decode cX7_carry 99 = .ok (.iload_n 3, 1) := by decide +kernel
theorem dX7_carry_100 : decode cX7_carry 100 = .ok (.invokevirtual 229, 3) := by decide +kernel
theorem dX7_carry_103 : decode cX7_carry 103 = .ok (.ireturn, 1) := by decide +kernel
theorem dX7_carry_104 : decode cX7_carry 104 = .ok (.aload_n 0, 1) := by decide +kernel
theorem dX7_carry_105 : decode cX7_carry 105 = .ok (.iload_n 2, 1) := by decide +kernel
theorem dX7_carry_106 : decode cX7_carry 106 = .ok (.iload_n 3, 1) := by decide +kernel
theorem dX7_carry_107 : decode cX7_carry 107 = .ok (.invokevirtual 232, 3) := by decide +kernel
theorem dX7_carry_110 : decode cX7_carry 110 = .ok (.ireturn, 1) := by decide +kernel
theorem dX7_carry_111 : decode cX7_carry 111 = .ok (.aload_n 0, 1) := by decide +kernel
theorem dX7_carry_112 : decode cX7_carry 112 = .ok (.iload_n 3, 1) := by decide +kernel
theorem dX7_carry_113 : decode cX7_carry 113 = .ok (.invokevirtual 235, 3) := by decide +kernel
theorem dX7_carry_116 : decode cX7_carry 116 = .ok (.ireturn, 1) := by decide +kernel
theorem dX7_carryOut_0 : decode cX7_carryOut 0 = .ok (.aload_n 0, 1) := by decide +kernel
theorem dX7_carryOut_1 : decode cX7_carryOut 1 = .ok (.invokevirtual 220, 3) := by decide +kernel
theorem dX7_carryOut_4 : decode cX7_carryOut 4 = .ok (.bipush (-6), 2) := by decide +kernel
theorem dX7_carryOut_6 : decode cX7_carryOut 6 = .ok (.if_icmp .eq 6, 3) := by decide +kernel
theorem dX7_carryOut_9 : decode cX7_carryOut 9 = .ok (.bipush (-3), 2) := by decide +kernel
theorem dX7_carryOut_11 : decode cX7_carryOut 11 = .ok (.ireturn, 1) := by decide +kernel
theorem dX7_carryOut_12 : decode cX7_carryOut 12 = .ok (.aload_n 0, 1) := by decide +kernel
theorem dX7_carryOut_13 : decode cX7_carryOut 13 = .ok (.invokevirtual 73, 3) := by decide +kernel
theorem dX7_carryOut_16 : decode cX7_carryOut 16 = .ok (.aload_n 0, 1) := by decide +kernel
theorem dX7_carryOut_17 : decode cX7_carryOut 17 = .ok (.iconst 1, 1) := by decide +kernel
theorem dX7_carryOut_18 : decode cX7_carryOut 18 = .ok (.putfield 54, 3) := by decide +kernel
theorem dX7_carryOut_21 : decode cX7_carryOut 21 = .ok (.iconst 0, 1) := by decide +kernel
theorem dX7_carryOut_22 : decode cX7_carryOut 22 = .ok (.istore_n 1, 1) := by decide +kernel
theorem dX7_carryOut_23 : decode cX7_carryOut 23 = .ok (.iload_n 1, 1) := by decide +kernel
theorem dX7_carryOut_24 : decode cX7_carryOut 24 = .ok (.aload_n 0, 1) := by decide +kernel
theorem dX7_carryOut_25 : decode cX7_carryOut 25 = .ok (.getfield 209, 3) := by decide +kernel
theorem dX7_carryOut_28 : decode cX7_carryOut 28 = .ok (.if_icmp .ge 19, 3) := by decide +kernel
theorem dX7_carryOut_31 : decode cX7_carryOut 31 = .ok (.aload_n 0, 1) := by decide +kernel
theorem dX7_carryOut_32 : decode cX7_carryOut 32 = .ok (.iconst 4, 1) := by decide +kernel
theorem dX7_carryOut_33 : decode cX7_carryOut 33 = .ok (.iload_n 1, 1) := by decide +kernel
theorem dX7_carryOut_34 : decode cX7_carryOut 34 = .ok (.imul, 1) := by decide +kernel
theorem dX7_carryOut_35 : decode cX7_carryOut 35 = .ok (.invokevirtual 238, 3) := by decide +kernel
theorem dX7_carryOut_38 : decode cX7_carryOut 38 = .ok (.ifCond .lt 9, 3) := by decide +kernel
theorem dX7_carryOut_41 : decode cX7_carryOut 41 = .ok (.iinc 1 1, 3) := by decide +kernel
theorem dX7_carryOut_44 : decode cX7_carryOut 44 = .ok (.goto (-21), 3) := by decide +kernel
theorem dX7_carryOut_47 : decode cX7_carryOut 47 = .ok (.aload_n 0, 1) := by decide +kernel
theorem dX7_carryOut_48 : decode cX7_carryOut 48 = .ok (.iconst 0, 1) := by decide +kernel
theorem dX7_carryOut_49 : decode cX7_carryOut 49 = .ok (.putfield 54, 3) := by decide +kernel
theorem dX7_carryOut_52 : decode cX7_carryOut 52 = .ok (.aload_n 0, 1) := by decide +kernel
theorem dX7_carryOut_53 : decode cX7_carryOut 53 = .ok (.iconst 0, 1) := by decide +kernel
theorem dX7_carryOut_54 : decode cX7_carryOut 54 = .ok (.putfield 182, 3) := by decide +kernel
theorem dX7_carryOut_57 : decode cX7_carryOut 57 = .ok (.iload_n 1, 1) := by decide +kernel
theorem dX7_carryOut_58 : decode cX7_carryOut 58 = .ok (.ireturn, 1) := by decide +kernel
theorem dX7_undo_0 : decode cX7_undo 0 = .ok (.aload_n 0, 1) := by decide +kernel
theorem dX7_undo_1 : decode cX7_undo 1 = .ok (.getfield 58, 3) := by decide +kernel
theorem dX7_undo_4 : decode cX7_undo 4 = .ok (.ifCond .ne 6, 3) := by decide +kernel
theorem dX7_undo_7 : decode cX7_undo 7 = .ok (.bipush (-5), 2) := by decide +kernel
theorem dX7_undo_9 : decode cX7_undo 9 = .ok (.ireturn, 1) := by decide +kernel
theorem dX7_undo_10 : decode cX7_undo 10 = .ok (.aload_n 0, 1) := by decide +kernel
theorem dX7_undo_11 : decode cX7_undo 11 = .ok (.dup, 1) := by decide +kernel
theorem dX7_undo_12 : decode cX7_undo 12 = .ok (.getfield 58, 3) := by decide +kernel
theorem dX7_undo_15 : decode cX7_undo 15 = .ok (.iconst 1, 1) := by decide +kernel
theorem dX7_undo_16 : decode cX7_undo 16 = .ok (.isub, 1) := by decide +kernel
theorem dX7_undo_17 : decode cX7_undo 17 = .ok (.putfield 58, 3) := by decide +kernel
theorem dX7_undo_20 : decode cX7_undo 20 = .ok (.iconst 0, 1) := by decide +kernel
theorem dX7_undo_21 : decode cX7_undo 21 = .ok (.istore_n 1, 1) := by decide +kernel
theorem dX7_undo_22 : decode cX7_undo 22 = .ok (.iload_n 1, 1) := by decide +kernel
theorem dX7_undo_23 : decode cX7_undo 23 = .ok (.sipush 400, 3) := by decide +kernel
theorem dX7_undo_26 : decode cX7_undo 26 = .ok (.if_icmp .ge 30, 3) := by decide +kernel
theorem dX7_undo_29 : decode cX7_undo 29 = .ok (.aload_n 0, 1) := by decide +kernel
theorem dX7_undo_30 : decode cX7_undo 30 = .ok (.getfield 7, 3) := by decide +kernel
theorem dX7_undo_33 : decode cX7_undo 33 = .ok (.iload_n 1, 1) := by decide +kernel
theorem dX7_undo_34 : decode cX7_undo 34 = .ok (.aload_n 0, 1) := by decide +kernel
theorem dX7_undo_35 : decode cX7_undo 35 = .ok (.getfield 26, 3) := by decide +kernel
theorem dX7_undo_38 : decode cX7_undo 38 = .ok (.aload_n 0, 1) := by decide +kernel
theorem dX7_undo_39 : decode cX7_undo 39 = .ok (.getfield 58, 3) := by decide +kernel
theorem dX7_undo_42 : decode cX7_undo 42 = .ok (.sipush 400, 3) := by decide +kernel
theorem dX7_undo_45 : decode cX7_undo 45 = .ok (.imul, 1) := by decide +kernel
theorem dX7_undo_46 : decode cX7_undo 46 = .ok (.iload_n 1, 1) := by decide +kernel
theorem dX7_undo_47 : decode cX7_undo 47 = .ok (.iadd, 1) := by decide +kernel
theorem dX7_undo_48 : decode cX7_undo 48 = .ok (.iaload, 1) := by decide +kernel
theorem dX7_undo_49 : decode cX7_undo 49 = .ok (.iastore, 1) := by decide +kernel
theorem dX7_undo_50 : decode cX7_undo 50 = .ok (.iinc 1 1, 3) := by decide +kernel
theorem dX7_undo_53 : decode cX7_undo 53 = .ok (.goto (-31), 3) := by decide +kernel
theorem dX7_undo_56 : decode cX7_undo 56 = .ok (.iconst 0, 1) := by decide +kernel
theorem dX7_undo_57 : decode cX7_undo 57 = .ok (.istore_n 1, 1) := by decide +kernel
theorem dX7_undo_58 : decode cX7_undo 58 = .ok (.iload_n 1, 1) := by decide +kernel
theorem dX7_undo_59 : decode cX7_undo 59 = .ok (.bipush 10, 2) := by decide +kernel
theorem dX7_undo_61 : decode cX7_undo 61 = .ok (.if_icmp .ge 29, 3) := by decide +kernel
theorem dX7_undo_64 : decode cX7_undo 64 = .ok (.aload_n 0, 1) := by decide +kernel
theorem dX7_undo_65 : decode cX7_undo 65 = .ok (.getfield 13, 3) := by decide +kernel
theorem dX7_undo_68 : decode cX7_undo 68 = .ok (.iload_n 1, 1) := by decide +kernel
theorem dX7_undo_69 : decode cX7_undo 69 = .ok (.aload_n 0, 1) := by decide +kernel
theorem dX7_undo_70 : decode cX7_undo 70 = .ok (.getfield 29, 3) := by decide +kernel
theorem dX7_undo_73 : decode cX7_undo 73 = .ok (.aload_n 0, 1) := by decide +kernel
theorem dX7_undo_74 : decode cX7_undo 74 = .ok (.getfield 58, 3) := by decide +kernel
theorem dX7_undo_77 : decode cX7_undo 77 = .ok (.bipush 10, 2) := by decide +kernel
theorem dX7_undo_79 : decode cX7_undo 79 = .ok (.imul, 1) := by decide +kernel
theorem dX7_undo_80 : decode cX7_undo 80 = .ok (.iload_n 1, 1) := by decide +kernel
theorem dX7_undo_81 : decode cX7_undo 81 = .ok (.iadd, 1) := by decide +kernel
theorem dX7_undo_82 : decode cX7_undo 82 = .ok (.laload, 1) := by decide +kernel
theorem dX7_undo_83 : decode cX7_undo 83 = .ok (.lastore, 1) := by decide +kernel
theorem dX7_undo_84 : decode cX7_undo 84 = .ok (.iinc 1 1, 3) := by decide +kernel
theorem dX7_undo_87 : decode cX7_undo 87 = .ok (.goto (-29), 3) := by decide +kernel
theorem dX7_undo_90 : decode cX7_undo 90 = .ok (.aload_n 0, 1) := by decide +kernel
theorem dX7_undo_91 : decode cX7_undo 91 = .ok (.getfield 58, 3) := by decide +kernel
theorem dX7_undo_94 : decode cX7_undo 94 = .ok (.ireturn, 1) := by decide +kernel
theorem dX7_save_0 : decode cX7_save 0 = .ok (.iload_n 1, 1) := by decide +kernel
theorem dX7_save_1 : decode cX7_save 1 = .ok (.iconst 0, 1) := by decide +kernel
theorem dX7_save_2 : decode cX7_save 2 = .ok (.iconst 1, 1) := by decide +kernel
theorem dX7_save_3 : decode cX7_save 3 = .ok (.invokestatic 62, 3) := by decide +kernel
theorem dX7_save_6 : decode cX7_save 6 = .ok (.ifCond .ne 6, 3) := by decide +kernel
theorem dX7_save_9 : decode cX7_save 9 = .ok (.bipush (-2), 2) := by decide +kernel
theorem dX7_save_11 : decode cX7_save 11 = .ok (.ireturn, 1) := by decide +kernel
theorem dX7_save_12 : decode cX7_save 12 = .ok (.iconst 0, 1) := by decide +kernel
theorem dX7_save_13 : decode cX7_save 13 = .ok (.istore_n 2, 1) := by decide +kernel
theorem dX7_save_14 : decode cX7_save 14 = .ok (.iload_n 2, 1) := by decide +kernel
theorem dX7_save_15 : decode cX7_save 15 = .ok (.sipush 400, 3) := by decide +kernel
theorem dX7_save_18 : decode cX7_save 18 = .ok (.if_icmp .ge 27, 3) := by decide +kernel
theorem dX7_save_21 : decode cX7_save 21 = .ok (.aload_n 0, 1) := by decide +kernel
theorem dX7_save_22 : decode cX7_save 22 = .ok (.getfield 32, 3) := by decide +kernel
theorem dX7_save_25 : decode cX7_save 25 = .ok (.iload_n 1, 1) := by decide +kernel
theorem dX7_save_26 : decode cX7_save 26 = .ok (.sipush 400, 3) := by decide +kernel
theorem dX7_save_29 : decode cX7_save 29 = .ok (.imul, 1) := by decide +kernel
theorem dX7_save_30 : decode cX7_save 30 = .ok (.iload_n 2, 1) := by decide +kernel
theorem dX7_save_31 : decode cX7_save 31 = .ok (.iadd, 1) := by decide +kernel
theorem dX7_save_32 : decode cX7_save 32 = .ok (.aload_n 0, 1) := by decide +kernel
theorem dX7_save_33 : decode cX7_save 33 = .ok (.getfield 7, 3) := by decide +kernel
theorem dX7_save_36 : decode cX7_save 36 = .ok (.iload_n 2, 1) := by decide +kernel
theorem dX7_save_37 : decode cX7_save 37 = .ok (.iaload, 1) := by decide +kernel
theorem dX7_save_38 : decode cX7_save 38 = .ok (.iastore, 1) := by decide +kernel
theorem dX7_save_39 : decode cX7_save 39 = .ok (.iinc 2 1, 3) := by decide +kernel
theorem dX7_save_42 : decode cX7_save 42 = .ok (.goto (-28), 3) := by decide +kernel
theorem dX7_save_45 : decode cX7_save 45 = .ok (.iconst 0, 1) := by decide +kernel
theorem dX7_save_46 : decode cX7_save 46 = .ok (.istore_n 2, 1) := by decide +kernel
theorem dX7_save_47 : decode cX7_save 47 = .ok (.iload_n 2, 1) := by decide +kernel
theorem dX7_save_48 : decode cX7_save 48 = .ok (.bipush 10, 2) := by decide +kernel
theorem dX7_save_50 : decode cX7_save 50 = .ok (.if_icmp .ge 26, 3) := by decide +kernel
theorem dX7_save_53 : decode cX7_save 53 = .ok (.aload_n 0, 1) := by decide +kernel
theorem dX7_save_54 : decode cX7_save 54 = .ok (.getfield 35, 3) := by decide +kernel
theorem dX7_save_57 : decode cX7_save 57 = .ok (.iload_n 1, 1) := by decide +kernel
theorem dX7_save_58 : decode cX7_save 58 = .ok (.bipush 10, 2) := by decide +kernel
theorem dX7_save_60 : decode cX7_save 60 = .ok (.imul, 1) := by decide +kernel
theorem dX7_save_61 : decode cX7_save 61 = .ok (.iload_n 2, 1) := by decide +kernel
theorem dX7_save_62 : decode cX7_save 62 = .ok (.iadd, 1) := by decide +kernel
theorem dX7_save_63 : decode cX7_save 63 = .ok (.aload_n 0, 1) := by decide +kernel
theorem dX7_save_64 : decode cX7_save 64 = .ok (.getfield 13, 3) := by decide +kernel
theorem dX7_save_67 : decode cX7_save 67 = .ok (.iload_n 2, 1) := by decide +kernel
theorem dX7_save_68 : decode cX7_save 68 = .ok (.laload, 1) := by decide +kernel
theorem dX7_save_69 : decode cX7_save 69 = .ok (.lastore, 1) := by decide +kernel
theorem dX7_save_70 : decode cX7_save 70 = .ok (.iinc 2 1, 3) := by decide +kernel
theorem dX7_save_73 : decode cX7_save 73 = .ok (.goto (-26), 3) := by decide +kernel
theorem dX7_save_76 : decode cX7_save 76 = .ok (.aload_n 0, 1) := by decide +kernel
theorem dX7_save_77 : decode cX7_save 77 = .ok (.getfield 38, 3) := by decide +kernel
theorem dX7_save_80 : decode cX7_save 80 = .ok (.iload_n 1, 1) := by decide +kernel
theorem dX7_save_81 : decode cX7_save 81 = .ok (.iconst 1, 1) := by decide +kernel
theorem dX7_save_82 : decode cX7_save 82 = .ok (.bastore, 1) := by decide +kernel
theorem dX7_save_83 : decode cX7_save 83 = .ok (.aload_n 0, 1) := by decide +kernel
theorem dX7_save_84 : decode cX7_save 84 = .ok (.getfield 7, 3) := by decide +kernel
theorem dX7_save_87 : decode cX7_save 87 = .ok (.iconst 5, 1) := by decide +kernel
theorem dX7_save_88 : decode cX7_save 88 = .ok (.iaload, 1) := by decide +kernel
theorem dX7_save_89 : decode cX7_save 89 = .ok (.ireturn, 1) := by decide +kernel
theorem dX7_restore_0 : decode cX7_restore 0 = .ok (.iload_n 1, 1) := by decide +kernel
theorem dX7_restore_1 : decode cX7_restore 1 = .ok (.iconst 0, 1) := by decide +kernel
theorem dX7_restore_2 : decode cX7_restore 2 = .ok (.iconst 1, 1) := by decide +kernel
theorem dX7_restore_3 : decode cX7_restore 3 = .ok (.invokestatic 62, 3) := by decide +kernel
theorem dX7_restore_6 : decode cX7_restore 6 = .ok (.ifCond .ne 6, 3) := by decide +kernel
theorem dX7_restore_9 : decode cX7_restore 9 = .ok (.bipush (-2), 2) := by decide +kernel
theorem dX7_restore_11 : decode cX7_restore 11 = .ok (.ireturn, 1) := by decide +kernel
theorem dX7_restore_12 : decode cX7_restore 12 = .ok (.aload_n 0, 1) := by decide +kernel
theorem dX7_restore_13 : decode cX7_restore 13 = .ok (.getfield 38, 3) := by decide +kernel
theorem dX7_restore_16 : decode cX7_restore 16 = .ok (.iload_n 1, 1) := by decide +kernel
theorem dX7_restore_17 : decode cX7_restore 17 = .ok (.baload, 1) := by decide +kernel
theorem dX7_restore_18 : decode cX7_restore 18 = .ok (.ifCond .ne 6, 3) := by decide +kernel
theorem dX7_restore_21 : decode cX7_restore 21 = .ok (.bipush (-5), 2) := by decide +kernel
theorem dX7_restore_23 : decode cX7_restore 23 = .ok (.ireturn, 1) := by decide +kernel
theorem dX7_restore_24 : decode cX7_restore 24 = .ok (.aload_n 0, 1) := by decide +kernel
theorem dX7_restore_25 : decode cX7_restore 25 = .ok (.invokevirtual 73, 3) := by decide +kernel
theorem dX7_restore_28 : decode cX7_restore 28 = .ok (.iconst 0, 1) := by decide +kernel
theorem dX7_restore_29 : decode cX7_restore 29 = .ok (.istore_n 2, 1) := by decide +kernel
theorem dX7_restore_30 : decode cX7_restore 30 = .ok (.iload_n 2, 1) := by decide +kernel
theorem dX7_restore_31 : decode cX7_restore 31 = .ok (.sipush 400, 3) := by decide +kernel
theorem dX7_restore_34 : decode cX7_restore 34 = .ok (.if_icmp .ge 27, 3) := by decide +kernel
theorem dX7_restore_37 : decode cX7_restore 37 = .ok (.aload_n 0, 1) := by decide +kernel
theorem dX7_restore_38 : decode cX7_restore 38 = .ok (.getfield 7, 3) := by decide +kernel
theorem dX7_restore_41 : decode cX7_restore 41 = .ok (.iload_n 2, 1) := by decide +kernel
theorem dX7_restore_42 : decode cX7_restore 42 = .ok (.aload_n 0, 1) := by decide +kernel
theorem dX7_restore_43 : decode cX7_restore 43 = .ok (.getfield 32, 3) := by decide +kernel
theorem dX7_restore_46 : decode cX7_restore 46 = .ok (.iload_n 1, 1) := by decide +kernel
theorem dX7_restore_47 : decode cX7_restore 47 = .ok (.sipush 400, 3) := by decide +kernel
theorem dX7_restore_50 : decode cX7_restore 50 = .ok (.imul, 1) := by decide +kernel
theorem dX7_restore_51 : decode cX7_restore 51 = .ok (.iload_n 2, 1) := by decide +kernel
theorem dX7_restore_52 : decode cX7_restore 52 = .ok (.iadd, 1) := by decide +kernel
theorem dX7_restore_53 : decode cX7_restore 53 = .ok (.iaload, 1) := by decide +kernel
theorem dX7_restore_54 : decode cX7_restore 54 = .ok (.iastore, 1) := by decide +kernel
theorem dX7_restore_55 : decode cX7_restore 55 = .ok (.iinc 2 1, 3) := by decide +kernel
theorem dX7_restore_58 : decode cX7_restore 58 = .ok (.goto (-28), 3) := by decide +kernel
theorem dX7_restore_61 : decode cX7_restore 61 = .ok (.iconst 0, 1) := by decide +kernel
theorem dX7_restore_62 : decode cX7_restore 62 = .ok (.istore_n 2, 1) := by decide +kernel
theorem dX7_restore_63 : decode cX7_restore 63 = .ok (.iload_n 2, 1) := by decide +kernel
theorem dX7_restore_64 : decode cX7_restore 64 = .ok (.bipush 10, 2) := by decide +kernel
theorem dX7_restore_66 : decode cX7_restore 66 = .ok (.if_icmp .ge 26, 3) := by decide +kernel
theorem dX7_restore_69 : decode cX7_restore 69 = .ok (.aload_n 0, 1) := by decide +kernel
theorem dX7_restore_70 : decode cX7_restore 70 = .ok (.getfield 13, 3) := by decide +kernel
theorem dX7_restore_73 : decode cX7_restore 73 = .ok (.iload_n 2, 1) := by decide +kernel
end
section
theorem dX7_restore_74 : decode cX7_restore 74 = .ok (.aload_n 0, 1) := by decide +kernel
theorem dX7_restore_75 : decode cX7_restore 75 = .ok (.getfield 35, 3) := by decide +kernel
theorem dX7_restore_78 : decode cX7_restore 78 = .ok (.iload_n 1, 1) := by decide +kernel
theorem dX7_restore_79 : decode cX7_restore 79 = .ok (.bipush 10, 2) := by decide +kernel
theorem dX7_restore_81 : decode cX7_restore 81 = .ok (.imul, 1) := by decide +kernel
theorem dX7_restore_82 : decode cX7_restore 82 = .ok (.iload_n 2, 1) := by decide +kernel
theorem dX7_restore_83 : decode cX7_restore 83 = .ok (.iadd, 1) := by decide +kernel
theorem dX7_restore_84 : decode cX7_restore 84 = .ok (.laload, 1) := by decide +kernel
theorem dX7_restore_85 : decode cX7_restore 85 = .ok (.lastore, 1) := by decide +kernel
theorem dX7_restore_86 : decode cX7_restore 86 = .ok (.iinc 2 1, 3) := by decide +kernel
theorem dX7_restore_89 : decode cX7_restore 89 = .ok (.goto (-26), 3) := by decide +kernel
theorem dX7_restore_92 : decode cX7_restore 92 = .ok (.aload_n 0, 1) := by decide +kernel
theorem dX7_restore_93 : decode cX7_restore 93 = .ok (.getfield 7, 3) := by decide +kernel
theorem dX7_restore_96 : decode cX7_restore 96 = .ok (.iconst 5, 1) := by decide +kernel
theorem dX7_restore_97 : decode cX7_restore 97 = .ok (.iaload, 1) := by decide +kernel
theorem dX7_restore_98 : decode cX7_restore 98 = .ok (.ireturn, 1) := by decide +kernel
theorem dJxf58ca_isNaN_12338_0 : decode cJxf58ca_isNaN_12338 0 = .ok (.fload_n 0, 1) := by decide +kernel
theorem dJxf58ca_isNaN_12338_1 : decode cJxf58ca_isNaN_12338 1 = .ok (.fload_n 0, 1) := by decide +kernel
theorem dJxf58ca_isNaN_12338_2 : decode cJxf58ca_isNaN_12338 2 = .ok (.fcmp .l, 1) := by decide +kernel
theorem dJxf58ca_isNaN_12338_3 : decode cJxf58ca_isNaN_12338 3 = .ok (.ifCond .eq 7, 3) := by decide +kernel
theorem dJxf58ca_isNaN_12338_6 : decode cJxf58ca_isNaN_12338 6 = .ok (.iconst 1, 1) := by decide +kernel
theorem dJxf58ca_isNaN_12338_7 : decode cJxf58ca_isNaN_12338 7 = .ok (.goto 4, 3) := by decide +kernel
theorem dJxf58ca_isNaN_12338_10 : decode cJxf58ca_isNaN_12338 10 = .ok (.iconst 0, 1) := by decide +kernel
theorem dJxf58ca_isNaN_12338_11 : decode cJxf58ca_isNaN_12338 11 = .ok (.ireturn, 1) := by decide +kernel
theorem dJxf58ca_floatToIntBits_5c35a_0 : decode cJxf58ca_floatToIntBits_5c35a 0 = .ok (.fload_n 0, 1) := by decide +kernel
theorem dJxf58ca_floatToIntBits_5c35a_1 : decode cJxf58ca_floatToIntBits_5c35a 1 = .ok (.invokestatic 59, 3) := by decide +kernel
theorem dJxf58ca_floatToIntBits_5c35a_4 : decode cJxf58ca_floatToIntBits_5c35a 4 = .ok (.ifCond .ne 8, 3) := by decide +kernel
theorem dJxf58ca_floatToIntBits_5c35a_7 : decode cJxf58ca_floatToIntBits_5c35a 7 = .ok (.fload_n 0, 1) := by decide +kernel
theorem dJxf58ca_floatToIntBits_5c35a_8 : decode cJxf58ca_floatToIntBits_5c35a 8 = .ok (.invokestatic 74, 3) := by decide +kernel
theorem dJxf58ca_floatToIntBits_5c35a_11 : decode cJxf58ca_floatToIntBits_5c35a 11 = .ok (.ireturn, 1) := by decide +kernel
theorem dJxf58ca_floatToIntBits_5c35a_12 : decode cJxf58ca_floatToIntBits_5c35a 12 = .ok (.ldc 77, 2) := by decide +kernel
theorem dJxf58ca_floatToIntBits_5c35a_14 : decode cJxf58ca_floatToIntBits_5c35a 14 = .ok (.ireturn, 1) := by decide +kernel
theorem dJ6_bitCount_0f7a4_0 : decode cJ6_bitCount_0f7a4 0 = .ok (.iload_n 0, 1) := by decide +kernel
theorem dJ6_bitCount_0f7a4_1 : decode cJ6_bitCount_0f7a4 1 = .ok (.iload_n 0, 1) := by decide +kernel
theorem dJ6_bitCount_0f7a4_2 : decode cJ6_bitCount_0f7a4 2 = .ok (.iconst 1, 1) := by decide +kernel
theorem dJ6_bitCount_0f7a4_3 : decode cJ6_bitCount_0f7a4 3 = .ok (.iushr, 1) := by decide +kernel
theorem dJ6_bitCount_0f7a4_4 : decode cJ6_bitCount_0f7a4 4 = .ok (.ldc_w 265, 3) := by decide +kernel
theorem dJ6_bitCount_0f7a4_7 : decode cJ6_bitCount_0f7a4 7 = .ok (.iand, 1) := by decide +kernel
theorem dJ6_bitCount_0f7a4_8 : decode cJ6_bitCount_0f7a4 8 = .ok (.isub, 1) := by decide +kernel
theorem dJ6_bitCount_0f7a4_9 : decode cJ6_bitCount_0f7a4 9 = .ok (.istore_n 0, 1) := by decide +kernel
theorem dJ6_bitCount_0f7a4_10 : decode cJ6_bitCount_0f7a4 10 = .ok (.iload_n 0, 1) := by decide +kernel
theorem dJ6_bitCount_0f7a4_11 : decode cJ6_bitCount_0f7a4 11 = .ok (.ldc_w 266, 3) := by decide +kernel
theorem dJ6_bitCount_0f7a4_14 : decode cJ6_bitCount_0f7a4 14 = .ok (.iand, 1) := by decide +kernel
theorem dJ6_bitCount_0f7a4_15 : decode cJ6_bitCount_0f7a4 15 = .ok (.iload_n 0, 1) := by decide +kernel
theorem dJ6_bitCount_0f7a4_16 : decode cJ6_bitCount_0f7a4 16 = .ok (.iconst 2, 1) := by decide +kernel
theorem dJ6_bitCount_0f7a4_17 : decode cJ6_bitCount_0f7a4 17 = .ok (.iushr, 1) := by decide +kernel
theorem dJ6_bitCount_0f7a4_18 : decode cJ6_bitCount_0f7a4 18 = .ok (.ldc_w 266, 3) := by decide +kernel
theorem dJ6_bitCount_0f7a4_21 : decode cJ6_bitCount_0f7a4 21 = .ok (.iand, 1) := by decide +kernel
theorem dJ6_bitCount_0f7a4_22 : decode cJ6_bitCount_0f7a4 22 = .ok (.iadd, 1) := by decide +kernel
theorem dJ6_bitCount_0f7a4_23 : decode cJ6_bitCount_0f7a4 23 = .ok (.istore_n 0, 1) := by decide +kernel
theorem dJ6_bitCount_0f7a4_24 : decode cJ6_bitCount_0f7a4 24 = .ok (.iload_n 0, 1) := by decide +kernel
theorem dJ6_bitCount_0f7a4_25 : decode cJ6_bitCount_0f7a4 25 = .ok (.iload_n 0, 1) := by decide +kernel
theorem dJ6_bitCount_0f7a4_26 : decode cJ6_bitCount_0f7a4 26 = .ok (.iconst 4, 1) := by decide +kernel
theorem dJ6_bitCount_0f7a4_27 : decode cJ6_bitCount_0f7a4 27 = .ok (.iushr, 1) := by decide +kernel
theorem dJ6_bitCount_0f7a4_28 : decode cJ6_bitCount_0f7a4 28 = .ok (.iadd, 1) := by decide +kernel
theorem dJ6_bitCount_0f7a4_29 : decode cJ6_bitCount_0f7a4 29 = .ok (.ldc_w 267, 3) := by decide +kernel
theorem dJ6_bitCount_0f7a4_32 : decode cJ6_bitCount_0f7a4 32 = .ok (.iand, 1) := by decide +kernel
theorem dJ6_bitCount_0f7a4_33 : decode cJ6_bitCount_0f7a4 33 = .ok (.istore_n 0, 1) := by decide +kernel
theorem dJ6_bitCount_0f7a4_34 : decode cJ6_bitCount_0f7a4 34 = .ok (.iload_n 0, 1) := by decide +kernel
theorem dJ6_bitCount_0f7a4_35 : decode cJ6_bitCount_0f7a4 35 = .ok (.iload_n 0, 1) := by decide +kernel
theorem dJ6_bitCount_0f7a4_36 : decode cJ6_bitCount_0f7a4 36 = .ok (.bipush 8, 2) := by decide +kernel
theorem dJ6_bitCount_0f7a4_38 : decode cJ6_bitCount_0f7a4 38 = .ok (.iushr, 1) := by decide +kernel
theorem dJ6_bitCount_0f7a4_39 : decode cJ6_bitCount_0f7a4 39 = .ok (.iadd, 1) := by decide +kernel
theorem dJ6_bitCount_0f7a4_40 : decode cJ6_bitCount_0f7a4 40 = .ok (.istore_n 0, 1) := by decide +kernel
theorem dJ6_bitCount_0f7a4_41 : decode cJ6_bitCount_0f7a4 41 = .ok (.iload_n 0, 1) := by decide +kernel
theorem dJ6_bitCount_0f7a4_42 : decode cJ6_bitCount_0f7a4 42 = .ok (.iload_n 0, 1) := by decide +kernel
theorem dJ6_bitCount_0f7a4_43 : decode cJ6_bitCount_0f7a4 43 = .ok (.bipush 16, 2) := by decide +kernel
theorem dJ6_bitCount_0f7a4_45 : decode cJ6_bitCount_0f7a4 45 = .ok (.iushr, 1) := by decide +kernel
theorem dJ6_bitCount_0f7a4_46 : decode cJ6_bitCount_0f7a4 46 = .ok (.iadd, 1) := by decide +kernel
theorem dJ6_bitCount_0f7a4_47 : decode cJ6_bitCount_0f7a4 47 = .ok (.istore_n 0, 1) := by decide +kernel
theorem dJ6_bitCount_0f7a4_48 : decode cJ6_bitCount_0f7a4 48 = .ok (.iload_n 0, 1) := by decide +kernel
theorem dJ6_bitCount_0f7a4_49 : decode cJ6_bitCount_0f7a4 49 = .ok (.bipush 63, 2) := by decide +kernel
theorem dJ6_bitCount_0f7a4_51 : decode cJ6_bitCount_0f7a4 51 = .ok (.iand, 1) := by decide +kernel
theorem dJ6_bitCount_0f7a4_52 : decode cJ6_bitCount_0f7a4 52 = .ok (.ireturn, 1) := by decide +kernel
theorem dJ9_max_7cf53_0 : decode cJ9_max_7cf53 0 = .ok (.iload_n 0, 1) := by decide +kernel
theorem dJ9_max_7cf53_1 : decode cJ9_max_7cf53 1 = .ok (.iload_n 1, 1) := by decide +kernel
theorem dJ9_max_7cf53_2 : decode cJ9_max_7cf53 2 = .ok (.if_icmp .lt 7, 3) := by decide +kernel
theorem dJ9_max_7cf53_5 : decode cJ9_max_7cf53 5 = .ok (.iload_n 0, 1) := by decide +kernel
theorem dJ9_max_7cf53_6 : decode cJ9_max_7cf53 6 = .ok (.goto 4, 3) := by decide +kernel
theorem dJ9_max_7cf53_9 : decode cJ9_max_7cf53 9 = .ok (.iload_n 1, 1) := by decide +kernel
theorem dJ9_max_7cf53_10 : decode cJ9_max_7cf53 10 = .ok (.ireturn, 1) := by decide +kernel
theorem dJ9_min_7cf53_0 : decode cJ9_min_7cf53 0 = .ok (.iload_n 0, 1) := by decide +kernel
theorem dJ9_min_7cf53_1 : decode cJ9_min_7cf53 1 = .ok (.iload_n 1, 1) := by decide +kernel
theorem dJ9_min_7cf53_2 : decode cJ9_min_7cf53 2 = .ok (.if_icmp .gt 7, 3) := by decide +kernel
theorem dJ9_min_7cf53_5 : decode cJ9_min_7cf53 5 = .ok (.iload_n 0, 1) := by decide +kernel
theorem dJ9_min_7cf53_6 : decode cJ9_min_7cf53 6 = .ok (.goto 4, 3) := by decide +kernel
theorem dJ9_min_7cf53_9 : decode cJ9_min_7cf53 9 = .ok (.iload_n 1, 1) := by decide +kernel
theorem dJ9_min_7cf53_10 : decode cJ9_min_7cf53 10 = .ok (.ireturn, 1) := by decide +kernel
theorem dL_law_0 : decode cL_law 0 = .ok (.new 7, 3) := by decide +kernel
theorem dL_law_3 : decode cL_law 3 = .ok (.dup, 1) := by decide +kernel
theorem dL_law_4 : decode cL_law 4 = .ok (.invokespecial 9, 3) := by decide +kernel
theorem dL_law_7 : decode cL_law 7 = .ok (.astore_n 1, 1) := by decide +kernel
theorem dL_law_8 : decode cL_law 8 = .ok (.new 10, 3) := by decide +kernel
theorem dL_law_11 : decode cL_law 11 = .ok (.dup, 1) := by decide +kernel
theorem dL_law_12 : decode cL_law 12 = .ok (.invokespecial 12, 3) := by decide +kernel
theorem dL_law_15 : decode cL_law 15 = .ok (.astore_n 2, 1) := by decide +kernel
theorem dL_law_16 : decode cL_law 16 = .ok (.iconst 0, 1) := by decide +kernel
theorem dL_law_17 : decode cL_law 17 = .ok (.istore_n 3, 1) := by decide +kernel
theorem dL_law_18 : decode cL_law 18 = .ok (.iload_n 3, 1) := by decide +kernel
theorem dL_law_19 : decode cL_law 19 = .ok (.aload_n 0, 1) := by decide +kernel
theorem dL_law_20 : decode cL_law 20 = .ok (.arraylength, 1) := by decide +kernel
theorem dL_law_21 : decode cL_law 21 = .ok (.bipush 6, 2) := by decide +kernel
theorem dL_law_23 : decode cL_law 23 = .ok (.isub, 1) := by decide +kernel
theorem dL_law_24 : decode cL_law 24 = .ok (.if_icmp .gt 1035, 3) := by decide +kernel
theorem dL_law_27 : decode cL_law 27 = .ok (.aload_n 0, 1) := by decide +kernel
theorem dL_law_28 : decode cL_law 28 = .ok (.iload_n 3, 1) := by decide +kernel
theorem dL_law_29 : decode cL_law 29 = .ok (.iaload, 1) := by decide +kernel
theorem dL_law_30 : decode cL_law 30 = .ok (.bipush 31, 2) := by decide +kernel
theorem dL_law_32 : decode cL_law 32 = .ok (.iand, 1) := by decide +kernel
theorem dL_law_33 : decode cL_law 33 = .ok (.tableswitch 1020 0 31 #[143, 176, 199, 232, 275, 308, 341, 374, 437, 450, 463, 476, 499, 532, 565, 589, 612, 645, 668, 691, 724, 767, 800, 823, 846, 869, 922, 935, 948, 961, 974, 997], 143) := by decide +kernel
theorem dL_law_176 : decode cL_law 176 = .ok (.aload_n 1, 1) := by decide +kernel
theorem dL_law_177 : decode cL_law 177 = .ok (.aload_n 0, 1) := by decide +kernel
theorem dL_law_178 : decode cL_law 178 = .ok (.iload_n 3, 1) := by decide +kernel
theorem dL_law_179 : decode cL_law 179 = .ok (.iconst 1, 1) := by decide +kernel
theorem dL_law_180 : decode cL_law 180 = .ok (.iadd, 1) := by decide +kernel
theorem dL_law_181 : decode cL_law 181 = .ok (.iaload, 1) := by decide +kernel
theorem dL_law_182 : decode cL_law 182 = .ok (.aload_n 0, 1) := by decide +kernel
theorem dL_law_183 : decode cL_law 183 = .ok (.iload_n 3, 1) := by decide +kernel
theorem dL_law_184 : decode cL_law 184 = .ok (.iconst 2, 1) := by decide +kernel
theorem dL_law_185 : decode cL_law 185 = .ok (.iadd, 1) := by decide +kernel
theorem dL_law_186 : decode cL_law 186 = .ok (.iaload, 1) := by decide +kernel
theorem dL_law_187 : decode cL_law 187 = .ok (.invokevirtual 13, 3) := by decide +kernel
theorem dL_law_190 : decode cL_law 190 = .ok (.aload_n 2, 1) := by decide +kernel
theorem dL_law_191 : decode cL_law 191 = .ok (.aload_n 0, 1) := by decide +kernel
theorem dL_law_192 : decode cL_law 192 = .ok (.iload_n 3, 1) := by decide +kernel
theorem dL_law_193 : decode cL_law 193 = .ok (.iconst 1, 1) := by decide +kernel
theorem dL_law_194 : decode cL_law 194 = .ok (.iadd, 1) := by decide +kernel
theorem dL_law_195 : decode cL_law 195 = .ok (.iaload, 1) := by decide +kernel
theorem dL_law_196 : decode cL_law 196 = .ok (.aload_n 0, 1) := by decide +kernel
theorem dL_law_197 : decode cL_law 197 = .ok (.iload_n 3, 1) := by decide +kernel
theorem dL_law_198 : decode cL_law 198 = .ok (.iconst 2, 1) := by decide +kernel
theorem dL_law_199 : decode cL_law 199 = .ok (.iadd, 1) := by decide +kernel
theorem dL_law_200 : decode cL_law 200 = .ok (.iaload, 1) := by decide +kernel
theorem dL_law_201 : decode cL_law 201 = .ok (.invokevirtual 17, 3) := by decide +kernel
theorem dL_law_204 : decode cL_law 204 = .ok (.if_icmp .eq 849, 3) := by decide +kernel
theorem dL_law_207 : decode cL_law 207 = .ok (.iconst 0, 1) := by decide +kernel
theorem dL_law_208 : decode cL_law 208 = .ok (.ireturn, 1) := by decide +kernel
theorem dL_law_209 : decode cL_law 209 = .ok (.aload_n 1, 1) := by decide +kernel
theorem dL_law_210 : decode cL_law 210 = .ok (.aload_n 0, 1) := by decide +kernel
theorem dL_law_211 : decode cL_law 211 = .ok (.iload_n 3, 1) := by decide +kernel
theorem dL_law_212 : decode cL_law 212 = .ok (.iconst 1, 1) := by decide +kernel
theorem dL_law_213 : decode cL_law 213 = .ok (.iadd, 1) := by decide +kernel
theorem dL_law_214 : decode cL_law 214 = .ok (.iaload, 1) := by decide +kernel
theorem dL_law_215 : decode cL_law 215 = .ok (.invokevirtual 18, 3) := by decide +kernel
theorem dL_law_218 : decode cL_law 218 = .ok (.aload_n 2, 1) := by decide +kernel
theorem dL_law_219 : decode cL_law 219 = .ok (.aload_n 0, 1) := by decide +kernel
theorem dL_law_220 : decode cL_law 220 = .ok (.iload_n 3, 1) := by decide +kernel
theorem dL_law_221 : decode cL_law 221 = .ok (.iconst 1, 1) := by decide +kernel
theorem dL_law_222 : decode cL_law 222 = .ok (.iadd, 1) := by decide +kernel
theorem dL_law_223 : decode cL_law 223 = .ok (.iaload, 1) := by decide +kernel
theorem dL_law_224 : decode cL_law 224 = .ok (.invokevirtual 22, 3) := by decide +kernel
theorem dL_law_227 : decode cL_law 227 = .ok (.if_icmp .eq 826, 3) := by decide +kernel
theorem dL_law_230 : decode cL_law 230 = .ok (.iconst 0, 1) := by decide +kernel
theorem dL_law_231 : decode cL_law 231 = .ok (.ireturn, 1) := by decide +kernel
theorem dL_law_232 : decode cL_law 232 = .ok (.aload_n 1, 1) := by decide +kernel
theorem dL_law_233 : decode cL_law 233 = .ok (.aload_n 0, 1) := by decide +kernel
theorem dL_law_234 : decode cL_law 234 = .ok (.iload_n 3, 1) := by decide +kernel
theorem dL_law_235 : decode cL_law 235 = .ok (.iconst 1, 1) := by decide +kernel
theorem dL_law_236 : decode cL_law 236 = .ok (.iadd, 1) := by decide +kernel
theorem dL_law_237 : decode cL_law 237 = .ok (.iaload, 1) := by decide +kernel
theorem dL_law_238 : decode cL_law 238 = .ok (.aload_n 0, 1) := by decide +kernel
theorem dL_law_239 : decode cL_law 239 = .ok (.iload_n 3, 1) := by decide +kernel
theorem dL_law_240 : decode cL_law 240 = .ok (.iconst 2, 1) := by decide +kernel
theorem dL_law_241 : decode cL_law 241 = .ok (.iadd, 1) := by decide +kernel
theorem dL_law_242 : decode cL_law 242 = .ok (.iaload, 1) := by decide +kernel
theorem dL_law_243 : decode cL_law 243 = .ok (.invokevirtual 23, 3) := by decide +kernel
theorem dL_law_246 : decode cL_law 246 = .ok (.aload_n 2, 1) := by decide +kernel
theorem dL_law_247 : decode cL_law 247 = .ok (.aload_n 0, 1) := by decide +kernel
theorem dL_law_248 : decode cL_law 248 = .ok (.iload_n 3, 1) := by decide +kernel
theorem dL_law_249 : decode cL_law 249 = .ok (.iconst 1, 1) := by decide +kernel
theorem dL_law_250 : decode cL_law 250 = .ok (.iadd, 1) := by decide +kernel
theorem dL_law_251 : decode cL_law 251 = .ok (.iaload, 1) := by decide +kernel
theorem dL_law_252 : decode cL_law 252 = .ok (.aload_n 0, 1) := by decide +kernel
theorem dL_law_253 : decode cL_law 253 = .ok (.iload_n 3, 1) := by decide +kernel
theorem dL_law_254 : decode cL_law 254 = .ok (.iconst 2, 1) := by decide +kernel
theorem dL_law_255 : decode cL_law 255 = .ok (.iadd, 1) := by decide +kernel
theorem dL_law_256 : decode cL_law 256 = .ok (.iaload, 1) := by decide +kernel
theorem dL_law_257 : decode cL_law 257 = .ok (.invokevirtual 26, 3) := by decide +kernel
theorem dL_law_260 : decode cL_law 260 = .ok (.if_icmp .eq 793, 3) := by decide +kernel
theorem dL_law_263 : decode cL_law 263 = .ok (.iconst 0, 1) := by decide +kernel
theorem dL_law_264 : decode cL_law 264 = .ok (.ireturn, 1) := by decide +kernel
theorem dL_law_265 : decode cL_law 265 = .ok (.aload_n 1, 1) := by decide +kernel
theorem dL_law_266 : decode cL_law 266 = .ok (.aload_n 0, 1) := by decide +kernel
theorem dL_law_267 : decode cL_law 267 = .ok (.iload_n 3, 1) := by decide +kernel
theorem dL_law_268 : decode cL_law 268 = .ok (.iconst 1, 1) := by decide +kernel
theorem dL_law_269 : decode cL_law 269 = .ok (.iadd, 1) := by decide +kernel
theorem dL_law_270 : decode cL_law 270 = .ok (.iaload, 1) := by decide +kernel
theorem dL_law_271 : decode cL_law 271 = .ok (.aload_n 0, 1) := by decide +kernel
theorem dL_law_272 : decode cL_law 272 = .ok (.iload_n 3, 1) := by decide +kernel
theorem dL_law_273 : decode cL_law 273 = .ok (.iconst 2, 1) := by decide +kernel
theorem dL_law_274 : decode cL_law 274 = .ok (.iadd, 1) := by decide +kernel
theorem dL_law_275 : decode cL_law 275 = .ok (.iaload, 1) := by decide +kernel
theorem dL_law_276 : decode cL_law 276 = .ok (.aload_n 0, 1) := by decide +kernel
theorem dL_law_277 : decode cL_law 277 = .ok (.iload_n 3, 1) := by decide +kernel
theorem dL_law_278 : decode cL_law 278 = .ok (.iconst 3, 1) := by decide +kernel
theorem dL_law_279 : decode cL_law 279 = .ok (.iadd, 1) := by decide +kernel
theorem dL_law_280 : decode cL_law 280 = .ok (.iaload, 1) := by decide +kernel
theorem dL_law_281 : decode cL_law 281 = .ok (.invokevirtual 27, 3) := by decide +kernel
theorem dL_law_284 : decode cL_law 284 = .ok (.aload_n 2, 1) := by decide +kernel
theorem dL_law_285 : decode cL_law 285 = .ok (.aload_n 0, 1) := by decide +kernel
theorem dL_law_286 : decode cL_law 286 = .ok (.iload_n 3, 1) := by decide +kernel
theorem dL_law_287 : decode cL_law 287 = .ok (.iconst 1, 1) := by decide +kernel
theorem dL_law_288 : decode cL_law 288 = .ok (.iadd, 1) := by decide +kernel
theorem dL_law_289 : decode cL_law 289 = .ok (.iaload, 1) := by decide +kernel
theorem dL_law_290 : decode cL_law 290 = .ok (.aload_n 0, 1) := by decide +kernel
theorem dL_law_291 : decode cL_law 291 = .ok (.iload_n 3, 1) := by decide +kernel
theorem dL_law_292 : decode cL_law 292 = .ok (.iconst 2, 1) := by decide +kernel
theorem dL_law_293 : decode cL_law 293 = .ok (.iadd, 1) := by decide +kernel
theorem dL_law_294 : decode cL_law 294 = .ok (.iaload, 1) := by decide +kernel
theorem dL_law_295 : decode cL_law 295 = .ok (.aload_n 0, 1) := by decide +kernel
theorem dL_law_296 : decode cL_law 296 = .ok (.iload_n 3, 1) := by decide +kernel
theorem dL_law_297 : decode cL_law 297 = .ok (.iconst 3, 1) := by decide +kernel
theorem dL_law_298 : decode cL_law 298 = .ok (.iadd, 1) := by decide +kernel
theorem dL_law_299 : decode cL_law 299 = .ok (.iaload, 1) := by decide +kernel
theorem dL_law_300 : decode cL_law 300 = .ok (.invokevirtual 31, 3) := by decide +kernel
theorem dL_law_303 : decode cL_law 303 = .ok (.if_icmp .eq 750, 3) := by decide +kernel
theorem dL_law_306 : decode cL_law 306 = .ok (.iconst 0, 1) := by decide +kernel
theorem dL_law_307 : decode cL_law 307 = .ok (.ireturn, 1) := by decide +kernel
theorem dL_law_308 : decode cL_law 308 = .ok (.aload_n 1, 1) := by decide +kernel
theorem dL_law_309 : decode cL_law 309 = .ok (.aload_n 0, 1) := by decide +kernel
theorem dL_law_310 : decode cL_law 310 = .ok (.iload_n 3, 1) := by decide +kernel
theorem dL_law_311 : decode cL_law 311 = .ok (.iconst 1, 1) := by decide +kernel
theorem dL_law_312 : decode cL_law 312 = .ok (.iadd, 1) := by decide +kernel
theorem dL_law_313 : decode cL_law 313 = .ok (.iaload, 1) := by decide +kernel
theorem dL_law_314 : decode cL_law 314 = .ok (.aload_n 0, 1) := by decide +kernel
theorem dL_law_315 : decode cL_law 315 = .ok (.iload_n 3, 1) := by decide +kernel
theorem dL_law_316 : decode cL_law 316 = .ok (.iconst 2, 1) := by decide +kernel
theorem dL_law_317 : decode cL_law 317 = .ok (.iadd, 1) := by decide +kernel
theorem dL_law_318 : decode cL_law 318 = .ok (.iaload, 1) := by decide +kernel
theorem dL_law_319 : decode cL_law 319 = .ok (.invokevirtual 32, 3) := by decide +kernel
theorem dL_law_322 : decode cL_law 322 = .ok (.aload_n 2, 1) := by decide +kernel
theorem dL_law_323 : decode cL_law 323 = .ok (.aload_n 0, 1) := by decide +kernel
theorem dL_law_324 : decode cL_law 324 = .ok (.iload_n 3, 1) := by decide +kernel
theorem dL_law_325 : decode cL_law 325 = .ok (.iconst 1, 1) := by decide +kernel
theorem dL_law_326 : decode cL_law 326 = .ok (.iadd, 1) := by decide +kernel
theorem dL_law_327 : decode cL_law 327 = .ok (.iaload, 1) := by decide +kernel
theorem dL_law_328 : decode cL_law 328 = .ok (.aload_n 0, 1) := by decide +kernel
theorem dL_law_329 : decode cL_law 329 = .ok (.iload_n 3, 1) := by decide +kernel
theorem dL_law_330 : decode cL_law 330 = .ok (.iconst 2, 1) := by decide +kernel
theorem dL_law_331 : decode cL_law 331 = .ok (.iadd, 1) := by decide +kernel
theorem dL_law_332 : decode cL_law 332 = .ok (.iaload, 1) := by decide +kernel
theorem dL_law_333 : decode cL_law 333 = .ok (.invokevirtual 35, 3) := by decide +kernel
theorem dL_law_336 : decode cL_law 336 = .ok (.if_icmp .eq 717, 3) := by decide +kernel
theorem dL_law_339 : decode cL_law 339 = .ok (.iconst 0, 1) := by decide +kernel
theorem dL_law_340 : decode cL_law 340 = .ok (.ireturn, 1) := by decide +kernel
theorem dL_law_341 : decode cL_law 341 = .ok (.aload_n 1, 1) := by decide +kernel
theorem dL_law_342 : decode cL_law 342 = .ok (.aload_n 0, 1) := by decide +kernel
theorem dL_law_343 : decode cL_law 343 = .ok (.iload_n 3, 1) := by decide +kernel
theorem dL_law_344 : decode cL_law 344 = .ok (.iconst 1, 1) := by decide +kernel
theorem dL_law_345 : decode cL_law 345 = .ok (.iadd, 1) := by decide +kernel
theorem dL_law_346 : decode cL_law 346 = .ok (.iaload, 1) := by decide +kernel
theorem dL_law_347 : decode cL_law 347 = .ok (.aload_n 0, 1) := by decide +kernel
theorem dL_law_348 : decode cL_law 348 = .ok (.iload_n 3, 1) := by decide +kernel
theorem dL_law_349 : decode cL_law 349 = .ok (.iconst 2, 1) := by decide +kernel
theorem dL_law_350 : decode cL_law 350 = .ok (.iadd, 1) := by decide +kernel
theorem dL_law_351 : decode cL_law 351 = .ok (.iaload, 1) := by decide +kernel
theorem dL_law_352 : decode cL_law 352 = .ok (.invokevirtual 36, 3) := by decide +kernel
theorem dL_law_355 : decode cL_law 355 = .ok (.aload_n 2, 1) := by decide +kernel
theorem dL_law_356 : decode cL_law 356 = .ok (.aload_n 0, 1) := by decide +kernel
theorem dL_law_357 : decode cL_law 357 = .ok (.iload_n 3, 1) := by decide +kernel
theorem dL_law_358 : decode cL_law 358 = .ok (.iconst 1, 1) := by decide +kernel
theorem dL_law_359 : decode cL_law 359 = .ok (.iadd, 1) := by decide +kernel
theorem dL_law_360 : decode cL_law 360 = .ok (.iaload, 1) := by decide +kernel
theorem dL_law_361 : decode cL_law 361 = .ok (.aload_n 0, 1) := by decide +kernel
theorem dL_law_362 : decode cL_law 362 = .ok (.iload_n 3, 1) := by decide +kernel
theorem dL_law_363 : decode cL_law 363 = .ok (.iconst 2, 1) := by decide +kernel
theorem dL_law_364 : decode cL_law 364 = .ok (.iadd, 1) := by decide +kernel
theorem dL_law_365 : decode cL_law 365 = .ok (.iaload, 1) := by decide +kernel
theorem dL_law_366 : decode cL_law 366 = .ok (.invokevirtual 39, 3) := by decide +kernel
theorem dL_law_369 : decode cL_law 369 = .ok (.if_icmp .eq 684, 3) := by decide +kernel
theorem dL_law_372 : decode cL_law 372 = .ok (.iconst 0, 1) := by decide +kernel
theorem dL_law_373 : decode cL_law 373 = .ok (.ireturn, 1) := by decide +kernel
theorem dL_law_374 : decode cL_law 374 = .ok (.aload_n 1, 1) := by decide +kernel
theorem dL_law_375 : decode cL_law 375 = .ok (.aload_n 0, 1) := by decide +kernel
theorem dL_law_376 : decode cL_law 376 = .ok (.iload_n 3, 1) := by decide +kernel
theorem dL_law_377 : decode cL_law 377 = .ok (.iconst 1, 1) := by decide +kernel
theorem dL_law_378 : decode cL_law 378 = .ok (.iadd, 1) := by decide +kernel
theorem dL_law_379 : decode cL_law 379 = .ok (.iaload, 1) := by decide +kernel
theorem dL_law_380 : decode cL_law 380 = .ok (.aload_n 0, 1) := by decide +kernel
theorem dL_law_381 : decode cL_law 381 = .ok (.iload_n 3, 1) := by decide +kernel
theorem dL_law_382 : decode cL_law 382 = .ok (.iconst 2, 1) := by decide +kernel
theorem dL_law_383 : decode cL_law 383 = .ok (.iadd, 1) := by decide +kernel
theorem dL_law_384 : decode cL_law 384 = .ok (.iaload, 1) := by decide +kernel
theorem dL_law_385 : decode cL_law 385 = .ok (.invokevirtual 40, 3) := by decide +kernel
theorem dL_law_388 : decode cL_law 388 = .ok (.aload_n 2, 1) := by decide +kernel
theorem dL_law_389 : decode cL_law 389 = .ok (.aload_n 0, 1) := by decide +kernel
theorem dL_law_390 : decode cL_law 390 = .ok (.iload_n 3, 1) := by decide +kernel
theorem dL_law_391 : decode cL_law 391 = .ok (.iconst 1, 1) := by decide +kernel
theorem dL_law_392 : decode cL_law 392 = .ok (.iadd, 1) := by decide +kernel
theorem dL_law_393 : decode cL_law 393 = .ok (.iaload, 1) := by decide +kernel
theorem dL_law_394 : decode cL_law 394 = .ok (.aload_n 0, 1) := by decide +kernel
theorem dL_law_395 : decode cL_law 395 = .ok (.iload_n 3, 1) := by decide +kernel
theorem dL_law_396 : decode cL_law 396 = .ok (.iconst 2, 1) := by decide +kernel
theorem dL_law_397 : decode cL_law 397 = .ok (.iadd, 1) := by decide +kernel
theorem dL_law_398 : decode cL_law 398 = .ok (.iaload, 1) := by decide +kernel
theorem dL_law_399 : decode cL_law 399 = .ok (.invokevirtual 43, 3) := by decide +kernel
theorem dL_law_402 : decode cL_law 402 = .ok (.if_icmp .eq 651, 3) := by decide +kernel
theorem dL_law_405 : decode cL_law 405 = .ok (.iconst 0, 1) := by decide +kernel
theorem dL_law_406 : decode cL_law 406 = .ok (.ireturn, 1) := by decide +kernel
theorem dL_law_407 : decode cL_law 407 = .ok (.aload_n 1, 1) := by decide +kernel
theorem dL_law_408 : decode cL_law 408 = .ok (.aload_n 0, 1) := by decide +kernel
theorem dL_law_409 : decode cL_law 409 = .ok (.iload_n 3, 1) := by decide +kernel
theorem dL_law_410 : decode cL_law 410 = .ok (.iconst 1, 1) := by decide +kernel
theorem dL_law_411 : decode cL_law 411 = .ok (.iadd, 1) := by decide +kernel
theorem dL_law_412 : decode cL_law 412 = .ok (.iaload, 1) := by decide +kernel
theorem dL_law_413 : decode cL_law 413 = .ok (.aload_n 0, 1) := by decide +kernel
theorem dL_law_414 : decode cL_law 414 = .ok (.iload_n 3, 1) := by decide +kernel
theorem dL_law_415 : decode cL_law 415 = .ok (.iconst 2, 1) := by decide +kernel
theorem dL_law_416 : decode cL_law 416 = .ok (.iadd, 1) := by decide +kernel
theorem dL_law_417 : decode cL_law 417 = .ok (.iaload, 1) := by decide +kernel
theorem dL_law_418 : decode cL_law 418 = .ok (.aload_n 0, 1) := by decide +kernel
theorem dL_law_419 : decode cL_law 419 = .ok (.iload_n 3, 1) := by decide +kernel
theorem dL_law_420 : decode cL_law 420 = .ok (.iconst 3, 1) := by decide +kernel
theorem dL_law_421 : decode cL_law 421 = .ok (.iadd, 1) := by decide +kernel
theorem dL_law_422 : decode cL_law 422 = .ok (.iaload, 1) := by decide +kernel
theorem dL_law_423 : decode cL_law 423 = .ok (.aload_n 0, 1) := by decide +kernel
theorem dL_law_424 : decode cL_law 424 = .ok (.iload_n 3, 1) := by decide +kernel
theorem dL_law_425 : decode cL_law 425 = .ok (.iconst 4, 1) := by decide +kernel
theorem dL_law_426 : decode cL_law 426 = .ok (.iadd, 1) := by decide +kernel
theorem dL_law_427 : decode cL_law 427 = .ok (.iaload, 1) := by decide +kernel
theorem dL_law_428 : decode cL_law 428 = .ok (.aload_n 0, 1) := by decide +kernel
theorem dL_law_429 : decode cL_law 429 = .ok (.iload_n 3, 1) := by decide +kernel
theorem dL_law_430 : decode cL_law 430 = .ok (.iconst 5, 1) := by decide +kernel
theorem dL_law_431 : decode cL_law 431 = .ok (.iadd, 1) := by decide +kernel
theorem dL_law_432 : decode cL_law 432 = .ok (.iaload, 1) := by decide +kernel
theorem dL_law_433 : decode cL_law 433 = .ok (.invokevirtual 44, 3) := by decide +kernel
theorem dL_law_436 : decode cL_law 436 = .ok (.aload_n 2, 1) := by decide +kernel
theorem dL_law_437 : decode cL_law 437 = .ok (.aload_n 0, 1) := by decide +kernel
theorem dL_law_438 : decode cL_law 438 = .ok (.iload_n 3, 1) := by decide +kernel
theorem dL_law_439 : decode cL_law 439 = .ok (.iconst 1, 1) := by decide +kernel
theorem dL_law_440 : decode cL_law 440 = .ok (.iadd, 1) := by decide +kernel
theorem dL_law_441 : decode cL_law 441 = .ok (.iaload, 1) := by decide +kernel
theorem dL_law_442 : decode cL_law 442 = .ok (.aload_n 0, 1) := by decide +kernel
theorem dL_law_443 : decode cL_law 443 = .ok (.iload_n 3, 1) := by decide +kernel
theorem dL_law_444 : decode cL_law 444 = .ok (.iconst 2, 1) := by decide +kernel
theorem dL_law_445 : decode cL_law 445 = .ok (.iadd, 1) := by decide +kernel
theorem dL_law_446 : decode cL_law 446 = .ok (.iaload, 1) := by decide +kernel
theorem dL_law_447 : decode cL_law 447 = .ok (.aload_n 0, 1) := by decide +kernel
theorem dL_law_448 : decode cL_law 448 = .ok (.iload_n 3, 1) := by decide +kernel
theorem dL_law_449 : decode cL_law 449 = .ok (.iconst 3, 1) := by decide +kernel
theorem dL_law_450 : decode cL_law 450 = .ok (.iadd, 1) := by decide +kernel
theorem dL_law_451 : decode cL_law 451 = .ok (.iaload, 1) := by decide +kernel
theorem dL_law_452 : decode cL_law 452 = .ok (.aload_n 0, 1) := by decide +kernel
theorem dL_law_453 : decode cL_law 453 = .ok (.iload_n 3, 1) := by decide +kernel
theorem dL_law_454 : decode cL_law 454 = .ok (.iconst 4, 1) := by decide +kernel
theorem dL_law_455 : decode cL_law 455 = .ok (.iadd, 1) := by decide +kernel
theorem dL_law_456 : decode cL_law 456 = .ok (.iaload, 1) := by decide +kernel
theorem dL_law_457 : decode cL_law 457 = .ok (.aload_n 0, 1) := by decide +kernel
theorem dL_law_458 : decode cL_law 458 = .ok (.iload_n 3, 1) := by decide +kernel
theorem dL_law_459 : decode cL_law 459 = .ok (.iconst 5, 1) := by decide +kernel
theorem dL_law_460 : decode cL_law 460 = .ok (.iadd, 1) := by decide +kernel
theorem dL_law_461 : decode cL_law 461 = .ok (.iaload, 1) := by decide +kernel
theorem dL_law_462 : decode cL_law 462 = .ok (.invokevirtual 48, 3) := by decide +kernel
theorem dL_law_465 : decode cL_law 465 = .ok (.if_icmp .eq 588, 3) := by decide +kernel
theorem dL_law_468 : decode cL_law 468 = .ok (.iconst 0, 1) := by decide +kernel
theorem dL_law_469 : decode cL_law 469 = .ok (.ireturn, 1) := by decide +kernel
theorem dL_law_470 : decode cL_law 470 = .ok (.aload_n 1, 1) := by decide +kernel
theorem dL_law_471 : decode cL_law 471 = .ok (.invokevirtual 49, 3) := by decide +kernel
theorem dL_law_474 : decode cL_law 474 = .ok (.aload_n 2, 1) := by decide +kernel
theorem dL_law_475 : decode cL_law 475 = .ok (.invokevirtual 53, 3) := by decide +kernel
theorem dL_law_478 : decode cL_law 478 = .ok (.if_icmp .eq 575, 3) := by decide +kernel
theorem dL_law_481 : decode cL_law 481 = .ok (.iconst 0, 1) := by decide +kernel
theorem dL_law_482 : decode cL_law 482 = .ok (.ireturn, 1) := by decide +kernel
theorem dL_law_483 : decode cL_law 483 = .ok (.aload_n 1, 1) := by decide +kernel
theorem dL_law_484 : decode cL_law 484 = .ok (.invokevirtual 54, 3) := by decide +kernel
theorem dL_law_487 : decode cL_law 487 = .ok (.aload_n 2, 1) := by decide +kernel
theorem dL_law_488 : decode cL_law 488 = .ok (.invokevirtual 57, 3) := by decide +kernel
theorem dL_law_491 : decode cL_law 491 = .ok (.if_icmp .eq 562, 3) := by decide +kernel
theorem dL_law_494 : decode cL_law 494 = .ok (.iconst 0, 1) := by decide +kernel
theorem dL_law_495 : decode cL_law 495 = .ok (.ireturn, 1) := by decide +kernel
theorem dL_law_496 : decode cL_law 496 = .ok (.aload_n 1, 1) := by decide +kernel
theorem dL_law_497 : decode cL_law 497 = .ok (.invokevirtual 58, 3) := by decide +kernel
theorem dL_law_500 : decode cL_law 500 = .ok (.aload_n 2, 1) := by decide +kernel
theorem dL_law_501 : decode cL_law 501 = .ok (.invokevirtual 61, 3) := by decide +kernel
theorem dL_law_504 : decode cL_law 504 = .ok (.if_icmp .eq 549, 3) := by decide +kernel
theorem dL_law_507 : decode cL_law 507 = .ok (.iconst 0, 1) := by decide +kernel
theorem dL_law_508 : decode cL_law 508 = .ok (.ireturn, 1) := by decide +kernel
theorem dL_law_509 : decode cL_law 509 = .ok (.aload_n 1, 1) := by decide +kernel
theorem dL_law_510 : decode cL_law 510 = .ok (.aload_n 0, 1) := by decide +kernel
theorem dL_law_511 : decode cL_law 511 = .ok (.iload_n 3, 1) := by decide +kernel
theorem dL_law_512 : decode cL_law 512 = .ok (.iconst 1, 1) := by decide +kernel
theorem dL_law_513 : decode cL_law 513 = .ok (.iadd, 1) := by decide +kernel
theorem dL_law_514 : decode cL_law 514 = .ok (.iaload, 1) := by decide +kernel
theorem dL_law_515 : decode cL_law 515 = .ok (.invokevirtual 62, 3) := by decide +kernel
theorem dL_law_518 : decode cL_law 518 = .ok (.aload_n 2, 1) := by decide +kernel
theorem dL_law_519 : decode cL_law 519 = .ok (.aload_n 0, 1) := by decide +kernel
theorem dL_law_520 : decode cL_law 520 = .ok (.iload_n 3, 1) := by decide +kernel
theorem dL_law_521 : decode cL_law 521 = .ok (.iconst 1, 1) := by decide +kernel
theorem dL_law_522 : decode cL_law 522 = .ok (.iadd, 1) := by decide +kernel
theorem dL_law_523 : decode cL_law 523 = .ok (.iaload, 1) := by decide +kernel
theorem dL_law_524 : decode cL_law 524 = .ok (.invokevirtual 65, 3) := by decide +kernel
theorem dL_law_527 : decode cL_law 527 = .ok (.if_icmp .eq 526, 3) := by decide +kernel
theorem dL_law_530 : decode cL_law 530 = .ok (.iconst 0, 1) := by decide +kernel
theorem dL_law_531 : decode cL_law 531 = .ok (.ireturn, 1) := by decide +kernel
theorem dL_law_532 : decode cL_law 532 = .ok (.aload_n 1, 1) := by decide +kernel
theorem dL_law_533 : decode cL_law 533 = .ok (.aload_n 0, 1) := by decide +kernel
theorem dL_law_534 : decode cL_law 534 = .ok (.iload_n 3, 1) := by decide +kernel
theorem dL_law_535 : decode cL_law 535 = .ok (.iconst 1, 1) := by decide +kernel
theorem dL_law_536 : decode cL_law 536 = .ok (.iadd, 1) := by decide +kernel
theorem dL_law_537 : decode cL_law 537 = .ok (.iaload, 1) := by decide +kernel
theorem dL_law_538 : decode cL_law 538 = .ok (.aload_n 0, 1) := by decide +kernel
theorem dL_law_539 : decode cL_law 539 = .ok (.iload_n 3, 1) := by decide +kernel
theorem dL_law_540 : decode cL_law 540 = .ok (.iconst 2, 1) := by decide +kernel
theorem dL_law_541 : decode cL_law 541 = .ok (.iadd, 1) := by decide +kernel
theorem dL_law_542 : decode cL_law 542 = .ok (.iaload, 1) := by decide +kernel
theorem dL_law_543 : decode cL_law 543 = .ok (.invokevirtual 66, 3) := by decide +kernel
theorem dL_law_546 : decode cL_law 546 = .ok (.aload_n 2, 1) := by decide +kernel
theorem dL_law_547 : decode cL_law 547 = .ok (.aload_n 0, 1) := by decide +kernel
theorem dL_law_548 : decode cL_law 548 = .ok (.iload_n 3, 1) := by decide +kernel
theorem dL_law_549 : decode cL_law 549 = .ok (.iconst 1, 1) := by decide +kernel
theorem dL_law_550 : decode cL_law 550 = .ok (.iadd, 1) := by decide +kernel
theorem dL_law_551 : decode cL_law 551 = .ok (.iaload, 1) := by decide +kernel
theorem dL_law_552 : decode cL_law 552 = .ok (.aload_n 0, 1) := by decide +kernel
theorem dL_law_553 : decode cL_law 553 = .ok (.iload_n 3, 1) := by decide +kernel
theorem dL_law_554 : decode cL_law 554 = .ok (.iconst 2, 1) := by decide +kernel
theorem dL_law_555 : decode cL_law 555 = .ok (.iadd, 1) := by decide +kernel
theorem dL_law_556 : decode cL_law 556 = .ok (.iaload, 1) := by decide +kernel
theorem dL_law_557 : decode cL_law 557 = .ok (.invokevirtual 69, 3) := by decide +kernel
theorem dL_law_560 : decode cL_law 560 = .ok (.if_icmp .eq 493, 3) := by decide +kernel
theorem dL_law_563 : decode cL_law 563 = .ok (.iconst 0, 1) := by decide +kernel
theorem dL_law_564 : decode cL_law 564 = .ok (.ireturn, 1) := by decide +kernel
theorem dL_law_565 : decode cL_law 565 = .ok (.aload_n 1, 1) := by decide +kernel
theorem dL_law_566 : decode cL_law 566 = .ok (.aload_n 0, 1) := by decide +kernel
theorem dL_law_567 : decode cL_law 567 = .ok (.iload_n 3, 1) := by decide +kernel
theorem dL_law_568 : decode cL_law 568 = .ok (.iconst 1, 1) := by decide +kernel
theorem dL_law_569 : decode cL_law 569 = .ok (.iadd, 1) := by decide +kernel
theorem dL_law_570 : decode cL_law 570 = .ok (.iaload, 1) := by decide +kernel
theorem dL_law_571 : decode cL_law 571 = .ok (.aload_n 0, 1) := by decide +kernel
theorem dL_law_572 : decode cL_law 572 = .ok (.iload_n 3, 1) := by decide +kernel
theorem dL_law_573 : decode cL_law 573 = .ok (.iconst 2, 1) := by decide +kernel
theorem dL_law_574 : decode cL_law 574 = .ok (.iadd, 1) := by decide +kernel
theorem dL_law_575 : decode cL_law 575 = .ok (.iaload, 1) := by decide +kernel
theorem dL_law_576 : decode cL_law 576 = .ok (.invokevirtual 70, 3) := by decide +kernel
theorem dL_law_579 : decode cL_law 579 = .ok (.aload_n 2, 1) := by decide +kernel
theorem dL_law_580 : decode cL_law 580 = .ok (.aload_n 0, 1) := by decide +kernel
theorem dL_law_581 : decode cL_law 581 = .ok (.iload_n 3, 1) := by decide +kernel
theorem dL_law_582 : decode cL_law 582 = .ok (.iconst 1, 1) := by decide +kernel
theorem dL_law_583 : decode cL_law 583 = .ok (.iadd, 1) := by decide +kernel
theorem dL_law_584 : decode cL_law 584 = .ok (.iaload, 1) := by decide +kernel
theorem dL_law_585 : decode cL_law 585 = .ok (.aload_n 0, 1) := by decide +kernel
theorem dL_law_586 : decode cL_law 586 = .ok (.iload_n 3, 1) := by decide +kernel
theorem dL_law_587 : decode cL_law 587 = .ok (.iconst 2, 1) := by decide +kernel
theorem dL_law_588 : decode cL_law 588 = .ok (.iadd, 1) := by decide +kernel
theorem dL_law_589 : decode cL_law 589 = .ok (.iaload, 1) := by decide +kernel
theorem dL_law_590 : decode cL_law 590 = .ok (.invokevirtual 73, 3) := by decide +kernel
theorem dL_law_593 : decode cL_law 593 = .ok (.if_icmp .eq 460, 3) := by decide +kernel
theorem dL_law_596 : decode cL_law 596 = .ok (.iconst 0, 1) := by decide +kernel
theorem dL_law_597 : decode cL_law 597 = .ok (.ireturn, 1) := by decide +kernel
theorem dL_law_598 : decode cL_law 598 = .ok (.aload_n 1, 1) := by decide +kernel
theorem dL_law_599 : decode cL_law 599 = .ok (.aload_n 0, 1) := by decide +kernel
theorem dL_law_600 : decode cL_law 600 = .ok (.iload_n 3, 1) := by decide +kernel
theorem dL_law_601 : decode cL_law 601 = .ok (.iconst 1, 1) := by decide +kernel
theorem dL_law_602 : decode cL_law 602 = .ok (.iadd, 1) := by decide +kernel
theorem dL_law_603 : decode cL_law 603 = .ok (.iaload, 1) := by decide +kernel
theorem dL_law_604 : decode cL_law 604 = .ok (.invokevirtual 74, 3) := by decide +kernel
theorem dL_law_607 : decode cL_law 607 = .ok (.aload_n 2, 1) := by decide +kernel
theorem dL_law_608 : decode cL_law 608 = .ok (.aload_n 0, 1) := by decide +kernel
theorem dL_law_609 : decode cL_law 609 = .ok (.iload_n 3, 1) := by decide +kernel
theorem dL_law_610 : decode cL_law 610 = .ok (.iconst 1, 1) := by decide +kernel
theorem dL_law_611 : decode cL_law 611 = .ok (.iadd, 1) := by decide +kernel
theorem dL_law_612 : decode cL_law 612 = .ok (.iaload, 1) := by decide +kernel
theorem dL_law_613 : decode cL_law 613 = .ok (.invokevirtual 78, 3) := by decide +kernel
theorem dL_law_616 : decode cL_law 616 = .ok (.lcmp, 1) := by decide +kernel
theorem dL_law_617 : decode cL_law 617 = .ok (.ifCond .eq 436, 3) := by decide +kernel
theorem dL_law_620 : decode cL_law 620 = .ok (.iconst 0, 1) := by decide +kernel
theorem dL_law_621 : decode cL_law 621 = .ok (.ireturn, 1) := by decide +kernel
theorem dL_law_622 : decode cL_law 622 = .ok (.aload_n 1, 1) := by decide +kernel
theorem dL_law_623 : decode cL_law 623 = .ok (.aload_n 0, 1) := by decide +kernel
theorem dL_law_624 : decode cL_law 624 = .ok (.iload_n 3, 1) := by decide +kernel
theorem dL_law_625 : decode cL_law 625 = .ok (.iconst 1, 1) := by decide +kernel
theorem dL_law_626 : decode cL_law 626 = .ok (.iadd, 1) := by decide +kernel
theorem dL_law_627 : decode cL_law 627 = .ok (.iaload, 1) := by decide +kernel
theorem dL_law_628 : decode cL_law 628 = .ok (.invokevirtual 79, 3) := by decide +kernel
theorem dL_law_631 : decode cL_law 631 = .ok (.aload_n 2, 1) := by decide +kernel
theorem dL_law_632 : decode cL_law 632 = .ok (.aload_n 0, 1) := by decide +kernel
theorem dL_law_633 : decode cL_law 633 = .ok (.iload_n 3, 1) := by decide +kernel
theorem dL_law_634 : decode cL_law 634 = .ok (.iconst 1, 1) := by decide +kernel
theorem dL_law_635 : decode cL_law 635 = .ok (.iadd, 1) := by decide +kernel
theorem dL_law_636 : decode cL_law 636 = .ok (.iaload, 1) := by decide +kernel
theorem dL_law_637 : decode cL_law 637 = .ok (.invokevirtual 82, 3) := by decide +kernel
theorem dL_law_640 : decode cL_law 640 = .ok (.if_icmp .eq 413, 3) := by decide +kernel
theorem dL_law_643 : decode cL_law 643 = .ok (.iconst 0, 1) := by decide +kernel
theorem dL_law_644 : decode cL_law 644 = .ok (.ireturn, 1) := by decide +kernel
theorem dL_law_645 : decode cL_law 645 = .ok (.aload_n 1, 1) := by decide +kernel
theorem dL_law_646 : decode cL_law 646 = .ok (.aload_n 0, 1) := by decide +kernel
theorem dL_law_647 : decode cL_law 647 = .ok (.iload_n 3, 1) := by decide +kernel
theorem dL_law_648 : decode cL_law 648 = .ok (.iconst 1, 1) := by decide +kernel
theorem dL_law_649 : decode cL_law 649 = .ok (.iadd, 1) := by decide +kernel
theorem dL_law_650 : decode cL_law 650 = .ok (.iaload, 1) := by decide +kernel
theorem dL_law_651 : decode cL_law 651 = .ok (.aload_n 0, 1) := by decide +kernel
theorem dL_law_652 : decode cL_law 652 = .ok (.iload_n 3, 1) := by decide +kernel
theorem dL_law_653 : decode cL_law 653 = .ok (.iconst 2, 1) := by decide +kernel
theorem dL_law_654 : decode cL_law 654 = .ok (.iadd, 1) := by decide +kernel
theorem dL_law_655 : decode cL_law 655 = .ok (.iaload, 1) := by decide +kernel
theorem dL_law_656 : decode cL_law 656 = .ok (.invokevirtual 83, 3) := by decide +kernel
theorem dL_law_659 : decode cL_law 659 = .ok (.aload_n 2, 1) := by decide +kernel
theorem dL_law_660 : decode cL_law 660 = .ok (.aload_n 0, 1) := by decide +kernel
theorem dL_law_661 : decode cL_law 661 = .ok (.iload_n 3, 1) := by decide +kernel
theorem dL_law_662 : decode cL_law 662 = .ok (.iconst 1, 1) := by decide +kernel
theorem dL_law_663 : decode cL_law 663 = .ok (.iadd, 1) := by decide +kernel
theorem dL_law_664 : decode cL_law 664 = .ok (.iaload, 1) := by decide +kernel
theorem dL_law_665 : decode cL_law 665 = .ok (.aload_n 0, 1) := by decide +kernel
theorem dL_law_666 : decode cL_law 666 = .ok (.iload_n 3, 1) := by decide +kernel
theorem dL_law_667 : decode cL_law 667 = .ok (.iconst 2, 1) := by decide +kernel
theorem dL_law_668 : decode cL_law 668 = .ok (.iadd, 1) := by decide +kernel
theorem dL_law_669 : decode cL_law 669 = .ok (.iaload, 1) := by decide +kernel
theorem dL_law_670 : decode cL_law 670 = .ok (.invokevirtual 86, 3) := by decide +kernel
theorem dL_law_673 : decode cL_law 673 = .ok (.if_icmp .eq 380, 3) := by decide +kernel
theorem dL_law_676 : decode cL_law 676 = .ok (.iconst 0, 1) := by decide +kernel
theorem dL_law_677 : decode cL_law 677 = .ok (.ireturn, 1) := by decide +kernel
theorem dL_law_678 : decode cL_law 678 = .ok (.aload_n 1, 1) := by decide +kernel
theorem dL_law_679 : decode cL_law 679 = .ok (.aload_n 0, 1) := by decide +kernel
theorem dL_law_680 : decode cL_law 680 = .ok (.iload_n 3, 1) := by decide +kernel
theorem dL_law_681 : decode cL_law 681 = .ok (.iconst 1, 1) := by decide +kernel
theorem dL_law_682 : decode cL_law 682 = .ok (.iadd, 1) := by decide +kernel
theorem dL_law_683 : decode cL_law 683 = .ok (.iaload, 1) := by decide +kernel
theorem dL_law_684 : decode cL_law 684 = .ok (.invokevirtual 87, 3) := by decide +kernel
theorem dL_law_687 : decode cL_law 687 = .ok (.aload_n 2, 1) := by decide +kernel
theorem dL_law_688 : decode cL_law 688 = .ok (.aload_n 0, 1) := by decide +kernel
theorem dL_law_689 : decode cL_law 689 = .ok (.iload_n 3, 1) := by decide +kernel
theorem dL_law_690 : decode cL_law 690 = .ok (.iconst 1, 1) := by decide +kernel
theorem dL_law_691 : decode cL_law 691 = .ok (.iadd, 1) := by decide +kernel
theorem dL_law_692 : decode cL_law 692 = .ok (.iaload, 1) := by decide +kernel
theorem dL_law_693 : decode cL_law 693 = .ok (.invokevirtual 90, 3) := by decide +kernel
theorem dL_law_696 : decode cL_law 696 = .ok (.if_icmp .eq 357, 3) := by decide +kernel
theorem dL_law_699 : decode cL_law 699 = .ok (.iconst 0, 1) := by decide +kernel
theorem dL_law_700 : decode cL_law 700 = .ok (.ireturn, 1) := by decide +kernel
theorem dL_law_701 : decode cL_law 701 = .ok (.aload_n 1, 1) := by decide +kernel
theorem dL_law_702 : decode cL_law 702 = .ok (.aload_n 0, 1) := by decide +kernel
theorem dL_law_703 : decode cL_law 703 = .ok (.iload_n 3, 1) := by decide +kernel
theorem dL_law_704 : decode cL_law 704 = .ok (.iconst 1, 1) := by decide +kernel
theorem dL_law_705 : decode cL_law 705 = .ok (.iadd, 1) := by decide +kernel
theorem dL_law_706 : decode cL_law 706 = .ok (.iaload, 1) := by decide +kernel
theorem dL_law_707 : decode cL_law 707 = .ok (.invokevirtual 91, 3) := by decide +kernel
theorem dL_law_710 : decode cL_law 710 = .ok (.aload_n 2, 1) := by decide +kernel
theorem dL_law_711 : decode cL_law 711 = .ok (.aload_n 0, 1) := by decide +kernel
theorem dL_law_712 : decode cL_law 712 = .ok (.iload_n 3, 1) := by decide +kernel
theorem dL_law_713 : decode cL_law 713 = .ok (.iconst 1, 1) := by decide +kernel
theorem dL_law_714 : decode cL_law 714 = .ok (.iadd, 1) := by decide +kernel
theorem dL_law_715 : decode cL_law 715 = .ok (.iaload, 1) := by decide +kernel
theorem dL_law_716 : decode cL_law 716 = .ok (.invokevirtual 94, 3) := by decide +kernel
theorem dL_law_719 : decode cL_law 719 = .ok (.if_icmp .eq 334, 3) := by decide +kernel
theorem dL_law_722 : decode cL_law 722 = .ok (.iconst 0, 1) := by decide +kernel
theorem dL_law_723 : decode cL_law 723 = .ok (.ireturn, 1) := by decide +kernel
theorem dL_law_724 : decode cL_law 724 = .ok (.aload_n 1, 1) := by decide +kernel
theorem dL_law_725 : decode cL_law 725 = .ok (.aload_n 0, 1) := by decide +kernel
theorem dL_law_726 : decode cL_law 726 = .ok (.iload_n 3, 1) := by decide +kernel
theorem dL_law_727 : decode cL_law 727 = .ok (.iconst 1, 1) := by decide +kernel
theorem dL_law_728 : decode cL_law 728 = .ok (.iadd, 1) := by decide +kernel
theorem dL_law_729 : decode cL_law 729 = .ok (.iaload, 1) := by decide +kernel
theorem dL_law_730 : decode cL_law 730 = .ok (.aload_n 0, 1) := by decide +kernel
theorem dL_law_731 : decode cL_law 731 = .ok (.iload_n 3, 1) := by decide +kernel
theorem dL_law_732 : decode cL_law 732 = .ok (.iconst 2, 1) := by decide +kernel
theorem dL_law_733 : decode cL_law 733 = .ok (.iadd, 1) := by decide +kernel
theorem dL_law_734 : decode cL_law 734 = .ok (.iaload, 1) := by decide +kernel
theorem dL_law_735 : decode cL_law 735 = .ok (.invokevirtual 95, 3) := by decide +kernel
theorem dL_law_738 : decode cL_law 738 = .ok (.aload_n 2, 1) := by decide +kernel
theorem dL_law_739 : decode cL_law 739 = .ok (.aload_n 0, 1) := by decide +kernel
theorem dL_law_740 : decode cL_law 740 = .ok (.iload_n 3, 1) := by decide +kernel
theorem dL_law_741 : decode cL_law 741 = .ok (.iconst 1, 1) := by decide +kernel
theorem dL_law_742 : decode cL_law 742 = .ok (.iadd, 1) := by decide +kernel
theorem dL_law_743 : decode cL_law 743 = .ok (.iaload, 1) := by decide +kernel
theorem dL_law_744 : decode cL_law 744 = .ok (.aload_n 0, 1) := by decide +kernel
theorem dL_law_745 : decode cL_law 745 = .ok (.iload_n 3, 1) := by decide +kernel
theorem dL_law_746 : decode cL_law 746 = .ok (.iconst 2, 1) := by decide +kernel
theorem dL_law_747 : decode cL_law 747 = .ok (.iadd, 1) := by decide +kernel
theorem dL_law_748 : decode cL_law 748 = .ok (.iaload, 1) := by decide +kernel
theorem dL_law_749 : decode cL_law 749 = .ok (.invokevirtual 98, 3) := by decide +kernel
theorem dL_law_752 : decode cL_law 752 = .ok (.if_icmp .eq 301, 3) := by decide +kernel
theorem dL_law_755 : decode cL_law 755 = .ok (.iconst 0, 1) := by decide +kernel
theorem dL_law_756 : decode cL_law 756 = .ok (.ireturn, 1) := by decide +kernel
theorem dL_law_757 : decode cL_law 757 = .ok (.aload_n 1, 1) := by decide +kernel
theorem dL_law_758 : decode cL_law 758 = .ok (.aload_n 0, 1) := by decide +kernel
theorem dL_law_759 : decode cL_law 759 = .ok (.iload_n 3, 1) := by decide +kernel
theorem dL_law_760 : decode cL_law 760 = .ok (.iconst 1, 1) := by decide +kernel
theorem dL_law_761 : decode cL_law 761 = .ok (.iadd, 1) := by decide +kernel
theorem dL_law_762 : decode cL_law 762 = .ok (.iaload, 1) := by decide +kernel
theorem dL_law_763 : decode cL_law 763 = .ok (.aload_n 0, 1) := by decide +kernel
theorem dL_law_764 : decode cL_law 764 = .ok (.iload_n 3, 1) := by decide +kernel
theorem dL_law_765 : decode cL_law 765 = .ok (.iconst 2, 1) := by decide +kernel
theorem dL_law_766 : decode cL_law 766 = .ok (.iadd, 1) := by decide +kernel
theorem dL_law_767 : decode cL_law 767 = .ok (.iaload, 1) := by decide +kernel
theorem dL_law_768 : decode cL_law 768 = .ok (.aload_n 0, 1) := by decide +kernel
theorem dL_law_769 : decode cL_law 769 = .ok (.iload_n 3, 1) := by decide +kernel
theorem dL_law_770 : decode cL_law 770 = .ok (.iconst 3, 1) := by decide +kernel
theorem dL_law_771 : decode cL_law 771 = .ok (.iadd, 1) := by decide +kernel
theorem dL_law_772 : decode cL_law 772 = .ok (.iaload, 1) := by decide +kernel
theorem dL_law_773 : decode cL_law 773 = .ok (.invokevirtual 99, 3) := by decide +kernel
theorem dL_law_776 : decode cL_law 776 = .ok (.aload_n 2, 1) := by decide +kernel
theorem dL_law_777 : decode cL_law 777 = .ok (.aload_n 0, 1) := by decide +kernel
theorem dL_law_778 : decode cL_law 778 = .ok (.iload_n 3, 1) := by decide +kernel
theorem dL_law_779 : decode cL_law 779 = .ok (.iconst 1, 1) := by decide +kernel
theorem dL_law_780 : decode cL_law 780 = .ok (.iadd, 1) := by decide +kernel
theorem dL_law_781 : decode cL_law 781 = .ok (.iaload, 1) := by decide +kernel
theorem dL_law_782 : decode cL_law 782 = .ok (.aload_n 0, 1) := by decide +kernel
theorem dL_law_783 : decode cL_law 783 = .ok (.iload_n 3, 1) := by decide +kernel
theorem dL_law_784 : decode cL_law 784 = .ok (.iconst 2, 1) := by decide +kernel
theorem dL_law_785 : decode cL_law 785 = .ok (.iadd, 1) := by decide +kernel
theorem dL_law_786 : decode cL_law 786 = .ok (.iaload, 1) := by decide +kernel
theorem dL_law_787 : decode cL_law 787 = .ok (.aload_n 0, 1) := by decide +kernel
theorem dL_law_788 : decode cL_law 788 = .ok (.iload_n 3, 1) := by decide +kernel
theorem dL_law_789 : decode cL_law 789 = .ok (.iconst 3, 1) := by decide +kernel
theorem dL_law_790 : decode cL_law 790 = .ok (.iadd, 1) := by decide +kernel
theorem dL_law_791 : decode cL_law 791 = .ok (.iaload, 1) := by decide +kernel
theorem dL_law_792 : decode cL_law 792 = .ok (.invokevirtual 102, 3) := by decide +kernel
theorem dL_law_795 : decode cL_law 795 = .ok (.if_icmp .eq 258, 3) := by decide +kernel
theorem dL_law_798 : decode cL_law 798 = .ok (.iconst 0, 1) := by decide +kernel
theorem dL_law_799 : decode cL_law 799 = .ok (.ireturn, 1) := by decide +kernel
theorem dL_law_800 : decode cL_law 800 = .ok (.aload_n 1, 1) := by decide +kernel
theorem dL_law_801 : decode cL_law 801 = .ok (.aload_n 0, 1) := by decide +kernel
theorem dL_law_802 : decode cL_law 802 = .ok (.iload_n 3, 1) := by decide +kernel
theorem dL_law_803 : decode cL_law 803 = .ok (.iconst 1, 1) := by decide +kernel
theorem dL_law_804 : decode cL_law 804 = .ok (.iadd, 1) := by decide +kernel
theorem dL_law_805 : decode cL_law 805 = .ok (.iaload, 1) := by decide +kernel
theorem dL_law_806 : decode cL_law 806 = .ok (.aload_n 0, 1) := by decide +kernel
theorem dL_law_807 : decode cL_law 807 = .ok (.iload_n 3, 1) := by decide +kernel
theorem dL_law_808 : decode cL_law 808 = .ok (.iconst 2, 1) := by decide +kernel
theorem dL_law_809 : decode cL_law 809 = .ok (.iadd, 1) := by decide +kernel
theorem dL_law_810 : decode cL_law 810 = .ok (.iaload, 1) := by decide +kernel
theorem dL_law_811 : decode cL_law 811 = .ok (.invokevirtual 103, 3) := by decide +kernel
theorem dL_law_814 : decode cL_law 814 = .ok (.aload_n 2, 1) := by decide +kernel
theorem dL_law_815 : decode cL_law 815 = .ok (.aload_n 0, 1) := by decide +kernel
theorem dL_law_816 : decode cL_law 816 = .ok (.iload_n 3, 1) := by decide +kernel
theorem dL_law_817 : decode cL_law 817 = .ok (.iconst 1, 1) := by decide +kernel
theorem dL_law_818 : decode cL_law 818 = .ok (.iadd, 1) := by decide +kernel
theorem dL_law_819 : decode cL_law 819 = .ok (.iaload, 1) := by decide +kernel
theorem dL_law_820 : decode cL_law 820 = .ok (.aload_n 0, 1) := by decide +kernel
theorem dL_law_821 : decode cL_law 821 = .ok (.iload_n 3, 1) := by decide +kernel
theorem dL_law_822 : decode cL_law 822 = .ok (.iconst 2, 1) := by decide +kernel
theorem dL_law_823 : decode cL_law 823 = .ok (.iadd, 1) := by decide +kernel
theorem dL_law_824 : decode cL_law 824 = .ok (.iaload, 1) := by decide +kernel
theorem dL_law_825 : decode cL_law 825 = .ok (.invokevirtual 106, 3) := by decide +kernel
theorem dL_law_828 : decode cL_law 828 = .ok (.if_icmp .eq 225, 3) := by decide +kernel
theorem dL_law_831 : decode cL_law 831 = .ok (.iconst 0, 1) := by decide +kernel
theorem dL_law_832 : decode cL_law 832 = .ok (.ireturn, 1) := by decide +kernel
theorem dL_law_833 : decode cL_law 833 = .ok (.aload_n 1, 1) := by decide +kernel
theorem dL_law_834 : decode cL_law 834 = .ok (.aload_n 0, 1) := by decide +kernel
theorem dL_law_835 : decode cL_law 835 = .ok (.iload_n 3, 1) := by decide +kernel
theorem dL_law_836 : decode cL_law 836 = .ok (.iconst 1, 1) := by decide +kernel
theorem dL_law_837 : decode cL_law 837 = .ok (.iadd, 1) := by decide +kernel
theorem dL_law_838 : decode cL_law 838 = .ok (.iaload, 1) := by decide +kernel
theorem dL_law_839 : decode cL_law 839 = .ok (.invokevirtual 107, 3) := by decide +kernel
theorem dL_law_842 : decode cL_law 842 = .ok (.aload_n 2, 1) := by decide +kernel
theorem dL_law_843 : decode cL_law 843 = .ok (.aload_n 0, 1) := by decide +kernel
theorem dL_law_844 : decode cL_law 844 = .ok (.iload_n 3, 1) := by decide +kernel
theorem dL_law_845 : decode cL_law 845 = .ok (.iconst 1, 1) := by decide +kernel
theorem dL_law_846 : decode cL_law 846 = .ok (.iadd, 1) := by decide +kernel
theorem dL_law_847 : decode cL_law 847 = .ok (.iaload, 1) := by decide +kernel
theorem dL_law_848 : decode cL_law 848 = .ok (.invokevirtual 110, 3) := by decide +kernel
theorem dL_law_851 : decode cL_law 851 = .ok (.if_icmp .eq 202, 3) := by decide +kernel
theorem dL_law_854 : decode cL_law 854 = .ok (.iconst 0, 1) := by decide +kernel
theorem dL_law_855 : decode cL_law 855 = .ok (.ireturn, 1) := by decide +kernel
theorem dL_law_856 : decode cL_law 856 = .ok (.aload_n 1, 1) := by decide +kernel
theorem dL_law_857 : decode cL_law 857 = .ok (.aload_n 0, 1) := by decide +kernel
theorem dL_law_858 : decode cL_law 858 = .ok (.iload_n 3, 1) := by decide +kernel
theorem dL_law_859 : decode cL_law 859 = .ok (.iconst 1, 1) := by decide +kernel
theorem dL_law_860 : decode cL_law 860 = .ok (.iadd, 1) := by decide +kernel
theorem dL_law_861 : decode cL_law 861 = .ok (.iaload, 1) := by decide +kernel
theorem dL_law_862 : decode cL_law 862 = .ok (.invokevirtual 111, 3) := by decide +kernel
theorem dL_law_865 : decode cL_law 865 = .ok (.aload_n 2, 1) := by decide +kernel
theorem dL_law_866 : decode cL_law 866 = .ok (.aload_n 0, 1) := by decide +kernel
theorem dL_law_867 : decode cL_law 867 = .ok (.iload_n 3, 1) := by decide +kernel
theorem dL_law_868 : decode cL_law 868 = .ok (.iconst 1, 1) := by decide +kernel
theorem dL_law_869 : decode cL_law 869 = .ok (.iadd, 1) := by decide +kernel
theorem dL_law_870 : decode cL_law 870 = .ok (.iaload, 1) := by decide +kernel
theorem dL_law_871 : decode cL_law 871 = .ok (.invokevirtual 114, 3) := by decide +kernel
theorem dL_law_874 : decode cL_law 874 = .ok (.if_icmp .eq 179, 3) := by decide +kernel
theorem dL_law_877 : decode cL_law 877 = .ok (.iconst 0, 1) := by decide +kernel
theorem dL_law_878 : decode cL_law 878 = .ok (.ireturn, 1) := by decide +kernel
theorem dL_law_879 : decode cL_law 879 = .ok (.aload_n 1, 1) := by decide +kernel
theorem dL_law_880 : decode cL_law 880 = .ok (.aload_n 0, 1) := by decide +kernel
theorem dL_law_881 : decode cL_law 881 = .ok (.iload_n 3, 1) := by decide +kernel
theorem dL_law_882 : decode cL_law 882 = .ok (.iconst 1, 1) := by decide +kernel
theorem dL_law_883 : decode cL_law 883 = .ok (.iadd, 1) := by decide +kernel
theorem dL_law_884 : decode cL_law 884 = .ok (.iaload, 1) := by decide +kernel
theorem dL_law_885 : decode cL_law 885 = .ok (.invokevirtual 115, 3) := by decide +kernel
theorem dL_law_888 : decode cL_law 888 = .ok (.aload_n 2, 1) := by decide +kernel
theorem dL_law_889 : decode cL_law 889 = .ok (.aload_n 0, 1) := by decide +kernel
theorem dL_law_890 : decode cL_law 890 = .ok (.iload_n 3, 1) := by decide +kernel
theorem dL_law_891 : decode cL_law 891 = .ok (.iconst 1, 1) := by decide +kernel
theorem dL_law_892 : decode cL_law 892 = .ok (.iadd, 1) := by decide +kernel
theorem dL_law_893 : decode cL_law 893 = .ok (.iaload, 1) := by decide +kernel
theorem dL_law_894 : decode cL_law 894 = .ok (.invokevirtual 118, 3) := by decide +kernel
theorem dL_law_897 : decode cL_law 897 = .ok (.if_icmp .eq 156, 3) := by decide +kernel
theorem dL_law_900 : decode cL_law 900 = .ok (.iconst 0, 1) := by decide +kernel
theorem dL_law_901 : decode cL_law 901 = .ok (.ireturn, 1) := by decide +kernel
theorem dL_law_902 : decode cL_law 902 = .ok (.aload_n 1, 1) := by decide +kernel
theorem dL_law_903 : decode cL_law 903 = .ok (.aload_n 0, 1) := by decide +kernel
theorem dL_law_904 : decode cL_law 904 = .ok (.iload_n 3, 1) := by decide +kernel
theorem dL_law_905 : decode cL_law 905 = .ok (.iconst 1, 1) := by decide +kernel
theorem dL_law_906 : decode cL_law 906 = .ok (.iadd, 1) := by decide +kernel
theorem dL_law_907 : decode cL_law 907 = .ok (.iaload, 1) := by decide +kernel
theorem dL_law_908 : decode cL_law 908 = .ok (.i2l, 1) := by decide +kernel
theorem dL_law_909 : decode cL_law 909 = .ok (.bipush 32, 2) := by decide +kernel
theorem dL_law_911 : decode cL_law 911 = .ok (.lshl, 1) := by decide +kernel
theorem dL_law_912 : decode cL_law 912 = .ok (.aload_n 0, 1) := by decide +kernel
theorem dL_law_913 : decode cL_law 913 = .ok (.iload_n 3, 1) := by decide +kernel
theorem dL_law_914 : decode cL_law 914 = .ok (.iconst 2, 1) := by decide +kernel
theorem dL_law_915 : decode cL_law 915 = .ok (.iadd, 1) := by decide +kernel
theorem dL_law_916 : decode cL_law 916 = .ok (.iaload, 1) := by decide +kernel
theorem dL_law_917 : decode cL_law 917 = .ok (.i2l, 1) := by decide +kernel
theorem dL_law_918 : decode cL_law 918 = .ok (.ldc2_w 119, 3) := by decide +kernel
theorem dL_law_921 : decode cL_law 921 = .ok (.land, 1) := by decide +kernel
theorem dL_law_922 : decode cL_law 922 = .ok (.lor, 1) := by decide +kernel
theorem dL_law_923 : decode cL_law 923 = .ok (.invokevirtual 121, 3) := by decide +kernel
theorem dL_law_926 : decode cL_law 926 = .ok (.aload_n 2, 1) := by decide +kernel
theorem dL_law_927 : decode cL_law 927 = .ok (.aload_n 0, 1) := by decide +kernel
theorem dL_law_928 : decode cL_law 928 = .ok (.iload_n 3, 1) := by decide +kernel
theorem dL_law_929 : decode cL_law 929 = .ok (.iconst 1, 1) := by decide +kernel
theorem dL_law_930 : decode cL_law 930 = .ok (.iadd, 1) := by decide +kernel
theorem dL_law_931 : decode cL_law 931 = .ok (.iaload, 1) := by decide +kernel
theorem dL_law_932 : decode cL_law 932 = .ok (.i2l, 1) := by decide +kernel
theorem dL_law_933 : decode cL_law 933 = .ok (.bipush 32, 2) := by decide +kernel
theorem dL_law_935 : decode cL_law 935 = .ok (.lshl, 1) := by decide +kernel
theorem dL_law_936 : decode cL_law 936 = .ok (.aload_n 0, 1) := by decide +kernel
theorem dL_law_937 : decode cL_law 937 = .ok (.iload_n 3, 1) := by decide +kernel
theorem dL_law_938 : decode cL_law 938 = .ok (.iconst 2, 1) := by decide +kernel
theorem dL_law_939 : decode cL_law 939 = .ok (.iadd, 1) := by decide +kernel
theorem dL_law_940 : decode cL_law 940 = .ok (.iaload, 1) := by decide +kernel
theorem dL_law_941 : decode cL_law 941 = .ok (.i2l, 1) := by decide +kernel
theorem dL_law_942 : decode cL_law 942 = .ok (.ldc2_w 119, 3) := by decide +kernel
theorem dL_law_945 : decode cL_law 945 = .ok (.land, 1) := by decide +kernel
theorem dL_law_946 : decode cL_law 946 = .ok (.lor, 1) := by decide +kernel
theorem dL_law_947 : decode cL_law 947 = .ok (.invokevirtual 125, 3) := by decide +kernel
theorem dL_law_950 : decode cL_law 950 = .ok (.if_icmp .eq 103, 3) := by decide +kernel
theorem dL_law_953 : decode cL_law 953 = .ok (.iconst 0, 1) := by decide +kernel
theorem dL_law_954 : decode cL_law 954 = .ok (.ireturn, 1) := by decide +kernel
theorem dL_law_955 : decode cL_law 955 = .ok (.aload_n 1, 1) := by decide +kernel
theorem dL_law_956 : decode cL_law 956 = .ok (.invokevirtual 126, 3) := by decide +kernel
theorem dL_law_959 : decode cL_law 959 = .ok (.aload_n 2, 1) := by decide +kernel
theorem dL_law_960 : decode cL_law 960 = .ok (.invokevirtual 129, 3) := by decide +kernel
theorem dL_law_963 : decode cL_law 963 = .ok (.if_icmp .eq 90, 3) := by decide +kernel
theorem dL_law_966 : decode cL_law 966 = .ok (.iconst 0, 1) := by decide +kernel
theorem dL_law_967 : decode cL_law 967 = .ok (.ireturn, 1) := by decide +kernel
theorem dL_law_968 : decode cL_law 968 = .ok (.aload_n 1, 1) := by decide +kernel
theorem dL_law_969 : decode cL_law 969 = .ok (.invokevirtual 130, 3) := by decide +kernel
theorem dL_law_972 : decode cL_law 972 = .ok (.aload_n 2, 1) := by decide +kernel
theorem dL_law_973 : decode cL_law 973 = .ok (.invokevirtual 133, 3) := by decide +kernel
theorem dL_law_976 : decode cL_law 976 = .ok (.if_icmp .eq 77, 3) := by decide +kernel
theorem dL_law_979 : decode cL_law 979 = .ok (.iconst 0, 1) := by decide +kernel
theorem dL_law_980 : decode cL_law 980 = .ok (.ireturn, 1) := by decide +kernel
theorem dL_law_981 : decode cL_law 981 = .ok (.aload_n 1, 1) := by decide +kernel
theorem dL_law_982 : decode cL_law 982 = .ok (.invokevirtual 134, 3) := by decide +kernel
theorem dL_law_985 : decode cL_law 985 = .ok (.aload_n 2, 1) := by decide +kernel
theorem dL_law_986 : decode cL_law 986 = .ok (.invokevirtual 137, 3) := by decide +kernel
theorem dL_law_989 : decode cL_law 989 = .ok (.if_icmp .eq 64, 3) := by decide +kernel
theorem dL_law_992 : decode cL_law 992 = .ok (.iconst 0, 1) := by decide +kernel
theorem dL_law_993 : decode cL_law 993 = .ok (.ireturn, 1) := by decide +kernel
theorem dL_law_994 : decode cL_law 994 = .ok (.aload_n 1, 1) := by decide +kernel
theorem dL_law_995 : decode cL_law 995 = .ok (.invokevirtual 138, 3) := by decide +kernel
theorem dL_law_998 : decode cL_law 998 = .ok (.aload_n 2, 1) := by decide +kernel
theorem dL_law_999 : decode cL_law 999 = .ok (.invokevirtual 141, 3) := by decide +kernel
theorem dL_law_1002 : decode cL_law 1002 = .ok (.if_icmp .eq 51, 3) := by decide +kernel
theorem dL_law_1005 : decode cL_law 1005 = .ok (.iconst 0, 1) := by decide +kernel
theorem dL_law_1006 : decode cL_law 1006 = .ok (.ireturn, 1) := by decide +kernel
theorem dL_law_1007 : decode cL_law 1007 = .ok (.aload_n 1, 1) := by decide +kernel
theorem dL_law_1008 : decode cL_law 1008 = .ok (.aload_n 0, 1) := by decide +kernel
theorem dL_law_1009 : decode cL_law 1009 = .ok (.iload_n 3, 1) := by decide +kernel
theorem dL_law_1010 : decode cL_law 1010 = .ok (.iconst 1, 1) := by decide +kernel
theorem dL_law_1011 : decode cL_law 1011 = .ok (.iadd, 1) := by decide +kernel
theorem dL_law_1012 : decode cL_law 1012 = .ok (.iaload, 1) := by decide +kernel
theorem dL_law_1013 : decode cL_law 1013 = .ok (.invokevirtual 142, 3) := by decide +kernel
theorem dL_law_1016 : decode cL_law 1016 = .ok (.aload_n 2, 1) := by decide +kernel
theorem dL_law_1017 : decode cL_law 1017 = .ok (.aload_n 0, 1) := by decide +kernel
theorem dL_law_1018 : decode cL_law 1018 = .ok (.iload_n 3, 1) := by decide +kernel
theorem dL_law_1019 : decode cL_law 1019 = .ok (.iconst 1, 1) := by decide +kernel
theorem dL_law_1020 : decode cL_law 1020 = .ok (.iadd, 1) := by decide +kernel
theorem dL_law_1021 : decode cL_law 1021 = .ok (.iaload, 1) := by decide +kernel
theorem dL_law_1022 : decode cL_law 1022 = .ok (.invokevirtual 145, 3) := by decide +kernel
theorem dL_law_1025 : decode cL_law 1025 = .ok (.if_icmp .eq 28, 3) := by decide +kernel
theorem dL_law_1028 : decode cL_law 1028 = .ok (.iconst 0, 1) := by decide +kernel
theorem dL_law_1029 : decode cL_law 1029 = .ok (.ireturn, 1) := by decide +kernel
theorem dL_law_1030 : decode cL_law 1030 = .ok (.aload_n 1, 1) := by decide +kernel
theorem dL_law_1031 : decode cL_law 1031 = .ok (.aload_n 0, 1) := by decide +kernel
theorem dL_law_1032 : decode cL_law 1032 = .ok (.iload_n 3, 1) := by decide +kernel
theorem dL_law_1033 : decode cL_law 1033 = .ok (.iconst 1, 1) := by decide +kernel
theorem dL_law_1034 : decode cL_law 1034 = .ok (.iadd, 1) := by decide +kernel
theorem dL_law_1035 : decode cL_law 1035 = .ok (.iaload, 1) := by decide +kernel
theorem dL_law_1036 : decode cL_law 1036 = .ok (.invokevirtual 146, 3) := by decide +kernel
theorem dL_law_1039 : decode cL_law 1039 = .ok (.aload_n 2, 1) := by decide +kernel
theorem dL_law_1040 : decode cL_law 1040 = .ok (.aload_n 0, 1) := by decide +kernel
theorem dL_law_1041 : decode cL_law 1041 = .ok (.iload_n 3, 1) := by decide +kernel
theorem dL_law_1042 : decode cL_law 1042 = .ok (.iconst 1, 1) := by decide +kernel
theorem dL_law_1043 : decode cL_law 1043 = .ok (.iadd, 1) := by decide +kernel
theorem dL_law_1044 : decode cL_law 1044 = .ok (.iaload, 1) := by decide +kernel
theorem dL_law_1045 : decode cL_law 1045 = .ok (.invokevirtual 149, 3) := by decide +kernel
theorem dL_law_1048 : decode cL_law 1048 = .ok (.if_icmp .eq 5, 3) := by decide +kernel
theorem dL_law_1051 : decode cL_law 1051 = .ok (.iconst 0, 1) := by decide +kernel
theorem dL_law_1052 : decode cL_law 1052 = .ok (.ireturn, 1) := by decide +kernel
theorem dL_law_1053 : decode cL_law 1053 = .ok (.iinc 3 6, 3) := by decide +kernel
theorem dL_law_1056 : decode cL_law 1056 = .ok (.goto (-1038), 3) := by decide +kernel
theorem dL_law_1059 : decode cL_law 1059 = .ok (.iconst 1, 1) := by decide +kernel
theorem dL_law_1060 : decode cL_law 1060 = .ok (.ireturn, 1) := by decide +kernel
end
section
/-! THE MACHINE AS A PREDICATE. A world is a function from addresses to cells; a method's proof speaks of a predicate P over
(place in the code, locals, operand stack, world, (heap size, cells made, slots made)), of which xM says that it is backed by the machine. -/
def iI (z : Int) : Int32 := Int32.ofInt z
def jJ (z : Int) : Int64 := Int64.ofInt z
abbrev iR (z : Int) : Prop := -2147483648 ≤ z ∧ z ≤ 2147483647
abbrev jR (z : Int) : Prop := -9223372036854775808 ≤ z ∧ z ≤ 9223372036854775807
theorem iI_toInt {z : Int} (h : iR z) : (iI z).toInt = z := Int32.toInt_ofInt_of_le (by have := h.1; omega) (by have := h.2; omega)
theorem iI_of (x : Int32) : iI x.toInt = x := Int32.ofInt_toInt x
theorem iR_of (x : Int32) : iR x.toInt := ⟨by have := Int32.le_toInt x; omega, by have := Int32.toInt_lt x; omega⟩
theorem iI_ex (x : Int32) : ∃ z, iR z ∧ x = iI z := ⟨x.toInt, iR_of x, (iI_of x).symm⟩
theorem iI_add (x y : Int) : iI x + iI y = iI (x + y) := (Int32.ofInt_add x y).symm
theorem iI_sub (x y : Int) : iI x - iI y = iI (x - y) := (Int32.ofInt_sub x y).symm
theorem iI_mul (x y : Int) : iI x * iI y = iI (x * y) := (Int32.ofInt_mul x y).symm
theorem iI_neg (x : Int) : -iI x = iI (-x) := (Int32.ofInt_neg x).symm
theorem iI_inj {x y : Int} (hx : iR x) (hy : iR y) : iI x = iI y ↔ x = y := by
  constructor
  · intro h
    have := congrArg Int32.toInt h
    rwa [iI_toInt hx, iI_toInt hy] at this
  · intro h; rw [h]
theorem iI_lt {x y : Int} (hx : iR x) (hy : iR y) : iI x < iI y ↔ x < y := by rw [Int32.lt_iff_toInt_lt, iI_toInt hx, iI_toInt hy]
theorem iI_le {x y : Int} (hx : iR x) (hy : iR y) : iI x ≤ iI y ↔ x ≤ y := by rw [Int32.le_iff_toInt_le, iI_toInt hx, iI_toInt hy]
theorem iI_nat (n : Nat) : Int32.ofNat n = iI n := by unfold iI; rw [Int32.ofInt_eq_ofNat]
theorem iI_clamp {z : Int} (h0 : 0 ≤ z) (h : z ≤ 2147483647) : (iI z).toNatClampNeg = z.toNat := by
  have h1 : (iI z).toNatClampNeg = (iI z).toInt.toNat := rfl
  rw [h1, iI_toInt ⟨by omega, h⟩]
theorem iI_in {z : Int} {n : Nat} (h0 : 0 ≤ z) (h : z < n) (hn : n ≤ 2147483647) : vp_in (iI z) n := by
  rw [vp_in_iff, iI_toInt ⟨by omega, by omega⟩]
  exact ⟨h0, h⟩
theorem iI_nn {z : Int} (h : 0 ≤ z) (h2 : z ≤ 2147483647) : ¬ iI z < 0 := by
  intro q
  rw [Int32.lt_iff_toInt_lt, iI_toInt ⟨by omega, h2⟩, Int32.toInt_zero] at q
  omega
theorem iI_div {x y : Int} (hx : 0 ≤ x) (hx2 : x ≤ 2147483647) (hy : 0 < y) (hy2 : y ≤ 2147483647) : iI x / iI y = iI (x / y) := by
  have e1 : iI x = nI x.toNat := by rw [show nI x.toNat = iI (x.toNat : Int) from iI_nat _]; congr 1; omega
  have e2 : iI y = nI y.toNat := by rw [show nI y.toNat = iI (y.toNat : Int) from iI_nat _]; congr 1; omega
  rw [e1, e2, pk_div (by omega) (by omega) (by omega), show nI (x.toNat / y.toNat) = iI ((x.toNat / y.toNat : Nat) : Int) from iI_nat _]
  congr 1
  rw [Int.natCast_ediv]
  congr 1 <;> omega
theorem jJ_toInt {z : Int} (h : jR z) : (jJ z).toInt = z := Int64.toInt_ofInt_of_le (by have := h.1; omega) (by have := h.2; omega)
theorem jJ_of (x : Int64) : jJ x.toInt = x := Int64.ofInt_toInt x
theorem jJ_add (x y : Int) : jJ x + jJ y = jJ (x + y) := (Int64.ofInt_add x y).symm
theorem jJ_sub (x y : Int) : jJ x - jJ y = jJ (x - y) := (Int64.ofInt_sub x y).symm
theorem jJ_mul (x y : Int) : jJ x * jJ y = jJ (x * y) := (Int64.ofInt_mul x y).symm
theorem iI_long {z : Int} (h : iR z) : (iI z).toInt64 = jJ z := by
  apply Int64.toInt_inj.mp
  rw [Int32.toInt_toInt64, iI_toInt h, jJ_toInt ⟨by omega, by omega⟩]
/-! worlds -/
abbrev Wd : Type := Nat → Option va_E
def wS (w : Wd) (q : Nat) (e : va_E) : Wd := fun x => if x = q then some e else w x
theorem wS_eq {w : Wd} {q : Nat} {e : va_E} : wS w q e q = some e := if_pos rfl
theorem wS_ne {w : Wd} {q x : Nat} {e : va_E} (h : x ≠ q) : wS w q e x = w x := if_neg h
/-- what stays the same all the time: the classes' numbers and slots, the array classes (int, long, char, boolean, Register), the first address that is ours, the static arrays -/
abbrev xG : Type := va_G × (Nat → ClassId) × Nat × (Nat → Nat)
def gA (G : xG) : Nat → Prop := fun q => G.2.2.1 ≤ q
def gT (G : xG) : List (ClassId × FieldType) := [(G.2.1 0, .int), (G.2.1 1, .long), (G.2.1 2, .char), (G.2.1 3, .boolean), (G.2.1 4, .object "RangeDeeds$Register")]
def gd_w : List Cond := lw_tbl.filter goodWord
def is_nest : Cond → Bool
  | .fieldLinkNest _ _ _ _ _ _ => true
  | .methodLinkNest _ _ _ _ => true
  | _ => false
def ns_w : List Cond := lw_tbl.filter is_nest
theorem gd_at {w : Cond} (i : Nat) (h : lw_tbl[i]? = some w) (g : goodWord w = true) : w ∈ gd_w := List.mem_filter.mpr ⟨List.mem_of_getElem? h, g⟩
theorem ns_at {w : Cond} (i : Nat) (h : lw_tbl[i]? = some w) (g : is_nest w = true) : w ∈ ns_w := List.mem_filter.mpr ⟨List.mem_of_getElem? h, g⟩
theorem gd_in {w : Cond} (h : w ∈ gd_w) : GoodIn gd_w (w :: gd_w) := by
  intro x hx
  have hm : x ∈ gd_w := by
    rcases List.mem_cons.mp hx with rfl | h1
    · exact h
    · exact h1
  exact ⟨hm, good_of_word (List.mem_filter.mp hm).2⟩
def sv_n : Nat → String
  | 0 => "FIRST_SETTING"
  | 1 => "LOWEST_SETTING"
  | _ => "HIGHEST_SETTING"
def sv_f (i : Nat) (j : Int) : Int := match i with
  | 0 => if j = 0 then 10 else if j = 1 then 25 else if j = 2 then 5 else if j = 3 then 1 else 10000
  | 1 => if j ≤ 2 then 0 else 1
  | _ => if j ≤ 2 then 1000 else if j = 3 then 100 else 10000
def gK (G : xG) (U : State) : Prop := va_K G.1 vwCl (gT G) U ∧ (∀ w ∈ ns_w, va_Nw w U) ∧ G.2.2.1 ≤ U.heap.size ∧ va_AO "RangeDeeds$Register" U ∧
  ∀ i : Nat, i < 3 → va_Z "RangeDeeds" (sv_n i) "[I" (.ref (G.2.2.2 i)) (gA G) U U.heap ∧ va_T .int (G.2.2.2 i) 5 (fun j => .int (iI (sv_f i j))) (gA G) U U.heap
def gH (G : xG) (w : Wd) (H : Heap) : Prop := ∀ (q : Nat) (e : va_E), w q = some e → va_at G.1 vwCl (q, e) H ∧ G.2.2.1 ≤ q
theorem ns_moved {s U : State} (hW : s.WarmedH U.vm) {w : Cond} (hw : w ∈ ns_w) (h : va_Nw w s) : va_Nw w U := by
  have hn := (List.mem_filter.mp hw).2
  cases w <;> first | exact va_Nw.warmF hW h | exact va_Nw.warmM hW h | cases hn
theorem gK_moved {G : xG} {s U : State} {locs : List Loc} (hW : s.WarmedH U.vm) (h : gK G s) (hS : va_S (gA G) s.heap U.heap locs) : gK G U := by
  obtain ⟨h1, h2, h3, h4, h5⟩ := h
  refine ⟨h1.moved hW.alike, fun w hw => ns_moved hW hw (h2 w hw), Nat.le_trans h3 hS.1, h4.moved hW.alike, fun i hi => ⟨?_, ?_⟩⟩
  · exact ((h5 i hi).1.kept hS.2.1).moved hW.alike
  · exact ((h5 i hi).2.kept hS.2.1).moved hW.alike
theorem gK_calling {G : xG} {U : State} {g : JFrame} {mk : MethodId} {a : Array Value} (h : gK G U) : gK G (U.calling g mk a) := by
  obtain ⟨h1, h2, h3, h4, h5⟩ := h
  refine ⟨va_K.moved (u := U) (U := U.calling g mk a) (Vm.Alike.refl U.vm) h1, fun w hw => ?_, h3, va_AO.moved (u := U) (U := U.calling g mk a) (Vm.Alike.refl U.vm) h4, fun i hi => ⟨va_Z.moved (u := U) (U := U.calling g mk a) (Vm.Alike.refl U.vm) (h5 i hi).1, va_T.moved (u := U) (U := U.calling g mk a) (Vm.Alike.refl U.vm) (h5 i hi).2⟩⟩
  refine va_Nw.same (u := U) ?_ rfl (h2 w hw)
  have hn := (List.mem_filter.mp hw).2
  cases w <;> first | rfl | cases hn
theorem gH_of {G : xG} {w : Wd} {H : Heap} (h : gH G w H) {q : Nat} {e : va_E} (hq : w q = some e) : va_P G.1 vwCl [(q, e)] H := by
  intro k x hk
  match k, hk with
  | 0, hk => cases hk; exact (h q e hq).1
theorem gH_put {G : xG} {w : Wd} {H H1 : Heap} (h : gH G w H) {q : Nat} {e e0 : va_E} (hq : w q = some e0) (he : va_at G.1 vwCl (q, e) H1) (oq : ∀ x : Nat, x ≠ q → H1[x]? = H[x]?) : gH G (wS w q e) H1 := by
  intro x y hx
  by_cases hxq : x = q
  · subst hxq
    rw [wS_eq] at hx
    cases hx
    exact ⟨he, (h x e0 hq).2⟩
  · rw [wS_ne hxq] at hx
    exact ⟨(h x y hx).1.kept (oq x hxq), (h x y hx).2⟩
theorem gH_new {G : xG} {w : Wd} {H H1 : Heap} (h : gH G w H) {q : Nat} {e : va_E} (hz : H.size = q) (hb : G.2.2.1 ≤ q) (he : va_at G.1 vwCl (q, e) H1) (oq : ∀ x : Nat, x < q → H1[x]? = H[x]?) : gH G (wS w q e) H1 := by
  intro x y hx
  by_cases hxq : x = q
  · subst hxq
    rw [wS_eq] at hx
    cases hx
    exact ⟨he, hb⟩
  · rw [wS_ne hxq] at hx
    have hl := (h x y hx).1.lt
    exact ⟨(h x y hx).1.kept (oq x (by rw [← hz]; exact hl)), (h x y hx).2⟩
theorem gH_grow {G : xG} {w : Wd} {H : Heap} {b : Nat} (h : gH G w H) : gH G w H := h
/-! locals -/
def xp (ls : List (Option Value)) : List (Nat × Value) := (List.range ls.length).filterMap fun j => (ls[j]?).join.map fun v => (j, v)
theorem xp_mem {ls : List (Option Value)} {j : Nat} {v : Value} : (j, v) ∈ xp ls ↔ ls[j]? = some (some v) := by
  unfold xp
  rw [List.mem_filterMap]
  constructor
  · rintro ⟨i, hi, h⟩
    cases h1 : ls[i]? with
    | none => rw [h1] at h; cases h
    | some o =>
      cases o with
      | none => rw [h1] at h; cases h
      | some x =>
        rw [h1] at h
        cases h
        exact h1
  · intro h
    refine ⟨j, List.mem_range.mpr (List.getElem?_eq_some_iff.mp h).1, ?_⟩
    rw [h]
    rfl
def xL (lsA : Array Slot) (ls : List (Option Value)) : Prop := lv_has lsA ls.length (xp ls)
theorem xL_at {lsA : Array Slot} {ls : List (Option Value)} (h : xL lsA ls) {i : Nat} {v : Value} (hi : ls[i]? = some (some v)) : lsA[i]? = some (.val v) := h.2.2 (i, v) (xp_mem.mpr hi)
/-- no long stands right before place i -/
def xS1 (ls : List (Option Value)) (i : Nat) : Bool := match i with
  | 0 => true
  | j + 1 => match ls[j]? with
    | some (some v) => v.category != 2
    | _ => true
theorem xL_set {lsA : Array Slot} {ls ls' : List (Option Value)} {i : Nat} {v : Value} (hc : xS1 ls i = true) (hi : i < ls.length) (hls : ls.set i (some v) = ls') (h : lv_has lsA ls.length ((i, v) :: (xp ls).filter (fun q => !(q.1 == i) && !(q.1 + 1 == i && q.2.category == 2)))) : xL lsA ls' := by
  subst hls
  obtain ⟨h1, h2, h3⟩ := h
  refine ⟨by rw [List.length_set]; exact h1, h2, fun q hq => ?_⟩
  obtain ⟨j, x⟩ := q
  have hj := xp_mem.mp hq
  by_cases hji : j = i
  · subst hji
    rw [List.getElem?_set_self hi] at hj
    cases hj
    exact h3 _ List.mem_cons_self
  · rw [List.getElem?_set_ne (Ne.symm hji)] at hj
    refine h3 (j, x) (List.mem_cons_of_mem _ (List.mem_filter.mpr ⟨xp_mem.mpr hj, ?_⟩))
    have hb : (j + 1 == i && x.category == 2) = false := by
      by_cases hj1 : j + 1 = i
      · subst hj1
        have hc2 : (x.category != 2) = true := by
          have h9 : xS1 ls (j + 1) = (x.category != 2) := by simp [xS1, hj]
          rw [← h9]; exact hc
        have h8 : (x.category == 2) = false := by
          simp only [bne, Bool.not_eq_true'] at hc2
          exact hc2
        rw [h8, Bool.and_false]
      · have h8 : (j + 1 == i) = false := beq_eq_false_iff_ne.mpr hj1
        rw [h8, Bool.false_and]
    simp [hb, hji]
theorem xL_set2 {lsA : Array Slot} {ls ls' : List (Option Value)} {i : Nat} {v : Value} (hc : xS1 ls i = true) (hi : i + 1 < ls.length) (hls : (ls.set i (some v)).set (i + 1) none = ls') (h : lv_has lsA ls.length ((i, v) :: (xp ls).filter (fun q => !(q.1 == i) && (!(q.1 == i + 1) && !(q.1 + 1 == i && q.2.category == 2))))) : xL lsA ls' := by
  subst hls
  obtain ⟨h1, h2, h3⟩ := h
  refine ⟨by rw [List.length_set, List.length_set]; exact h1, h2, fun q hq => ?_⟩
  obtain ⟨j, x⟩ := q
  have hj := xp_mem.mp hq
  by_cases hji1 : j = i + 1
  · subst hji1
    rw [List.getElem?_set_self (by rw [List.length_set]; exact hi)] at hj
    cases hj
  · rw [List.getElem?_set_ne (Ne.symm hji1)] at hj
    by_cases hji : j = i
    · subst hji
      rw [List.getElem?_set_self (by omega)] at hj
      cases hj
      exact h3 _ List.mem_cons_self
    · rw [List.getElem?_set_ne (Ne.symm hji)] at hj
      refine h3 (j, x) (List.mem_cons_of_mem _ (List.mem_filter.mpr ⟨xp_mem.mpr hj, ?_⟩))
      have hb : (j + 1 == i && x.category == 2) = false := by
        by_cases hj1 : j + 1 = i
        · subst hj1
          have hc2 : (x.category != 2) = true := by
            have h9 : xS1 ls (j + 1) = (x.category != 2) := by simp [xS1, hj]
            rw [← h9]; exact hc
          have h8 : (x.category == 2) = false := by
            simp only [bne, Bool.not_eq_true'] at hc2
            exact hc2
          rw [h8, Bool.and_false]
        · have h8 : (j + 1 == i) = false := beq_eq_false_iff_ne.mpr hj1
          rw [h8, Bool.false_and]
      simp [hb, hji, hji1]
/-- a method's first locals -/
def xe (n : Nat) (vs : List Value) : List (Option Value) :=
  let l := vs.flatMap fun v => if v.category = 2 then [some v, none] else [some v]
  l ++ List.replicate (n - l.length) none
theorem xe_args : ∀ (vs : List Value) (i j : Nat) (v : Value), (vs.flatMap fun v => if v.category = 2 then [some v, none] else [some v])[j]? = some (some v) → (i + j, v) ∈ lv_args i vs
  | [], i, j, v, h => by simp at h
  | x :: vs, i, j, v, h => by
    rw [List.flatMap_cons] at h
    by_cases hc : x.category = 2
    · rw [if_pos hc] at h
      match j, h with
      | 0, h => simp at h; subst h; simp [lv_args]
      | 1, h => simp at h
      | j + 2, h =>
        have h' : (vs.flatMap fun v => if v.category = 2 then [some v, none] else [some v])[j]? = some (some v) := by simpa using h
        have := xe_args vs (i + 2) j v h'
        simp only [lv_args, hc, if_true]
        refine List.mem_cons_of_mem _ ?_
        rw [show i + (j + 2) = i + 2 + j by omega]
        exact this
    · rw [if_neg hc] at h
      match j, h with
      | 0, h => simp at h; subst h; simp [lv_args]
      | j + 1, h =>
        have h' : (vs.flatMap fun v => if v.category = 2 then [some v, none] else [some v])[j]? = some (some v) := by simpa using h
        have := xe_args vs (i + 1) j v h'
        simp only [lv_args, hc, if_false]
        refine List.mem_cons_of_mem _ ?_
        rw [show i + (j + 1) = i + 1 + j by omega]
        exact this
theorem xe_len (vs : List Value) : (vs.flatMap fun v => if v.category = 2 then [some v, none] else [some v]).length = (lg_sl vs).length := by
  induction vs with
  | nil => rfl
  | cons x vs ih =>
    unfold lg_sl at ih ⊢
    rw [List.flatMap_cons, List.flatMap_cons, List.length_append, List.length_append, ih]
    by_cases hc : x.category = 2 <;> simp [hc]
theorem xe_entry (vs : List Value) {n : Nat} (h : (lg_sl vs).length ≤ n) : xL ((lg_sl vs ++ List.replicate (n - (lg_sl vs).length) Slot.unset).toArray) (xe n vs) := by
  have e := lv_entry vs h
  have hl : (xe n vs).length = n := by
    simp only [xe, List.length_append, List.length_replicate, xe_len]
    omega
  refine ⟨by rw [hl]; exact e.1, e.2.1, fun q hq => e.2.2 q ?_⟩
  obtain ⟨j, v⟩ := q
  have hj := xp_mem.mp hq
  simp only [xe] at hj
  rw [List.getElem?_append] at hj
  split at hj
  · have := xe_args vs 0 j v hj
    rwa [Nat.zero_add] at this
  · rw [List.getElem?_replicate] at hj
    split at hj <;> cases hj
/-! the machine -/
abbrev xT : Type := Nat → List (Option Value) → List Value → Wd → Nat × Nat × Nat → Prop
def xM (own : String) (cc : ByteArray) (nL : Nat) (R : Room) (l : Launch) (G : xG) (ct : Bool) (P : xT) : Prop :=
  ∃ (p : Program) (e : Env) (s : State) (m : MethodId) (args : Array Value) (below : List Frame) (meth : Method) (c : Code) (Q : State → Prop),
    CallFix p m c cc nL s args gd_w own ∧ gK G s ∧ (ct = true → meth.name = "<init>") ∧
    P = fun pc ls st w a => ∀ (H : Heap) (locs : List Loc) (lsA : Array Slot), gH G w H → H.size = a.1 → va_S (gA G) s.heap H locs → xL lsA ls → ls.length = nL → W p l e R s m args below meth c H locs a.2.1 a.2.2 Q (F0 m pc lsA st)
section XR
variable {own : String} {cc : ByteArray} {nL : Nat} {R : Room} {l : Launch} {G : xG} {ct : Bool} {P : xT} {pc : Nat} {ls : List (Option Value)} {st : List Value} {w : Wd} {a : Nat × Nat × Nat}
theorem x_iconst (h : xM own cc nL R l G ct P) {n : Int} (d : decode cc pc = .ok (.iconst n, 1)) (k : P (pc + 1) ls (.int (iI n) :: st) w a) : P pc ls st w a := by
  obtain ⟨p, e, s, m, args, below, meth, c, Q, ⟨hx, hb, hml, hown, hts⟩, hK, hct, rfl⟩ := h
  intro H locs lsA h1 h2 h3 h4 h5
  exact lv_iconst hx hb d rfl (k H locs lsA h1 h2 h3 h4 h5)
theorem x_bipush (h : xM own cc nL R l G ct P) {n : Int} (d : decode cc pc = .ok (.bipush n, 2)) (hv : (Int8.ofInt n).toInt32 = iI n) (k : P (pc + 2) ls (.int (iI n) :: st) w a) : P pc ls st w a := by
  obtain ⟨p, e, s, m, args, below, meth, c, Q, ⟨hx, hb, hml, hown, hts⟩, hK, hct, rfl⟩ := h
  intro H locs lsA h1 h2 h3 h4 h5
  exact lv_bipush hx hb d hv (k H locs lsA h1 h2 h3 h4 h5)
theorem x_sipush (h : xM own cc nL R l G ct P) {n : Int} (d : decode cc pc = .ok (.sipush n, 3)) (hv : (Int16.ofInt n).toInt32 = iI n) (k : P (pc + 3) ls (.int (iI n) :: st) w a) : P pc ls st w a := by
  obtain ⟨p, e, s, m, args, below, meth, c, Q, ⟨hx, hb, hml, hown, hts⟩, hK, hct, rfl⟩ := h
  intro H locs lsA h1 h2 h3 h4 h5
  exact lv_sipush hx hb d hv (k H locs lsA h1 h2 h3 h4 h5)
theorem x_lconst (h : xM own cc nL R l G ct P) {n : Fin 2} {z : Int} (d : decode cc pc = .ok (.lconst n, 1)) (hv : Int64.ofNat (n : Nat) = jJ z) (k : P (pc + 1) ls (.long (jJ z) :: st) w a) : P pc ls st w a := by
  obtain ⟨p, e, s, m, args, below, meth, c, Q, ⟨hx, hb, hml, hown, hts⟩, hK, hct, rfl⟩ := h
  intro H locs lsA h1 h2 h3 h4 h5
  exact lv_lconst hx hb d hv (k H locs lsA h1 h2 h3 h4 h5)
theorem x_ldc (h : xM own cc nL R l G ct P) {i : Nat} {z : Int} (d : decode cc pc = .ok (.ldc i, 2)) (hw : Cond.constant own i (iI z) ∈ gd_w) (k : P (pc + 2) ls (.int (iI z) :: st) w a) : P pc ls st w a := by
  obtain ⟨p, e, s, m, args, below, meth, c, Q, ⟨hx, hb, hml, hown, hts⟩, hK, hct, rfl⟩ := h
  intro H locs lsA h1 h2 h3 h4 h5
  exact lv_ldc hx hb hown (hts _ hw) d (k H locs lsA h1 h2 h3 h4 h5)
theorem x_ldcw (h : xM own cc nL R l G ct P) {i : Nat} {z : Int} (d : decode cc pc = .ok (.ldc_w i, 3)) (hw : Cond.constant own i (iI z) ∈ gd_w) (k : P (pc + 3) ls (.int (iI z) :: st) w a) : P pc ls st w a := by
  obtain ⟨p, e, s, m, args, below, meth, c, Q, ⟨hx, hb, hml, hown, hts⟩, hK, hct, rfl⟩ := h
  intro H locs lsA h1 h2 h3 h4 h5
  exact lv_ldcw hx hb hown (hts _ hw) d (k H locs lsA h1 h2 h3 h4 h5)
theorem x_ldc2 (h : xM own cc nL R l G ct P) {i : Nat} {z : Int} (d : decode cc pc = .ok (.ldc2_w i, 3)) (hw : Cond.constantLong own i (jJ z) ∈ gd_w) (k : P (pc + 3) ls (.long (jJ z) :: st) w a) : P pc ls st w a := by
  obtain ⟨p, e, s, m, args, below, meth, c, Q, ⟨hx, hb, hml, hown, hts⟩, hK, hct, rfl⟩ := h
  intro H locs lsA h1 h2 h3 h4 h5
  exact lv_ldc2 hx hb hown (hts _ hw) d (k H locs lsA h1 h2 h3 h4 h5)
theorem x_null (h : xM own cc nL R l G ct P)  (d : decode cc pc = .ok (.aconst_null, 1)) (k : P (pc + 1) ls (.null :: st) w a) : P pc ls st w a := by
  obtain ⟨p, e, s, m, args, below, meth, c, Q, ⟨hx, hb, hml, hown, hts⟩, hK, hct, rfl⟩ := h
  intro H locs lsA h1 h2 h3 h4 h5
  exact lv_null hx hb d (k H locs lsA h1 h2 h3 h4 h5)
theorem x_iload_n (h : xM own cc nL R l G ct P) {k0 : Fin 4} {i : Nat} {x : Int32} (d : decode cc pc = .ok (.iload_n k0, 1)) (hi : (k0 : Nat) = i) (hl : ls[i]? = some (some (.int x))) (k : P (pc + 1) ls (.int x :: st) w a) : P pc ls st w a := by
  obtain ⟨p, e, s, m, args, below, meth, c, Q, ⟨hx, hb, hml, hown, hts⟩, hK, hct, rfl⟩ := h
  intro H locs lsA h1 h2 h3 h4 h5
  exact lv_iload_n hx hb d hi (xL_at h4 hl) (k H locs lsA h1 h2 h3 h4 h5)
theorem x_iload (h : xM own cc nL R l G ct P) {i : Nat} {x : Int32} (d : decode cc pc = .ok (.iload i, 2)) (hl : ls[i]? = some (some (.int x))) (k : P (pc + 2) ls (.int x :: st) w a) : P pc ls st w a := by
  obtain ⟨p, e, s, m, args, below, meth, c, Q, ⟨hx, hb, hml, hown, hts⟩, hK, hct, rfl⟩ := h
  intro H locs lsA h1 h2 h3 h4 h5
  exact lv_iload hx hb d (xL_at h4 hl) (k H locs lsA h1 h2 h3 h4 h5)
theorem x_lload_n (h : xM own cc nL R l G ct P) {k0 : Fin 4} {i : Nat} {x : Int64} (d : decode cc pc = .ok (.lload_n k0, 1)) (hi : (k0 : Nat) = i) (hl : ls[i]? = some (some (.long x))) (k : P (pc + 1) ls (.long x :: st) w a) : P pc ls st w a := by
  obtain ⟨p, e, s, m, args, below, meth, c, Q, ⟨hx, hb, hml, hown, hts⟩, hK, hct, rfl⟩ := h
  intro H locs lsA h1 h2 h3 h4 h5
  exact lv_lload_n hx hb d hi (xL_at h4 hl) (k H locs lsA h1 h2 h3 h4 h5)
theorem x_lload (h : xM own cc nL R l G ct P) {i : Nat} {x : Int64} (d : decode cc pc = .ok (.lload i, 2)) (hl : ls[i]? = some (some (.long x))) (k : P (pc + 2) ls (.long x :: st) w a) : P pc ls st w a := by
  obtain ⟨p, e, s, m, args, below, meth, c, Q, ⟨hx, hb, hml, hown, hts⟩, hK, hct, rfl⟩ := h
  intro H locs lsA h1 h2 h3 h4 h5
  exact lv_lload hx hb d (xL_at h4 hl) (k H locs lsA h1 h2 h3 h4 h5)
theorem x_aload_n (h : xM own cc nL R l G ct P) {k0 : Fin 4} {i : Nat} {x : Nat} (d : decode cc pc = .ok (.aload_n k0, 1)) (hi : (k0 : Nat) = i) (hl : ls[i]? = some (some (.ref x))) (k : P (pc + 1) ls (.ref x :: st) w a) : P pc ls st w a := by
  obtain ⟨p, e, s, m, args, below, meth, c, Q, ⟨hx, hb, hml, hown, hts⟩, hK, hct, rfl⟩ := h
  intro H locs lsA h1 h2 h3 h4 h5
  exact lv_aload_n hx hb d hi (xL_at h4 hl) (k H locs lsA h1 h2 h3 h4 h5)
theorem x_aload (h : xM own cc nL R l G ct P) {i : Nat} {x : Nat} (d : decode cc pc = .ok (.aload i, 2)) (hl : ls[i]? = some (some (.ref x))) (k : P (pc + 2) ls (.ref x :: st) w a) : P pc ls st w a := by
  obtain ⟨p, e, s, m, args, below, meth, c, Q, ⟨hx, hb, hml, hown, hts⟩, hK, hct, rfl⟩ := h
  intro H locs lsA h1 h2 h3 h4 h5
  exact lv_aload hx hb d (xL_at h4 hl) (k H locs lsA h1 h2 h3 h4 h5)
theorem x_aload_nN (h : xM own cc nL R l G ct P) {k0 : Fin 4} {i : Nat} (d : decode cc pc = .ok (.aload_n k0, 1)) (hi : (k0 : Nat) = i) (hl : ls[i]? = some (some .null)) (k : P (pc + 1) ls (.null :: st) w a) : P pc ls st w a := by
  obtain ⟨p, e, s, m, args, below, meth, c, Q, ⟨hx, hb, hml, hown, hts⟩, hK, hct, rfl⟩ := h
  intro H locs lsA h1 h2 h3 h4 h5
  exact lv_aload_nN hx hb d hi (xL_at h4 hl) (k H locs lsA h1 h2 h3 h4 h5)
theorem x_fload_n (h : xM own cc nL R l G ct P) {k0 : Fin 4} {i : Nat} {x : UInt32} (d : decode cc pc = .ok (.fload_n k0, 1)) (hi : (k0 : Nat) = i) (hl : ls[i]? = some (some (.float x))) (k : P (pc + 1) ls (.float x :: st) w a) : P pc ls st w a := by
  obtain ⟨p, e, s, m, args, below, meth, c, Q, ⟨hx, hb, hml, hown, hts⟩, hK, hct, rfl⟩ := h
  intro H locs lsA h1 h2 h3 h4 h5
  exact lv_fload_n hx hb d hi (xL_at h4 hl) (k H locs lsA h1 h2 h3 h4 h5)
theorem x_istore_n (h : xM own cc nL R l G ct P) {k0 : Fin 4} {i : Nat} {x : Int32} {ls2 : List (Option Value)} (d : decode cc pc = .ok (.istore_n k0, 1)) (hi : (k0 : Nat) = i) (hc : xS1 ls i = true) (hi2 : i < ls.length) (hl : ls.set i (some (.int x)) = ls2) (k : P (pc + 1) ls2 st w a) : P pc ls (.int x :: st) w a := by
  obtain ⟨p, e, s, m, args, below, meth, c, Q, ⟨hx, hb, hml, hown, hts⟩, hK, hct, rfl⟩ := h
  intro H locs lsA h1 h2 h3 h4 h5
  exact lv_istore_n hx hb d hi h4 hi2 rfl (fun lsB hB => k H locs lsB h1 h2 h3 (xL_set hc hi2 hl hB) (by rw [← hl, List.length_set]; exact h5))
theorem x_istore (h : xM own cc nL R l G ct P) {i : Nat} {x : Int32} {ls2 : List (Option Value)} (d : decode cc pc = .ok (.istore i, 2)) (hc : xS1 ls i = true) (hi2 : i < ls.length) (hl : ls.set i (some (.int x)) = ls2) (k : P (pc + 2) ls2 st w a) : P pc ls (.int x :: st) w a := by
  obtain ⟨p, e, s, m, args, below, meth, c, Q, ⟨hx, hb, hml, hown, hts⟩, hK, hct, rfl⟩ := h
  intro H locs lsA h1 h2 h3 h4 h5
  exact lv_istore hx hb d h4 hi2 rfl (fun lsB hB => k H locs lsB h1 h2 h3 (xL_set hc hi2 hl hB) (by rw [← hl, List.length_set]; exact h5))
theorem x_astore_n (h : xM own cc nL R l G ct P) {k0 : Fin 4} {i : Nat} {x : Nat} {ls2 : List (Option Value)} (d : decode cc pc = .ok (.astore_n k0, 1)) (hi : (k0 : Nat) = i) (hc : xS1 ls i = true) (hi2 : i < ls.length) (hl : ls.set i (some (.ref x)) = ls2) (k : P (pc + 1) ls2 st w a) : P pc ls (.ref x :: st) w a := by
  obtain ⟨p, e, s, m, args, below, meth, c, Q, ⟨hx, hb, hml, hown, hts⟩, hK, hct, rfl⟩ := h
  intro H locs lsA h1 h2 h3 h4 h5
  exact lv_astore_n hx hb d hi h4 hi2 rfl (fun lsB hB => k H locs lsB h1 h2 h3 (xL_set hc hi2 hl hB) (by rw [← hl, List.length_set]; exact h5))
theorem x_astore (h : xM own cc nL R l G ct P) {i : Nat} {x : Nat} {ls2 : List (Option Value)} (d : decode cc pc = .ok (.astore i, 2)) (hc : xS1 ls i = true) (hi2 : i < ls.length) (hl : ls.set i (some (.ref x)) = ls2) (k : P (pc + 2) ls2 st w a) : P pc ls (.ref x :: st) w a := by
  obtain ⟨p, e, s, m, args, below, meth, c, Q, ⟨hx, hb, hml, hown, hts⟩, hK, hct, rfl⟩ := h
  intro H locs lsA h1 h2 h3 h4 h5
  exact lv_astore hx hb d h4 hi2 rfl (fun lsB hB => k H locs lsB h1 h2 h3 (xL_set hc hi2 hl hB) (by rw [← hl, List.length_set]; exact h5))
theorem x_astore_nN (h : xM own cc nL R l G ct P) {k0 : Fin 4} {i : Nat} {ls2 : List (Option Value)} (d : decode cc pc = .ok (.astore_n k0, 1)) (hi : (k0 : Nat) = i) (hc : xS1 ls i = true) (hi2 : i < ls.length) (hl : ls.set i (some .null) = ls2) (k : P (pc + 1) ls2 st w a) : P pc ls (.null :: st) w a := by
  obtain ⟨p, e, s, m, args, below, meth, c, Q, ⟨hx, hb, hml, hown, hts⟩, hK, hct, rfl⟩ := h
  intro H locs lsA h1 h2 h3 h4 h5
  exact lv_astore_nN hx hb d hi h4 hi2 rfl (fun lsB hB => k H locs lsB h1 h2 h3 (xL_set hc hi2 hl hB) (by rw [← hl, List.length_set]; exact h5))
theorem x_lstore_n (h : xM own cc nL R l G ct P) {k0 : Fin 4} {i : Nat} {x : Int64} {ls2 : List (Option Value)} (d : decode cc pc = .ok (.lstore_n k0, 1)) (hi : (k0 : Nat) = i) (hc : xS1 ls i = true) (hi2 : i + 1 < ls.length) (hl : (ls.set i (some (.long x))).set (i + 1) none = ls2) (k : P (pc + 1) ls2 st w a) : P pc ls (.long x :: st) w a := by
  obtain ⟨p, e, s, m, args, below, meth, c, Q, ⟨hx, hb, hml, hown, hts⟩, hK, hct, rfl⟩ := h
  intro H locs lsA h1 h2 h3 h4 h5
  exact lv_lstore_n hx hb d hi h4 hi2 rfl (fun lsB hB => k H locs lsB h1 h2 h3 (xL_set2 hc hi2 hl hB) (by rw [← hl, List.length_set, List.length_set]; exact h5))
theorem x_lstore (h : xM own cc nL R l G ct P) {i : Nat} {x : Int64} {ls2 : List (Option Value)} (d : decode cc pc = .ok (.lstore i, 2)) (hc : xS1 ls i = true) (hi2 : i + 1 < ls.length) (hl : (ls.set i (some (.long x))).set (i + 1) none = ls2) (k : P (pc + 2) ls2 st w a) : P pc ls (.long x :: st) w a := by
  obtain ⟨p, e, s, m, args, below, meth, c, Q, ⟨hx, hb, hml, hown, hts⟩, hK, hct, rfl⟩ := h
  intro H locs lsA h1 h2 h3 h4 h5
  exact lv_lstore hx hb d h4 hi2 rfl (fun lsB hB => k H locs lsB h1 h2 h3 (xL_set2 hc hi2 hl hB) (by rw [← hl, List.length_set, List.length_set]; exact h5))
theorem x_iinc (h : xM own cc nL R l G ct P) {i : Nat} {n : Int} {x : Int} {ls2 : List (Option Value)} (d : decode cc pc = .ok (.iinc i n, 3)) (hl0 : ls[i]? = some (some (.int (iI x)))) (hc : xS1 ls i = true) (hl : ls.set i (some (.int (iI (x + n)))) = ls2) (k : P (pc + 3) ls2 st w a) : P pc ls st w a := by
  obtain ⟨p, e, s, m, args, below, meth, c, Q, ⟨hx, hb, hml, hown, hts⟩, hK, hct, rfl⟩ := h
  intro H locs lsA h1 h2 h3 h4 h5
  have hi2 : i < ls.length := (List.getElem?_eq_some_iff.mp hl0).1
  obtain ⟨k1, hk1⟩ := List.getElem?_of_mem (xp_mem.mpr hl0)
  exact lv_iinc hx hb d h4 hk1 (v := iI (x + n)) (by rw [← iI_add]; rfl) hi2 rfl (fun lsB hB => k H locs lsB h1 h2 h3 (xL_set hc hi2 hl hB) (by rw [← hl, List.length_set]; exact h5))
theorem x_iadd (h : xM own cc nL R l G ct P) {x y : Int} (d : decode cc pc = .ok (.iadd, 1)) (k : P (pc + 1) ls (.int (iI (x + y)) :: st) w a) : P pc ls (.int (iI y) :: .int (iI x) :: st) w a := by
  obtain ⟨p, e, s, m, args, below, meth, c, Q, ⟨hx, hb, hml, hown, hts⟩, hK, hct, rfl⟩ := h
  intro H locs lsA h1 h2 h3 h4 h5
  exact lv_iadd hx hb d (by rw [iI_add]; exact k H locs lsA h1 h2 h3 h4 h5)
theorem x_isub (h : xM own cc nL R l G ct P) {x y : Int} (d : decode cc pc = .ok (.isub, 1)) (k : P (pc + 1) ls (.int (iI (x - y)) :: st) w a) : P pc ls (.int (iI y) :: .int (iI x) :: st) w a := by
  obtain ⟨p, e, s, m, args, below, meth, c, Q, ⟨hx, hb, hml, hown, hts⟩, hK, hct, rfl⟩ := h
  intro H locs lsA h1 h2 h3 h4 h5
  exact lv_isub hx hb d (by rw [iI_sub]; exact k H locs lsA h1 h2 h3 h4 h5)
theorem x_imul (h : xM own cc nL R l G ct P) {x y : Int} (d : decode cc pc = .ok (.imul, 1)) (k : P (pc + 1) ls (.int (iI (x * y)) :: st) w a) : P pc ls (.int (iI y) :: .int (iI x) :: st) w a := by
  obtain ⟨p, e, s, m, args, below, meth, c, Q, ⟨hx, hb, hml, hown, hts⟩, hK, hct, rfl⟩ := h
  intro H locs lsA h1 h2 h3 h4 h5
  exact lv_imul hx hb d (by rw [iI_mul]; exact k H locs lsA h1 h2 h3 h4 h5)
theorem x_ineg (h : xM own cc nL R l G ct P) {x : Int} (d : decode cc pc = .ok (.ineg, 1)) (k : P (pc + 1) ls (.int (iI (-x)) :: st) w a) : P pc ls (.int (iI x) :: st) w a := by
  obtain ⟨p, e, s, m, args, below, meth, c, Q, ⟨hx, hb, hml, hown, hts⟩, hK, hct, rfl⟩ := h
  intro H locs lsA h1 h2 h3 h4 h5
  exact lv_ineg hx hb d (by rw [iI_neg]; exact k H locs lsA h1 h2 h3 h4 h5)
theorem x_idiv (h : xM own cc nL R l G ct P) {x y : Int} (d : decode cc pc = .ok (.idiv, 1)) (hx0 : 0 ≤ x) (hx2 : x ≤ 2147483647) (hy : 0 < y) (hy2 : y ≤ 2147483647) (k : P (pc + 1) ls (.int (iI (x / y)) :: st) w a) : P pc ls (.int (iI y) :: .int (iI x) :: st) w a := by
  obtain ⟨p, e, s, m, args, below, meth, c, Q, ⟨hx, hb, hml, hown, hts⟩, hK, hct, rfl⟩ := h
  intro H locs lsA h1 h2 h3 h4 h5
  exact lv_idiv hx hb d (by intro q; have := congrArg Int32.toInt q; rw [iI_toInt ⟨by omega, hy2⟩, Int32.toInt_zero] at this; omega) (by rw [iI_div hx0 hx2 hy hy2]; exact k H locs lsA h1 h2 h3 h4 h5)
theorem x_iand (h : xM own cc nL R l G ct P) {x y : Int32} (d : decode cc pc = .ok (.iand, 1)) (k : P (pc + 1) ls (.int (x &&& y) :: st) w a) : P pc ls (.int y :: .int x :: st) w a := by
  obtain ⟨p, e, s, m, args, below, meth, c, Q, ⟨hx, hb, hml, hown, hts⟩, hK, hct, rfl⟩ := h
  intro H locs lsA h1 h2 h3 h4 h5
  exact lv_iand hx hb d (k H locs lsA h1 h2 h3 h4 h5)
theorem x_ior (h : xM own cc nL R l G ct P) {x y : Int32} (d : decode cc pc = .ok (.ior, 1)) (k : P (pc + 1) ls (.int (x ||| y) :: st) w a) : P pc ls (.int y :: .int x :: st) w a := by
  obtain ⟨p, e, s, m, args, below, meth, c, Q, ⟨hx, hb, hml, hown, hts⟩, hK, hct, rfl⟩ := h
  intro H locs lsA h1 h2 h3 h4 h5
  exact lv_ior hx hb d (k H locs lsA h1 h2 h3 h4 h5)
theorem x_iushr (h : xM own cc nL R l G ct P) {x : Int32} {y : Int32} {v : Int32} (d : decode cc pc = .ok (.iushr, 1)) (hv : (x.toUInt32 >>> (y.toUInt32 &&& Int32.toUInt32 31)).toInt32 = v) (k : P (pc + 1) ls (.int v :: st) w a) : P pc ls (.int y :: .int x :: st) w a := by
  obtain ⟨p, e, s, m, args, below, meth, c, Q, ⟨hx, hb, hml, hown, hts⟩, hK, hct, rfl⟩ := h
  intro H locs lsA h1 h2 h3 h4 h5
  exact lv_iushr hx hb d hv (k H locs lsA h1 h2 h3 h4 h5)
theorem x_lushr (h : xM own cc nL R l G ct P) {x : Int64} {y : Int32} {v : Int64} (d : decode cc pc = .ok (.lushr, 1)) (hv : (x.toUInt64 >>> (y.toInt64.toUInt64 &&& Int64.toUInt64 63)).toInt64 = v) (k : P (pc + 1) ls (.long v :: st) w a) : P pc ls (.int y :: .long x :: st) w a := by
  obtain ⟨p, e, s, m, args, below, meth, c, Q, ⟨hx, hb, hml, hown, hts⟩, hK, hct, rfl⟩ := h
  intro H locs lsA h1 h2 h3 h4 h5
  exact lv_lushr hx hb d hv (k H locs lsA h1 h2 h3 h4 h5)
theorem x_lshl (h : xM own cc nL R l G ct P) {x : Int64} {y : Int32} {v : Int64} (d : decode cc pc = .ok (.lshl, 1)) (hv : x <<< (y.toInt64 &&& 63) = v) (k : P (pc + 1) ls (.long v :: st) w a) : P pc ls (.int y :: .long x :: st) w a := by
  obtain ⟨p, e, s, m, args, below, meth, c, Q, ⟨hx, hb, hml, hown, hts⟩, hK, hct, rfl⟩ := h
  intro H locs lsA h1 h2 h3 h4 h5
  exact lv_lshl hx hb d hv (k H locs lsA h1 h2 h3 h4 h5)
theorem x_ishl (h : xM own cc nL R l G ct P) {x y v : Int32} (d : decode cc pc = .ok (.ishl, 1)) (hv : x <<< (y &&& 31) = v) (k : P (pc + 1) ls (.int v :: st) w a) : P pc ls (.int y :: .int x :: st) w a := by
  obtain ⟨p, e, s, m, args, below, meth, c, Q, ⟨hx, hb, hml, hown, hts⟩, hK, hct, rfl⟩ := h
  intro H locs lsA h1 h2 h3 h4 h5
  exact lv_ishl hx hb d (by rw [hv]; exact k H locs lsA h1 h2 h3 h4 h5)
theorem x_ishr (h : xM own cc nL R l G ct P) {x y v : Int32} (d : decode cc pc = .ok (.ishr, 1)) (hv : x >>> (y &&& 31) = v) (k : P (pc + 1) ls (.int v :: st) w a) : P pc ls (.int y :: .int x :: st) w a := by
  obtain ⟨p, e, s, m, args, below, meth, c, Q, ⟨hx, hb, hml, hown, hts⟩, hK, hct, rfl⟩ := h
  intro H locs lsA h1 h2 h3 h4 h5
  exact lv_ishr hx hb d (by rw [hv]; exact k H locs lsA h1 h2 h3 h4 h5)
theorem x_ldiv (h : xM own cc nL R l G ct P) {x y : Int64} (d : decode cc pc = .ok (.ldiv, 1)) (hy : ¬ y = 0) (k : P (pc + 1) ls (.long (x / y) :: st) w a) : P pc ls (.long y :: .long x :: st) w a := by
  obtain ⟨p, e, s, m, args, below, meth, c, Q, ⟨hx, hb, hml, hown, hts⟩, hK, hct, rfl⟩ := h
  intro H locs lsA h1 h2 h3 h4 h5
  exact lv_ldiv hx hb d hy (k H locs lsA h1 h2 h3 h4 h5)
theorem x_ladd (h : xM own cc nL R l G ct P) {x y : Int64} (d : decode cc pc = .ok (.ladd, 1)) (k : P (pc + 1) ls (.long (x + y) :: st) w a) : P pc ls (.long y :: .long x :: st) w a := by
  obtain ⟨p, e, s, m, args, below, meth, c, Q, ⟨hx, hb, hml, hown, hts⟩, hK, hct, rfl⟩ := h
  intro H locs lsA h1 h2 h3 h4 h5
  exact lv_ladd hx hb d (k H locs lsA h1 h2 h3 h4 h5)
theorem x_lsub (h : xM own cc nL R l G ct P) {x y : Int64} (d : decode cc pc = .ok (.lsub, 1)) (k : P (pc + 1) ls (.long (x - y) :: st) w a) : P pc ls (.long y :: .long x :: st) w a := by
  obtain ⟨p, e, s, m, args, below, meth, c, Q, ⟨hx, hb, hml, hown, hts⟩, hK, hct, rfl⟩ := h
  intro H locs lsA h1 h2 h3 h4 h5
  exact lv_lsub hx hb d (k H locs lsA h1 h2 h3 h4 h5)
theorem x_lmul (h : xM own cc nL R l G ct P) {x y : Int64} (d : decode cc pc = .ok (.lmul, 1)) (k : P (pc + 1) ls (.long (x * y) :: st) w a) : P pc ls (.long y :: .long x :: st) w a := by
  obtain ⟨p, e, s, m, args, below, meth, c, Q, ⟨hx, hb, hml, hown, hts⟩, hK, hct, rfl⟩ := h
  intro H locs lsA h1 h2 h3 h4 h5
  exact lv_lmul hx hb d (k H locs lsA h1 h2 h3 h4 h5)
theorem x_land (h : xM own cc nL R l G ct P) {x y : Int64} (d : decode cc pc = .ok (.land, 1)) (k : P (pc + 1) ls (.long (x &&& y) :: st) w a) : P pc ls (.long y :: .long x :: st) w a := by
  obtain ⟨p, e, s, m, args, below, meth, c, Q, ⟨hx, hb, hml, hown, hts⟩, hK, hct, rfl⟩ := h
  intro H locs lsA h1 h2 h3 h4 h5
  exact lv_land hx hb d (k H locs lsA h1 h2 h3 h4 h5)
theorem x_lor (h : xM own cc nL R l G ct P) {x y : Int64} (d : decode cc pc = .ok (.lor, 1)) (k : P (pc + 1) ls (.long (x ||| y) :: st) w a) : P pc ls (.long y :: .long x :: st) w a := by
  obtain ⟨p, e, s, m, args, below, meth, c, Q, ⟨hx, hb, hml, hown, hts⟩, hK, hct, rfl⟩ := h
  intro H locs lsA h1 h2 h3 h4 h5
  exact lv_lor hx hb d (k H locs lsA h1 h2 h3 h4 h5)
theorem x_i2l (h : xM own cc nL R l G ct P) {x : Int32} (d : decode cc pc = .ok (.i2l, 1)) (k : P (pc + 1) ls (.long x.toInt64 :: st) w a) : P pc ls (.int x :: st) w a := by
  obtain ⟨p, e, s, m, args, below, meth, c, Q, ⟨hx, hb, hml, hown, hts⟩, hK, hct, rfl⟩ := h
  intro H locs lsA h1 h2 h3 h4 h5
  exact lv_i2l hx hb d rfl (k H locs lsA h1 h2 h3 h4 h5)
theorem x_l2i (h : xM own cc nL R l G ct P) {x : Int64} (d : decode cc pc = .ok (.l2i, 1)) (k : P (pc + 1) ls (.int x.toInt32 :: st) w a) : P pc ls (.long x :: st) w a := by
  obtain ⟨p, e, s, m, args, below, meth, c, Q, ⟨hx, hb, hml, hown, hts⟩, hK, hct, rfl⟩ := h
  intro H locs lsA h1 h2 h3 h4 h5
  exact lv_l2i hx hb d rfl (k H locs lsA h1 h2 h3 h4 h5)
theorem x_dup (h : xM own cc nL R l G ct P) {v : Value} (d : decode cc pc = .ok (.dup, 1)) (hv : v.category = 1) (k : P (pc + 1) ls (v :: v :: st) w a) : P pc ls (v :: st) w a := by
  obtain ⟨p, e, s, m, args, below, meth, c, Q, ⟨hx, hb, hml, hown, hts⟩, hK, hct, rfl⟩ := h
  intro H locs lsA h1 h2 h3 h4 h5
  exact lv_dup hx hb d hv (k H locs lsA h1 h2 h3 h4 h5)
theorem x_dup2 (h : xM own cc nL R l G ct P) {v u : Value} (d : decode cc pc = .ok (.dup2, 1)) (hv : v.category = 1) (hu : u.category = 1) (k : P (pc + 1) ls (v :: u :: v :: u :: st) w a) : P pc ls (v :: u :: st) w a := by
  obtain ⟨p, e, s, m, args, below, meth, c, Q, ⟨hx, hb, hml, hown, hts⟩, hK, hct, rfl⟩ := h
  intro H locs lsA h1 h2 h3 h4 h5
  exact lv_dup2_11 hx hb d hv hu (k H locs lsA h1 h2 h3 h4 h5)
theorem x_pop (h : xM own cc nL R l G ct P) {v : Value} (d : decode cc pc = .ok (.pop, 1)) (hv : v.category = 1) (k : P (pc + 1) ls st w a) : P pc ls (v :: st) w a := by
  obtain ⟨p, e, s, m, args, below, meth, c, Q, ⟨hx, hb, hml, hown, hts⟩, hK, hct, rfl⟩ := h
  intro H locs lsA h1 h2 h3 h4 h5
  exact lv_pop hx hb d hv (k H locs lsA h1 h2 h3 h4 h5)
theorem x_if_eq (h : xM own cc nL R l G ct P) {x : Int} {off : Int} {tgt : Nat} (d : decode cc pc = .ok (.ifCond .eq off, 3)) (ht : (pc : Int) + off = (tgt : Int)) (hx1 : iR x) (kt : x = 0 → P tgt ls st w a) (kf : x ≠ 0 → P (pc + 3) ls st w a) : P pc ls (.int (iI x) :: st) w a := by
  obtain ⟨p, e, s, m, args, below, meth, c, Q, ⟨hx, hb, hml, hown, hts⟩, hK, hct, rfl⟩ := h
  intro H locs lsA h1 h2 h3 h4 h5
  have e0 : iI 0 = 0 := rfl
  refine lv_if_eq hx hb d ht (fun q => kt ?_ H locs lsA h1 h2 h3 h4 h5) (fun q => kf ?_ H locs lsA h1 h2 h3 h4 h5) <;> rw [← e0] at q <;> have q1 := q <;> simp only [ge_iff_le, gt_iff_lt, iI_inj hx1 (by omega : iR 0), iI_lt hx1 (by omega : iR 0), iI_le hx1 (by omega : iR 0), iI_lt (by omega : iR 0) hx1, iI_le (by omega : iR 0) hx1] at q1 <;> omega
theorem x_if_ne (h : xM own cc nL R l G ct P) {x : Int} {off : Int} {tgt : Nat} (d : decode cc pc = .ok (.ifCond .ne off, 3)) (ht : (pc : Int) + off = (tgt : Int)) (hx1 : iR x) (kt : x ≠ 0 → P tgt ls st w a) (kf : x = 0 → P (pc + 3) ls st w a) : P pc ls (.int (iI x) :: st) w a := by
  obtain ⟨p, e, s, m, args, below, meth, c, Q, ⟨hx, hb, hml, hown, hts⟩, hK, hct, rfl⟩ := h
  intro H locs lsA h1 h2 h3 h4 h5
  have e0 : iI 0 = 0 := rfl
  refine lv_if_ne hx hb d ht (fun q => kt ?_ H locs lsA h1 h2 h3 h4 h5) (fun q => kf ?_ H locs lsA h1 h2 h3 h4 h5) <;> rw [← e0] at q <;> have q1 := q <;> simp only [ge_iff_le, gt_iff_lt, iI_inj hx1 (by omega : iR 0), iI_lt hx1 (by omega : iR 0), iI_le hx1 (by omega : iR 0), iI_lt (by omega : iR 0) hx1, iI_le (by omega : iR 0) hx1] at q1 <;> omega
theorem x_if_lt (h : xM own cc nL R l G ct P) {x : Int} {off : Int} {tgt : Nat} (d : decode cc pc = .ok (.ifCond .lt off, 3)) (ht : (pc : Int) + off = (tgt : Int)) (hx1 : iR x) (kt : x < 0 → P tgt ls st w a) (kf : 0 ≤ x → P (pc + 3) ls st w a) : P pc ls (.int (iI x) :: st) w a := by
  obtain ⟨p, e, s, m, args, below, meth, c, Q, ⟨hx, hb, hml, hown, hts⟩, hK, hct, rfl⟩ := h
  intro H locs lsA h1 h2 h3 h4 h5
  have e0 : iI 0 = 0 := rfl
  refine lv_if_lt hx hb d ht (fun q => kt ?_ H locs lsA h1 h2 h3 h4 h5) (fun q => kf ?_ H locs lsA h1 h2 h3 h4 h5) <;> rw [← e0] at q <;> have q1 := q <;> simp only [ge_iff_le, gt_iff_lt, iI_inj hx1 (by omega : iR 0), iI_lt hx1 (by omega : iR 0), iI_le hx1 (by omega : iR 0), iI_lt (by omega : iR 0) hx1, iI_le (by omega : iR 0) hx1] at q1 <;> omega
theorem x_if_ge (h : xM own cc nL R l G ct P) {x : Int} {off : Int} {tgt : Nat} (d : decode cc pc = .ok (.ifCond .ge off, 3)) (ht : (pc : Int) + off = (tgt : Int)) (hx1 : iR x) (kt : 0 ≤ x → P tgt ls st w a) (kf : x < 0 → P (pc + 3) ls st w a) : P pc ls (.int (iI x) :: st) w a := by
  obtain ⟨p, e, s, m, args, below, meth, c, Q, ⟨hx, hb, hml, hown, hts⟩, hK, hct, rfl⟩ := h
  intro H locs lsA h1 h2 h3 h4 h5
  have e0 : iI 0 = 0 := rfl
  refine lv_if_ge hx hb d ht (fun q => kt ?_ H locs lsA h1 h2 h3 h4 h5) (fun q => kf ?_ H locs lsA h1 h2 h3 h4 h5) <;> rw [← e0] at q <;> have q1 := q <;> simp only [ge_iff_le, gt_iff_lt, iI_inj hx1 (by omega : iR 0), iI_lt hx1 (by omega : iR 0), iI_le hx1 (by omega : iR 0), iI_lt (by omega : iR 0) hx1, iI_le (by omega : iR 0) hx1] at q1 <;> omega
theorem x_if_gt (h : xM own cc nL R l G ct P) {x : Int} {off : Int} {tgt : Nat} (d : decode cc pc = .ok (.ifCond .gt off, 3)) (ht : (pc : Int) + off = (tgt : Int)) (hx1 : iR x) (kt : 0 < x → P tgt ls st w a) (kf : x ≤ 0 → P (pc + 3) ls st w a) : P pc ls (.int (iI x) :: st) w a := by
  obtain ⟨p, e, s, m, args, below, meth, c, Q, ⟨hx, hb, hml, hown, hts⟩, hK, hct, rfl⟩ := h
  intro H locs lsA h1 h2 h3 h4 h5
  have e0 : iI 0 = 0 := rfl
  refine lv_if_gt hx hb d ht (fun q => kt ?_ H locs lsA h1 h2 h3 h4 h5) (fun q => kf ?_ H locs lsA h1 h2 h3 h4 h5) <;> rw [← e0] at q <;> have q1 := q <;> simp only [ge_iff_le, gt_iff_lt, iI_inj hx1 (by omega : iR 0), iI_lt hx1 (by omega : iR 0), iI_le hx1 (by omega : iR 0), iI_lt (by omega : iR 0) hx1, iI_le (by omega : iR 0) hx1] at q1 <;> omega
theorem x_if_le (h : xM own cc nL R l G ct P) {x : Int} {off : Int} {tgt : Nat} (d : decode cc pc = .ok (.ifCond .le off, 3)) (ht : (pc : Int) + off = (tgt : Int)) (hx1 : iR x) (kt : x ≤ 0 → P tgt ls st w a) (kf : 0 < x → P (pc + 3) ls st w a) : P pc ls (.int (iI x) :: st) w a := by
  obtain ⟨p, e, s, m, args, below, meth, c, Q, ⟨hx, hb, hml, hown, hts⟩, hK, hct, rfl⟩ := h
  intro H locs lsA h1 h2 h3 h4 h5
  have e0 : iI 0 = 0 := rfl
  refine lv_if_le hx hb d ht (fun q => kt ?_ H locs lsA h1 h2 h3 h4 h5) (fun q => kf ?_ H locs lsA h1 h2 h3 h4 h5) <;> rw [← e0] at q <;> have q1 := q <;> simp only [ge_iff_le, gt_iff_lt, iI_inj hx1 (by omega : iR 0), iI_lt hx1 (by omega : iR 0), iI_le hx1 (by omega : iR 0), iI_lt (by omega : iR 0) hx1, iI_le (by omega : iR 0) hx1] at q1 <;> omega
theorem x_icmp_eq (h : xM own cc nL R l G ct P) {x y : Int} {off : Int} {tgt : Nat} (d : decode cc pc = .ok (.if_icmp .eq off, 3)) (ht : (pc : Int) + off = (tgt : Int)) (hx1 : iR x) (hy1 : iR y) (kt : x = y → P tgt ls st w a) (kf : x ≠ y → P (pc + 3) ls st w a) : P pc ls (.int (iI y) :: .int (iI x) :: st) w a := by
  obtain ⟨p, e, s, m, args, below, meth, c, Q, ⟨hx, hb, hml, hown, hts⟩, hK, hct, rfl⟩ := h
  intro H locs lsA h1 h2 h3 h4 h5
  refine lv_icmp_eq hx hb d ht (fun q => kt ?_ H locs lsA h1 h2 h3 h4 h5) (fun q => kf ?_ H locs lsA h1 h2 h3 h4 h5) <;> have q1 := q <;> simp only [ge_iff_le, gt_iff_lt, iI_inj hx1 hy1, iI_lt hx1 hy1, iI_le hx1 hy1, iI_lt hy1 hx1, iI_le hy1 hx1] at q1 <;> omega
theorem x_icmp_ne (h : xM own cc nL R l G ct P) {x y : Int} {off : Int} {tgt : Nat} (d : decode cc pc = .ok (.if_icmp .ne off, 3)) (ht : (pc : Int) + off = (tgt : Int)) (hx1 : iR x) (hy1 : iR y) (kt : x ≠ y → P tgt ls st w a) (kf : x = y → P (pc + 3) ls st w a) : P pc ls (.int (iI y) :: .int (iI x) :: st) w a := by
  obtain ⟨p, e, s, m, args, below, meth, c, Q, ⟨hx, hb, hml, hown, hts⟩, hK, hct, rfl⟩ := h
  intro H locs lsA h1 h2 h3 h4 h5
  refine lv_icmp_ne hx hb d ht (fun q => kt ?_ H locs lsA h1 h2 h3 h4 h5) (fun q => kf ?_ H locs lsA h1 h2 h3 h4 h5) <;> have q1 := q <;> simp only [ge_iff_le, gt_iff_lt, iI_inj hx1 hy1, iI_lt hx1 hy1, iI_le hx1 hy1, iI_lt hy1 hx1, iI_le hy1 hx1] at q1 <;> omega
theorem x_icmp_lt (h : xM own cc nL R l G ct P) {x y : Int} {off : Int} {tgt : Nat} (d : decode cc pc = .ok (.if_icmp .lt off, 3)) (ht : (pc : Int) + off = (tgt : Int)) (hx1 : iR x) (hy1 : iR y) (kt : x < y → P tgt ls st w a) (kf : y ≤ x → P (pc + 3) ls st w a) : P pc ls (.int (iI y) :: .int (iI x) :: st) w a := by
  obtain ⟨p, e, s, m, args, below, meth, c, Q, ⟨hx, hb, hml, hown, hts⟩, hK, hct, rfl⟩ := h
  intro H locs lsA h1 h2 h3 h4 h5
  refine lv_icmp_lt hx hb d ht (fun q => kt ?_ H locs lsA h1 h2 h3 h4 h5) (fun q => kf ?_ H locs lsA h1 h2 h3 h4 h5) <;> have q1 := q <;> simp only [ge_iff_le, gt_iff_lt, iI_inj hx1 hy1, iI_lt hx1 hy1, iI_le hx1 hy1, iI_lt hy1 hx1, iI_le hy1 hx1] at q1 <;> omega
theorem x_icmp_ge (h : xM own cc nL R l G ct P) {x y : Int} {off : Int} {tgt : Nat} (d : decode cc pc = .ok (.if_icmp .ge off, 3)) (ht : (pc : Int) + off = (tgt : Int)) (hx1 : iR x) (hy1 : iR y) (kt : y ≤ x → P tgt ls st w a) (kf : x < y → P (pc + 3) ls st w a) : P pc ls (.int (iI y) :: .int (iI x) :: st) w a := by
  obtain ⟨p, e, s, m, args, below, meth, c, Q, ⟨hx, hb, hml, hown, hts⟩, hK, hct, rfl⟩ := h
  intro H locs lsA h1 h2 h3 h4 h5
  refine lv_icmp_ge hx hb d ht (fun q => kt ?_ H locs lsA h1 h2 h3 h4 h5) (fun q => kf ?_ H locs lsA h1 h2 h3 h4 h5) <;> have q1 := q <;> simp only [ge_iff_le, gt_iff_lt, iI_inj hx1 hy1, iI_lt hx1 hy1, iI_le hx1 hy1, iI_lt hy1 hx1, iI_le hy1 hx1] at q1 <;> omega
theorem x_icmp_gt (h : xM own cc nL R l G ct P) {x y : Int} {off : Int} {tgt : Nat} (d : decode cc pc = .ok (.if_icmp .gt off, 3)) (ht : (pc : Int) + off = (tgt : Int)) (hx1 : iR x) (hy1 : iR y) (kt : y < x → P tgt ls st w a) (kf : x ≤ y → P (pc + 3) ls st w a) : P pc ls (.int (iI y) :: .int (iI x) :: st) w a := by
  obtain ⟨p, e, s, m, args, below, meth, c, Q, ⟨hx, hb, hml, hown, hts⟩, hK, hct, rfl⟩ := h
  intro H locs lsA h1 h2 h3 h4 h5
  refine lv_icmp_gt hx hb d ht (fun q => kt ?_ H locs lsA h1 h2 h3 h4 h5) (fun q => kf ?_ H locs lsA h1 h2 h3 h4 h5) <;> have q1 := q <;> simp only [ge_iff_le, gt_iff_lt, iI_inj hx1 hy1, iI_lt hx1 hy1, iI_le hx1 hy1, iI_lt hy1 hx1, iI_le hy1 hx1] at q1 <;> omega
theorem x_icmp_le (h : xM own cc nL R l G ct P) {x y : Int} {off : Int} {tgt : Nat} (d : decode cc pc = .ok (.if_icmp .le off, 3)) (ht : (pc : Int) + off = (tgt : Int)) (hx1 : iR x) (hy1 : iR y) (kt : x ≤ y → P tgt ls st w a) (kf : y < x → P (pc + 3) ls st w a) : P pc ls (.int (iI y) :: .int (iI x) :: st) w a := by
  obtain ⟨p, e, s, m, args, below, meth, c, Q, ⟨hx, hb, hml, hown, hts⟩, hK, hct, rfl⟩ := h
  intro H locs lsA h1 h2 h3 h4 h5
  refine lv_icmp_le hx hb d ht (fun q => kt ?_ H locs lsA h1 h2 h3 h4 h5) (fun q => kf ?_ H locs lsA h1 h2 h3 h4 h5) <;> have q1 := q <;> simp only [ge_iff_le, gt_iff_lt, iI_inj hx1 hy1, iI_lt hx1 hy1, iI_le hx1 hy1, iI_lt hy1 hx1, iI_le hy1 hx1] at q1 <;> omega
theorem x_goto (h : xM own cc nL R l G ct P) {off : Int} {tgt : Nat} (d : decode cc pc = .ok (.goto off, 3)) (ht : (pc : Int) + off = (tgt : Int)) (k : P tgt ls st w a) : P pc ls st w a := by
  obtain ⟨p, e, s, m, args, below, meth, c, Q, ⟨hx, hb, hml, hown, hts⟩, hK, hct, rfl⟩ := h
  intro H locs lsA h1 h2 h3 h4 h5
  exact lv_goto hx hb d ht (k H locs lsA h1 h2 h3 h4 h5)
theorem x_ifnull (h : xM own cc nL R l G ct P) {x : Nat} {off : Int} (d : decode cc pc = .ok (.ifnull off, 3)) (k : P (pc + 3) ls st w a) : P pc ls (.ref x :: st) w a := by
  obtain ⟨p, e, s, m, args, below, meth, c, Q, ⟨hx, hb, hml, hown, hts⟩, hK, hct, rfl⟩ := h
  intro H locs lsA h1 h2 h3 h4 h5
  exact lv_ifnull hx hb d (k H locs lsA h1 h2 h3 h4 h5)
theorem x_ifnullN (h : xM own cc nL R l G ct P) {off : Int} {tgt : Nat} (d : decode cc pc = .ok (.ifnull off, 3)) (ht : (pc : Int) + off = (tgt : Int)) (k : P tgt ls st w a) : P pc ls (.null :: st) w a := by
  obtain ⟨p, e, s, m, args, below, meth, c, Q, ⟨hx, hb, hml, hown, hts⟩, hK, hct, rfl⟩ := h
  intro H locs lsA h1 h2 h3 h4 h5
  exact lv_ifnullN hx hb d ht (k H locs lsA h1 h2 h3 h4 h5)
theorem x_ifnonnull (h : xM own cc nL R l G ct P) {x : Nat} {off : Int} {tgt : Nat} (d : decode cc pc = .ok (.ifnonnull off, 3)) (ht : (pc : Int) + off = (tgt : Int)) (k : P tgt ls st w a) : P pc ls (.ref x :: st) w a := by
  obtain ⟨p, e, s, m, args, below, meth, c, Q, ⟨hx, hb, hml, hown, hts⟩, hK, hct, rfl⟩ := h
  intro H locs lsA h1 h2 h3 h4 h5
  exact lv_ifnonnull hx hb d ht (k H locs lsA h1 h2 h3 h4 h5)
theorem x_ifnonnullN (h : xM own cc nL R l G ct P) {off : Int} (d : decode cc pc = .ok (.ifnonnull off, 3)) (k : P (pc + 3) ls st w a) : P pc ls (.null :: st) w a := by
  obtain ⟨p, e, s, m, args, below, meth, c, Q, ⟨hx, hb, hml, hown, hts⟩, hK, hct, rfl⟩ := h
  intro H locs lsA h1 h2 h3 h4 h5
  exact lv_ifnonnullN hx hb d (k H locs lsA h1 h2 h3 h4 h5)
/-- a long compare, and the branch that follows is on its sign -/
theorem x_lcmp (h : xM own cc nL R l G ct P) {x y : Int64} (d : decode cc pc = .ok (.lcmp, 1)) (k : ∀ z : Int, iR z → (z < 0 ↔ x < y) → (z = 0 ↔ x = y) → P (pc + 1) ls (.int (iI z) :: st) w a) : P pc ls (.long y :: .long x :: st) w a := by
  obtain ⟨p, e, s, m, args, below, meth, c, Q, ⟨hx, hb, hml, hown, hts⟩, hK, hct, rfl⟩ := h
  intro H locs lsA h1 h2 h3 h4 h5
  refine W.lcmp hx hb d ?_
  have e1 : ∃ z : Int, iR z ∧ lg_cmp x y = iI z ∧ (z < 0 ↔ x < y) ∧ (z = 0 ↔ x = y) := by
    unfold lg_cmp
    have hlt : x < y ↔ x.toInt < y.toInt := Int64.lt_iff_toInt_lt
    have heq : x = y ↔ x.toInt = y.toInt := Int64.toInt_inj.symm
    have hgt : y < x ↔ y.toInt < x.toInt := Int64.lt_iff_toInt_lt
    by_cases q1 : y < x
    · exact ⟨1, by omega, by rw [if_pos q1]; rfl, by rw [hlt]; rw [hgt] at q1; omega, by rw [heq]; rw [hgt] at q1; omega⟩
    · by_cases q2 : x = y
      · exact ⟨0, by omega, by rw [if_neg q1, if_pos q2]; rfl, by rw [hlt]; rw [heq] at q2; omega, by simp [q2]⟩
      · exact ⟨-1, by omega, by rw [if_neg q1, if_neg q2]; rfl, by rw [hlt]; rw [hgt] at q1; rw [heq] at q2; omega, by rw [heq]; rw [heq] at q2; omega⟩
  obtain ⟨z, z1, z2, z3, z4⟩ := e1
  rw [z2]
  exact k z z1 z3 z4 H locs lsA h1 h2 h3 h4 h5
end XR
end
section
/-! cells, calls, contracts -/
/-- an int array of n places with the numbers f -/
def aI (G : xG) (n : Nat) (f : Int → Int) : va_E := .inl (G.2.1 0, n, .inl (fun k => iI (f k)))
def aJ (G : xG) (n : Nat) (f : Int → Int64) : va_E := .inl (G.2.1 1, n, .inr (.inl (fun k => f k)))
def aC (G : xG) (n : Nat) (f : Int → Int) : va_E := .inl (G.2.1 2, n, .inl (fun k => iI (f k)))
def aZ (G : xG) (n : Nat) (f : Int → Int) : va_E := .inl (G.2.1 3, n, .inl (fun k => iI (f k)))
def aQ (G : xG) (n : Nat) (f : Int → Option Nat) : va_E := .inl (G.2.1 4, n, .inr (.inr (.inr (.inr (fun k => f k)))))
def fU {α : Type} (f : Int → α) (i : Int) (v : α) : Int → α := fun j => if j = i then v else f j
theorem fU_eq {α : Type} {f : Int → α} {i : Int} {v : α} : fU f i v i = v := if_pos rfl
theorem fU_ne {α : Type} {f : Int → α} {i j : Int} {v : α} (h : j ≠ i) : fU f i v j = f j := if_neg h
/-- a field by its place in the code: class ci, slot k -/
def Wf (own : String) (idx ci k : Nat) : Prop := ∃ q : vw_C, vwCl[ci]? = some q ∧ k < q.2.2 ∧ (Cond.fieldLink own idx (q.2.1 k).1 (q.2.1 k).2.1 (q.2.1 k).2.2.1 ∈ gd_w ∨ ∃ host : String, Cond.fieldLinkNest own idx (q.2.1 k).1 (q.2.1 k).2.1 (q.2.1 k).2.2.1 host ∈ ns_w)
/-- the classes' lays words, and that their fields have different names -/
def Wl (ci : Nat) : Prop := ∀ q : vw_C, vwCl[ci]? = some q → (∀ w ∈ u_ws q.1 q.2.1 q.2.2, w ∈ gd_w) ∧ (∃ ty : Nat → FieldType, ∀ k, k < q.2.2 → parseFieldDescriptor (q.2.1 k).2.2.1 = some (ty k)) ∧ ∀ a, a < q.2.2 → ∀ b, b < q.2.2 → a ≠ b → (q.2.1 a).2.1 ≠ (q.2.1 b).2.1
section XR
variable {own : String} {cc : ByteArray} {nL : Nat} {R : Room} {l : Launch} {G : xG} {ct : Bool} {P : xT} {pc : Nat} {ls : List (Option Value)} {st : List Value} {w : Wd} {a : Nat × Nat × Nat}
theorem x_get (h : xM own cc nL R l G ct P) {idx ci k : Nat} (hf : Wf own idx ci k) (hl : Wl ci) {r : Nat} {fs : List Value} {v : Value} (hw : w r = some (.inr (ci, fs))) (hv : fs[k]? = some v) (d : decode cc pc = .ok (.getfield idx, 3)) (kk : P (pc + 3) ls (v :: st) w a) : P pc ls (.ref r :: st) w a := by
  obtain ⟨p, e, s, m, args, below, meth, c, Q, ⟨hx, hb, hml, hown, hts⟩, hK, hct, rfl⟩ := h
  intro H locs lsA h1 h2 h3 h4 h5
  obtain ⟨⟨C, T, N⟩, q1, q2, q3⟩ := hf
  obtain ⟨l1, -, -⟩ := hl _ q1
  rcases q3 with q3 | ⟨host, q3⟩
  · exact va_get hx hb hts l1 hown hK.1 (gH_of h1 hw) 0 rfl q1 k q2 (hts _ q3) (fun _ z => z) hv d (kk H locs lsA h1 h2 h3 h4 h5)
  · exact va_getN hx hb hts l1 hown hK.1 (gH_of h1 hw) 0 rfl q1 k q2 (va_Nw.use rfl (hK.2.1 _ q3)) (fun _ z => z) hv d (kk H locs lsA h1 h2 h3 h4 h5)
theorem va_S_put {A : Nat → Prop} {H0 H H1 : Heap} {locs : List Loc} {r k : Nat} (h : va_S A H0 H locs) (z : H1.size = H.size) (oq : ∀ q : Nat, q ≠ r → H1[q]? = H[q]?) (ha : A r) : va_S A H0 H1 (locs ++ [⟨r, k⟩]) := h.put z oq ha
theorem x_put (h : xM own cc nL R l G ct P) {idx ci k : Nat} (hf : Wf own idx ci k) (hl : Wl ci) {r : Nat} {fs fs2 : List Value} {v : Value} {ty : FieldType} (hw : w r = some (.inr (ci, fs))) (hfin : ∀ q : vw_C, vwCl[ci]? = some q → (q.2.1 k).2.2.2 = false ∧ parseFieldDescriptor (q.2.1 k).2.2.1 = some ty) (hn : narrow ty v = v) (hfit : fits ty v = true) (hlen : k < fs.length) (hs : fs.set k v = fs2) (d : decode cc pc = .ok (.putfield idx, 3)) (kk : P (pc + 3) ls st (wS w r (.inr (ci, fs2))) a) : P pc ls (v :: .ref r :: st) w a := by
  obtain ⟨p, e, s, m, args, below, meth, c, Q, ⟨hx, hb, hml, hown, hts⟩, hK, hct, rfl⟩ := h
  intro H locs lsA h1 h2 h3 h4 h5
  subst hs
  obtain ⟨⟨C, T, N⟩, q1, q2, q3⟩ := hf
  obtain ⟨l1, ⟨ty0, l2⟩, l3⟩ := hl _ q1
  obtain ⟨hf1, hf2⟩ := hfin _ q1
  have hap := va_apart (own := own) hts l1 ty0 l2 l3 hK.1 q1
  obtain ⟨⟨r1, g1, cell, g2, g3, g4, g5⟩, hr⟩ := h1 _ _ hw
  have hr1 : r1 = (C, T, N) := Option.some.inj (g1.symm.trans q1)
  subst hr1
  obtain ⟨hS, hfc, kC, hkC, hkind⟩ := hK.1.1 ci _ q1
  obtain ⟨cf, kf, fi, f, hi, hsl⟩ := hS k q2
  have hlay := hts _ (l1 _ (u_in_lay q2))
  unfold u_lay at hlay
  rw [if_neg (by rw [hf1]; decide)] at hlay
  have hst := (u_facts hfc hkC (u_lays hts l1 q2) hi).1
  have h6 := u_store hfc hkC hkind hlay hi hf2 hn hfit
  have fin : ∀ H' : Heap, H'[r]? = some (cell.setSlot f.slot v) → H'.size = H.size → (∀ q, q ≠ r → H'[q]? = H[q]?) → W p l e R s m args below meth c H' (locs ++ [⟨r, f.slot⟩]) a.2.1 a.2.2 Q (F0 m (pc + 3) lsA st) := by
    intro H' e1 e2 e3
    rw [hsl] at e1
    exact kk H' _ lsA (gH_put h1 hw ⟨_, q1, t_OB.to (V := updV (vp_V fs) k v) ⟨_, e1, g3, g4, t_set g5 hap q2 v⟩ (fun j _ => vp_updV_set hlen v j)⟩ e3) (e2.trans h2) (h3.put e2 e3 hr) h4 h5
  rcases q3 with q3 | ⟨host, q3⟩
  · exact W.putK hx hb (f := f) ⟨hown, hts _ q3, ⟨_, _, _, hi⟩, hst⟩ (by rw [g3]; exact h6) g2 g4 (by rw [hsl]; exact k2_hasslot (g5 k q2)) rfl rfl d fin
  · exact va_WputK hx hb (f := f) hown (va_Nw.use rfl (hK.2.1 _ q3)) hi hst (by rw [g3]; exact h6) g2 g4 (by rw [hsl]; exact k2_hasslot (g5 k q2)) rfl rfl d fin
theorem x_putF (h : xM own cc nL R l G true P) {idx ci k : Nat} (hl : Wl ci) {r : Nat} {fs fs2 : List Value} {v : Value} {ty : FieldType} (hw : w r = some (.inr (ci, fs))) (hfin : ∃ q : vw_C, vwCl[ci]? = some q ∧ k < q.2.2 ∧ Cond.fieldLink own idx (q.2.1 k).1 (q.2.1 k).2.1 (q.2.1 k).2.2.1 ∈ gd_w ∧ (q.2.1 k).2.2.2 = true ∧ (q.2.1 k).1 = own ∧ parseFieldDescriptor (q.2.1 k).2.2.1 = some ty) (hn : narrow ty v = v) (hfit : fits ty v = true) (hlen : k < fs.length) (hs : fs.set k v = fs2) (d : decode cc pc = .ok (.putfield idx, 3)) (kk : P (pc + 3) ls st (wS w r (.inr (ci, fs2))) a) : P pc ls (v :: .ref r :: st) w a := by
  obtain ⟨p, e, s, m, args, below, meth, c, Q, ⟨hx, hb, hml, hown, hts⟩, hK, hct, rfl⟩ := h
  intro H locs lsA h1 h2 h3 h4 h5
  subst hs
  obtain ⟨⟨C, T, N⟩, q1, q2, q3, hf1, hdecl, hf2⟩ := hfin
  obtain ⟨l1, ⟨ty0, l2⟩, l3⟩ := hl _ q1
  have hap := va_apart (own := own) hts l1 ty0 l2 l3 hK.1 q1
  obtain ⟨⟨r1, g1, cell, g2, g3, g4, g5⟩, hr⟩ := h1 _ _ hw
  have hr1 : r1 = (C, T, N) := Option.some.inj (g1.symm.trans q1)
  subst hr1
  obtain ⟨hS, hfc, kC, hkC, hkind⟩ := hK.1.1 ci _ q1
  obtain ⟨cf, kf, fi, f, hi, hsl⟩ := hS k q2
  have hlay := hts _ (l1 _ (u_in_lay q2))
  unfold u_lay at hlay
  rw [if_pos hf1] at hlay
  have hst := (u_facts hfc hkC (u_lays hts l1 q2) hi).1
  have hcf : m.cls = cf := by
    obtain ⟨_, _, c', _, _, _, -, -, hf', -, -, -, hown2, -⟩ := Cond.laysFinal_spec hlay
    have e1 : c' = cf := by have := hi.symm.trans hf'; simp at this; exact this.1.symm
    rw [hdecl] at hown2
    rw [← e1]; exact Option.some.inj (hown.symm.trans hown2)
  have h6 := u_fits hfc hkC hkind (Or.inr hlay) hi hf2 hn hfit
  refine W.putFinK hx hb hown (hts _ q3) hi hst hcf (hct rfl) (by rw [g3]; exact h6) g2 g4 (by rw [hsl]; exact k2_hasslot (g5 k q2)) rfl rfl d fun H' e1 e2 e3 => ?_
  rw [hsl] at e1 ⊢
  exact kk H' _ lsA (gH_put h1 hw ⟨_, q1, t_OB.to (V := updV (vp_V fs) k v) ⟨_, e1, g3, g4, t_set g5 hap q2 v⟩ (fun j _ => vp_updV_set hlen v j)⟩ e3) (e2.trans h2) (h3.put e2 e3 hr) h4 h5
/-! arrays -/
theorem x_iald (h : xM own cc nL R l G ct P) {r n : Nat} {f : Int → Int} {i : Int} (hw : w r = some (aI G n f)) (hi : 0 ≤ i ∧ i < n ∧ n ≤ 2147483647) (d : decode cc pc = .ok (.iaload, 1)) (kk : P (pc + 1) ls (.int (iI (f i)) :: st) w a) : P pc ls (.int (iI i) :: .ref r :: st) w a := by
  obtain ⟨p, e, s, m, args, below, meth, c, Q, ⟨hx, hb, hml, hown, hts⟩, hK, hct, rfl⟩ := h
  intro H locs lsA h1 h2 h3 h4 h5
  refine va_iald hx hb hK.1 (gH_of h1 hw) 0 0 rfl rfl (iI_in hi.1 hi.2.1 (by omega)) d ?_
  rw [iI_clamp hi.1 (by omega), show ((i.toNat : Nat) : Int) = i by omega]
  exact kk H locs lsA h1 h2 h3 h4 h5
theorem x_lald (h : xM own cc nL R l G ct P) {r n : Nat} {f : Int → Int64} {i : Int} (hw : w r = some (aJ G n f)) (hi : 0 ≤ i ∧ i < n ∧ n ≤ 2147483647) (d : decode cc pc = .ok (.laload, 1)) (kk : P (pc + 1) ls (.long (f i) :: st) w a) : P pc ls (.int (iI i) :: .ref r :: st) w a := by
  obtain ⟨p, e, s, m, args, below, meth, c, Q, ⟨hx, hb, hml, hown, hts⟩, hK, hct, rfl⟩ := h
  intro H locs lsA h1 h2 h3 h4 h5
  refine va_lald hx hb hK.1 (gH_of h1 hw) 0 1 rfl rfl (iI_in hi.1 hi.2.1 (by omega)) d ?_
  rw [iI_clamp hi.1 (by omega), show ((i.toNat : Nat) : Int) = i by omega]
  exact kk H locs lsA h1 h2 h3 h4 h5
theorem x_cald (h : xM own cc nL R l G ct P) {r n : Nat} {f : Int → Int} {i : Int} (hw : w r = some (aC G n f)) (hi : 0 ≤ i ∧ i < n ∧ n ≤ 2147483647) (d : decode cc pc = .ok (.caload, 1)) (kk : P (pc + 1) ls (.int (iI (f i)) :: st) w a) : P pc ls (.int (iI i) :: .ref r :: st) w a := by
  obtain ⟨p, e, s, m, args, below, meth, c, Q, ⟨hx, hb, hml, hown, hts⟩, hK, hct, rfl⟩ := h
  intro H locs lsA h1 h2 h3 h4 h5
  refine va_cald hx hb hK.1 (gH_of h1 hw) 0 2 rfl rfl (iI_in hi.1 hi.2.1 (by omega)) d ?_
  rw [iI_clamp hi.1 (by omega), show ((i.toNat : Nat) : Int) = i by omega]
  exact kk H locs lsA h1 h2 h3 h4 h5
theorem x_zald (h : xM own cc nL R l G ct P) {r n : Nat} {f : Int → Int} {i : Int} (hw : w r = some (aZ G n f)) (hi : 0 ≤ i ∧ i < n ∧ n ≤ 2147483647) (d : decode cc pc = .ok (.baload, 1)) (kk : P (pc + 1) ls (.int (iI (f i)) :: st) w a) : P pc ls (.int (iI i) :: .ref r :: st) w a := by
  obtain ⟨p, e, s, m, args, below, meth, c, Q, ⟨hx, hb, hml, hown, hts⟩, hK, hct, rfl⟩ := h
  intro H locs lsA h1 h2 h3 h4 h5
  refine va_zald hx hb hK.1 (gH_of h1 hw) 0 3 rfl rfl (iI_in hi.1 hi.2.1 (by omega)) d ?_
  rw [iI_clamp hi.1 (by omega), show ((i.toNat : Nat) : Int) = i by omega]
  exact kk H locs lsA h1 h2 h3 h4 h5
theorem x_aald (h : xM own cc nL R l G ct P) {r n : Nat} {f : Int → Option Nat} {i : Int} (hw : w r = some (aQ G n f)) (hi : 0 ≤ i ∧ i < n ∧ n ≤ 2147483647) (d : decode cc pc = .ok (.aaload, 1)) (kk : P (pc + 1) ls (va_rf (f i) :: st) w a) : P pc ls (.int (iI i) :: .ref r :: st) w a := by
  obtain ⟨p, e, s, m, args, below, meth, c, Q, ⟨hx, hb, hml, hown, hts⟩, hK, hct, rfl⟩ := h
  intro H locs lsA h1 h2 h3 h4 h5
  refine va_aldq hx hb hK.1 (gH_of h1 hw) 0 4 rfl rfl (iI_in hi.1 hi.2.1 (by omega)) d ?_
  rw [iI_clamp hi.1 (by omega), show ((i.toNat : Nat) : Int) = i by omega]
  exact kk H locs lsA h1 h2 h3 h4 h5
theorem x_alen (h : xM own cc nL R l G ct P) {r : Nat} {cA : ClassId} {x : vp_A} (hw : w r = some (.inl (cA, x))) (t0 : Nat) {ty : FieldType} (ht : (gT G)[t0]? = some (cA, ty)) (d : decode cc pc = .ok (.arraylength, 1)) (kk : P (pc + 1) ls (.int (iI (x.1 : Nat)) :: st) w a) : P pc ls (.ref r :: st) w a := by
  obtain ⟨p, e, s, m, args, below, meth, c, Q, ⟨hx, hb, hml, hown, hts⟩, hK, hct, rfl⟩ := h
  intro H locs lsA h1 h2 h3 h4 h5
  exact va_alen hx hb hK.1 (gH_of h1 hw) 0 t0 rfl ht (iI_nat _) d (kk H locs lsA h1 h2 h3 h4 h5)
theorem x_alenI (h : xM own cc nL R l G ct P) {r n : Nat} {f : Int → Int} (hw : w r = some (aI G n f)) (d : decode cc pc = .ok (.arraylength, 1)) (kk : P (pc + 1) ls (.int (iI (n : Nat)) :: st) w a) : P pc ls (.ref r :: st) w a := x_alen h hw 0 rfl d kk
theorem x_alenJ (h : xM own cc nL R l G ct P) {r n : Nat} {f : Int → Int64} (hw : w r = some (aJ G n f)) (d : decode cc pc = .ok (.arraylength, 1)) (kk : P (pc + 1) ls (.int (iI (n : Nat)) :: st) w a) : P pc ls (.ref r :: st) w a := x_alen h hw 1 rfl d kk
theorem x_alenC (h : xM own cc nL R l G ct P) {r n : Nat} {f : Int → Int} (hw : w r = some (aC G n f)) (d : decode cc pc = .ok (.arraylength, 1)) (kk : P (pc + 1) ls (.int (iI (n : Nat)) :: st) w a) : P pc ls (.ref r :: st) w a := x_alen h hw 2 rfl d kk
theorem x_alenQ (h : xM own cc nL R l G ct P) {r n : Nat} {f : Int → Option Nat} (hw : w r = some (aQ G n f)) (d : decode cc pc = .ok (.arraylength, 1)) (kk : P (pc + 1) ls (.int (iI (n : Nat)) :: st) w a) : P pc ls (.ref r :: st) w a := x_alen h hw 4 rfl d kk
theorem up_fU {f : Int → Int} {i v : Int} (h0 : 0 ≤ i) : (fun k : Nat => iI (fU f i v k)) = upd (fun k : Nat => iI (f k)) i.toNat (iI v) := by
  funext k
  unfold fU upd
  by_cases hk : (k : Int) = i
  · rw [if_pos hk, if_pos (by omega)]
  · rw [if_neg hk, if_neg (by omega)]
theorem x_iast (h : xM own cc nL R l G ct P) {r n : Nat} {f : Int → Int} {i v : Int} (hw : w r = some (aI G n f)) (hi : 0 ≤ i ∧ i < n ∧ n ≤ 2147483647) (d : decode cc pc = .ok (.iastore, 1)) (kk : P (pc + 1) ls st (wS w r (aI G n (fU f i v))) a) : P pc ls (.int (iI v) :: .int (iI i) :: .ref r :: st) w a := by
  obtain ⟨p, e, s, m, args, below, meth, c, Q, ⟨hx, hb, hml, hown, hts⟩, hK, hct, rfl⟩ := h
  intro H locs lsA h1 h2 h3 h4 h5
  obtain ⟨ha, hr⟩ := h1 _ _ hw
  refine W.iast hx hb ha ((hK.1.2 0 _ rfl).1 n (fun j => .int (iI (f j)))) (fun q => by cases q) (by show ¬ (iI i < 0 ∨ (arrV _ _ _).slots.size ≤ _); rw [arrV_size]; exact iI_in hi.1 hi.2.1 hi.2.2) rfl rfl d fun H1 e1 z oq => ?_
  refine kk H1 _ lsA (gH_put h1 hw ?_ oq) (z.trans h2) (h3.put z oq hr) h4 h5
  show H1[r]? = some (vp_cell _ _)
  rw [e1]
  rw [up_fU hi.1, vp_cell_i, vp_cell_i, arrV_store, iI_clamp hi.1 (by omega)]
  congr 2
  funext q
  by_cases hq : q = i.toNat
  · subst hq
    simp [updV, upd]
  · simp [updV, upd, hq]
theorem x_zast (h : xM own cc nL R l G ct P) {r n : Nat} {f : Int → Int} {i v : Int} (hw : w r = some (aZ G n f)) (hi : 0 ≤ i ∧ i < n ∧ n ≤ 2147483647) (hv : narrow .boolean (.int (iI v)) = .int (iI v)) (d : decode cc pc = .ok (.bastore, 1)) (kk : P (pc + 1) ls st (wS w r (aZ G n (fU f i v))) a) : P pc ls (.int (iI v) :: .int (iI i) :: .ref r :: st) w a := by
  obtain ⟨p, e, s, m, args, below, meth, c, Q, ⟨hx, hb, hml, hown, hts⟩, hK, hct, rfl⟩ := h
  intro H locs lsA h1 h2 h3 h4 h5
  obtain ⟨ha, hr⟩ := h1 _ _ hw
  refine W.zast hx hb ha ((hK.1.2 3 _ rfl).1 n (fun j => .int (iI (f j)))) (fun q => by cases q) (by show ¬ (iI i < 0 ∨ (arrV _ _ _).slots.size ≤ _); rw [arrV_size]; exact iI_in hi.1 hi.2.1 hi.2.2) rfl rfl d fun H1 e1 z oq => ?_
  refine kk H1 _ lsA (gH_put h1 hw ?_ oq) (z.trans h2) (h3.put z oq hr) h4 h5
  show H1[r]? = some (vp_cell _ _)
  rw [e1, hv]
  rw [up_fU hi.1, vp_cell_i, vp_cell_i, arrV_store, iI_clamp hi.1 (by omega)]
  congr 2
  funext q
  by_cases hq : q = i.toNat
  · subst hq
    simp [updV, upd]
  · simp [updV, upd, hq]
theorem x_cast (h : xM own cc nL R l G ct P) {r n : Nat} {f : Int → Int} {i v : Int} (hw : w r = some (aC G n f)) (hi : 0 ≤ i ∧ i < n ∧ n ≤ 2147483647) (hv : narrow .char (.int (iI v)) = .int (iI v)) (d : decode cc pc = .ok (.castore, 1)) (kk : P (pc + 1) ls st (wS w r (aC G n (fU f i v))) a) : P pc ls (.int (iI v) :: .int (iI i) :: .ref r :: st) w a := by
  obtain ⟨p, e, s, m, args, below, meth, c, Q, ⟨hx, hb, hml, hown, hts⟩, hK, hct, rfl⟩ := h
  intro H locs lsA h1 h2 h3 h4 h5
  obtain ⟨ha, hr⟩ := h1 _ _ hw
  refine W.cast hx hb ha ((hK.1.2 2 _ rfl).1 n (fun j => .int (iI (f j)))) (fun q => by cases q) (by show ¬ (iI i < 0 ∨ (arrV _ _ _).slots.size ≤ _); rw [arrV_size]; exact iI_in hi.1 hi.2.1 hi.2.2) rfl rfl d fun H1 e1 z oq => ?_
  refine kk H1 _ lsA (gH_put h1 hw ?_ oq) (z.trans h2) (h3.put z oq hr) h4 h5
  show H1[r]? = some (vp_cell _ _)
  rw [e1, hv]
  rw [up_fU hi.1, vp_cell_i, vp_cell_i, arrV_store, iI_clamp hi.1 (by omega)]
  congr 2
  funext q
  by_cases hq : q = i.toNat
  · subst hq
    simp [updV, upd]
  · simp [updV, upd, hq]
theorem x_last (h : xM own cc nL R l G ct P) {r n : Nat} {f : Int → Int64} {i : Int} {v : Int64} (hw : w r = some (aJ G n f)) (hi : 0 ≤ i ∧ i < n ∧ n ≤ 2147483647) (d : decode cc pc = .ok (.lastore, 1)) (kk : P (pc + 1) ls st (wS w r (aJ G n (fU f i v))) a) : P pc ls (.long v :: .int (iI i) :: .ref r :: st) w a := by
  obtain ⟨p, e, s, m, args, below, meth, c, Q, ⟨hx, hb, hml, hown, hts⟩, hK, hct, rfl⟩ := h
  intro H locs lsA h1 h2 h3 h4 h5
  obtain ⟨ha, hr⟩ := h1 _ _ hw
  refine W.last hx hb ha ((hK.1.2 1 _ rfl).1 n (fun j => .long (f j))) (fun q => by cases q) (by show ¬ (iI i < 0 ∨ (arrV _ _ _).slots.size ≤ _); rw [arrV_size]; exact iI_in hi.1 hi.2.1 hi.2.2) rfl rfl d fun H1 e1 z oq => ?_
  refine kk H1 _ lsA (gH_put h1 hw ?_ oq) (z.trans h2) (h3.put z oq hr) h4 h5
  show H1[r]? = some (vp_cell _ _)
  rw [e1]
  rw [vp_cell_l, vp_cell_l, arrV_store, iI_clamp hi.1 (by omega)]
  congr 2
  funext q
  unfold fU updV
  by_cases hq : q = i.toNat
  · subst hq
    rw [if_pos rfl, if_pos (by omega)]
  · rw [if_neg hq, if_neg (by omega)]
theorem x_aast (h : xM own cc nL R l G ct P) {r n v : Nat} {f : Int → Option Nat} {i : Int} {vs : List Value} (hw : w r = some (aQ G n f)) (hv : w v = some (.inr (3, vs))) (hi : 0 ≤ i ∧ i < n ∧ n ≤ 2147483647) (d : decode cc pc = .ok (.aastore, 1)) (kk : P (pc + 1) ls st (wS w r (aQ G n (fU f i (some v)))) a) : P pc ls (.ref v :: .int (iI i) :: .ref r :: st) w a := by
  obtain ⟨p, e, s, m, args, below, meth, c, Q, ⟨hx, hb, hml, hown, hts⟩, hK, hct, rfl⟩ := h
  intro H locs lsA h1 h2 h3 h4 h5
  obtain ⟨ha, hr⟩ := h1 _ _ hw
  obtain ⟨⟨r1, g1, cellv, g2, g3, g4, g5⟩, hrv⟩ := h1 _ _ hv
  have hr1 : r1 = (RX3, TX3, 10) := Option.some.inj (g1.symm.trans rfl)
  subst hr1
  obtain ⟨hS, hfc, kC, hkC, hkind⟩ := hK.1.1 3 _ (rfl : vwCl[3]? = some (RX3, TX3, 10))
  obtain ⟨-, kA, comp, a1, a2, a3, -⟩ := hK.1.2 4 _ (rfl : (gT G)[4]? = some (G.2.1 4, .object "RangeDeeds$Register"))
  have hcls : comp = G.1.1 3 := Option.some.inj (a3.symm.trans hfc)
  refine W.aast hx hb ha (fun q h => by cases h) (fun h => by cases h) a1 a2 rfl (by rw [hcls]; exact hkC) ⟨?_, ?_⟩ g2 (fun q h => by rw [g4] at h; cases h) (by rw [g3]; exact hkC) (by rw [g3, hcls]; exact va_assign (C := RX3) ⟨hfc, kC, hkC, hkind⟩) rfl rfl d fun H1 e1 z oq => ?_
  · exact fun q => iI_in hi.1 hi.2.1 hi.2.2 (Or.inl q)
  · show _ < (arrV _ _ _).slots.size
    rw [arrV_size]
    exact Nat.not_le.mp fun q => iI_in hi.1 hi.2.1 hi.2.2 (Or.inr q)
  refine kk H1 _ lsA (gH_put h1 hw ?_ oq) (z.trans h2) (h3.put z oq hr) h4 h5
  show H1[r]? = some (vp_cell _ _)
  rw [e1]
  rw [vp_cell_q, vp_cell_q, arrV_store, iI_clamp hi.1 (by omega)]
  congr 2
  funext q
  unfold fU updV
  by_cases hq : q = i.toNat
  · subst hq
    rw [if_pos rfl, if_pos (by omega)]
    rfl
  · rw [if_neg hq, if_neg (by omega)]
/-! making -/
theorem x_new (h : xM own cc nL R l G ct P) {idx ci : Nat} {fs : List Value} {q : vw_C} (hq : vwCl[ci]? = some q) (hl : Wl ci) (hlk : Cond.classLink own idx q.1 ∈ gd_w) (hin : Cond.instantiable q.1 q.2.2 ∈ gd_w) (hini : Cond.initialized q.1 ∈ gd_w) (ty : Nat → FieldType) (hty : ∀ k, k < q.2.2 → parseFieldDescriptor (q.2.1 k).2.2.1 = some (ty k)) (hfs : ∀ j, j < q.2.2 → defaultValue (ty j) = vp_V fs j) {z k n : Nat} (hc : k + 1 ≤ R.cells) (hs : n + q.2.2 ≤ R.slots) (d : decode cc pc = .ok (.new idx, 3)) (kk : P (pc + 3) ls (.ref z :: st) (wS w z (.inr (ci, fs))) (z + 1, k + 1, n + q.2.2)) : P pc ls st w (z, k, n) := by
  obtain ⟨p, e, s, m, args, below, meth, c, Q, ⟨hx, hb, hml, hown, hts⟩, hK, hct, rfl⟩ := h
  intro H locs lsA h1 h2 h3 h4 h5
  obtain ⟨l1, -, l3⟩ := hl _ hq
  have hKn := hK.1.1 ci _ hq
  refine W.newcK hx hb hown (hts _ hlk) (hts _ hin) (hts _ hini) rfl d hc hs hKn.2.1 h2 fun H1 kC hkC e1 z1 o1 => ?_
  have hzb : G.2.2.1 ≤ z := by have := hK.2.2.1; have := h3.1; have h2' : H.size = z := h2; omega
  refine kk H1 locs lsA (gH_new h1 h2 hzb ⟨_, hq, (u_born ty hts l1 hKn hkC e1 hty).to hfs⟩ o1) z1 ⟨Nat.le_trans h3.1 (by have h2' : H.size = z := h2; omega), fun x g1 g2 => ?_, h3.2.2⟩ h4 h5
  rw [o1 x (by have := h3.1; have h2' : H.size = z := h2; omega)]
  exact h3.2.1 x g1 g2
theorem x_newI (h : xM own cc nL R l G ct P) {x : Int} {z k n N : Nat} (hw : Cond.arrayClass .int ∈ gd_w) (hx0 : 0 ≤ x) (hx1 : x.toNat = N) (hx2 : N ≤ 100000) (hc : k + 1 ≤ R.cells) (hs : n + N ≤ R.slots) (d : decode cc pc = .ok (.newarray .int, 2)) (kk : P (pc + 2) ls (.ref z :: st) (wS w z (aI G N (fun _ => 0))) (z + 1, k + 1, n + N)) : P pc ls (.int (iI x) :: st) w (z, k, n) := by
  obtain ⟨p, e, s, m, args, below, meth, c, Q, ⟨hx, hb, hml, hown, hts⟩, hK, hct, rfl⟩ := h
  intro H locs lsA h1 h2 h3 h4 h5
  refine va_newaK (atype := .int) (N := N) hx hb (hts _ hw) rfl d rfl (iI_nn hx0 (by omega)) (by rw [iI_clamp hx0 (by omega)]; exact hx1) (Nat.le_trans (Nat.mul_le_mul_right _ hx2) (Nat.le_of_ble_eq_true rfl)) hc hs h2 fun H1 cA e1 z1 o1 hAr hNm => ?_
  have hzb : G.2.2.1 ≤ z := by have := hK.2.2.1; have := h3.1; have h2' : H.size = z := h2; omega
  have hcA : cA = G.2.1 0 := Option.some.inj (hNm.symm.trans (hK.1.2 0 _ rfl).2)
  refine kk H1 locs lsA (gH_new h1 h2 hzb ?_ o1) z1 ⟨Nat.le_trans h3.1 (by have h2' : H.size = z := h2; omega), fun x g1 g2 => ?_, h3.2.2⟩ h4 h5
  · show H1[z]? = some (vp_cell _ _)
    rw [e1, hcA]
    rfl
  · rw [o1 x (by have := h3.1; have h2' : H.size = z := h2; omega)]
    exact h3.2.1 x g1 g2
theorem x_newJ (h : xM own cc nL R l G ct P) {x : Int} {z k n N : Nat} (hw : Cond.arrayClass .long ∈ gd_w) (hx0 : 0 ≤ x) (hx1 : x.toNat = N) (hx2 : N ≤ 100000) (hc : k + 1 ≤ R.cells) (hs : n + N ≤ R.slots) (d : decode cc pc = .ok (.newarray .long, 2)) (kk : P (pc + 2) ls (.ref z :: st) (wS w z (aJ G N (fun _ => 0))) (z + 1, k + 1, n + N)) : P pc ls (.int (iI x) :: st) w (z, k, n) := by
  obtain ⟨p, e, s, m, args, below, meth, c, Q, ⟨hx, hb, hml, hown, hts⟩, hK, hct, rfl⟩ := h
  intro H locs lsA h1 h2 h3 h4 h5
  refine va_newaK (atype := .long) (N := N) hx hb (hts _ hw) rfl d rfl (iI_nn hx0 (by omega)) (by rw [iI_clamp hx0 (by omega)]; exact hx1) (Nat.le_trans (Nat.mul_le_mul_right _ hx2) (Nat.le_of_ble_eq_true rfl)) hc hs h2 fun H1 cA e1 z1 o1 hAr hNm => ?_
  have hzb : G.2.2.1 ≤ z := by have := hK.2.2.1; have := h3.1; have h2' : H.size = z := h2; omega
  have hcA : cA = G.2.1 1 := Option.some.inj (hNm.symm.trans (hK.1.2 1 _ rfl).2)
  refine kk H1 locs lsA (gH_new h1 h2 hzb ?_ o1) z1 ⟨Nat.le_trans h3.1 (by have h2' : H.size = z := h2; omega), fun x g1 g2 => ?_, h3.2.2⟩ h4 h5
  · show H1[z]? = some (vp_cell _ _)
    rw [e1, hcA]
    rfl
  · rw [o1 x (by have := h3.1; have h2' : H.size = z := h2; omega)]
    exact h3.2.1 x g1 g2
theorem x_newC (h : xM own cc nL R l G ct P) {x : Int} {z k n N : Nat} (hw : Cond.arrayClass .char ∈ gd_w) (hx0 : 0 ≤ x) (hx1 : x.toNat = N) (hx2 : N ≤ 100000) (hc : k + 1 ≤ R.cells) (hs : n + N ≤ R.slots) (d : decode cc pc = .ok (.newarray .char, 2)) (kk : P (pc + 2) ls (.ref z :: st) (wS w z (aC G N (fun _ => 0))) (z + 1, k + 1, n + N)) : P pc ls (.int (iI x) :: st) w (z, k, n) := by
  obtain ⟨p, e, s, m, args, below, meth, c, Q, ⟨hx, hb, hml, hown, hts⟩, hK, hct, rfl⟩ := h
  intro H locs lsA h1 h2 h3 h4 h5
  refine va_newaK (atype := .char) (N := N) hx hb (hts _ hw) rfl d rfl (iI_nn hx0 (by omega)) (by rw [iI_clamp hx0 (by omega)]; exact hx1) (Nat.le_trans (Nat.mul_le_mul_right _ hx2) (Nat.le_of_ble_eq_true rfl)) hc hs h2 fun H1 cA e1 z1 o1 hAr hNm => ?_
  have hzb : G.2.2.1 ≤ z := by have := hK.2.2.1; have := h3.1; have h2' : H.size = z := h2; omega
  have hcA : cA = G.2.1 2 := Option.some.inj (hNm.symm.trans (hK.1.2 2 _ rfl).2)
  refine kk H1 locs lsA (gH_new h1 h2 hzb ?_ o1) z1 ⟨Nat.le_trans h3.1 (by have h2' : H.size = z := h2; omega), fun x g1 g2 => ?_, h3.2.2⟩ h4 h5
  · show H1[z]? = some (vp_cell _ _)
    rw [e1, hcA]
    rfl
  · rw [o1 x (by have := h3.1; have h2' : H.size = z := h2; omega)]
    exact h3.2.1 x g1 g2
theorem x_newZ (h : xM own cc nL R l G ct P) {x : Int} {z k n N : Nat} (hw : Cond.arrayClass .boolean ∈ gd_w) (hx0 : 0 ≤ x) (hx1 : x.toNat = N) (hx2 : N ≤ 100000) (hc : k + 1 ≤ R.cells) (hs : n + N ≤ R.slots) (d : decode cc pc = .ok (.newarray .boolean, 2)) (kk : P (pc + 2) ls (.ref z :: st) (wS w z (aZ G N (fun _ => 0))) (z + 1, k + 1, n + N)) : P pc ls (.int (iI x) :: st) w (z, k, n) := by
  obtain ⟨p, e, s, m, args, below, meth, c, Q, ⟨hx, hb, hml, hown, hts⟩, hK, hct, rfl⟩ := h
  intro H locs lsA h1 h2 h3 h4 h5
  refine va_newaK (atype := .boolean) (N := N) hx hb (hts _ hw) rfl d rfl (iI_nn hx0 (by omega)) (by rw [iI_clamp hx0 (by omega)]; exact hx1) (Nat.le_trans (Nat.mul_le_mul_right _ hx2) (Nat.le_of_ble_eq_true rfl)) hc hs h2 fun H1 cA e1 z1 o1 hAr hNm => ?_
  have hzb : G.2.2.1 ≤ z := by have := hK.2.2.1; have := h3.1; have h2' : H.size = z := h2; omega
  have hcA : cA = G.2.1 3 := Option.some.inj (hNm.symm.trans (hK.1.2 3 _ rfl).2)
  refine kk H1 locs lsA (gH_new h1 h2 hzb ?_ o1) z1 ⟨Nat.le_trans h3.1 (by have h2' : H.size = z := h2; omega), fun x g1 g2 => ?_, h3.2.2⟩ h4 h5
  · show H1[z]? = some (vp_cell _ _)
    rw [e1, hcA]
    rfl
  · rw [o1 x (by have := h3.1; have h2' : H.size = z := h2; omega)]
    exact h3.2.1 x g1 g2
theorem x_newQ (h : xM own cc nL R l G ct P) {idx : Nat} {x : Int} {z k n N : Nat} (hw : Cond.classLink own idx "RangeDeeds$Register" ∈ gd_w) (hx0 : 0 ≤ x) (hx1 : x.toNat = N) (hx2 : N ≤ 100000) (hc : k + 1 ≤ R.cells) (hs : n + N ≤ R.slots) (d : decode cc pc = .ok (.anewarray idx, 3)) (kk : P (pc + 3) ls (.ref z :: st) (wS w z (aQ G N (fun _ => none))) (z + 1, k + 1, n + N)) : P pc ls (.int (iI x) :: st) w (z, k, n) := by
  obtain ⟨p, e, s, m, args, below, meth, c, Q, ⟨hx, hb, hml, hown, hts⟩, hK, hct, rfl⟩ := h
  intro H locs lsA h1 h2 h3 h4 h5
  have hN : (iI x).toNatClampNeg = N := by rw [iI_clamp hx0 (by omega)]; exact hx1
  subst hN
  refine W.anew hx hb hown (hts _ hw) (va_AO.use hK.2.2.2.1) rfl d rfl (iI_nn hx0 (by omega)) (Nat.le_trans (Nat.mul_le_mul_right _ hx2) (Nat.le_of_ble_eq_true rfl)) hc hs fun cA kA comp f1 f2 f3 f4 => ?_
  have h2' : H.size = z := h2
  have hzb : G.2.2.1 ≤ z := by have := hK.2.2.1; have := h3.1; omega
  obtain ⟨-, kA', comp', b1, b2, b3, b4⟩ := hK.1.2 4 _ (rfl : (gT G)[4]? = some (G.2.1 4, .object "RangeDeeds$Register"))
  have hcA : cA = G.2.1 4 := Option.some.inj (f1.symm.trans b4)
  generalize hH1 : H.push ({ cls := cA, slots := Array.replicate (iI x).toNatClampNeg .null, vm := .none } : Cell) = H1
  have z1 : H1.size = H.size + 1 := by rw [← hH1, Array.size_push]
  have e1 : H1[H.size]? = some (arrV cA (iI x).toNatClampNeg (fun _ => .null)) := by rw [← hH1, Array.getElem?_push_size, ← arrV_new]
  have o1 : ∀ q : Nat, q < H.size → H1[q]? = H[q]? := fun q hq => by rw [← hH1, Array.getElem?_push, if_neg (Nat.ne_of_lt hq)]
  rw [h2'] at e1 z1 o1 ⊢
  refine kk H1 locs lsA (gH_new h1 h2 hzb ?_ o1) z1 ⟨Nat.le_trans h3.1 (by omega), fun x g1 g2 => ?_, h3.2.2⟩ h4 h5
  · show H1[z]? = some (vp_cell _ _)
    rw [e1, hcA]
    rfl
  · rw [o1 x (by have := h3.1; omega)]
    exact h3.2.1 x g1 g2
theorem x_widen (h : xM own cc nL R l G ct P) {z k n k2 n2 : Nat} (h1 : k ≤ k2) (h2 : n ≤ n2) (kk : P pc ls st w (z, k2, n2)) : P pc ls st w (z, k, n) := by
  obtain ⟨p, e, s, m, args, below, meth, c, Q, ⟨hx, hb, hml, hown, hts⟩, hK, hct, rfl⟩ := h
  intro H locs lsA g1 g2 g3 g4 g5
  exact W.widen h1 h2 (kk H locs lsA g1 g2 g3 g4 g5)
end XR
end
section
/-! contracts and calls -/
abbrev xPo : Type := Option Value → Wd → Nat → Prop
def xQ (G : xG) (post : xPo) : Array Value → State → Outcome → State → Prop := fun _ st oc t => (∃ (r : Option Value) (w1 : Wd), oc = .returned r ∧ post r w1 t.heap.size ∧ gH G w1 t.heap) ∧ va_F (gA G) st t
def xPre (G : xG) (av : List Value) (w : Wd) (z : Nat) : Array Value → State → Prop := va_Pc av (fun U => U.heap.size = z ∧ gH G w U.heap ∧ gK G U)
/-- method y, begun with the arguments av in the world w (z cells), returns, and post holds of what it returns, the world and its size behind it -/
def xMet (l : Launch) (G : xG) (y : MethodName) (cc : ByteArray) (nL : Nat) (ret : Option FieldType) (rm : Room) (av : List Value) (w : Wd) (z : Nat) (post : xPo) : Prop :=
  Met l y (.code y cc nL ret :: gd_w) rm (xPre G av w z) (xQ G post) rm.cells rm.slots (gA G)
def xR (cc : ByteArray) (ret : Option FieldType) (rm : Room) (post : xPo) (P : xT) : Prop :=
  (∀ (pc : Nat) (ls : List (Option Value)) (w : Wd) (z k n : Nat) (x : Int32) (ty : FieldType), ret = some ty → narrow ty (.int x) = .int x → decode cc pc = .ok (.ireturn, 1) → k ≤ rm.cells → n ≤ rm.slots → post (some (.int x)) w z → P pc ls [.int x] w (z, k, n)) ∧
  (∀ (pc : Nat) (ls : List (Option Value)) (w : Wd) (z k n : Nat) (x : Int64), ret = some .long → decode cc pc = .ok (.lreturn, 1) → k ≤ rm.cells → n ≤ rm.slots → post (some (.long x)) w z → P pc ls [.long x] w (z, k, n)) ∧
  (∀ (pc : Nat) (ls : List (Option Value)) (w : Wd) (z k n : Nat), ret = none → decode cc pc = .ok (.return_, 1) → k ≤ rm.cells → n ≤ rm.slots → post none w z → P pc ls [] w (z, k, n))
theorem xMet_of {l : Launch} {G : xG} {y : MethodName} {cc : ByteArray} {nL : Nat} {ret : Option FieldType} {rm : Room} {av : List Value} {w : Wd} {z : Nat} {post : xPo} (own : String) (hy : y.cls = own) (hp : plainName y.cls = true) (ct : Bool) (hct : ct = true → y.name = "<init>") (hsz : (lg_sl av).length ≤ nL) {ls0 : List (Option Value)} (hls : xe nL av = ls0)
    (body : ∀ P : xT, xM own cc nL rm l G ct P → xR cc ret rm post P → P 0 ls0 [] w (z, 0, 0)) : xMet l G y cc nL ret rm av w z post := by
  refine Met.ofW (cc := cc) (maxL := nL) (ret := ret) hp rfl ?_
  intro p e s m args below meth c s₁ B hml hv
  obtain ⟨rfl, hsz2, hH, hK⟩ := hv
  have hts := atoms_spec (ws := .code y cc nL ret :: gd_w) B.pre
  have hown : s.vm.findClass own = some m.cls := by rw [← hy]; exact findClass_of_methodNamed B.named
  have hin : meth.name = y.name := (name_of_methodNamed B.named B.method).1
  have hb := B.bytes
  have hx := B.exec
  have hr := B.returns
  have hlocks := B.notSynchronized
  have X := body _ ⟨p, e, s, m, av.toArray, below, meth, c, MQ below (xQ G post) av.toArray s rm.cells rm.slots (gA G), ⟨hx, hb, hml, hown, fun w hw => hts w (List.mem_cons_of_mem _ hw)⟩, hK, (fun h => hin.trans (hct h)), rfl⟩ ?_
  · rw [lg_entry_eq]
    exact X s.heap [] _ hH hsz2 va_S.rf (by rw [← hls]; exact xe_entry av hsz) (by rw [← hls]; simp only [xe, List.length_append, List.length_replicate, xe_len]; omega)
  · refine ⟨?_, ?_, ?_⟩
    · intro pc ls w1 z1 k n x ty h1 h2 h3 h4 h5 h6 H locs lsA g1 g2 g3 g4 g5
      refine W.widen h4 h5 ?_
      exact W.zret hx hb (hr.trans h1) h2 (fun t ht hW => ⟨⟨_, w1, rfl, by rw [ht, g2]; exact h6, by rw [ht]; exact g1⟩, g3.F ht⟩) g3.2.2 h3
    · intro pc ls w1 z1 k n x h1 h3 h4 h5 h6 H locs lsA g1 g2 g3 g4 g5
      refine W.widen h4 h5 ?_
      exact W.lret hx hb (hr.trans h1) (fun t ht hW => ⟨⟨_, w1, rfl, by rw [ht, g2]; exact h6, by rw [ht]; exact g1⟩, g3.F ht⟩) g3.2.2 h3
    · intro pc ls w1 z1 k n h1 h3 h4 h5 h6 H locs lsA g1 g2 g3 g4 g5
      refine W.widen h4 h5 ?_
      exact W.vret hx hb (hr.trans h1) (fun t ht hW => ⟨⟨_, w1, rfl, by rw [ht, g2]; exact h6, by rw [ht]; exact g1⟩, g3.F ht⟩) g3.2.2 h3
section XC
variable {own : String} {cc : ByteArray} {nL : Nat} {R : Room} {l : Launch} {G : xG} {ct : Bool} {P : xT} {pc : Nat} {ls : List (Option Value)} {st : List Value} {w : Wd} {a : Nat × Nat × Nat}
/-- words of a virtual call -/
def Wv (own : String) (idx : Nat) (C : String) (y : MethodName) (c2 : ByteArray) (n2 : Nat) (ret : Option FieldType) (np : Nat) : Prop :=
  Cond.methodLink own idx y ∈ gd_w ∧ Cond.instanceMethod y ∈ gd_w ∧ Cond.selects C y y ∈ gd_w ∧ Cond.initialized C ∈ gd_w ∧ Cond.code y c2 n2 ret ∈ gd_w ∧ (y.cls = C ∧ y.cls ≠ "java/lang/invoke/MethodHandle" ∧ y.cls ≠ "java/lang/invoke/VarHandle" ∧ (parseMethodDescriptor y.desc).map (fun d => d.parameters.length) = some np)
/-- words of a static call -/
def Ws (own : String) (idx : Nat) (y : MethodName) (c2 : ByteArray) (n2 : Nat) (ret : Option FieldType) (np : Nat) : Prop :=
  Cond.methodLink own idx y ∈ gd_w ∧ Cond.static y ∈ gd_w ∧ Cond.initialized y.cls ∈ gd_w ∧ Cond.code y c2 n2 ret ∈ gd_w ∧ (y.cls ≠ "java/lang/invoke/MethodHandle" ∧ y.cls ≠ "java/lang/invoke/VarHandle" ∧ (parseMethodDescriptor y.desc).map (fun d => d.parameters.length) = some np)
/-- words of a constructor's call -/
def Wi (own : String) (idx : Nat) (y : MethodName) (c2 : ByteArray) (n2 : Nat) (np : Nat) : Prop :=
  (Cond.methodLink own idx y ∈ gd_w ∨ ∃ host : String, Cond.methodLinkNest own idx y host ∈ ns_w) ∧ Cond.instanceMethod y ∈ gd_w ∧ Cond.initialized y.cls ∈ gd_w ∧ Cond.code y c2 n2 none ∈ gd_w ∧ y.name = "<init>" ∧ (y.cls ≠ "java/lang/invoke/MethodHandle" ∧ y.cls ≠ "java/lang/invoke/VarHandle" ∧ (parseMethodDescriptor y.desc).map (fun d => d.parameters.length) = some np)
theorem xBlind {G : xG} {av : List Value} {w : Wd} {z : Nat} : FrameBlind (xPre G av w z) := fun a U g mk h => ⟨h.1, h.2.1, h.2.2.1, gK_calling h.2.2.2⟩
theorem x_after {p : Program} {e : Env} {s : State} {m : MethodId} {args : Array Value} {below : List Frame} {meth : Method} {c : Code} {Q : State → Prop} {H : Heap} {locs : List Loc} {lsA : Array Slot} {k n mc ms : Nat} {post : xPo} {av st0 : List Value} (hr : va_Run p l e R s m args below meth c H locs k n mc ms (F0 m pc lsA st0) st (xQ G post av.toArray) (gA G)) (h3 : va_S (gA G) s.heap H locs)
    (kk : ∀ (r : Option Value) (w1 : Wd) (H1 : Heap) (locs1 : List Loc), post r w1 H1.size → gH G w1 H1 → va_S (gA G) s.heap H1 locs1 → W p l e R s m args below meth c H1 locs1 (k + mc) (n + ms) Q (F0 m (pc + 3) lsA (r.toList ++ st))) : W p l e R s m args below meth c H locs k n Q (F0 m pc lsA st0) := by
  intro T hT X
  obtain ⟨v, st₀, t, T', L, h0, X', hL, e1, e2, ⟨⟨r, w1, hv, hp, hb⟩, hz, hk⟩, stp⟩ := hr T hT X
  cases hv
  rw [h0] at hz hk
  obtain ⟨t2, a1, b1⟩ := kk v w1 T'.heap (locs ++ L) (by rw [e1]; exact hp) (by rw [e1]; exact hb) ⟨Nat.le_trans h3.1 (by rw [e1]; exact hz), fun q g1 g2 => by rw [e1, hk q (Nat.lt_of_lt_of_le g1 h3.1) g2]; exact h3.2.1 q g1 g2, fun q hq => by
      rcases List.mem_append.mp hq with h | h
      · exact h3.2.2 q h
      · exact hL q h⟩ T' rfl X'
  exact ⟨t2, stp t2 a1, b1⟩
theorem x_callV (h : xM own cc nL R l G ct P) {idx n2 np : Nat} {C : String} {y : MethodName} {c2 : ByteArray} {ret : Option FieldType} (hw : Wv own idx C y c2 n2 ret np) {rm : Room} {As stk fs : List Value} {post : xPo} {b z k n ci : Nat} {q : vw_C} (hm : xMet l G y c2 n2 ret rm (.ref b :: As) w z post) (hR : rm.frames + 1 ≤ R.frames ∧ 8 + (n2 + 11) + rm.locals ≤ R.locals) (hrec : w b = some (.inr (ci, fs))) (hci : vwCl[ci]? = some q) (hC : q.1 = C) (hn : As.length = np) (hst : stk = As.reverse ++ .ref b :: st) (hro : (st.map fun v => v.category).sum ≤ 8) (hc : k + rm.cells ≤ R.cells ∧ n + rm.slots ≤ R.slots) (d : decode cc pc = .ok (.invokevirtual idx, 3))
    (kk : ∀ (r : Option Value) (w1 : Wd) (z1 : Nat), post r w1 z1 → P (pc + 3) ls (r.toList ++ st) w1 (z1, k + rm.cells, n + rm.slots)) : P pc ls stk w (z, k, n) := by
  obtain ⟨p, e, s, m, args, below, meth, c, Q, CF, hK, hct, rfl⟩ := h
  intro H locs lsA h1 h2 h3 h4 h5
  obtain ⟨hx, hb, hml, hown, hts⟩ := id CF
  obtain ⟨w1, w2, w3, w4, w5, w6⟩ := hw
  have hG : GoodIn gd_w (wsV own idx C y (.code y c2 n2 ret :: gd_w)) := by
    intro x hx
    unfold wsV at hx
    rcases List.mem_append.mp hx with hx | hx
    · have hm : x ∈ gd_w := by
        simp only [List.mem_cons, List.not_mem_nil, or_false] at hx
        rcases hx with rfl | rfl | rfl | rfl <;> assumption
      exact ⟨hm, good_of_word (List.mem_filter.mp hm).2⟩
    · exact gd_in w5 x hx
  refine x_after (Q := Q) (av := .ref b :: As) (mc := rm.cells) (ms := rm.slots) (post := post) (va_runV CF hm (cwV np hts hG rfl rfl rfl w6 hR) ⟨xBlind, va_recv (q0 := 0) hK.1 (gH_of h1 hrec) hci rfl |> fun z => by rw [← hC]; exact z, fun U hU hW => ⟨rfl, by rw [hU]; exact h2, by rw [hU]; exact h1, gK_moved hW hK (by rw [hU]; exact h3)⟩⟩ rfl hn (h4.1.trans h5) hst (lv_room hro) d hc) h3 ?_
  intro r w1' H1 locs1 g1 g2 g3
  exact kk r w1' H1.size g1 H1 locs1 lsA g2 rfl g3 h4 h5
theorem x_callS (h : xM own cc nL R l G ct P) {idx n2 np : Nat} {y : MethodName} {c2 : ByteArray} {ret : Option FieldType} (hw : Ws own idx y c2 n2 ret np) {rm : Room} {As stk : List Value} {post : xPo} {z k n : Nat} (hm : xMet l G y c2 n2 ret rm As w z post) (hR : rm.frames + 1 ≤ R.frames ∧ 8 + (n2 + 11) + rm.locals ≤ R.locals) (hn : As.length = np) (hst : stk = As.reverse ++ st) (hro : (st.map fun v => v.category).sum ≤ 8) (hc : k + rm.cells ≤ R.cells ∧ n + rm.slots ≤ R.slots) (d : decode cc pc = .ok (.invokestatic idx, 3))
    (kk : ∀ (r : Option Value) (w1 : Wd) (z1 : Nat), post r w1 z1 → P (pc + 3) ls (r.toList ++ st) w1 (z1, k + rm.cells, n + rm.slots)) : P pc ls stk w (z, k, n) := by
  obtain ⟨p, e, s, m, args, below, meth, c, Q, CF, hK, hct, rfl⟩ := h
  intro H locs lsA h1 h2 h3 h4 h5
  obtain ⟨hx, hb, hml, hown, hts⟩ := id CF
  obtain ⟨w1, w2, w3, w5, w6⟩ := hw
  refine x_after (Q := Q) (av := As) (mc := rm.cells) (ms := rm.slots) (post := post) (va_runS CF hm ⟨callB_of np hts (gd_in w5) rfl rfl rfl (hts _ w3) (hts _ w1) w6 hR, hts _ w2⟩ ⟨xBlind, fun U hU hW => ⟨rfl, by rw [hU]; exact h2, by rw [hU]; exact h1, gK_moved hW hK (by rw [hU]; exact h3)⟩⟩ rfl hn (h4.1.trans h5) hst (lv_room hro) d hc) h3 ?_
  intro r w1' H1 locs1 g1 g2 g3
  exact kk r w1' H1.size g1 H1 locs1 lsA g2 rfl g3 h4 h5
theorem x_callI (h : xM own cc nL R l G ct P) {idx n2 np : Nat} {y : MethodName} {c2 : ByteArray} (hw : Wi own idx y c2 n2 np) {rm : Room} {As stk : List Value} {post : xPo} {b z k n : Nat} (hm : xMet l G y c2 n2 none rm (.ref b :: As) w z post) (hR : rm.frames + 1 ≤ R.frames ∧ 8 + (n2 + 11) + rm.locals ≤ R.locals) (hn : As.length = np) (hst : stk = As.reverse ++ .ref b :: st) (hro : (st.map fun v => v.category).sum ≤ 8) (hc : k + rm.cells ≤ R.cells ∧ n + rm.slots ≤ R.slots) (d : decode cc pc = .ok (.invokespecial idx, 3))
    (kk : ∀ (r : Option Value) (w1 : Wd) (z1 : Nat), post r w1 z1 → P (pc + 3) ls (r.toList ++ st) w1 (z1, k + rm.cells, n + rm.slots)) : P pc ls stk w (z, k, n) := by
  obtain ⟨p, e, s, m, args, below, meth, c, Q, CF, hK, hct, rfl⟩ := h
  intro H locs lsA h1 h2 h3 h4 h5
  obtain ⟨hx, hb, hml, hown, hts⟩ := id CF
  obtain ⟨w1, w2, w3, w5, wn, w6⟩ := hw
  have hpre : PreS s H (xPre G (.ref b :: As) w z) (.ref b :: As) := ⟨xBlind, fun U hU hW => ⟨rfl, by rw [hU]; exact h2, by rw [hU]; exact h1, gK_moved hW hK (by rw [hU]; exact h3)⟩⟩
  rcases w1 with w1 | ⟨host, w1⟩
  · refine x_after (Q := Q) (av := .ref b :: As) (mc := rm.cells) (ms := rm.slots) (post := post) (va_runI CF hm (cwI np hts (gd_in w5) rfl rfl rfl (hts _ w3) (hts _ w1) (hts _ w2) wn w6 hR) hpre rfl hn (h4.1.trans h5) hst (lv_room hro) d hc) h3 ?_
    intro r w1' H1 locs1 g1 g2 g3
    exact kk r w1' H1.size g1 H1 locs1 lsA g2 rfl g3 h4 h5
  · refine x_after (Q := Q) (av := .ref b :: As) (mc := rm.cells) (ms := rm.slots) (post := post) (va_runIN CF hm ⟨va_cnB np hts (gd_in w5) rfl rfl rfl (hK.2.1 _ w1) (hts _ w3) w6 hR, wn, hts _ w2⟩ hpre rfl hn (h4.1.trans h5) hst (lv_room hro) d hc) h3 ?_
    intro r w1' H1 locs1 g1 g2 g3
    exact kk r w1' H1.size g1 H1 locs1 lsA g2 rfl g3 h4 h5
theorem x_objInit (h : xM own cc nL R l G ct P) {idx b : Nat} (hw : Cond.methodLink own idx Lib.objectInit ∈ gd_w ∧ Cond.instanceMethod Lib.objectInit ∈ gd_w ∧ Cond.code Lib.objectInit ⟨#[0xb1]⟩ 1 none ∈ gd_w) (hf : 1 ≤ R.frames) (hlo : (st.map fun v => v.category).sum + 12 ≤ R.locals) (d : decode cc pc = .ok (.invokespecial idx, 3)) (kk : P (pc + 3) ls st w a) : P pc ls (.ref b :: st) w a := by
  obtain ⟨p, e, s, m, args, below, meth, c, Q, ⟨hx, hb, hml, hown, hts⟩, hK, hct, rfl⟩ := h
  intro H locs lsA h1 h2 h3 h4 h5
  exact W.objInit hx hb hown (hts _ hw.1) (hts _ hw.2.1) (hts _ hw.2.2) rfl (by rw [hml]; exact h4.1.trans h5) rfl d hf (by show 2 * 0 + _ + 12 ≤ _; omega) (kk H locs lsA h1 h2 h3 h4 h5)
/-! what methods answer -/
def rI (v : Int) (w : Wd) (z : Nat) : xPo := fun r w1 z1 => r = some (.int (iI v)) ∧ w1 = w ∧ z1 = z
def rL (v : Int64) (w : Wd) (z : Nat) : xPo := fun r w1 z1 => r = some (.long v) ∧ w1 = w ∧ z1 = z
def rV (w : Wd) (z : Nat) : xPo := fun r w1 z1 => r = none ∧ w1 = w ∧ z1 = z
def qI (z : Nat) (f : Int → Wd → Prop) : xPo := fun r w1 z1 => z1 = z ∧ ∃ x : Int, r = some (.int (iI x)) ∧ f x w1
def qV (z : Nat) (f : Wd → Prop) : xPo := fun r w1 z1 => z1 = z ∧ r = none ∧ f w1
def aV (f : Wd → Nat → Prop) : xPo := fun r w1 z1 => r = none ∧ f w1 z1
def eI (f : Int → Wd → Nat → Prop) : xPo := fun r w1 z1 => ∃ x : Int, r = some (.int (iI x)) ∧ f x w1 z1
theorem k_rI {v : Int} {z k n : Nat} (h : P pc ls (.int (iI v) :: st) w (z, k, n)) : ∀ (r : Option Value) (w1 : Wd) (z1 : Nat), rI v w z r w1 z1 → P pc ls (r.toList ++ st) w1 (z1, k, n) := by
  rintro r w1 z1 ⟨rfl, rfl, rfl⟩; exact h
theorem k_rL {v : Int64} {z k n : Nat} (h : P pc ls (.long v :: st) w (z, k, n)) : ∀ (r : Option Value) (w1 : Wd) (z1 : Nat), rL v w z r w1 z1 → P pc ls (r.toList ++ st) w1 (z1, k, n) := by
  rintro r w1 z1 ⟨rfl, rfl, rfl⟩; exact h
theorem k_rV {z k n : Nat} (h : P pc ls st w (z, k, n)) : ∀ (r : Option Value) (w1 : Wd) (z1 : Nat), rV w z r w1 z1 → P pc ls (r.toList ++ st) w1 (z1, k, n) := by
  rintro r w1 z1 ⟨rfl, rfl, rfl⟩; exact h
theorem k_qI {f : Int → Wd → Prop} {z k n : Nat} (h : ∀ (x : Int) (w1 : Wd), f x w1 → P pc ls (.int (iI x) :: st) w1 (z, k, n)) : ∀ (r : Option Value) (w1 : Wd) (z1 : Nat), qI z f r w1 z1 → P pc ls (r.toList ++ st) w1 (z1, k, n) := by
  rintro r w1 z1 ⟨rfl, x, rfl, hf⟩; exact h x w1 hf
theorem k_qV {f : Wd → Prop} {z k n : Nat} (h : ∀ w1 : Wd, f w1 → P pc ls st w1 (z, k, n)) : ∀ (r : Option Value) (w1 : Wd) (z1 : Nat), qV z f r w1 z1 → P pc ls (r.toList ++ st) w1 (z1, k, n) := by
  rintro r w1 z1 ⟨rfl, rfl, hf⟩; exact h w1 hf
theorem k_aV {f : Wd → Nat → Prop} {k n : Nat} (h : ∀ (w1 : Wd) (z1 : Nat), f w1 z1 → P pc ls st w1 (z1, k, n)) : ∀ (r : Option Value) (w1 : Wd) (z1 : Nat), aV f r w1 z1 → P pc ls (r.toList ++ st) w1 (z1, k, n) := by
  rintro r w1 z1 ⟨rfl, hf⟩; exact h w1 z1 hf
theorem k_eI {f : Int → Wd → Nat → Prop} {k n : Nat} (h : ∀ (x : Int) (w1 : Wd) (z1 : Nat), f x w1 z1 → P pc ls (.int (iI x) :: st) w1 (z1, k, n)) : ∀ (r : Option Value) (w1 : Wd) (z1 : Nat), eI f r w1 z1 → P pc ls (r.toList ++ st) w1 (z1, k, n) := by
  rintro r w1 z1 ⟨x, rfl, hf⟩; exact h x w1 z1 hf
/-- ends -/
theorem xR.i {rm : Room} {post : xPo} (h : xR cc (some .int) rm post P) (d : decode cc pc = .ok (.ireturn, 1)) {z k n : Nat} {x : Int} (hk : k ≤ rm.cells) (hn : n ≤ rm.slots) (hp : post (some (.int (iI x))) w z) : P pc ls [.int (iI x)] w (z, k, n) := h.1 pc ls w z k n _ .int rfl rfl d hk hn hp
theorem xR.b {rm : Room} {post : xPo} (h : xR cc (some .boolean) rm post P) (d : decode cc pc = .ok (.ireturn, 1)) {z k n : Nat} {x : Int} (hx : narrow .boolean (.int (iI x)) = .int (iI x)) (hk : k ≤ rm.cells) (hn : n ≤ rm.slots) (hp : post (some (.int (iI x))) w z) : P pc ls [.int (iI x)] w (z, k, n) := h.1 pc ls w z k n _ .boolean rfl hx d hk hn hp
theorem xR.c {rm : Room} {post : xPo} (h : xR cc (some .char) rm post P) (d : decode cc pc = .ok (.ireturn, 1)) {z k n : Nat} {x : Int} (hx : narrow .char (.int (iI x)) = .int (iI x)) (hk : k ≤ rm.cells) (hn : n ≤ rm.slots) (hp : post (some (.int (iI x))) w z) : P pc ls [.int (iI x)] w (z, k, n) := h.1 pc ls w z k n _ .char rfl hx d hk hn hp
theorem xR.j {rm : Room} {post : xPo} (h : xR cc (some .long) rm post P) (d : decode cc pc = .ok (.lreturn, 1)) {z k n : Nat} {x : Int64} (hk : k ≤ rm.cells) (hn : n ≤ rm.slots) (hp : post (some (.long x)) w z) : P pc ls [.long x] w (z, k, n) := h.2.1 pc ls w z k n _ rfl d hk hn hp
theorem xR.v {rm : Room} {post : xPo} (h : xR cc none rm post P) (d : decode cc pc = .ok (.return_, 1)) {z k n : Nat} (hk : k ≤ rm.cells) (hn : n ≤ rm.slots) (hp : post none w z) : P pc ls [] w (z, k, n) := h.2.2 pc ls w z k n rfl d hk hn hp
/-! statics, switches, Math, arraycopy -/
theorem x_gets (h : xM own cc nL R l G ct P) {idx : Nat} (i : Nat) (hi : i < 3) (hw : Cond.fieldLink own idx "RangeDeeds" (sv_n i) "[I" ∈ gd_w ∨ ∃ host : String, Cond.fieldLinkNest own idx "RangeDeeds" (sv_n i) "[I" host ∈ ns_w) (d : decode cc pc = .ok (.getstatic idx, 3)) (kk : P (pc + 3) ls (.ref (G.2.2.2 i) :: st) w a) : P pc ls st w a := by
  obtain ⟨p, e, s, m, args, below, meth, c, Q, ⟨hx, hb, hml, hown, hts⟩, hK, hct, rfl⟩ := h
  intro H locs lsA h1 h2 h3 h4 h5
  rcases hw with hw | ⟨host, hw⟩
  · exact va_gets hx hb (hK.2.2.2.2 i hi).1 h3 hown (hts _ hw) (fun _ z => z) d (kk H locs lsA h1 h2 h3 h4 h5)
  · exact va_getsN hx hb (hK.2.2.2.2 i hi).1 h3 hown (va_Nw.use rfl (hK.2.1 _ hw)) (fun _ z => z) d (kk H locs lsA h1 h2 h3 h4 h5)
theorem x_tald (h : xM own cc nL R l G ct P) {i : Nat} {j : Int} (hi : i < 3) (hj : 0 ≤ j ∧ j < 5) (d : decode cc pc = .ok (.iaload, 1)) (kk : P (pc + 1) ls (.int (iI (sv_f i j)) :: st) w a) : P pc ls (.int (iI j) :: .ref (G.2.2.2 i) :: st) w a := by
  obtain ⟨p, e, s, m, args, below, meth, c, Q, ⟨hx, hb, hml, hown, hts⟩, hK, hct, rfl⟩ := h
  intro H locs lsA h1 h2 h3 h4 h5
  exact va_ti hx hb (hK.2.2.2.2 i hi).2 h3 (iI_in hj.1 hj.2 (by omega)) (by rw [iI_clamp hj.1 (by omega), show ((j.toNat : Nat) : Int) = j by omega]) d (kk H locs lsA h1 h2 h3 h4 h5)
theorem x_tlen (h : xM own cc nL R l G ct P) {i : Nat} (hi : i < 3) (d : decode cc pc = .ok (.arraylength, 1)) (kk : P (pc + 1) ls (.int (iI 5) :: st) w a) : P pc ls (.ref (G.2.2.2 i) :: st) w a := by
  obtain ⟨p, e, s, m, args, below, meth, c, Q, ⟨hx, hb, hml, hown, hts⟩, hK, hct, rfl⟩ := h
  intro H locs lsA h1 h2 h3 h4 h5
  exact va_tlen hx hb (hK.2.2.2.2 i hi).2 h3 rfl d (kk H locs lsA h1 h2 h3 h4 h5)
theorem x_tableIn (h : xM own cc nL R l G ct P) {dflt lo hi : Int} {offs : Array Int} {len : Nat} {x off : Int} {tgt : Nat} (d : decode cc pc = .ok (.tableswitch dflt lo hi offs, len)) (hx1 : iR x) (g1 : lo ≤ x) (g2 : x ≤ hi) (ho : offs[(x - lo).toNat]? = some off) (ht : (pc : Int) + off = (tgt : Int)) (kk : P tgt ls st w a) : P pc ls (.int (iI x) :: st) w a := by
  obtain ⟨p, e, s, m, args, below, meth, c, Q, ⟨hx, hb, hml, hown, hts⟩, hK, hct, rfl⟩ := h
  intro H locs lsA h1 h2 h3 h4 h5
  exact lv_tableIn hx hb d (by rw [iI_toInt hx1]; omega) (by rw [iI_toInt hx1]; omega) (by rw [iI_toInt hx1]; exact ho) ht (kk H locs lsA h1 h2 h3 h4 h5)
theorem x_tableOut (h : xM own cc nL R l G ct P) {dflt lo hi : Int} {offs : Array Int} {len : Nat} {x : Int} {tgt : Nat} (d : decode cc pc = .ok (.tableswitch dflt lo hi offs, len)) (hx1 : iR x) (g : x < lo ∨ hi < x) (ht : (pc : Int) + dflt = (tgt : Int)) (kk : P tgt ls st w a) : P pc ls (.int (iI x) :: st) w a := by
  obtain ⟨p, e, s, m, args, below, meth, c, Q, ⟨hx, hb, hml, hown, hts⟩, hK, hct, rfl⟩ := h
  intro H locs lsA h1 h2 h3 h4 h5
  exact lv_tableOut hx hb d (by rw [iI_toInt hx1]; exact g) ht (kk H locs lsA h1 h2 h3 h4 h5)
theorem x_lookup (h : xM own cc nL R l G ct P) {dflt : Int} {ps : Array (Int × Int)} {len : Nat} {x off : Int} {tgt : Nat} (d : decode cc pc = .ok (.lookupswitch dflt ps, len)) (hx1 : iR x) (hp : (ps.toList.zip (ps.toList.drop 1)).all (fun (a, next) => a.1 < next.1) = true) (ho : Op.lookupswitch.offset ps.toList dflt x = off) (ht : (pc : Int) + off = (tgt : Int)) (kk : P tgt ls st w a) : P pc ls (.int (iI x) :: st) w a := by
  obtain ⟨p, e, s, m, args, below, meth, c, Q, ⟨hx, hb, hml, hown, hts⟩, hK, hct, rfl⟩ := h
  intro H locs lsA h1 h2 h3 h4 h5
  exact lv_lookup hx hb d hp (by rw [iI_toInt hx1]; exact ho) ht (kk H locs lsA h1 h2 h3 h4 h5)
def Wm (own : String) (idx : Nat) (y : MethodName) (c2 : ByteArray) : Prop := Cond.methodLink own idx y ∈ gd_w ∧ Cond.static y ∈ gd_w ∧ Cond.initialized "java/lang/Math" ∈ gd_w ∧ Cond.code y c2 2 (some .int) ∈ gd_w
theorem x_max (h : xM own cc nL R l G ct P) {idx z k n : Nat} {x y : Int} (hw : Wm own idx Lib.Math.max.name Lib.Math.max.code) (hx1 : iR x) (hy1 : iR y) (hf : 1 ≤ R.frames) (hlo : (st.map fun v => v.category).sum + 13 ≤ R.locals) (hc : k ≤ R.cells ∧ n ≤ R.slots) (d : decode cc pc = .ok (.invokestatic idx, 3)) (kk : P (pc + 3) ls (.int (iI (if x < y then y else x)) :: st) w (z, k, n)) : P pc ls (.int (iI y) :: .int (iI x) :: st) w (z, k, n) := by
  obtain ⟨p, e, s, m, args, below, meth, c, Q, ⟨hx, hb, hml, hown, hts⟩, hK, hct, rfl⟩ := h
  intro H locs lsA h1 h2 h3 h4 h5
  refine va_mmax hx hb (hml.trans (h4.1.trans h5).symm) hown (hts _ hw.1) (hts _ hw.2.1) (hts _ hw.2.2.1) (hts _ hw.2.2.2) hf hlo hc.1 hc.2 d ?_
  have e1 : (if iI x < iI y then iI y else iI x) = iI (if x < y then y else x) := by
    have q := iI_lt hx1 hy1
    by_cases g : x < y
    · rw [if_pos g, if_pos (q.mpr g)]
    · rw [if_neg g, if_neg (fun z => g (q.mp z))]
  rw [e1]
  exact kk H locs lsA h1 h2 h3 h4 h5
theorem x_min (h : xM own cc nL R l G ct P) {idx z k n : Nat} {x y : Int} (hw : Wm own idx Lib.Math.min.name Lib.Math.min.code) (hx1 : iR x) (hy1 : iR y) (hf : 1 ≤ R.frames) (hlo : (st.map fun v => v.category).sum + 13 ≤ R.locals) (hc : k ≤ R.cells ∧ n ≤ R.slots) (d : decode cc pc = .ok (.invokestatic idx, 3)) (kk : P (pc + 3) ls (.int (iI (if y < x then y else x)) :: st) w (z, k, n)) : P pc ls (.int (iI y) :: .int (iI x) :: st) w (z, k, n) := by
  obtain ⟨p, e, s, m, args, below, meth, c, Q, ⟨hx, hb, hml, hown, hts⟩, hK, hct, rfl⟩ := h
  intro H locs lsA h1 h2 h3 h4 h5
  refine va_mmin hx hb (hml.trans (h4.1.trans h5).symm) hown (hts _ hw.1) (hts _ hw.2.1) (hts _ hw.2.2.1) (hts _ hw.2.2.2) hf hlo hc.1 hc.2 d ?_
  have e1 : (if iI y < iI x then iI y else iI x) = iI (if y < x then y else x) := by
    have q := iI_lt hy1 hx1
    by_cases g : y < x
    · rw [if_pos g, if_pos (q.mpr g)]
    · rw [if_neg g, if_neg (fun z => g (q.mp z))]
  rw [e1]
  exact kk H locs lsA h1 h2 h3 h4 h5
def Wa (own : String) (idx : Nat) : Prop := Cond.methodLink own idx arraycopyName ∈ gd_w ∧ Cond.native arraycopyName ∈ gd_w ∧ Cond.static arraycopyName ∈ gd_w ∧ Cond.initialized "java/lang/System" ∈ gd_w
def fC {α : Type} (f g : Int → α) (n : Int) : Int → α := fun j => if 0 ≤ j ∧ j < n then f j else g j
/-- System.arraycopy(f, 0, g, 0, x) -/
theorem x_copyI (h : xM own cc nL R l G ct P) {idx r0 r1 n0 n1 : Nat} {f g : Int → Int} {x : Int} (hw : Wa own idx) (h0 : w r0 = some (aI G n0 f)) (hr : w r1 = some (aI G n1 g)) (hx0 : 0 ≤ x ∧ x ≤ 2147483647) (hx1 : x ≤ n0) (hx2 : x ≤ n1) (hf : 1 ≤ R.frames) (hlo : (st.map fun v => v.category).sum + (nativeFrameWords "java/lang/System" "arraycopy" 5 + 11) ≤ R.locals) (d : decode cc pc = .ok (.invokestatic idx, 3)) (kk : P (pc + 3) ls st (wS w r1 (aI G n1 (fC f g x))) a) : P pc ls (.int (iI x) :: .int (iI 0) :: .ref r1 :: .int (iI 0) :: .ref r0 :: st) w a := by
  obtain ⟨p, e, s, m, args, below, meth, c, Q, ⟨hx, hb, hml, hown, hts⟩, hK, hct, rfl⟩ := h
  intro H locs lsA h1 h2 h3 h4 h5
  have hz : (iI 0).toNatClampNeg = 0 := rfl
  have hzi : (iI 0).toInt = 0 := rfl
  have hxi : (iI x).toInt = x := iI_toInt ⟨by omega, hx0.2⟩
  have hxn : (iI x).toNatClampNeg = x.toNat := iI_clamp hx0.1 hx0.2
  obtain ⟨c0, -⟩ := h1 _ _ h0
  obtain ⟨c1, hb1⟩ := h1 _ _ hr
  have c0 : H[r0]? = some (arrV (G.2.1 0) n0 (fun j => .int (iI (f j)))) := c0
  have c1 : H[r1]? = some (arrV (G.2.1 0) n1 (fun j => .int (iI (g j)))) := c1
  intro T hT X
  obtain ⟨-, k0, hk0, cm0, hkk0⟩ := (hK.1.2 0 _ rfl).1 n0 (fun j => .int (iI (f j)))
  obtain ⟨-, k1, hk1, cm1, hkk1⟩ := (hK.1.2 0 _ rfl).1 n1 (fun j => .int (iI (g j)))
  have e2 := va_copied (fun z : Int32 => .int z) (G.2.1 0) (G.2.1 0) (n0 := n0) (n1 := n1) (sp := 0) (dp := 0) (n := x.toNat) (fun j => iI (f j)) (fun j => iI (g j)) (by omega)
  have e3 : (fun j : Nat => Value.int (va_cpy (fun j : Nat => iI (f j)) (fun j : Nat => iI (g j)) 0 0 x.toNat j)) = fun j : Nat => Value.int (iI (fC f g x j)) := by
    funext j
    congr 1
    unfold fC va_cpy
    by_cases hj : (j : Int) < x
    · rw [if_pos ⟨by omega, by omega⟩, if_pos ⟨by omega, hj⟩]
      congr 2
      omega
    · rw [if_neg (by omega), if_neg (by omega)]
  rw [e3] at e2
  obtain ⟨vm1, X1, step⟩ := X.arraycopy hx hown (hts _ hw.1) (hts _ hw.2.1) (hts _ hw.2.2.1) (hts _ hw.2.2.2) (src := r0) (dst := r1) (srcPos := iI 0) (destPos := iI 0) (n := iI x) (by rw [hT]; exact c0) (by rw [hT]; exact c1)
    (fun _ h => by cases h) (fun _ h => by cases h) (fun h => by cases h) (fun h => by cases h) hk0 hk1 hkk0 hkk1 rfl (by decide) (by decide) (iI_nn hx0.1 hx0.2) (by rw [hzi, hxi, arrV_size]; omega) (by rw [hzi, hxi, arrV_size]; omega)
    (fun vm2 _ i hi => by
      rw [hxn] at hi
      have e : (arrV (G.2.1 0) n0 (fun j => .int (iI (f j)))).slots.getD ((iI 0).toNatClampNeg + i) .null = .int (iI (f i)) := by
        rw [Array.getD_eq_getD_getElem?, hz, Nat.zero_add, arrV_read _ _ (by omega)]
        rfl
      rw [e]
      exact ⟨rfl, trivial⟩)
    (g := F0 m pc lsA (.int (iI x) :: .int (iI 0) :: .ref r1 :: .int (iI 0) :: .ref r0 :: st)) rfl (by rw [hml]; exact h4.1.trans h5) (rest := st) rfl (by rw [hb]; exact d) hf (by show 2 * 0 + _ + _ ≤ _; omega)
  have e4 : copied (arrV (G.2.1 0) n0 (fun j => .int (iI (f j)))) (arrV (G.2.1 0) n1 (fun j => .int (iI (g j)))) (iI 0) (iI 0) (iI x) = arrV (G.2.1 0) n1 (fun j => .int (iI (fC f g x j))) := by
    unfold copied
    rw [hz, hxn]
    exact e2
  rw [e4] at X1 step
  have hlt : r1 < H.size := (Array.getElem?_eq_some_iff.mp c1).1
  have oq : ∀ q : Nat, q ≠ r1 → (H.setIfInBounds r1 (arrV (G.2.1 0) n1 (fun j => .int (iI (fC f g x j)))))[q]? = H[q]? := fun q hq => by simp [Array.getElem?_setIfInBounds, Ne.symm hq]
  obtain ⟨t, a1, b1⟩ := kk (H.setIfInBounds r1 (arrV (G.2.1 0) n1 (fun j => .int (iI (fC f g x j))))) _ lsA (gH_put h1 hr (show (H.setIfInBounds r1 _)[r1]? = some _ by simp [Array.getElem?_setIfInBounds, hlt]; rfl) oq) (by rw [Array.size_setIfInBounds]; exact h2) ⟨by rw [Array.size_setIfInBounds]; exact h3.1, fun q g1 g2 => by
      rw [oq q (fun e => g2 (by rw [e]; exact hb1))]
      exact h3.2.1 q g1 g2, fun q hq => by
      rcases List.mem_append.mp hq with h | h
      · exact h3.2.2 q h
      · obtain ⟨z, -, hz⟩ := List.mem_map.mp h
        rw [← hz]
        exact hb1⟩ h4 h5 _ (by rw [← hT]; rfl) X1
  exact ⟨t, step t a1, b1⟩
/-- System.arraycopy(f, 0, g, 0, x) -/
theorem x_copyJ (h : xM own cc nL R l G ct P) {idx r0 r1 n0 n1 : Nat} {f g : Int → Int64} {x : Int} (hw : Wa own idx) (h0 : w r0 = some (aJ G n0 f)) (hr : w r1 = some (aJ G n1 g)) (hx0 : 0 ≤ x ∧ x ≤ 2147483647) (hx1 : x ≤ n0) (hx2 : x ≤ n1) (hf : 1 ≤ R.frames) (hlo : (st.map fun v => v.category).sum + (nativeFrameWords "java/lang/System" "arraycopy" 5 + 11) ≤ R.locals) (d : decode cc pc = .ok (.invokestatic idx, 3)) (kk : P (pc + 3) ls st (wS w r1 (aJ G n1 (fC f g x))) a) : P pc ls (.int (iI x) :: .int (iI 0) :: .ref r1 :: .int (iI 0) :: .ref r0 :: st) w a := by
  obtain ⟨p, e, s, m, args, below, meth, c, Q, ⟨hx, hb, hml, hown, hts⟩, hK, hct, rfl⟩ := h
  intro H locs lsA h1 h2 h3 h4 h5
  have hz : (iI 0).toNatClampNeg = 0 := rfl
  have hzi : (iI 0).toInt = 0 := rfl
  have hxi : (iI x).toInt = x := iI_toInt ⟨by omega, hx0.2⟩
  have hxn : (iI x).toNatClampNeg = x.toNat := iI_clamp hx0.1 hx0.2
  obtain ⟨c0, -⟩ := h1 _ _ h0
  obtain ⟨c1, hb1⟩ := h1 _ _ hr
  have c0 : H[r0]? = some (arrV (G.2.1 1) n0 (fun j => .long ( (f j)))) := c0
  have c1 : H[r1]? = some (arrV (G.2.1 1) n1 (fun j => .long ( (g j)))) := c1
  intro T hT X
  obtain ⟨-, k0, hk0, cm0, hkk0⟩ := (hK.1.2 1 _ rfl).1 n0 (fun j => .long ( (f j)))
  obtain ⟨-, k1, hk1, cm1, hkk1⟩ := (hK.1.2 1 _ rfl).1 n1 (fun j => .long ( (g j)))
  have e2 := va_copied (fun z : Int64 => .long z) (G.2.1 1) (G.2.1 1) (n0 := n0) (n1 := n1) (sp := 0) (dp := 0) (n := x.toNat) (fun j =>  (f j)) (fun j =>  (g j)) (by omega)
  have e3 : (fun j : Nat => Value.long (va_cpy (fun j : Nat =>  (f j)) (fun j : Nat =>  (g j)) 0 0 x.toNat j)) = fun j : Nat => Value.long ((fC f g x j)) := by
    funext j
    congr 1
    unfold fC va_cpy
    by_cases hj : (j : Int) < x
    · rw [if_pos ⟨by omega, by omega⟩, if_pos ⟨by omega, hj⟩]
      congr 2
      omega
    · rw [if_neg (by omega), if_neg (by omega)]
  rw [e3] at e2
  obtain ⟨vm1, X1, step⟩ := X.arraycopy hx hown (hts _ hw.1) (hts _ hw.2.1) (hts _ hw.2.2.1) (hts _ hw.2.2.2) (src := r0) (dst := r1) (srcPos := iI 0) (destPos := iI 0) (n := iI x) (by rw [hT]; exact c0) (by rw [hT]; exact c1)
    (fun _ h => by cases h) (fun _ h => by cases h) (fun h => by cases h) (fun h => by cases h) hk0 hk1 hkk0 hkk1 rfl (by decide) (by decide) (iI_nn hx0.1 hx0.2) (by rw [hzi, hxi, arrV_size]; omega) (by rw [hzi, hxi, arrV_size]; omega)
    (fun vm2 _ i hi => by
      rw [hxn] at hi
      have e : (arrV (G.2.1 1) n0 (fun j => .long ( (f j)))).slots.getD ((iI 0).toNatClampNeg + i) .null = .long ( (f i)) := by
        rw [Array.getD_eq_getD_getElem?, hz, Nat.zero_add, arrV_read _ _ (by omega)]
        rfl
      rw [e]
      exact ⟨rfl, trivial⟩)
    (g := F0 m pc lsA (.int (iI x) :: .int (iI 0) :: .ref r1 :: .int (iI 0) :: .ref r0 :: st)) rfl (by rw [hml]; exact h4.1.trans h5) (rest := st) rfl (by rw [hb]; exact d) hf (by show 2 * 0 + _ + _ ≤ _; omega)
  have e4 : copied (arrV (G.2.1 1) n0 (fun j => .long ( (f j)))) (arrV (G.2.1 1) n1 (fun j => .long ( (g j)))) (iI 0) (iI 0) (iI x) = arrV (G.2.1 1) n1 (fun j => .long ( (fC f g x j))) := by
    unfold copied
    rw [hz, hxn]
    exact e2
  rw [e4] at X1 step
  have hlt : r1 < H.size := (Array.getElem?_eq_some_iff.mp c1).1
  have oq : ∀ q : Nat, q ≠ r1 → (H.setIfInBounds r1 (arrV (G.2.1 1) n1 (fun j => .long ( (fC f g x j)))))[q]? = H[q]? := fun q hq => by simp [Array.getElem?_setIfInBounds, Ne.symm hq]
  obtain ⟨t, a1, b1⟩ := kk (H.setIfInBounds r1 (arrV (G.2.1 1) n1 (fun j => .long ( (fC f g x j))))) _ lsA (gH_put h1 hr (show (H.setIfInBounds r1 _)[r1]? = some _ by simp [Array.getElem?_setIfInBounds, hlt]; rfl) oq) (by rw [Array.size_setIfInBounds]; exact h2) ⟨by rw [Array.size_setIfInBounds]; exact h3.1, fun q g1 g2 => by
      rw [oq q (fun e => g2 (by rw [e]; exact hb1))]
      exact h3.2.1 q g1 g2, fun q hq => by
      rcases List.mem_append.mp hq with h | h
      · exact h3.2.2 q h
      · obtain ⟨z, -, hz⟩ := List.mem_map.mp h
        rw [← hz]
        exact hb1⟩ h4 h5 _ (by rw [← hT]; rfl) X1
  exact ⟨t, step t a1, b1⟩
end XC
end
section
/-! the words that the instructions need, by their places in the tables (printed by mk_words.py) -/
theorem gd_mk {w : Cond} (h : w ∈ gd_w) : w ∈ gd_w := h
theorem wl_X0_in : ∀ w ∈ u_ws RX0 TX0 2, w ∈ gd_w := List.forall_mem_cons.mpr ⟨gd_at 154 (by decide +kernel) rfl, List.forall_mem_cons.mpr ⟨gd_at 156 (by decide +kernel) rfl, fun _ h => absurd h List.not_mem_nil⟩⟩
theorem wl_X0 : Wl 0 := fun q hq => by cases hq; exact ⟨wl_X0_in, ⟨tyX0, tyX0_ok⟩, nmX0⟩
theorem wl_X1_in : ∀ w ∈ u_ws RX1 TX1 2, w ∈ gd_w := List.forall_mem_cons.mpr ⟨gd_at 222 (by decide +kernel) rfl, List.forall_mem_cons.mpr ⟨gd_at 224 (by decide +kernel) rfl, fun _ h => absurd h List.not_mem_nil⟩⟩
theorem wl_X1 : Wl 1 := fun q hq => by cases hq; exact ⟨wl_X1_in, ⟨tyX1, tyX1_ok⟩, nmX1⟩
theorem wl_X2_in : ∀ w ∈ u_ws RX2 TX2 7, w ∈ gd_w := List.forall_mem_cons.mpr ⟨gd_at 246 (by decide +kernel) rfl, List.forall_mem_cons.mpr ⟨gd_at 248 (by decide +kernel) rfl, List.forall_mem_cons.mpr ⟨gd_at 250 (by decide +kernel) rfl, List.forall_mem_cons.mpr ⟨gd_at 252 (by decide +kernel) rfl, List.forall_mem_cons.mpr ⟨gd_at 254 (by decide +kernel) rfl, List.forall_mem_cons.mpr ⟨gd_at 256 (by decide +kernel) rfl, List.forall_mem_cons.mpr ⟨gd_at 258 (by decide +kernel) rfl, fun _ h => absurd h List.not_mem_nil⟩⟩⟩⟩⟩⟩⟩
theorem wl_X2 : Wl 2 := fun q hq => by cases hq; exact ⟨wl_X2_in, ⟨tyX2, tyX2_ok⟩, nmX2⟩
theorem wl_X3_in : ∀ w ∈ u_ws RX3 TX3 10, w ∈ gd_w := List.forall_mem_cons.mpr ⟨gd_at 186 (by decide +kernel) rfl, List.forall_mem_cons.mpr ⟨gd_at 188 (by decide +kernel) rfl, List.forall_mem_cons.mpr ⟨gd_at 190 (by decide +kernel) rfl, List.forall_mem_cons.mpr ⟨gd_at 192 (by decide +kernel) rfl, List.forall_mem_cons.mpr ⟨gd_at 194 (by decide +kernel) rfl, List.forall_mem_cons.mpr ⟨gd_at 196 (by decide +kernel) rfl, List.forall_mem_cons.mpr ⟨gd_at 198 (by decide +kernel) rfl, List.forall_mem_cons.mpr ⟨gd_at 200 (by decide +kernel) rfl, List.forall_mem_cons.mpr ⟨gd_at 202 (by decide +kernel) rfl, List.forall_mem_cons.mpr ⟨gd_at 204 (by decide +kernel) rfl, fun _ h => absurd h List.not_mem_nil⟩⟩⟩⟩⟩⟩⟩⟩⟩⟩
theorem wl_X3 : Wl 3 := fun q hq => by cases hq; exact ⟨wl_X3_in, ⟨tyX3, tyX3_ok⟩, nmX3⟩
theorem wl_X4_in : ∀ w ∈ u_ws RX4 TX4 1, w ∈ gd_w := List.forall_mem_cons.mpr ⟨gd_at 110 (by decide +kernel) rfl, fun _ h => absurd h List.not_mem_nil⟩
theorem wl_X4 : Wl 4 := fun q hq => by cases hq; exact ⟨wl_X4_in, ⟨tyX4, tyX4_ok⟩, nmX4⟩
theorem wl_X5_in : ∀ w ∈ u_ws RX5 TX5 6, w ∈ gd_w := List.forall_mem_cons.mpr ⟨gd_at 130 (by decide +kernel) rfl, List.forall_mem_cons.mpr ⟨gd_at 132 (by decide +kernel) rfl, List.forall_mem_cons.mpr ⟨gd_at 134 (by decide +kernel) rfl, List.forall_mem_cons.mpr ⟨gd_at 136 (by decide +kernel) rfl, List.forall_mem_cons.mpr ⟨gd_at 138 (by decide +kernel) rfl, List.forall_mem_cons.mpr ⟨gd_at 140 (by decide +kernel) rfl, fun _ h => absurd h List.not_mem_nil⟩⟩⟩⟩⟩⟩
theorem wl_X5 : Wl 5 := fun q hq => by cases hq; exact ⟨wl_X5_in, ⟨tyX5, tyX5_ok⟩, nmX5⟩
theorem wl_X6_in : ∀ w ∈ u_ws RX6 TX6 6, w ∈ gd_w := List.forall_mem_cons.mpr ⟨gd_at 268 (by decide +kernel) rfl, List.forall_mem_cons.mpr ⟨gd_at 270 (by decide +kernel) rfl, List.forall_mem_cons.mpr ⟨gd_at 272 (by decide +kernel) rfl, List.forall_mem_cons.mpr ⟨gd_at 274 (by decide +kernel) rfl, List.forall_mem_cons.mpr ⟨gd_at 276 (by decide +kernel) rfl, List.forall_mem_cons.mpr ⟨gd_at 278 (by decide +kernel) rfl, fun _ h => absurd h List.not_mem_nil⟩⟩⟩⟩⟩⟩
theorem wl_X6 : Wl 6 := fun q hq => by cases hq; exact ⟨wl_X6_in, ⟨tyX6, tyX6_ok⟩, nmX6⟩
theorem wl_X7_in : ∀ w ∈ u_ws RX7 TX7 21, w ∈ gd_w := List.forall_mem_cons.mpr ⟨gd_at 802 (by decide +kernel) rfl, List.forall_mem_cons.mpr ⟨gd_at 804 (by decide +kernel) rfl, List.forall_mem_cons.mpr ⟨gd_at 806 (by decide +kernel) rfl, List.forall_mem_cons.mpr ⟨gd_at 808 (by decide +kernel) rfl, List.forall_mem_cons.mpr ⟨gd_at 810 (by decide +kernel) rfl, List.forall_mem_cons.mpr ⟨gd_at 812 (by decide +kernel) rfl, List.forall_mem_cons.mpr ⟨gd_at 814 (by decide +kernel) rfl, List.forall_mem_cons.mpr ⟨gd_at 816 (by decide +kernel) rfl, List.forall_mem_cons.mpr ⟨gd_at 818 (by decide +kernel) rfl, List.forall_mem_cons.mpr ⟨gd_at 820 (by decide +kernel) rfl, List.forall_mem_cons.mpr ⟨gd_at 822 (by decide +kernel) rfl, List.forall_mem_cons.mpr ⟨gd_at 824 (by decide +kernel) rfl, List.forall_mem_cons.mpr ⟨gd_at 826 (by decide +kernel) rfl, List.forall_mem_cons.mpr ⟨gd_at 828 (by decide +kernel) rfl, List.forall_mem_cons.mpr ⟨gd_at 830 (by decide +kernel) rfl, List.forall_mem_cons.mpr ⟨gd_at 832 (by decide +kernel) rfl, List.forall_mem_cons.mpr ⟨gd_at 834 (by decide +kernel) rfl, List.forall_mem_cons.mpr ⟨gd_at 836 (by decide +kernel) rfl, List.forall_mem_cons.mpr ⟨gd_at 838 (by decide +kernel) rfl, List.forall_mem_cons.mpr ⟨gd_at 840 (by decide +kernel) rfl, List.forall_mem_cons.mpr ⟨gd_at 842 (by decide +kernel) rfl, fun _ h => absurd h List.not_mem_nil⟩⟩⟩⟩⟩⟩⟩⟩⟩⟩⟩⟩⟩⟩⟩⟩⟩⟩⟩⟩⟩
theorem wl_X7 : Wl 7 := fun q hq => by cases hq; exact ⟨wl_X7_in, ⟨tyX7, tyX7_ok⟩, nmX7⟩
theorem wk_L_7 : Cond.classLink RL 7 RX6 ∈ gd_w := gd_at 80 (by decide +kernel) rfl
theorem wi_L_9 : Wi RL 9 yX6_init cX6_init 1 0 := ⟨Or.inl (gd_at 82 (by decide +kernel) rfl), gd_at 83 (by decide +kernel) rfl, gd_at 68 (by decide +kernel) rfl, gd_at 84 (by decide +kernel) rfl, rfl, ⟨by decide +kernel, by decide +kernel, by decide +kernel⟩⟩
theorem wo_X6_3 : Cond.methodLink RX6 3 Lib.objectInit ∈ gd_w ∧ Cond.instanceMethod Lib.objectInit ∈ gd_w ∧ Cond.code Lib.objectInit ⟨#[0xb1]⟩ 1 none ∈ gd_w := ⟨gd_at 85 (by decide +kernel) rfl, gd_at 86 (by decide +kernel) rfl, gd_at 87 (by decide +kernel) rfl⟩
theorem wk_X6_9 : Cond.classLink RX6 9 RX3 ∈ gd_w := gd_at 88 (by decide +kernel) rfl
theorem wi_X6_11 : Wi RX6 11 yX3_init cX3_init 2 0 := ⟨Or.inl (gd_at 90 (by decide +kernel) rfl), gd_at 91 (by decide +kernel) rfl, gd_at 69 (by decide +kernel) rfl, gd_at 92 (by decide +kernel) rfl, rfl, ⟨by decide +kernel, by decide +kernel, by decide +kernel⟩⟩
theorem wo_X3_3 : Cond.methodLink RX3 3 Lib.objectInit ∈ gd_w ∧ Cond.instanceMethod Lib.objectInit ∈ gd_w ∧ Cond.code Lib.objectInit ⟨#[0xb1]⟩ 1 none ∈ gd_w := ⟨gd_at 93 (by decide +kernel) rfl, gd_at 86 (by decide +kernel) rfl, gd_at 87 (by decide +kernel) rfl⟩
theorem wk_X3_9 : Cond.classLink RX3 9 RX5 ∈ gd_w := gd_at 94 (by decide +kernel) rfl
theorem wi_X3_11 : Wi RX3 11 yX5_init cX5_init 1 0 := ⟨Or.inr ⟨"RangeDeeds", ns_at 96 (by decide +kernel) rfl⟩, gd_at 97 (by decide +kernel) rfl, gd_at 70 (by decide +kernel) rfl, gd_at 98 (by decide +kernel) rfl, rfl, ⟨by decide +kernel, by decide +kernel, by decide +kernel⟩⟩
theorem wo_X5_3 : Cond.methodLink RX5 3 Lib.objectInit ∈ gd_w ∧ Cond.instanceMethod Lib.objectInit ∈ gd_w ∧ Cond.code Lib.objectInit ⟨#[0xb1]⟩ 1 none ∈ gd_w := ⟨gd_at 99 (by decide +kernel) rfl, gd_at 86 (by decide +kernel) rfl, gd_at 87 (by decide +kernel) rfl⟩
theorem wk_X5_9 : Cond.classLink RX5 9 RX4 ∈ gd_w := gd_at 100 (by decide +kernel) rfl
theorem wi_X5_11 : Wi RX5 11 yX4_init cX4_init 2 1 := ⟨Or.inl (gd_at 102 (by decide +kernel) rfl), gd_at 103 (by decide +kernel) rfl, gd_at 71 (by decide +kernel) rfl, gd_at 104 (by decide +kernel) rfl, rfl, ⟨by decide +kernel, by decide +kernel, by decide +kernel⟩⟩
theorem wo_X4_1 : Cond.methodLink RX4 1 Lib.objectInit ∈ gd_w ∧ Cond.instanceMethod Lib.objectInit ∈ gd_w ∧ Cond.code Lib.objectInit ⟨#[0xb1]⟩ 1 none ∈ gd_w := ⟨gd_at 105 (by decide +kernel) rfl, gd_at 86 (by decide +kernel) rfl, gd_at 87 (by decide +kernel) rfl⟩
theorem wm_X4_7 : Wm RX4 7 yJ9_max_7cf53 cJ9_max_7cf53 := ⟨gd_at 106 (by decide +kernel) rfl, gd_at 107 (by decide +kernel) rfl, gd_at 72 (by decide +kernel) rfl, gd_at 108 (by decide +kernel) rfl⟩
theorem wf_X4_13 : Wf RX4 13 4 0 := ⟨_, rfl, by decide, Or.inl (gd_at 109 (by decide +kernel) rfl)⟩
theorem wp_X4_13 : ∃ q : vw_C, vwCl[4]? = some q ∧ 0 < q.2.2 ∧ Cond.fieldLink RX4 13 (q.2.1 0).1 (q.2.1 0).2.1 (q.2.1 0).2.2.1 ∈ gd_w ∧ (q.2.1 0).2.2.2 = true ∧ (q.2.1 0).1 = RX4 ∧ parseFieldDescriptor (q.2.1 0).2.2.1 = some (tyX4 0) := ⟨_, rfl, by decide, gd_at 109 (by decide +kernel) rfl, rfl, rfl, by decide +kernel⟩
theorem wf_X5_14 : Wf RX5 14 5 0 := ⟨_, rfl, by decide, Or.inl (gd_at 114 (by decide +kernel) rfl)⟩
theorem wp_X5_14 : ∃ q : vw_C, vwCl[5]? = some q ∧ 0 < q.2.2 ∧ Cond.fieldLink RX5 14 (q.2.1 0).1 (q.2.1 0).2.1 (q.2.1 0).2.2.1 ∈ gd_w ∧ (q.2.1 0).2.2.2 = true ∧ (q.2.1 0).1 = RX5 ∧ parseFieldDescriptor (q.2.1 0).2.2.1 = some (tyX5 0) := ⟨_, rfl, by decide, gd_at 114 (by decide +kernel) rfl, rfl, rfl, by decide +kernel⟩
theorem wf_X6_99 : Wf RX6 99 5 0 := ⟨_, rfl, by decide, Or.inr ⟨"RangeDeeds", ns_at 115 (by decide +kernel) rfl⟩⟩
theorem wf_X5_20 : Wf RX5 20 5 1 := ⟨_, rfl, by decide, Or.inl (gd_at 116 (by decide +kernel) rfl)⟩
theorem wp_X5_20 : ∃ q : vw_C, vwCl[5]? = some q ∧ 1 < q.2.2 ∧ Cond.fieldLink RX5 20 (q.2.1 1).1 (q.2.1 1).2.1 (q.2.1 1).2.2.1 ∈ gd_w ∧ (q.2.1 1).2.2.2 = true ∧ (q.2.1 1).1 = RX5 ∧ parseFieldDescriptor (q.2.1 1).2.2.1 = some (tyX5 1) := ⟨_, rfl, by decide, gd_at 116 (by decide +kernel) rfl, rfl, rfl, by decide +kernel⟩
theorem wf_X6_108 : Wf RX6 108 5 1 := ⟨_, rfl, by decide, Or.inr ⟨"RangeDeeds", ns_at 117 (by decide +kernel) rfl⟩⟩
theorem wf_X5_23 : Wf RX5 23 5 2 := ⟨_, rfl, by decide, Or.inl (gd_at 118 (by decide +kernel) rfl)⟩
theorem wp_X5_23 : ∃ q : vw_C, vwCl[5]? = some q ∧ 2 < q.2.2 ∧ Cond.fieldLink RX5 23 (q.2.1 2).1 (q.2.1 2).2.1 (q.2.1 2).2.2.1 ∈ gd_w ∧ (q.2.1 2).2.2.2 = true ∧ (q.2.1 2).1 = RX5 ∧ parseFieldDescriptor (q.2.1 2).2.2.1 = some (tyX5 2) := ⟨_, rfl, by decide, gd_at 118 (by decide +kernel) rfl, rfl, rfl, by decide +kernel⟩
theorem wf_X3_120 : Wf RX3 120 5 2 := ⟨_, rfl, by decide, Or.inr ⟨"RangeDeeds", ns_at 119 (by decide +kernel) rfl⟩⟩
theorem wf_X6_111 : Wf RX6 111 5 2 := ⟨_, rfl, by decide, Or.inr ⟨"RangeDeeds", ns_at 120 (by decide +kernel) rfl⟩⟩
theorem wf_X5_26 : Wf RX5 26 5 3 := ⟨_, rfl, by decide, Or.inl (gd_at 121 (by decide +kernel) rfl)⟩
theorem wp_X5_26 : ∃ q : vw_C, vwCl[5]? = some q ∧ 3 < q.2.2 ∧ Cond.fieldLink RX5 26 (q.2.1 3).1 (q.2.1 3).2.1 (q.2.1 3).2.2.1 ∈ gd_w ∧ (q.2.1 3).2.2.2 = true ∧ (q.2.1 3).1 = RX5 ∧ parseFieldDescriptor (q.2.1 3).2.2.1 = some (tyX5 3) := ⟨_, rfl, by decide, gd_at 121 (by decide +kernel) rfl, rfl, rfl, by decide +kernel⟩
theorem wf_X3_94 : Wf RX3 94 5 3 := ⟨_, rfl, by decide, Or.inr ⟨"RangeDeeds", ns_at 122 (by decide +kernel) rfl⟩⟩
theorem wf_X6_117 : Wf RX6 117 5 3 := ⟨_, rfl, by decide, Or.inr ⟨"RangeDeeds", ns_at 123 (by decide +kernel) rfl⟩⟩
theorem wf_X5_29 : Wf RX5 29 5 4 := ⟨_, rfl, by decide, Or.inl (gd_at 124 (by decide +kernel) rfl)⟩
theorem wp_X5_29 : ∃ q : vw_C, vwCl[5]? = some q ∧ 4 < q.2.2 ∧ Cond.fieldLink RX5 29 (q.2.1 4).1 (q.2.1 4).2.1 (q.2.1 4).2.2.1 ∈ gd_w ∧ (q.2.1 4).2.2.2 = true ∧ (q.2.1 4).1 = RX5 ∧ parseFieldDescriptor (q.2.1 4).2.2.1 = some (tyX5 4) := ⟨_, rfl, by decide, gd_at 124 (by decide +kernel) rfl, rfl, rfl, by decide +kernel⟩
theorem wf_X3_87 : Wf RX3 87 5 4 := ⟨_, rfl, by decide, Or.inr ⟨"RangeDeeds", ns_at 125 (by decide +kernel) rfl⟩⟩
theorem wf_X6_120 : Wf RX6 120 5 4 := ⟨_, rfl, by decide, Or.inr ⟨"RangeDeeds", ns_at 126 (by decide +kernel) rfl⟩⟩
theorem wf_X5_36 : Wf RX5 36 5 5 := ⟨_, rfl, by decide, Or.inl (gd_at 127 (by decide +kernel) rfl)⟩
theorem wq_X5_36 : ∀ q : vw_C, vwCl[5]? = some q → (q.2.1 5).2.2.2 = false ∧ parseFieldDescriptor (q.2.1 5).2.2.1 = some (tyX5 5) := fun q hq => by cases hq; exact ⟨rfl, by decide +kernel⟩
theorem wf_X3_141 : Wf RX3 141 5 5 := ⟨_, rfl, by decide, Or.inr ⟨"RangeDeeds", ns_at 128 (by decide +kernel) rfl⟩⟩
theorem wq_X3_141 : ∀ q : vw_C, vwCl[5]? = some q → (q.2.1 5).2.2.2 = false ∧ parseFieldDescriptor (q.2.1 5).2.2.1 = some (tyX5 5) := fun q hq => by cases hq; exact ⟨rfl, by decide +kernel⟩
theorem wf_X6_163 : Wf RX6 163 5 5 := ⟨_, rfl, by decide, Or.inr ⟨"RangeDeeds", ns_at 129 (by decide +kernel) rfl⟩⟩
theorem wq_X6_163 : ∀ q : vw_C, vwCl[5]? = some q → (q.2.1 5).2.2.2 = false ∧ parseFieldDescriptor (q.2.1 5).2.2.1 = some (tyX5 5) := fun q hq => by cases hq; exact ⟨rfl, by decide +kernel⟩
theorem wk_X3_18 : Cond.classLink RX3 18 RX0 ∈ gd_w := gd_at 143 (by decide +kernel) rfl
theorem wi_X3_20 : Wi RX3 20 yX0_init cX0_init 1 0 := ⟨Or.inr ⟨"RangeDeeds", ns_at 145 (by decide +kernel) rfl⟩, gd_at 146 (by decide +kernel) rfl, gd_at 73 (by decide +kernel) rfl, gd_at 147 (by decide +kernel) rfl, rfl, ⟨by decide +kernel, by decide +kernel, by decide +kernel⟩⟩
theorem wo_X0_3 : Cond.methodLink RX0 3 Lib.objectInit ∈ gd_w ∧ Cond.instanceMethod Lib.objectInit ∈ gd_w ∧ Cond.code Lib.objectInit ⟨#[0xb1]⟩ 1 none ∈ gd_w := ⟨gd_at 148 (by decide +kernel) rfl, gd_at 86 (by decide +kernel) rfl, gd_at 87 (by decide +kernel) rfl⟩
theorem wk_X0_9 : Cond.classLink RX0 9 RX4 ∈ gd_w := gd_at 149 (by decide +kernel) rfl
theorem wi_X0_11 : Wi RX0 11 yX4_init cX4_init 2 1 := ⟨Or.inl (gd_at 150 (by decide +kernel) rfl), gd_at 103 (by decide +kernel) rfl, gd_at 71 (by decide +kernel) rfl, gd_at 104 (by decide +kernel) rfl, rfl, ⟨by decide +kernel, by decide +kernel, by decide +kernel⟩⟩
theorem wf_X0_14 : Wf RX0 14 0 0 := ⟨_, rfl, by decide, Or.inl (gd_at 151 (by decide +kernel) rfl)⟩
theorem wp_X0_14 : ∃ q : vw_C, vwCl[0]? = some q ∧ 0 < q.2.2 ∧ Cond.fieldLink RX0 14 (q.2.1 0).1 (q.2.1 0).2.1 (q.2.1 0).2.2.1 ∈ gd_w ∧ (q.2.1 0).2.2.2 = true ∧ (q.2.1 0).1 = RX0 ∧ parseFieldDescriptor (q.2.1 0).2.2.1 = some (tyX0 0) := ⟨_, rfl, by decide, gd_at 151 (by decide +kernel) rfl, rfl, rfl, by decide +kernel⟩
theorem wf_X0_24 : Wf RX0 24 0 1 := ⟨_, rfl, by decide, Or.inl (gd_at 152 (by decide +kernel) rfl)⟩
theorem wq_X0_24 : ∀ q : vw_C, vwCl[0]? = some q → (q.2.1 1).2.2.2 = false ∧ parseFieldDescriptor (q.2.1 1).2.2.1 = some (tyX0 1) := fun q hq => by cases hq; exact ⟨rfl, by decide +kernel⟩
theorem wf_X6_175 : Wf RX6 175 0 1 := ⟨_, rfl, by decide, Or.inr ⟨"RangeDeeds", ns_at 153 (by decide +kernel) rfl⟩⟩
theorem wq_X6_175 : ∀ q : vw_C, vwCl[0]? = some q → (q.2.1 1).2.2.2 = false ∧ parseFieldDescriptor (q.2.1 1).2.2.1 = some (tyX0 1) := fun q hq => by cases hq; exact ⟨rfl, by decide +kernel⟩
theorem wk_X3_25 : Cond.classLink RX3 25 RX4 ∈ gd_w := gd_at 159 (by decide +kernel) rfl
theorem wi_X3_27 : Wi RX3 27 yX4_init cX4_init 2 1 := ⟨Or.inl (gd_at 160 (by decide +kernel) rfl), gd_at 103 (by decide +kernel) rfl, gd_at 71 (by decide +kernel) rfl, gd_at 104 (by decide +kernel) rfl, rfl, ⟨by decide +kernel, by decide +kernel, by decide +kernel⟩⟩
theorem wt_X3_44 : Cond.fieldLink RX3 44 "RangeDeeds" (sv_n 0) "[I" ∈ gd_w ∨ ∃ host : String, Cond.fieldLinkNest RX3 44 "RangeDeeds" (sv_n 0) "[I" host ∈ ns_w := Or.inr ⟨"RangeDeeds", ns_at 161 (by decide +kernel) rfl⟩
theorem wv_X3_48 : Wv RX3 48 RX4 yX4_store cX4_store 3 none 2 := ⟨gd_at 163 (by decide +kernel) rfl, gd_at 164 (by decide +kernel) rfl, gd_at 165 (by decide +kernel) rfl, gd_at 71 (by decide +kernel) rfl, gd_at 166 (by decide +kernel) rfl, ⟨rfl, by decide +kernel, by decide +kernel, by decide +kernel⟩⟩
theorem wf_X3_12 : Wf RX3 12 3 0 := ⟨_, rfl, by decide, Or.inl (gd_at 167 (by decide +kernel) rfl)⟩
theorem wp_X3_12 : ∃ q : vw_C, vwCl[3]? = some q ∧ 0 < q.2.2 ∧ Cond.fieldLink RX3 12 (q.2.1 0).1 (q.2.1 0).2.1 (q.2.1 0).2.2.1 ∈ gd_w ∧ (q.2.1 0).2.2.2 = true ∧ (q.2.1 0).1 = RX3 ∧ parseFieldDescriptor (q.2.1 0).2.2.1 = some (tyX3 0) := ⟨_, rfl, by decide, gd_at 167 (by decide +kernel) rfl, rfl, rfl, by decide +kernel⟩
theorem wf_X6_92 : Wf RX6 92 3 0 := ⟨_, rfl, by decide, Or.inr ⟨"RangeDeeds", ns_at 168 (by decide +kernel) rfl⟩⟩
theorem wf_X3_21 : Wf RX3 21 3 1 := ⟨_, rfl, by decide, Or.inl (gd_at 169 (by decide +kernel) rfl)⟩
theorem wp_X3_21 : ∃ q : vw_C, vwCl[3]? = some q ∧ 1 < q.2.2 ∧ Cond.fieldLink RX3 21 (q.2.1 1).1 (q.2.1 1).2.1 (q.2.1 1).2.2.1 ∈ gd_w ∧ (q.2.1 1).2.2.2 = true ∧ (q.2.1 1).1 = RX3 ∧ parseFieldDescriptor (q.2.1 1).2.2.1 = some (tyX3 1) := ⟨_, rfl, by decide, gd_at 169 (by decide +kernel) rfl, rfl, rfl, by decide +kernel⟩
theorem wf_X6_144 : Wf RX6 144 3 1 := ⟨_, rfl, by decide, Or.inr ⟨"RangeDeeds", ns_at 170 (by decide +kernel) rfl⟩⟩
theorem wf_X3_30 : Wf RX3 30 3 2 := ⟨_, rfl, by decide, Or.inl (gd_at 171 (by decide +kernel) rfl)⟩
theorem wp_X3_30 : ∃ q : vw_C, vwCl[3]? = some q ∧ 2 < q.2.2 ∧ Cond.fieldLink RX3 30 (q.2.1 2).1 (q.2.1 2).2.1 (q.2.1 2).2.2.1 ∈ gd_w ∧ (q.2.1 2).2.2.2 = true ∧ (q.2.1 2).1 = RX3 ∧ parseFieldDescriptor (q.2.1 2).2.2.1 = some (tyX3 2) := ⟨_, rfl, by decide, gd_at 171 (by decide +kernel) rfl, rfl, rfl, by decide +kernel⟩
theorem wf_X6_190 : Wf RX6 190 3 2 := ⟨_, rfl, by decide, Or.inr ⟨"RangeDeeds", ns_at 172 (by decide +kernel) rfl⟩⟩
theorem wf_X3_34 : Wf RX3 34 3 3 := ⟨_, rfl, by decide, Or.inl (gd_at 173 (by decide +kernel) rfl)⟩
theorem wp_X3_34 : ∃ q : vw_C, vwCl[3]? = some q ∧ 3 < q.2.2 ∧ Cond.fieldLink RX3 34 (q.2.1 3).1 (q.2.1 3).2.1 (q.2.1 3).2.2.1 ∈ gd_w ∧ (q.2.1 3).2.2.2 = true ∧ (q.2.1 3).1 = RX3 ∧ parseFieldDescriptor (q.2.1 3).2.2.1 = some (tyX3 3) := ⟨_, rfl, by decide, gd_at 173 (by decide +kernel) rfl, rfl, rfl, by decide +kernel⟩
theorem wf_X3_38 : Wf RX3 38 3 4 := ⟨_, rfl, by decide, Or.inl (gd_at 174 (by decide +kernel) rfl)⟩
theorem wp_X3_38 : ∃ q : vw_C, vwCl[3]? = some q ∧ 4 < q.2.2 ∧ Cond.fieldLink RX3 38 (q.2.1 4).1 (q.2.1 4).2.1 (q.2.1 4).2.2.1 ∈ gd_w ∧ (q.2.1 4).2.2.2 = true ∧ (q.2.1 4).1 = RX3 ∧ parseFieldDescriptor (q.2.1 4).2.2.1 = some (tyX3 4) := ⟨_, rfl, by decide, gd_at 174 (by decide +kernel) rfl, rfl, rfl, by decide +kernel⟩
theorem wf_X6_129 : Wf RX6 129 3 4 := ⟨_, rfl, by decide, Or.inr ⟨"RangeDeeds", ns_at 175 (by decide +kernel) rfl⟩⟩
theorem wf_X3_41 : Wf RX3 41 3 5 := ⟨_, rfl, by decide, Or.inl (gd_at 176 (by decide +kernel) rfl)⟩
theorem wp_X3_41 : ∃ q : vw_C, vwCl[3]? = some q ∧ 5 < q.2.2 ∧ Cond.fieldLink RX3 41 (q.2.1 5).1 (q.2.1 5).2.1 (q.2.1 5).2.2.1 ∈ gd_w ∧ (q.2.1 5).2.2.2 = true ∧ (q.2.1 5).1 = RX3 ∧ parseFieldDescriptor (q.2.1 5).2.2.1 = some (tyX3 5) := ⟨_, rfl, by decide, gd_at 176 (by decide +kernel) rfl, rfl, rfl, by decide +kernel⟩
theorem wf_X6_132 : Wf RX6 132 3 5 := ⟨_, rfl, by decide, Or.inr ⟨"RangeDeeds", ns_at 177 (by decide +kernel) rfl⟩⟩
theorem wf_X3_74 : Wf RX3 74 3 6 := ⟨_, rfl, by decide, Or.inl (gd_at 178 (by decide +kernel) rfl)⟩
theorem wq_X3_74 : ∀ q : vw_C, vwCl[3]? = some q → (q.2.1 6).2.2.2 = false ∧ parseFieldDescriptor (q.2.1 6).2.2.1 = some (tyX3 6) := fun q hq => by cases hq; exact ⟨rfl, by decide +kernel⟩
theorem wf_X6_160 : Wf RX6 160 3 6 := ⟨_, rfl, by decide, Or.inr ⟨"RangeDeeds", ns_at 179 (by decide +kernel) rfl⟩⟩
theorem wq_X6_160 : ∀ q : vw_C, vwCl[3]? = some q → (q.2.1 6).2.2.2 = false ∧ parseFieldDescriptor (q.2.1 6).2.2.1 = some (tyX3 6) := fun q hq => by cases hq; exact ⟨rfl, by decide +kernel⟩
theorem wf_X3_78 : Wf RX3 78 3 7 := ⟨_, rfl, by decide, Or.inl (gd_at 180 (by decide +kernel) rfl)⟩
theorem wq_X3_78 : ∀ q : vw_C, vwCl[3]? = some q → (q.2.1 7).2.2.2 = false ∧ parseFieldDescriptor (q.2.1 7).2.2.1 = some (tyX3 7) := fun q hq => by cases hq; exact ⟨rfl, by decide +kernel⟩
theorem wf_X6_156 : Wf RX6 156 3 7 := ⟨_, rfl, by decide, Or.inr ⟨"RangeDeeds", ns_at 181 (by decide +kernel) rfl⟩⟩
theorem wq_X6_156 : ∀ q : vw_C, vwCl[3]? = some q → (q.2.1 7).2.2.2 = false ∧ parseFieldDescriptor (q.2.1 7).2.2.1 = some (tyX3 7) := fun q hq => by cases hq; exact ⟨rfl, by decide +kernel⟩
theorem wf_X3_81 : Wf RX3 81 3 8 := ⟨_, rfl, by decide, Or.inl (gd_at 182 (by decide +kernel) rfl)⟩
theorem wq_X3_81 : ∀ q : vw_C, vwCl[3]? = some q → (q.2.1 8).2.2.2 = false ∧ parseFieldDescriptor (q.2.1 8).2.2.1 = some (tyX3 8) := fun q hq => by cases hq; exact ⟨rfl, by decide +kernel⟩
theorem wf_X6_176 : Wf RX6 176 3 8 := ⟨_, rfl, by decide, Or.inr ⟨"RangeDeeds", ns_at 183 (by decide +kernel) rfl⟩⟩
theorem wq_X6_176 : ∀ q : vw_C, vwCl[3]? = some q → (q.2.1 8).2.2.2 = false ∧ parseFieldDescriptor (q.2.1 8).2.2.1 = some (tyX3 8) := fun q hq => by cases hq; exact ⟨rfl, by decide +kernel⟩
theorem wf_X3_84 : Wf RX3 84 3 9 := ⟨_, rfl, by decide, Or.inl (gd_at 184 (by decide +kernel) rfl)⟩
theorem wq_X3_84 : ∀ q : vw_C, vwCl[3]? = some q → (q.2.1 9).2.2.2 = false ∧ parseFieldDescriptor (q.2.1 9).2.2.1 = some (tyX3 9) := fun q hq => by cases hq; exact ⟨rfl, by decide +kernel⟩
theorem wf_X6_179 : Wf RX6 179 3 9 := ⟨_, rfl, by decide, Or.inr ⟨"RangeDeeds", ns_at 185 (by decide +kernel) rfl⟩⟩
theorem wq_X6_179 : ∀ q : vw_C, vwCl[3]? = some q → (q.2.1 9).2.2.2 = false ∧ parseFieldDescriptor (q.2.1 9).2.2.1 = some (tyX3 9) := fun q hq => by cases hq; exact ⟨rfl, by decide +kernel⟩
theorem wk_X6_19 : Cond.classLink RX6 19 RX5 ∈ gd_w := gd_at 208 (by decide +kernel) rfl
theorem wi_X6_21 : Wi RX6 21 yX5_init cX5_init 1 0 := ⟨Or.inr ⟨"RangeDeeds", ns_at 209 (by decide +kernel) rfl⟩, gd_at 97 (by decide +kernel) rfl, gd_at 70 (by decide +kernel) rfl, gd_at 98 (by decide +kernel) rfl, rfl, ⟨by decide +kernel, by decide +kernel, by decide +kernel⟩⟩
theorem wk_X6_26 : Cond.classLink RX6 26 RX1 ∈ gd_w := gd_at 210 (by decide +kernel) rfl
theorem wi_X6_28 : Wi RX6 28 yX1_init cX1_init 2 0 := ⟨Or.inl (gd_at 212 (by decide +kernel) rfl), gd_at 213 (by decide +kernel) rfl, gd_at 74 (by decide +kernel) rfl, gd_at 214 (by decide +kernel) rfl, rfl, ⟨by decide +kernel, by decide +kernel, by decide +kernel⟩⟩
theorem wo_X1_3 : Cond.methodLink RX1 3 Lib.objectInit ∈ gd_w ∧ Cond.instanceMethod Lib.objectInit ∈ gd_w ∧ Cond.code Lib.objectInit ⟨#[0xb1]⟩ 1 none ∈ gd_w := ⟨gd_at 215 (by decide +kernel) rfl, gd_at 86 (by decide +kernel) rfl, gd_at 87 (by decide +kernel) rfl⟩
theorem wk_X1_9 : Cond.classLink RX1 9 RX3 ∈ gd_w := gd_at 216 (by decide +kernel) rfl
theorem wi_X1_17 : Wi RX1 17 yX3_init cX3_init 2 0 := ⟨Or.inl (gd_at 218 (by decide +kernel) rfl), gd_at 91 (by decide +kernel) rfl, gd_at 69 (by decide +kernel) rfl, gd_at 92 (by decide +kernel) rfl, rfl, ⟨by decide +kernel, by decide +kernel, by decide +kernel⟩⟩
theorem wf_X1_11 : Wf RX1 11 1 0 := ⟨_, rfl, by decide, Or.inl (gd_at 219 (by decide +kernel) rfl)⟩
theorem wp_X1_11 : ∃ q : vw_C, vwCl[1]? = some q ∧ 0 < q.2.2 ∧ Cond.fieldLink RX1 11 (q.2.1 0).1 (q.2.1 0).2.1 (q.2.1 0).2.2.1 ∈ gd_w ∧ (q.2.1 0).2.2.2 = true ∧ (q.2.1 0).1 = RX1 ∧ parseFieldDescriptor (q.2.1 0).2.2.1 = some (tyX1 0) := ⟨_, rfl, by decide, gd_at 219 (by decide +kernel) rfl, rfl, rfl, by decide +kernel⟩
theorem wf_X1_18 : Wf RX1 18 1 1 := ⟨_, rfl, by decide, Or.inl (gd_at 220 (by decide +kernel) rfl)⟩
theorem wq_X1_18 : ∀ q : vw_C, vwCl[1]? = some q → (q.2.1 1).2.2.2 = false ∧ parseFieldDescriptor (q.2.1 1).2.2.1 = some (tyX1 1) := fun q hq => by cases hq; exact ⟨rfl, by decide +kernel⟩
theorem wf_X6_186 : Wf RX6 186 1 1 := ⟨_, rfl, by decide, Or.inr ⟨"RangeDeeds", ns_at 221 (by decide +kernel) rfl⟩⟩
theorem wq_X6_186 : ∀ q : vw_C, vwCl[1]? = some q → (q.2.1 1).2.2.2 = false ∧ parseFieldDescriptor (q.2.1 1).2.2.1 = some (tyX1 1) := fun q hq => by cases hq; exact ⟨rfl, by decide +kernel⟩
theorem wk_X6_37 : Cond.classLink RX6 37 RX2 ∈ gd_w := gd_at 227 (by decide +kernel) rfl
theorem wi_X6_39 : Wi RX6 39 yX2_init cX2_init 1 0 := ⟨Or.inr ⟨"RangeDeeds", ns_at 229 (by decide +kernel) rfl⟩, gd_at 230 (by decide +kernel) rfl, gd_at 75 (by decide +kernel) rfl, gd_at 231 (by decide +kernel) rfl, rfl, ⟨by decide +kernel, by decide +kernel, by decide +kernel⟩⟩
theorem wo_X2_3 : Cond.methodLink RX2 3 Lib.objectInit ∈ gd_w ∧ Cond.instanceMethod Lib.objectInit ∈ gd_w ∧ Cond.code Lib.objectInit ⟨#[0xb1]⟩ 1 none ∈ gd_w := ⟨gd_at 232 (by decide +kernel) rfl, gd_at 86 (by decide +kernel) rfl, gd_at 87 (by decide +kernel) rfl⟩
theorem wf_X2_9 : Wf RX2 9 2 0 := ⟨_, rfl, by decide, Or.inl (gd_at 233 (by decide +kernel) rfl)⟩
theorem wp_X2_9 : ∃ q : vw_C, vwCl[2]? = some q ∧ 0 < q.2.2 ∧ Cond.fieldLink RX2 9 (q.2.1 0).1 (q.2.1 0).2.1 (q.2.1 0).2.2.1 ∈ gd_w ∧ (q.2.1 0).2.2.2 = true ∧ (q.2.1 0).1 = RX2 ∧ parseFieldDescriptor (q.2.1 0).2.2.1 = some (tyX2 0) := ⟨_, rfl, by decide, gd_at 233 (by decide +kernel) rfl, rfl, rfl, by decide +kernel⟩
theorem wf_X2_21 : Wf RX2 21 2 1 := ⟨_, rfl, by decide, Or.inl (gd_at 234 (by decide +kernel) rfl)⟩
theorem wq_X2_21 : ∀ q : vw_C, vwCl[2]? = some q → (q.2.1 1).2.2.2 = false ∧ parseFieldDescriptor (q.2.1 1).2.2.1 = some (tyX2 1) := fun q hq => by cases hq; exact ⟨rfl, by decide +kernel⟩
theorem wf_X6_185 : Wf RX6 185 2 1 := ⟨_, rfl, by decide, Or.inr ⟨"RangeDeeds", ns_at 235 (by decide +kernel) rfl⟩⟩
theorem wq_X6_185 : ∀ q : vw_C, vwCl[2]? = some q → (q.2.1 1).2.2.2 = false ∧ parseFieldDescriptor (q.2.1 1).2.2.1 = some (tyX2 1) := fun q hq => by cases hq; exact ⟨rfl, by decide +kernel⟩
theorem wf_X2_25 : Wf RX2 25 2 2 := ⟨_, rfl, by decide, Or.inl (gd_at 236 (by decide +kernel) rfl)⟩
theorem wq_X2_25 : ∀ q : vw_C, vwCl[2]? = some q → (q.2.1 2).2.2.2 = false ∧ parseFieldDescriptor (q.2.1 2).2.2.1 = some (tyX2 2) := fun q hq => by cases hq; exact ⟨rfl, by decide +kernel⟩
theorem wf_X6_239 : Wf RX6 239 2 2 := ⟨_, rfl, by decide, Or.inr ⟨"RangeDeeds", ns_at 237 (by decide +kernel) rfl⟩⟩
theorem wq_X6_239 : ∀ q : vw_C, vwCl[2]? = some q → (q.2.1 2).2.2.2 = false ∧ parseFieldDescriptor (q.2.1 2).2.2.1 = some (tyX2 2) := fun q hq => by cases hq; exact ⟨rfl, by decide +kernel⟩
theorem wf_X2_40 : Wf RX2 40 2 3 := ⟨_, rfl, by decide, Or.inl (gd_at 238 (by decide +kernel) rfl)⟩
theorem wq_X2_40 : ∀ q : vw_C, vwCl[2]? = some q → (q.2.1 3).2.2.2 = false ∧ parseFieldDescriptor (q.2.1 3).2.2.1 = some (tyX2 3) := fun q hq => by cases hq; exact ⟨rfl, by decide +kernel⟩
theorem wf_X6_304 : Wf RX6 304 2 3 := ⟨_, rfl, by decide, Or.inr ⟨"RangeDeeds", ns_at 239 (by decide +kernel) rfl⟩⟩
theorem wq_X6_304 : ∀ q : vw_C, vwCl[2]? = some q → (q.2.1 3).2.2.2 = false ∧ parseFieldDescriptor (q.2.1 3).2.2.1 = some (tyX2 3) := fun q hq => by cases hq; exact ⟨rfl, by decide +kernel⟩
theorem wf_X2_55 : Wf RX2 55 2 4 := ⟨_, rfl, by decide, Or.inl (gd_at 240 (by decide +kernel) rfl)⟩
theorem wq_X2_55 : ∀ q : vw_C, vwCl[2]? = some q → (q.2.1 4).2.2.2 = false ∧ parseFieldDescriptor (q.2.1 4).2.2.1 = some (tyX2 4) := fun q hq => by cases hq; exact ⟨rfl, by decide +kernel⟩
theorem wf_X6_307 : Wf RX6 307 2 4 := ⟨_, rfl, by decide, Or.inr ⟨"RangeDeeds", ns_at 241 (by decide +kernel) rfl⟩⟩
theorem wq_X6_307 : ∀ q : vw_C, vwCl[2]? = some q → (q.2.1 4).2.2.2 = false ∧ parseFieldDescriptor (q.2.1 4).2.2.1 = some (tyX2 4) := fun q hq => by cases hq; exact ⟨rfl, by decide +kernel⟩
theorem wf_X2_49 : Wf RX2 49 2 5 := ⟨_, rfl, by decide, Or.inl (gd_at 242 (by decide +kernel) rfl)⟩
theorem wq_X2_49 : ∀ q : vw_C, vwCl[2]? = some q → (q.2.1 5).2.2.2 = false ∧ parseFieldDescriptor (q.2.1 5).2.2.1 = some (tyX2 5) := fun q hq => by cases hq; exact ⟨rfl, by decide +kernel⟩
theorem wf_X6_310 : Wf RX6 310 2 5 := ⟨_, rfl, by decide, Or.inr ⟨"RangeDeeds", ns_at 243 (by decide +kernel) rfl⟩⟩
theorem wq_X6_310 : ∀ q : vw_C, vwCl[2]? = some q → (q.2.1 5).2.2.2 = false ∧ parseFieldDescriptor (q.2.1 5).2.2.1 = some (tyX2 5) := fun q hq => by cases hq; exact ⟨rfl, by decide +kernel⟩
theorem wf_X2_52 : Wf RX2 52 2 6 := ⟨_, rfl, by decide, Or.inl (gd_at 244 (by decide +kernel) rfl)⟩
theorem wq_X2_52 : ∀ q : vw_C, vwCl[2]? = some q → (q.2.1 6).2.2.2 = false ∧ parseFieldDescriptor (q.2.1 6).2.2.1 = some (tyX2 6) := fun q hq => by cases hq; exact ⟨rfl, by decide +kernel⟩
theorem wf_X6_313 : Wf RX6 313 2 6 := ⟨_, rfl, by decide, Or.inr ⟨"RangeDeeds", ns_at 245 (by decide +kernel) rfl⟩⟩
theorem wq_X6_313 : ∀ q : vw_C, vwCl[2]? = some q → (q.2.1 6).2.2.2 = false ∧ parseFieldDescriptor (q.2.1 6).2.2.1 = some (tyX2 6) := fun q hq => by cases hq; exact ⟨rfl, by decide +kernel⟩
theorem wf_X6_12 : Wf RX6 12 6 0 := ⟨_, rfl, by decide, Or.inl (gd_at 262 (by decide +kernel) rfl)⟩
theorem wp_X6_12 : ∃ q : vw_C, vwCl[6]? = some q ∧ 0 < q.2.2 ∧ Cond.fieldLink RX6 12 (q.2.1 0).1 (q.2.1 0).2.1 (q.2.1 0).2.2.1 ∈ gd_w ∧ (q.2.1 0).2.2.2 = true ∧ (q.2.1 0).1 = RX6 ∧ parseFieldDescriptor (q.2.1 0).2.2.1 = some (tyX6 0) := ⟨_, rfl, by decide, gd_at 262 (by decide +kernel) rfl, rfl, rfl, by decide +kernel⟩
theorem wf_X6_16 : Wf RX6 16 6 1 := ⟨_, rfl, by decide, Or.inl (gd_at 263 (by decide +kernel) rfl)⟩
theorem wp_X6_16 : ∃ q : vw_C, vwCl[6]? = some q ∧ 1 < q.2.2 ∧ Cond.fieldLink RX6 16 (q.2.1 1).1 (q.2.1 1).2.1 (q.2.1 1).2.2.1 ∈ gd_w ∧ (q.2.1 1).2.2.2 = true ∧ (q.2.1 1).1 = RX6 ∧ parseFieldDescriptor (q.2.1 1).2.2.1 = some (tyX6 1) := ⟨_, rfl, by decide, gd_at 263 (by decide +kernel) rfl, rfl, rfl, by decide +kernel⟩
theorem wf_X6_22 : Wf RX6 22 6 2 := ⟨_, rfl, by decide, Or.inl (gd_at 264 (by decide +kernel) rfl)⟩
theorem wp_X6_22 : ∃ q : vw_C, vwCl[6]? = some q ∧ 2 < q.2.2 ∧ Cond.fieldLink RX6 22 (q.2.1 2).1 (q.2.1 2).2.1 (q.2.1 2).2.2.1 ∈ gd_w ∧ (q.2.1 2).2.2.2 = true ∧ (q.2.1 2).1 = RX6 ∧ parseFieldDescriptor (q.2.1 2).2.2.1 = some (tyX6 2) := ⟨_, rfl, by decide, gd_at 264 (by decide +kernel) rfl, rfl, rfl, by decide +kernel⟩
theorem wf_X6_29 : Wf RX6 29 6 3 := ⟨_, rfl, by decide, Or.inl (gd_at 265 (by decide +kernel) rfl)⟩
theorem wp_X6_29 : ∃ q : vw_C, vwCl[6]? = some q ∧ 3 < q.2.2 ∧ Cond.fieldLink RX6 29 (q.2.1 3).1 (q.2.1 3).2.1 (q.2.1 3).2.2.1 ∈ gd_w ∧ (q.2.1 3).2.2.2 = true ∧ (q.2.1 3).1 = RX6 ∧ parseFieldDescriptor (q.2.1 3).2.2.1 = some (tyX6 3) := ⟨_, rfl, by decide, gd_at 265 (by decide +kernel) rfl, rfl, rfl, by decide +kernel⟩
theorem wf_X6_33 : Wf RX6 33 6 4 := ⟨_, rfl, by decide, Or.inl (gd_at 266 (by decide +kernel) rfl)⟩
theorem wp_X6_33 : ∃ q : vw_C, vwCl[6]? = some q ∧ 4 < q.2.2 ∧ Cond.fieldLink RX6 33 (q.2.1 4).1 (q.2.1 4).2.1 (q.2.1 4).2.2.1 ∈ gd_w ∧ (q.2.1 4).2.2.2 = true ∧ (q.2.1 4).1 = RX6 ∧ parseFieldDescriptor (q.2.1 4).2.2.1 = some (tyX6 4) := ⟨_, rfl, by decide, gd_at 266 (by decide +kernel) rfl, rfl, rfl, by decide +kernel⟩
theorem wf_X6_40 : Wf RX6 40 6 5 := ⟨_, rfl, by decide, Or.inl (gd_at 267 (by decide +kernel) rfl)⟩
theorem wp_X6_40 : ∃ q : vw_C, vwCl[6]? = some q ∧ 5 < q.2.2 ∧ Cond.fieldLink RX6 40 (q.2.1 5).1 (q.2.1 5).2.1 (q.2.1 5).2.2.1 ∈ gd_w ∧ (q.2.1 5).2.2.2 = true ∧ (q.2.1 5).1 = RX6 ∧ parseFieldDescriptor (q.2.1 5).2.2.1 = some (tyX6 5) := ⟨_, rfl, by decide, gd_at 267 (by decide +kernel) rfl, rfl, rfl, by decide +kernel⟩
theorem wv_L_13 : Wv RL 13 RX6 yX6_set cX6_set 3 (some .int) 2 := ⟨gd_at 281 (by decide +kernel) rfl, gd_at 282 (by decide +kernel) rfl, gd_at 283 (by decide +kernel) rfl, gd_at 68 (by decide +kernel) rfl, gd_at 284 (by decide +kernel) rfl, ⟨rfl, by decide +kernel, by decide +kernel, by decide +kernel⟩⟩
theorem wv_X6_44 : Wv RX6 44 RX1 yX1_prepare cX1_prepare 3 none 1 := ⟨gd_at 285 (by decide +kernel) rfl, gd_at 286 (by decide +kernel) rfl, gd_at 287 (by decide +kernel) rfl, gd_at 74 (by decide +kernel) rfl, gd_at 288 (by decide +kernel) rfl, ⟨rfl, by decide +kernel, by decide +kernel, by decide +kernel⟩⟩
theorem wv_X1_22 : Wv RX1 22 RX3 yX3_copy cX3_copy 2 none 1 := ⟨gd_at 289 (by decide +kernel) rfl, gd_at 290 (by decide +kernel) rfl, gd_at 291 (by decide +kernel) rfl, gd_at 69 (by decide +kernel) rfl, gd_at 292 (by decide +kernel) rfl, ⟨rfl, by decide +kernel, by decide +kernel, by decide +kernel⟩⟩
theorem wv_X3_52 : Wv RX3 52 RX5 yX5_copy cX5_copy 2 none 1 := ⟨gd_at 293 (by decide +kernel) rfl, gd_at 294 (by decide +kernel) rfl, gd_at 295 (by decide +kernel) rfl, gd_at 70 (by decide +kernel) rfl, gd_at 296 (by decide +kernel) rfl, ⟨rfl, by decide +kernel, by decide +kernel, by decide +kernel⟩⟩
theorem wv_X5_32 : Wv RX5 32 RX4 yX4_copy cX4_copy 2 none 1 := ⟨gd_at 297 (by decide +kernel) rfl, gd_at 298 (by decide +kernel) rfl, gd_at 299 (by decide +kernel) rfl, gd_at 71 (by decide +kernel) rfl, gd_at 300 (by decide +kernel) rfl, ⟨rfl, by decide +kernel, by decide +kernel, by decide +kernel⟩⟩
theorem wm_X4_19 : Wm RX4 19 yJ9_min_7cf53 cJ9_min_7cf53 := ⟨gd_at 301 (by decide +kernel) rfl, gd_at 302 (by decide +kernel) rfl, gd_at 72 (by decide +kernel) rfl, gd_at 303 (by decide +kernel) rfl⟩
theorem wa_X4_22 : Wa RX4 22 := ⟨gd_at 304 (by decide +kernel) rfl, gd_at 306 (by decide +kernel) rfl, gd_at 305 (by decide +kernel) rfl, gd_at 77 (by decide +kernel) rfl⟩
theorem wv_X3_56 : Wv RX3 56 RX0 yX0_copy cX0_copy 2 none 1 := ⟨gd_at 307 (by decide +kernel) rfl, gd_at 308 (by decide +kernel) rfl, gd_at 309 (by decide +kernel) rfl, gd_at 73 (by decide +kernel) rfl, gd_at 310 (by decide +kernel) rfl, ⟨rfl, by decide +kernel, by decide +kernel, by decide +kernel⟩⟩
theorem wv_X0_20 : Wv RX0 20 RX4 yX4_copy cX4_copy 2 none 1 := ⟨gd_at 311 (by decide +kernel) rfl, gd_at 298 (by decide +kernel) rfl, gd_at 299 (by decide +kernel) rfl, gd_at 71 (by decide +kernel) rfl, gd_at 300 (by decide +kernel) rfl, ⟨rfl, by decide +kernel, by decide +kernel, by decide +kernel⟩⟩
theorem wv_X3_59 : Wv RX3 59 RX4 yX4_copy cX4_copy 2 none 1 := ⟨gd_at 312 (by decide +kernel) rfl, gd_at 298 (by decide +kernel) rfl, gd_at 299 (by decide +kernel) rfl, gd_at 71 (by decide +kernel) rfl, gd_at 300 (by decide +kernel) rfl, ⟨rfl, by decide +kernel, by decide +kernel, by decide +kernel⟩⟩
theorem wm_X3_62 : Wm RX3 62 yJ9_min_7cf53 cJ9_min_7cf53 := ⟨gd_at 313 (by decide +kernel) rfl, gd_at 302 (by decide +kernel) rfl, gd_at 72 (by decide +kernel) rfl, gd_at 303 (by decide +kernel) rfl⟩
theorem wa_X3_68 : Wa RX3 68 := ⟨gd_at 314 (by decide +kernel) rfl, gd_at 306 (by decide +kernel) rfl, gd_at 305 (by decide +kernel) rfl, gd_at 77 (by decide +kernel) rfl⟩
theorem wv_X6_48 : Wv RX6 48 RX6 yX6_changeSetting cX6_changeSetting 4 (some .int) 2 := ⟨gd_at 315 (by decide +kernel) rfl, gd_at 317 (by decide +kernel) rfl, gd_at 0 (by decide +kernel) rfl, gd_at 68 (by decide +kernel) rfl, gd_at 318 (by decide +kernel) rfl, ⟨rfl, by decide +kernel, by decide +kernel, by decide +kernel⟩⟩
theorem ws_X6_187 : Ws RX6 187 yX6_isSetting cX6_isSetting 1 (some .boolean) 1 := ⟨gd_at 319 (by decide +kernel) rfl, gd_at 320 (by decide +kernel) rfl, gd_at 68 (by decide +kernel) rfl, gd_at 321 (by decide +kernel) rfl, ⟨by decide +kernel, by decide +kernel, by decide +kernel⟩⟩
theorem wt_X6_263 : Cond.fieldLink RX6 263 "RangeDeeds" (sv_n 1) "[I" ∈ gd_w ∨ ∃ host : String, Cond.fieldLinkNest RX6 263 "RangeDeeds" (sv_n 1) "[I" host ∈ ns_w := Or.inl (gd_at 322 (by decide +kernel) rfl)
theorem wt_X6_267 : Cond.fieldLink RX6 267 "RangeDeeds" (sv_n 2) "[I" ∈ gd_w ∨ ∃ host : String, Cond.fieldLinkNest RX6 267 "RangeDeeds" (sv_n 2) "[I" host ∈ ns_w := Or.inl (gd_at 324 (by decide +kernel) rfl)
theorem wv_X6_103 : Wv RX6 103 RX4 yX4_at cX4_at 2 (some .int) 1 := ⟨gd_at 326 (by decide +kernel) rfl, gd_at 327 (by decide +kernel) rfl, gd_at 328 (by decide +kernel) rfl, gd_at 71 (by decide +kernel) rfl, gd_at 329 (by decide +kernel) rfl, ⟨rfl, by decide +kernel, by decide +kernel, by decide +kernel⟩⟩
theorem wv_X6_270 : Wv RX6 270 RX4 yX4_store cX4_store 3 none 2 := ⟨gd_at 330 (by decide +kernel) rfl, gd_at 164 (by decide +kernel) rfl, gd_at 165 (by decide +kernel) rfl, gd_at 71 (by decide +kernel) rfl, gd_at 166 (by decide +kernel) rfl, ⟨rfl, by decide +kernel, by decide +kernel, by decide +kernel⟩⟩
theorem wv_X6_52 : Wv RX6 52 RX1 yX1_finish cX1_finish 2 (some .int) 1 := ⟨gd_at 331 (by decide +kernel) rfl, gd_at 332 (by decide +kernel) rfl, gd_at 333 (by decide +kernel) rfl, gd_at 74 (by decide +kernel) rfl, gd_at 334 (by decide +kernel) rfl, ⟨rfl, by decide +kernel, by decide +kernel, by decide +kernel⟩⟩
theorem wv_X1_26 : Wv RX1 26 RX1 yX1_dropOldest cX1_dropOldest 3 none 0 := ⟨gd_at 335 (by decide +kernel) rfl, gd_at 337 (by decide +kernel) rfl, gd_at 1 (by decide +kernel) rfl, gd_at 74 (by decide +kernel) rfl, gd_at 338 (by decide +kernel) rfl, ⟨rfl, by decide +kernel, by decide +kernel, by decide +kernel⟩⟩
theorem wv_L_18 : Wv RL 18 RX6 yX6_owner cX6_owner 2 (some .int) 1 := ⟨gd_at 339 (by decide +kernel) rfl, gd_at 340 (by decide +kernel) rfl, gd_at 341 (by decide +kernel) rfl, gd_at 68 (by decide +kernel) rfl, gd_at 342 (by decide +kernel) rfl, ⟨rfl, by decide +kernel, by decide +kernel, by decide +kernel⟩⟩
theorem wv_X6_56 : Wv RX6 56 RX6 yX6_addOwner cX6_addOwner 3 (some .int) 1 := ⟨gd_at 343 (by decide +kernel) rfl, gd_at 345 (by decide +kernel) rfl, gd_at 2 (by decide +kernel) rfl, gd_at 68 (by decide +kernel) rfl, gd_at 346 (by decide +kernel) rfl, ⟨rfl, by decide +kernel, by decide +kernel, by decide +kernel⟩⟩
theorem ws_X6_274 : Ws RX6 274 yX6_isAmount cX6_isAmount 1 (some .boolean) 1 := ⟨gd_at 347 (by decide +kernel) rfl, gd_at 348 (by decide +kernel) rfl, gd_at 68 (by decide +kernel) rfl, gd_at 349 (by decide +kernel) rfl, ⟨by decide +kernel, by decide +kernel, by decide +kernel⟩⟩
theorem wc_X6_262 : Cond.constant RX6 262 (iI (1000000)) ∈ gd_w := gd_at 350 (by decide +kernel) rfl
theorem wv_X6_277 : Wv RX6 277 RX3 yX3_earn cX3_earn 4 none 2 := ⟨gd_at 351 (by decide +kernel) rfl, gd_at 352 (by decide +kernel) rfl, gd_at 353 (by decide +kernel) rfl, gd_at 69 (by decide +kernel) rfl, gd_at 354 (by decide +kernel) rfl, ⟨rfl, by decide +kernel, by decide +kernel, by decide +kernel⟩⟩
theorem wv_L_23 : Wv RL 23 RX6 yX6_pay cX6_pay 3 (some .int) 2 := ⟨gd_at 355 (by decide +kernel) rfl, gd_at 356 (by decide +kernel) rfl, gd_at 357 (by decide +kernel) rfl, gd_at 68 (by decide +kernel) rfl, gd_at 358 (by decide +kernel) rfl, ⟨rfl, by decide +kernel, by decide +kernel, by decide +kernel⟩⟩
theorem wv_X6_59 : Wv RX6 59 RX6 yX6_payIn cX6_payIn 3 (some .int) 2 := ⟨gd_at 359 (by decide +kernel) rfl, gd_at 361 (by decide +kernel) rfl, gd_at 3 (by decide +kernel) rfl, gd_at 68 (by decide +kernel) rfl, gd_at 362 (by decide +kernel) rfl, ⟨rfl, by decide +kernel, by decide +kernel, by decide +kernel⟩⟩
theorem wv_X6_114 : Wv RX6 114 RX3 yX3_hasOwner cX3_hasOwner 2 (some .boolean) 1 := ⟨gd_at 363 (by decide +kernel) rfl, gd_at 364 (by decide +kernel) rfl, gd_at 365 (by decide +kernel) rfl, gd_at 69 (by decide +kernel) rfl, gd_at 366 (by decide +kernel) rfl, ⟨rfl, by decide +kernel, by decide +kernel, by decide +kernel⟩⟩
theorem wv_X6_135 : Wv RX6 135 RX3 yX3_purseOf cX3_purseOf 2 (some .long) 1 := ⟨gd_at 367 (by decide +kernel) rfl, gd_at 368 (by decide +kernel) rfl, gd_at 369 (by decide +kernel) rfl, gd_at 69 (by decide +kernel) rfl, gd_at 370 (by decide +kernel) rfl, ⟨rfl, by decide +kernel, by decide +kernel, by decide +kernel⟩⟩
theorem wv_L_27 : Wv RL 27 RX6 yX6_give cX6_give 4 (some .int) 3 := ⟨gd_at 371 (by decide +kernel) rfl, gd_at 372 (by decide +kernel) rfl, gd_at 373 (by decide +kernel) rfl, gd_at 68 (by decide +kernel) rfl, gd_at 374 (by decide +kernel) rfl, ⟨rfl, by decide +kernel, by decide +kernel, by decide +kernel⟩⟩
theorem wv_X6_62 : Wv RX6 62 RX6 yX6_givePiece cX6_givePiece 4 (some .int) 3 := ⟨gd_at 375 (by decide +kernel) rfl, gd_at 377 (by decide +kernel) rfl, gd_at 4 (by decide +kernel) rfl, gd_at 68 (by decide +kernel) rfl, gd_at 378 (by decide +kernel) rfl, ⟨rfl, by decide +kernel, by decide +kernel, by decide +kernel⟩⟩
theorem ws_X6_205 : Ws RX6 205 yX6_isPiece cX6_isPiece 2 (some .boolean) 2 := ⟨gd_at 379 (by decide +kernel) rfl, gd_at 380 (by decide +kernel) rfl, gd_at 68 (by decide +kernel) rfl, gd_at 381 (by decide +kernel) rfl, ⟨by decide +kernel, by decide +kernel, by decide +kernel⟩⟩
theorem ws_X6_196 : Ws RX6 196 yX6_isLength cX6_isLength 1 (some .boolean) 1 := ⟨gd_at 382 (by decide +kernel) rfl, gd_at 383 (by decide +kernel) rfl, gd_at 68 (by decide +kernel) rfl, gd_at 384 (by decide +kernel) rfl, ⟨by decide +kernel, by decide +kernel, by decide +kernel⟩⟩
theorem wv_X6_209 : Wv RX6 209 RX5 yX5_become cX5_become 8 none 4 := ⟨gd_at 385 (by decide +kernel) rfl, gd_at 386 (by decide +kernel) rfl, gd_at 387 (by decide +kernel) rfl, gd_at 70 (by decide +kernel) rfl, gd_at 388 (by decide +kernel) rfl, ⟨rfl, by decide +kernel, by decide +kernel, by decide +kernel⟩⟩
theorem wv_X5_58 : Wv RX5 58 RX5 yX5_clear cX5_clear 1 none 0 := ⟨gd_at 389 (by decide +kernel) rfl, gd_at 391 (by decide +kernel) rfl, gd_at 5 (by decide +kernel) rfl, gd_at 70 (by decide +kernel) rfl, gd_at 392 (by decide +kernel) rfl, ⟨rfl, by decide +kernel, by decide +kernel, by decide +kernel⟩⟩
theorem wv_X5_40 : Wv RX5 40 RX4 yX4_clear cX4_clear 2 none 0 := ⟨gd_at 393 (by decide +kernel) rfl, gd_at 394 (by decide +kernel) rfl, gd_at 395 (by decide +kernel) rfl, gd_at 71 (by decide +kernel) rfl, gd_at 396 (by decide +kernel) rfl, ⟨rfl, by decide +kernel, by decide +kernel, by decide +kernel⟩⟩
theorem wv_X5_43 : Wv RX5 43 RX4 yX4_at cX4_at 2 (some .int) 1 := ⟨gd_at 397 (by decide +kernel) rfl, gd_at 327 (by decide +kernel) rfl, gd_at 328 (by decide +kernel) rfl, gd_at 71 (by decide +kernel) rfl, gd_at 329 (by decide +kernel) rfl, ⟨rfl, by decide +kernel, by decide +kernel, by decide +kernel⟩⟩
theorem wv_X5_59 : Wv RX5 59 RX5 yX5_endOf cX5_endOf 2 (some .int) 1 := ⟨gd_at 398 (by decide +kernel) rfl, gd_at 399 (by decide +kernel) rfl, gd_at 400 (by decide +kernel) rfl, gd_at 70 (by decide +kernel) rfl, gd_at 401 (by decide +kernel) rfl, ⟨rfl, by decide +kernel, by decide +kernel, by decide +kernel⟩⟩
theorem wm_X5_62 : Wm RX5 62 yJ9_min_7cf53 cJ9_min_7cf53 := ⟨gd_at 402 (by decide +kernel) rfl, gd_at 302 (by decide +kernel) rfl, gd_at 72 (by decide +kernel) rfl, gd_at 303 (by decide +kernel) rfl⟩
theorem wv_X5_68 : Wv RX5 68 RX5 yX5_append cX5_append 5 none 3 := ⟨gd_at 403 (by decide +kernel) rfl, gd_at 405 (by decide +kernel) rfl, gd_at 6 (by decide +kernel) rfl, gd_at 70 (by decide +kernel) rfl, gd_at 406 (by decide +kernel) rfl, ⟨rfl, by decide +kernel, by decide +kernel, by decide +kernel⟩⟩
theorem wv_X5_51 : Wv RX5 51 RX4 yX4_add cX4_add 3 none 2 := ⟨gd_at 407 (by decide +kernel) rfl, gd_at 408 (by decide +kernel) rfl, gd_at 409 (by decide +kernel) rfl, gd_at 71 (by decide +kernel) rfl, gd_at 410 (by decide +kernel) rfl, ⟨rfl, by decide +kernel, by decide +kernel, by decide +kernel⟩⟩
theorem wv_X5_55 : Wv RX5 55 RX4 yX4_store cX4_store 3 none 2 := ⟨gd_at 411 (by decide +kernel) rfl, gd_at 164 (by decide +kernel) rfl, gd_at 165 (by decide +kernel) rfl, gd_at 71 (by decide +kernel) rfl, gd_at 166 (by decide +kernel) rfl, ⟨rfl, by decide +kernel, by decide +kernel, by decide +kernel⟩⟩
theorem wm_X5_72 : Wm RX5 72 yJ9_max_7cf53 cJ9_max_7cf53 := ⟨gd_at 412 (by decide +kernel) rfl, gd_at 107 (by decide +kernel) rfl, gd_at 72 (by decide +kernel) rfl, gd_at 108 (by decide +kernel) rfl⟩
theorem wv_X6_281 : Wv RX6 281 RX5 yX5_metersWithin cX5_metersWithin 6 (some .int) 3 := ⟨gd_at 413 (by decide +kernel) rfl, gd_at 414 (by decide +kernel) rfl, gd_at 415 (by decide +kernel) rfl, gd_at 70 (by decide +kernel) rfl, gd_at 416 (by decide +kernel) rfl, ⟨rfl, by decide +kernel, by decide +kernel, by decide +kernel⟩⟩
theorem wv_X5_82 : Wv RX5 82 RX5 yX5_overlap cX5_overlap 6 (some .int) 3 := ⟨gd_at 417 (by decide +kernel) rfl, gd_at 419 (by decide +kernel) rfl, gd_at 7 (by decide +kernel) rfl, gd_at 70 (by decide +kernel) rfl, gd_at 420 (by decide +kernel) rfl, ⟨rfl, by decide +kernel, by decide +kernel, by decide +kernel⟩⟩
theorem wv_X6_284 : Wv RX6 284 RX3 yX3_mayGet cX3_mayGet 3 (some .boolean) 2 := ⟨gd_at 421 (by decide +kernel) rfl, gd_at 422 (by decide +kernel) rfl, gd_at 423 (by decide +kernel) rfl, gd_at 69 (by decide +kernel) rfl, gd_at 424 (by decide +kernel) rfl, ⟨rfl, by decide +kernel, by decide +kernel, by decide +kernel⟩⟩
theorem wv_X3_90 : Wv RX3 90 RX4 yX4_at cX4_at 2 (some .int) 1 := ⟨gd_at 425 (by decide +kernel) rfl, gd_at 327 (by decide +kernel) rfl, gd_at 328 (by decide +kernel) rfl, gd_at 71 (by decide +kernel) rfl, gd_at 329 (by decide +kernel) rfl, ⟨rfl, by decide +kernel, by decide +kernel, by decide +kernel⟩⟩
theorem wv_X6_287 : Wv RX6 287 RX5 yX5_copy cX5_copy 2 none 1 := ⟨gd_at 426 (by decide +kernel) rfl, gd_at 294 (by decide +kernel) rfl, gd_at 295 (by decide +kernel) rfl, gd_at 70 (by decide +kernel) rfl, gd_at 296 (by decide +kernel) rfl, ⟨rfl, by decide +kernel, by decide +kernel, by decide +kernel⟩⟩
theorem wv_L_32 : Wv RL 32 RX6 yX6_free cX6_free 3 (some .int) 2 := ⟨gd_at 427 (by decide +kernel) rfl, gd_at 428 (by decide +kernel) rfl, gd_at 429 (by decide +kernel) rfl, gd_at 68 (by decide +kernel) rfl, gd_at 430 (by decide +kernel) rfl, ⟨rfl, by decide +kernel, by decide +kernel, by decide +kernel⟩⟩
theorem wv_X6_66 : Wv RX6 66 RX6 yX6_freePiece cX6_freePiece 3 (some .int) 2 := ⟨gd_at 431 (by decide +kernel) rfl, gd_at 433 (by decide +kernel) rfl, gd_at 8 (by decide +kernel) rfl, gd_at 68 (by decide +kernel) rfl, gd_at 434 (by decide +kernel) rfl, ⟨rfl, by decide +kernel, by decide +kernel, by decide +kernel⟩⟩
theorem wv_L_36 : Wv RL 36 RX6 yX6_grab cX6_grab 3 (some .int) 2 := ⟨gd_at 435 (by decide +kernel) rfl, gd_at 436 (by decide +kernel) rfl, gd_at 437 (by decide +kernel) rfl, gd_at 68 (by decide +kernel) rfl, gd_at 438 (by decide +kernel) rfl, ⟨rfl, by decide +kernel, by decide +kernel, by decide +kernel⟩⟩
theorem wv_X6_69 : Wv RX6 69 RX6 yX6_grabPiece cX6_grabPiece 6 (some .int) 2 := ⟨gd_at 439 (by decide +kernel) rfl, gd_at 441 (by decide +kernel) rfl, gd_at 9 (by decide +kernel) rfl, gd_at 68 (by decide +kernel) rfl, gd_at 442 (by decide +kernel) rfl, ⟨rfl, by decide +kernel, by decide +kernel, by decide +kernel⟩⟩
theorem wv_X6_199 : Wv RX6 199 RX5 yX5_gapFor cX5_gapFor 7 (some .int) 2 := ⟨gd_at 443 (by decide +kernel) rfl, gd_at 444 (by decide +kernel) rfl, gd_at 445 (by decide +kernel) rfl, gd_at 70 (by decide +kernel) rfl, gd_at 446 (by decide +kernel) rfl, ⟨rfl, by decide +kernel, by decide +kernel, by decide +kernel⟩⟩
theorem wv_X5_97 : Wv RX5 97 RX5 yX5_lengthOfGap cX5_lengthOfGap 2 (some .int) 1 := ⟨gd_at 447 (by decide +kernel) rfl, gd_at 449 (by decide +kernel) rfl, gd_at 10 (by decide +kernel) rfl, gd_at 70 (by decide +kernel) rfl, gd_at 450 (by decide +kernel) rfl, ⟨rfl, by decide +kernel, by decide +kernel, by decide +kernel⟩⟩
theorem wv_X5_94 : Wv RX5 94 RX5 yX5_startOfGap cX5_startOfGap 2 (some .int) 1 := ⟨gd_at 451 (by decide +kernel) rfl, gd_at 452 (by decide +kernel) rfl, gd_at 453 (by decide +kernel) rfl, gd_at 70 (by decide +kernel) rfl, gd_at 454 (by decide +kernel) rfl, ⟨rfl, by decide +kernel, by decide +kernel, by decide +kernel⟩⟩
theorem ws_X5_100 : Ws RX5 100 yX5_isBetter cX5_isBetter 3 (some .boolean) 3 := ⟨gd_at 455 (by decide +kernel) rfl, gd_at 456 (by decide +kernel) rfl, gd_at 70 (by decide +kernel) rfl, gd_at 457 (by decide +kernel) rfl, ⟨by decide +kernel, by decide +kernel, by decide +kernel⟩⟩
theorem wv_X6_202 : Wv RX6 202 RX5 yX5_startOfGap cX5_startOfGap 2 (some .int) 1 := ⟨gd_at 458 (by decide +kernel) rfl, gd_at 452 (by decide +kernel) rfl, gd_at 453 (by decide +kernel) rfl, gd_at 70 (by decide +kernel) rfl, gd_at 454 (by decide +kernel) rfl, ⟨rfl, by decide +kernel, by decide +kernel, by decide +kernel⟩⟩
theorem wv_L_40 : Wv RL 40 RX6 yX6_inherit cX6_inherit 3 (some .int) 2 := ⟨gd_at 459 (by decide +kernel) rfl, gd_at 460 (by decide +kernel) rfl, gd_at 461 (by decide +kernel) rfl, gd_at 68 (by decide +kernel) rfl, gd_at 462 (by decide +kernel) rfl, ⟨rfl, by decide +kernel, by decide +kernel, by decide +kernel⟩⟩
theorem wv_X6_72 : Wv RX6 72 RX6 yX6_handOver cX6_handOver 4 (some .int) 2 := ⟨gd_at 463 (by decide +kernel) rfl, gd_at 465 (by decide +kernel) rfl, gd_at 11 (by decide +kernel) rfl, gd_at 68 (by decide +kernel) rfl, gd_at 466 (by decide +kernel) rfl, ⟨rfl, by decide +kernel, by decide +kernel, by decide +kernel⟩⟩
theorem wv_X6_290 : Wv RX6 290 RX5 yX5_becomeInherited cX5_becomeInherited 6 none 3 := ⟨gd_at 467 (by decide +kernel) rfl, gd_at 468 (by decide +kernel) rfl, gd_at 469 (by decide +kernel) rfl, gd_at 70 (by decide +kernel) rfl, gd_at 470 (by decide +kernel) rfl, ⟨rfl, by decide +kernel, by decide +kernel, by decide +kernel⟩⟩
theorem wv_L_44 : Wv RL 44 RX6 yX6_transfer cX6_transfer 6 (some .int) 5 := ⟨gd_at 471 (by decide +kernel) rfl, gd_at 472 (by decide +kernel) rfl, gd_at 473 (by decide +kernel) rfl, gd_at 68 (by decide +kernel) rfl, gd_at 474 (by decide +kernel) rfl, ⟨rfl, by decide +kernel, by decide +kernel, by decide +kernel⟩⟩
theorem wv_X6_75 : Wv RX6 75 RX6 yX6_addTransfer cX6_addTransfer 6 (some .int) 5 := ⟨gd_at 475 (by decide +kernel) rfl, gd_at 477 (by decide +kernel) rfl, gd_at 12 (by decide +kernel) rfl, gd_at 68 (by decide +kernel) rfl, gd_at 478 (by decide +kernel) rfl, ⟨rfl, by decide +kernel, by decide +kernel, by decide +kernel⟩⟩
theorem wv_X6_294 : Wv RX6 294 RX0 yX0_append cX0_append 7 none 5 := ⟨gd_at 479 (by decide +kernel) rfl, gd_at 480 (by decide +kernel) rfl, gd_at 481 (by decide +kernel) rfl, gd_at 73 (by decide +kernel) rfl, gd_at 482 (by decide +kernel) rfl, ⟨rfl, by decide +kernel, by decide +kernel, by decide +kernel⟩⟩
theorem wv_X0_32 : Wv RX0 32 RX4 yX4_store cX4_store 3 none 2 := ⟨gd_at 483 (by decide +kernel) rfl, gd_at 164 (by decide +kernel) rfl, gd_at 165 (by decide +kernel) rfl, gd_at 71 (by decide +kernel) rfl, gd_at 166 (by decide +kernel) rfl, ⟨rfl, by decide +kernel, by decide +kernel, by decide +kernel⟩⟩
theorem wv_L_49 : Wv RL 49 RX6 yX6_drop cX6_drop 1 (some .int) 0 := ⟨gd_at 484 (by decide +kernel) rfl, gd_at 485 (by decide +kernel) rfl, gd_at 486 (by decide +kernel) rfl, gd_at 68 (by decide +kernel) rfl, gd_at 487 (by decide +kernel) rfl, ⟨rfl, by decide +kernel, by decide +kernel, by decide +kernel⟩⟩
theorem wv_X6_79 : Wv RX6 79 RX6 yX6_dropTransfer cX6_dropTransfer 1 (some .int) 0 := ⟨gd_at 488 (by decide +kernel) rfl, gd_at 490 (by decide +kernel) rfl, gd_at 13 (by decide +kernel) rfl, gd_at 68 (by decide +kernel) rfl, gd_at 491 (by decide +kernel) rfl, ⟨rfl, by decide +kernel, by decide +kernel, by decide +kernel⟩⟩
theorem wv_L_54 : Wv RL 54 RX6 yX6_close cX6_close 1 (some .int) 0 := ⟨gd_at 492 (by decide +kernel) rfl, gd_at 493 (by decide +kernel) rfl, gd_at 494 (by decide +kernel) rfl, gd_at 68 (by decide +kernel) rfl, gd_at 495 (by decide +kernel) rfl, ⟨rfl, by decide +kernel, by decide +kernel, by decide +kernel⟩⟩
theorem wv_X6_83 : Wv RX6 83 RX6 yX6_closeDeal cX6_closeDeal 2 (some .int) 0 := ⟨gd_at 496 (by decide +kernel) rfl, gd_at 498 (by decide +kernel) rfl, gd_at 14 (by decide +kernel) rfl, gd_at 68 (by decide +kernel) rfl, gd_at 499 (by decide +kernel) rfl, ⟨rfl, by decide +kernel, by decide +kernel, by decide +kernel⟩⟩
theorem wv_X6_86 : Wv RX6 86 RX6 yX6_rehearse cX6_rehearse 2 (some .int) 0 := ⟨gd_at 500 (by decide +kernel) rfl, gd_at 502 (by decide +kernel) rfl, gd_at 15 (by decide +kernel) rfl, gd_at 68 (by decide +kernel) rfl, gd_at 503 (by decide +kernel) rfl, ⟨rfl, by decide +kernel, by decide +kernel, by decide +kernel⟩⟩
theorem wv_X6_256 : Wv RX6 256 RX3 yX3_copy cX3_copy 2 none 1 := ⟨gd_at 504 (by decide +kernel) rfl, gd_at 290 (by decide +kernel) rfl, gd_at 291 (by decide +kernel) rfl, gd_at 69 (by decide +kernel) rfl, gd_at 292 (by decide +kernel) rfl, ⟨rfl, by decide +kernel, by decide +kernel, by decide +kernel⟩⟩
theorem wv_X6_297 : Wv RX6 297 RX3 yX3_carryTransfer cX3_carryTransfer 9 (some .boolean) 2 := ⟨gd_at 505 (by decide +kernel) rfl, gd_at 506 (by decide +kernel) rfl, gd_at 507 (by decide +kernel) rfl, gd_at 69 (by decide +kernel) rfl, gd_at 508 (by decide +kernel) rfl, ⟨rfl, by decide +kernel, by decide +kernel, by decide +kernel⟩⟩
theorem wv_X3_126 : Wv RX3 126 RX0 yX0_about cX0_about 3 (some .int) 2 := ⟨gd_at 509 (by decide +kernel) rfl, gd_at 510 (by decide +kernel) rfl, gd_at 511 (by decide +kernel) rfl, gd_at 73 (by decide +kernel) rfl, gd_at 512 (by decide +kernel) rfl, ⟨rfl, by decide +kernel, by decide +kernel, by decide +kernel⟩⟩
theorem wv_X0_28 : Wv RX0 28 RX4 yX4_at cX4_at 2 (some .int) 1 := ⟨gd_at 513 (by decide +kernel) rfl, gd_at 327 (by decide +kernel) rfl, gd_at 328 (by decide +kernel) rfl, gd_at 71 (by decide +kernel) rfl, gd_at 329 (by decide +kernel) rfl, ⟨rfl, by decide +kernel, by decide +kernel, by decide +kernel⟩⟩
theorem wv_X3_129 : Wv RX3 129 RX5 yX5_metersWithin cX5_metersWithin 6 (some .int) 3 := ⟨gd_at 514 (by decide +kernel) rfl, gd_at 414 (by decide +kernel) rfl, gd_at 415 (by decide +kernel) rfl, gd_at 70 (by decide +kernel) rfl, gd_at 416 (by decide +kernel) rfl, ⟨rfl, by decide +kernel, by decide +kernel, by decide +kernel⟩⟩
theorem wv_X3_113 : Wv RX3 113 RX3 yX3_purseOf cX3_purseOf 2 (some .long) 1 := ⟨gd_at 515 (by decide +kernel) rfl, gd_at 368 (by decide +kernel) rfl, gd_at 369 (by decide +kernel) rfl, gd_at 69 (by decide +kernel) rfl, gd_at 370 (by decide +kernel) rfl, ⟨rfl, by decide +kernel, by decide +kernel, by decide +kernel⟩⟩
theorem wv_X3_133 : Wv RX3 133 RX3 yX3_mayGet cX3_mayGet 3 (some .boolean) 2 := ⟨gd_at 516 (by decide +kernel) rfl, gd_at 422 (by decide +kernel) rfl, gd_at 423 (by decide +kernel) rfl, gd_at 69 (by decide +kernel) rfl, gd_at 424 (by decide +kernel) rfl, ⟨rfl, by decide +kernel, by decide +kernel, by decide +kernel⟩⟩
theorem wv_X3_137 : Wv RX3 137 RX5 yX5_become cX5_become 8 none 4 := ⟨gd_at 517 (by decide +kernel) rfl, gd_at 386 (by decide +kernel) rfl, gd_at 387 (by decide +kernel) rfl, gd_at 70 (by decide +kernel) rfl, gd_at 388 (by decide +kernel) rfl, ⟨rfl, by decide +kernel, by decide +kernel, by decide +kernel⟩⟩
theorem wv_X3_144 : Wv RX3 144 RX5 yX5_hasShorter cX5_hasShorter 4 (some .boolean) 2 := ⟨gd_at 518 (by decide +kernel) rfl, gd_at 519 (by decide +kernel) rfl, gd_at 520 (by decide +kernel) rfl, gd_at 70 (by decide +kernel) rfl, gd_at 521 (by decide +kernel) rfl, ⟨rfl, by decide +kernel, by decide +kernel, by decide +kernel⟩⟩
theorem wv_X5_79 : Wv RX5 79 RX5 yX5_shortestOf cX5_shortestOf 4 (some .int) 1 := ⟨gd_at 522 (by decide +kernel) rfl, gd_at 523 (by decide +kernel) rfl, gd_at 524 (by decide +kernel) rfl, gd_at 70 (by decide +kernel) rfl, gd_at 525 (by decide +kernel) rfl, ⟨rfl, by decide +kernel, by decide +kernel, by decide +kernel⟩⟩
theorem wv_X3_106 : Wv RX3 106 RX3 yX3_earn cX3_earn 4 none 2 := ⟨gd_at 526 (by decide +kernel) rfl, gd_at 352 (by decide +kernel) rfl, gd_at 353 (by decide +kernel) rfl, gd_at 69 (by decide +kernel) rfl, gd_at 354 (by decide +kernel) rfl, ⟨rfl, by decide +kernel, by decide +kernel, by decide +kernel⟩⟩
theorem wv_L_58 : Wv RL 58 RX6 yX6_failing cX6_failing 1 (some .int) 0 := ⟨gd_at 527 (by decide +kernel) rfl, gd_at 528 (by decide +kernel) rfl, gd_at 529 (by decide +kernel) rfl, gd_at 68 (by decide +kernel) rfl, gd_at 530 (by decide +kernel) rfl, ⟨rfl, by decide +kernel, by decide +kernel, by decide +kernel⟩⟩
theorem wv_L_62 : Wv RL 62 RX6 yX6_days cX6_days 2 (some .int) 1 := ⟨gd_at 531 (by decide +kernel) rfl, gd_at 532 (by decide +kernel) rfl, gd_at 533 (by decide +kernel) rfl, gd_at 68 (by decide +kernel) rfl, gd_at 534 (by decide +kernel) rfl, ⟨rfl, by decide +kernel, by decide +kernel, by decide +kernel⟩⟩
theorem wv_X6_89 : Wv RX6 89 RX6 yX6_passDays cX6_passDays 3 (some .int) 1 := ⟨gd_at 535 (by decide +kernel) rfl, gd_at 537 (by decide +kernel) rfl, gd_at 16 (by decide +kernel) rfl, gd_at 68 (by decide +kernel) rfl, gd_at 538 (by decide +kernel) rfl, ⟨rfl, by decide +kernel, by decide +kernel, by decide +kernel⟩⟩
theorem wv_X6_301 : Wv RX6 301 RX3 yX3_passDay cX3_passDay 2 none 0 := ⟨gd_at 539 (by decide +kernel) rfl, gd_at 540 (by decide +kernel) rfl, gd_at 541 (by decide +kernel) rfl, gd_at 69 (by decide +kernel) rfl, gd_at 542 (by decide +kernel) rfl, ⟨rfl, by decide +kernel, by decide +kernel, by decide +kernel⟩⟩
theorem wv_X3_97 : Wv RX3 97 RX3 yX3_taxOf cX3_taxOf 3 (some .int) 1 := ⟨gd_at 543 (by decide +kernel) rfl, gd_at 544 (by decide +kernel) rfl, gd_at 545 (by decide +kernel) rfl, gd_at 69 (by decide +kernel) rfl, gd_at 546 (by decide +kernel) rfl, ⟨rfl, by decide +kernel, by decide +kernel, by decide +kernel⟩⟩
theorem wv_X3_100 : Wv RX3 100 RX3 yX3_chargeTax cX3_chargeTax 3 none 2 := ⟨gd_at 547 (by decide +kernel) rfl, gd_at 549 (by decide +kernel) rfl, gd_at 17 (by decide +kernel) rfl, gd_at 69 (by decide +kernel) rfl, gd_at 550 (by decide +kernel) rfl, ⟨rfl, by decide +kernel, by decide +kernel, by decide +kernel⟩⟩
theorem wv_X3_110 : Wv RX3 110 RX4 yX4_add cX4_add 3 none 2 := ⟨gd_at 551 (by decide +kernel) rfl, gd_at 408 (by decide +kernel) rfl, gd_at 409 (by decide +kernel) rfl, gd_at 71 (by decide +kernel) rfl, gd_at 410 (by decide +kernel) rfl, ⟨rfl, by decide +kernel, by decide +kernel, by decide +kernel⟩⟩
theorem wv_X3_103 : Wv RX3 103 RX3 yX3_loseRanges cX3_loseRanges 5 none 1 := ⟨gd_at 552 (by decide +kernel) rfl, gd_at 554 (by decide +kernel) rfl, gd_at 18 (by decide +kernel) rfl, gd_at 69 (by decide +kernel) rfl, gd_at 555 (by decide +kernel) rfl, ⟨rfl, by decide +kernel, by decide +kernel, by decide +kernel⟩⟩
theorem wv_X3_117 : Wv RX3 117 RX5 yX5_shortestOf cX5_shortestOf 4 (some .int) 1 := ⟨gd_at 556 (by decide +kernel) rfl, gd_at 523 (by decide +kernel) rfl, gd_at 524 (by decide +kernel) rfl, gd_at 70 (by decide +kernel) rfl, gd_at 525 (by decide +kernel) rfl, ⟨rfl, by decide +kernel, by decide +kernel, by decide +kernel⟩⟩
theorem wv_X3_123 : Wv RX3 123 RX5 yX5_remove cX5_remove 3 none 1 := ⟨gd_at 557 (by decide +kernel) rfl, gd_at 558 (by decide +kernel) rfl, gd_at 559 (by decide +kernel) rfl, gd_at 70 (by decide +kernel) rfl, gd_at 560 (by decide +kernel) rfl, ⟨rfl, by decide +kernel, by decide +kernel, by decide +kernel⟩⟩
theorem wv_X5_75 : Wv RX5 75 RX5 yX5_hasRange cX5_hasRange 2 (some .boolean) 1 := ⟨gd_at 561 (by decide +kernel) rfl, gd_at 562 (by decide +kernel) rfl, gd_at 563 (by decide +kernel) rfl, gd_at 70 (by decide +kernel) rfl, gd_at 564 (by decide +kernel) rfl, ⟨rfl, by decide +kernel, by decide +kernel, by decide +kernel⟩⟩
theorem wv_L_66 : Wv RL 66 RX6 yX6_ofRange cX6_ofRange 3 (some .int) 2 := ⟨gd_at 565 (by decide +kernel) rfl, gd_at 566 (by decide +kernel) rfl, gd_at 567 (by decide +kernel) rfl, gd_at 68 (by decide +kernel) rfl, gd_at 568 (by decide +kernel) rfl, ⟨rfl, by decide +kernel, by decide +kernel, by decide +kernel⟩⟩
theorem wv_X6_95 : Wv RX6 95 RX5 yX5_hasRange cX5_hasRange 2 (some .boolean) 1 := ⟨gd_at 569 (by decide +kernel) rfl, gd_at 562 (by decide +kernel) rfl, gd_at 563 (by decide +kernel) rfl, gd_at 70 (by decide +kernel) rfl, gd_at 564 (by decide +kernel) rfl, ⟨rfl, by decide +kernel, by decide +kernel, by decide +kernel⟩⟩
theorem wv_L_70 : Wv RL 70 RX6 yX6_ofOwner cX6_ofOwner 3 (some .int) 2 := ⟨gd_at 570 (by decide +kernel) rfl, gd_at 571 (by decide +kernel) rfl, gd_at 572 (by decide +kernel) rfl, gd_at 68 (by decide +kernel) rfl, gd_at 573 (by decide +kernel) rfl, ⟨rfl, by decide +kernel, by decide +kernel, by decide +kernel⟩⟩
theorem wv_X6_123 : Wv RX6 123 RX5 yX5_longestOf cX5_longestOf 4 (some .int) 1 := ⟨gd_at 574 (by decide +kernel) rfl, gd_at 575 (by decide +kernel) rfl, gd_at 576 (by decide +kernel) rfl, gd_at 70 (by decide +kernel) rfl, gd_at 577 (by decide +kernel) rfl, ⟨rfl, by decide +kernel, by decide +kernel, by decide +kernel⟩⟩
theorem wv_X6_126 : Wv RX6 126 RX3 yX3_taxOf cX3_taxOf 3 (some .int) 1 := ⟨gd_at 578 (by decide +kernel) rfl, gd_at 544 (by decide +kernel) rfl, gd_at 545 (by decide +kernel) rfl, gd_at 69 (by decide +kernel) rfl, gd_at 546 (by decide +kernel) rfl, ⟨rfl, by decide +kernel, by decide +kernel, by decide +kernel⟩⟩
theorem wv_L_74 : Wv RL 74 RX6 yX6_money cX6_money 2 (some .long) 1 := ⟨gd_at 579 (by decide +kernel) rfl, gd_at 580 (by decide +kernel) rfl, gd_at 581 (by decide +kernel) rfl, gd_at 68 (by decide +kernel) rfl, gd_at 582 (by decide +kernel) rfl, ⟨rfl, by decide +kernel, by decide +kernel, by decide +kernel⟩⟩
theorem wc_X6_139 : Cond.constantLong RX6 139 (jJ (-1)) ∈ gd_w := gd_at 583 (by decide +kernel) rfl
theorem wv_L_79 : Wv RL 79 RX6 yX6_ownerAt cX6_ownerAt 2 (some .int) 1 := ⟨gd_at 584 (by decide +kernel) rfl, gd_at 585 (by decide +kernel) rfl, gd_at 586 (by decide +kernel) rfl, gd_at 68 (by decide +kernel) rfl, gd_at 587 (by decide +kernel) rfl, ⟨rfl, by decide +kernel, by decide +kernel, by decide +kernel⟩⟩
theorem wv_X6_141 : Wv RX6 141 RX5 yX5_holderAt cX5_holderAt 3 (some .int) 1 := ⟨gd_at 588 (by decide +kernel) rfl, gd_at 589 (by decide +kernel) rfl, gd_at 590 (by decide +kernel) rfl, gd_at 70 (by decide +kernel) rfl, gd_at 591 (by decide +kernel) rfl, ⟨rfl, by decide +kernel, by decide +kernel, by decide +kernel⟩⟩
theorem wv_L_83 : Wv RL 83 RX6 yX6_ofTransfer cX6_ofTransfer 3 (some .int) 2 := ⟨gd_at 592 (by decide +kernel) rfl, gd_at 593 (by decide +kernel) rfl, gd_at 594 (by decide +kernel) rfl, gd_at 68 (by decide +kernel) rfl, gd_at 595 (by decide +kernel) rfl, ⟨rfl, by decide +kernel, by decide +kernel, by decide +kernel⟩⟩
theorem wv_X6_148 : Wv RX6 148 RX0 yX0_hasTransfer cX0_hasTransfer 2 (some .boolean) 1 := ⟨gd_at 596 (by decide +kernel) rfl, gd_at 597 (by decide +kernel) rfl, gd_at 598 (by decide +kernel) rfl, gd_at 73 (by decide +kernel) rfl, gd_at 599 (by decide +kernel) rfl, ⟨rfl, by decide +kernel, by decide +kernel, by decide +kernel⟩⟩
theorem wv_X6_153 : Wv RX6 153 RX0 yX0_about cX0_about 3 (some .int) 2 := ⟨gd_at 600 (by decide +kernel) rfl, gd_at 510 (by decide +kernel) rfl, gd_at 511 (by decide +kernel) rfl, gd_at 73 (by decide +kernel) rfl, gd_at 512 (by decide +kernel) rfl, ⟨rfl, by decide +kernel, by decide +kernel, by decide +kernel⟩⟩
theorem wv_L_87 : Wv RL 87 RX6 yX6_count cX6_count 2 (some .int) 1 := ⟨gd_at 601 (by decide +kernel) rfl, gd_at 602 (by decide +kernel) rfl, gd_at 603 (by decide +kernel) rfl, gd_at 68 (by decide +kernel) rfl, gd_at 604 (by decide +kernel) rfl, ⟨rfl, by decide +kernel, by decide +kernel, by decide +kernel⟩⟩
theorem wv_X6_166 : Wv RX6 166 RX5 yX5_metersOfAll cX5_metersOfAll 1 (some .int) 0 := ⟨gd_at 605 (by decide +kernel) rfl, gd_at 606 (by decide +kernel) rfl, gd_at 607 (by decide +kernel) rfl, gd_at 70 (by decide +kernel) rfl, gd_at 608 (by decide +kernel) rfl, ⟨rfl, by decide +kernel, by decide +kernel, by decide +kernel⟩⟩
theorem wv_X5_47 : Wv RX5 47 RX4 yX4_sum cX4_sum 3 (some .int) 0 := ⟨gd_at 609 (by decide +kernel) rfl, gd_at 610 (by decide +kernel) rfl, gd_at 611 (by decide +kernel) rfl, gd_at 71 (by decide +kernel) rfl, gd_at 612 (by decide +kernel) rfl, ⟨rfl, by decide +kernel, by decide +kernel, by decide +kernel⟩⟩
theorem wv_X6_169 : Wv RX6 169 RX5 yX5_holes cX5_holes 3 (some .int) 0 := ⟨gd_at 613 (by decide +kernel) rfl, gd_at 614 (by decide +kernel) rfl, gd_at 615 (by decide +kernel) rfl, gd_at 70 (by decide +kernel) rfl, gd_at 616 (by decide +kernel) rfl, ⟨rfl, by decide +kernel, by decide +kernel, by decide +kernel⟩⟩
theorem wv_X6_172 : Wv RX6 172 RX5 yX5_longestHole cX5_longestHole 3 (some .int) 0 := ⟨gd_at 617 (by decide +kernel) rfl, gd_at 618 (by decide +kernel) rfl, gd_at 619 (by decide +kernel) rfl, gd_at 70 (by decide +kernel) rfl, gd_at 620 (by decide +kernel) rfl, ⟨rfl, by decide +kernel, by decide +kernel, by decide +kernel⟩⟩
theorem wv_X6_182 : Wv RX6 182 RX4 yX4_sum cX4_sum 3 (some .int) 0 := ⟨gd_at 621 (by decide +kernel) rfl, gd_at 610 (by decide +kernel) rfl, gd_at 611 (by decide +kernel) rfl, gd_at 71 (by decide +kernel) rfl, gd_at 612 (by decide +kernel) rfl, ⟨rfl, by decide +kernel, by decide +kernel, by decide +kernel⟩⟩
theorem wv_L_91 : Wv RL 91 RX6 yX6_shareBits cX6_shareBits 2 (some .int) 1 := ⟨gd_at 622 (by decide +kernel) rfl, gd_at 623 (by decide +kernel) rfl, gd_at 624 (by decide +kernel) rfl, gd_at 68 (by decide +kernel) rfl, gd_at 625 (by decide +kernel) rfl, ⟨rfl, by decide +kernel, by decide +kernel, by decide +kernel⟩⟩
theorem ws_X6_193 : Ws RX6 193 yX6_bitsOfQuotient cX6_bitsOfQuotient 7 (some .int) 2 := ⟨gd_at 626 (by decide +kernel) rfl, gd_at 627 (by decide +kernel) rfl, gd_at 68 (by decide +kernel) rfl, gd_at 628 (by decide +kernel) rfl, ⟨by decide +kernel, by decide +kernel, by decide +kernel⟩⟩
theorem wc_X6_316 : Cond.constantLong RX6 316 (jJ (2)) ∈ gd_w := gd_at 629 (by decide +kernel) rfl
theorem wv_L_95 : Wv RL 95 RX6 yX6_hole cX6_hole 4 (some .int) 2 := ⟨gd_at 630 (by decide +kernel) rfl, gd_at 631 (by decide +kernel) rfl, gd_at 632 (by decide +kernel) rfl, gd_at 68 (by decide +kernel) rfl, gd_at 633 (by decide +kernel) rfl, ⟨rfl, by decide +kernel, by decide +kernel, by decide +kernel⟩⟩
theorem wv_L_99 : Wv RL 99 RX6 yX6_wouldBe cX6_wouldBe 4 (some .int) 3 := ⟨gd_at 634 (by decide +kernel) rfl, gd_at 635 (by decide +kernel) rfl, gd_at 636 (by decide +kernel) rfl, gd_at 68 (by decide +kernel) rfl, gd_at 637 (by decide +kernel) rfl, ⟨rfl, by decide +kernel, by decide +kernel, by decide +kernel⟩⟩
theorem wv_L_103 : Wv RL 103 RX6 yX6_quietest cX6_quietest 4 (some .int) 2 := ⟨gd_at 638 (by decide +kernel) rfl, gd_at 639 (by decide +kernel) rfl, gd_at 640 (by decide +kernel) rfl, gd_at 68 (by decide +kernel) rfl, gd_at 641 (by decide +kernel) rfl, ⟨rfl, by decide +kernel, by decide +kernel, by decide +kernel⟩⟩
theorem wv_X6_213 : Wv RX6 213 RX5 yX5_quietestStart cX5_quietestStart 7 (some .int) 1 := ⟨gd_at 642 (by decide +kernel) rfl, gd_at 643 (by decide +kernel) rfl, gd_at 644 (by decide +kernel) rfl, gd_at 70 (by decide +kernel) rfl, gd_at 645 (by decide +kernel) rfl, ⟨rfl, by decide +kernel, by decide +kernel, by decide +kernel⟩⟩
theorem wv_X5_91 : Wv RX5 91 RX5 yX5_holdersWithin cX5_holdersWithin 5 (some .int) 2 := ⟨gd_at 646 (by decide +kernel) rfl, gd_at 647 (by decide +kernel) rfl, gd_at 648 (by decide +kernel) rfl, gd_at 70 (by decide +kernel) rfl, gd_at 649 (by decide +kernel) rfl, ⟨rfl, by decide +kernel, by decide +kernel, by decide +kernel⟩⟩
theorem ws_X5_86 : Ws RX5 86 yJ6_bitCount_0f7a4 cJ6_bitCount_0f7a4 1 (some .int) 1 := ⟨gd_at 650 (by decide +kernel) rfl, gd_at 651 (by decide +kernel) rfl, gd_at 79 (by decide +kernel) rfl, gd_at 652 (by decide +kernel) rfl, ⟨by decide +kernel, by decide +kernel, by decide +kernel⟩⟩
theorem wc_J6_265 : Cond.constant RJ6 265 (iI (1431655765)) ∈ gd_w := gd_at 653 (by decide +kernel) rfl
theorem wc_J6_266 : Cond.constant RJ6 266 (iI (858993459)) ∈ gd_w := gd_at 654 (by decide +kernel) rfl
theorem wc_J6_267 : Cond.constant RJ6 267 (iI (252645135)) ∈ gd_w := gd_at 655 (by decide +kernel) rfl
theorem wv_X6_216 : Wv RX6 216 RX5 yX5_holdersWithin cX5_holdersWithin 5 (some .int) 2 := ⟨gd_at 656 (by decide +kernel) rfl, gd_at 647 (by decide +kernel) rfl, gd_at 648 (by decide +kernel) rfl, gd_at 70 (by decide +kernel) rfl, gd_at 649 (by decide +kernel) rfl, ⟨rfl, by decide +kernel, by decide +kernel, by decide +kernel⟩⟩
theorem wv_L_107 : Wv RL 107 RX6 yX6_gaps cX6_gaps 2 (some .int) 1 := ⟨gd_at 657 (by decide +kernel) rfl, gd_at 658 (by decide +kernel) rfl, gd_at 659 (by decide +kernel) rfl, gd_at 68 (by decide +kernel) rfl, gd_at 660 (by decide +kernel) rfl, ⟨rfl, by decide +kernel, by decide +kernel, by decide +kernel⟩⟩
theorem wv_X6_219 : Wv RX6 219 RX5 yX5_metersBetween cX5_metersBetween 5 (some .int) 1 := ⟨gd_at 661 (by decide +kernel) rfl, gd_at 662 (by decide +kernel) rfl, gd_at 663 (by decide +kernel) rfl, gd_at 70 (by decide +kernel) rfl, gd_at 664 (by decide +kernel) rfl, ⟨rfl, by decide +kernel, by decide +kernel, by decide +kernel⟩⟩
theorem wv_L_111 : Wv RL 111 RX6 yX6_exchange cX6_exchange 2 (some .int) 1 := ⟨gd_at 665 (by decide +kernel) rfl, gd_at 666 (by decide +kernel) rfl, gd_at 667 (by decide +kernel) rfl, gd_at 68 (by decide +kernel) rfl, gd_at 668 (by decide +kernel) rfl, ⟨rfl, by decide +kernel, by decide +kernel, by decide +kernel⟩⟩
theorem wv_X6_222 : Wv RX6 222 RX5 yX5_bestExchange cX5_bestExchange 8 (some .int) 1 := ⟨gd_at 669 (by decide +kernel) rfl, gd_at 670 (by decide +kernel) rfl, gd_at 671 (by decide +kernel) rfl, gd_at 70 (by decide +kernel) rfl, gd_at 672 (by decide +kernel) rfl, ⟨rfl, by decide +kernel, by decide +kernel, by decide +kernel⟩⟩
theorem wv_X5_104 : Wv RX5 104 RX5 yX5_joinsOfExchange cX5_joinsOfExchange 3 (some .int) 2 := ⟨gd_at 673 (by decide +kernel) rfl, gd_at 675 (by decide +kernel) rfl, gd_at 19 (by decide +kernel) rfl, gd_at 70 (by decide +kernel) rfl, gd_at 676 (by decide +kernel) rfl, ⟨rfl, by decide +kernel, by decide +kernel, by decide +kernel⟩⟩
theorem wv_X5_107 : Wv RX5 107 RX5 yX5_joinAt cX5_joinAt 4 (some .int) 3 := ⟨gd_at 677 (by decide +kernel) rfl, gd_at 679 (by decide +kernel) rfl, gd_at 20 (by decide +kernel) rfl, gd_at 70 (by decide +kernel) rfl, gd_at 680 (by decide +kernel) rfl, ⟨rfl, by decide +kernel, by decide +kernel, by decide +kernel⟩⟩
theorem wv_X5_110 : Wv RX5 110 RX5 yX5_holderAfter cX5_holderAfter 4 (some .int) 3 := ⟨gd_at 681 (by decide +kernel) rfl, gd_at 683 (by decide +kernel) rfl, gd_at 21 (by decide +kernel) rfl, gd_at 70 (by decide +kernel) rfl, gd_at 684 (by decide +kernel) rfl, ⟨rfl, by decide +kernel, by decide +kernel, by decide +kernel⟩⟩
theorem wv_L_115 : Wv RL 115 RX6 yX6_losesIn cX6_losesIn 2 (some .int) 1 := ⟨gd_at 685 (by decide +kernel) rfl, gd_at 686 (by decide +kernel) rfl, gd_at 687 (by decide +kernel) rfl, gd_at 68 (by decide +kernel) rfl, gd_at 688 (by decide +kernel) rfl, ⟨rfl, by decide +kernel, by decide +kernel, by decide +kernel⟩⟩
theorem wv_X6_225 : Wv RX6 225 RX3 yX3_daysToLoss cX3_daysToLoss 6 (some .int) 1 := ⟨gd_at 689 (by decide +kernel) rfl, gd_at 690 (by decide +kernel) rfl, gd_at 691 (by decide +kernel) rfl, gd_at 69 (by decide +kernel) rfl, gd_at 692 (by decide +kernel) rfl, ⟨rfl, by decide +kernel, by decide +kernel, by decide +kernel⟩⟩
theorem wv_L_121 : Wv RL 121 RX6 yX6_put cX6_put 4 (some .int) 1 := ⟨gd_at 693 (by decide +kernel) rfl, gd_at 694 (by decide +kernel) rfl, gd_at 695 (by decide +kernel) rfl, gd_at 68 (by decide +kernel) rfl, gd_at 696 (by decide +kernel) rfl, ⟨rfl, by decide +kernel, by decide +kernel, by decide +kernel⟩⟩
theorem ws_X6_228 : Ws RX6 228 yX2_signsIn cX2_signsIn 7 (some .int) 1 := ⟨gd_at 697 (by decide +kernel) rfl, gd_at 698 (by decide +kernel) rfl, gd_at 75 (by decide +kernel) rfl, gd_at 699 (by decide +kernel) rfl, ⟨by decide +kernel, by decide +kernel, by decide +kernel⟩⟩
theorem wc_X2_15 : Cond.constantLong RX2 15 (jJ (255)) ∈ gd_w := gd_at 700 (by decide +kernel) rfl
theorem wc_X2_17 : Cond.constantLong RX2 17 (jJ (33)) ∈ gd_w := gd_at 701 (by decide +kernel) rfl
theorem wc_X2_19 : Cond.constantLong RX2 19 (jJ (126)) ∈ gd_w := gd_at 702 (by decide +kernel) rfl
theorem wv_X6_232 : Wv RX6 232 RX2 yX2_append cX2_append 7 (some .boolean) 2 := ⟨gd_at 703 (by decide +kernel) rfl, gd_at 704 (by decide +kernel) rfl, gd_at 705 (by decide +kernel) rfl, gd_at 75 (by decide +kernel) rfl, gd_at 706 (by decide +kernel) rfl, ⟨rfl, by decide +kernel, by decide +kernel, by decide +kernel⟩⟩
theorem wv_L_126 : Wv RL 126 RX6 yX6_wipe cX6_wipe 2 (some .int) 0 := ⟨gd_at 707 (by decide +kernel) rfl, gd_at 708 (by decide +kernel) rfl, gd_at 709 (by decide +kernel) rfl, gd_at 68 (by decide +kernel) rfl, gd_at 710 (by decide +kernel) rfl, ⟨rfl, by decide +kernel, by decide +kernel, by decide +kernel⟩⟩
theorem wv_L_130 : Wv RL 130 RX6 yX6_fault cX6_fault 1 (some .int) 0 := ⟨gd_at 711 (by decide +kernel) rfl, gd_at 712 (by decide +kernel) rfl, gd_at 713 (by decide +kernel) rfl, gd_at 68 (by decide +kernel) rfl, gd_at 714 (by decide +kernel) rfl, ⟨rfl, by decide +kernel, by decide +kernel, by decide +kernel⟩⟩
theorem wv_X6_236 : Wv RX6 236 RX2 yX2_findFault cX2_findFault 2 (some .int) 0 := ⟨gd_at 715 (by decide +kernel) rfl, gd_at 716 (by decide +kernel) rfl, gd_at 717 (by decide +kernel) rfl, gd_at 75 (by decide +kernel) rfl, gd_at 718 (by decide +kernel) rfl, ⟨rfl, by decide +kernel, by decide +kernel, by decide +kernel⟩⟩
theorem wv_X2_28 : Wv RX2 28 RX2 yX2_readEntry cX2_readEntry 3 (some .boolean) 0 := ⟨gd_at 719 (by decide +kernel) rfl, gd_at 720 (by decide +kernel) rfl, gd_at 721 (by decide +kernel) rfl, gd_at 75 (by decide +kernel) rfl, gd_at 722 (by decide +kernel) rfl, ⟨rfl, by decide +kernel, by decide +kernel, by decide +kernel⟩⟩
theorem wv_X2_36 : Wv RX2 36 RX2 yX2_sign cX2_sign 1 (some .char) 0 := ⟨gd_at 723 (by decide +kernel) rfl, gd_at 725 (by decide +kernel) rfl, gd_at 22 (by decide +kernel) rfl, gd_at 75 (by decide +kernel) rfl, gd_at 726 (by decide +kernel) rfl, ⟨rfl, by decide +kernel, by decide +kernel, by decide +kernel⟩⟩
theorem wv_X2_43 : Wv RX2 43 RX2 yX2_readLetter cX2_readLetter 1 (some .boolean) 0 := ⟨gd_at 727 (by decide +kernel) rfl, gd_at 729 (by decide +kernel) rfl, gd_at 23 (by decide +kernel) rfl, gd_at 75 (by decide +kernel) rfl, gd_at 730 (by decide +kernel) rfl, ⟨rfl, by decide +kernel, by decide +kernel, by decide +kernel⟩⟩
theorem wv_X2_46 : Wv RX2 46 RX2 yX2_readNumber cX2_readNumber 2 (some .boolean) 0 := ⟨gd_at 731 (by decide +kernel) rfl, gd_at 733 (by decide +kernel) rfl, gd_at 24 (by decide +kernel) rfl, gd_at 75 (by decide +kernel) rfl, gd_at 734 (by decide +kernel) rfl, ⟨rfl, by decide +kernel, by decide +kernel, by decide +kernel⟩⟩
theorem wv_X2_58 : Wv RX2 58 RX2 yX2_isDigit cX2_isDigit 1 (some .boolean) 0 := ⟨gd_at 735 (by decide +kernel) rfl, gd_at 737 (by decide +kernel) rfl, gd_at 25 (by decide +kernel) rfl, gd_at 75 (by decide +kernel) rfl, gd_at 738 (by decide +kernel) rfl, ⟨rfl, by decide +kernel, by decide +kernel, by decide +kernel⟩⟩
theorem wv_X2_32 : Wv RX2 32 RX2 yX2_readSign cX2_readSign 2 (some .boolean) 1 := ⟨gd_at 739 (by decide +kernel) rfl, gd_at 741 (by decide +kernel) rfl, gd_at 26 (by decide +kernel) rfl, gd_at 75 (by decide +kernel) rfl, gd_at 742 (by decide +kernel) rfl, ⟨rfl, by decide +kernel, by decide +kernel, by decide +kernel⟩⟩
theorem wv_L_134 : Wv RL 134 RX6 yX6_carryOut cX6_carryOut 2 (some .int) 0 := ⟨gd_at 743 (by decide +kernel) rfl, gd_at 744 (by decide +kernel) rfl, gd_at 745 (by decide +kernel) rfl, gd_at 68 (by decide +kernel) rfl, gd_at 746 (by decide +kernel) rfl, ⟨rfl, by decide +kernel, by decide +kernel, by decide +kernel⟩⟩
theorem wv_X6_242 : Wv RX6 242 RX2 yX2_readEntry cX2_readEntry 3 (some .boolean) 0 := ⟨gd_at 747 (by decide +kernel) rfl, gd_at 720 (by decide +kernel) rfl, gd_at 721 (by decide +kernel) rfl, gd_at 75 (by decide +kernel) rfl, gd_at 722 (by decide +kernel) rfl, ⟨rfl, by decide +kernel, by decide +kernel, by decide +kernel⟩⟩
theorem wv_X6_246 : Wv RX6 246 RX6 yX6_carryEntry cX6_carryEntry 1 (some .int) 0 := ⟨gd_at 748 (by decide +kernel) rfl, gd_at 750 (by decide +kernel) rfl, gd_at 27 (by decide +kernel) rfl, gd_at 68 (by decide +kernel) rfl, gd_at 751 (by decide +kernel) rfl, ⟨rfl, by decide +kernel, by decide +kernel, by decide +kernel⟩⟩
theorem wv_L_138 : Wv RL 138 RX6 yX6_undo cX6_undo 1 (some .int) 0 := ⟨gd_at 752 (by decide +kernel) rfl, gd_at 753 (by decide +kernel) rfl, gd_at 754 (by decide +kernel) rfl, gd_at 68 (by decide +kernel) rfl, gd_at 755 (by decide +kernel) rfl, ⟨rfl, by decide +kernel, by decide +kernel, by decide +kernel⟩⟩
theorem wv_X6_249 : Wv RX6 249 RX1 yX1_takeBack cX1_takeBack 3 (some .boolean) 1 := ⟨gd_at 756 (by decide +kernel) rfl, gd_at 757 (by decide +kernel) rfl, gd_at 758 (by decide +kernel) rfl, gd_at 74 (by decide +kernel) rfl, gd_at 759 (by decide +kernel) rfl, ⟨rfl, by decide +kernel, by decide +kernel, by decide +kernel⟩⟩
theorem wv_L_142 : Wv RL 142 RX6 yX6_save cX6_save 3 (some .int) 1 := ⟨gd_at 760 (by decide +kernel) rfl, gd_at 761 (by decide +kernel) rfl, gd_at 762 (by decide +kernel) rfl, gd_at 68 (by decide +kernel) rfl, gd_at 763 (by decide +kernel) rfl, ⟨rfl, by decide +kernel, by decide +kernel, by decide +kernel⟩⟩
theorem ws_X6_253 : Ws RX6 253 yX6_isSlot cX6_isSlot 1 (some .boolean) 1 := ⟨gd_at 764 (by decide +kernel) rfl, gd_at 765 (by decide +kernel) rfl, gd_at 68 (by decide +kernel) rfl, gd_at 766 (by decide +kernel) rfl, ⟨by decide +kernel, by decide +kernel, by decide +kernel⟩⟩
theorem wv_L_146 : Wv RL 146 RX6 yX6_restore cX6_restore 2 (some .int) 1 := ⟨gd_at 767 (by decide +kernel) rfl, gd_at 768 (by decide +kernel) rfl, gd_at 769 (by decide +kernel) rfl, gd_at 68 (by decide +kernel) rfl, gd_at 770 (by decide +kernel) rfl, ⟨rfl, by decide +kernel, by decide +kernel, by decide +kernel⟩⟩
theorem wv_X6_259 : Wv RX6 259 RX6 yX6_copyBack cX6_copyBack 3 (some .int) 1 := ⟨gd_at 771 (by decide +kernel) rfl, gd_at 773 (by decide +kernel) rfl, gd_at 28 (by decide +kernel) rfl, gd_at 68 (by decide +kernel) rfl, gd_at 774 (by decide +kernel) rfl, ⟨rfl, by decide +kernel, by decide +kernel, by decide +kernel⟩⟩
theorem wk_L_10 : Cond.classLink RL 10 RX7 ∈ gd_w := gd_at 775 (by decide +kernel) rfl
theorem wi_L_12 : Wi RL 12 yX7_init cX7_init 1 0 := ⟨Or.inl (gd_at 777 (by decide +kernel) rfl), gd_at 778 (by decide +kernel) rfl, gd_at 76 (by decide +kernel) rfl, gd_at 779 (by decide +kernel) rfl, rfl, ⟨by decide +kernel, by decide +kernel, by decide +kernel⟩⟩
theorem wo_X7_1 : Cond.methodLink RX7 1 Lib.objectInit ∈ gd_w ∧ Cond.instanceMethod Lib.objectInit ∈ gd_w ∧ Cond.code Lib.objectInit ⟨#[0xb1]⟩ 1 none ∈ gd_w := ⟨gd_at 780 (by decide +kernel) rfl, gd_at 86 (by decide +kernel) rfl, gd_at 87 (by decide +kernel) rfl⟩
theorem wf_X7_7 : Wf RX7 7 7 0 := ⟨_, rfl, by decide, Or.inl (gd_at 781 (by decide +kernel) rfl)⟩
theorem wp_X7_7 : ∃ q : vw_C, vwCl[7]? = some q ∧ 0 < q.2.2 ∧ Cond.fieldLink RX7 7 (q.2.1 0).1 (q.2.1 0).2.1 (q.2.1 0).2.2.1 ∈ gd_w ∧ (q.2.1 0).2.2.2 = true ∧ (q.2.1 0).1 = RX7 ∧ parseFieldDescriptor (q.2.1 0).2.2.1 = some (tyX7 0) := ⟨_, rfl, by decide, gd_at 781 (by decide +kernel) rfl, rfl, rfl, by decide +kernel⟩
theorem wf_X7_13 : Wf RX7 13 7 1 := ⟨_, rfl, by decide, Or.inl (gd_at 782 (by decide +kernel) rfl)⟩
theorem wp_X7_13 : ∃ q : vw_C, vwCl[7]? = some q ∧ 1 < q.2.2 ∧ Cond.fieldLink RX7 13 (q.2.1 1).1 (q.2.1 1).2.1 (q.2.1 1).2.2.1 ∈ gd_w ∧ (q.2.1 1).2.2.2 = true ∧ (q.2.1 1).1 = RX7 ∧ parseFieldDescriptor (q.2.1 1).2.2.1 = some (tyX7 1) := ⟨_, rfl, by decide, gd_at 782 (by decide +kernel) rfl, rfl, rfl, by decide +kernel⟩
theorem wf_X7_17 : Wf RX7 17 7 2 := ⟨_, rfl, by decide, Or.inl (gd_at 783 (by decide +kernel) rfl)⟩
theorem wp_X7_17 : ∃ q : vw_C, vwCl[7]? = some q ∧ 2 < q.2.2 ∧ Cond.fieldLink RX7 17 (q.2.1 2).1 (q.2.1 2).2.1 (q.2.1 2).2.2.1 ∈ gd_w ∧ (q.2.1 2).2.2.2 = true ∧ (q.2.1 2).1 = RX7 ∧ parseFieldDescriptor (q.2.1 2).2.2.1 = some (tyX7 2) := ⟨_, rfl, by decide, gd_at 783 (by decide +kernel) rfl, rfl, rfl, by decide +kernel⟩
theorem wf_X7_20 : Wf RX7 20 7 3 := ⟨_, rfl, by decide, Or.inl (gd_at 784 (by decide +kernel) rfl)⟩
theorem wp_X7_20 : ∃ q : vw_C, vwCl[7]? = some q ∧ 3 < q.2.2 ∧ Cond.fieldLink RX7 20 (q.2.1 3).1 (q.2.1 3).2.1 (q.2.1 3).2.2.1 ∈ gd_w ∧ (q.2.1 3).2.2.2 = true ∧ (q.2.1 3).1 = RX7 ∧ parseFieldDescriptor (q.2.1 3).2.2.1 = some (tyX7 3) := ⟨_, rfl, by decide, gd_at 784 (by decide +kernel) rfl, rfl, rfl, by decide +kernel⟩
theorem wf_X7_23 : Wf RX7 23 7 4 := ⟨_, rfl, by decide, Or.inl (gd_at 785 (by decide +kernel) rfl)⟩
theorem wp_X7_23 : ∃ q : vw_C, vwCl[7]? = some q ∧ 4 < q.2.2 ∧ Cond.fieldLink RX7 23 (q.2.1 4).1 (q.2.1 4).2.1 (q.2.1 4).2.2.1 ∈ gd_w ∧ (q.2.1 4).2.2.2 = true ∧ (q.2.1 4).1 = RX7 ∧ parseFieldDescriptor (q.2.1 4).2.2.1 = some (tyX7 4) := ⟨_, rfl, by decide, gd_at 785 (by decide +kernel) rfl, rfl, rfl, by decide +kernel⟩
theorem wf_X7_26 : Wf RX7 26 7 5 := ⟨_, rfl, by decide, Or.inl (gd_at 786 (by decide +kernel) rfl)⟩
theorem wp_X7_26 : ∃ q : vw_C, vwCl[7]? = some q ∧ 5 < q.2.2 ∧ Cond.fieldLink RX7 26 (q.2.1 5).1 (q.2.1 5).2.1 (q.2.1 5).2.2.1 ∈ gd_w ∧ (q.2.1 5).2.2.2 = true ∧ (q.2.1 5).1 = RX7 ∧ parseFieldDescriptor (q.2.1 5).2.2.1 = some (tyX7 5) := ⟨_, rfl, by decide, gd_at 786 (by decide +kernel) rfl, rfl, rfl, by decide +kernel⟩
theorem wf_X7_29 : Wf RX7 29 7 6 := ⟨_, rfl, by decide, Or.inl (gd_at 787 (by decide +kernel) rfl)⟩
theorem wp_X7_29 : ∃ q : vw_C, vwCl[7]? = some q ∧ 6 < q.2.2 ∧ Cond.fieldLink RX7 29 (q.2.1 6).1 (q.2.1 6).2.1 (q.2.1 6).2.2.1 ∈ gd_w ∧ (q.2.1 6).2.2.2 = true ∧ (q.2.1 6).1 = RX7 ∧ parseFieldDescriptor (q.2.1 6).2.2.1 = some (tyX7 6) := ⟨_, rfl, by decide, gd_at 787 (by decide +kernel) rfl, rfl, rfl, by decide +kernel⟩
theorem wf_X7_58 : Wf RX7 58 7 7 := ⟨_, rfl, by decide, Or.inl (gd_at 788 (by decide +kernel) rfl)⟩
theorem wq_X7_58 : ∀ q : vw_C, vwCl[7]? = some q → (q.2.1 7).2.2.2 = false ∧ parseFieldDescriptor (q.2.1 7).2.2.1 = some (tyX7 7) := fun q hq => by cases hq; exact ⟨rfl, by decide +kernel⟩
theorem wf_X7_32 : Wf RX7 32 7 8 := ⟨_, rfl, by decide, Or.inl (gd_at 789 (by decide +kernel) rfl)⟩
theorem wp_X7_32 : ∃ q : vw_C, vwCl[7]? = some q ∧ 8 < q.2.2 ∧ Cond.fieldLink RX7 32 (q.2.1 8).1 (q.2.1 8).2.1 (q.2.1 8).2.2.1 ∈ gd_w ∧ (q.2.1 8).2.2.2 = true ∧ (q.2.1 8).1 = RX7 ∧ parseFieldDescriptor (q.2.1 8).2.2.1 = some (tyX7 8) := ⟨_, rfl, by decide, gd_at 789 (by decide +kernel) rfl, rfl, rfl, by decide +kernel⟩
theorem wf_X7_35 : Wf RX7 35 7 9 := ⟨_, rfl, by decide, Or.inl (gd_at 790 (by decide +kernel) rfl)⟩
theorem wp_X7_35 : ∃ q : vw_C, vwCl[7]? = some q ∧ 9 < q.2.2 ∧ Cond.fieldLink RX7 35 (q.2.1 9).1 (q.2.1 9).2.1 (q.2.1 9).2.2.1 ∈ gd_w ∧ (q.2.1 9).2.2.2 = true ∧ (q.2.1 9).1 = RX7 ∧ parseFieldDescriptor (q.2.1 9).2.2.1 = some (tyX7 9) := ⟨_, rfl, by decide, gd_at 790 (by decide +kernel) rfl, rfl, rfl, by decide +kernel⟩
theorem wf_X7_38 : Wf RX7 38 7 10 := ⟨_, rfl, by decide, Or.inl (gd_at 791 (by decide +kernel) rfl)⟩
theorem wp_X7_38 : ∃ q : vw_C, vwCl[7]? = some q ∧ 10 < q.2.2 ∧ Cond.fieldLink RX7 38 (q.2.1 10).1 (q.2.1 10).2.1 (q.2.1 10).2.2.1 ∈ gd_w ∧ (q.2.1 10).2.2.2 = true ∧ (q.2.1 10).1 = RX7 ∧ parseFieldDescriptor (q.2.1 10).2.2.1 = some (tyX7 10) := ⟨_, rfl, by decide, gd_at 791 (by decide +kernel) rfl, rfl, rfl, by decide +kernel⟩
theorem wf_X7_42 : Wf RX7 42 7 11 := ⟨_, rfl, by decide, Or.inl (gd_at 792 (by decide +kernel) rfl)⟩
theorem wp_X7_42 : ∃ q : vw_C, vwCl[7]? = some q ∧ 11 < q.2.2 ∧ Cond.fieldLink RX7 42 (q.2.1 11).1 (q.2.1 11).2.1 (q.2.1 11).2.2.1 ∈ gd_w ∧ (q.2.1 11).2.2.2 = true ∧ (q.2.1 11).1 = RX7 ∧ parseFieldDescriptor (q.2.1 11).2.2.1 = some (tyX7 11) := ⟨_, rfl, by decide, gd_at 792 (by decide +kernel) rfl, rfl, rfl, by decide +kernel⟩
theorem wf_X7_182 : Wf RX7 182 7 12 := ⟨_, rfl, by decide, Or.inl (gd_at 793 (by decide +kernel) rfl)⟩
theorem wq_X7_182 : ∀ q : vw_C, vwCl[7]? = some q → (q.2.1 12).2.2.2 = false ∧ parseFieldDescriptor (q.2.1 12).2.2.1 = some (tyX7 12) := fun q hq => by cases hq; exact ⟨rfl, by decide +kernel⟩
theorem wf_X7_54 : Wf RX7 54 7 13 := ⟨_, rfl, by decide, Or.inl (gd_at 794 (by decide +kernel) rfl)⟩
theorem wq_X7_54 : ∀ q : vw_C, vwCl[7]? = some q → (q.2.1 13).2.2.2 = false ∧ parseFieldDescriptor (q.2.1 13).2.2.1 = some (tyX7 13) := fun q hq => by cases hq; exact ⟨rfl, by decide +kernel⟩
theorem wf_X7_45 : Wf RX7 45 7 14 := ⟨_, rfl, by decide, Or.inl (gd_at 795 (by decide +kernel) rfl)⟩
theorem wp_X7_45 : ∃ q : vw_C, vwCl[7]? = some q ∧ 14 < q.2.2 ∧ Cond.fieldLink RX7 45 (q.2.1 14).1 (q.2.1 14).2.1 (q.2.1 14).2.2.1 ∈ gd_w ∧ (q.2.1 14).2.2.2 = true ∧ (q.2.1 14).1 = RX7 ∧ parseFieldDescriptor (q.2.1 14).2.2.1 = some (tyX7 14) := ⟨_, rfl, by decide, gd_at 795 (by decide +kernel) rfl, rfl, rfl, by decide +kernel⟩
theorem wf_X7_48 : Wf RX7 48 7 15 := ⟨_, rfl, by decide, Or.inl (gd_at 796 (by decide +kernel) rfl)⟩
theorem wp_X7_48 : ∃ q : vw_C, vwCl[7]? = some q ∧ 15 < q.2.2 ∧ Cond.fieldLink RX7 48 (q.2.1 15).1 (q.2.1 15).2.1 (q.2.1 15).2.2.1 ∈ gd_w ∧ (q.2.1 15).2.2.2 = true ∧ (q.2.1 15).1 = RX7 ∧ parseFieldDescriptor (q.2.1 15).2.2.1 = some (tyX7 15) := ⟨_, rfl, by decide, gd_at 796 (by decide +kernel) rfl, rfl, rfl, by decide +kernel⟩
theorem wf_X7_90 : Wf RX7 90 7 16 := ⟨_, rfl, by decide, Or.inl (gd_at 797 (by decide +kernel) rfl)⟩
theorem wq_X7_90 : ∀ q : vw_C, vwCl[7]? = some q → (q.2.1 16).2.2.2 = false ∧ parseFieldDescriptor (q.2.1 16).2.2.1 = some (tyX7 16) := fun q hq => by cases hq; exact ⟨rfl, by decide +kernel⟩
theorem wf_X7_51 : Wf RX7 51 7 17 := ⟨_, rfl, by decide, Or.inl (gd_at 798 (by decide +kernel) rfl)⟩
theorem wp_X7_51 : ∃ q : vw_C, vwCl[7]? = some q ∧ 17 < q.2.2 ∧ Cond.fieldLink RX7 51 (q.2.1 17).1 (q.2.1 17).2.1 (q.2.1 17).2.2.1 ∈ gd_w ∧ (q.2.1 17).2.2.2 = true ∧ (q.2.1 17).1 = RX7 ∧ parseFieldDescriptor (q.2.1 17).2.2.1 = some (tyX7 17) := ⟨_, rfl, by decide, gd_at 798 (by decide +kernel) rfl, rfl, rfl, by decide +kernel⟩
theorem wf_X7_209 : Wf RX7 209 7 18 := ⟨_, rfl, by decide, Or.inl (gd_at 799 (by decide +kernel) rfl)⟩
theorem wq_X7_209 : ∀ q : vw_C, vwCl[7]? = some q → (q.2.1 18).2.2.2 = false ∧ parseFieldDescriptor (q.2.1 18).2.2.1 = some (tyX7 18) := fun q hq => by cases hq; exact ⟨rfl, by decide +kernel⟩
theorem wf_X7_197 : Wf RX7 197 7 19 := ⟨_, rfl, by decide, Or.inl (gd_at 800 (by decide +kernel) rfl)⟩
theorem wq_X7_197 : ∀ q : vw_C, vwCl[7]? = some q → (q.2.1 19).2.2.2 = false ∧ parseFieldDescriptor (q.2.1 19).2.2.1 = some (tyX7 19) := fun q hq => by cases hq; exact ⟨rfl, by decide +kernel⟩
theorem wf_X7_203 : Wf RX7 203 7 20 := ⟨_, rfl, by decide, Or.inl (gd_at 801 (by decide +kernel) rfl)⟩
theorem wq_X7_203 : ∀ q : vw_C, vwCl[7]? = some q → (q.2.1 20).2.2.2 = false ∧ parseFieldDescriptor (q.2.1 20).2.2.1 = some (tyX7 20) := fun q hq => by cases hq; exact ⟨rfl, by decide +kernel⟩
theorem wv_L_17 : Wv RL 17 RX7 yX7_set cX7_set 4 (some .int) 2 := ⟨gd_at 846 (by decide +kernel) rfl, gd_at 847 (by decide +kernel) rfl, gd_at 848 (by decide +kernel) rfl, gd_at 76 (by decide +kernel) rfl, gd_at 849 (by decide +kernel) rfl, ⟨rfl, by decide +kernel, by decide +kernel, by decide +kernel⟩⟩
theorem ws_X7_62 : Ws RX7 62 yX7_in cX7_in 3 (some .boolean) 3 := ⟨gd_at 850 (by decide +kernel) rfl, gd_at 851 (by decide +kernel) rfl, gd_at 76 (by decide +kernel) rfl, gd_at 852 (by decide +kernel) rfl, ⟨by decide +kernel, by decide +kernel, by decide +kernel⟩⟩
theorem ws_X7_66 : Ws RX7 66 yX7_least cX7_least 1 (some .int) 1 := ⟨gd_at 853 (by decide +kernel) rfl, gd_at 854 (by decide +kernel) rfl, gd_at 76 (by decide +kernel) rfl, gd_at 855 (by decide +kernel) rfl, ⟨by decide +kernel, by decide +kernel, by decide +kernel⟩⟩
theorem ws_X7_70 : Ws RX7 70 yX7_most cX7_most 1 (some .int) 1 := ⟨gd_at 856 (by decide +kernel) rfl, gd_at 857 (by decide +kernel) rfl, gd_at 76 (by decide +kernel) rfl, gd_at 858 (by decide +kernel) rfl, ⟨by decide +kernel, by decide +kernel, by decide +kernel⟩⟩
theorem wv_X7_73 : Wv RX7 73 RX7 yX7_record cX7_record 2 none 0 := ⟨gd_at 859 (by decide +kernel) rfl, gd_at 861 (by decide +kernel) rfl, gd_at 29 (by decide +kernel) rfl, gd_at 76 (by decide +kernel) rfl, gd_at 862 (by decide +kernel) rfl, ⟨rfl, by decide +kernel, by decide +kernel, by decide +kernel⟩⟩
theorem wv_L_22 : Wv RL 22 RX7 yX7_owner cX7_owner 2 (some .int) 1 := ⟨gd_at 863 (by decide +kernel) rfl, gd_at 864 (by decide +kernel) rfl, gd_at 865 (by decide +kernel) rfl, gd_at 76 (by decide +kernel) rfl, gd_at 866 (by decide +kernel) rfl, ⟨rfl, by decide +kernel, by decide +kernel, by decide +kernel⟩⟩
theorem wc_X7_76 : Cond.constant RX7 76 (iI (1000000)) ∈ gd_w := gd_at 867 (by decide +kernel) rfl
theorem wv_L_26 : Wv RL 26 RX7 yX7_pay cX7_pay 3 (some .int) 2 := ⟨gd_at 868 (by decide +kernel) rfl, gd_at 869 (by decide +kernel) rfl, gd_at 870 (by decide +kernel) rfl, gd_at 76 (by decide +kernel) rfl, gd_at 871 (by decide +kernel) rfl, ⟨rfl, by decide +kernel, by decide +kernel, by decide +kernel⟩⟩
theorem wv_X7_77 : Wv RX7 77 RX7 yX7_isOwner cX7_isOwner 2 (some .boolean) 1 := ⟨gd_at 872 (by decide +kernel) rfl, gd_at 874 (by decide +kernel) rfl, gd_at 30 (by decide +kernel) rfl, gd_at 76 (by decide +kernel) rfl, gd_at 875 (by decide +kernel) rfl, ⟨rfl, by decide +kernel, by decide +kernel, by decide +kernel⟩⟩
theorem wv_L_31 : Wv RL 31 RX7 yX7_give cX7_give 4 (some .int) 3 := ⟨gd_at 876 (by decide +kernel) rfl, gd_at 877 (by decide +kernel) rfl, gd_at 878 (by decide +kernel) rfl, gd_at 76 (by decide +kernel) rfl, gd_at 879 (by decide +kernel) rfl, ⟨rfl, by decide +kernel, by decide +kernel, by decide +kernel⟩⟩
theorem ws_X7_104 : Ws RX7 104 yX7_isPiece cX7_isPiece 2 (some .boolean) 2 := ⟨gd_at 880 (by decide +kernel) rfl, gd_at 881 (by decide +kernel) rfl, gd_at 76 (by decide +kernel) rfl, gd_at 882 (by decide +kernel) rfl, ⟨by decide +kernel, by decide +kernel, by decide +kernel⟩⟩
theorem wv_X7_108 : Wv RX7 108 RX7 yX7_layRow cX7_layRow 7 none 3 := ⟨gd_at 883 (by decide +kernel) rfl, gd_at 885 (by decide +kernel) rfl, gd_at 31 (by decide +kernel) rfl, gd_at 76 (by decide +kernel) rfl, gd_at 886 (by decide +kernel) rfl, ⟨rfl, by decide +kernel, by decide +kernel, by decide +kernel⟩⟩
theorem wv_X7_81 : Wv RX7 81 RX7 yX7_first cX7_first 2 (some .int) 1 := ⟨gd_at 887 (by decide +kernel) rfl, gd_at 889 (by decide +kernel) rfl, gd_at 32 (by decide +kernel) rfl, gd_at 76 (by decide +kernel) rfl, gd_at 890 (by decide +kernel) rfl, ⟨rfl, by decide +kernel, by decide +kernel, by decide +kernel⟩⟩
theorem wv_X7_84 : Wv RX7 84 RX7 yX7_behind cX7_behind 2 (some .int) 1 := ⟨gd_at 891 (by decide +kernel) rfl, gd_at 893 (by decide +kernel) rfl, gd_at 33 (by decide +kernel) rfl, gd_at 76 (by decide +kernel) rfl, gd_at 894 (by decide +kernel) rfl, ⟨rfl, by decide +kernel, by decide +kernel, by decide +kernel⟩⟩
theorem wv_X7_87 : Wv RX7 87 RX7 yX7_ownerOf cX7_ownerOf 2 (some .int) 1 := ⟨gd_at 895 (by decide +kernel) rfl, gd_at 897 (by decide +kernel) rfl, gd_at 34 (by decide +kernel) rfl, gd_at 76 (by decide +kernel) rfl, gd_at 898 (by decide +kernel) rfl, ⟨rfl, by decide +kernel, by decide +kernel, by decide +kernel⟩⟩
theorem wv_X7_93 : Wv RX7 93 RX7 yX7_lay cX7_lay 4 none 3 := ⟨gd_at 899 (by decide +kernel) rfl, gd_at 901 (by decide +kernel) rfl, gd_at 35 (by decide +kernel) rfl, gd_at 76 (by decide +kernel) rfl, gd_at 902 (by decide +kernel) rfl, ⟨rfl, by decide +kernel, by decide +kernel, by decide +kernel⟩⟩
theorem wv_X7_111 : Wv RX7 111 RX7 yX7_rangesInRow cX7_rangesInRow 3 (some .int) 0 := ⟨gd_at 903 (by decide +kernel) rfl, gd_at 905 (by decide +kernel) rfl, gd_at 36 (by decide +kernel) rfl, gd_at 76 (by decide +kernel) rfl, gd_at 906 (by decide +kernel) rfl, ⟨rfl, by decide +kernel, by decide +kernel, by decide +kernel⟩⟩
theorem wv_X7_97 : Wv RX7 97 RX7 yX7_metersIn cX7_metersIn 8 (some .int) 3 := ⟨gd_at 907 (by decide +kernel) rfl, gd_at 909 (by decide +kernel) rfl, gd_at 37 (by decide +kernel) rfl, gd_at 76 (by decide +kernel) rfl, gd_at 910 (by decide +kernel) rfl, ⟨rfl, by decide +kernel, by decide +kernel, by decide +kernel⟩⟩
theorem wv_X7_115 : Wv RX7 115 RX7 yX7_mayGet cX7_mayGet 3 (some .boolean) 2 := ⟨gd_at 911 (by decide +kernel) rfl, gd_at 913 (by decide +kernel) rfl, gd_at 38 (by decide +kernel) rfl, gd_at 76 (by decide +kernel) rfl, gd_at 914 (by decide +kernel) rfl, ⟨rfl, by decide +kernel, by decide +kernel, by decide +kernel⟩⟩
theorem wv_X7_101 : Wv RX7 101 RX7 yX7_metersOf cX7_metersOf 2 (some .int) 1 := ⟨gd_at 915 (by decide +kernel) rfl, gd_at 917 (by decide +kernel) rfl, gd_at 39 (by decide +kernel) rfl, gd_at 76 (by decide +kernel) rfl, gd_at 918 (by decide +kernel) rfl, ⟨rfl, by decide +kernel, by decide +kernel, by decide +kernel⟩⟩
theorem wv_X7_118 : Wv RX7 118 RX7 yX7_takeRow cX7_takeRow 2 none 0 := ⟨gd_at 919 (by decide +kernel) rfl, gd_at 921 (by decide +kernel) rfl, gd_at 40 (by decide +kernel) rfl, gd_at 76 (by decide +kernel) rfl, gd_at 922 (by decide +kernel) rfl, ⟨rfl, by decide +kernel, by decide +kernel, by decide +kernel⟩⟩
theorem wv_X7_121 : Wv RX7 121 RX7 yX7_rangesNow cX7_rangesNow 3 (some .int) 0 := ⟨gd_at 923 (by decide +kernel) rfl, gd_at 925 (by decide +kernel) rfl, gd_at 41 (by decide +kernel) rfl, gd_at 76 (by decide +kernel) rfl, gd_at 926 (by decide +kernel) rfl, ⟨rfl, by decide +kernel, by decide +kernel, by decide +kernel⟩⟩
theorem wv_L_35 : Wv RL 35 RX7 yX7_free cX7_free 3 (some .int) 2 := ⟨gd_at 927 (by decide +kernel) rfl, gd_at 928 (by decide +kernel) rfl, gd_at 929 (by decide +kernel) rfl, gd_at 76 (by decide +kernel) rfl, gd_at 930 (by decide +kernel) rfl, ⟨rfl, by decide +kernel, by decide +kernel, by decide +kernel⟩⟩
theorem wv_L_39 : Wv RL 39 RX7 yX7_grab cX7_grab 4 (some .int) 2 := ⟨gd_at 931 (by decide +kernel) rfl, gd_at 932 (by decide +kernel) rfl, gd_at 933 (by decide +kernel) rfl, gd_at 76 (by decide +kernel) rfl, gd_at 934 (by decide +kernel) rfl, ⟨rfl, by decide +kernel, by decide +kernel, by decide +kernel⟩⟩
theorem wv_X7_127 : Wv RX7 127 RX7 yX7_holeFor cX7_holeFor 7 (some .int) 2 := ⟨gd_at 935 (by decide +kernel) rfl, gd_at 937 (by decide +kernel) rfl, gd_at 42 (by decide +kernel) rfl, gd_at 76 (by decide +kernel) rfl, gd_at 938 (by decide +kernel) rfl, ⟨rfl, by decide +kernel, by decide +kernel, by decide +kernel⟩⟩
theorem wv_X7_124 : Wv RX7 124 RX7 yX7_length cX7_length 2 (some .int) 1 := ⟨gd_at 939 (by decide +kernel) rfl, gd_at 941 (by decide +kernel) rfl, gd_at 43 (by decide +kernel) rfl, gd_at 76 (by decide +kernel) rfl, gd_at 942 (by decide +kernel) rfl, ⟨rfl, by decide +kernel, by decide +kernel, by decide +kernel⟩⟩
theorem wv_L_43 : Wv RL 43 RX7 yX7_inherit cX7_inherit 4 (some .int) 2 := ⟨gd_at 943 (by decide +kernel) rfl, gd_at 944 (by decide +kernel) rfl, gd_at 945 (by decide +kernel) rfl, gd_at 76 (by decide +kernel) rfl, gd_at 946 (by decide +kernel) rfl, ⟨rfl, by decide +kernel, by decide +kernel, by decide +kernel⟩⟩
theorem wv_X7_131 : Wv RX7 131 RX7 yX7_layAll cX7_layAll 4 none 2 := ⟨gd_at 947 (by decide +kernel) rfl, gd_at 949 (by decide +kernel) rfl, gd_at 44 (by decide +kernel) rfl, gd_at 76 (by decide +kernel) rfl, gd_at 950 (by decide +kernel) rfl, ⟨rfl, by decide +kernel, by decide +kernel, by decide +kernel⟩⟩
theorem wv_L_48 : Wv RL 48 RX7 yX7_transfer cX7_transfer 7 (some .int) 5 := ⟨gd_at 951 (by decide +kernel) rfl, gd_at 952 (by decide +kernel) rfl, gd_at 953 (by decide +kernel) rfl, gd_at 76 (by decide +kernel) rfl, gd_at 954 (by decide +kernel) rfl, ⟨rfl, by decide +kernel, by decide +kernel, by decide +kernel⟩⟩
theorem wv_L_53 : Wv RL 53 RX7 yX7_drop cX7_drop 1 (some .int) 0 := ⟨gd_at 955 (by decide +kernel) rfl, gd_at 956 (by decide +kernel) rfl, gd_at 957 (by decide +kernel) rfl, gd_at 76 (by decide +kernel) rfl, gd_at 958 (by decide +kernel) rfl, ⟨rfl, by decide +kernel, by decide +kernel, by decide +kernel⟩⟩
theorem wv_L_61 : Wv RL 61 RX7 yX7_failing cX7_failing 2 (some .int) 0 := ⟨gd_at 959 (by decide +kernel) rfl, gd_at 960 (by decide +kernel) rfl, gd_at 961 (by decide +kernel) rfl, gd_at 76 (by decide +kernel) rfl, gd_at 962 (by decide +kernel) rfl, ⟨rfl, by decide +kernel, by decide +kernel, by decide +kernel⟩⟩
theorem wv_X7_141 : Wv RX7 141 RX7 yX7_keep cX7_keep 2 none 0 := ⟨gd_at 963 (by decide +kernel) rfl, gd_at 965 (by decide +kernel) rfl, gd_at 45 (by decide +kernel) rfl, gd_at 76 (by decide +kernel) rfl, gd_at 966 (by decide +kernel) rfl, ⟨rfl, by decide +kernel, by decide +kernel, by decide +kernel⟩⟩
theorem wv_X7_144 : Wv RX7 144 RX7 yX7_doDeal cX7_doDeal 2 (some .int) 0 := ⟨gd_at 967 (by decide +kernel) rfl, gd_at 969 (by decide +kernel) rfl, gd_at 46 (by decide +kernel) rfl, gd_at 76 (by decide +kernel) rfl, gd_at 970 (by decide +kernel) rfl, ⟨rfl, by decide +kernel, by decide +kernel, by decide +kernel⟩⟩
theorem wv_X7_138 : Wv RX7 138 RX7 yX7_goes cX7_goes 8 (some .boolean) 1 := ⟨gd_at 971 (by decide +kernel) rfl, gd_at 973 (by decide +kernel) rfl, gd_at 47 (by decide +kernel) rfl, gd_at 76 (by decide +kernel) rfl, gd_at 974 (by decide +kernel) rfl, ⟨rfl, by decide +kernel, by decide +kernel, by decide +kernel⟩⟩
theorem wv_X7_135 : Wv RX7 135 RX7 yX7_isLong cX7_isLong 3 (some .boolean) 1 := ⟨gd_at 975 (by decide +kernel) rfl, gd_at 977 (by decide +kernel) rfl, gd_at 48 (by decide +kernel) rfl, gd_at 76 (by decide +kernel) rfl, gd_at 978 (by decide +kernel) rfl, ⟨rfl, by decide +kernel, by decide +kernel, by decide +kernel⟩⟩
theorem wv_X7_147 : Wv RX7 147 RX7 yX7_comeBack cX7_comeBack 2 none 0 := ⟨gd_at 979 (by decide +kernel) rfl, gd_at 981 (by decide +kernel) rfl, gd_at 49 (by decide +kernel) rfl, gd_at 76 (by decide +kernel) rfl, gd_at 982 (by decide +kernel) rfl, ⟨rfl, by decide +kernel, by decide +kernel, by decide +kernel⟩⟩
theorem wv_L_57 : Wv RL 57 RX7 yX7_close cX7_close 2 (some .int) 0 := ⟨gd_at 983 (by decide +kernel) rfl, gd_at 984 (by decide +kernel) rfl, gd_at 985 (by decide +kernel) rfl, gd_at 76 (by decide +kernel) rfl, gd_at 986 (by decide +kernel) rfl, ⟨rfl, by decide +kernel, by decide +kernel, by decide +kernel⟩⟩
theorem wv_X7_150 : Wv RX7 150 RX7 yX7_failing cX7_failing 2 (some .int) 0 := ⟨gd_at 987 (by decide +kernel) rfl, gd_at 960 (by decide +kernel) rfl, gd_at 961 (by decide +kernel) rfl, gd_at 76 (by decide +kernel) rfl, gd_at 962 (by decide +kernel) rfl, ⟨rfl, by decide +kernel, by decide +kernel, by decide +kernel⟩⟩
theorem wv_L_65 : Wv RL 65 RX7 yX7_days cX7_days 3 (some .int) 1 := ⟨gd_at 988 (by decide +kernel) rfl, gd_at 989 (by decide +kernel) rfl, gd_at 990 (by decide +kernel) rfl, gd_at 76 (by decide +kernel) rfl, gd_at 991 (by decide +kernel) rfl, ⟨rfl, by decide +kernel, by decide +kernel, by decide +kernel⟩⟩
theorem wv_X7_165 : Wv RX7 165 RX7 yX7_passDay cX7_passDay 6 none 0 := ⟨gd_at 992 (by decide +kernel) rfl, gd_at 994 (by decide +kernel) rfl, gd_at 50 (by decide +kernel) rfl, gd_at 76 (by decide +kernel) rfl, gd_at 995 (by decide +kernel) rfl, ⟨rfl, by decide +kernel, by decide +kernel, by decide +kernel⟩⟩
theorem wv_X7_159 : Wv RX7 159 RX7 yX7_taxOf cX7_taxOf 2 (some .int) 1 := ⟨gd_at 996 (by decide +kernel) rfl, gd_at 998 (by decide +kernel) rfl, gd_at 51 (by decide +kernel) rfl, gd_at 76 (by decide +kernel) rfl, gd_at 999 (by decide +kernel) rfl, ⟨rfl, by decide +kernel, by decide +kernel, by decide +kernel⟩⟩
theorem wv_X7_153 : Wv RX7 153 RX7 yX7_manyOf cX7_manyOf 4 (some .int) 1 := ⟨gd_at 1000 (by decide +kernel) rfl, gd_at 1002 (by decide +kernel) rfl, gd_at 52 (by decide +kernel) rfl, gd_at 76 (by decide +kernel) rfl, gd_at 1003 (by decide +kernel) rfl, ⟨rfl, by decide +kernel, by decide +kernel, by decide +kernel⟩⟩
theorem wv_X7_156 : Wv RX7 156 RX7 yX7_lengthTax cX7_lengthTax 2 (some .int) 1 := ⟨gd_at 1004 (by decide +kernel) rfl, gd_at 1006 (by decide +kernel) rfl, gd_at 53 (by decide +kernel) rfl, gd_at 76 (by decide +kernel) rfl, gd_at 1007 (by decide +kernel) rfl, ⟨rfl, by decide +kernel, by decide +kernel, by decide +kernel⟩⟩
theorem wv_X7_162 : Wv RX7 162 RX7 yX7_shortestOf cX7_shortestOf 4 (some .int) 1 := ⟨gd_at 1008 (by decide +kernel) rfl, gd_at 1010 (by decide +kernel) rfl, gd_at 54 (by decide +kernel) rfl, gd_at 76 (by decide +kernel) rfl, gd_at 1011 (by decide +kernel) rfl, ⟨rfl, by decide +kernel, by decide +kernel, by decide +kernel⟩⟩
theorem wv_L_69 : Wv RL 69 RX7 yX7_ofRange cX7_ofRange 4 (some .int) 2 := ⟨gd_at 1012 (by decide +kernel) rfl, gd_at 1013 (by decide +kernel) rfl, gd_at 1014 (by decide +kernel) rfl, gd_at 76 (by decide +kernel) rfl, gd_at 1015 (by decide +kernel) rfl, ⟨rfl, by decide +kernel, by decide +kernel, by decide +kernel⟩⟩
theorem wv_X7_168 : Wv RX7 168 RX7 yX7_pieceOf cX7_pieceOf 4 (some .int) 1 := ⟨gd_at 1016 (by decide +kernel) rfl, gd_at 1018 (by decide +kernel) rfl, gd_at 55 (by decide +kernel) rfl, gd_at 76 (by decide +kernel) rfl, gd_at 1019 (by decide +kernel) rfl, ⟨rfl, by decide +kernel, by decide +kernel, by decide +kernel⟩⟩
theorem wv_L_73 : Wv RL 73 RX7 yX7_ofOwner cX7_ofOwner 3 (some .int) 2 := ⟨gd_at 1020 (by decide +kernel) rfl, gd_at 1021 (by decide +kernel) rfl, gd_at 1022 (by decide +kernel) rfl, gd_at 76 (by decide +kernel) rfl, gd_at 1023 (by decide +kernel) rfl, ⟨rfl, by decide +kernel, by decide +kernel, by decide +kernel⟩⟩
theorem wv_X7_171 : Wv RX7 171 RX7 yX7_longestOf cX7_longestOf 4 (some .int) 1 := ⟨gd_at 1024 (by decide +kernel) rfl, gd_at 1026 (by decide +kernel) rfl, gd_at 56 (by decide +kernel) rfl, gd_at 76 (by decide +kernel) rfl, gd_at 1027 (by decide +kernel) rfl, ⟨rfl, by decide +kernel, by decide +kernel, by decide +kernel⟩⟩
theorem wv_L_78 : Wv RL 78 RX7 yX7_money cX7_money 2 (some .long) 1 := ⟨gd_at 1028 (by decide +kernel) rfl, gd_at 1029 (by decide +kernel) rfl, gd_at 1030 (by decide +kernel) rfl, gd_at 76 (by decide +kernel) rfl, gd_at 1031 (by decide +kernel) rfl, ⟨rfl, by decide +kernel, by decide +kernel, by decide +kernel⟩⟩
theorem wc_X7_174 : Cond.constantLong RX7 174 (jJ (-1)) ∈ gd_w := gd_at 1032 (by decide +kernel) rfl
theorem wv_L_82 : Wv RL 82 RX7 yX7_ownerAt cX7_ownerAt 2 (some .int) 1 := ⟨gd_at 1033 (by decide +kernel) rfl, gd_at 1034 (by decide +kernel) rfl, gd_at 1035 (by decide +kernel) rfl, gd_at 76 (by decide +kernel) rfl, gd_at 1036 (by decide +kernel) rfl, ⟨rfl, by decide +kernel, by decide +kernel, by decide +kernel⟩⟩
theorem wv_X7_176 : Wv RX7 176 RX7 yX7_ownerOn cX7_ownerOn 4 (some .int) 1 := ⟨gd_at 1037 (by decide +kernel) rfl, gd_at 1039 (by decide +kernel) rfl, gd_at 57 (by decide +kernel) rfl, gd_at 76 (by decide +kernel) rfl, gd_at 1040 (by decide +kernel) rfl, ⟨rfl, by decide +kernel, by decide +kernel, by decide +kernel⟩⟩
theorem wv_L_86 : Wv RL 86 RX7 yX7_ofTransfer cX7_ofTransfer 3 (some .int) 2 := ⟨gd_at 1041 (by decide +kernel) rfl, gd_at 1042 (by decide +kernel) rfl, gd_at 1043 (by decide +kernel) rfl, gd_at 76 (by decide +kernel) rfl, gd_at 1044 (by decide +kernel) rfl, ⟨rfl, by decide +kernel, by decide +kernel, by decide +kernel⟩⟩
theorem wv_L_90 : Wv RL 90 RX7 yX7_count cX7_count 2 (some .int) 1 := ⟨gd_at 1045 (by decide +kernel) rfl, gd_at 1046 (by decide +kernel) rfl, gd_at 1047 (by decide +kernel) rfl, gd_at 76 (by decide +kernel) rfl, gd_at 1048 (by decide +kernel) rfl, ⟨rfl, by decide +kernel, by decide +kernel, by decide +kernel⟩⟩
theorem wv_X7_179 : Wv RX7 179 RX7 yX7_taxes cX7_taxes 3 (some .int) 0 := ⟨gd_at 1049 (by decide +kernel) rfl, gd_at 1051 (by decide +kernel) rfl, gd_at 58 (by decide +kernel) rfl, gd_at 76 (by decide +kernel) rfl, gd_at 1052 (by decide +kernel) rfl, ⟨rfl, by decide +kernel, by decide +kernel, by decide +kernel⟩⟩
theorem wv_L_94 : Wv RL 94 RX7 yX7_shareBits cX7_shareBits 3 (some .int) 1 := ⟨gd_at 1053 (by decide +kernel) rfl, gd_at 1054 (by decide +kernel) rfl, gd_at 1055 (by decide +kernel) rfl, gd_at 76 (by decide +kernel) rfl, gd_at 1056 (by decide +kernel) rfl, ⟨rfl, by decide +kernel, by decide +kernel, by decide +kernel⟩⟩
theorem ws_X7_185 : Ws RX7 185 yJxf58ca_floatToIntBits_5c35a cJxf58ca_floatToIntBits_5c35a 1 (some .int) 1 := ⟨gd_at 1057 (by decide +kernel) rfl, gd_at 1058 (by decide +kernel) rfl, gd_at 78 (by decide +kernel) rfl, gd_at 1059 (by decide +kernel) rfl, ⟨by decide +kernel, by decide +kernel, by decide +kernel⟩⟩
theorem ws_Jxf58ca_59 : Ws RJxf58ca 59 yJxf58ca_isNaN_12338 cJxf58ca_isNaN_12338 1 (some .boolean) 1 := ⟨gd_at 1060 (by decide +kernel) rfl, gd_at 1061 (by decide +kernel) rfl, gd_at 78 (by decide +kernel) rfl, gd_at 1062 (by decide +kernel) rfl, ⟨by decide +kernel, by decide +kernel, by decide +kernel⟩⟩
theorem wc_Jxf58ca_77 : Cond.constant RJxf58ca 77 (iI (2143289344)) ∈ gd_w := gd_at 1066 (by decide +kernel) rfl
theorem wv_L_98 : Wv RL 98 RX7 yX7_hole cX7_hole 3 (some .int) 2 := ⟨gd_at 1067 (by decide +kernel) rfl, gd_at 1068 (by decide +kernel) rfl, gd_at 1069 (by decide +kernel) rfl, gd_at 76 (by decide +kernel) rfl, gd_at 1070 (by decide +kernel) rfl, ⟨rfl, by decide +kernel, by decide +kernel, by decide +kernel⟩⟩
theorem wv_L_102 : Wv RL 102 RX7 yX7_wouldBe cX7_wouldBe 4 (some .int) 3 := ⟨gd_at 1071 (by decide +kernel) rfl, gd_at 1072 (by decide +kernel) rfl, gd_at 1073 (by decide +kernel) rfl, gd_at 76 (by decide +kernel) rfl, gd_at 1074 (by decide +kernel) rfl, ⟨rfl, by decide +kernel, by decide +kernel, by decide +kernel⟩⟩
theorem wv_L_106 : Wv RL 106 RX7 yX7_quietest cX7_quietest 7 (some .int) 2 := ⟨gd_at 1075 (by decide +kernel) rfl, gd_at 1076 (by decide +kernel) rfl, gd_at 1077 (by decide +kernel) rfl, gd_at 76 (by decide +kernel) rfl, gd_at 1078 (by decide +kernel) rfl, ⟨rfl, by decide +kernel, by decide +kernel, by decide +kernel⟩⟩
theorem wv_X7_191 : Wv RX7 191 RX7 yX7_ownersIn cX7_ownersIn 6 (some .int) 2 := ⟨gd_at 1079 (by decide +kernel) rfl, gd_at 1081 (by decide +kernel) rfl, gd_at 59 (by decide +kernel) rfl, gd_at 76 (by decide +kernel) rfl, gd_at 1082 (by decide +kernel) rfl, ⟨rfl, by decide +kernel, by decide +kernel, by decide +kernel⟩⟩
theorem wv_L_110 : Wv RL 110 RX7 yX7_gaps cX7_gaps 5 (some .int) 1 := ⟨gd_at 1083 (by decide +kernel) rfl, gd_at 1084 (by decide +kernel) rfl, gd_at 1085 (by decide +kernel) rfl, gd_at 76 (by decide +kernel) rfl, gd_at 1086 (by decide +kernel) rfl, ⟨rfl, by decide +kernel, by decide +kernel, by decide +kernel⟩⟩
theorem wv_L_114 : Wv RL 114 RX7 yX7_exchange cX7_exchange 10 (some .int) 1 := ⟨gd_at 1087 (by decide +kernel) rfl, gd_at 1088 (by decide +kernel) rfl, gd_at 1089 (by decide +kernel) rfl, gd_at 76 (by decide +kernel) rfl, gd_at 1090 (by decide +kernel) rfl, ⟨rfl, by decide +kernel, by decide +kernel, by decide +kernel⟩⟩
theorem wv_X7_194 : Wv RX7 194 RX7 yX7_rangesBy cX7_rangesBy 4 (some .int) 2 := ⟨gd_at 1091 (by decide +kernel) rfl, gd_at 1093 (by decide +kernel) rfl, gd_at 60 (by decide +kernel) rfl, gd_at 76 (by decide +kernel) rfl, gd_at 1094 (by decide +kernel) rfl, ⟨rfl, by decide +kernel, by decide +kernel, by decide +kernel⟩⟩
theorem wv_L_118 : Wv RL 118 RX7 yX7_losesIn cX7_losesIn 5 (some .int) 1 := ⟨gd_at 1095 (by decide +kernel) rfl, gd_at 1096 (by decide +kernel) rfl, gd_at 1097 (by decide +kernel) rfl, gd_at 76 (by decide +kernel) rfl, gd_at 1098 (by decide +kernel) rfl, ⟨rfl, by decide +kernel, by decide +kernel, by decide +kernel⟩⟩
theorem wv_L_125 : Wv RL 125 RX7 yX7_put cX7_put 7 (some .int) 1 := ⟨gd_at 1099 (by decide +kernel) rfl, gd_at 1100 (by decide +kernel) rfl, gd_at 1101 (by decide +kernel) rfl, gd_at 76 (by decide +kernel) rfl, gd_at 1102 (by decide +kernel) rfl, ⟨rfl, by decide +kernel, by decide +kernel, by decide +kernel⟩⟩
theorem wc_X7_218 : Cond.constantLong RX7 218 (jJ (255)) ∈ gd_w := gd_at 1103 (by decide +kernel) rfl
theorem wv_L_129 : Wv RL 129 RX7 yX7_wipe cX7_wipe 2 (some .int) 0 := ⟨gd_at 1104 (by decide +kernel) rfl, gd_at 1105 (by decide +kernel) rfl, gd_at 1106 (by decide +kernel) rfl, gd_at 76 (by decide +kernel) rfl, gd_at 1107 (by decide +kernel) rfl, ⟨rfl, by decide +kernel, by decide +kernel, by decide +kernel⟩⟩
theorem wv_L_133 : Wv RL 133 RX7 yX7_fault cX7_fault 1 (some .int) 0 := ⟨gd_at 1108 (by decide +kernel) rfl, gd_at 1109 (by decide +kernel) rfl, gd_at 1110 (by decide +kernel) rfl, gd_at 76 (by decide +kernel) rfl, gd_at 1111 (by decide +kernel) rfl, ⟨rfl, by decide +kernel, by decide +kernel, by decide +kernel⟩⟩
theorem wv_X7_220 : Wv RX7 220 RX7 yX7_faultOf cX7_faultOf 1 (some .int) 0 := ⟨gd_at 1112 (by decide +kernel) rfl, gd_at 1114 (by decide +kernel) rfl, gd_at 61 (by decide +kernel) rfl, gd_at 76 (by decide +kernel) rfl, gd_at 1115 (by decide +kernel) rfl, ⟨rfl, by decide +kernel, by decide +kernel, by decide +kernel⟩⟩
theorem wv_X7_215 : Wv RX7 215 RX7 yX7_readOne cX7_readOne 3 none 0 := ⟨gd_at 1116 (by decide +kernel) rfl, gd_at 1118 (by decide +kernel) rfl, gd_at 62 (by decide +kernel) rfl, gd_at 76 (by decide +kernel) rfl, gd_at 1119 (by decide +kernel) rfl, ⟨rfl, by decide +kernel, by decide +kernel, by decide +kernel⟩⟩
theorem wv_X7_200 : Wv RX7 200 RX7 yX7_sign cX7_sign 1 (some .int) 0 := ⟨gd_at 1120 (by decide +kernel) rfl, gd_at 1122 (by decide +kernel) rfl, gd_at 63 (by decide +kernel) rfl, gd_at 76 (by decide +kernel) rfl, gd_at 1123 (by decide +kernel) rfl, ⟨rfl, by decide +kernel, by decide +kernel, by decide +kernel⟩⟩
theorem wv_X7_206 : Wv RX7 206 RX7 yX7_one cX7_one 4 (some .int) 2 := ⟨gd_at 1124 (by decide +kernel) rfl, gd_at 1126 (by decide +kernel) rfl, gd_at 64 (by decide +kernel) rfl, gd_at 76 (by decide +kernel) rfl, gd_at 1127 (by decide +kernel) rfl, ⟨rfl, by decide +kernel, by decide +kernel, by decide +kernel⟩⟩
theorem wv_X7_212 : Wv RX7 212 RX7 yX7_number cX7_number 2 (some .int) 0 := ⟨gd_at 1128 (by decide +kernel) rfl, gd_at 1130 (by decide +kernel) rfl, gd_at 65 (by decide +kernel) rfl, gd_at 76 (by decide +kernel) rfl, gd_at 1131 (by decide +kernel) rfl, ⟨rfl, by decide +kernel, by decide +kernel, by decide +kernel⟩⟩
theorem wv_L_137 : Wv RL 137 RX7 yX7_carryOut cX7_carryOut 2 (some .int) 0 := ⟨gd_at 1132 (by decide +kernel) rfl, gd_at 1133 (by decide +kernel) rfl, gd_at 1134 (by decide +kernel) rfl, gd_at 76 (by decide +kernel) rfl, gd_at 1135 (by decide +kernel) rfl, ⟨rfl, by decide +kernel, by decide +kernel, by decide +kernel⟩⟩
theorem wv_X7_238 : Wv RX7 238 RX7 yX7_carry cX7_carry 4 (some .int) 1 := ⟨gd_at 1136 (by decide +kernel) rfl, gd_at 1138 (by decide +kernel) rfl, gd_at 66 (by decide +kernel) rfl, gd_at 76 (by decide +kernel) rfl, gd_at 1139 (by decide +kernel) rfl, ⟨rfl, by decide +kernel, by decide +kernel, by decide +kernel⟩⟩
theorem wv_X7_223 : Wv RX7 223 RX7 yX7_give cX7_give 4 (some .int) 3 := ⟨gd_at 1140 (by decide +kernel) rfl, gd_at 877 (by decide +kernel) rfl, gd_at 878 (by decide +kernel) rfl, gd_at 76 (by decide +kernel) rfl, gd_at 879 (by decide +kernel) rfl, ⟨rfl, by decide +kernel, by decide +kernel, by decide +kernel⟩⟩
theorem wv_X7_226 : Wv RX7 226 RX7 yX7_free cX7_free 3 (some .int) 2 := ⟨gd_at 1141 (by decide +kernel) rfl, gd_at 928 (by decide +kernel) rfl, gd_at 929 (by decide +kernel) rfl, gd_at 76 (by decide +kernel) rfl, gd_at 930 (by decide +kernel) rfl, ⟨rfl, by decide +kernel, by decide +kernel, by decide +kernel⟩⟩
theorem wv_X7_229 : Wv RX7 229 RX7 yX7_grab cX7_grab 4 (some .int) 2 := ⟨gd_at 1142 (by decide +kernel) rfl, gd_at 932 (by decide +kernel) rfl, gd_at 933 (by decide +kernel) rfl, gd_at 76 (by decide +kernel) rfl, gd_at 934 (by decide +kernel) rfl, ⟨rfl, by decide +kernel, by decide +kernel, by decide +kernel⟩⟩
theorem wv_X7_232 : Wv RX7 232 RX7 yX7_pay cX7_pay 3 (some .int) 2 := ⟨gd_at 1143 (by decide +kernel) rfl, gd_at 869 (by decide +kernel) rfl, gd_at 870 (by decide +kernel) rfl, gd_at 76 (by decide +kernel) rfl, gd_at 871 (by decide +kernel) rfl, ⟨rfl, by decide +kernel, by decide +kernel, by decide +kernel⟩⟩
theorem wv_X7_235 : Wv RX7 235 RX7 yX7_days cX7_days 3 (some .int) 1 := ⟨gd_at 1144 (by decide +kernel) rfl, gd_at 989 (by decide +kernel) rfl, gd_at 990 (by decide +kernel) rfl, gd_at 76 (by decide +kernel) rfl, gd_at 991 (by decide +kernel) rfl, ⟨rfl, by decide +kernel, by decide +kernel, by decide +kernel⟩⟩
theorem wv_L_141 : Wv RL 141 RX7 yX7_undo cX7_undo 2 (some .int) 0 := ⟨gd_at 1145 (by decide +kernel) rfl, gd_at 1146 (by decide +kernel) rfl, gd_at 1147 (by decide +kernel) rfl, gd_at 76 (by decide +kernel) rfl, gd_at 1148 (by decide +kernel) rfl, ⟨rfl, by decide +kernel, by decide +kernel, by decide +kernel⟩⟩
theorem wv_L_145 : Wv RL 145 RX7 yX7_save cX7_save 3 (some .int) 1 := ⟨gd_at 1149 (by decide +kernel) rfl, gd_at 1150 (by decide +kernel) rfl, gd_at 1151 (by decide +kernel) rfl, gd_at 76 (by decide +kernel) rfl, gd_at 1152 (by decide +kernel) rfl, ⟨rfl, by decide +kernel, by decide +kernel, by decide +kernel⟩⟩
theorem wv_L_149 : Wv RL 149 RX7 yX7_restore cX7_restore 3 (some .int) 1 := ⟨gd_at 1153 (by decide +kernel) rfl, gd_at 1154 (by decide +kernel) rfl, gd_at 1155 (by decide +kernel) rfl, gd_at 76 (by decide +kernel) rfl, gd_at 1156 (by decide +kernel) rfl, ⟨rfl, by decide +kernel, by decide +kernel, by decide +kernel⟩⟩
theorem wc_L_119 : Cond.constantLong RL 119 (jJ (4294967295)) ∈ gd_w := gd_at 1157 (by decide +kernel) rfl
theorem wn_X0 : Cond.instantiable RX0 2 ∈ gd_w := gd_at 144 (by decide +kernel) rfl
theorem wz_X0 : Cond.initialized RX0 ∈ gd_w := gd_at 73 (by decide +kernel) rfl
theorem wn_X1 : Cond.instantiable RX1 2 ∈ gd_w := gd_at 211 (by decide +kernel) rfl
theorem wz_X1 : Cond.initialized RX1 ∈ gd_w := gd_at 74 (by decide +kernel) rfl
theorem wn_X2 : Cond.instantiable RX2 7 ∈ gd_w := gd_at 228 (by decide +kernel) rfl
theorem wz_X2 : Cond.initialized RX2 ∈ gd_w := gd_at 75 (by decide +kernel) rfl
theorem wn_X3 : Cond.instantiable RX3 10 ∈ gd_w := gd_at 89 (by decide +kernel) rfl
theorem wz_X3 : Cond.initialized RX3 ∈ gd_w := gd_at 69 (by decide +kernel) rfl
theorem wn_X4 : Cond.instantiable RX4 1 ∈ gd_w := gd_at 101 (by decide +kernel) rfl
theorem wz_X4 : Cond.initialized RX4 ∈ gd_w := gd_at 71 (by decide +kernel) rfl
theorem wn_X5 : Cond.instantiable RX5 6 ∈ gd_w := gd_at 95 (by decide +kernel) rfl
theorem wz_X5 : Cond.initialized RX5 ∈ gd_w := gd_at 70 (by decide +kernel) rfl
theorem wn_X6 : Cond.instantiable RX6 6 ∈ gd_w := gd_at 81 (by decide +kernel) rfl
theorem wz_X6 : Cond.initialized RX6 ∈ gd_w := gd_at 68 (by decide +kernel) rfl
theorem wn_X7 : Cond.instantiable RX7 21 ∈ gd_w := gd_at 776 (by decide +kernel) rfl
theorem wz_X7 : Cond.initialized RX7 ∈ gd_w := gd_at 76 (by decide +kernel) rfl
theorem wy_int : Cond.arrayClass .int ∈ gd_w := gd_at 113 (by decide +kernel) rfl
theorem wy_long : Cond.arrayClass .long ∈ gd_w := gd_at 207 (by decide +kernel) rfl
theorem wy_char : Cond.arrayClass .char ∈ gd_w := gd_at 261 (by decide +kernel) rfl
theorem wy_boolean : Cond.arrayClass .boolean ∈ gd_w := gd_at 845 (by decide +kernel) rfl
end
section
/-! the street as a list of ranges (owner, first meter, meter behind it) -/
abbrev Sg : Type := Int × Int × Int
def cntO : List Sg → Int → Int
  | [], _ => 0
  | s :: t, o => (if s.1 = o then 1 else 0) + cntO t o
def mtsO : List Sg → Int → Int
  | [], _ => 0
  | s :: t, o => (if s.1 = o then s.2.2 - s.2.1 else 0) + mtsO t o
abbrev okS (s : Sg) : Prop := 0 ≤ s.1 ∧ s.1 < 10 ∧ 0 ≤ s.2.1 ∧ s.2.1 < s.2.2 ∧ s.2.2 ≤ 10000
def strW (L : List Sg) : Prop := L.length ≤ 42 ∧ ∀ s ∈ L, okS s
/-- a piece behind all ranges -/
def apF (L : List Sg) (o a n : Int) : List Sg :=
  if o < 0 ∨ n ≤ 0 then L else
  match L.getLast? with
  | some x => if x.1 = o ∧ x.2.2 = a then L.dropLast ++ [(o, x.2.1, x.2.2 + n)] else if L.length < 42 then L ++ [(o, a, a + n)] else L
  | none => L ++ [(o, a, a + n)]
def lefP (a : Int) (s : Sg) : Sg := (s.1, s.2.1, (if a < s.2.2 then a else s.2.2) - s.2.1)
def rigP (b : Int) (s : Sg) : Sg := (s.1, (if s.2.1 < b then b else s.2.1), s.2.2 - (if s.2.1 < b then b else s.2.1))
def apL (T : List Sg) (M : List Sg) : List Sg := M.foldl (fun T x => apF T x.1 x.2.1 x.2.2) T
/-- the street when a piece goes to an owner (or to none) -/
def becF (M : List Sg) (o a n : Int) : List Sg := apL (apF (apL [] (M.map (lefP a))) o a n) (M.map (rigP (a + n)))
def inhP (o h : Int) (s : Sg) : Sg := ((if s.1 = o then h else s.1), s.2.1, s.2.2 - s.2.1)
def inhF (M : List Sg) (o h : Int) : List Sg := apL [] (M.map (inhP o h))
theorem cntO_app (L M : List Sg) (o : Int) : cntO (L ++ M) o = cntO L o + cntO M o := by
  induction L with
  | nil => simp [cntO]
  | cons s t ih => simp only [List.cons_append, cntO, ih]; omega
theorem mtsO_app (L M : List Sg) (o : Int) : mtsO (L ++ M) o = mtsO L o + mtsO M o := by
  induction L with
  | nil => simp [mtsO]
  | cons s t ih => simp only [List.cons_append, mtsO, ih]; omega
theorem cntO_nn (L : List Sg) (o : Int) : 0 ≤ cntO L o ∧ cntO L o ≤ L.length := by
  induction L with
  | nil => simp [cntO]
  | cons s t ih => simp only [cntO, List.length_cons]; split <;> omega
theorem mtsO_nn (L : List Sg) (o : Int) (h : ∀ s ∈ L, okS s) : 0 ≤ mtsO L o ∧ mtsO L o ≤ 10000 * L.length := by
  induction L with
  | nil => simp [mtsO]
  | cons s t ih =>
    have h1 := ih (fun x hx => h x (List.mem_cons_of_mem _ hx))
    have h2 := h s List.mem_cons_self
    simp only [mtsO, List.length_cons]
    split <;> omega
theorem okS_mk {o a b : Int} (h : 0 ≤ o ∧ o < 10 ∧ 0 ≤ a ∧ a < b ∧ b ≤ 10000) : okS (o, a, b) := h
theorem strW_nil : strW [] := ⟨by simp, fun s h => absurd h List.not_mem_nil⟩
theorem strW_at {L : List Sg} (h : strW L) {i : Nat} (hi : i < L.length) : okS L[i] := h.2 _ (List.getElem_mem hi)
theorem apF_W {L : List Sg} {o a n : Int} (h : strW L) (ho : o < 10) (hb : 0 ≤ o → 0 < n → 0 ≤ a ∧ a + n ≤ 10000) : strW (apF L o a n) := by
  unfold apF
  split
  · exact h
  · next h0 =>
    have hb1 := hb (by omega) (by omega)
    cases hl : L.getLast? with
    | none =>
      have : L = [] := List.getLast?_eq_none_iff.mp hl
      subst this
      exact ⟨by simp, fun s hs => by simp at hs; subst hs; exact okS_mk (by omega)⟩
    | some x =>
      have hx : x ∈ L := List.mem_of_getLast? hl
      have hx1 := h.2 x hx
      simp only
      split
      · next h1 =>
        refine ⟨?_, ?_⟩
        · rw [List.length_append, List.length_dropLast]
          have : 0 < L.length := List.length_pos_of_mem hx
          simp only [List.length_cons, List.length_nil]
          have := h.1
          omega
        · intro s hs
          rcases List.mem_append.mp hs with h2 | h2
          · exact h.2 s (List.dropLast_subset _ h2)
          · simp at h2
            subst h2
            exact okS_mk (by omega)
      · split
        · next h2 =>
          refine ⟨by simp; omega, fun s hs => ?_⟩
          rcases List.mem_append.mp hs with h3 | h3
          · exact h.2 s h3
          · simp at h3
            subst h3
            exact okS_mk (by omega)
        · exact h
end
section
/-! Row -/
def rowA (G : xG) (w : Wd) (h n : Nat) (f : Int → Int) : Prop := w h = some (.inr (4, [.ref (h + 1)])) ∧ w (h + 1) = some (aI G n f)
theorem row_o {G : xG} {w : Wd} {h n : Nat} {f : Int → Int} (x : rowA G w h n f) : w h = some (.inr (4, [.ref (h + 1)])) := x.1
theorem row_c {G : xG} {w : Wd} {h n : Nat} {f : Int → Int} (x : rowA G w h n f) : w (h + 1) = some (aI G n f) := x.2
/-- outside [lo, hi) nothing has changed -/
def Fr (lo hi : Nat) (w w1 : Wd) : Prop := ∀ q : Nat, (q < lo ∨ hi ≤ q) → w1 q = w q
theorem Fr.rf {lo hi : Nat} {w : Wd} : Fr lo hi w w := fun _ _ => rfl
theorem Fr.tr {lo hi : Nat} {w w1 w2 : Wd} (h1 : Fr lo hi w w1) (h2 : Fr lo hi w1 w2) : Fr lo hi w w2 := fun q hq => (h2 q hq).trans (h1 q hq)
theorem Fr.mo {lo hi lo2 hi2 : Nat} {w w1 : Wd} (h : Fr lo hi w w1) (a : lo2 ≤ lo) (b : hi ≤ hi2) : Fr lo2 hi2 w w1 := fun q hq => h q (by omega)
theorem Fr.wS {q lo hi : Nat} {w : Wd} {e : va_E} (a : lo ≤ q) (b : q < hi) : Fr lo hi w (wS w q e) := fun x hx => wS_ne (by omega)
theorem rowA.kp {G : xG} {w w1 : Wd} {h n lo hi : Nat} {f : Int → Int} (x : rowA G w h n f) (r : Fr lo hi w w1) (a : h + 2 ≤ lo ∨ hi ≤ h) : rowA G w1 h n f := ⟨(r h (by omega)).trans x.1, (r (h + 1) (by omega)).trans x.2⟩
theorem rowA.up {G : xG} {w : Wd} {h n : Nat} {f g : Int → Int} (x : rowA G w h n f) : rowA G (wS w (h + 1) (aI G n g)) h n g := ⟨(wS_ne (by omega)).trans x.1, wS_eq⟩
theorem p_rI {v x : Int} {w : Wd} {z : Nat} (h : x = v) : rI v w z (some (.int (iI x))) w z := ⟨by rw [h], rfl, rfl⟩
theorem p_qI {f : Int → Wd → Prop} {x : Int} {w : Wd} {z : Nat} (h : f x w) : qI z f (some (.int (iI x))) w z := ⟨rfl, x, rfl, h⟩
theorem p_qV {f : Wd → Prop} {w : Wd} {z : Nat} (h : f w) : qV z f none w z := ⟨rfl, rfl, h⟩
theorem p_rL {v x : Int64} {w : Wd} {z : Nat} (h : x = v) : rL v w z (some (.long x)) w z := ⟨by rw [h], rfl, rfl⟩
theorem wS_same {w : Wd} {q : Nat} {e : va_E} (h : w q = some e) : wS w q e = w := by
  funext x
  by_cases hx : x = q
  · subst hx; rw [wS_eq, h]
  · rw [wS_ne hx]
theorem wS_2 {w : Wd} {q : Nat} {e e2 : va_E} : wS (wS w q e) q e2 = wS w q e2 := by
  funext x
  by_cases hx : x = q
  · subst hx; rw [wS_eq, wS_eq]
  · rw [wS_ne hx, wS_ne hx, wS_ne hx]
theorem m_X4_at {l : Launch} {G : xG} {w : Wd} {z h n : Nat} {f : Int → Int} {i : Int} (h1 : rowA G w h n f) (hi : 0 ≤ i ∧ i < n ∧ n ≤ 2147483647) : xMet l G yX4_at cX4_at 2 (some .int) ({ frames := 0, cells := 0, slots := 0, locals := 0 } : Room) [.ref h, .int (iI i)] w z (rI (f i) w z) := by
  refine xMet_of RX4 rfl (by decide +kernel) false (by decide +kernel) (Nat.le_of_ble_eq_true rfl) rfl ?_
  intro P hM hR
  refine x_iload_n hM dX4_at_0 rfl rfl ?_
  refine x_if_lt (tgt := 22) hM dX4_at_1 (by decide) (by omega) (fun c_1 => ?_) (fun c_1 => ?_)
  · exfalso; omega
  · refine x_iload_n hM dX4_at_4 rfl rfl ?_
    refine x_aload_n hM dX4_at_5 rfl rfl ?_
    refine x_get hM wf_X4_13 wl_X4 (by first | assumption | exact row_o (by first | assumption | exact sr1 (by assumption) | exact sr2 (by assumption) | exact sr3 (by assumption) | exact sr4 (by assumption) | exact sr5 (by assumption))) rfl dX4_at_6 ?_
    refine x_alenI hM (by first | assumption | exact row_c (by first | assumption | exact sr1 (by assumption) | exact sr2 (by assumption) | exact sr3 (by assumption) | exact sr4 (by assumption) | exact sr5 (by assumption))) dX4_at_9 ?_
    refine x_icmp_ge (tgt := 22) hM dX4_at_10 (by decide) (by omega) (by omega) (fun c_10 => ?_) (fun c_10 => ?_)
    · exfalso; omega
    · refine x_aload_n hM dX4_at_13 rfl rfl ?_
      refine x_get hM wf_X4_13 wl_X4 (by first | assumption | exact row_o (by first | assumption | exact sr1 (by assumption) | exact sr2 (by assumption) | exact sr3 (by assumption) | exact sr4 (by assumption) | exact sr5 (by assumption))) rfl dX4_at_14 ?_
      refine x_iload_n hM dX4_at_17 rfl rfl ?_
      refine x_iald hM (by first | assumption | exact row_c (by first | assumption | exact sr1 (by assumption) | exact sr2 (by assumption) | exact sr3 (by assumption) | exact sr4 (by assumption) | exact sr5 (by assumption))) (by omega) dX4_at_18 ?_
      refine x_goto (tgt := 23) hM dX4_at_19 (by decide) ?_
      refine hR.i dX4_at_23 (Nat.zero_le _) (Nat.zero_le _) ?_
      exact p_rI rfl
theorem m_X4_store {l : Launch} {G : xG} {w : Wd} {z h n : Nat} {f : Int → Int} {i v : Int} (h1 : rowA G w h n f) (hi : 0 ≤ i ∧ i < n ∧ n ≤ 2147483647) : xMet l G yX4_store cX4_store 3 none ({ frames := 0, cells := 0, slots := 0, locals := 0 } : Room) [.ref h, .int (iI i), .int (iI v)] w z (qV z fun w1 => w1 = wS w (h + 1) (aI G n (fU f i v))) := by
  refine xMet_of RX4 rfl (by decide +kernel) false (by decide +kernel) (Nat.le_of_ble_eq_true rfl) rfl ?_
  intro P hM hR
  refine x_iload_n hM dX4_store_0 rfl rfl ?_
  refine x_if_lt (tgt := 20) hM dX4_store_1 (by decide) (by omega) (fun c_1 => ?_) (fun c_1 => ?_)
  · exfalso; omega
  · refine x_iload_n hM dX4_store_4 rfl rfl ?_
    refine x_aload_n hM dX4_store_5 rfl rfl ?_
    refine x_get hM wf_X4_13 wl_X4 (by first | assumption | exact row_o (by first | assumption | exact sr1 (by assumption) | exact sr2 (by assumption) | exact sr3 (by assumption) | exact sr4 (by assumption) | exact sr5 (by assumption))) rfl dX4_store_6 ?_
    refine x_alenI hM (by first | assumption | exact row_c (by first | assumption | exact sr1 (by assumption) | exact sr2 (by assumption) | exact sr3 (by assumption) | exact sr4 (by assumption) | exact sr5 (by assumption))) dX4_store_9 ?_
    refine x_icmp_ge (tgt := 20) hM dX4_store_10 (by decide) (by omega) (by omega) (fun c_10 => ?_) (fun c_10 => ?_)
    · exfalso; omega
    · refine x_aload_n hM dX4_store_13 rfl rfl ?_
      refine x_get hM wf_X4_13 wl_X4 (by first | assumption | exact row_o (by first | assumption | exact sr1 (by assumption) | exact sr2 (by assumption) | exact sr3 (by assumption) | exact sr4 (by assumption) | exact sr5 (by assumption))) rfl dX4_store_14 ?_
      refine x_iload_n hM dX4_store_17 rfl rfl ?_
      refine x_iload_n hM dX4_store_18 rfl rfl ?_
      refine x_iast hM (by first | assumption | exact row_c (by first | assumption | exact sr1 (by assumption) | exact sr2 (by assumption) | exact sr3 (by assumption) | exact sr4 (by assumption) | exact sr5 (by assumption))) (by omega) dX4_store_19 ?_
      refine hR.v dX4_store_20 (Nat.zero_le _) (Nat.zero_le _) ?_
      exact p_qV rfl
theorem m_X4_add {l : Launch} {G : xG} {w : Wd} {z h n : Nat} {f : Int → Int} {i v : Int} (h1 : rowA G w h n f) (hi : 0 ≤ i ∧ i < n ∧ n ≤ 2147483647) : xMet l G yX4_add cX4_add 3 none ({ frames := 0, cells := 0, slots := 0, locals := 0 } : Room) [.ref h, .int (iI i), .int (iI v)] w z (qV z fun w1 => w1 = wS w (h + 1) (aI G n (fU f i (f i + v)))) := by
  refine xMet_of RX4 rfl (by decide +kernel) false (by decide +kernel) (Nat.le_of_ble_eq_true rfl) rfl ?_
  intro P hM hR
  refine x_iload_n hM dX4_add_0 rfl rfl ?_
  refine x_if_lt (tgt := 23) hM dX4_add_1 (by decide) (by omega) (fun c_1 => ?_) (fun c_1 => ?_)
  · exfalso; omega
  · refine x_iload_n hM dX4_add_4 rfl rfl ?_
    refine x_aload_n hM dX4_add_5 rfl rfl ?_
    refine x_get hM wf_X4_13 wl_X4 (by first | assumption | exact row_o (by first | assumption | exact sr1 (by assumption) | exact sr2 (by assumption) | exact sr3 (by assumption) | exact sr4 (by assumption) | exact sr5 (by assumption))) rfl dX4_add_6 ?_
    refine x_alenI hM (by first | assumption | exact row_c (by first | assumption | exact sr1 (by assumption) | exact sr2 (by assumption) | exact sr3 (by assumption) | exact sr4 (by assumption) | exact sr5 (by assumption))) dX4_add_9 ?_
    refine x_icmp_ge (tgt := 23) hM dX4_add_10 (by decide) (by omega) (by omega) (fun c_10 => ?_) (fun c_10 => ?_)
    · exfalso; omega
    · refine x_aload_n hM dX4_add_13 rfl rfl ?_
      refine x_get hM wf_X4_13 wl_X4 (by first | assumption | exact row_o (by first | assumption | exact sr1 (by assumption) | exact sr2 (by assumption) | exact sr3 (by assumption) | exact sr4 (by assumption) | exact sr5 (by assumption))) rfl dX4_add_14 ?_
      refine x_iload_n hM dX4_add_17 rfl rfl ?_
      refine x_dup2 hM dX4_add_18 rfl rfl ?_
      refine x_iald hM (by first | assumption | exact row_c (by first | assumption | exact sr1 (by assumption) | exact sr2 (by assumption) | exact sr3 (by assumption) | exact sr4 (by assumption) | exact sr5 (by assumption))) (by omega) dX4_add_19 ?_
      refine x_iload_n hM dX4_add_20 rfl rfl ?_
      refine x_iadd hM dX4_add_21 ?_
      refine x_iast hM (by first | assumption | exact row_c (by first | assumption | exact sr1 (by assumption) | exact sr2 (by assumption) | exact sr3 (by assumption) | exact sr4 (by assumption) | exact sr5 (by assumption))) (by omega) dX4_add_22 ?_
      refine hR.v dX4_add_23 (Nat.zero_le _) (Nat.zero_le _) ?_
      exact p_qV rfl
theorem m_X4_clear {l : Launch} {G : xG} {w : Wd} {z h n : Nat} {f : Int → Int} (h1 : rowA G w h n f) (hn : n ≤ 2147483647) : xMet l G yX4_clear cX4_clear 2 none ({ frames := 0, cells := 0, slots := 0, locals := 0 } : Room) [.ref h] w z (qV z fun w1 => ∃ g : Int → Int, (∀ j : Int, 0 ≤ j → j < n → g j = 0) ∧ w1 = wS w (h + 1) (aI G n g)) := by
  refine xMet_of RX4 rfl (by decide +kernel) false (by decide +kernel) (Nat.le_of_ble_eq_true rfl) rfl ?_
  intro P hM hR
  have K : ∀ (k i : Nat) (g : Int → Int), n - i < k → i ≤ n → (∀ j : Int, 0 ≤ j → j < i → g j = 0) → P 2 [some (.ref h), some (.int (iI i))] [] (wS w (h + 1) (aI G n g)) (z, 0, 0) := by
    intro k
    induction k with
    | zero => intro i g hk; omega
    | succ k ih =>
      intro i g hk hi hg
      have h2 := h1.up (g := g)
      refine x_iload_n hM dX4_clear_2 rfl rfl ?_
      refine x_aload_n hM dX4_clear_3 rfl rfl ?_
      refine x_get hM wf_X4_13 wl_X4 (by first | assumption | exact row_o (by first | assumption | exact sr1 (by assumption) | exact sr2 (by assumption) | exact sr3 (by assumption) | exact sr4 (by assumption) | exact sr5 (by assumption))) rfl dX4_clear_4 ?_
      refine x_alenI hM (by first | assumption | exact row_c (by first | assumption | exact sr1 (by assumption) | exact sr2 (by assumption) | exact sr3 (by assumption) | exact sr4 (by assumption) | exact sr5 (by assumption))) dX4_clear_7 ?_
      refine x_icmp_ge (tgt := 24) hM dX4_clear_8 (by decide) (by omega) (by omega) (fun c_8 => ?_) (fun c_8 => ?_)
      · refine hR.v dX4_clear_24 (Nat.zero_le _) (Nat.zero_le _) ?_
        exact p_qV ⟨g, fun j a b => hg j a (by omega), rfl⟩
      · refine x_aload_n hM dX4_clear_11 rfl rfl ?_
        refine x_get hM wf_X4_13 wl_X4 (by first | assumption | exact row_o (by first | assumption | exact sr1 (by assumption) | exact sr2 (by assumption) | exact sr3 (by assumption) | exact sr4 (by assumption) | exact sr5 (by assumption))) rfl dX4_clear_12 ?_
        refine x_iload_n hM dX4_clear_15 rfl rfl ?_
        refine x_iconst hM dX4_clear_16 ?_
        refine x_iast hM (by first | assumption | exact row_c (by first | assumption | exact sr1 (by assumption) | exact sr2 (by assumption) | exact sr3 (by assumption) | exact sr4 (by assumption) | exact sr5 (by assumption))) (by omega) dX4_clear_17 ?_
        refine x_iinc hM dX4_clear_18 rfl rfl rfl ?_
        refine x_goto (tgt := 2) hM dX4_clear_21 (by decide) ?_
        rw [wS_2]
        exact ih (i + 1) _ (by omega) (by omega) (fun j a b => (Decidable.em (j = i)).elim (fun e => by rw [e, fU_eq]) (fun e => by rw [fU_ne e]; exact hg j a (by omega)))
  refine x_iconst hM dX4_clear_0 ?_
  refine x_istore_n hM dX4_clear_1 rfl rfl (Nat.le_of_ble_eq_true rfl) rfl ?_
  have q := K (n + 1) 0 f (by omega) (by omega) (fun j a b => by omega)
  rw [wS_same h1.2] at q
  exact q
def sumF (f : Int → Int) : Nat → Int
  | 0 => 0
  | n + 1 => sumF f n + f n
theorem m_X4_sum {l : Launch} {G : xG} {w : Wd} {z h n : Nat} {f : Int → Int} (h1 : rowA G w h n f) (hn : n ≤ 2147483647) : xMet l G yX4_sum cX4_sum 3 (some .int) ({ frames := 0, cells := 0, slots := 0, locals := 0 } : Room) [.ref h] w z (rI (sumF f n) w z) := by
  refine xMet_of RX4 rfl (by decide +kernel) false (by decide +kernel) (Nat.le_of_ble_eq_true rfl) rfl ?_
  intro P hM hR
  have K : ∀ (k i : Nat), n - i < k → i ≤ n → P 4 [some (.ref h), some (.int (iI (sumF f i))), some (.int (iI i))] [] w (z, 0, 0) := by
    intro k
    induction k with
    | zero => intro i hk; omega
    | succ k ih =>
      intro i hk hi
      refine x_iload_n hM dX4_sum_4 rfl rfl ?_
      refine x_aload_n hM dX4_sum_5 rfl rfl ?_
      refine x_get hM wf_X4_13 wl_X4 (by first | assumption | exact row_o (by first | assumption | exact sr1 (by assumption) | exact sr2 (by assumption) | exact sr3 (by assumption) | exact sr4 (by assumption) | exact sr5 (by assumption))) rfl dX4_sum_6 ?_
      refine x_alenI hM (by first | assumption | exact row_c (by first | assumption | exact sr1 (by assumption) | exact sr2 (by assumption) | exact sr3 (by assumption) | exact sr4 (by assumption) | exact sr5 (by assumption))) dX4_sum_9 ?_
      refine x_icmp_ge (tgt := 28) hM dX4_sum_10 (by decide) (by omega) (by omega) (fun c_10 => ?_) (fun c_10 => ?_)
      · refine x_iload_n hM dX4_sum_28 rfl rfl ?_
        refine hR.i dX4_sum_29 (Nat.zero_le _) (Nat.zero_le _) ?_
        exact p_rI (by rw [show i = n by omega])
      · refine x_iload_n hM dX4_sum_13 rfl rfl ?_
        refine x_aload_n hM dX4_sum_14 rfl rfl ?_
        refine x_get hM wf_X4_13 wl_X4 (by first | assumption | exact row_o (by first | assumption | exact sr1 (by assumption) | exact sr2 (by assumption) | exact sr3 (by assumption) | exact sr4 (by assumption) | exact sr5 (by assumption))) rfl dX4_sum_15 ?_
        refine x_iload_n hM dX4_sum_18 rfl rfl ?_
        refine x_iald hM (by first | assumption | exact row_c (by first | assumption | exact sr1 (by assumption) | exact sr2 (by assumption) | exact sr3 (by assumption) | exact sr4 (by assumption) | exact sr5 (by assumption))) (by omega) dX4_sum_19 ?_
        refine x_iadd hM dX4_sum_20 ?_
        refine x_istore_n hM dX4_sum_21 rfl rfl (Nat.le_of_ble_eq_true rfl) rfl ?_
        refine x_iinc hM dX4_sum_22 rfl rfl rfl ?_
        refine x_goto (tgt := 4) hM dX4_sum_25 (by decide) ?_
        exact ih (i + 1) (by omega) (by omega)
  refine x_iconst hM dX4_sum_0 ?_
  refine x_istore_n hM dX4_sum_1 rfl rfl (Nat.le_of_ble_eq_true rfl) rfl ?_
  refine x_iconst hM dX4_sum_2 ?_
  refine x_istore_n hM dX4_sum_3 rfl rfl (Nat.le_of_ble_eq_true rfl) rfl ?_
  exact K (n + 1) 0 (by omega) (by omega)
theorem m_X4_copy {l : Launch} {G : xG} {w : Wd} {z h h2 n : Nat} {f g : Int → Int} (h1 : rowA G w h n f) (h3 : rowA G w h2 n g) (hn : n ≤ 2147483647) : xMet l G yX4_copy cX4_copy 2 none ({ frames := 1, cells := 0, slots := 0, locals := 35 } : Room) [.ref h, .ref h2] w z (qV z fun w1 => w1 = wS w (h + 1) (aI G n (fC g f n))) := by
  refine xMet_of RX4 rfl (by decide +kernel) false (by decide +kernel) (Nat.le_of_ble_eq_true rfl) rfl ?_
  intro P hM hR
  refine x_aload_n hM dX4_copy_0 rfl rfl ?_
  refine x_get hM wf_X4_13 wl_X4 (by first | assumption | exact row_o (by first | assumption | exact sr1 (by assumption) | exact sr2 (by assumption) | exact sr3 (by assumption) | exact sr4 (by assumption) | exact sr5 (by assumption))) rfl dX4_copy_1 ?_
  refine x_iconst hM dX4_copy_4 ?_
  refine x_aload_n hM dX4_copy_5 rfl rfl ?_
  refine x_get hM wf_X4_13 wl_X4 (by first | assumption | exact row_o (by first | assumption | exact sr1 (by assumption) | exact sr2 (by assumption) | exact sr3 (by assumption) | exact sr4 (by assumption) | exact sr5 (by assumption))) rfl dX4_copy_6 ?_
  refine x_iconst hM dX4_copy_9 ?_
  refine x_aload_n hM dX4_copy_10 rfl rfl ?_
  refine x_get hM wf_X4_13 wl_X4 (by first | assumption | exact row_o (by first | assumption | exact sr1 (by assumption) | exact sr2 (by assumption) | exact sr3 (by assumption) | exact sr4 (by assumption) | exact sr5 (by assumption))) rfl dX4_copy_11 ?_
  refine x_alenI hM (by first | assumption | exact row_c (by first | assumption | exact sr1 (by assumption) | exact sr2 (by assumption) | exact sr3 (by assumption) | exact sr4 (by assumption) | exact sr5 (by assumption))) dX4_copy_14 ?_
  refine x_aload_n hM dX4_copy_15 rfl rfl ?_
  refine x_get hM wf_X4_13 wl_X4 (by first | assumption | exact row_o (by first | assumption | exact sr1 (by assumption) | exact sr2 (by assumption) | exact sr3 (by assumption) | exact sr4 (by assumption) | exact sr5 (by assumption))) rfl dX4_copy_16 ?_
  refine x_alenI hM (by first | assumption | exact row_c (by first | assumption | exact sr1 (by assumption) | exact sr2 (by assumption) | exact sr3 (by assumption) | exact sr4 (by assumption) | exact sr5 (by assumption))) dX4_copy_19 ?_
  refine x_min hM wm_X4_19 (by omega) (by omega) (Nat.le_of_ble_eq_true rfl) (Nat.le_of_ble_eq_true rfl) ⟨Nat.le_of_ble_eq_true rfl, Nat.le_of_ble_eq_true rfl⟩ dX4_copy_20 ?_
  rw [if_neg (Int.lt_irrefl _)]
  refine x_copyI hM wa_X4_22 h3.2 h1.2 (by omega) (by omega) (by omega) (Nat.le_of_ble_eq_true rfl) (by decide +kernel) dX4_copy_23 ?_
  refine hR.v dX4_copy_26 (Nat.zero_le _) (Nat.zero_le _) ?_
  exact p_qV rfl
theorem m_X4_init {l : Launch} {G : xG} {w : Wd} {h N : Nat} {x : Int} (h1 : w h = some (.inr (4, [.null]))) (hx : 0 ≤ x) (hxN : x.toNat = N) (hN : N ≤ 100000) : xMet l G yX4_init cX4_init 2 none ({ frames := 1, cells := 1, slots := N, locals := 21 } : Room) [.ref h, .int (iI x)] w (h + 1) (aV fun w1 z1 => z1 = h + 2 ∧ rowA G w1 h N (fun _ => 0) ∧ Fr h (h + 2) w w1) := by
  refine xMet_of RX4 rfl (by decide +kernel) true (by decide +kernel) (Nat.le_of_ble_eq_true rfl) rfl ?_
  intro P hM hR
  refine x_aload_n hM dX4_init_0 rfl rfl ?_
  refine x_objInit hM wo_X4_1 (Nat.le_of_ble_eq_true rfl) (Nat.le_of_ble_eq_true rfl) dX4_init_1 ?_
  refine x_aload_n hM dX4_init_4 rfl rfl ?_
  refine x_iload_n hM dX4_init_5 rfl rfl ?_
  refine x_iconst hM dX4_init_6 ?_
  refine x_max hM wm_X4_7 (by omega) (by omega) (Nat.le_of_ble_eq_true rfl) (Nat.le_of_ble_eq_true rfl) ⟨Nat.le_of_ble_eq_true rfl, Nat.le_of_ble_eq_true rfl⟩ dX4_init_7 ?_
  rw [show (if x < 0 then (0 : Int) else x) = x by rw [if_neg (by omega)]]
  refine x_newI  hM wy_int hx hxN hN (Nat.le_refl _) (Nat.le_of_eq (Nat.zero_add _)) dX4_init_10 ?_
  refine x_putF hM wl_X4 ((wS_ne (by omega)).trans h1) wp_X4_13 rfl rfl (Nat.le_of_ble_eq_true rfl) rfl dX4_init_12 ?_
  refine hR.v dX4_init_15 (Nat.le_refl _) (Nat.le_of_eq (Nat.zero_add _)) ?_
  refine ⟨rfl, rfl, ⟨wS_eq, (wS_ne (by omega)).trans wS_eq⟩, (Fr.wS (by omega) (by omega)).tr (Fr.wS (by omega) (by omega))⟩
end
section
/-! Street -/
def strR (G : xG) (w : Wd) (a : Nat) (n : Int) (fo fs fl fr fm : Int → Int) : Prop :=
  w a = some (.inr (5, [.ref (a + 1), .ref (a + 3), .ref (a + 5), .ref (a + 7), .ref (a + 9), .int (iI n)])) ∧ rowA G w (a + 1) 42 fo ∧ rowA G w (a + 3) 42 fs ∧ rowA G w (a + 5) 42 fl ∧ rowA G w (a + 7) 10 fr ∧ rowA G w (a + 9) 10 fm
section SR
variable {G : xG} {w w1 : Wd} {a : Nat} {n m : Int} {fo fs fl fr fm g : Int → Int} {L : List Sg}
theorem str_o (h : strR G w a n fo fs fl fr fm) : w a = some (.inr (5, [.ref (a + 1), .ref (a + 3), .ref (a + 5), .ref (a + 7), .ref (a + 9), .int (iI n)])) := h.1
theorem sr1 (h : strR G w a n fo fs fl fr fm) : rowA G w (a + 1) 42 fo := h.2.1
theorem sr2 (h : strR G w a n fo fs fl fr fm) : rowA G w (a + 3) 42 fs := h.2.2.1
theorem sr3 (h : strR G w a n fo fs fl fr fm) : rowA G w (a + 5) 42 fl := h.2.2.2.1
theorem sr4 (h : strR G w a n fo fs fl fr fm) : rowA G w (a + 7) 10 fr := h.2.2.2.2.1
theorem sr5 (h : strR G w a n fo fs fl fr fm) : rowA G w (a + 9) 10 fm := h.2.2.2.2.2
theorem strR.kp {lo hi : Nat} (h : strR G w a n fo fs fl fr fm) (r : Fr lo hi w w1) (d : a + 11 ≤ lo ∨ hi ≤ a) : strR G w1 a n fo fs fl fr fm :=
  ⟨(r a (by omega)).trans h.1, h.2.1.kp r (by omega), h.2.2.1.kp r (by omega), h.2.2.2.1.kp r (by omega), h.2.2.2.2.1.kp r (by omega), h.2.2.2.2.2.kp r (by omega)⟩
theorem rowA.wS {h k q : Nat} {e : va_E} {f : Int → Int} (x : rowA G w h k f) (d : q ≠ h ∧ q ≠ h + 1) : rowA G (wS w q e) h k f := ⟨(wS_ne (Ne.symm d.1)).trans x.1, (wS_ne (Ne.symm d.2)).trans x.2⟩
theorem strR.u1 (h : strR G w a n fo fs fl fr fm) : strR G (wS w (a + 1 + 1) (aI G 42 g)) a n g fs fl fr fm :=
  ⟨(wS_ne (by omega)).trans h.1, h.2.1.up, h.2.2.1.wS (by omega), h.2.2.2.1.wS (by omega), h.2.2.2.2.1.wS (by omega), h.2.2.2.2.2.wS (by omega)⟩
theorem strR.u2 (h : strR G w a n fo fs fl fr fm) : strR G (wS w (a + 3 + 1) (aI G 42 g)) a n fo g fl fr fm :=
  ⟨(wS_ne (by omega)).trans h.1, h.2.1.wS (by omega), h.2.2.1.up, h.2.2.2.1.wS (by omega), h.2.2.2.2.1.wS (by omega), h.2.2.2.2.2.wS (by omega)⟩
theorem strR.u3 (h : strR G w a n fo fs fl fr fm) : strR G (wS w (a + 5 + 1) (aI G 42 g)) a n fo fs g fr fm :=
  ⟨(wS_ne (by omega)).trans h.1, h.2.1.wS (by omega), h.2.2.1.wS (by omega), h.2.2.2.1.up, h.2.2.2.2.1.wS (by omega), h.2.2.2.2.2.wS (by omega)⟩
theorem strR.u4 (h : strR G w a n fo fs fl fr fm) : strR G (wS w (a + 7 + 1) (aI G 10 g)) a n fo fs fl g fm :=
  ⟨(wS_ne (by omega)).trans h.1, h.2.1.wS (by omega), h.2.2.1.wS (by omega), h.2.2.2.1.wS (by omega), h.2.2.2.2.1.up, h.2.2.2.2.2.wS (by omega)⟩
theorem strR.u5 (h : strR G w a n fo fs fl fr fm) : strR G (wS w (a + 9 + 1) (aI G 10 g)) a n fo fs fl fr g :=
  ⟨(wS_ne (by omega)).trans h.1, h.2.1.wS (by omega), h.2.2.1.wS (by omega), h.2.2.2.1.wS (by omega), h.2.2.2.2.1.wS (by omega), h.2.2.2.2.2.up⟩
theorem strR.u0 (h : strR G w a n fo fs fl fr fm) : strR G (wS w a (.inr (5, [.ref (a + 1), .ref (a + 3), .ref (a + 5), .ref (a + 7), .ref (a + 9), .int (iI m)]))) a m fo fs fl fr fm :=
  ⟨wS_eq, h.2.1.wS (by omega), h.2.2.1.wS (by omega), h.2.2.2.1.wS (by omega), h.2.2.2.2.1.wS (by omega), h.2.2.2.2.2.wS (by omega)⟩
/-- the rows hold the list -/
def strL (L : List Sg) (fo fs fl fr fm : Int → Int) : Prop := (∀ (i : Nat) (hi : i < L.length), fo i = L[i].1 ∧ fs i = L[i].2.1 ∧ fl i = L[i].2.2 - L[i].2.1) ∧ ∀ o : Int, 0 ≤ o → o < 10 → fr o = cntO L o ∧ fm o = mtsO L o
def strA (G : xG) (w : Wd) (a : Nat) (L : List Sg) : Prop := strW L ∧ ∃ fo fs fl fr fm : Int → Int, strR G w a L.length fo fs fl fr fm ∧ strL L fo fs fl fr fm
theorem strA.kp {lo hi : Nat} (h : strA G w a L) (r : Fr lo hi w w1) (d : a + 11 ≤ lo ∨ hi ≤ a) : strA G w1 a L := by
  obtain ⟨h1, fo, fs, fl, fr, fm, h2, h3⟩ := h
  exact ⟨h1, fo, fs, fl, fr, fm, h2.kp r d, h3⟩
theorem str_a (h : strA G w a L) : w a = some (.inr (5, [.ref (a + 1), .ref (a + 3), .ref (a + 5), .ref (a + 7), .ref (a + 9), .int (iI L.length)])) := by
  obtain ⟨h1, fo, fs, fl, fr, fm, h2, h3⟩ := h
  exact h2.1
end SR
theorem m_X5_hasRange {l : Launch} {G : xG} {w : Wd} {z a : Nat} {n r : Int} {fo fs fl fr fm : Int → Int} (h1 : strR G w a n fo fs fl fr fm) (hn : iR n) (hr : iR r) : xMet l G yX5_hasRange cX5_hasRange 2 (some .boolean) ({ frames := 0, cells := 0, slots := 0, locals := 0 } : Room) [.ref a, .int (iI r)] w z (rI (if 0 ≤ r ∧ r < n then 1 else 0) w z) := by
  refine xMet_of RX5 rfl (by decide +kernel) false (by decide +kernel) (Nat.le_of_ble_eq_true rfl) rfl ?_
  intro P hM hR
  refine x_iload_n hM dX5_hasRange_0 rfl rfl ?_
  refine x_if_lt (tgt := 16) hM dX5_hasRange_1 (by decide) (by omega) (fun c_1 => ?_) (fun c_1 => ?_)
  · refine x_iconst hM dX5_hasRange_16 ?_
    refine hR.b dX5_hasRange_17 rfl (Nat.zero_le _) (Nat.zero_le _) ?_
    exact p_rI (by first | rw [if_pos (by omega)] | rw [if_neg (by omega)])
  · refine x_iload_n hM dX5_hasRange_4 rfl rfl ?_
    refine x_aload_n hM dX5_hasRange_5 rfl rfl ?_
    refine x_get hM wf_X5_36 wl_X5 (by first | assumption | exact str_o (by assumption) | exact str_a (by assumption)) rfl dX5_hasRange_6 ?_
    refine x_icmp_ge (tgt := 16) hM dX5_hasRange_9 (by decide) (by omega) (by omega) (fun c_9 => ?_) (fun c_9 => ?_)
    · refine x_iconst hM dX5_hasRange_16 ?_
      refine hR.b dX5_hasRange_17 rfl (Nat.zero_le _) (Nat.zero_le _) ?_
      exact p_rI (by first | rw [if_pos (by omega)] | rw [if_neg (by omega)])
    · refine x_iconst hM dX5_hasRange_12 ?_
      refine x_goto (tgt := 17) hM dX5_hasRange_13 (by decide) ?_
      refine hR.b dX5_hasRange_17 rfl (Nat.zero_le _) (Nat.zero_le _) ?_
      exact p_rI (by first | rw [if_pos (by omega)] | rw [if_neg (by omega)])
theorem m_X5_endOf {l : Launch} {G : xG} {w : Wd} {z a : Nat} {n i : Int} {fo fs fl fr fm : Int → Int} (h1 : strR G w a n fo fs fl fr fm) (hi : 0 ≤ i ∧ i < 42) : xMet l G yX5_endOf cX5_endOf 2 (some .int) ({ frames := 1, cells := 0, slots := 0, locals := 21 } : Room) [.ref a, .int (iI i)] w z (rI (fs i + fl i) w z) := by
  refine xMet_of RX5 rfl (by decide +kernel) false (by decide +kernel) (Nat.le_of_ble_eq_true rfl) rfl ?_
  intro P hM hR
  refine x_aload_n hM dX5_endOf_0 rfl rfl ?_
  refine x_get hM wf_X5_20 wl_X5 (by first | assumption | exact str_o (by assumption) | exact str_a (by assumption)) rfl dX5_endOf_1 ?_
  refine x_iload_n hM dX5_endOf_4 rfl rfl ?_
  refine x_callV hM wv_X5_43 (m_X4_at (by first | assumption | exact sr1 (by assumption) | exact sr2 (by assumption) | exact sr3 (by assumption) | exact sr4 (by assumption) | exact sr5 (by assumption)) (by omega)) ⟨Nat.le_of_ble_eq_true rfl, Nat.le_of_ble_eq_true rfl⟩ (by first | assumption | exact row_o (by first | assumption | exact sr1 (by assumption) | exact sr2 (by assumption) | exact sr3 (by assumption) | exact sr4 (by assumption) | exact sr5 (by assumption))) rfl rfl rfl rfl (Nat.le_of_ble_eq_true rfl) ⟨Nat.le_of_ble_eq_true rfl, Nat.le_of_ble_eq_true rfl⟩ dX5_endOf_5 (k_rI ?_)
  refine x_aload_n hM dX5_endOf_8 rfl rfl ?_
  refine x_get hM wf_X5_23 wl_X5 (by first | assumption | exact str_o (by assumption) | exact str_a (by assumption)) rfl dX5_endOf_9 ?_
  refine x_iload_n hM dX5_endOf_12 rfl rfl ?_
  refine x_callV hM wv_X5_43 (m_X4_at (by first | assumption | exact sr1 (by assumption) | exact sr2 (by assumption) | exact sr3 (by assumption) | exact sr4 (by assumption) | exact sr5 (by assumption)) (by omega)) ⟨Nat.le_of_ble_eq_true rfl, Nat.le_of_ble_eq_true rfl⟩ (by first | assumption | exact row_o (by first | assumption | exact sr1 (by assumption) | exact sr2 (by assumption) | exact sr3 (by assumption) | exact sr4 (by assumption) | exact sr5 (by assumption))) rfl rfl rfl rfl (Nat.le_of_ble_eq_true rfl) ⟨Nat.le_of_ble_eq_true rfl, Nat.le_of_ble_eq_true rfl⟩ dX5_endOf_13 (k_rI ?_)
  refine x_iadd hM dX5_endOf_16 ?_
  refine hR.i dX5_endOf_17 (Nat.zero_le _) (Nat.zero_le _) ?_
  exact p_rI rfl
theorem m_X5_metersOfAll {l : Launch} {G : xG} {w : Wd} {z a : Nat} {n : Int} {fo fs fl fr fm : Int → Int} (h1 : strR G w a n fo fs fl fr fm) : xMet l G yX5_metersOfAll cX5_metersOfAll 1 (some .int) ({ frames := 1, cells := 0, slots := 0, locals := 22 } : Room) [.ref a] w z (rI (sumF fm 10) w z) := by
  refine xMet_of RX5 rfl (by decide +kernel) false (by decide +kernel) (Nat.le_of_ble_eq_true rfl) rfl ?_
  intro P hM hR
  refine x_aload_n hM dX5_metersOfAll_0 rfl rfl ?_
  refine x_get hM wf_X5_29 wl_X5 (by first | assumption | exact str_o (by assumption) | exact str_a (by assumption)) rfl dX5_metersOfAll_1 ?_
  refine x_callV hM wv_X5_47 (m_X4_sum (by first | assumption | exact sr1 (by assumption) | exact sr2 (by assumption) | exact sr3 (by assumption) | exact sr4 (by assumption) | exact sr5 (by assumption)) (by omega)) ⟨Nat.le_of_ble_eq_true rfl, Nat.le_of_ble_eq_true rfl⟩ (by first | assumption | exact row_o (by first | assumption | exact sr1 (by assumption) | exact sr2 (by assumption) | exact sr3 (by assumption) | exact sr4 (by assumption) | exact sr5 (by assumption))) rfl rfl rfl rfl (Nat.le_of_ble_eq_true rfl) ⟨Nat.le_of_ble_eq_true rfl, Nat.le_of_ble_eq_true rfl⟩ dX5_metersOfAll_4 (k_rI ?_)
  refine hR.i dX5_metersOfAll_7 (Nat.zero_le _) (Nat.zero_le _) ?_
  exact p_rI rfl
theorem strL_push {L : List Sg} {fo fs fl fr fm g : Int → Int} {o f n : Int} (h : strL L fo fs fl fr fm) (hg : ∀ x : Int, 0 ≤ x → x < 10 → g x = if x = o then fm x + n else fm x) : strL (L ++ [(o, f, f + n)]) (fU fo L.length o) (fU fs L.length f) (fU fl L.length n) (fU fr o (fr o + 1)) g := by
  refine ⟨fun i hi => ?_, fun x x1 x2 => ?_⟩
  · by_cases hl : i < L.length
    · rw [List.getElem_append_left hl, fU_ne (by omega), fU_ne (by omega), fU_ne (by omega)]
      exact h.1 i hl
    · have e : i = L.length := by simp at hi; omega
      subst e
      rw [fU_eq, fU_eq, fU_eq, List.getElem_append_right (Nat.le_refl _)]
      simp
      omega
  · have h2 := h.2 x x1 x2
    rw [cntO_app, mtsO_app, hg x x1 x2]
    simp only [cntO, mtsO]
    by_cases e : x = o
    · subst e
      rw [fU_eq, if_pos rfl, if_pos rfl, if_pos rfl]
      omega
    · rw [fU_ne e, if_neg e, if_neg (Ne.symm e), if_neg (Ne.symm e)]
      omega
theorem strL_ext {L M : List Sg} {x : Sg} {fo fs fl fr fm g : Int → Int} {o n : Int} (h : strL L fo fs fl fr fm) (hM : L = M ++ [x]) (hx : x.1 = o) (hg : ∀ y : Int, 0 ≤ y → y < 10 → g y = if y = o then fm y + n else fm y) : strL (M ++ [(o, x.2.1, x.2.2 + n)]) fo fs (fU fl (L.length - 1) (fl (L.length - 1) + n)) fr g := by
  have hlen : L.length = M.length + 1 := by rw [hM]; simp
  have e1 : (L.length : Int) - 1 = (M.length : Nat) := by omega
  rw [e1]
  refine ⟨fun i hi => ?_, fun y y1 y2 => ?_⟩
  · have hi2 : i < M.length + 1 := by simpa using hi
    have h1 := h.1 i (by omega)
    by_cases hl : i < M.length
    · rw [List.getElem_append_left hl, fU_ne (by omega)]
      have e2 : L[i]'(by omega) = M[i] := by
        subst hM
        rw [List.getElem_append_left hl]
      rw [e2] at h1
      exact h1
    · have e : i = M.length := by omega
      subst e
      have e2 : L[M.length]'(by omega) = x := by
        subst hM
        rw [List.getElem_append_right (Nat.le_refl _)]
        simp
      rw [e2] at h1
      rw [fU_eq, List.getElem_append_right (Nat.le_refl _)]
      simp
      omega
  · have h2 := h.2 y y1 y2
    rw [hM, cntO_app, mtsO_app] at h2
    rw [cntO_app, mtsO_app, hg y y1 y2]
    simp only [cntO, mtsO] at h2 ⊢
    rw [hx] at h2
    by_cases e : y = o
    · subst e
      rw [if_pos rfl] at h2 ⊢
      rw [if_pos rfl] at h2 ⊢
      simp only [if_true] at h2 ⊢
      omega
    · rw [if_neg (Ne.symm e)] at h2 ⊢
      rw [if_neg (Ne.symm e)] at h2 ⊢
      rw [if_neg e]
      exact h2
theorem strL_last {L : List Sg} {x : Sg} {fo fs fl fr fm : Int → Int} (h : strL L fo fs fl fr fm) (hx : L.getLast? = some x) : L = L.dropLast ++ [x] ∧ 0 < L.length ∧ fo (L.length - 1) = x.1 ∧ fs (L.length - 1) = x.2.1 ∧ fl (L.length - 1) = x.2.2 - x.2.1 := by
  have hm : 0 < L.length := List.length_pos_of_mem (List.mem_of_getLast? hx)
  rw [List.getLast?_eq_getElem?] at hx
  obtain ⟨h1, h2⟩ := List.getElem?_eq_some_iff.mp hx
  have h3 := h.1 _ h1
  rw [h2, show ((L.length - 1 : Nat) : Int) = (L.length : Int) - 1 by omega] at h3
  refine ⟨?_, hm, h3⟩
  have h4 := List.dropLast_concat_getLast (List.ne_nil_of_length_pos hm)
  rw [List.getLast_eq_getElem, h2] at h4
  exact h4.symm
theorem m_X5_append {l : Launch} {G : xG} {w : Wd} {z a : Nat} {L : List Sg} {o f n : Int} (h1 : strA G w a L) (ho : iR o ∧ o < 10) (hb : iR n ∧ iR f ∧ (0 ≤ o → 0 < n → 0 ≤ f ∧ f + n ≤ 10000)) : xMet l G yX5_append cX5_append 5 none ({ frames := 1, cells := 0, slots := 0, locals := 22 } : Room) [.ref a, .int (iI o), .int (iI f), .int (iI n)] w z (qV z fun w1 => strA G w1 a (apF L o f n) ∧ Fr a (a + 11) w w1) := by
  obtain ⟨hW, fo, fs, fl, fr, fm, hs, hL⟩ := h1
  have hW1 := hW.1
  have hWn := apF_W hW ho.2 hb.2.2
  refine xMet_of RX5 rfl (by decide +kernel) false (by decide +kernel) (Nat.le_of_ble_eq_true rfl) rfl ?_
  intro P hM hR
  by_cases c0 : o < 0 ∨ n ≤ 0
  · have e0 : apF L o f n = L := if_pos c0
    refine x_iload_n hM dX5_append_0 rfl rfl ?_
    refine x_if_lt (tgt := 8) hM dX5_append_1 (by decide) (by omega) (fun c_1 => ?_) (fun c_1 => ?_)
    · refine hR.v dX5_append_8 (Nat.zero_le _) (Nat.zero_le _) ?_
      exact p_qV ⟨by rw [e0]; exact ⟨hW, fo, fs, fl, fr, fm, hs, hL⟩, Fr.rf⟩
    · refine x_iload_n hM dX5_append_4 rfl rfl ?_
      refine x_if_gt (tgt := 9) hM dX5_append_5 (by decide) (by omega) (fun c_5 => ?_) (fun c_5 => ?_)
      · exfalso; omega
      · refine hR.v dX5_append_8 (Nat.zero_le _) (Nat.zero_le _) ?_
        exact p_qV ⟨by rw [e0]; exact ⟨hW, fo, fs, fl, fr, fm, hs, hL⟩, Fr.rf⟩
  · obtain ⟨hb1, hb2⟩ := hb.2.2 (by omega) (by omega)
    have tail : ∀ (w1 : Wd) (fo1 fs1 fl1 fr1 : Int → Int) (ls : List (Option Value)), ls = [some (.ref a), some (.int (iI o)), some (.int (iI f)), some (.int (iI n)), some (.int (iI (L.length - 1)))] → strR G w1 a (apF L o f n).length fo1 fs1 fl1 fr1 fm → Fr a (a + 11) w w1 → (∀ g : Int → Int, (∀ x : Int, 0 ≤ x → x < 10 → g x = if x = o then fm x + n else fm x) → strL (apF L o f n) fo1 fs1 fl1 fr1 g) → P 141 ls [] w1 (z, 0, 0) := by
      intro w1 fo1 fs1 fl1 fr1 ls els hs1 hF hg
      subst els
      refine x_aload_n hM dX5_append_141 rfl rfl ?_
      refine x_get hM wf_X5_29 wl_X5 (by first | assumption | exact str_o (by assumption) | exact str_a (by assumption)) rfl dX5_append_142 ?_
      refine x_iload_n hM dX5_append_145 rfl rfl ?_
      refine x_iload_n hM dX5_append_146 rfl rfl ?_
      refine x_callV hM wv_X5_51 (m_X4_add (by first | assumption | exact sr1 (by assumption) | exact sr2 (by assumption) | exact sr3 (by assumption) | exact sr4 (by assumption) | exact sr5 (by assumption)) (by omega)) ⟨Nat.le_of_ble_eq_true rfl, Nat.le_of_ble_eq_true rfl⟩ (by first | assumption | exact row_o (by first | assumption | exact sr1 (by assumption) | exact sr2 (by assumption) | exact sr3 (by assumption) | exact sr4 (by assumption) | exact sr5 (by assumption))) rfl rfl rfl rfl (Nat.le_of_ble_eq_true rfl) ⟨Nat.le_of_ble_eq_true rfl, Nat.le_of_ble_eq_true rfl⟩ dX5_append_147 (k_qV fun w_147 q_147 => ?_)
      refine hR.v dX5_append_150 (Nat.zero_le _) (Nat.zero_le _) ?_
      subst q_147
      exact p_qV ⟨⟨hWn, fo1, fs1, fl1, fr1, _, hs1.u5, hg _ (fun x x1 x2 => by by_cases e : x = o <;> simp [fU, e])⟩, hF.tr (Fr.wS (by omega) (by omega))⟩
    have push : ∀ (he : apF L o f n = if L.length < 42 then L ++ [(o, f, f + n)] else L) (ls : List (Option Value)), ls = [some (.ref a), some (.int (iI o)), some (.int (iI f)), some (.int (iI n)), some (.int (iI (L.length - 1)))] → P 73 ls [] w (z, 0, 0) := by
      intro he ls els
      subst els
      refine x_aload_n hM dX5_append_73 rfl rfl ?_
      refine x_get hM wf_X5_36 wl_X5 (by first | assumption | exact str_o (by assumption) | exact str_a (by assumption)) rfl dX5_append_74 ?_
      refine x_bipush hM dX5_append_77 rfl ?_
      refine x_icmp_ge (tgt := 140) hM dX5_append_79 (by decide) (by omega) (by omega) (fun c_79 => ?_) (fun c_79 => ?_)
      · refine hR.v dX5_append_140 (Nat.zero_le _) (Nat.zero_le _) ?_
        exact p_qV ⟨by rw [he, if_neg (by omega)]; exact ⟨hW, fo, fs, fl, fr, fm, hs, hL⟩, Fr.rf⟩
      · refine x_aload_n hM dX5_append_82 rfl rfl ?_
        refine x_get hM wf_X5_14 wl_X5 (by first | assumption | exact str_o (by assumption) | exact str_a (by assumption)) rfl dX5_append_83 ?_
        refine x_aload_n hM dX5_append_86 rfl rfl ?_
        refine x_get hM wf_X5_36 wl_X5 (by first | assumption | exact str_o (by assumption) | exact str_a (by assumption)) rfl dX5_append_87 ?_
        refine x_iload_n hM dX5_append_90 rfl rfl ?_
        refine x_callV hM wv_X5_55 (m_X4_store (by first | assumption | exact sr1 (by assumption) | exact sr2 (by assumption) | exact sr3 (by assumption) | exact sr4 (by assumption) | exact sr5 (by assumption)) (by omega)) ⟨Nat.le_of_ble_eq_true rfl, Nat.le_of_ble_eq_true rfl⟩ (by first | assumption | exact row_o (by first | assumption | exact sr1 (by assumption) | exact sr2 (by assumption) | exact sr3 (by assumption) | exact sr4 (by assumption) | exact sr5 (by assumption))) rfl rfl rfl rfl (Nat.le_of_ble_eq_true rfl) ⟨Nat.le_of_ble_eq_true rfl, Nat.le_of_ble_eq_true rfl⟩ dX5_append_91 (k_qV fun w_91 q_91 => ?_)
        subst q_91
        have hs1 := hs.u1 (g := fU fo L.length o)
        refine x_aload_n hM dX5_append_94 rfl rfl ?_
        refine x_get hM wf_X5_20 wl_X5 (by first | assumption | exact str_o (by assumption) | exact str_a (by assumption)) rfl dX5_append_95 ?_
        refine x_aload_n hM dX5_append_98 rfl rfl ?_
        refine x_get hM wf_X5_36 wl_X5 (by first | assumption | exact str_o (by assumption) | exact str_a (by assumption)) rfl dX5_append_99 ?_
        refine x_iload_n hM dX5_append_102 rfl rfl ?_
        refine x_callV hM wv_X5_55 (m_X4_store (by first | assumption | exact sr1 (by assumption) | exact sr2 (by assumption) | exact sr3 (by assumption) | exact sr4 (by assumption) | exact sr5 (by assumption)) (by omega)) ⟨Nat.le_of_ble_eq_true rfl, Nat.le_of_ble_eq_true rfl⟩ (by first | assumption | exact row_o (by first | assumption | exact sr1 (by assumption) | exact sr2 (by assumption) | exact sr3 (by assumption) | exact sr4 (by assumption) | exact sr5 (by assumption))) rfl rfl rfl rfl (Nat.le_of_ble_eq_true rfl) ⟨Nat.le_of_ble_eq_true rfl, Nat.le_of_ble_eq_true rfl⟩ dX5_append_103 (k_qV fun w_103 q_103 => ?_)
        subst q_103
        have hs2 := hs1.u2 (g := fU fs L.length f)
        refine x_aload_n hM dX5_append_106 rfl rfl ?_
        refine x_get hM wf_X5_23 wl_X5 (by first | assumption | exact str_o (by assumption) | exact str_a (by assumption)) rfl dX5_append_107 ?_
        refine x_aload_n hM dX5_append_110 rfl rfl ?_
        refine x_get hM wf_X5_36 wl_X5 (by first | assumption | exact str_o (by assumption) | exact str_a (by assumption)) rfl dX5_append_111 ?_
        refine x_iload_n hM dX5_append_114 rfl rfl ?_
        refine x_callV hM wv_X5_55 (m_X4_store (by first | assumption | exact sr1 (by assumption) | exact sr2 (by assumption) | exact sr3 (by assumption) | exact sr4 (by assumption) | exact sr5 (by assumption)) (by omega)) ⟨Nat.le_of_ble_eq_true rfl, Nat.le_of_ble_eq_true rfl⟩ (by first | assumption | exact row_o (by first | assumption | exact sr1 (by assumption) | exact sr2 (by assumption) | exact sr3 (by assumption) | exact sr4 (by assumption) | exact sr5 (by assumption))) rfl rfl rfl rfl (Nat.le_of_ble_eq_true rfl) ⟨Nat.le_of_ble_eq_true rfl, Nat.le_of_ble_eq_true rfl⟩ dX5_append_115 (k_qV fun w_115 q_115 => ?_)
        subst q_115
        have hs3 := hs2.u3 (g := fU fl L.length n)
        refine x_aload_n hM dX5_append_118 rfl rfl ?_
        refine x_get hM wf_X5_26 wl_X5 (by first | assumption | exact str_o (by assumption) | exact str_a (by assumption)) rfl dX5_append_119 ?_
        refine x_iload_n hM dX5_append_122 rfl rfl ?_
        refine x_iconst hM dX5_append_123 ?_
        refine x_callV hM wv_X5_51 (m_X4_add (by first | assumption | exact sr1 (by assumption) | exact sr2 (by assumption) | exact sr3 (by assumption) | exact sr4 (by assumption) | exact sr5 (by assumption)) (by omega)) ⟨Nat.le_of_ble_eq_true rfl, Nat.le_of_ble_eq_true rfl⟩ (by first | assumption | exact row_o (by first | assumption | exact sr1 (by assumption) | exact sr2 (by assumption) | exact sr3 (by assumption) | exact sr4 (by assumption) | exact sr5 (by assumption))) rfl rfl rfl rfl (Nat.le_of_ble_eq_true rfl) ⟨Nat.le_of_ble_eq_true rfl, Nat.le_of_ble_eq_true rfl⟩ dX5_append_124 (k_qV fun w_124 q_124 => ?_)
        subst q_124
        have hs4 := hs3.u4 (g := fU fr o (fr o + 1))
        refine x_aload_n hM dX5_append_127 rfl rfl ?_
        refine x_dup hM dX5_append_128 rfl ?_
        refine x_get hM wf_X5_36 wl_X5 (by first | assumption | exact str_o (by assumption) | exact str_a (by assumption)) rfl dX5_append_129 ?_
        refine x_iconst hM dX5_append_132 ?_
        refine x_iadd hM dX5_append_133 ?_
        refine x_put hM wf_X5_36 wl_X5 (by first | assumption | exact str_o (by assumption) | exact str_a (by assumption)) wq_X5_36 rfl rfl (Nat.le_of_ble_eq_true rfl) rfl dX5_append_134 ?_
        have hs5 := hs4.u0 (m := L.length + 1)
        refine x_goto (tgt := 141) hM dX5_append_137 (by decide) ?_
        rw [if_pos (by omega)] at he
        refine tail _ _ _ _ _ _ rfl (by rw [he, List.length_append]; exact hs5) ((((Fr.wS (by omega) (by omega)).tr (Fr.wS (by omega) (by omega))).tr (Fr.wS (by omega) (by omega))).tr (Fr.wS (by omega) (by omega))|>.tr (Fr.wS (by omega) (by omega))) (fun g hg => ?_)
        rw [he]
        exact strL_push hL hg
    cases hx : L.getLast? with
    | none =>
      have hnil : L = [] := List.getLast?_eq_none_iff.mp hx
      have hl0 : L.length = 0 := by rw [hnil]; rfl
      refine x_iload_n hM dX5_append_0 rfl rfl ?_
      refine x_if_lt (tgt := 8) hM dX5_append_1 (by decide) (by omega) (fun c_1 => ?_) (fun c_1 => ?_)
      · exfalso; omega
      · refine x_iload_n hM dX5_append_4 rfl rfl ?_
        refine x_if_gt (tgt := 9) hM dX5_append_5 (by decide) (by omega) (fun c_5 => ?_) (fun c_5 => ?_)
        · refine x_aload_n hM dX5_append_9 rfl rfl ?_
          refine x_get hM wf_X5_36 wl_X5 (by first | assumption | exact str_o (by assumption) | exact str_a (by assumption)) rfl dX5_append_10 ?_
          refine x_iconst hM dX5_append_13 ?_
          refine x_isub hM dX5_append_14 ?_
          refine x_istore hM dX5_append_15 rfl (Nat.le_of_ble_eq_true rfl) rfl ?_
          refine x_aload_n hM dX5_append_17 rfl rfl ?_
          refine x_get hM wf_X5_36 wl_X5 (by first | assumption | exact str_o (by assumption) | exact str_a (by assumption)) rfl dX5_append_18 ?_
          refine x_if_le (tgt := 73) hM dX5_append_21 (by decide) (by omega) (fun c_21 => ?_) (fun c_21 => ?_)
          · exact push (by unfold apF; rw [if_neg c0, hx, if_pos (by omega)]) _ rfl
          · exfalso; omega
        · exfalso; omega
    | some x =>
      obtain ⟨hd, hpos, e1, e2, e3⟩ := strL_last hL hx
      have hok := hW.2 x (List.mem_of_getLast? hx)
      refine x_iload_n hM dX5_append_0 rfl rfl ?_
      refine x_if_lt (tgt := 8) hM dX5_append_1 (by decide) (by omega) (fun c_1 => ?_) (fun c_1 => ?_)
      · exfalso; omega
      · refine x_iload_n hM dX5_append_4 rfl rfl ?_
        refine x_if_gt (tgt := 9) hM dX5_append_5 (by decide) (by omega) (fun c_5 => ?_) (fun c_5 => ?_)
        · refine x_aload_n hM dX5_append_9 rfl rfl ?_
          refine x_get hM wf_X5_36 wl_X5 (by first | assumption | exact str_o (by assumption) | exact str_a (by assumption)) rfl dX5_append_10 ?_
          refine x_iconst hM dX5_append_13 ?_
          refine x_isub hM dX5_append_14 ?_
          refine x_istore hM dX5_append_15 rfl (Nat.le_of_ble_eq_true rfl) rfl ?_
          refine x_aload_n hM dX5_append_17 rfl rfl ?_
          refine x_get hM wf_X5_36 wl_X5 (by first | assumption | exact str_o (by assumption) | exact str_a (by assumption)) rfl dX5_append_18 ?_
          refine x_if_le (tgt := 73) hM dX5_append_21 (by decide) (by omega) (fun c_21 => ?_) (fun c_21 => ?_)
          · exfalso; omega
          · refine x_aload_n hM dX5_append_24 rfl rfl ?_
            refine x_get hM wf_X5_14 wl_X5 (by first | assumption | exact str_o (by assumption) | exact str_a (by assumption)) rfl dX5_append_25 ?_
            refine x_iload hM dX5_append_28 rfl ?_
            refine x_callV hM wv_X5_43 (m_X4_at (by first | assumption | exact sr1 (by assumption) | exact sr2 (by assumption) | exact sr3 (by assumption) | exact sr4 (by assumption) | exact sr5 (by assumption)) (by omega)) ⟨Nat.le_of_ble_eq_true rfl, Nat.le_of_ble_eq_true rfl⟩ (by first | assumption | exact row_o (by first | assumption | exact sr1 (by assumption) | exact sr2 (by assumption) | exact sr3 (by assumption) | exact sr4 (by assumption) | exact sr5 (by assumption))) rfl rfl rfl rfl (Nat.le_of_ble_eq_true rfl) ⟨Nat.le_of_ble_eq_true rfl, Nat.le_of_ble_eq_true rfl⟩ dX5_append_30 (k_rI ?_)
            refine x_iload_n hM dX5_append_33 rfl rfl ?_
            refine x_icmp_ne (tgt := 73) hM dX5_append_34 (by decide) (by omega) (by omega) (fun c_34 => ?_) (fun c_34 => ?_)
            · exact push (by unfold apF; rw [if_neg c0, hx]; exact if_neg (by omega)) _ rfl
            · refine x_aload_n hM dX5_append_37 rfl rfl ?_
              refine x_get hM wf_X5_20 wl_X5 (by first | assumption | exact str_o (by assumption) | exact str_a (by assumption)) rfl dX5_append_38 ?_
              refine x_iload hM dX5_append_41 rfl ?_
              refine x_callV hM wv_X5_43 (m_X4_at (by first | assumption | exact sr1 (by assumption) | exact sr2 (by assumption) | exact sr3 (by assumption) | exact sr4 (by assumption) | exact sr5 (by assumption)) (by omega)) ⟨Nat.le_of_ble_eq_true rfl, Nat.le_of_ble_eq_true rfl⟩ (by first | assumption | exact row_o (by first | assumption | exact sr1 (by assumption) | exact sr2 (by assumption) | exact sr3 (by assumption) | exact sr4 (by assumption) | exact sr5 (by assumption))) rfl rfl rfl rfl (Nat.le_of_ble_eq_true rfl) ⟨Nat.le_of_ble_eq_true rfl, Nat.le_of_ble_eq_true rfl⟩ dX5_append_43 (k_rI ?_)
              refine x_aload_n hM dX5_append_46 rfl rfl ?_
              refine x_get hM wf_X5_23 wl_X5 (by first | assumption | exact str_o (by assumption) | exact str_a (by assumption)) rfl dX5_append_47 ?_
              refine x_iload hM dX5_append_50 rfl ?_
              refine x_callV hM wv_X5_43 (m_X4_at (by first | assumption | exact sr1 (by assumption) | exact sr2 (by assumption) | exact sr3 (by assumption) | exact sr4 (by assumption) | exact sr5 (by assumption)) (by omega)) ⟨Nat.le_of_ble_eq_true rfl, Nat.le_of_ble_eq_true rfl⟩ (by first | assumption | exact row_o (by first | assumption | exact sr1 (by assumption) | exact sr2 (by assumption) | exact sr3 (by assumption) | exact sr4 (by assumption) | exact sr5 (by assumption))) rfl rfl rfl rfl (Nat.le_of_ble_eq_true rfl) ⟨Nat.le_of_ble_eq_true rfl, Nat.le_of_ble_eq_true rfl⟩ dX5_append_52 (k_rI ?_)
              refine x_iadd hM dX5_append_55 ?_
              refine x_iload_n hM dX5_append_56 rfl rfl ?_
              refine x_icmp_ne (tgt := 73) hM dX5_append_57 (by decide) (by omega) (by omega) (fun c_57 => ?_) (fun c_57 => ?_)
              · exact push (by unfold apF; rw [if_neg c0, hx]; exact if_neg (by omega)) _ rfl
              · refine x_aload_n hM dX5_append_60 rfl rfl ?_
                refine x_get hM wf_X5_23 wl_X5 (by first | assumption | exact str_o (by assumption) | exact str_a (by assumption)) rfl dX5_append_61 ?_
                refine x_iload hM dX5_append_64 rfl ?_
                refine x_iload_n hM dX5_append_66 rfl rfl ?_
                refine x_callV hM wv_X5_51 (m_X4_add (by first | assumption | exact sr1 (by assumption) | exact sr2 (by assumption) | exact sr3 (by assumption) | exact sr4 (by assumption) | exact sr5 (by assumption)) (by omega)) ⟨Nat.le_of_ble_eq_true rfl, Nat.le_of_ble_eq_true rfl⟩ (by first | assumption | exact row_o (by first | assumption | exact sr1 (by assumption) | exact sr2 (by assumption) | exact sr3 (by assumption) | exact sr4 (by assumption) | exact sr5 (by assumption))) rfl rfl rfl rfl (Nat.le_of_ble_eq_true rfl) ⟨Nat.le_of_ble_eq_true rfl, Nat.le_of_ble_eq_true rfl⟩ dX5_append_67 (k_qV fun w_67 q_67 => ?_)
                subst q_67
                have hs1 := hs.u3 (g := fU fl (L.length - 1) (fl (L.length - 1) + n))
                have he : apF L o f n = L.dropLast ++ [(o, x.2.1, x.2.2 + n)] := by unfold apF; rw [if_neg c0, hx]; exact if_pos (by omega)
                have hlen : ((apF L o f n).length : Int) = L.length := by rw [he, List.length_append, List.length_dropLast]; simp; omega
                refine x_goto (tgt := 141) hM dX5_append_70 (by decide) ?_
                refine tail _ _ _ _ _ _ rfl (by rw [hlen]; exact hs1) (Fr.wS (by omega) (by omega)) (fun g hg => ?_)
                rw [he]
                exact strL_ext hL hd (by omega) hg
        · exfalso; omega
end
section
/-! Street: clear, become, becomeInherited, copy, remove -/
theorem m_X5_clear {l : Launch} {G : xG} {w : Wd} {z a : Nat} {T : List Sg} (h1 : strA G w a T) : xMet l G yX5_clear cX5_clear 1 none ({ frames := 1, cells := 0, slots := 0, locals := 21 } : Room) [.ref a] w z (qV z fun w1 => strA G w1 a [] ∧ Fr a (a + 11) w w1) := by
  obtain ⟨hW, fo, fs, fl, fr, fm, hs, hL⟩ := h1
  refine xMet_of RX5 rfl (by decide +kernel) false (by decide +kernel) (Nat.le_of_ble_eq_true rfl) rfl ?_
  intro P hM hR
  refine x_aload_n hM dX5_clear_0 rfl rfl ?_
  refine x_get hM wf_X5_26 wl_X5 (by first | assumption | exact str_o (by assumption) | exact str_a (by assumption)) rfl dX5_clear_1 ?_
  refine x_callV hM wv_X5_40 (m_X4_clear (by first | assumption | exact sr1 (by assumption) | exact sr2 (by assumption) | exact sr3 (by assumption) | exact sr4 (by assumption) | exact sr5 (by assumption)) (by omega)) ⟨Nat.le_of_ble_eq_true rfl, Nat.le_of_ble_eq_true rfl⟩ (by first | assumption | exact row_o (by first | assumption | exact sr1 (by assumption) | exact sr2 (by assumption) | exact sr3 (by assumption) | exact sr4 (by assumption) | exact sr5 (by assumption))) rfl rfl rfl rfl (Nat.le_of_ble_eq_true rfl) ⟨Nat.le_of_ble_eq_true rfl, Nat.le_of_ble_eq_true rfl⟩ dX5_clear_4 (k_qV fun w_4 q_4 => ?_)
  obtain ⟨g4, g4z, rfl⟩ := q_4
  have hs1 := hs.u4 (g := g4)
  refine x_aload_n hM dX5_clear_7 rfl rfl ?_
  refine x_get hM wf_X5_29 wl_X5 (by first | assumption | exact str_o (by assumption) | exact str_a (by assumption)) rfl dX5_clear_8 ?_
  refine x_callV hM wv_X5_40 (m_X4_clear (by first | assumption | exact sr1 (by assumption) | exact sr2 (by assumption) | exact sr3 (by assumption) | exact sr4 (by assumption) | exact sr5 (by assumption)) (by omega)) ⟨Nat.le_of_ble_eq_true rfl, Nat.le_of_ble_eq_true rfl⟩ (by first | assumption | exact row_o (by first | assumption | exact sr1 (by assumption) | exact sr2 (by assumption) | exact sr3 (by assumption) | exact sr4 (by assumption) | exact sr5 (by assumption))) rfl rfl rfl rfl (Nat.le_of_ble_eq_true rfl) ⟨Nat.le_of_ble_eq_true rfl, Nat.le_of_ble_eq_true rfl⟩ dX5_clear_11 (k_qV fun w_11 q_11 => ?_)
  obtain ⟨g5, g5z, rfl⟩ := q_11
  have hs2 := hs1.u5 (g := g5)
  refine x_aload_n hM dX5_clear_14 rfl rfl ?_
  refine x_iconst hM dX5_clear_15 ?_
  refine x_put hM wf_X5_36 wl_X5 (by first | assumption | exact str_o (by assumption) | exact str_a (by assumption)) wq_X5_36 rfl rfl (Nat.le_of_ble_eq_true rfl) rfl dX5_clear_16 ?_
  refine hR.v dX5_clear_19 (Nat.zero_le _) (Nat.zero_le _) ?_
  refine p_qV ⟨⟨strW_nil, _, _, _, _, _, hs2.u0 (m := 0), fun i hi => absurd hi (Nat.not_lt_zero _), fun o o1 o2 => ⟨g4z o o1 o2, g5z o o1 o2⟩⟩, ((Fr.wS (by omega) (by omega)).tr (Fr.wS (by omega) (by omega))).tr (Fr.wS (by omega) (by omega))⟩
theorem drop_map {α β : Type} (f : α → β) (M : List α) {i : Nat} (h : i < M.length) : (M.drop i).map f = f M[i] :: (M.drop (i + 1)).map f := by
  rw [List.drop_eq_getElem_cons h]; rfl
theorem m_X5_become {l : Launch} {G : xG} {w : Wd} {z a b : Nat} {T0 M : List Sg} {o f n : Int} (h1 : strA G w a T0) (h2 : strA G w b M) (hd : a + 11 ≤ b ∨ b + 11 ≤ a) (ho : iR o ∧ o < 10) (hp : 0 ≤ f ∧ 0 < n ∧ f + n ≤ 10000) : xMet l G yX5_become cX5_become 8 none ({ frames := 2, cells := 0, slots := 0, locals := 46 } : Room) [.ref a, .ref b, .int (iI o), .int (iI f), .int (iI n)] w z (qV z fun w1 => strA G w1 a (becF M o f n) ∧ Fr a (a + 11) w w1) := by
  obtain ⟨hW, go, gs, gl, gr, gm, hs, hL⟩ := h2
  have hW1 := hW.1
  refine xMet_of RX5 rfl (by decide +kernel) false (by decide +kernel) (Nat.le_of_ble_eq_true rfl) rfl ?_
  intro P hM hR
  have K2 : ∀ (k i : Nat) (T : List Sg) (w1 : Wd) (x7 : Option Value), M.length - i < k → i ≤ M.length → strA G w1 a T → Fr a (a + 11) w w1 → apL T ((M.drop i).map (rigP (f + n))) = becF M o f n → P 81 [some (.ref a), some (.ref b), some (.int (iI o)), some (.int (iI f)), some (.int (iI n)), some (.int (iI (f + n))), some (.int (iI i)), x7] [] w1 (z, 0, 0) := by
    intro k
    induction k with
    | zero => intro i T w1 x7 hk; omega
    | succ k ih =>
      intro i T w1 x7 hk hi hT hF hinv
      have hs1 := hs.kp hF (by omega)
      by_cases hlt : i < M.length
      · have hok := strW_at hW hlt
        obtain ⟨e1, e2, e3⟩ := hL.1 i hlt
        have e4 : gs i + gl i = M[i].2.2 := by omega
        refine x_iload hM dX5_become_81 rfl ?_
        refine x_aload_n hM dX5_become_83 rfl rfl ?_
        refine x_get hM wf_X5_36 wl_X5 (by first | assumption | exact str_o (by assumption) | exact str_a (by assumption)) rfl dX5_become_84 ?_
        refine x_icmp_ge (tgt := 136) hM dX5_become_87 (by decide) (by omega) (by omega) (fun c_87 => ?_) (fun c_87 => ?_)
        · exfalso; omega
        · refine x_aload_n hM dX5_become_90 rfl rfl ?_
          refine x_get hM wf_X5_20 wl_X5 (by first | assumption | exact str_o (by assumption) | exact str_a (by assumption)) rfl dX5_become_91 ?_
          refine x_iload hM dX5_become_94 rfl ?_
          refine x_callV hM wv_X5_43 (m_X4_at (by first | assumption | exact sr1 (by assumption) | exact sr2 (by assumption) | exact sr3 (by assumption) | exact sr4 (by assumption) | exact sr5 (by assumption)) (by omega)) ⟨Nat.le_of_ble_eq_true rfl, Nat.le_of_ble_eq_true rfl⟩ (by first | assumption | exact row_o (by first | assumption | exact sr1 (by assumption) | exact sr2 (by assumption) | exact sr3 (by assumption) | exact sr4 (by assumption) | exact sr5 (by assumption))) rfl rfl rfl rfl (Nat.le_of_ble_eq_true rfl) ⟨Nat.le_of_ble_eq_true rfl, Nat.le_of_ble_eq_true rfl⟩ dX5_become_96 (k_rI ?_)
          refine x_iload hM dX5_become_99 rfl ?_
          refine x_max hM wm_X5_72 (by omega) (by omega) (Nat.le_of_ble_eq_true rfl) (Nat.le_of_ble_eq_true rfl) ⟨Nat.le_of_ble_eq_true rfl, Nat.le_of_ble_eq_true rfl⟩ dX5_become_101 ?_
          refine x_istore hM dX5_become_104 rfl (Nat.le_of_ble_eq_true rfl) rfl ?_
          refine x_aload_n hM dX5_become_106 rfl rfl ?_
          refine x_aload_n hM dX5_become_107 rfl rfl ?_
          refine x_get hM wf_X5_14 wl_X5 (by first | assumption | exact str_o (by assumption) | exact str_a (by assumption)) rfl dX5_become_108 ?_
          refine x_iload hM dX5_become_111 rfl ?_
          refine x_callV hM wv_X5_43 (m_X4_at (by first | assumption | exact sr1 (by assumption) | exact sr2 (by assumption) | exact sr3 (by assumption) | exact sr4 (by assumption) | exact sr5 (by assumption)) (by omega)) ⟨Nat.le_of_ble_eq_true rfl, Nat.le_of_ble_eq_true rfl⟩ (by first | assumption | exact row_o (by first | assumption | exact sr1 (by assumption) | exact sr2 (by assumption) | exact sr3 (by assumption) | exact sr4 (by assumption) | exact sr5 (by assumption))) rfl rfl rfl rfl (Nat.le_of_ble_eq_true rfl) ⟨Nat.le_of_ble_eq_true rfl, Nat.le_of_ble_eq_true rfl⟩ dX5_become_113 (k_rI ?_)
          refine x_iload hM dX5_become_116 rfl ?_
          refine x_aload_n hM dX5_become_118 rfl rfl ?_
          refine x_iload hM dX5_become_119 rfl ?_
          refine x_callV hM wv_X5_59 (m_X5_endOf (by assumption) (by omega)) ⟨Nat.le_of_ble_eq_true rfl, Nat.le_of_ble_eq_true rfl⟩ (by first | assumption | exact str_o (by assumption) | exact str_a (by assumption)) rfl rfl rfl rfl (Nat.le_of_ble_eq_true rfl) ⟨Nat.le_of_ble_eq_true rfl, Nat.le_of_ble_eq_true rfl⟩ dX5_become_121 (k_rI ?_)
          refine x_iload hM dX5_become_124 rfl ?_
          refine x_isub hM dX5_become_126 ?_
          rw [e4, e1, e2]
          refine x_callV hM wv_X5_68 (m_X5_append (by assumption) (by omega) (by omega)) ⟨Nat.le_of_ble_eq_true rfl, Nat.le_of_ble_eq_true rfl⟩ (by first | assumption | exact str_o (by assumption) | exact str_a (by assumption)) rfl rfl rfl rfl (Nat.le_of_ble_eq_true rfl) ⟨Nat.le_of_ble_eq_true rfl, Nat.le_of_ble_eq_true rfl⟩ dX5_become_127 (k_qV fun w_127 q_127 => ?_)
          obtain ⟨qa, qf⟩ := q_127
          rw [drop_map _ _ hlt] at hinv
          refine x_iinc hM dX5_become_130 rfl rfl rfl ?_
          refine x_goto (tgt := 81) hM dX5_become_133 (by decide) ?_
          exact ih (i + 1) _ _ _ (by omega) (by omega) qa (hF.tr qf) hinv
      · have hil : i = M.length := by omega
        refine x_iload hM dX5_become_81 rfl ?_
        refine x_aload_n hM dX5_become_83 rfl rfl ?_
        refine x_get hM wf_X5_36 wl_X5 (by first | assumption | exact str_o (by assumption) | exact str_a (by assumption)) rfl dX5_become_84 ?_
        refine x_icmp_ge (tgt := 136) hM dX5_become_87 (by decide) (by omega) (by omega) (fun c_87 => ?_) (fun c_87 => ?_)
        · refine hR.v dX5_become_136 (Nat.zero_le _) (Nat.zero_le _) ?_
          rw [hil, List.drop_length] at hinv
          exact p_qV ⟨by rw [← hinv]; exact hT, hF⟩
        · exfalso; omega
  have K1 : ∀ (k i : Nat) (T : List Sg) (w1 : Wd), M.length - i < k → i ≤ M.length → strA G w1 a T → Fr a (a + 11) w w1 → apL T ((M.drop i).map (lefP f)) = apL [] (M.map (lefP f)) → P 13 [some (.ref a), some (.ref b), some (.int (iI o)), some (.int (iI f)), some (.int (iI n)), some (.int (iI (f + n))), some (.int (iI i)), none] [] w1 (z, 0, 0) := by
    intro k
    induction k with
    | zero => intro i T w1 hk; omega
    | succ k ih =>
      intro i T w1 hk hi hT hF hinv
      have hs1 := hs.kp hF (by omega)
      by_cases hlt : i < M.length
      · have hok := strW_at hW hlt
        obtain ⟨e1, e2, e3⟩ := hL.1 i hlt
        have e4 : gs i + gl i = M[i].2.2 := by omega
        refine x_iload hM dX5_become_13 rfl ?_
        refine x_aload_n hM dX5_become_15 rfl rfl ?_
        refine x_get hM wf_X5_36 wl_X5 (by first | assumption | exact str_o (by assumption) | exact str_a (by assumption)) rfl dX5_become_16 ?_
        refine x_icmp_ge (tgt := 70) hM dX5_become_19 (by decide) (by omega) (by omega) (fun c_19 => ?_) (fun c_19 => ?_)
        · exfalso; omega
        · refine x_aload_n hM dX5_become_22 rfl rfl ?_
          refine x_aload_n hM dX5_become_23 rfl rfl ?_
          refine x_get hM wf_X5_14 wl_X5 (by first | assumption | exact str_o (by assumption) | exact str_a (by assumption)) rfl dX5_become_24 ?_
          refine x_iload hM dX5_become_27 rfl ?_
          refine x_callV hM wv_X5_43 (m_X4_at (by first | assumption | exact sr1 (by assumption) | exact sr2 (by assumption) | exact sr3 (by assumption) | exact sr4 (by assumption) | exact sr5 (by assumption)) (by omega)) ⟨Nat.le_of_ble_eq_true rfl, Nat.le_of_ble_eq_true rfl⟩ (by first | assumption | exact row_o (by first | assumption | exact sr1 (by assumption) | exact sr2 (by assumption) | exact sr3 (by assumption) | exact sr4 (by assumption) | exact sr5 (by assumption))) rfl rfl rfl rfl (Nat.le_of_ble_eq_true rfl) ⟨Nat.le_of_ble_eq_true rfl, Nat.le_of_ble_eq_true rfl⟩ dX5_become_29 (k_rI ?_)
          refine x_aload_n hM dX5_become_32 rfl rfl ?_
          refine x_get hM wf_X5_20 wl_X5 (by first | assumption | exact str_o (by assumption) | exact str_a (by assumption)) rfl dX5_become_33 ?_
          refine x_iload hM dX5_become_36 rfl ?_
          refine x_callV hM wv_X5_43 (m_X4_at (by first | assumption | exact sr1 (by assumption) | exact sr2 (by assumption) | exact sr3 (by assumption) | exact sr4 (by assumption) | exact sr5 (by assumption)) (by omega)) ⟨Nat.le_of_ble_eq_true rfl, Nat.le_of_ble_eq_true rfl⟩ (by first | assumption | exact row_o (by first | assumption | exact sr1 (by assumption) | exact sr2 (by assumption) | exact sr3 (by assumption) | exact sr4 (by assumption) | exact sr5 (by assumption))) rfl rfl rfl rfl (Nat.le_of_ble_eq_true rfl) ⟨Nat.le_of_ble_eq_true rfl, Nat.le_of_ble_eq_true rfl⟩ dX5_become_38 (k_rI ?_)
          refine x_aload_n hM dX5_become_41 rfl rfl ?_
          refine x_iload hM dX5_become_42 rfl ?_
          refine x_callV hM wv_X5_59 (m_X5_endOf (by assumption) (by omega)) ⟨Nat.le_of_ble_eq_true rfl, Nat.le_of_ble_eq_true rfl⟩ (by first | assumption | exact str_o (by assumption) | exact str_a (by assumption)) rfl rfl rfl rfl (Nat.le_of_ble_eq_true rfl) ⟨Nat.le_of_ble_eq_true rfl, Nat.le_of_ble_eq_true rfl⟩ dX5_become_44 (k_rI ?_)
          refine x_iload_n hM dX5_become_47 rfl rfl ?_
          refine x_min hM wm_X5_62 (by omega) (by omega) (Nat.le_of_ble_eq_true rfl) (Nat.le_of_ble_eq_true rfl) ⟨Nat.le_of_ble_eq_true rfl, Nat.le_of_ble_eq_true rfl⟩ dX5_become_48 ?_
          refine x_aload_n hM dX5_become_51 rfl rfl ?_
          refine x_get hM wf_X5_20 wl_X5 (by first | assumption | exact str_o (by assumption) | exact str_a (by assumption)) rfl dX5_become_52 ?_
          refine x_iload hM dX5_become_55 rfl ?_
          refine x_callV hM wv_X5_43 (m_X4_at (by first | assumption | exact sr1 (by assumption) | exact sr2 (by assumption) | exact sr3 (by assumption) | exact sr4 (by assumption) | exact sr5 (by assumption)) (by omega)) ⟨Nat.le_of_ble_eq_true rfl, Nat.le_of_ble_eq_true rfl⟩ (by first | assumption | exact row_o (by first | assumption | exact sr1 (by assumption) | exact sr2 (by assumption) | exact sr3 (by assumption) | exact sr4 (by assumption) | exact sr5 (by assumption))) rfl rfl rfl rfl (Nat.le_of_ble_eq_true rfl) ⟨Nat.le_of_ble_eq_true rfl, Nat.le_of_ble_eq_true rfl⟩ dX5_become_57 (k_rI ?_)
          refine x_isub hM dX5_become_60 ?_
          rw [e4, e1, e2]
          refine x_callV hM wv_X5_68 (m_X5_append (by assumption) (by omega) (by omega)) ⟨Nat.le_of_ble_eq_true rfl, Nat.le_of_ble_eq_true rfl⟩ (by first | assumption | exact str_o (by assumption) | exact str_a (by assumption)) rfl rfl rfl rfl (Nat.le_of_ble_eq_true rfl) ⟨Nat.le_of_ble_eq_true rfl, Nat.le_of_ble_eq_true rfl⟩ dX5_become_61 (k_qV fun w_61 q_61 => ?_)
          obtain ⟨qa, qf⟩ := q_61
          rw [drop_map _ _ hlt] at hinv
          refine x_iinc hM dX5_become_64 rfl rfl rfl ?_
          refine x_goto (tgt := 13) hM dX5_become_67 (by decide) ?_
          exact ih (i + 1) _ _ (by omega) (by omega) qa (hF.tr qf) hinv
      · have hil : i = M.length := by omega
        rw [hil, List.drop_length] at hinv
        have hinv : T = apL [] (M.map (lefP f)) := hinv
        refine x_iload hM dX5_become_13 rfl ?_
        refine x_aload_n hM dX5_become_15 rfl rfl ?_
        refine x_get hM wf_X5_36 wl_X5 (by first | assumption | exact str_o (by assumption) | exact str_a (by assumption)) rfl dX5_become_16 ?_
        refine x_icmp_ge (tgt := 70) hM dX5_become_19 (by decide) (by omega) (by omega) (fun c_19 => ?_) (fun c_19 => ?_)
        · refine x_aload_n hM dX5_become_70 rfl rfl ?_
          refine x_iload_n hM dX5_become_71 rfl rfl ?_
          refine x_iload_n hM dX5_become_72 rfl rfl ?_
          refine x_iload hM dX5_become_73 rfl ?_
          refine x_callV hM wv_X5_68 (m_X5_append (by assumption) (by omega) (by omega)) ⟨Nat.le_of_ble_eq_true rfl, Nat.le_of_ble_eq_true rfl⟩ (by first | assumption | exact str_o (by assumption) | exact str_a (by assumption)) rfl rfl rfl rfl (Nat.le_of_ble_eq_true rfl) ⟨Nat.le_of_ble_eq_true rfl, Nat.le_of_ble_eq_true rfl⟩ dX5_become_75 (k_qV fun w_75 q_75 => ?_)
          obtain ⟨qa, qf⟩ := q_75
          refine x_iconst hM dX5_become_78 ?_
          refine x_istore hM dX5_become_79 rfl (Nat.le_of_ble_eq_true rfl) rfl ?_
          exact K2 (M.length + 1) 0 _ _ _ (by omega) (by omega) qa (hF.tr qf) (by rw [List.drop_zero, hinv]; rfl)
        · exfalso; omega
  refine x_iload_n hM dX5_become_0 rfl rfl ?_
  refine x_iload hM dX5_become_1 rfl ?_
  refine x_iadd hM dX5_become_3 ?_
  refine x_istore hM dX5_become_4 rfl (Nat.le_of_ble_eq_true rfl) rfl ?_
  refine x_aload_n hM dX5_become_6 rfl rfl ?_
  refine x_callV hM wv_X5_58 (m_X5_clear (by assumption)) ⟨Nat.le_of_ble_eq_true rfl, Nat.le_of_ble_eq_true rfl⟩ (by first | assumption | exact str_o (by assumption) | exact str_a (by assumption)) rfl rfl rfl rfl (Nat.le_of_ble_eq_true rfl) ⟨Nat.le_of_ble_eq_true rfl, Nat.le_of_ble_eq_true rfl⟩ dX5_become_7 (k_qV fun w_7 q_7 => ?_)
  obtain ⟨qa, qf⟩ := q_7
  refine x_iconst hM dX5_become_10 ?_
  refine x_istore hM dX5_become_11 rfl (Nat.le_of_ble_eq_true rfl) rfl ?_
  exact K1 (M.length + 1) 0 _ _ (by omega) (by omega) qa qf (by rw [List.drop_zero])
theorem m_X5_becomeInherited {l : Launch} {G : xG} {w : Wd} {z a b : Nat} {T0 M : List Sg} {o h : Int} (h1 : strA G w a T0) (h2 : strA G w b M) (hd : a + 11 ≤ b ∨ b + 11 ≤ a) (ho : iR o) (hh : 0 ≤ h ∧ h < 10) : xMet l G yX5_becomeInherited cX5_becomeInherited 6 none ({ frames := 2, cells := 0, slots := 0, locals := 46 } : Room) [.ref a, .ref b, .int (iI o), .int (iI h)] w z (qV z fun w1 => strA G w1 a (inhF M o h) ∧ Fr a (a + 11) w w1) := by
  obtain ⟨hW, go, gs, gl, gr, gm, hs, hL⟩ := h2
  have hW1 := hW.1
  refine xMet_of RX5 rfl (by decide +kernel) false (by decide +kernel) (Nat.le_of_ble_eq_true rfl) rfl ?_
  intro P hM hR
  have K1 : ∀ (k i : Nat) (T : List Sg) (w1 : Wd) (x5 : Option Value), M.length - i < k → i ≤ M.length → strA G w1 a T → Fr a (a + 11) w w1 → apL T ((M.drop i).map (inhP o h)) = inhF M o h → P 7 [some (.ref a), some (.ref b), some (.int (iI o)), some (.int (iI h)), some (.int (iI i)), x5] [] w1 (z, 0, 0) := by
    intro k
    induction k with
    | zero => intro i T w1 x5 hk; omega
    | succ k ih =>
      intro i T w1 x5 hk hi hT hF hinv
      have hs1 := hs.kp hF (by omega)
      by_cases hlt : i < M.length
      · have hok := strW_at hW hlt
        obtain ⟨e1, e2, e3⟩ := hL.1 i hlt
        refine x_iload hM dX5_becomeInherited_7 rfl ?_
        refine x_aload_n hM dX5_becomeInherited_9 rfl rfl ?_
        refine x_get hM wf_X5_36 wl_X5 (by first | assumption | exact str_o (by assumption) | exact str_a (by assumption)) rfl dX5_becomeInherited_10 ?_
        refine x_icmp_ge (tgt := 67) hM dX5_becomeInherited_13 (by decide) (by omega) (by omega) (fun c_13 => ?_) (fun c_13 => ?_)
        · exfalso; omega
        · refine x_aload_n hM dX5_becomeInherited_16 rfl rfl ?_
          refine x_get hM wf_X5_14 wl_X5 (by first | assumption | exact str_o (by assumption) | exact str_a (by assumption)) rfl dX5_becomeInherited_17 ?_
          refine x_iload hM dX5_becomeInherited_20 rfl ?_
          refine x_callV hM wv_X5_43 (m_X4_at (by first | assumption | exact sr1 (by assumption) | exact sr2 (by assumption) | exact sr3 (by assumption) | exact sr4 (by assumption) | exact sr5 (by assumption)) (by omega)) ⟨Nat.le_of_ble_eq_true rfl, Nat.le_of_ble_eq_true rfl⟩ (by first | assumption | exact row_o (by first | assumption | exact sr1 (by assumption) | exact sr2 (by assumption) | exact sr3 (by assumption) | exact sr4 (by assumption) | exact sr5 (by assumption))) rfl rfl rfl rfl (Nat.le_of_ble_eq_true rfl) ⟨Nat.le_of_ble_eq_true rfl, Nat.le_of_ble_eq_true rfl⟩ dX5_becomeInherited_22 (k_rI ?_)
          refine x_istore hM dX5_becomeInherited_25 rfl (Nat.le_of_ble_eq_true rfl) rfl ?_
          refine x_aload_n hM dX5_becomeInherited_27 rfl rfl ?_
          refine x_iload hM dX5_becomeInherited_28 rfl ?_
          refine x_iload_n hM dX5_becomeInherited_30 rfl rfl ?_
          refine x_icmp_ne (tgt := 38) hM dX5_becomeInherited_31 (by decide) (by omega) (by omega) (fun c_31 => ?_) (fun c_31 => ?_)
          · refine x_iload hM dX5_becomeInherited_38 rfl ?_
            refine x_aload_n hM dX5_becomeInherited_40 rfl rfl ?_
            refine x_get hM wf_X5_20 wl_X5 (by first | assumption | exact str_o (by assumption) | exact str_a (by assumption)) rfl dX5_becomeInherited_41 ?_
            refine x_iload hM dX5_becomeInherited_44 rfl ?_
            refine x_callV hM wv_X5_43 (m_X4_at (by first | assumption | exact sr1 (by assumption) | exact sr2 (by assumption) | exact sr3 (by assumption) | exact sr4 (by assumption) | exact sr5 (by assumption)) (by omega)) ⟨Nat.le_of_ble_eq_true rfl, Nat.le_of_ble_eq_true rfl⟩ (by first | assumption | exact row_o (by first | assumption | exact sr1 (by assumption) | exact sr2 (by assumption) | exact sr3 (by assumption) | exact sr4 (by assumption) | exact sr5 (by assumption))) rfl rfl rfl rfl (Nat.le_of_ble_eq_true rfl) ⟨Nat.le_of_ble_eq_true rfl, Nat.le_of_ble_eq_true rfl⟩ dX5_becomeInherited_46 (k_rI ?_)
            refine x_aload_n hM dX5_becomeInherited_49 rfl rfl ?_
            refine x_get hM wf_X5_23 wl_X5 (by first | assumption | exact str_o (by assumption) | exact str_a (by assumption)) rfl dX5_becomeInherited_50 ?_
            refine x_iload hM dX5_becomeInherited_53 rfl ?_
            refine x_callV hM wv_X5_43 (m_X4_at (by first | assumption | exact sr1 (by assumption) | exact sr2 (by assumption) | exact sr3 (by assumption) | exact sr4 (by assumption) | exact sr5 (by assumption)) (by omega)) ⟨Nat.le_of_ble_eq_true rfl, Nat.le_of_ble_eq_true rfl⟩ (by first | assumption | exact row_o (by first | assumption | exact sr1 (by assumption) | exact sr2 (by assumption) | exact sr3 (by assumption) | exact sr4 (by assumption) | exact sr5 (by assumption))) rfl rfl rfl rfl (Nat.le_of_ble_eq_true rfl) ⟨Nat.le_of_ble_eq_true rfl, Nat.le_of_ble_eq_true rfl⟩ dX5_becomeInherited_55 (k_rI ?_)
            refine x_callV hM wv_X5_68 (m_X5_append (by assumption) (by omega) (by omega)) ⟨Nat.le_of_ble_eq_true rfl, Nat.le_of_ble_eq_true rfl⟩ (by first | assumption | exact str_o (by assumption) | exact str_a (by assumption)) rfl rfl rfl rfl (Nat.le_of_ble_eq_true rfl) ⟨Nat.le_of_ble_eq_true rfl, Nat.le_of_ble_eq_true rfl⟩ dX5_becomeInherited_58 (k_qV fun w_58 q_58 => ?_)
            obtain ⟨qa, qf⟩ := q_58
            rw [drop_map _ _ hlt] at hinv
            have e5 : inhP o h M[i] = ((if M[i].1 = o then h else M[i].1), gs i, gl i) := by unfold inhP; rw [e2, e3]
            rw [e5] at hinv
            refine x_iinc hM dX5_becomeInherited_61 rfl rfl rfl ?_
            refine x_goto (tgt := 7) hM dX5_becomeInherited_64 (by decide) ?_
            exact ih (i + 1) _ _ _ (by omega) (by omega) qa (hF.tr qf) (by rw [← hinv]; unfold apL; rw [List.foldl_cons]; first | rw [if_pos (by omega)] | (rw [if_neg (by omega), ← e1]))
          · refine x_iload_n hM dX5_becomeInherited_34 rfl rfl ?_
            refine x_goto (tgt := 40) hM dX5_becomeInherited_35 (by decide) ?_
            refine x_aload_n hM dX5_becomeInherited_40 rfl rfl ?_
            refine x_get hM wf_X5_20 wl_X5 (by first | assumption | exact str_o (by assumption) | exact str_a (by assumption)) rfl dX5_becomeInherited_41 ?_
            refine x_iload hM dX5_becomeInherited_44 rfl ?_
            refine x_callV hM wv_X5_43 (m_X4_at (by first | assumption | exact sr1 (by assumption) | exact sr2 (by assumption) | exact sr3 (by assumption) | exact sr4 (by assumption) | exact sr5 (by assumption)) (by omega)) ⟨Nat.le_of_ble_eq_true rfl, Nat.le_of_ble_eq_true rfl⟩ (by first | assumption | exact row_o (by first | assumption | exact sr1 (by assumption) | exact sr2 (by assumption) | exact sr3 (by assumption) | exact sr4 (by assumption) | exact sr5 (by assumption))) rfl rfl rfl rfl (Nat.le_of_ble_eq_true rfl) ⟨Nat.le_of_ble_eq_true rfl, Nat.le_of_ble_eq_true rfl⟩ dX5_becomeInherited_46 (k_rI ?_)
            refine x_aload_n hM dX5_becomeInherited_49 rfl rfl ?_
            refine x_get hM wf_X5_23 wl_X5 (by first | assumption | exact str_o (by assumption) | exact str_a (by assumption)) rfl dX5_becomeInherited_50 ?_
            refine x_iload hM dX5_becomeInherited_53 rfl ?_
            refine x_callV hM wv_X5_43 (m_X4_at (by first | assumption | exact sr1 (by assumption) | exact sr2 (by assumption) | exact sr3 (by assumption) | exact sr4 (by assumption) | exact sr5 (by assumption)) (by omega)) ⟨Nat.le_of_ble_eq_true rfl, Nat.le_of_ble_eq_true rfl⟩ (by first | assumption | exact row_o (by first | assumption | exact sr1 (by assumption) | exact sr2 (by assumption) | exact sr3 (by assumption) | exact sr4 (by assumption) | exact sr5 (by assumption))) rfl rfl rfl rfl (Nat.le_of_ble_eq_true rfl) ⟨Nat.le_of_ble_eq_true rfl, Nat.le_of_ble_eq_true rfl⟩ dX5_becomeInherited_55 (k_rI ?_)
            refine x_callV hM wv_X5_68 (m_X5_append (by assumption) (by omega) (by omega)) ⟨Nat.le_of_ble_eq_true rfl, Nat.le_of_ble_eq_true rfl⟩ (by first | assumption | exact str_o (by assumption) | exact str_a (by assumption)) rfl rfl rfl rfl (Nat.le_of_ble_eq_true rfl) ⟨Nat.le_of_ble_eq_true rfl, Nat.le_of_ble_eq_true rfl⟩ dX5_becomeInherited_58 (k_qV fun w_58 q_58 => ?_)
            obtain ⟨qa, qf⟩ := q_58
            rw [drop_map _ _ hlt] at hinv
            have e5 : inhP o h M[i] = ((if M[i].1 = o then h else M[i].1), gs i, gl i) := by unfold inhP; rw [e2, e3]
            rw [e5] at hinv
            refine x_iinc hM dX5_becomeInherited_61 rfl rfl rfl ?_
            refine x_goto (tgt := 7) hM dX5_becomeInherited_64 (by decide) ?_
            exact ih (i + 1) _ _ _ (by omega) (by omega) qa (hF.tr qf) (by rw [← hinv]; unfold apL; rw [List.foldl_cons]; first | rw [if_pos (by omega)] | (rw [if_neg (by omega), ← e1]))
      · have hil : i = M.length := by omega
        refine x_iload hM dX5_becomeInherited_7 rfl ?_
        refine x_aload_n hM dX5_becomeInherited_9 rfl rfl ?_
        refine x_get hM wf_X5_36 wl_X5 (by first | assumption | exact str_o (by assumption) | exact str_a (by assumption)) rfl dX5_becomeInherited_10 ?_
        refine x_icmp_ge (tgt := 67) hM dX5_becomeInherited_13 (by decide) (by omega) (by omega) (fun c_13 => ?_) (fun c_13 => ?_)
        · refine hR.v dX5_becomeInherited_67 (Nat.zero_le _) (Nat.zero_le _) ?_
          rw [hil, List.drop_length] at hinv
          exact p_qV ⟨by rw [← hinv]; exact hT, hF⟩
        · exfalso; omega
  refine x_aload_n hM dX5_becomeInherited_0 rfl rfl ?_
  refine x_callV hM wv_X5_58 (m_X5_clear (by assumption)) ⟨Nat.le_of_ble_eq_true rfl, Nat.le_of_ble_eq_true rfl⟩ (by first | assumption | exact str_o (by assumption) | exact str_a (by assumption)) rfl rfl rfl rfl (Nat.le_of_ble_eq_true rfl) ⟨Nat.le_of_ble_eq_true rfl, Nat.le_of_ble_eq_true rfl⟩ dX5_becomeInherited_1 (k_qV fun w_1 q_1 => ?_)
  obtain ⟨qa, qf⟩ := q_1
  refine x_iconst hM dX5_becomeInherited_4 ?_
  refine x_istore hM dX5_becomeInherited_5 rfl (Nat.le_of_ble_eq_true rfl) rfl ?_
  exact K1 (M.length + 1) 0 _ _ _ (by omega) (by omega) qa qf (by rw [List.drop_zero]; rfl)
theorem m_X5_copy {l : Launch} {G : xG} {w : Wd} {z a b : Nat} {T0 M : List Sg} (h1 : strA G w a T0) (h2 : strA G w b M) (hd : a + 11 ≤ b ∨ b + 11 ≤ a) : xMet l G yX5_copy cX5_copy 2 none ({ frames := 2, cells := 0, slots := 0, locals := 56 } : Room) [.ref a, .ref b] w z (qV z fun w1 => strA G w1 a M ∧ Fr a (a + 11) w w1) := by
  obtain ⟨hW, go, gs, gl, gr, gm, ht, hL⟩ := h2
  obtain ⟨-, fo, fs, fl, fr, fm, hs, -⟩ := h1
  have hW1 := hW.1
  refine xMet_of RX5 rfl (by decide +kernel) false (by decide +kernel) (Nat.le_of_ble_eq_true rfl) rfl ?_
  intro P hM hR
  refine x_aload_n hM dX5_copy_0 rfl rfl ?_
  refine x_get hM wf_X5_14 wl_X5 (by first | assumption | exact str_o (by assumption) | exact str_a (by assumption)) rfl dX5_copy_1 ?_
  refine x_aload_n hM dX5_copy_4 rfl rfl ?_
  refine x_get hM wf_X5_14 wl_X5 (by first | assumption | exact str_o (by assumption) | exact str_a (by assumption)) rfl dX5_copy_5 ?_
  refine x_callV hM wv_X5_32 (m_X4_copy (by first | assumption | exact sr1 (by assumption) | exact sr2 (by assumption) | exact sr3 (by assumption) | exact sr4 (by assumption) | exact sr5 (by assumption)) (by first | assumption | exact sr1 (by assumption) | exact sr2 (by assumption) | exact sr3 (by assumption) | exact sr4 (by assumption) | exact sr5 (by assumption)) (by omega)) ⟨Nat.le_of_ble_eq_true rfl, Nat.le_of_ble_eq_true rfl⟩ (by first | assumption | exact row_o (by first | assumption | exact sr1 (by assumption) | exact sr2 (by assumption) | exact sr3 (by assumption) | exact sr4 (by assumption) | exact sr5 (by assumption))) rfl rfl rfl rfl (Nat.le_of_ble_eq_true rfl) ⟨Nat.le_of_ble_eq_true rfl, Nat.le_of_ble_eq_true rfl⟩ dX5_copy_8 (k_qV fun w_8 q_8 => ?_)
  subst q_8
  have ht1 := ht.kp (Fr.wS (lo := a) (hi := a + 11) (q := a + 1 + 1) (e := aI G 42 (fC go fo 42)) (by omega) (by omega)) (by omega)
  have hs1 := hs.u1 (g := fC go fo 42)
  refine x_aload_n hM dX5_copy_11 rfl rfl ?_
  refine x_get hM wf_X5_20 wl_X5 (by first | assumption | exact str_o (by assumption) | exact str_a (by assumption)) rfl dX5_copy_12 ?_
  refine x_aload_n hM dX5_copy_15 rfl rfl ?_
  refine x_get hM wf_X5_20 wl_X5 (by first | assumption | exact str_o (by assumption) | exact str_a (by assumption)) rfl dX5_copy_16 ?_
  refine x_callV hM wv_X5_32 (m_X4_copy (by first | assumption | exact sr1 (by assumption) | exact sr2 (by assumption) | exact sr3 (by assumption) | exact sr4 (by assumption) | exact sr5 (by assumption)) (by first | assumption | exact sr1 (by assumption) | exact sr2 (by assumption) | exact sr3 (by assumption) | exact sr4 (by assumption) | exact sr5 (by assumption)) (by omega)) ⟨Nat.le_of_ble_eq_true rfl, Nat.le_of_ble_eq_true rfl⟩ (by first | assumption | exact row_o (by first | assumption | exact sr1 (by assumption) | exact sr2 (by assumption) | exact sr3 (by assumption) | exact sr4 (by assumption) | exact sr5 (by assumption))) rfl rfl rfl rfl (Nat.le_of_ble_eq_true rfl) ⟨Nat.le_of_ble_eq_true rfl, Nat.le_of_ble_eq_true rfl⟩ dX5_copy_19 (k_qV fun w_19 q_19 => ?_)
  subst q_19
  have ht2 := ht1.kp (Fr.wS (lo := a) (hi := a + 11) (q := a + 3 + 1) (e := aI G 42 (fC gs fs 42)) (by omega) (by omega)) (by omega)
  have hs2 := hs1.u2 (g := fC gs fs 42)
  refine x_aload_n hM dX5_copy_22 rfl rfl ?_
  refine x_get hM wf_X5_23 wl_X5 (by first | assumption | exact str_o (by assumption) | exact str_a (by assumption)) rfl dX5_copy_23 ?_
  refine x_aload_n hM dX5_copy_26 rfl rfl ?_
  refine x_get hM wf_X5_23 wl_X5 (by first | assumption | exact str_o (by assumption) | exact str_a (by assumption)) rfl dX5_copy_27 ?_
  refine x_callV hM wv_X5_32 (m_X4_copy (by first | assumption | exact sr1 (by assumption) | exact sr2 (by assumption) | exact sr3 (by assumption) | exact sr4 (by assumption) | exact sr5 (by assumption)) (by first | assumption | exact sr1 (by assumption) | exact sr2 (by assumption) | exact sr3 (by assumption) | exact sr4 (by assumption) | exact sr5 (by assumption)) (by omega)) ⟨Nat.le_of_ble_eq_true rfl, Nat.le_of_ble_eq_true rfl⟩ (by first | assumption | exact row_o (by first | assumption | exact sr1 (by assumption) | exact sr2 (by assumption) | exact sr3 (by assumption) | exact sr4 (by assumption) | exact sr5 (by assumption))) rfl rfl rfl rfl (Nat.le_of_ble_eq_true rfl) ⟨Nat.le_of_ble_eq_true rfl, Nat.le_of_ble_eq_true rfl⟩ dX5_copy_30 (k_qV fun w_30 q_30 => ?_)
  subst q_30
  have ht3 := ht2.kp (Fr.wS (lo := a) (hi := a + 11) (q := a + 5 + 1) (e := aI G 42 (fC gl fl 42)) (by omega) (by omega)) (by omega)
  have hs3 := hs2.u3 (g := fC gl fl 42)
  refine x_aload_n hM dX5_copy_33 rfl rfl ?_
  refine x_get hM wf_X5_26 wl_X5 (by first | assumption | exact str_o (by assumption) | exact str_a (by assumption)) rfl dX5_copy_34 ?_
  refine x_aload_n hM dX5_copy_37 rfl rfl ?_
  refine x_get hM wf_X5_26 wl_X5 (by first | assumption | exact str_o (by assumption) | exact str_a (by assumption)) rfl dX5_copy_38 ?_
  refine x_callV hM wv_X5_32 (m_X4_copy (by first | assumption | exact sr1 (by assumption) | exact sr2 (by assumption) | exact sr3 (by assumption) | exact sr4 (by assumption) | exact sr5 (by assumption)) (by first | assumption | exact sr1 (by assumption) | exact sr2 (by assumption) | exact sr3 (by assumption) | exact sr4 (by assumption) | exact sr5 (by assumption)) (by omega)) ⟨Nat.le_of_ble_eq_true rfl, Nat.le_of_ble_eq_true rfl⟩ (by first | assumption | exact row_o (by first | assumption | exact sr1 (by assumption) | exact sr2 (by assumption) | exact sr3 (by assumption) | exact sr4 (by assumption) | exact sr5 (by assumption))) rfl rfl rfl rfl (Nat.le_of_ble_eq_true rfl) ⟨Nat.le_of_ble_eq_true rfl, Nat.le_of_ble_eq_true rfl⟩ dX5_copy_41 (k_qV fun w_41 q_41 => ?_)
  subst q_41
  have ht4 := ht3.kp (Fr.wS (lo := a) (hi := a + 11) (q := a + 7 + 1) (e := aI G 10 (fC gr fr 10)) (by omega) (by omega)) (by omega)
  have hs4 := hs3.u4 (g := fC gr fr 10)
  refine x_aload_n hM dX5_copy_44 rfl rfl ?_
  refine x_get hM wf_X5_29 wl_X5 (by first | assumption | exact str_o (by assumption) | exact str_a (by assumption)) rfl dX5_copy_45 ?_
  refine x_aload_n hM dX5_copy_48 rfl rfl ?_
  refine x_get hM wf_X5_29 wl_X5 (by first | assumption | exact str_o (by assumption) | exact str_a (by assumption)) rfl dX5_copy_49 ?_
  refine x_callV hM wv_X5_32 (m_X4_copy (by first | assumption | exact sr1 (by assumption) | exact sr2 (by assumption) | exact sr3 (by assumption) | exact sr4 (by assumption) | exact sr5 (by assumption)) (by first | assumption | exact sr1 (by assumption) | exact sr2 (by assumption) | exact sr3 (by assumption) | exact sr4 (by assumption) | exact sr5 (by assumption)) (by omega)) ⟨Nat.le_of_ble_eq_true rfl, Nat.le_of_ble_eq_true rfl⟩ (by first | assumption | exact row_o (by first | assumption | exact sr1 (by assumption) | exact sr2 (by assumption) | exact sr3 (by assumption) | exact sr4 (by assumption) | exact sr5 (by assumption))) rfl rfl rfl rfl (Nat.le_of_ble_eq_true rfl) ⟨Nat.le_of_ble_eq_true rfl, Nat.le_of_ble_eq_true rfl⟩ dX5_copy_52 (k_qV fun w_52 q_52 => ?_)
  subst q_52
  have ht5 := ht4.kp (Fr.wS (lo := a) (hi := a + 11) (q := a + 9 + 1) (e := aI G 10 (fC gm fm 10)) (by omega) (by omega)) (by omega)
  have hs5 := hs4.u5 (g := fC gm fm 10)
  refine x_aload_n hM dX5_copy_55 rfl rfl ?_
  refine x_aload_n hM dX5_copy_56 rfl rfl ?_
  refine x_get hM wf_X5_36 wl_X5 (by first | assumption | exact str_o (by assumption) | exact str_a (by assumption)) rfl dX5_copy_57 ?_
  refine x_put hM wf_X5_36 wl_X5 (by first | assumption | exact str_o (by assumption) | exact str_a (by assumption)) wq_X5_36 rfl rfl (Nat.le_of_ble_eq_true rfl) rfl dX5_copy_60 ?_
  refine hR.v dX5_copy_63 (Nat.zero_le _) (Nat.zero_le _) ?_
  refine p_qV ⟨⟨hW, _, _, _, _, _, hs5.u0 (m := M.length), fun i hi => ?_, fun o o1 o2 => ?_⟩, (((((Fr.wS (by omega) (by omega)).tr (Fr.wS (by omega) (by omega))).tr (Fr.wS (by omega) (by omega))).tr (Fr.wS (by omega) (by omega))).tr (Fr.wS (by omega) (by omega))).tr (Fr.wS (by omega) (by omega))⟩
  · have h3 := hL.1 i hi
    unfold fC
    rw [if_pos (by omega), if_pos (by omega), if_pos (by omega)]
    exact h3
  · have h3 := hL.2 o o1 o2
    unfold fC
    rw [if_pos (by omega), if_pos (by omega)]
    exact h3
theorem cntO_erase {L : List Sg} {r : Nat} (hr : r < L.length) (o : Int) : cntO (L.eraseIdx r) o = cntO L o - (if L[r].1 = o then 1 else 0) ∧ mtsO (L.eraseIdx r) o = mtsO L o - (if L[r].1 = o then L[r].2.2 - L[r].2.1 else 0) := by
  induction L generalizing r with
  | nil => exact absurd hr (Nat.not_lt_zero _)
  | cons s t ih =>
    cases r with
    | zero =>
      simp only [List.eraseIdx_cons_zero, cntO, mtsO, List.getElem_cons_zero]
      omega
    | succ r =>
      have h1 := ih (r := r) (by simpa using hr)
      simp only [List.eraseIdx_cons_succ, cntO, mtsO, List.getElem_cons_succ]
      omega
theorem strW_erase {L : List Sg} (h : strW L) (r : Nat) : strW (L.eraseIdx r) :=
  ⟨Nat.le_trans (List.length_eraseIdx_le _ _) h.1, fun s hs => h.2 s (List.mem_of_mem_eraseIdx hs)⟩
theorem m_X5_remove {l : Launch} {G : xG} {w : Wd} {z a r : Nat} {L : List Sg} (h1 : strA G w a L) (hr : r < L.length) : xMet l G yX5_remove cX5_remove 3 none ({ frames := 1, cells := 0, slots := 0, locals := 22 } : Room) [.ref a, .int (iI r)] w z (qV z fun w1 => strA G w1 a (L.eraseIdx r) ∧ Fr a (a + 11) w w1) := by
  have hWn := strW_erase h1.1 r
  obtain ⟨hW, fo, fs, fl, fr, fm, hs, hL⟩ := h1
  have hW1 := hW.1
  have hlen : (L.eraseIdx r).length = L.length - 1 := List.length_eraseIdx_of_lt hr
  have hok := strW_at hW hr
  obtain ⟨e1, e2, e3⟩ := hL.1 r hr
  refine xMet_of RX5 rfl (by decide +kernel) false (by decide +kernel) (Nat.le_of_ble_eq_true rfl) rfl ?_
  intro P hM hR
  have K : ∀ (k i : Nat) (go gs gl gr gm : Int → Int) (w1 : Wd), L.length - 1 - i < k → r ≤ i → i ≤ L.length - 1 → strR G w1 a (L.length - 1 : Nat) go gs gl gr gm → Fr a (a + 11) w w1 → (∀ j : Int, 0 ≤ j → j < r → go j = fo j ∧ gs j = fs j ∧ gl j = fl j) → (∀ j : Int, r ≤ j → j < i → go j = fo (j + 1) ∧ gs j = fs (j + 1) ∧ gl j = fl (j + 1)) → (∀ j : Int, i ≤ j → j < 42 → go j = fo j ∧ gs j = fs j ∧ gl j = fl j) → (∀ o : Int, 0 ≤ o → o < 10 → gr o = cntO (L.eraseIdx r) o ∧ gm o = mtsO (L.eraseIdx r) o) → P 61 [some (.ref a), some (.int (iI r)), some (.int (iI i))] [] w1 (z, 0, 0) := by
    intro k
    induction k with
    | zero => intro i go gs gl gr gm w1 hk; omega
    | succ k ih =>
      intro i go gs gl gr gm w1 hk hri hi hs1 hF i1 i2 i3 i4
      by_cases hlt : i < L.length - 1
      · skip
        refine x_iload_n hM dX5_remove_61 rfl rfl ?_
        refine x_aload_n hM dX5_remove_62 rfl rfl ?_
        refine x_get hM wf_X5_36 wl_X5 (by first | assumption | exact str_o (by assumption) | exact str_a (by assumption)) rfl dX5_remove_63 ?_
        refine x_icmp_ge (tgt := 129) hM dX5_remove_66 (by decide) (by omega) (by omega) (fun c_66 => ?_) (fun c_66 => ?_)
        · exfalso; omega
        · refine x_aload_n hM dX5_remove_69 rfl rfl ?_
          refine x_get hM wf_X5_14 wl_X5 (by first | assumption | exact str_o (by assumption) | exact str_a (by assumption)) rfl dX5_remove_70 ?_
          refine x_iload_n hM dX5_remove_73 rfl rfl ?_
          refine x_aload_n hM dX5_remove_74 rfl rfl ?_
          refine x_get hM wf_X5_14 wl_X5 (by first | assumption | exact str_o (by assumption) | exact str_a (by assumption)) rfl dX5_remove_75 ?_
          refine x_iload_n hM dX5_remove_78 rfl rfl ?_
          refine x_iconst hM dX5_remove_79 ?_
          refine x_iadd hM dX5_remove_80 ?_
          refine x_callV hM wv_X5_43 (m_X4_at (by first | assumption | exact sr1 (by assumption) | exact sr2 (by assumption) | exact sr3 (by assumption) | exact sr4 (by assumption) | exact sr5 (by assumption)) (by omega)) ⟨Nat.le_of_ble_eq_true rfl, Nat.le_of_ble_eq_true rfl⟩ (by first | assumption | exact row_o (by first | assumption | exact sr1 (by assumption) | exact sr2 (by assumption) | exact sr3 (by assumption) | exact sr4 (by assumption) | exact sr5 (by assumption))) rfl rfl rfl rfl (Nat.le_of_ble_eq_true rfl) ⟨Nat.le_of_ble_eq_true rfl, Nat.le_of_ble_eq_true rfl⟩ dX5_remove_81 (k_rI ?_)
          refine x_callV hM wv_X5_55 (m_X4_store (by first | assumption | exact sr1 (by assumption) | exact sr2 (by assumption) | exact sr3 (by assumption) | exact sr4 (by assumption) | exact sr5 (by assumption)) (by omega)) ⟨Nat.le_of_ble_eq_true rfl, Nat.le_of_ble_eq_true rfl⟩ (by first | assumption | exact row_o (by first | assumption | exact sr1 (by assumption) | exact sr2 (by assumption) | exact sr3 (by assumption) | exact sr4 (by assumption) | exact sr5 (by assumption))) rfl rfl rfl rfl (Nat.le_of_ble_eq_true rfl) ⟨Nat.le_of_ble_eq_true rfl, Nat.le_of_ble_eq_true rfl⟩ dX5_remove_84 (k_qV fun w_84 q_84 => ?_)
          subst q_84
          have hs2 := hs1.u1 (g := fU go i (go (i + 1)))
          refine x_aload_n hM dX5_remove_87 rfl rfl ?_
          refine x_get hM wf_X5_20 wl_X5 (by first | assumption | exact str_o (by assumption) | exact str_a (by assumption)) rfl dX5_remove_88 ?_
          refine x_iload_n hM dX5_remove_91 rfl rfl ?_
          refine x_aload_n hM dX5_remove_92 rfl rfl ?_
          refine x_get hM wf_X5_20 wl_X5 (by first | assumption | exact str_o (by assumption) | exact str_a (by assumption)) rfl dX5_remove_93 ?_
          refine x_iload_n hM dX5_remove_96 rfl rfl ?_
          refine x_iconst hM dX5_remove_97 ?_
          refine x_iadd hM dX5_remove_98 ?_
          refine x_callV hM wv_X5_43 (m_X4_at (by first | assumption | exact sr1 (by assumption) | exact sr2 (by assumption) | exact sr3 (by assumption) | exact sr4 (by assumption) | exact sr5 (by assumption)) (by omega)) ⟨Nat.le_of_ble_eq_true rfl, Nat.le_of_ble_eq_true rfl⟩ (by first | assumption | exact row_o (by first | assumption | exact sr1 (by assumption) | exact sr2 (by assumption) | exact sr3 (by assumption) | exact sr4 (by assumption) | exact sr5 (by assumption))) rfl rfl rfl rfl (Nat.le_of_ble_eq_true rfl) ⟨Nat.le_of_ble_eq_true rfl, Nat.le_of_ble_eq_true rfl⟩ dX5_remove_99 (k_rI ?_)
          refine x_callV hM wv_X5_55 (m_X4_store (by first | assumption | exact sr1 (by assumption) | exact sr2 (by assumption) | exact sr3 (by assumption) | exact sr4 (by assumption) | exact sr5 (by assumption)) (by omega)) ⟨Nat.le_of_ble_eq_true rfl, Nat.le_of_ble_eq_true rfl⟩ (by first | assumption | exact row_o (by first | assumption | exact sr1 (by assumption) | exact sr2 (by assumption) | exact sr3 (by assumption) | exact sr4 (by assumption) | exact sr5 (by assumption))) rfl rfl rfl rfl (Nat.le_of_ble_eq_true rfl) ⟨Nat.le_of_ble_eq_true rfl, Nat.le_of_ble_eq_true rfl⟩ dX5_remove_102 (k_qV fun w_102 q_102 => ?_)
          subst q_102
          have hs3 := hs2.u2 (g := fU gs i (gs (i + 1)))
          refine x_aload_n hM dX5_remove_105 rfl rfl ?_
          refine x_get hM wf_X5_23 wl_X5 (by first | assumption | exact str_o (by assumption) | exact str_a (by assumption)) rfl dX5_remove_106 ?_
          refine x_iload_n hM dX5_remove_109 rfl rfl ?_
          refine x_aload_n hM dX5_remove_110 rfl rfl ?_
          refine x_get hM wf_X5_23 wl_X5 (by first | assumption | exact str_o (by assumption) | exact str_a (by assumption)) rfl dX5_remove_111 ?_
          refine x_iload_n hM dX5_remove_114 rfl rfl ?_
          refine x_iconst hM dX5_remove_115 ?_
          refine x_iadd hM dX5_remove_116 ?_
          refine x_callV hM wv_X5_43 (m_X4_at (by first | assumption | exact sr1 (by assumption) | exact sr2 (by assumption) | exact sr3 (by assumption) | exact sr4 (by assumption) | exact sr5 (by assumption)) (by omega)) ⟨Nat.le_of_ble_eq_true rfl, Nat.le_of_ble_eq_true rfl⟩ (by first | assumption | exact row_o (by first | assumption | exact sr1 (by assumption) | exact sr2 (by assumption) | exact sr3 (by assumption) | exact sr4 (by assumption) | exact sr5 (by assumption))) rfl rfl rfl rfl (Nat.le_of_ble_eq_true rfl) ⟨Nat.le_of_ble_eq_true rfl, Nat.le_of_ble_eq_true rfl⟩ dX5_remove_117 (k_rI ?_)
          refine x_callV hM wv_X5_55 (m_X4_store (by first | assumption | exact sr1 (by assumption) | exact sr2 (by assumption) | exact sr3 (by assumption) | exact sr4 (by assumption) | exact sr5 (by assumption)) (by omega)) ⟨Nat.le_of_ble_eq_true rfl, Nat.le_of_ble_eq_true rfl⟩ (by first | assumption | exact row_o (by first | assumption | exact sr1 (by assumption) | exact sr2 (by assumption) | exact sr3 (by assumption) | exact sr4 (by assumption) | exact sr5 (by assumption))) rfl rfl rfl rfl (Nat.le_of_ble_eq_true rfl) ⟨Nat.le_of_ble_eq_true rfl, Nat.le_of_ble_eq_true rfl⟩ dX5_remove_120 (k_qV fun w_120 q_120 => ?_)
          subst q_120
          have hs4 := hs3.u3 (g := fU gl i (gl (i + 1)))
          refine x_iinc hM dX5_remove_123 rfl rfl rfl ?_
          refine x_goto (tgt := 61) hM dX5_remove_126 (by decide) ?_
          refine ih (i + 1) _ _ _ _ _ _ (by omega) (by omega) (by omega) hs4 (((hF.tr (Fr.wS (by omega) (by omega))).tr (Fr.wS (by omega) (by omega))).tr (Fr.wS (by omega) (by omega))) (fun j j1 j2 => ?_) (fun j j1 j2 => ?_) (fun j j1 j2 => ?_) i4
          · rw [fU_ne (by omega), fU_ne (by omega), fU_ne (by omega)]; exact i1 j j1 j2
          · by_cases e : j = i
            · subst e; rw [fU_eq, fU_eq, fU_eq]; exact i3 _ (by omega) (by omega)
            · rw [fU_ne e, fU_ne e, fU_ne e]; exact i2 j j1 (by omega)
          · rw [fU_ne (by omega), fU_ne (by omega), fU_ne (by omega)]; exact i3 j (by omega) j2
      · have hil : i = L.length - 1 := by omega
        refine x_iload_n hM dX5_remove_61 rfl rfl ?_
        refine x_aload_n hM dX5_remove_62 rfl rfl ?_
        refine x_get hM wf_X5_36 wl_X5 (by first | assumption | exact str_o (by assumption) | exact str_a (by assumption)) rfl dX5_remove_63 ?_
        refine x_icmp_ge (tgt := 129) hM dX5_remove_66 (by decide) (by omega) (by omega) (fun c_66 => ?_) (fun c_66 => ?_)
        · refine hR.v dX5_remove_129 (Nat.zero_le _) (Nat.zero_le _) ?_
          refine p_qV ⟨⟨hWn, go, gs, gl, gr, gm, by rw [hlen]; exact hs1, fun j hj => ?_, i4⟩, hF⟩
          have hj2 : j < L.length - 1 := by rw [hlen] at hj; exact hj
          rw [List.getElem_eraseIdx hj]
          split
          · next hlt2 => rw [(i1 j (by omega) (by omega)).1, (i1 j (by omega) (by omega)).2.1, (i1 j (by omega) (by omega)).2.2]; exact hL.1 j (by omega)
          · next hge => rw [(i2 j (by omega) (by omega)).1, (i2 j (by omega) (by omega)).2.1, (i2 j (by omega) (by omega)).2.2]; exact hL.1 (j + 1) (by omega)
        · exfalso; omega
  refine x_aload_n hM dX5_remove_0 rfl rfl ?_
  refine x_iload_n hM dX5_remove_1 rfl rfl ?_
  refine x_callV hM wv_X5_75 (m_X5_hasRange (n := (L.length : Nat)) (by assumption) (by omega) (by omega)) ⟨Nat.le_of_ble_eq_true rfl, Nat.le_of_ble_eq_true rfl⟩ (by first | assumption | exact str_o (by assumption) | exact str_a (by assumption)) rfl rfl rfl rfl (Nat.le_of_ble_eq_true rfl) ⟨Nat.le_of_ble_eq_true rfl, Nat.le_of_ble_eq_true rfl⟩ dX5_remove_2 (k_rI ?_)
  rw [if_pos (by omega)]
  refine x_if_ne (tgt := 9) hM dX5_remove_5 (by decide) (by omega) (fun c_5 => ?_) (fun c_5 => ?_)
  · refine x_aload_n hM dX5_remove_9 rfl rfl ?_
    refine x_get hM wf_X5_26 wl_X5 (by first | assumption | exact str_o (by assumption) | exact str_a (by assumption)) rfl dX5_remove_10 ?_
    refine x_aload_n hM dX5_remove_13 rfl rfl ?_
    refine x_get hM wf_X5_14 wl_X5 (by first | assumption | exact str_o (by assumption) | exact str_a (by assumption)) rfl dX5_remove_14 ?_
    refine x_iload_n hM dX5_remove_17 rfl rfl ?_
    refine x_callV hM wv_X5_43 (m_X4_at (by first | assumption | exact sr1 (by assumption) | exact sr2 (by assumption) | exact sr3 (by assumption) | exact sr4 (by assumption) | exact sr5 (by assumption)) (by omega)) ⟨Nat.le_of_ble_eq_true rfl, Nat.le_of_ble_eq_true rfl⟩ (by first | assumption | exact row_o (by first | assumption | exact sr1 (by assumption) | exact sr2 (by assumption) | exact sr3 (by assumption) | exact sr4 (by assumption) | exact sr5 (by assumption))) rfl rfl rfl rfl (Nat.le_of_ble_eq_true rfl) ⟨Nat.le_of_ble_eq_true rfl, Nat.le_of_ble_eq_true rfl⟩ dX5_remove_18 (k_rI ?_)
    refine x_iconst hM dX5_remove_21 ?_
    refine x_callV hM wv_X5_51 (m_X4_add (by first | assumption | exact sr1 (by assumption) | exact sr2 (by assumption) | exact sr3 (by assumption) | exact sr4 (by assumption) | exact sr5 (by assumption)) (by omega)) ⟨Nat.le_of_ble_eq_true rfl, Nat.le_of_ble_eq_true rfl⟩ (by first | assumption | exact row_o (by first | assumption | exact sr1 (by assumption) | exact sr2 (by assumption) | exact sr3 (by assumption) | exact sr4 (by assumption) | exact sr5 (by assumption))) rfl rfl rfl rfl (Nat.le_of_ble_eq_true rfl) ⟨Nat.le_of_ble_eq_true rfl, Nat.le_of_ble_eq_true rfl⟩ dX5_remove_22 (k_qV fun w_22 q_22 => ?_)
    subst q_22
    have hs1 := hs.u4 (g := fU fr (fo r) (fr (fo r) + -1))
    refine x_aload_n hM dX5_remove_25 rfl rfl ?_
    refine x_get hM wf_X5_29 wl_X5 (by first | assumption | exact str_o (by assumption) | exact str_a (by assumption)) rfl dX5_remove_26 ?_
    refine x_aload_n hM dX5_remove_29 rfl rfl ?_
    refine x_get hM wf_X5_14 wl_X5 (by first | assumption | exact str_o (by assumption) | exact str_a (by assumption)) rfl dX5_remove_30 ?_
    refine x_iload_n hM dX5_remove_33 rfl rfl ?_
    refine x_callV hM wv_X5_43 (m_X4_at (by first | assumption | exact sr1 (by assumption) | exact sr2 (by assumption) | exact sr3 (by assumption) | exact sr4 (by assumption) | exact sr5 (by assumption)) (by omega)) ⟨Nat.le_of_ble_eq_true rfl, Nat.le_of_ble_eq_true rfl⟩ (by first | assumption | exact row_o (by first | assumption | exact sr1 (by assumption) | exact sr2 (by assumption) | exact sr3 (by assumption) | exact sr4 (by assumption) | exact sr5 (by assumption))) rfl rfl rfl rfl (Nat.le_of_ble_eq_true rfl) ⟨Nat.le_of_ble_eq_true rfl, Nat.le_of_ble_eq_true rfl⟩ dX5_remove_34 (k_rI ?_)
    refine x_aload_n hM dX5_remove_37 rfl rfl ?_
    refine x_get hM wf_X5_23 wl_X5 (by first | assumption | exact str_o (by assumption) | exact str_a (by assumption)) rfl dX5_remove_38 ?_
    refine x_iload_n hM dX5_remove_41 rfl rfl ?_
    refine x_callV hM wv_X5_43 (m_X4_at (by first | assumption | exact sr1 (by assumption) | exact sr2 (by assumption) | exact sr3 (by assumption) | exact sr4 (by assumption) | exact sr5 (by assumption)) (by omega)) ⟨Nat.le_of_ble_eq_true rfl, Nat.le_of_ble_eq_true rfl⟩ (by first | assumption | exact row_o (by first | assumption | exact sr1 (by assumption) | exact sr2 (by assumption) | exact sr3 (by assumption) | exact sr4 (by assumption) | exact sr5 (by assumption))) rfl rfl rfl rfl (Nat.le_of_ble_eq_true rfl) ⟨Nat.le_of_ble_eq_true rfl, Nat.le_of_ble_eq_true rfl⟩ dX5_remove_42 (k_rI ?_)
    refine x_ineg hM dX5_remove_45 ?_
    refine x_callV hM wv_X5_51 (m_X4_add (by first | assumption | exact sr1 (by assumption) | exact sr2 (by assumption) | exact sr3 (by assumption) | exact sr4 (by assumption) | exact sr5 (by assumption)) (by omega)) ⟨Nat.le_of_ble_eq_true rfl, Nat.le_of_ble_eq_true rfl⟩ (by first | assumption | exact row_o (by first | assumption | exact sr1 (by assumption) | exact sr2 (by assumption) | exact sr3 (by assumption) | exact sr4 (by assumption) | exact sr5 (by assumption))) rfl rfl rfl rfl (Nat.le_of_ble_eq_true rfl) ⟨Nat.le_of_ble_eq_true rfl, Nat.le_of_ble_eq_true rfl⟩ dX5_remove_46 (k_qV fun w_46 q_46 => ?_)
    subst q_46
    have hs2 := hs1.u5 (g := fU fm (fo r) (fm (fo r) + -(fl r)))
    refine x_aload_n hM dX5_remove_49 rfl rfl ?_
    refine x_dup hM dX5_remove_50 rfl ?_
    refine x_get hM wf_X5_36 wl_X5 (by first | assumption | exact str_o (by assumption) | exact str_a (by assumption)) rfl dX5_remove_51 ?_
    refine x_iconst hM dX5_remove_54 ?_
    refine x_isub hM dX5_remove_55 ?_
    refine x_put hM wf_X5_36 wl_X5 (by first | assumption | exact str_o (by assumption) | exact str_a (by assumption)) wq_X5_36 rfl rfl (Nat.le_of_ble_eq_true rfl) rfl dX5_remove_56 ?_
    have hs3 := hs2.u0 (m := L.length - 1)
    refine x_iload_n hM dX5_remove_59 rfl rfl ?_
    refine x_istore_n hM dX5_remove_60 rfl rfl (Nat.le_of_ble_eq_true rfl) rfl ?_
    refine K (L.length) r _ _ _ _ _ _ (by omega) (by omega) (by omega) (by rw [show ((L.length - 1 : Nat) : Int) = L.length - 1 by omega]; exact hs3) (((Fr.wS (by omega) (by omega)).tr (Fr.wS (by omega) (by omega))).tr (Fr.wS (by omega) (by omega))) (fun j _ _ => ⟨rfl, rfl, rfl⟩) (fun j j1 j2 => by omega) (fun j _ _ => ⟨rfl, rfl, rfl⟩) (fun o o1 o2 => ?_)
    have h5 := hL.2 o o1 o2
    have h6 := cntO_erase hr o
    rw [h6.1, h6.2]
    by_cases e : o = fo r
    · subst e
      rw [fU_eq, fU_eq, if_pos e1.symm, if_pos e1.symm]
      omega
    · rw [fU_ne e, fU_ne e, if_neg (by omega), if_neg (by omega)]
      omega
  · exfalso; omega
end
