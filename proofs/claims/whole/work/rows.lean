section
-- ===== PART A: goes FIRST, ahead of the names: the tables' words, and 'selects' of the private methods out of them =====
/-- a private method of a class that the tables say can be made, by its rows of tables_1 -/
def lw_okq (q : MethodName × Nat) : Prop := (q.1.cls ≠ "java/lang/invoke/MethodHandle" ∧ q.1.cls ≠ "java/lang/invoke/VarHandle") ∧ Cond.instantiable q.1.cls q.2 ∈ tables_1 ∧ Cond.privateMethod q.1 ∈ tables_1 ∧ Cond.instanceMethod q.1 ∈ tables_1
theorem lw_p0 : lw_okq (⟨"java/lang/Throwable", "fillInStackTrace", "(I)Ljava/lang/Throwable;"⟩, 6) := ⟨⟨by decide +kernel, by decide +kernel⟩, List.mem_of_getElem? (i := 275) (by decide +kernel), List.mem_of_getElem? (i := 273) (by decide +kernel), List.mem_of_getElem? (i := 274) (by decide +kernel)⟩
theorem lw_p1 : lw_okq (⟨"SegmentYard", "viewOf", "(I)LSegmentYard$View;"⟩, 6) := ⟨⟨by decide +kernel, by decide +kernel⟩, List.mem_of_getElem? (i := 16) (by decide +kernel), List.mem_of_getElem? (i := 397) (by decide +kernel), List.mem_of_getElem? (i := 398) (by decide +kernel)⟩
theorem lw_p2 : lw_okq (⟨"SegmentYard$Arguments", "isListed", "(I)Z"⟩, 8) := ⟨⟨by decide +kernel, by decide +kernel⟩, List.mem_of_getElem? (i := 97) (by decide +kernel), List.mem_of_getElem? (i := 440) (by decide +kernel), List.mem_of_getElem? (i := 441) (by decide +kernel)⟩
theorem lw_p3 : lw_okq (⟨"SegmentYard", "slotNumber", "(II)I"⟩, 6) := ⟨⟨by decide +kernel, by decide +kernel⟩, List.mem_of_getElem? (i := 16) (by decide +kernel), List.mem_of_getElem? (i := 451) (by decide +kernel), List.mem_of_getElem? (i := 452) (by decide +kernel)⟩
theorem lw_p4 : lw_okq (⟨"SegmentYard", "setSlotNumber", "(III)V"⟩, 6) := ⟨⟨by decide +kernel, by decide +kernel⟩, List.mem_of_getElem? (i := 16) (by decide +kernel), List.mem_of_getElem? (i := 455) (by decide +kernel), List.mem_of_getElem? (i := 456) (by decide +kernel)⟩
theorem lw_p5 : lw_okq (⟨"SegmentYard", "seek", "(LSegmentYard$View;IZ)I"⟩, 6) := ⟨⟨by decide +kernel, by decide +kernel⟩, List.mem_of_getElem? (i := 16) (by decide +kernel), List.mem_of_getElem? (i := 477) (by decide +kernel), List.mem_of_getElem? (i := 478) (by decide +kernel)⟩
theorem lw_p6 : lw_okq (⟨"SegmentYard", "isListOrdered", "(LSegmentYard$View;)Z"⟩, 6) := ⟨⟨by decide +kernel, by decide +kernel⟩, List.mem_of_getElem? (i := 16) (by decide +kernel), List.mem_of_getElem? (i := 481) (by decide +kernel), List.mem_of_getElem? (i := 482) (by decide +kernel)⟩
theorem lw_p7 : lw_okq (⟨"SegmentYard", "placeBehind", "(LSegmentYard$View;)I"⟩, 6) := ⟨⟨by decide +kernel, by decide +kernel⟩, List.mem_of_getElem? (i := 16) (by decide +kernel), List.mem_of_getElem? (i := 507) (by decide +kernel), List.mem_of_getElem? (i := 508) (by decide +kernel)⟩
theorem lw_p8 : lw_okq (⟨"SegmentYard", "countAhead", "(LSegmentYard$View;)I"⟩, 6) := ⟨⟨by decide +kernel, by decide +kernel⟩, List.mem_of_getElem? (i := 16) (by decide +kernel), List.mem_of_getElem? (i := 511) (by decide +kernel), List.mem_of_getElem? (i := 512) (by decide +kernel)⟩
theorem lw_p9 : lw_okq (⟨"SegmentYard", "firstRight", "(LSegmentYard$View;III)I"⟩, 6) := ⟨⟨by decide +kernel, by decide +kernel⟩, List.mem_of_getElem? (i := 16) (by decide +kernel), List.mem_of_getElem? (i := 535) (by decide +kernel), List.mem_of_getElem? (i := 536) (by decide +kernel)⟩
theorem lw_p10 : lw_okq (⟨"SegmentYard", "isRight", "(LSegmentYard$View;II)Z"⟩, 6) := ⟨⟨by decide +kernel, by decide +kernel⟩, List.mem_of_getElem? (i := 16) (by decide +kernel), List.mem_of_getElem? (i := 551) (by decide +kernel), List.mem_of_getElem? (i := 552) (by decide +kernel)⟩
theorem lw_p11 : lw_okq (⟨"SegmentYard", "areCodesRight", "(LSegmentYard$View;II)Z"⟩, 6) := ⟨⟨by decide +kernel, by decide +kernel⟩, List.mem_of_getElem? (i := 16) (by decide +kernel), List.mem_of_getElem? (i := 576) (by decide +kernel), List.mem_of_getElem? (i := 577) (by decide +kernel)⟩
theorem lw_p12 : lw_okq (⟨"SegmentYard", "isTwinFulfilling", "(IIZ)Z"⟩, 6) := ⟨⟨by decide +kernel, by decide +kernel⟩, List.mem_of_getElem? (i := 16) (by decide +kernel), List.mem_of_getElem? (i := 584) (by decide +kernel), List.mem_of_getElem? (i := 585) (by decide +kernel)⟩
theorem lw_p13 : lw_okq (⟨"SegmentYard", "miss", "(LSegmentYard$View;I)I"⟩, 6) := ⟨⟨by decide +kernel, by decide +kernel⟩, List.mem_of_getElem? (i := 16) (by decide +kernel), List.mem_of_getElem? (i := 593) (by decide +kernel), List.mem_of_getElem? (i := 594) (by decide +kernel)⟩
theorem lw_p14 : lw_okq (⟨"SegmentYard", "statusOfStep", "(II)I"⟩, 6) := ⟨⟨by decide +kernel, by decide +kernel⟩, List.mem_of_getElem? (i := 16) (by decide +kernel), List.mem_of_getElem? (i := 598) (by decide +kernel), List.mem_of_getElem? (i := 599) (by decide +kernel)⟩
theorem lw_p15 : lw_okq (⟨"SegmentYard", "deliver", "(LSegmentYard$View;IZ)V"⟩, 6) := ⟨⟨by decide +kernel, by decide +kernel⟩, List.mem_of_getElem? (i := 16) (by decide +kernel), List.mem_of_getElem? (i := 603) (by decide +kernel), List.mem_of_getElem? (i := 604) (by decide +kernel)⟩
def lw_privs_1 : List (MethodName × Nat) := [(⟨"java/lang/Throwable", "fillInStackTrace", "(I)Ljava/lang/Throwable;"⟩, 6), (⟨"SegmentYard", "viewOf", "(I)LSegmentYard$View;"⟩, 6), (⟨"SegmentYard$Arguments", "isListed", "(I)Z"⟩, 8), (⟨"SegmentYard", "slotNumber", "(II)I"⟩, 6), (⟨"SegmentYard", "setSlotNumber", "(III)V"⟩, 6), (⟨"SegmentYard", "seek", "(LSegmentYard$View;IZ)I"⟩, 6), (⟨"SegmentYard", "isListOrdered", "(LSegmentYard$View;)Z"⟩, 6), (⟨"SegmentYard", "placeBehind", "(LSegmentYard$View;)I"⟩, 6), (⟨"SegmentYard", "countAhead", "(LSegmentYard$View;)I"⟩, 6), (⟨"SegmentYard", "firstRight", "(LSegmentYard$View;III)I"⟩, 6), (⟨"SegmentYard", "isRight", "(LSegmentYard$View;II)Z"⟩, 6), (⟨"SegmentYard", "areCodesRight", "(LSegmentYard$View;II)Z"⟩, 6), (⟨"SegmentYard", "isTwinFulfilling", "(IIZ)Z"⟩, 6), (⟨"SegmentYard", "miss", "(LSegmentYard$View;I)I"⟩, 6), (⟨"SegmentYard", "statusOfStep", "(II)I"⟩, 6), (⟨"SegmentYard", "deliver", "(LSegmentYard$View;IZ)V"⟩, 6)]
theorem lw_r1 : ∀ q ∈ lw_privs_1, lw_okq q := List.forall_mem_cons.mpr ⟨lw_p0, List.forall_mem_cons.mpr ⟨lw_p1, List.forall_mem_cons.mpr ⟨lw_p2, List.forall_mem_cons.mpr ⟨lw_p3, List.forall_mem_cons.mpr ⟨lw_p4, List.forall_mem_cons.mpr ⟨lw_p5, List.forall_mem_cons.mpr ⟨lw_p6, List.forall_mem_cons.mpr ⟨lw_p7, List.forall_mem_cons.mpr ⟨lw_p8, List.forall_mem_cons.mpr ⟨lw_p9, List.forall_mem_cons.mpr ⟨lw_p10, List.forall_mem_cons.mpr ⟨lw_p11, List.forall_mem_cons.mpr ⟨lw_p12, List.forall_mem_cons.mpr ⟨lw_p13, List.forall_mem_cons.mpr ⟨lw_p14, List.forall_mem_cons.mpr ⟨lw_p15, fun _ h => absurd h List.not_mem_nil⟩⟩⟩⟩⟩⟩⟩⟩⟩⟩⟩⟩⟩⟩⟩⟩
theorem lw_p16 : lw_okq (⟨"SegmentYard", "deliverOne", "(LSegmentYard$View;IIIZ)V"⟩, 6) := ⟨⟨by decide +kernel, by decide +kernel⟩, List.mem_of_getElem? (i := 16) (by decide +kernel), List.mem_of_getElem? (i := 607) (by decide +kernel), List.mem_of_getElem? (i := 608) (by decide +kernel)⟩
theorem lw_p17 : lw_okq (⟨"SegmentYard", "fillSlot", "(II)V"⟩, 6) := ⟨⟨by decide +kernel, by decide +kernel⟩, List.mem_of_getElem? (i := 16) (by decide +kernel), List.mem_of_getElem? (i := 611) (by decide +kernel), List.mem_of_getElem? (i := 612) (by decide +kernel)⟩
theorem lw_p18 : lw_okq (⟨"SegmentYard", "parentageOf", "(I)I"⟩, 6) := ⟨⟨by decide +kernel, by decide +kernel⟩, List.mem_of_getElem? (i := 16) (by decide +kernel), List.mem_of_getElem? (i := 620) (by decide +kernel), List.mem_of_getElem? (i := 621) (by decide +kernel)⟩
theorem lw_p19 : lw_okq (⟨"SegmentYard", "insertListed", "(LSegmentYard$View;)I"⟩, 6) := ⟨⟨by decide +kernel, by decide +kernel⟩, List.mem_of_getElem? (i := 16) (by decide +kernel), List.mem_of_getElem? (i := 639) (by decide +kernel), List.mem_of_getElem? (i := 640) (by decide +kernel)⟩
theorem lw_p20 : lw_okq (⟨"SegmentYard", "areNewOnesOrdered", "(I)Z"⟩, 6) := ⟨⟨by decide +kernel, by decide +kernel⟩, List.mem_of_getElem? (i := 16) (by decide +kernel), List.mem_of_getElem? (i := 648) (by decide +kernel), List.mem_of_getElem? (i := 649) (by decide +kernel)⟩
theorem lw_p21 : lw_okq (⟨"SegmentYard", "gatherNeedsOfNew", "(I)V"⟩, 6) := ⟨⟨by decide +kernel, by decide +kernel⟩, List.mem_of_getElem? (i := 16) (by decide +kernel), List.mem_of_getElem? (i := 663) (by decide +kernel), List.mem_of_getElem? (i := 664) (by decide +kernel)⟩
theorem lw_p22 : lw_okq (⟨"SegmentYard", "needRoot", "(II)V"⟩, 6) := ⟨⟨by decide +kernel, by decide +kernel⟩, List.mem_of_getElem? (i := 16) (by decide +kernel), List.mem_of_getElem? (i := 671) (by decide +kernel), List.mem_of_getElem? (i := 672) (by decide +kernel)⟩
theorem lw_p23 : lw_okq (⟨"SegmentYard", "statusOfNeeds", "(I)I"⟩, 6) := ⟨⟨by decide +kernel, by decide +kernel⟩, List.mem_of_getElem? (i := 16) (by decide +kernel), List.mem_of_getElem? (i := 691) (by decide +kernel), List.mem_of_getElem? (i := 692) (by decide +kernel)⟩
theorem lw_p24 : lw_okq (⟨"SegmentYard", "makeNeeded", "()V"⟩, 6) := ⟨⟨by decide +kernel, by decide +kernel⟩, List.mem_of_getElem? (i := 16) (by decide +kernel), List.mem_of_getElem? (i := 707) (by decide +kernel), List.mem_of_getElem? (i := 708) (by decide +kernel)⟩
theorem lw_p25 : lw_okq (⟨"SegmentYard", "addSegment", "(IIII)I"⟩, 6) := ⟨⟨by decide +kernel, by decide +kernel⟩, List.mem_of_getElem? (i := 16) (by decide +kernel), List.mem_of_getElem? (i := 719) (by decide +kernel), List.mem_of_getElem? (i := 720) (by decide +kernel)⟩
theorem lw_p26 : lw_okq (⟨"SegmentYard", "twinBehindNew", "(IIII)I"⟩, 6) := ⟨⟨by decide +kernel, by decide +kernel⟩, List.mem_of_getElem? (i := 16) (by decide +kernel), List.mem_of_getElem? (i := 723) (by decide +kernel), List.mem_of_getElem? (i := 724) (by decide +kernel)⟩
theorem lw_p27 : lw_okq (⟨"SegmentYard$Store", "endOfTwins", "(II)I"⟩, 10) := ⟨⟨by decide +kernel, by decide +kernel⟩, List.mem_of_getElem? (i := 59) (by decide +kernel), List.mem_of_getElem? (i := 735) (by decide +kernel), List.mem_of_getElem? (i := 736) (by decide +kernel)⟩
theorem lw_p28 : lw_okq (⟨"SegmentYard$Store", "liesUpTo", "(III)Z"⟩, 10) := ⟨⟨by decide +kernel, by decide +kernel⟩, List.mem_of_getElem? (i := 59) (by decide +kernel), List.mem_of_getElem? (i := 743) (by decide +kernel), List.mem_of_getElem? (i := 744) (by decide +kernel)⟩
theorem lw_p29 : lw_okq (⟨"SegmentYard$Store", "unused", "()I"⟩, 10) := ⟨⟨by decide +kernel, by decide +kernel⟩, List.mem_of_getElem? (i := 59) (by decide +kernel), List.mem_of_getElem? (i := 747) (by decide +kernel), List.mem_of_getElem? (i := 748) (by decide +kernel)⟩
theorem lw_p30 : lw_okq (⟨"SegmentYard$Store", "makeRank", "(III)I"⟩, 10) := ⟨⟨by decide +kernel, by decide +kernel⟩, List.mem_of_getElem? (i := 59) (by decide +kernel), List.mem_of_getElem? (i := 751) (by decide +kernel), List.mem_of_getElem? (i := 752) (by decide +kernel)⟩
theorem lw_p31 : lw_okq (⟨"SegmentYard$Store", "putInRow", "(III)V"⟩, 10) := ⟨⟨by decide +kernel, by decide +kernel⟩, List.mem_of_getElem? (i := 59) (by decide +kernel), List.mem_of_getElem? (i := 765) (by decide +kernel), List.mem_of_getElem? (i := 766) (by decide +kernel)⟩
def lw_privs_2 : List (MethodName × Nat) := [(⟨"SegmentYard", "deliverOne", "(LSegmentYard$View;IIIZ)V"⟩, 6), (⟨"SegmentYard", "fillSlot", "(II)V"⟩, 6), (⟨"SegmentYard", "parentageOf", "(I)I"⟩, 6), (⟨"SegmentYard", "insertListed", "(LSegmentYard$View;)I"⟩, 6), (⟨"SegmentYard", "areNewOnesOrdered", "(I)Z"⟩, 6), (⟨"SegmentYard", "gatherNeedsOfNew", "(I)V"⟩, 6), (⟨"SegmentYard", "needRoot", "(II)V"⟩, 6), (⟨"SegmentYard", "statusOfNeeds", "(I)I"⟩, 6), (⟨"SegmentYard", "makeNeeded", "()V"⟩, 6), (⟨"SegmentYard", "addSegment", "(IIII)I"⟩, 6), (⟨"SegmentYard", "twinBehindNew", "(IIII)I"⟩, 6), (⟨"SegmentYard$Store", "endOfTwins", "(II)I"⟩, 10), (⟨"SegmentYard$Store", "liesUpTo", "(III)Z"⟩, 10), (⟨"SegmentYard$Store", "unused", "()I"⟩, 10), (⟨"SegmentYard$Store", "makeRank", "(III)I"⟩, 10), (⟨"SegmentYard$Store", "putInRow", "(III)V"⟩, 10)]
theorem lw_r2 : ∀ q ∈ lw_privs_2, lw_okq q := List.forall_mem_cons.mpr ⟨lw_p16, List.forall_mem_cons.mpr ⟨lw_p17, List.forall_mem_cons.mpr ⟨lw_p18, List.forall_mem_cons.mpr ⟨lw_p19, List.forall_mem_cons.mpr ⟨lw_p20, List.forall_mem_cons.mpr ⟨lw_p21, List.forall_mem_cons.mpr ⟨lw_p22, List.forall_mem_cons.mpr ⟨lw_p23, List.forall_mem_cons.mpr ⟨lw_p24, List.forall_mem_cons.mpr ⟨lw_p25, List.forall_mem_cons.mpr ⟨lw_p26, List.forall_mem_cons.mpr ⟨lw_p27, List.forall_mem_cons.mpr ⟨lw_p28, List.forall_mem_cons.mpr ⟨lw_p29, List.forall_mem_cons.mpr ⟨lw_p30, List.forall_mem_cons.mpr ⟨lw_p31, fun _ h => absurd h List.not_mem_nil⟩⟩⟩⟩⟩⟩⟩⟩⟩⟩⟩⟩⟩⟩⟩⟩
theorem lw_p32 : lw_okq (⟨"SegmentYard$Store", "numberPlaces", "(I)V"⟩, 10) := ⟨⟨by decide +kernel, by decide +kernel⟩, List.mem_of_getElem? (i := 59) (by decide +kernel), List.mem_of_getElem? (i := 770) (by decide +kernel), List.mem_of_getElem? (i := 771) (by decide +kernel)⟩
theorem lw_p33 : lw_okq (⟨"SegmentYard", "insertNew", "(LSegmentYard$View;II)V"⟩, 6) := ⟨⟨by decide +kernel, by decide +kernel⟩, List.mem_of_getElem? (i := 16) (by decide +kernel), List.mem_of_getElem? (i := 775) (by decide +kernel), List.mem_of_getElem? (i := 776) (by decide +kernel)⟩
theorem lw_p34 : lw_okq (⟨"SegmentYard", "fillSegment", "(II)V"⟩, 6) := ⟨⟨by decide +kernel, by decide +kernel⟩, List.mem_of_getElem? (i := 16) (by decide +kernel), List.mem_of_getElem? (i := 779) (by decide +kernel), List.mem_of_getElem? (i := 780) (by decide +kernel)⟩
theorem lw_p35 : lw_okq (⟨"SegmentYard", "replaceHeld", "(LSegmentYard$View;)I"⟩, 6) := ⟨⟨by decide +kernel, by decide +kernel⟩, List.mem_of_getElem? (i := 16) (by decide +kernel), List.mem_of_getElem? (i := 790) (by decide +kernel), List.mem_of_getElem? (i := 791) (by decide +kernel)⟩
theorem lw_p36 : lw_okq (⟨"SegmentYard", "wouldChangeKey", "(LSegmentYard$View;)Z"⟩, 6) := ⟨⟨by decide +kernel, by decide +kernel⟩, List.mem_of_getElem? (i := 16) (by decide +kernel), List.mem_of_getElem? (i := 798) (by decide +kernel), List.mem_of_getElem? (i := 799) (by decide +kernel)⟩
theorem lw_p37 : lw_okq (⟨"SegmentYard", "gatherNeedsOfHeld", "(LSegmentYard$View;)V"⟩, 6) := ⟨⟨by decide +kernel, by decide +kernel⟩, List.mem_of_getElem? (i := 16) (by decide +kernel), List.mem_of_getElem? (i := 810) (by decide +kernel), List.mem_of_getElem? (i := 811) (by decide +kernel)⟩
theorem lw_p38 : lw_okq (⟨"SegmentYard", "fillHeld", "(LSegmentYard$View;)V"⟩, 6) := ⟨⟨by decide +kernel, by decide +kernel⟩, List.mem_of_getElem? (i := 16) (by decide +kernel), List.mem_of_getElem? (i := 814) (by decide +kernel), List.mem_of_getElem? (i := 815) (by decide +kernel)⟩
theorem lw_p39 : lw_okq (⟨"SegmentYard", "deleteFrom", "(I)I"⟩, 6) := ⟨⟨by decide +kernel, by decide +kernel⟩, List.mem_of_getElem? (i := 16) (by decide +kernel), List.mem_of_getElem? (i := 830) (by decide +kernel), List.mem_of_getElem? (i := 831) (by decide +kernel)⟩
theorem lw_p40 : lw_okq (⟨"SegmentYard", "isBound", "(I)Z"⟩, 6) := ⟨⟨by decide +kernel, by decide +kernel⟩, List.mem_of_getElem? (i := 16) (by decide +kernel), List.mem_of_getElem? (i := 852) (by decide +kernel), List.mem_of_getElem? (i := 853) (by decide +kernel)⟩
theorem lw_p41 : lw_okq (⟨"SegmentYard", "leaveDoomed", "(LSegmentYard$View;)V"⟩, 6) := ⟨⟨by decide +kernel, by decide +kernel⟩, List.mem_of_getElem? (i := 16) (by decide +kernel), List.mem_of_getElem? (i := 860) (by decide +kernel), List.mem_of_getElem? (i := 861) (by decide +kernel)⟩
theorem lw_p42 : lw_okq (⟨"SegmentYard", "isPlace", "(II)Z"⟩, 6) := ⟨⟨by decide +kernel, by decide +kernel⟩, List.mem_of_getElem? (i := 16) (by decide +kernel), List.mem_of_getElem? (i := 896) (by decide +kernel), List.mem_of_getElem? (i := 897) (by decide +kernel)⟩
theorem lw_p43 : lw_okq (⟨"SegmentYard", "comparedAhead", "(II)I"⟩, 6) := ⟨⟨by decide +kernel, by decide +kernel⟩, List.mem_of_getElem? (i := 16) (by decide +kernel), List.mem_of_getElem? (i := 912) (by decide +kernel), List.mem_of_getElem? (i := 913) (by decide +kernel)⟩
theorem lw_p44 : lw_okq (⟨"SegmentYard$Store", "climb", "(II)I"⟩, 10) := ⟨⟨by decide +kernel, by decide +kernel⟩, List.mem_of_getElem? (i := 59) (by decide +kernel), List.mem_of_getElem? (i := 921) (by decide +kernel), List.mem_of_getElem? (i := 922) (by decide +kernel)⟩
theorem lw_p45 : lw_okq (⟨"SegmentYardModel", "opens", "(III)V"⟩, 37) := ⟨⟨by decide +kernel, by decide +kernel⟩, List.mem_of_getElem? (i := 983) (by decide +kernel), List.mem_of_getElem? (i := 989) (by decide +kernel), List.mem_of_getElem? (i := 990) (by decide +kernel)⟩
theorem lw_p46 : lw_okq (⟨"SegmentYardModel", "isType", "(I)Z"⟩, 37) := ⟨⟨by decide +kernel, by decide +kernel⟩, List.mem_of_getElem? (i := 983) (by decide +kernel), List.mem_of_getElem? (i := 1119) (by decide +kernel), List.mem_of_getElem? (i := 1120) (by decide +kernel)⟩
theorem lw_p47 : lw_okq (⟨"SegmentYardModel", "hasRoot", "(I)Z"⟩, 37) := ⟨⟨by decide +kernel, by decide +kernel⟩, List.mem_of_getElem? (i := 983) (by decide +kernel), List.mem_of_getElem? (i := 1123) (by decide +kernel), List.mem_of_getElem? (i := 1124) (by decide +kernel)⟩
def lw_privs_3 : List (MethodName × Nat) := [(⟨"SegmentYard$Store", "numberPlaces", "(I)V"⟩, 10), (⟨"SegmentYard", "insertNew", "(LSegmentYard$View;II)V"⟩, 6), (⟨"SegmentYard", "fillSegment", "(II)V"⟩, 6), (⟨"SegmentYard", "replaceHeld", "(LSegmentYard$View;)I"⟩, 6), (⟨"SegmentYard", "wouldChangeKey", "(LSegmentYard$View;)Z"⟩, 6), (⟨"SegmentYard", "gatherNeedsOfHeld", "(LSegmentYard$View;)V"⟩, 6), (⟨"SegmentYard", "fillHeld", "(LSegmentYard$View;)V"⟩, 6), (⟨"SegmentYard", "deleteFrom", "(I)I"⟩, 6), (⟨"SegmentYard", "isBound", "(I)Z"⟩, 6), (⟨"SegmentYard", "leaveDoomed", "(LSegmentYard$View;)V"⟩, 6), (⟨"SegmentYard", "isPlace", "(II)Z"⟩, 6), (⟨"SegmentYard", "comparedAhead", "(II)I"⟩, 6), (⟨"SegmentYard$Store", "climb", "(II)I"⟩, 10), (⟨"SegmentYardModel", "opens", "(III)V"⟩, 37), (⟨"SegmentYardModel", "isType", "(I)Z"⟩, 37), (⟨"SegmentYardModel", "hasRoot", "(I)Z"⟩, 37)]
theorem lw_r3 : ∀ q ∈ lw_privs_3, lw_okq q := List.forall_mem_cons.mpr ⟨lw_p32, List.forall_mem_cons.mpr ⟨lw_p33, List.forall_mem_cons.mpr ⟨lw_p34, List.forall_mem_cons.mpr ⟨lw_p35, List.forall_mem_cons.mpr ⟨lw_p36, List.forall_mem_cons.mpr ⟨lw_p37, List.forall_mem_cons.mpr ⟨lw_p38, List.forall_mem_cons.mpr ⟨lw_p39, List.forall_mem_cons.mpr ⟨lw_p40, List.forall_mem_cons.mpr ⟨lw_p41, List.forall_mem_cons.mpr ⟨lw_p42, List.forall_mem_cons.mpr ⟨lw_p43, List.forall_mem_cons.mpr ⟨lw_p44, List.forall_mem_cons.mpr ⟨lw_p45, List.forall_mem_cons.mpr ⟨lw_p46, List.forall_mem_cons.mpr ⟨lw_p47, fun _ h => absurd h List.not_mem_nil⟩⟩⟩⟩⟩⟩⟩⟩⟩⟩⟩⟩⟩⟩⟩⟩
theorem lw_p48 : lw_okq (⟨"SegmentYardModel", "goes", "(ZZZ)Z"⟩, 37) := ⟨⟨by decide +kernel, by decide +kernel⟩, List.mem_of_getElem? (i := 983) (by decide +kernel), List.mem_of_getElem? (i := 1127) (by decide +kernel), List.mem_of_getElem? (i := 1128) (by decide +kernel)⟩
theorem lw_p49 : lw_okq (⟨"SegmentYardModel", "clears", "()I"⟩, 37) := ⟨⟨by decide +kernel, by decide +kernel⟩, List.mem_of_getElem? (i := 983) (by decide +kernel), List.mem_of_getElem? (i := 1157) (by decide +kernel), List.mem_of_getElem? (i := 1158) (by decide +kernel)⟩
theorem lw_p50 : lw_okq (⟨"SegmentYardModel", "told", "(I)I"⟩, 37) := ⟨⟨by decide +kernel, by decide +kernel⟩, List.mem_of_getElem? (i := 983) (by decide +kernel), List.mem_of_getElem? (i := 1161) (by decide +kernel), List.mem_of_getElem? (i := 1162) (by decide +kernel)⟩
theorem lw_p51 : lw_okq (⟨"SegmentYardModel", "loses", "(I)V"⟩, 37) := ⟨⟨by decide +kernel, by decide +kernel⟩, List.mem_of_getElem? (i := 983) (by decide +kernel), List.mem_of_getElem? (i := 1180) (by decide +kernel), List.mem_of_getElem? (i := 1181) (by decide +kernel)⟩
theorem lw_p52 : lw_okq (⟨"SegmentYardModel", "gets", "(IIZ)I"⟩, 37) := ⟨⟨by decide +kernel, by decide +kernel⟩, List.mem_of_getElem? (i := 983) (by decide +kernel), List.mem_of_getElem? (i := 1184) (by decide +kernel), List.mem_of_getElem? (i := 1185) (by decide +kernel)⟩
theorem lw_p53 : lw_okq (⟨"SegmentYardModel", "isList", "(I)Z"⟩, 37) := ⟨⟨by decide +kernel, by decide +kernel⟩, List.mem_of_getElem? (i := 983) (by decide +kernel), List.mem_of_getElem? (i := 1188) (by decide +kernel), List.mem_of_getElem? (i := 1189) (by decide +kernel)⟩
theorem lw_p54 : lw_okq (⟨"SegmentYardModel", "sees", "(II)Z"⟩, 37) := ⟨⟨by decide +kernel, by decide +kernel⟩, List.mem_of_getElem? (i := 983) (by decide +kernel), List.mem_of_getElem? (i := 1192) (by decide +kernel), List.mem_of_getElem? (i := 1193) (by decide +kernel)⟩
theorem lw_p55 : lw_okq (⟨"SegmentYardModel", "isBelow", "(II)Z"⟩, 37) := ⟨⟨by decide +kernel, by decide +kernel⟩, List.mem_of_getElem? (i := 983) (by decide +kernel), List.mem_of_getElem? (i := 1196) (by decide +kernel), List.mem_of_getElem? (i := 1197) (by decide +kernel)⟩
theorem lw_p56 : lw_okq (⟨"SegmentYardModel", "finds", "(II)I"⟩, 37) := ⟨⟨by decide +kernel, by decide +kernel⟩, List.mem_of_getElem? (i := 983) (by decide +kernel), List.mem_of_getElem? (i := 1200) (by decide +kernel), List.mem_of_getElem? (i := 1201) (by decide +kernel)⟩
theorem lw_p57 : lw_okq (⟨"SegmentYardModel", "from", "(I)I"⟩, 37) := ⟨⟨by decide +kernel, by decide +kernel⟩, List.mem_of_getElem? (i := 983) (by decide +kernel), List.mem_of_getElem? (i := 1204) (by decide +kernel), List.mem_of_getElem? (i := 1205) (by decide +kernel)⟩
theorem lw_p58 : lw_okq (⟨"SegmentYardModel", "placeOf", "(I)I"⟩, 37) := ⟨⟨by decide +kernel, by decide +kernel⟩, List.mem_of_getElem? (i := 983) (by decide +kernel), List.mem_of_getElem? (i := 1208) (by decide +kernel), List.mem_of_getElem? (i := 1209) (by decide +kernel)⟩
theorem lw_p59 : lw_okq (⟨"SegmentYardModel", "segmentAt", "(II)I"⟩, 37) := ⟨⟨by decide +kernel, by decide +kernel⟩, List.mem_of_getElem? (i := 983) (by decide +kernel), List.mem_of_getElem? (i := 1212) (by decide +kernel), List.mem_of_getElem? (i := 1213) (by decide +kernel)⟩
theorem lw_p60 : lw_okq (⟨"SegmentYardModel", "isUnder", "(II)Z"⟩, 37) := ⟨⟨by decide +kernel, by decide +kernel⟩, List.mem_of_getElem? (i := 983) (by decide +kernel), List.mem_of_getElem? (i := 1216) (by decide +kernel), List.mem_of_getElem? (i := 1217) (by decide +kernel)⟩
theorem lw_p61 : lw_okq (⟨"SegmentYardModel", "isRight", "(III)Z"⟩, 37) := ⟨⟨by decide +kernel, by decide +kernel⟩, List.mem_of_getElem? (i := 983) (by decide +kernel), List.mem_of_getElem? (i := 1220) (by decide +kernel), List.mem_of_getElem? (i := 1221) (by decide +kernel)⟩
theorem lw_p62 : lw_okq (⟨"SegmentYardModel", "among", "(II)I"⟩, 37) := ⟨⟨by decide +kernel, by decide +kernel⟩, List.mem_of_getElem? (i := 983) (by decide +kernel), List.mem_of_getElem? (i := 1224) (by decide +kernel), List.mem_of_getElem? (i := 1225) (by decide +kernel)⟩
theorem lw_p63 : lw_okq (⟨"SegmentYardModel", "isRightFor", "(III)Z"⟩, 37) := ⟨⟨by decide +kernel, by decide +kernel⟩, List.mem_of_getElem? (i := 983) (by decide +kernel), List.mem_of_getElem? (i := 1228) (by decide +kernel), List.mem_of_getElem? (i := 1229) (by decide +kernel)⟩
def lw_privs_4 : List (MethodName × Nat) := [(⟨"SegmentYardModel", "goes", "(ZZZ)Z"⟩, 37), (⟨"SegmentYardModel", "clears", "()I"⟩, 37), (⟨"SegmentYardModel", "told", "(I)I"⟩, 37), (⟨"SegmentYardModel", "loses", "(I)V"⟩, 37), (⟨"SegmentYardModel", "gets", "(IIZ)I"⟩, 37), (⟨"SegmentYardModel", "isList", "(I)Z"⟩, 37), (⟨"SegmentYardModel", "sees", "(II)Z"⟩, 37), (⟨"SegmentYardModel", "isBelow", "(II)Z"⟩, 37), (⟨"SegmentYardModel", "finds", "(II)I"⟩, 37), (⟨"SegmentYardModel", "from", "(I)I"⟩, 37), (⟨"SegmentYardModel", "placeOf", "(I)I"⟩, 37), (⟨"SegmentYardModel", "segmentAt", "(II)I"⟩, 37), (⟨"SegmentYardModel", "isUnder", "(II)Z"⟩, 37), (⟨"SegmentYardModel", "isRight", "(III)Z"⟩, 37), (⟨"SegmentYardModel", "among", "(II)I"⟩, 37), (⟨"SegmentYardModel", "isRightFor", "(III)Z"⟩, 37)]
theorem lw_r4 : ∀ q ∈ lw_privs_4, lw_okq q := List.forall_mem_cons.mpr ⟨lw_p48, List.forall_mem_cons.mpr ⟨lw_p49, List.forall_mem_cons.mpr ⟨lw_p50, List.forall_mem_cons.mpr ⟨lw_p51, List.forall_mem_cons.mpr ⟨lw_p52, List.forall_mem_cons.mpr ⟨lw_p53, List.forall_mem_cons.mpr ⟨lw_p54, List.forall_mem_cons.mpr ⟨lw_p55, List.forall_mem_cons.mpr ⟨lw_p56, List.forall_mem_cons.mpr ⟨lw_p57, List.forall_mem_cons.mpr ⟨lw_p58, List.forall_mem_cons.mpr ⟨lw_p59, List.forall_mem_cons.mpr ⟨lw_p60, List.forall_mem_cons.mpr ⟨lw_p61, List.forall_mem_cons.mpr ⟨lw_p62, List.forall_mem_cons.mpr ⟨lw_p63, fun _ h => absurd h List.not_mem_nil⟩⟩⟩⟩⟩⟩⟩⟩⟩⟩⟩⟩⟩⟩⟩⟩
theorem lw_p64 : lw_okq (⟨"SegmentYardModel", "fulfils", "(II)Z"⟩, 37) := ⟨⟨by decide +kernel, by decide +kernel⟩, List.mem_of_getElem? (i := 983) (by decide +kernel), List.mem_of_getElem? (i := 1232) (by decide +kernel), List.mem_of_getElem? (i := 1233) (by decide +kernel)⟩
theorem lw_p65 : lw_okq (⟨"SegmentYardModel", "hasCode", "(II)Z"⟩, 37) := ⟨⟨by decide +kernel, by decide +kernel⟩, List.mem_of_getElem? (i := 983) (by decide +kernel), List.mem_of_getElem? (i := 1239) (by decide +kernel), List.mem_of_getElem? (i := 1240) (by decide +kernel)⟩
theorem lw_p66 : lw_okq (⟨"SegmentYardModel", "hasTwin", "(IIZ)Z"⟩, 37) := ⟨⟨by decide +kernel, by decide +kernel⟩, List.mem_of_getElem? (i := 983) (by decide +kernel), List.mem_of_getElem? (i := 1243) (by decide +kernel), List.mem_of_getElem? (i := 1244) (by decide +kernel)⟩
theorem lw_p67 : lw_okq (⟨"SegmentYardModel", "areTwins", "(II)Z"⟩, 37) := ⟨⟨by decide +kernel, by decide +kernel⟩, List.mem_of_getElem? (i := 983) (by decide +kernel), List.mem_of_getElem? (i := 1247) (by decide +kernel), List.mem_of_getElem? (i := 1248) (by decide +kernel)⟩
theorem lw_p68 : lw_okq (⟨"SegmentYardModel", "comesTo", "(IIIZ)I"⟩, 37) := ⟨⟨by decide +kernel, by decide +kernel⟩, List.mem_of_getElem? (i := 983) (by decide +kernel), List.mem_of_getElem? (i := 1251) (by decide +kernel), List.mem_of_getElem? (i := 1252) (by decide +kernel)⟩
theorem lw_p69 : lw_okq (⟨"SegmentYardModel", "fills", "(IIIZI)V"⟩, 37) := ⟨⟨by decide +kernel, by decide +kernel⟩, List.mem_of_getElem? (i := 983) (by decide +kernel), List.mem_of_getElem? (i := 1255) (by decide +kernel), List.mem_of_getElem? (i := 1256) (by decide +kernel)⟩
theorem lw_p70 : lw_okq (⟨"SegmentYardModel", "insertsAll", "(I)I"⟩, 37) := ⟨⟨by decide +kernel, by decide +kernel⟩, List.mem_of_getElem? (i := 983) (by decide +kernel), List.mem_of_getElem? (i := 1263) (by decide +kernel), List.mem_of_getElem? (i := 1264) (by decide +kernel)⟩
theorem lw_p71 : lw_okq (⟨"SegmentYardModel", "firstNew", "()I"⟩, 37) := ⟨⟨by decide +kernel, by decide +kernel⟩, List.mem_of_getElem? (i := 983) (by decide +kernel), List.mem_of_getElem? (i := 1267) (by decide +kernel), List.mem_of_getElem? (i := 1268) (by decide +kernel)⟩
theorem lw_p72 : lw_okq (⟨"SegmentYardModel", "areNew", "(I)Z"⟩, 37) := ⟨⟨by decide +kernel, by decide +kernel⟩, List.mem_of_getElem? (i := 983) (by decide +kernel), List.mem_of_getElem? (i := 1271) (by decide +kernel), List.mem_of_getElem? (i := 1272) (by decide +kernel)⟩
theorem lw_p73 : lw_okq (⟨"SegmentYardModel", "parentFor", "(II)I"⟩, 37) := ⟨⟨by decide +kernel, by decide +kernel⟩, List.mem_of_getElem? (i := 983) (by decide +kernel), List.mem_of_getElem? (i := 1275) (by decide +kernel), List.mem_of_getElem? (i := 1276) (by decide +kernel)⟩
theorem lw_p74 : lw_okq (⟨"SegmentYardModel", "isDouble", "(III)Z"⟩, 37) := ⟨⟨by decide +kernel, by decide +kernel⟩, List.mem_of_getElem? (i := 983) (by decide +kernel), List.mem_of_getElem? (i := 1279) (by decide +kernel), List.mem_of_getElem? (i := 1280) (by decide +kernel)⟩
theorem lw_p75 : lw_okq (⟨"SegmentYardModel", "key", "(I)I"⟩, 37) := ⟨⟨by decide +kernel, by decide +kernel⟩, List.mem_of_getElem? (i := 983) (by decide +kernel), List.mem_of_getElem? (i := 1283) (by decide +kernel), List.mem_of_getElem? (i := 1284) (by decide +kernel)⟩
theorem lw_p76 : lw_okq (⟨"SegmentYardModel", "needsAll", "(I)Z"⟩, 37) := ⟨⟨by decide +kernel, by decide +kernel⟩, List.mem_of_getElem? (i := 983) (by decide +kernel), List.mem_of_getElem? (i := 1287) (by decide +kernel), List.mem_of_getElem? (i := 1288) (by decide +kernel)⟩
theorem lw_p77 : lw_okq (⟨"SegmentYardModel", "needs", "(II)Z"⟩, 37) := ⟨⟨by decide +kernel, by decide +kernel⟩, List.mem_of_getElem? (i := 983) (by decide +kernel), List.mem_of_getElem? (i := 1291) (by decide +kernel), List.mem_of_getElem? (i := 1292) (by decide +kernel)⟩
theorem lw_p78 : lw_okq (⟨"SegmentYardModel", "rootOf", "(II)I"⟩, 37) := ⟨⟨by decide +kernel, by decide +kernel⟩, List.mem_of_getElem? (i := 983) (by decide +kernel), List.mem_of_getElem? (i := 1295) (by decide +kernel), List.mem_of_getElem? (i := 1296) (by decide +kernel)⟩
theorem lw_p79 : lw_okq (⟨"SegmentYardModel", "all", "()I"⟩, 37) := ⟨⟨by decide +kernel, by decide +kernel⟩, List.mem_of_getElem? (i := 983) (by decide +kernel), List.mem_of_getElem? (i := 1299) (by decide +kernel), List.mem_of_getElem? (i := 1300) (by decide +kernel)⟩
def lw_privs_5 : List (MethodName × Nat) := [(⟨"SegmentYardModel", "fulfils", "(II)Z"⟩, 37), (⟨"SegmentYardModel", "hasCode", "(II)Z"⟩, 37), (⟨"SegmentYardModel", "hasTwin", "(IIZ)Z"⟩, 37), (⟨"SegmentYardModel", "areTwins", "(II)Z"⟩, 37), (⟨"SegmentYardModel", "comesTo", "(IIIZ)I"⟩, 37), (⟨"SegmentYardModel", "fills", "(IIIZI)V"⟩, 37), (⟨"SegmentYardModel", "insertsAll", "(I)I"⟩, 37), (⟨"SegmentYardModel", "firstNew", "()I"⟩, 37), (⟨"SegmentYardModel", "areNew", "(I)Z"⟩, 37), (⟨"SegmentYardModel", "parentFor", "(II)I"⟩, 37), (⟨"SegmentYardModel", "isDouble", "(III)Z"⟩, 37), (⟨"SegmentYardModel", "key", "(I)I"⟩, 37), (⟨"SegmentYardModel", "needsAll", "(I)Z"⟩, 37), (⟨"SegmentYardModel", "needs", "(II)Z"⟩, 37), (⟨"SegmentYardModel", "rootOf", "(II)I"⟩, 37), (⟨"SegmentYardModel", "all", "()I"⟩, 37)]
theorem lw_r5 : ∀ q ∈ lw_privs_5, lw_okq q := List.forall_mem_cons.mpr ⟨lw_p64, List.forall_mem_cons.mpr ⟨lw_p65, List.forall_mem_cons.mpr ⟨lw_p66, List.forall_mem_cons.mpr ⟨lw_p67, List.forall_mem_cons.mpr ⟨lw_p68, List.forall_mem_cons.mpr ⟨lw_p69, List.forall_mem_cons.mpr ⟨lw_p70, List.forall_mem_cons.mpr ⟨lw_p71, List.forall_mem_cons.mpr ⟨lw_p72, List.forall_mem_cons.mpr ⟨lw_p73, List.forall_mem_cons.mpr ⟨lw_p74, List.forall_mem_cons.mpr ⟨lw_p75, List.forall_mem_cons.mpr ⟨lw_p76, List.forall_mem_cons.mpr ⟨lw_p77, List.forall_mem_cons.mpr ⟨lw_p78, List.forall_mem_cons.mpr ⟨lw_p79, fun _ h => absurd h List.not_mem_nil⟩⟩⟩⟩⟩⟩⟩⟩⟩⟩⟩⟩⟩⟩⟩⟩
theorem lw_p80 : lw_okq (⟨"SegmentYardModel", "makes", "()V"⟩, 37) := ⟨⟨by decide +kernel, by decide +kernel⟩, List.mem_of_getElem? (i := 983) (by decide +kernel), List.mem_of_getElem? (i := 1303) (by decide +kernel), List.mem_of_getElem? (i := 1304) (by decide +kernel)⟩
theorem lw_p81 : lw_okq (⟨"SegmentYardModel", "inserts", "(IIII)I"⟩, 37) := ⟨⟨by decide +kernel, by decide +kernel⟩, List.mem_of_getElem? (i := 983) (by decide +kernel), List.mem_of_getElem? (i := 1307) (by decide +kernel), List.mem_of_getElem? (i := 1308) (by decide +kernel)⟩
theorem lw_p82 : lw_okq (⟨"SegmentYardModel", "isBehind", "(IIIII)Z"⟩, 37) := ⟨⟨by decide +kernel, by decide +kernel⟩, List.mem_of_getElem? (i := 983) (by decide +kernel), List.mem_of_getElem? (i := 1311) (by decide +kernel), List.mem_of_getElem? (i := 1312) (by decide +kernel)⟩
theorem lw_p83 : lw_okq (⟨"SegmentYardModel", "liesAhead", "(IIII)Z"⟩, 37) := ⟨⟨by decide +kernel, by decide +kernel⟩, List.mem_of_getElem? (i := 983) (by decide +kernel), List.mem_of_getElem? (i := 1315) (by decide +kernel), List.mem_of_getElem? (i := 1316) (by decide +kernel)⟩
theorem lw_p84 : lw_okq (⟨"SegmentYardModel", "replaces", "(I)I"⟩, 37) := ⟨⟨by decide +kernel, by decide +kernel⟩, List.mem_of_getElem? (i := 983) (by decide +kernel), List.mem_of_getElem? (i := 1323) (by decide +kernel), List.mem_of_getElem? (i := 1324) (by decide +kernel)⟩
theorem lw_p85 : lw_okq (⟨"SegmentYardModel", "deletes", "(I)I"⟩, 37) := ⟨⟨by decide +kernel, by decide +kernel⟩, List.mem_of_getElem? (i := 983) (by decide +kernel), List.mem_of_getElem? (i := 1331) (by decide +kernel), List.mem_of_getElem? (i := 1332) (by decide +kernel)⟩
theorem lw_p86 : lw_okq (⟨"SegmentYardModel", "marksAll", "(I)Z"⟩, 37) := ⟨⟨by decide +kernel, by decide +kernel⟩, List.mem_of_getElem? (i := 983) (by decide +kernel), List.mem_of_getElem? (i := 1335) (by decide +kernel), List.mem_of_getElem? (i := 1336) (by decide +kernel)⟩
theorem lw_p87 : lw_okq (⟨"SegmentYardModel", "marks", "(I)V"⟩, 37) := ⟨⟨by decide +kernel, by decide +kernel⟩, List.mem_of_getElem? (i := 983) (by decide +kernel), List.mem_of_getElem? (i := 1339) (by decide +kernel), List.mem_of_getElem? (i := 1340) (by decide +kernel)⟩
theorem lw_p88 : lw_okq (⟨"SegmentYardModel", "secondOf", "(I)I"⟩, 37) := ⟨⟨by decide +kernel, by decide +kernel⟩, List.mem_of_getElem? (i := 983) (by decide +kernel), List.mem_of_getElem? (i := 1343) (by decide +kernel), List.mem_of_getElem? (i := 1344) (by decide +kernel)⟩
theorem lw_p89 : lw_okq (⟨"SegmentYardModel", "leaves", "(I)V"⟩, 37) := ⟨⟨by decide +kernel, by decide +kernel⟩, List.mem_of_getElem? (i := 983) (by decide +kernel), List.mem_of_getElem? (i := 1347) (by decide +kernel), List.mem_of_getElem? (i := 1348) (by decide +kernel)⟩
theorem lw_p90 : lw_okq (⟨"SegmentYardModel", "removes", "()V"⟩, 37) := ⟨⟨by decide +kernel, by decide +kernel⟩, List.mem_of_getElem? (i := 983) (by decide +kernel), List.mem_of_getElem? (i := 1351) (by decide +kernel), List.mem_of_getElem? (i := 1352) (by decide +kernel)⟩
theorem lw_p91 : lw_okq (⟨"SegmentYardModel", "isPlace", "(II)Z"⟩, 37) := ⟨⟨by decide +kernel, by decide +kernel⟩, List.mem_of_getElem? (i := 983) (by decide +kernel), List.mem_of_getElem? (i := 1367) (by decide +kernel), List.mem_of_getElem? (i := 1368) (by decide +kernel)⟩
def lw_privs_6 : List (MethodName × Nat) := [(⟨"SegmentYardModel", "makes", "()V"⟩, 37), (⟨"SegmentYardModel", "inserts", "(IIII)I"⟩, 37), (⟨"SegmentYardModel", "isBehind", "(IIIII)Z"⟩, 37), (⟨"SegmentYardModel", "liesAhead", "(IIII)Z"⟩, 37), (⟨"SegmentYardModel", "replaces", "(I)I"⟩, 37), (⟨"SegmentYardModel", "deletes", "(I)I"⟩, 37), (⟨"SegmentYardModel", "marksAll", "(I)Z"⟩, 37), (⟨"SegmentYardModel", "marks", "(I)V"⟩, 37), (⟨"SegmentYardModel", "secondOf", "(I)I"⟩, 37), (⟨"SegmentYardModel", "leaves", "(I)V"⟩, 37), (⟨"SegmentYardModel", "removes", "()V"⟩, 37), (⟨"SegmentYardModel", "isPlace", "(II)Z"⟩, 37)]
theorem lw_r6 : ∀ q ∈ lw_privs_6, lw_okq q := List.forall_mem_cons.mpr ⟨lw_p80, List.forall_mem_cons.mpr ⟨lw_p81, List.forall_mem_cons.mpr ⟨lw_p82, List.forall_mem_cons.mpr ⟨lw_p83, List.forall_mem_cons.mpr ⟨lw_p84, List.forall_mem_cons.mpr ⟨lw_p85, List.forall_mem_cons.mpr ⟨lw_p86, List.forall_mem_cons.mpr ⟨lw_p87, List.forall_mem_cons.mpr ⟨lw_p88, List.forall_mem_cons.mpr ⟨lw_p89, List.forall_mem_cons.mpr ⟨lw_p90, List.forall_mem_cons.mpr ⟨lw_p91, fun _ h => absurd h List.not_mem_nil⟩⟩⟩⟩⟩⟩⟩⟩⟩⟩⟩⟩
def lw_privs : List (MethodName × Nat) := lw_privs_1 ++ (lw_privs_2 ++ (lw_privs_3 ++ (lw_privs_4 ++ (lw_privs_5 ++ (lw_privs_6)))))
def lw_tbl : List Cond := k2_sels lw_privs ++ tables_1
theorem lw_privs_ok : ∀ q ∈ lw_privs, lw_okq q := by
  show ∀ q ∈ lw_privs_1 ++ (lw_privs_2 ++ (lw_privs_3 ++ (lw_privs_4 ++ (lw_privs_5 ++ (lw_privs_6))))), lw_okq q
  exact List.forall_mem_append.mpr ⟨lw_r1, List.forall_mem_append.mpr ⟨lw_r2, List.forall_mem_append.mpr ⟨lw_r3, List.forall_mem_append.mpr ⟨lw_r4, List.forall_mem_append.mpr ⟨lw_r5, lw_r6⟩⟩⟩⟩⟩
-- ===== end of PART A; then your names; then what follows =====
end
section
/-! ===== BEGIN words of one list among another's, by their places ===== -/
theorem goodIn_r {big : List Cond} (ws : List Cond) (ps : List Nat) (hp : ws = ps.filterMap (fun i => big[i]?)) (h : ws.all goodWord = true) : GoodIn big ws := by
  intro w hw
  have h1 := List.all_eq_true.mp h w hw
  rw [hp] at hw
  obtain ⟨i, -, hi⟩ := List.mem_filterMap.mp hw
  have hm : w ∈ big := by first | exact List.mem_of_getElem? hi | exact List.getElem?_mem hi
  exact ⟨hm, good_of_word h1⟩
theorem goodIn_app {big a b : List Cond} (ha : GoodIn big a) (hb : GoodIn big b) : GoodIn big (a ++ b) := fun w h => (List.mem_append.mp h).elim (ha w) (hb w)
theorem goodIn_ca {big a b : List Cond} {c : Cond} (ha : GoodIn big (c :: a)) (hb : GoodIn big b) : GoodIn big (c :: (a ++ b)) := fun w h => (List.mem_cons.mp h).elim (fun e => ha w (List.mem_cons.mpr (Or.inl e))) (fun h => (List.mem_append.mp h).elim (fun h => ha w (List.mem_cons.mpr (Or.inr h))) (hb w))
theorem goodIn_sub {big ws : List Cond} (hm : ∀ w ∈ ws, w ∈ big) (h : ws.all goodWord = true) : GoodIn big ws := fun w hw => ⟨hm w hw, good_of_word (List.all_eq_true.mp h w hw)⟩
/-! ===== END ===== -/

/-! ===== BEGIN exceptions that leave a method, and their catching by the caller (launches without stack traces) ===== -/
section VXA
/-! The laws vx_back, vx_callV, vx_callS, vx_callSW, vx_throw0, vx_throwS follow proofs of the library, with one case more: JvmDerived/Free/Laws.lean (Back.of_free), Shelf42/LK1.lean (callV, callS), Shelf/KitTraced.lean (throwNew0V, throwNewS). -/
/-- where a method has thrown q: the class by its name, the cell, what was written, the world -/
def vx_T (XC : String → State → State → Prop) (st : State) (q : Addr) (t : State) (mc ms : Nat) (free : Addr → Prop) : Prop :=
  ∃ (E : String) (ce : Cell) (L : List Loc), XC E st t ∧ t.heap[q]? = some ce ∧ ce.vm = .none ∧ st.vm.findClass E = some ce.cls ∧ st.WarmedH t.vm ∧ st.sameButNew ({ t with vm := st.vm } : State) L mc ms ∧ ∀ z ∈ L, free z.base
def vx_Q (Qc : Array Value → State → Outcome → State → Prop) (XC : String → State → State → Prop) (mc ms : Nat) (free : Addr → Prop) : Array Value → State → Outcome → State → Prop := fun a st o t =>
  (Qc a st o t ∧ ∃ L, FrameEnd st o t L mc ms ∧ ∀ q ∈ L, free q.base) ∨ ∃ q, o = .threw q ∧ vx_T XC st q t mc ms free
/-- a callee that returns or throws -/
def vx_Met (l : Launch) (y : MethodName) (ws : List Cond) (rm : Room) (Pc : Array Value → State → Prop) (Qc : Array Value → State → Outcome → State → Prop) (XC : String → State → State → Prop) (mc ms : Nat) (free : Addr → Prop) : Prop :=
  MetFree l y (headSpec ws rm) Pc (fun _ _ _ _ _ => True) (vx_Q Qc XC mc ms free)
def vx_Post (XC : String → State → State → Prop) (mc ms : Nat) (free : Addr → Prop) : Pt → Array Value → Addr → Pt → Prop := fun A a q B =>
  ∃ (g : JFrame) (mk : MethodId) (t : State) (L : List Loc) (E : String) (ce : Cell), B.U.heap = t.heap ∧ B.U.vm = t.vm ∧ XC E (A.U.calling g mk a) t ∧ t.heap[q]? = some ce ∧ ce.vm = .none ∧ A.U.vm.findClass E = some ce.cls ∧ B.locs = A.locs ++ L ∧ (∀ z ∈ L, free z.base) ∧ B.cells = A.cells + mc ∧ B.slots = A.slots + ms
def vx_Back (l : Launch) (R : Room) (p : Program) (e : Env) (below : List Frame) (s : State) (sargs : Array Value) (y : MethodName) (len W9 : Nat)
    (Pre : Pt → Array Value → Prop) (Post : Pt → Array Value → Option Value → Pt → Prop) (PostX : Pt → Array Value → Addr → Pt → Prop) : Prop :=
  ∀ (m : MethodId) (meth : Method) (c : Code) (A : Pt) (g : JFrame) (ig : Instr) (mk : MethodId) (a : Array Value),
    Stand p l e R s m sargs below meth c A.U A.locs A.cells A.slots → g.method = m → g.locals.size = c.maxLocals → decode c.code g.pc = .ok (ig, len) →
    2 * g.monitorRoom + (g.stack.map fun v => v.category).sum ≤ W9 → A.U.methodNamed? y = some mk → Pre A a →
    (∃ (v : Option Value) (B : Pt), Stand p l e R s m sargs below meth c B.U B.locs B.cells B.slots ∧ Post A a v B ∧
      Steps p.tables e below (doInvoke e (A.U.setTop g) [] mk a).1 (B.U.setTop { g with pc := g.pc + len, stack := v.toList ++ g.stack })) ∨
    (∃ (q : Addr) (B : Pt), Stand p l e R s m sargs below meth c B.U B.locs B.cells B.slots ∧ PostX A a q B ∧
      Steps p.tables e below (doInvoke e (A.U.setTop g) [] mk a).1 ((B.U.setTop g).pushFrame (.throwing q)))
section Payer
variable {l : Launch} {R : Room} {p : Program} {e : Env} {below : List Frame} {s : State} {sargs : Array Value} {y : MethodName} {len W9 : Nat}
theorem vx_back {ws : List Cond} {rm : Room} {Pc : Array Value → State → Prop} {Qc : Array Value → State → Outcome → State → Prop} {XC : String → State → State → Prop} {mc ms : Nat} {free : Addr → Prop} {bytes : ByteArray} {maxL : Nat} {ret : Option FieldType}
    (hM : vx_Met l y ws rm Pc Qc XC mc ms free) (hblind : FrameBlind Pc) (hrc : rm.cells = mc) (hrs : rm.slots = ms)
    (hframes : rm.frames + 1 ≤ R.frames) (hlocals : W9 + (maxL + 11) + rm.locals ≤ R.locals)
    (hws : ∀ w ∈ ws, ∀ a' U, s.WarmedH U.vm → w.before a' U = true) (hcode : Cond.code y bytes maxL ret ∈ ws) (hinit : ∀ a' U, s.WarmedH U.vm → (Cond.initialized y.cls).before a' U = true) :
    vx_Back l R p e below s sargs y len W9 (PreOf R mc ms Pc) (PostOf Qc mc ms free) (vx_Post XC mc ms free) := by
  intro m meth c A g ig mk a X hg hsize hdg hW hn hp
  have h1 : (headSpec ws rm).pre.before a A.U = true := atoms_intro fun w hw => hws w hw _ _ X.warmed
  have h2 : (Cond.code y bytes maxL ret).before a A.U = true := hws _ hcode _ _ X.warmed
  have h3 : (Cond.initialized y.cls).before a A.U = true := hinit _ _ X.warmed
  have h4 : A.cells + (headSpec ws rm).room.cells ≤ R.cells := by rw [show (headSpec ws rm).room.cells = mc from hrc]; exact hp.1
  have h5 : A.slots + (headSpec ws rm).room.slots ≤ R.slots := by rw [show (headSpec ws rm).room.slots = ms from hrs]; exact hp.2.1
  have hPc : Pc a (A.U.calling g mk a) := hblind _ _ _ _ hp.2.2
  obtain ⟨U, Ls, c0, s0⟩ := A
  dsimp only [Pt.U, Pt.locs, Pt.cells, Pt.slots] at h1 h2 h3 h4 h5 X hn hPc ⊢
  obtain ⟨methY, cY, hmY, hcY, -, hlY, -, -, -, -⟩ := Cond.code_spec hn h2
  obtain ⟨kY, hkY, -⟩ := className_of_methodNamed hn
  have hinitY : kY.init = .initialized := Cond.initialized_spec (findClass_of_methodNamed hn) hkY h3
  have h : At U g.method c below := by rw [hg]; exact X.here
  have hlocals9 : W9 + (maxL + 11) + (headSpec ws rm).room.locals ≤ R.locals := hlocals
  have happ : (headSpec ws rm).appliesLoose y e.platform (U.calling g mk a) = true :=
    Spec.appliesLoose_calling (g := g) h hdg hn hkY hinitY
      (X.room_calling (g := g) (R' := (headSpec ws rm).room) hsize hmY hcY hframes (by rw [hlY]; omega) h4 h5) h1
  obtain ⟨mid, hmid⟩ := h.above
  have hfr : (U.setTop g).frames = (.java g :: mid) ++ below := by rw [State.frames_setTop' g h.top, hmid]; rfl
  obtain ⟨o, s₂, hsteps, -, hend, hq⟩ := Steps.callFree hM p X.admits X.cas X.clock (acts := []) hfr happ hPc trivial
  have hq' : vx_Q Qc XC mc ms free a (U.calling g mk a) o s₂ := hq
  rw [State.frames_setTop' g h.top] at hend
  obtain ⟨g₀, hg0⟩ := Option.isSome_iff_exists.mp h.top
  obtain ⟨r, hr⟩ := State.topJava?_eq_some.mp hg0
  have hr' : (({ U with heap := s₂.heap, slotsUsed := s₂.slotsUsed } : State).setVm s₂.vm).frames = .java g₀ :: r := hr
  rcases hq' with ⟨hqc, L, hfe, hL⟩ | ⟨q, rfl, E, ce, L, hx, hce, hcv, hcl, hW₂, hsm, hL⟩
  · obtain ⟨⟨v, rfl⟩, hW₂, e2, q2, q3, q4, q5, q6⟩ := id hfe
    have e3 : s₂ = ({ (U.calling g mk a).setFrames s₂.frames with heap := s₂.heap, slotsUsed := s₂.slotsUsed } : State).setVm s₂.vm := by
      have : s₂ = ({ s₂ with vm := (U.calling g mk a).vm } : State).setVm s₂.vm := rfl
      rw [e2] at this
      exact this
    obtain ⟨c₂, i₂, len₂, hc₂, hd₂, hf₂⟩ := hend
    have hW' : U.WarmedH s₂.vm := hW₂
    have hcc : c₂ = c := by
      have h1 : s₂.code? g.method = U.code? g.method := by
        rw [State.code?_eq, State.code?_eq, hW'.alike.method?]
      exact Option.some.inj (hc₂.symm.trans (h1.trans h.code))
    subst hcc
    have hlen : len₂ = len := by rw [hdg] at hd₂; cases hd₂; rfl
    subst hlen
    have hs₂ : s₂ = (({ U with heap := s₂.heap, slotsUsed := s₂.slotsUsed } : State).setVm s₂.vm).setTop { g with pc := g.pc + len₂, stack := v.toList ++ g.stack } := by
      refine e3.trans ?_
      rw [hf₂, State.calling_eq h.top, State.setFrames_setFrames, State.setTop_of_frames _ hr', hr]
      rfl
    have hsame : U.sameButNew ({ U with heap := s₂.heap, slotsUsed := s₂.slotsUsed } : State) L mc ms := by
      refine ⟨?_, q2, q3, q4, q5, q6⟩
      obtain ⟨t, ht, -⟩ := State.frames_cons hr
      show ({ U with heap := s₂.heap, slotsUsed := s₂.slotsUsed } : State) = { U.setFrames U.frames with heap := s₂.heap, slotsUsed := s₂.slotsUsed }
      rw [State.setFrames_self ht]
    subst hg
    refine Or.inl ⟨v, ⟨(({ U with heap := s₂.heap, slotsUsed := s₂.slotsUsed } : State).setVm s₂.vm), Ls ++ L, c0 + mc, s0 + ms⟩,
      ⟨X.admits, X.cas, X.clock, X.frames, X.room, X.hears, X.method, X.code, (X.here.setHeapUsed s₂.heap s₂.slotsUsed).setVm hW'.alike, X.tail, State.WarmedH.trans X.warmed hW', X.limits, X.bytes, X.same.trans (hsame.setVm s.vm)⟩,
      ⟨g, mk, s₂, L, rfl, rfl, hqc, rfl, hL, rfl, rfl⟩, ?_⟩
    show Steps p.tables e below _ ((({ U with heap := s₂.heap, slotsUsed := s₂.slotsUsed } : State).setVm s₂.vm).setTop { g with pc := g.pc + len₂, stack := v.toList ++ g.stack })
    rw [← hs₂]
    exact hsteps
  · obtain ⟨e2, q2, q3, q4, q5, q6⟩ := id hsm
    have e3 : s₂ = ({ (U.calling g mk a).setFrames s₂.frames with heap := s₂.heap, slotsUsed := s₂.slotsUsed } : State).setVm s₂.vm := by
      have : s₂ = ({ s₂ with vm := (U.calling g mk a).vm } : State).setVm s₂.vm := rfl
      rw [e2] at this
      exact this
    have hf₂ : s₂.frames = .throwing q :: .java g :: U.frames.tail := hend
    have hW' : U.WarmedH s₂.vm := hW₂
    have hs₂ : s₂ = ((({ U with heap := s₂.heap, slotsUsed := s₂.slotsUsed } : State).setVm s₂.vm).setTop g).pushFrame (.throwing q) := by
      refine e3.trans ?_
      rw [hf₂, State.calling_eq h.top, State.setFrames_setFrames, State.pushFrame, State.frames_setTop _ hr', State.setTop_of_frames _ hr', State.setFrames_setFrames, hr]
      rfl
    have hsame : U.sameButNew ({ U with heap := s₂.heap, slotsUsed := s₂.slotsUsed } : State) L mc ms := by
      refine ⟨?_, q2, q3, q4, q5, q6⟩
      obtain ⟨t, ht, -⟩ := State.frames_cons hr
      show ({ U with heap := s₂.heap, slotsUsed := s₂.slotsUsed } : State) = { U.setFrames U.frames with heap := s₂.heap, slotsUsed := s₂.slotsUsed }
      rw [State.setFrames_self ht]
    subst hg
    refine Or.inr ⟨q, ⟨(({ U with heap := s₂.heap, slotsUsed := s₂.slotsUsed } : State).setVm s₂.vm), Ls ++ L, c0 + mc, s0 + ms⟩,
      ⟨X.admits, X.cas, X.clock, X.frames, X.room, X.hears, X.method, X.code, (X.here.setHeapUsed s₂.heap s₂.slotsUsed).setVm hW'.alike, X.tail, State.WarmedH.trans X.warmed hW', X.limits, X.bytes, X.same.trans (hsame.setVm s.vm)⟩,
      ⟨g, mk, s₂, L, E, ce, rfl, rfl, hx, hce, hcv, hcl, rfl, hL, rfl, rfl⟩, ?_⟩
    show Steps p.tables e below _ (((({ U with heap := s₂.heap, slotsUsed := s₂.slotsUsed } : State).setVm s₂.vm).setTop g).pushFrame (.throwing q))
    rw [← hs₂]
    exact hsteps
end Payer
section Calls
variable {p : Program} {l : Launch} {e : Env} {R : Room} {s : State} {m : MethodId} {args : Array Value} {below : List Frame} {meth : Method} {c : Code} {T : State} {locs : List Loc} {cells slots : Nat}
theorem vx_callV (X : Stand p l e R s m args below meth c T locs cells slots) (hexec : p.tables.exec = Jvm.exec) {own C : String} {index : Nat} {y : MethodName} {bytes : ByteArray} {maxL : Nat} {ret : Option FieldType}
    (hown : s.vm.findClass own = some m.cls) (hlink : (Cond.methodLink own index y).before args s = true) (hinst : (Cond.instanceMethod y).before args s = true) (hsel : (Cond.selects C y y).before args s = true)
    (hcode : (Cond.code y bytes maxL ret).before args s = true) (hy : y.cls ≠ "java/lang/invoke/MethodHandle" ∧ y.cls ≠ "java/lang/invoke/VarHandle")
    {W9 : Nat} {Pre : Pt → Array Value → Prop} {Post : Pt → Array Value → Option Value → Pt → Prop} {PostX : Pt → Array Value → Addr → Pt → Prop} (hK : vx_Back l R p e below s args y 3 W9 Pre Post PostX)
    {b : Addr} {cellB : Cell} (hcell : T.heap[b]? = some cellB) (hobj : cellB.vm.isStatics = false) (hcls : s.vm.findClass C = some cellB.cls)
    {g : JFrame} (hg : g.method = m) (hsize : g.locals.size = c.maxLocals) {argsL rest : List Value} (hlen : ∀ sig, parseMethodDescriptor y.desc = some sig → argsL.length = sig.parameters.length)
    (hstack : g.stack = argsL.reverse ++ .ref b :: rest) (hW : 2 * g.monitorRoom + (rest.map fun v => v.category).sum ≤ W9) (hdg : decode c.code g.pc = .ok (.invokevirtual index, 3))
    (hpre : ∀ vm₁, s.WarmedH vm₁ → Pre ⟨T.setVm vm₁, locs, cells, slots⟩ (Value.ref b :: argsL).toArray) :
    (∃ (v : Option Value) (vm₁ : Vm) (B : Pt), s.WarmedH vm₁ ∧ Stand p l e R s m args below meth c B.U B.locs B.cells B.slots ∧ Post ⟨T.setVm vm₁, locs, cells, slots⟩ (Value.ref b :: argsL).toArray v B ∧
      ∀ target, Steps p.tables e below (B.U.setTop { g with pc := g.pc + 3, stack := v.toList ++ rest }) target → Steps p.tables e below (T.setTop g) target) ∨
    (∃ (q : Addr) (vm₁ : Vm) (B : Pt), s.WarmedH vm₁ ∧ Stand p l e R s m args below meth c B.U B.locs B.cells B.slots ∧ PostX ⟨T.setVm vm₁, locs, cells, slots⟩ (Value.ref b :: argsL).toArray q B ∧
      Steps p.tables e below (T.setTop g) ((B.U.setTop { g with stack := rest }).pushFrame (.throwing q))) := by
  obtain ⟨mk, methM, hnamed, hmethM, hstM, habM⟩ := Cond.instanceMethod_spec hinst
  obtain ⟨methM', cM, hmethM', -, -, -, -, -, -, hsigM⟩ := Cond.code_spec hnamed hcode
  cases hmethM.symm.trans hmethM'
  obtain ⟨c2, r2, m2, q1, q2, q3, q4, kP, hkP, hkPi⟩ := Cond.selects_spec hsel
  cases hcls.symm.trans q1
  cases (State.methodFound?_of_named hnamed hy).symm.trans q2
  cases hnamed.symm.trans q3
  have hselP : selectMethod e.platform s.vm cellB.cls mk = .method mk := by rw [Launch.admits_selectMethod X.admits]; exact q4
  obtain ⟨vm₁, X₁, hstep₁⟩ := X.invokevirtual hexec hown hlink hnamed hmethM hstM hkP hkPi hy (a := b) (cell := cellB) hcell
    (fun z h => by rw [h] at hobj; cases hobj) hselP hmethM habM hkP hkPi (g := g) hg (argsL := argsL) (rest := rest) (hlen _ hsigM) hstack hdg
  rcases hK m meth c ⟨T.setVm vm₁, locs, cells, slots⟩ { g with stack := rest } (.invokevirtual index) mk (Value.ref b :: argsL).toArray X₁ hg hsize hdg hW (X₁.named hnamed) (hpre vm₁ X₁.warmed) with ⟨v, B, X', hpost, hsteps⟩ | ⟨q, B, X', hpost, hsteps⟩
  · exact Or.inl ⟨v, vm₁, B, X₁.warmed, X', hpost, fun target h => hstep₁ _ fun acts => by rw [doInvoke_state]; exact hsteps.trans h⟩
  · exact Or.inr ⟨q, vm₁, B, X₁.warmed, X', hpost, hstep₁ _ fun acts => by rw [doInvoke_state]; exact hsteps⟩
theorem vx_callS (X : Stand p l e R s m args below meth c T locs cells slots) (hexec : p.tables.exec = Jvm.exec) {own : String} {index : Nat} {y : MethodName} {bytes : ByteArray} {maxL : Nat} {ret : Option FieldType}
    (hown : s.vm.findClass own = some m.cls) (hlink : (Cond.methodLink own index y).before args s = true) (hstat : (Cond.static y).before args s = true) (hinit : (Cond.initialized y.cls).before args s = true)
    (hcode : (Cond.code y bytes maxL ret).before args s = true) (hy : y.cls ≠ "java/lang/invoke/MethodHandle" ∧ y.cls ≠ "java/lang/invoke/VarHandle")
    {W9 : Nat} {Pre : Pt → Array Value → Prop} {Post : Pt → Array Value → Option Value → Pt → Prop} {PostX : Pt → Array Value → Addr → Pt → Prop} (hK : vx_Back l R p e below s args y 3 W9 Pre Post PostX)
    {g : JFrame} (hg : g.method = m) (hsize : g.locals.size = c.maxLocals) {argsL rest : List Value} (hlen : ∀ sig, parseMethodDescriptor y.desc = some sig → argsL.length = sig.parameters.length)
    (hstack : g.stack = argsL.reverse ++ rest) (hW : 2 * g.monitorRoom + (rest.map fun v => v.category).sum ≤ W9) (hdg : decode c.code g.pc = .ok (.invokestatic index, 3))
    (hpre : ∀ vm₁, s.WarmedH vm₁ → Pre ⟨T.setVm vm₁, locs, cells, slots⟩ argsL.toArray) :
    (∃ (v : Option Value) (vm₁ : Vm) (B : Pt), s.WarmedH vm₁ ∧ Stand p l e R s m args below meth c B.U B.locs B.cells B.slots ∧ Post ⟨T.setVm vm₁, locs, cells, slots⟩ argsL.toArray v B ∧
      ∀ target, Steps p.tables e below (B.U.setTop { g with pc := g.pc + 3, stack := v.toList ++ rest }) target → Steps p.tables e below (T.setTop g) target) ∨
    (∃ (q : Addr) (vm₁ : Vm) (B : Pt), s.WarmedH vm₁ ∧ Stand p l e R s m args below meth c B.U B.locs B.cells B.slots ∧ PostX ⟨T.setVm vm₁, locs, cells, slots⟩ argsL.toArray q B ∧
      Steps p.tables e below (T.setTop g) ((B.U.setTop { g with stack := rest }).pushFrame (.throwing q))) := by
  obtain ⟨mk, hnamed⟩ := Cond.code_named hcode
  obtain ⟨methM, cM, hmethM, -, -, -, -, -, -, hsigM⟩ := Cond.code_spec hnamed hcode
  have hstatic : methM.isStatic = true := Cond.static_spec hnamed hmethM hstat
  obtain ⟨kP, hkP, -⟩ := className_of_methodNamed hnamed
  have hinitP : kP.init = .initialized := Cond.initialized_spec (findClass_of_methodNamed hnamed) hkP hinit
  obtain ⟨vm₁, X₁, hstep₁⟩ := X.invokestatic hexec hown hlink hnamed hmethM hstatic hkP hinitP hy (g := g) hg (argsL := argsL) (rest := rest) (hlen _ hsigM) hstack hdg
  rcases hK m meth c ⟨T.setVm vm₁, locs, cells, slots⟩ { g with stack := rest } (.invokestatic index) mk argsL.toArray X₁ hg hsize hdg hW (X₁.named hnamed) (hpre vm₁ X₁.warmed) with ⟨v, B, X', hpost, hsteps⟩ | ⟨q, B, X', hpost, hsteps⟩
  · exact Or.inl ⟨v, vm₁, B, X₁.warmed, X', hpost, fun target h => hstep₁ _ fun acts => by rw [doInvoke_state]; exact hsteps.trans h⟩
  · exact Or.inr ⟨q, vm₁, B, X₁.warmed, X', hpost, hstep₁ _ fun acts => by rw [doInvoke_state]; exact hsteps⟩
end Calls
theorem vx_cls {s : State} {T : State} {vm₁ : Vm} {E : String} {k : ClassId} (hW : s.WarmedH vm₁) (h : (T.setVm vm₁).vm.findClass E = some k) : s.vm.findClass E = some k := by
  have h1 : vm₁.findClass E = some k := h
  rw [hW.alike.findClass] at h1
  exact h1
/-- the method's frame g, with q thrown over it -/
def vx_W (p : Program) (l : Launch) (e : Env) (R : Room) (s : State) (m : MethodId) (args : Array Value) (below : List Frame) (meth : Method) (c : Code) (H : Heap) (locs : List Loc) (cells slots : Nat) (Q : State → Prop) (g : JFrame) (q : Addr) : Prop :=
  ∀ T : State, T.heap = H → Stand p l e R s m args below meth c T locs cells slots → ∃ t, Steps p.tables e below ((T.setTop g).pushFrame (.throwing q)) t ∧ Q t
def vx_Run (p : Program) (l : Launch) (e : Env) (R : Room) (s : State) (m : MethodId) (args : Array Value) (below : List Frame) (meth : Method) (c : Code) (H : Heap) (locs : List Loc) (cells slots mc ms : Nat) (g : JFrame) (rest : List Value) (Qa : State → Outcome → State → Prop) (XC : String → State → State → Prop) (free : Addr → Prop) : Prop :=
  ∀ T : State, T.heap = H → Stand p l e R s m args below meth c T locs cells slots →
    (∃ (v : Option Value) (st₀ t T' : State) (L : List Loc), st₀.heap = H ∧ Stand p l e R s m args below meth c T' (locs ++ L) (cells + mc) (slots + ms) ∧ (∀ q ∈ L, free q.base) ∧ T'.heap = t.heap ∧ T'.vm = t.vm ∧ Qa st₀ (.returned v) t ∧
      Goes p e below T g T' { g with pc := g.pc + 3, stack := v.toList ++ rest }) ∨
    (∃ (q : Addr) (st₀ t T' : State) (L : List Loc) (E : String) (ce : Cell), st₀.heap = H ∧ Stand p l e R s m args below meth c T' (locs ++ L) (cells + mc) (slots + ms) ∧ (∀ z ∈ L, free z.base) ∧ T'.heap = t.heap ∧ T'.vm = t.vm ∧ XC E st₀ t ∧ t.heap[q]? = some ce ∧ ce.vm = .none ∧ s.vm.findClass E = some ce.cls ∧
      Steps p.tables e below (T.setTop g) ((T'.setTop { g with stack := rest }).pushFrame (.throwing q)))
def vx_X {S : Type} (px : S → Prop) (B : String → S → State → Prop) (A : Nat → Prop) : String → State → State → Prop := fun E st t => ∃ u : S, px u ∧ B E u t ∧ va_F A st t
section Runs
variable {p : Program} {l : Launch} {e : Env} {R : Room} {s : State} {m : MethodId} {args : Array Value} {below : List Frame} {meth : Method} {c : Code} {H : Heap} {locs : List Loc} {cells slots : Nat}
variable {y : MethodName} {bytes cc : ByteArray} {maxL nL mc ms n index : Nat} {ret : Option FieldType} {ws : List Cond} {rm : Room} {Pc : Array Value → State → Prop} {Qc : Array Value → State → Outcome → State → Prop} {XC : String → State → State → Prop} {free : Addr → Prop} {Ts : List Cond} {own C : String} {b : Addr} {As rest : List Value} {g : JFrame}
theorem vx_callBack (cb : CallB R s args own index y bytes maxL ret ws rm mc ms n) (hM : vx_Met l y ws rm Pc Qc XC mc ms free) (hbl : FrameBlind Pc) : vx_Back l R p e below s args y 3 8 (PreOf R mc ms Pc) (PostOf Qc mc ms free) (vx_Post XC mc ms free) := by
  obtain ⟨hrc, hrs, hfr, hlo, hws, hcw, -, hini, -⟩ := cb
  exact vx_back (bytes := bytes) (maxL := maxL) (ret := ret) hM hbl hrc hrs hfr hlo hws hcw (fun a' U hW => word_at hW (Or.inl (by first | rfl | simp [Cond.onTables, Cond.keeps, Cond.steady])) hini)
theorem vx_runV (S : CallFix p m c cc nL s args Ts own) (hM : vx_Met l y ws rm Pc Qc XC mc ms free) (cw : CallW R s args own C index y bytes maxL ret ws rm mc ms n) (hp : PreV s H C b Pc As)
    (hg : g.method = m) (hn : As.length = n) (hsize : g.locals.size = nL) (hstack : g.stack = As.reverse ++ .ref b :: rest) (hW : 2 * g.monitorRoom + (rest.map fun v => v.category).sum ≤ 8) (hdg : decode cc g.pc = .ok (.invokevirtual index, 3)) (hf : cells + mc ≤ R.cells ∧ slots + ms ≤ R.slots) :
    vx_Run p l e R s m args below meth c H locs cells slots mc ms g rest (Qc (Value.ref b :: As).toArray) XC free := by
  have hK : vx_Back l R p e below s args y 3 8 (PreOf R mc ms Pc) (PostOf Qc mc ms free) (vx_Post XC mc ms free) := vx_callBack cw.1 hM hp.1
  obtain ⟨⟨-, -, -, -, -, -, hcode, -, hy, hlen, hl⟩, hin, hse⟩ := cw
  obtain ⟨hx, hb, hml, ho, -⟩ := S
  obtain ⟨-, ⟨cellB, hcB, hoB, hclB⟩, hPc⟩ := hp
  intro T hT X
  rcases vx_callV X hx (C := C) (bytes := bytes) (maxL := maxL) (ret := ret) ho hl hin hse hcode hy hK (by rw [hT]; exact hcB) hoB hclB hg (hsize.trans hml.symm) (argsL := As) (rest := rest) (fun sig h => hn.trans (hlen sig h)) hstack hW (by rw [hb]; exact hdg)
    (fun vm₁ hW₁ => ⟨hf.1, hf.2, hPc (T.setVm vm₁) hT hW₁⟩) with ⟨v, vm₁, ⟨U', l2, c2, s2⟩, hW₁, X', ⟨g', mk, t, L, e1, e2, hq, h1, hL, h2, h3⟩, st⟩ | ⟨q, vm₁, ⟨U', l2, c2, s2⟩, hW₁, X', ⟨g', mk, t, L, E, ce, e1, e2, hq, hce, hcv, hcl, h1, hL, h2, h3⟩, st⟩
  · dsimp only [Pt.U, Pt.locs, Pt.cells, Pt.slots] at X' e1 e2 h1 h2 h3 st
    subst h1; subst h2; subst h3
    exact Or.inl ⟨v, (T.setVm vm₁).calling g' mk (Value.ref b :: As).toArray, t, U', L, hT, X', hL, e1, e2, hq, st⟩
  · dsimp only [Pt.U, Pt.locs, Pt.cells, Pt.slots] at X' e1 e2 h1 h2 h3 st hcl
    subst h1; subst h2; subst h3
    exact Or.inr ⟨q, (T.setVm vm₁).calling g' mk (Value.ref b :: As).toArray, t, U', L, E, ce, hT, X', hL, e1, e2, hq, hce, hcv, vx_cls hW₁ hcl, st⟩
theorem vx_runS (S : CallFix p m c cc nL s args Ts own) (hM : vx_Met l y ws rm Pc Qc XC mc ms free) (cw : CallB R s args own index y bytes maxL ret ws rm mc ms n ∧ (Cond.static y).before args s = true) (hp : PreS s H Pc As)
    (hg : g.method = m) (hn : As.length = n) (hsize : g.locals.size = nL) (hstack : g.stack = As.reverse ++ rest) (hW : 2 * g.monitorRoom + (rest.map fun v => v.category).sum ≤ 8) (hdg : decode cc g.pc = .ok (.invokestatic index, 3)) (hf : cells + mc ≤ R.cells ∧ slots + ms ≤ R.slots) :
    vx_Run p l e R s m args below meth c H locs cells slots mc ms g rest (Qc As.toArray) XC free := by
  have hK : vx_Back l R p e below s args y 3 8 (PreOf R mc ms Pc) (PostOf Qc mc ms free) (vx_Post XC mc ms free) := vx_callBack cw.1 hM hp.1
  obtain ⟨⟨-, -, -, -, -, -, hcode, hini, hy, hlen, hl⟩, hstt⟩ := cw
  obtain ⟨hx, hb, hml, ho, -⟩ := S
  intro T hT X
  rcases vx_callS X hx (bytes := bytes) (maxL := maxL) (ret := ret) ho hl hstt hini hcode hy hK hg (hsize.trans hml.symm) (argsL := As) (rest := rest) (fun sig h => hn.trans (hlen sig h)) hstack hW (by rw [hb]; exact hdg)
    (fun vm₁ hW₁ => ⟨hf.1, hf.2, hp.2 (T.setVm vm₁) hT hW₁⟩) with ⟨v, vm₁, ⟨U', l2, c2, s2⟩, hW₁, X', ⟨g', mk, t, L, e1, e2, hq, h1, hL, h2, h3⟩, st⟩ | ⟨q, vm₁, ⟨U', l2, c2, s2⟩, hW₁, X', ⟨g', mk, t, L, E, ce, e1, e2, hq, hce, hcv, hcl, h1, hL, h2, h3⟩, st⟩
  · dsimp only [Pt.U, Pt.locs, Pt.cells, Pt.slots] at X' e1 e2 h1 h2 h3 st
    subst h1; subst h2; subst h3
    exact Or.inl ⟨v, (T.setVm vm₁).calling g' mk As.toArray, t, U', L, hT, X', hL, e1, e2, hq, st⟩
  · dsimp only [Pt.U, Pt.locs, Pt.cells, Pt.slots] at X' e1 e2 h1 h2 h3 st hcl
    subst h1; subst h2; subst h3
    exact Or.inr ⟨q, (T.setVm vm₁).calling g' mk As.toArray, t, U', L, E, ce, hT, X', hL, e1, e2, hq, hce, hcv, vx_cls hW₁ hcl, st⟩
end Runs
section Rows
variable {p : Program} {l : Launch} {e : Env} {R : Room} {s : State} {m : MethodId} {args : Array Value} {below : List Frame} {meth : Method} {c : Code} {H : Heap} {locs : List Loc} {cells slots : Nat} {Q : State → Prop}
variable {mc ms : Nat} {free : Addr → Prop} {A0 A1 : Nat → Prop} {H0 : Heap} {a : Array Value} {pc : Nat} {ls : Array Slot} {st0 rest : List Value}
theorem vx_keep {st₀ t T' : State} {L : List Loc} (h0 : st₀.heap = H) (e1 : T'.heap = t.heap) (hS : va_S A0 H0 H locs) (hA : ∀ q, q < H.size → A1 q → A0 q) (hf : ∀ q, free q → A0 q) (hL : ∀ q ∈ L, free q.base) (hF : va_F A1 st₀ t) :
    H.size ≤ T'.heap.size ∧ (∀ q : Nat, q < H.size → ¬ A1 q → T'.heap[q]? = H[q]?) ∧ va_S A0 H0 T'.heap (locs ++ L) := by
  obtain ⟨hz, hk⟩ := hF
  rw [h0] at hz hk
  exact ⟨by rw [e1]; exact hz, fun q h1 h2 => by rw [e1]; exact hk q h1 h2,
    ⟨Nat.le_trans hS.1 (by rw [e1]; exact hz), fun q h1 h2 => by rw [e1, hk q (Nat.lt_of_lt_of_le h1 hS.1) (fun z => h2 (hA q (Nat.lt_of_lt_of_le h1 hS.1) z))]; exact hS.2.1 q h1 h2, fun q hq => by
      rcases List.mem_append.mp hq with h | h
      · exact hS.2.2 q h
      · exact hf _ (hL q h)⟩⟩
theorem vx_calli {S SX : Type} {post : Int32 → S → Prop} {px : SX → Prop} {B : S → State → Prop} {BX : String → SX → State → Prop} {AX : Nat → Prop} (hr : vx_Run p l e R s m args below meth c H locs cells slots mc ms (F0 m pc ls st0) rest (va_Qi post B A1 a) (vx_X px BX AX) free) (hS : va_S A0 H0 H locs) (hA : ∀ q, q < H.size → A1 q → A0 q) (hf : ∀ q, free q → A0 q) (hAX : ∀ q, q < H.size → AX q → A0 q)
    (kx : ∀ (E : String) (ce : Cell) (q9 : Addr) (u : SX) (t : State) (H1 : Heap) (locs1 : List Loc), t.heap = H1 → s.vm.Alike t.vm → px u → BX E u t → H.size ≤ H1.size → (∀ q : Nat, q < H.size → ¬ AX q → H1[q]? = H[q]?) → va_S A0 H0 H1 locs1 → H1[q9]? = some ce → ce.vm = .none → s.vm.findClass E = some ce.cls → vx_W p l e R s m args below meth c H1 locs1 (cells + mc) (slots + ms) Q (F0 m pc ls rest) q9)
    (kk : ∀ (r : Int32) (u : S) (t : State) (H1 : Heap) (locs1 : List Loc), t.heap = H1 → s.vm.Alike t.vm → post r u → B u t → H.size ≤ H1.size → (∀ q : Nat, q < H.size → ¬ A1 q → H1[q]? = H[q]?) → va_S A0 H0 H1 locs1 → W p l e R s m args below meth c H1 locs1 (cells + mc) (slots + ms) Q (F0 m (pc + 3) ls (.int r :: rest))) : W p l e R s m args below meth c H locs cells slots Q (F0 m pc ls st0) := by
  intro T hT X
  rcases hr T hT X with ⟨v, st₀, t, T', L, h0, X', hL, e1, e2, ⟨⟨r, u, hv, hp, hb⟩, hF⟩, st⟩ | ⟨q, st₀, t, T', L, E, ce, h0, X', hL, e1, e2, ⟨u, hp, hb, hF⟩, hce, hcv, hcl, st⟩
  · cases hv
    obtain ⟨k1, k2, k3⟩ := vx_keep h0 e1 hS hA hf hL hF
    obtain ⟨t2, a1, b1⟩ := kk r u t T'.heap (locs ++ L) e1.symm (by rw [← e2]; exact X'.warmed.alike) hp hb k1 k2 k3 T' rfl X'
    exact ⟨t2, st t2 a1, b1⟩
  · obtain ⟨k1, k2, k3⟩ := vx_keep h0 e1 hS hAX hf hL hF
    obtain ⟨t2, a1, b1⟩ := kx E ce q u t T'.heap (locs ++ L) e1.symm (by rw [← e2]; exact X'.warmed.alike) hp hb k1 k2 k3 (by rw [e1]; exact hce) hcv hcl T' rfl X'
    exact ⟨t2, st.trans a1, b1⟩
theorem vx_calll {S SX : Type} {post : Int64 → S → Prop} {px : SX → Prop} {B : S → State → Prop} {BX : String → SX → State → Prop} {AX : Nat → Prop} (hr : vx_Run p l e R s m args below meth c H locs cells slots mc ms (F0 m pc ls st0) rest (va_Ql post B A1 a) (vx_X px BX AX) free) (hS : va_S A0 H0 H locs) (hA : ∀ q, q < H.size → A1 q → A0 q) (hf : ∀ q, free q → A0 q) (hAX : ∀ q, q < H.size → AX q → A0 q)
    (kx : ∀ (E : String) (ce : Cell) (q9 : Addr) (u : SX) (t : State) (H1 : Heap) (locs1 : List Loc), t.heap = H1 → s.vm.Alike t.vm → px u → BX E u t → H.size ≤ H1.size → (∀ q : Nat, q < H.size → ¬ AX q → H1[q]? = H[q]?) → va_S A0 H0 H1 locs1 → H1[q9]? = some ce → ce.vm = .none → s.vm.findClass E = some ce.cls → vx_W p l e R s m args below meth c H1 locs1 (cells + mc) (slots + ms) Q (F0 m pc ls rest) q9)
    (kk : ∀ (r : Int64) (u : S) (t : State) (H1 : Heap) (locs1 : List Loc), t.heap = H1 → s.vm.Alike t.vm → post r u → B u t → H.size ≤ H1.size → (∀ q : Nat, q < H.size → ¬ A1 q → H1[q]? = H[q]?) → va_S A0 H0 H1 locs1 → W p l e R s m args below meth c H1 locs1 (cells + mc) (slots + ms) Q (F0 m (pc + 3) ls (.long r :: rest))) : W p l e R s m args below meth c H locs cells slots Q (F0 m pc ls st0) := by
  intro T hT X
  rcases hr T hT X with ⟨v, st₀, t, T', L, h0, X', hL, e1, e2, ⟨⟨r, u, hv, hp, hb⟩, hF⟩, st⟩ | ⟨q, st₀, t, T', L, E, ce, h0, X', hL, e1, e2, ⟨u, hp, hb, hF⟩, hce, hcv, hcl, st⟩
  · cases hv
    obtain ⟨k1, k2, k3⟩ := vx_keep h0 e1 hS hA hf hL hF
    obtain ⟨t2, a1, b1⟩ := kk r u t T'.heap (locs ++ L) e1.symm (by rw [← e2]; exact X'.warmed.alike) hp hb k1 k2 k3 T' rfl X'
    exact ⟨t2, st t2 a1, b1⟩
  · obtain ⟨k1, k2, k3⟩ := vx_keep h0 e1 hS hAX hf hL hF
    obtain ⟨t2, a1, b1⟩ := kx E ce q u t T'.heap (locs ++ L) e1.symm (by rw [← e2]; exact X'.warmed.alike) hp hb k1 k2 k3 (by rw [e1]; exact hce) hcv hcl T' rfl X'
    exact ⟨t2, st.trans a1, b1⟩
theorem vx_callf {S SX : Type} {post : UInt32 → S → Prop} {px : SX → Prop} {B : S → State → Prop} {BX : String → SX → State → Prop} {AX : Nat → Prop} (hr : vx_Run p l e R s m args below meth c H locs cells slots mc ms (F0 m pc ls st0) rest (va_Qf post B A1 a) (vx_X px BX AX) free) (hS : va_S A0 H0 H locs) (hA : ∀ q, q < H.size → A1 q → A0 q) (hf : ∀ q, free q → A0 q) (hAX : ∀ q, q < H.size → AX q → A0 q)
    (kx : ∀ (E : String) (ce : Cell) (q9 : Addr) (u : SX) (t : State) (H1 : Heap) (locs1 : List Loc), t.heap = H1 → s.vm.Alike t.vm → px u → BX E u t → H.size ≤ H1.size → (∀ q : Nat, q < H.size → ¬ AX q → H1[q]? = H[q]?) → va_S A0 H0 H1 locs1 → H1[q9]? = some ce → ce.vm = .none → s.vm.findClass E = some ce.cls → vx_W p l e R s m args below meth c H1 locs1 (cells + mc) (slots + ms) Q (F0 m pc ls rest) q9)
    (kk : ∀ (r : UInt32) (u : S) (t : State) (H1 : Heap) (locs1 : List Loc), t.heap = H1 → s.vm.Alike t.vm → post r u → B u t → H.size ≤ H1.size → (∀ q : Nat, q < H.size → ¬ A1 q → H1[q]? = H[q]?) → va_S A0 H0 H1 locs1 → W p l e R s m args below meth c H1 locs1 (cells + mc) (slots + ms) Q (F0 m (pc + 3) ls (.float r :: rest))) : W p l e R s m args below meth c H locs cells slots Q (F0 m pc ls st0) := by
  intro T hT X
  rcases hr T hT X with ⟨v, st₀, t, T', L, h0, X', hL, e1, e2, ⟨⟨r, u, hv, hp, hb⟩, hF⟩, st⟩ | ⟨q, st₀, t, T', L, E, ce, h0, X', hL, e1, e2, ⟨u, hp, hb, hF⟩, hce, hcv, hcl, st⟩
  · cases hv
    obtain ⟨k1, k2, k3⟩ := vx_keep h0 e1 hS hA hf hL hF
    obtain ⟨t2, a1, b1⟩ := kk r u t T'.heap (locs ++ L) e1.symm (by rw [← e2]; exact X'.warmed.alike) hp hb k1 k2 k3 T' rfl X'
    exact ⟨t2, st t2 a1, b1⟩
  · obtain ⟨k1, k2, k3⟩ := vx_keep h0 e1 hS hAX hf hL hF
    obtain ⟨t2, a1, b1⟩ := kx E ce q u t T'.heap (locs ++ L) e1.symm (by rw [← e2]; exact X'.warmed.alike) hp hb k1 k2 k3 (by rw [e1]; exact hce) hcv hcl T' rfl X'
    exact ⟨t2, st.trans a1, b1⟩
theorem vx_calld {S SX : Type} {post : UInt64 → S → Prop} {px : SX → Prop} {B : S → State → Prop} {BX : String → SX → State → Prop} {AX : Nat → Prop} (hr : vx_Run p l e R s m args below meth c H locs cells slots mc ms (F0 m pc ls st0) rest (va_Qd post B A1 a) (vx_X px BX AX) free) (hS : va_S A0 H0 H locs) (hA : ∀ q, q < H.size → A1 q → A0 q) (hf : ∀ q, free q → A0 q) (hAX : ∀ q, q < H.size → AX q → A0 q)
    (kx : ∀ (E : String) (ce : Cell) (q9 : Addr) (u : SX) (t : State) (H1 : Heap) (locs1 : List Loc), t.heap = H1 → s.vm.Alike t.vm → px u → BX E u t → H.size ≤ H1.size → (∀ q : Nat, q < H.size → ¬ AX q → H1[q]? = H[q]?) → va_S A0 H0 H1 locs1 → H1[q9]? = some ce → ce.vm = .none → s.vm.findClass E = some ce.cls → vx_W p l e R s m args below meth c H1 locs1 (cells + mc) (slots + ms) Q (F0 m pc ls rest) q9)
    (kk : ∀ (r : UInt64) (u : S) (t : State) (H1 : Heap) (locs1 : List Loc), t.heap = H1 → s.vm.Alike t.vm → post r u → B u t → H.size ≤ H1.size → (∀ q : Nat, q < H.size → ¬ A1 q → H1[q]? = H[q]?) → va_S A0 H0 H1 locs1 → W p l e R s m args below meth c H1 locs1 (cells + mc) (slots + ms) Q (F0 m (pc + 3) ls (.double r :: rest))) : W p l e R s m args below meth c H locs cells slots Q (F0 m pc ls st0) := by
  intro T hT X
  rcases hr T hT X with ⟨v, st₀, t, T', L, h0, X', hL, e1, e2, ⟨⟨r, u, hv, hp, hb⟩, hF⟩, st⟩ | ⟨q, st₀, t, T', L, E, ce, h0, X', hL, e1, e2, ⟨u, hp, hb, hF⟩, hce, hcv, hcl, st⟩
  · cases hv
    obtain ⟨k1, k2, k3⟩ := vx_keep h0 e1 hS hA hf hL hF
    obtain ⟨t2, a1, b1⟩ := kk r u t T'.heap (locs ++ L) e1.symm (by rw [← e2]; exact X'.warmed.alike) hp hb k1 k2 k3 T' rfl X'
    exact ⟨t2, st t2 a1, b1⟩
  · obtain ⟨k1, k2, k3⟩ := vx_keep h0 e1 hS hAX hf hL hF
    obtain ⟨t2, a1, b1⟩ := kx E ce q u t T'.heap (locs ++ L) e1.symm (by rw [← e2]; exact X'.warmed.alike) hp hb k1 k2 k3 (by rw [e1]; exact hce) hcv hcl T' rfl X'
    exact ⟨t2, st.trans a1, b1⟩
theorem vx_callv {S SX : Type} {post : S → Prop} {px : SX → Prop} {B : S → State → Prop} {BX : String → SX → State → Prop} {AX : Nat → Prop} (hr : vx_Run p l e R s m args below meth c H locs cells slots mc ms (F0 m pc ls st0) rest (va_Qv post B A1 a) (vx_X px BX AX) free) (hS : va_S A0 H0 H locs) (hA : ∀ q, q < H.size → A1 q → A0 q) (hf : ∀ q, free q → A0 q) (hAX : ∀ q, q < H.size → AX q → A0 q)
    (kx : ∀ (E : String) (ce : Cell) (q9 : Addr) (u : SX) (t : State) (H1 : Heap) (locs1 : List Loc), t.heap = H1 → s.vm.Alike t.vm → px u → BX E u t → H.size ≤ H1.size → (∀ q : Nat, q < H.size → ¬ AX q → H1[q]? = H[q]?) → va_S A0 H0 H1 locs1 → H1[q9]? = some ce → ce.vm = .none → s.vm.findClass E = some ce.cls → vx_W p l e R s m args below meth c H1 locs1 (cells + mc) (slots + ms) Q (F0 m pc ls rest) q9)
    (kk : ∀ (u : S) (t : State) (H1 : Heap) (locs1 : List Loc), t.heap = H1 → s.vm.Alike t.vm → post u → B u t → H.size ≤ H1.size → (∀ q : Nat, q < H.size → ¬ A1 q → H1[q]? = H[q]?) → va_S A0 H0 H1 locs1 → W p l e R s m args below meth c H1 locs1 (cells + mc) (slots + ms) Q (F0 m (pc + 3) ls (rest))) : W p l e R s m args below meth c H locs cells slots Q (F0 m pc ls st0) := by
  intro T hT X
  rcases hr T hT X with ⟨v, st₀, t, T', L, h0, X', hL, e1, e2, ⟨⟨u, hv, hp, hb⟩, hF⟩, st⟩ | ⟨q, st₀, t, T', L, E, ce, h0, X', hL, e1, e2, ⟨u, hp, hb, hF⟩, hce, hcv, hcl, st⟩
  · cases hv
    obtain ⟨k1, k2, k3⟩ := vx_keep h0 e1 hS hA hf hL hF
    obtain ⟨t2, a1, b1⟩ := kk u t T'.heap (locs ++ L) e1.symm (by rw [← e2]; exact X'.warmed.alike) hp hb k1 k2 k3 T' rfl X'
    exact ⟨t2, st t2 a1, b1⟩
  · obtain ⟨k1, k2, k3⟩ := vx_keep h0 e1 hS hAX hf hL hF
    obtain ⟨t2, a1, b1⟩ := kx E ce q u t T'.heap (locs ++ L) e1.symm (by rw [← e2]; exact X'.warmed.alike) hp hb k1 k2 k3 (by rw [e1]; exact hce) hcv hcl T' rfl X'
    exact ⟨t2, st.trans a1, b1⟩
/-- caught by the row x of this method's table; the rows ahead don't take it -/
theorem vx_catch {own name : String} {E : String} {ce : Cell} {q : Addr} (hown : s.vm.findClass own = some m.cls) (pre : List ExceptionTableEntry) (x : ExceptionTableEntry) (suf : List ExceptionTableEntry) (hsplit : c.exceptionTable.toList = pre ++ x :: suf)
    (hpass : ∀ z ∈ pre, covers z pc = false ∨ (z.catchType ≠ 0 ∧ ∃ nm : String, (Cond.classLink own z.catchType nm).before args s = true ∧ va_Nc E nm s)) (hx : covers x pc = true) (h0 : x.catchType ≠ 0)
    (hlink : (Cond.classLink own x.catchType name).before args s = true) (hcast : (Cond.castable E name).before args s = true) (hcell : H[q]? = some ce) (hv : ce.vm = .none) (hcl : s.vm.findClass E = some ce.cls)
    (kk : W p l e R s m args below meth c H locs cells slots Q (F0 m x.handlerPc ls [.ref q])) : vx_W p l e R s m args below meth c H locs cells slots Q (F0 m pc ls rest) q := by
  intro T hT X
  have hpl : e.platform.magicAccessors = ({} : Platform).magicAccessors := by rw [X.admits.platform]
  obtain ⟨c3, c4, hc3, hc4, hasg⟩ := Cond.castable_spec hcast
  cases Option.some.inj (hc3.symm.trans hcl)
  obtain ⟨c5, hc5, hcl5⟩ := Cond.classLink_spec hown hlink e.platform hpl
  cases Option.some.inj (hc4.symm.trans hc5)
  obtain ⟨vm', X', st⟩ := X.thenCaughtThrough q (g := F0 m pc ls rest) rfl (Steps.refl _) (by rw [hT]; exact hcell) (by rw [hv]; rfl) (by obtain ⟨k9, h9, -⟩ := Vm.findClass_spec hcl; exact ⟨k9, h9⟩) pre x suf hsplit
    (fun z hz => by
      rcases hpass z hz with h | ⟨hz0, nm, hl1, hn1⟩
      · exact Or.inl h
      · obtain ⟨c6, hc6, hcl6⟩ := Cond.classLink_spec hown hl1 e.platform hpl
        obtain ⟨a8, b8, h1, h2, h3⟩ := hn1
        cases Option.some.inj (h1.symm.trans hcl)
        cases Option.some.inj (h2.symm.trans hc6)
        exact Or.inr ⟨hz0, _, hcl6, h3⟩) hx (Or.inr ⟨h0, c4, hcl5, hasg⟩)
  obtain ⟨t, a1, b1⟩ := kk (T.setVm vm') hT X'
  exact ⟨t, st.trans a1, b1⟩
end Rows
section Ends
variable {p : Program} {l : Launch} {e : Env} {R : Room} {s : State} {m : MethodId} {args : Array Value} {below : List Frame} {meth : Method} {c : Code} {H : Heap} {locs : List Loc} {cells slots : Nat} {Q : State → Prop}
variable {mc ms : Nat} {free : Addr → Prop} {A0 A1 : Nat → Prop} {H0 : Heap} {a : Array Value} {ls : Array Slot} {st0 rest : List Value}
variable {Qc : Array Value → State → Outcome → State → Prop} {XC : String → State → State → Prop}
/-- what a body that may throw owes at its end -/
def vx_MQ (below : List Frame) (Qc : Array Value → State → Outcome → State → Prop) (XC : String → State → State → Prop) (a : Array Value) (s : State) (mc ms : Nat) (free : Addr → Prop) : State → Prop := fun t =>
  ∃ o, t.status = .running ∧ Ended t below o ∧ vx_Q Qc XC mc ms free a s o t
theorem vx_ret {g : JFrame} {mc ms : Nat} (k : W p l e R s m args below meth c H locs cells slots (MQ below Qc args s mc ms free) g) : W p l e R s m args below meth c H locs cells slots (vx_MQ below Qc XC args s mc ms free) g := by
  intro T hT X
  obtain ⟨t, a1, o, b1, b2, b3, b4⟩ := k T hT X
  exact ⟨t, a1, o, b1, b2, Or.inl ⟨b3, b4⟩⟩
/-- not caught here: it goes on to the caller -/
theorem vx_widen {g : JFrame} {q : Addr} {k n : Nat} (h1 : cells ≤ k) (h2 : slots ≤ n) (kk : vx_W p l e R s m args below meth c H locs k n Q g q) : vx_W p l e R s m args below meth c H locs cells slots Q g q := fun T hT X => kk T hT (stand_widen X h1 h2)
theorem vx_out {pc : Nat} {E : String} {ce : Cell} {q : Addr} {mc ms : Nat} (hout : ∀ x ∈ c.exceptionTable.toList, covers x pc = false) (hlocks : meth.locks = false) (hcell : H[q]? = some ce) (hv : ce.vm = .none) (hcl : s.vm.findClass E = some ce.cls)
    (hx : ∀ t : State, t.heap = H → s.vm.Alike t.vm → XC E s t) (hf : ∀ z ∈ locs, free z.base) (hc : cells ≤ mc) (hs : slots ≤ ms) :
    vx_W p l e R s m args below meth c H locs cells slots (vx_MQ below Qc XC args s mc ms free) (F0 m pc ls rest) q := by
  intro T hT X
  obtain ⟨st1, hrun, hend, hW, hsm⟩ := X.leaveThrown q (g := F0 m pc ls rest) rfl rfl rfl hout hlocks
  have hcell9 : (T.setFrames (.throwing q :: below)).heap[q]? = some ce := by
    show T.heap[q]? = some ce
    rw [hT]; exact hcell
  exact ⟨_, st1, .threw q, hrun, hend, Or.inr ⟨q, rfl, E, ce, locs, hx _ hT hW.alike, hcell9, hv, hcl, hW, hsm.mono hc hs, hf⟩⟩
theorem vx_frame {U : State} {k n : Nat} (h : s.sameButNew ({ U with vm := s.vm } : State) locs k n) : s.heap.size ≤ U.heap.size ∧ ∀ q : Nat, q < s.heap.size → (∀ z ∈ locs, z.base ≠ q) → U.heap[q]? = s.heap[q]? := by
  obtain ⟨-, h2, -, -, -, h6⟩ := h
  refine ⟨h2, fun q hq hz => ?_⟩
  obtain ⟨c9, e1, e2, e3, e4⟩ := h6 q _ (Array.getElem?_eq_getElem hq)
  have hs : c9.slots = (s.heap[q]).slots := Array.ext_getElem? fun i => e4 i fun hm => hz _ hm rfl
  have h9 : c9 = s.heap[q] := by
    rw [hs] at e2
    exact e2
  have e5 : U.heap[q]? = some c9 := e1
  rw [e5, h9, Array.getElem?_eq_getElem hq]
/-- the words of a throw but the four that speak of the heap -/
def vx_no (w : Cond) : Bool := decide (w ≠ .isRef (.static Bundle.tN "UNASSIGNED_STACK" Bundle.steD)) && decide (w ≠ .isRef (.static Bundle.tN "SUPPRESSED_SENTINEL" Bundle.listD)) && decide (w ≠ .laysStatic Bundle.tN "UNASSIGNED_STACK" Bundle.steD) && decide (w ≠ .laysStatic Bundle.tN "SUPPRESSED_SENTINEL" Bundle.listD)
def vx_at0 (own : String) (ic : Nat) (X : String) (names : List String) : List Cond := (Bundle.ownAtoms0 own ic X names).filter vx_no
def vx_atS (own : String) (ic : Nat) (X : String) (names : List String) : List Cond := (Bundle.ownAtoms own ic X names).filter vx_no
/-- a word that the tables alone decide, or a good one -/
def vx_ot (w : Cond) : Bool := w.onTables || goodWord w
theorem vx_ot_at {args a' : Array Value} {s U : State} {w : Cond} (hW : s.WarmedH U.vm) (hvm : s.vm = U.vm) (hg : vx_ot w = true) (h : w.before args s = true) : w.before a' U = true := by
  simp only [vx_ot, Bool.or_eq_true] at hg
  rcases hg with hg | hg
  · exact va_tabs hg hvm h
  · exact word_at hW (good_of_word hg) h
/-- a list's words: the good ones out of the method's own list, the others by premises of their own -/
theorem vx_hat {args : Array Value} {s : State} {L B : List Cond} (h1 : ∀ w ∈ L.filter goodWord, w.before args s = true) (h2 : ∀ w ∈ L.filter (fun w => !goodWord w), w ∈ B) (h3 : ∀ w ∈ B, w.before args s = true) : ∀ w ∈ L, w.before args s = true := by
  intro w hw
  by_cases g : goodWord w = true
  · exact h1 w (List.mem_filter.mpr ⟨hw, g⟩)
  · refine h3 w (h2 w (List.mem_filter.mpr ⟨hw, ?_⟩))
    show (!goodWord w) = true
    cases hgw : goodWord w
    · rfl
    · exact absurd hgw g
theorem vx_c {args : Array Value} {s : State} {w : Cond} {B : List Cond} (h : w.before args s = true) (t : ∀ w ∈ B, w.before args s = true) : ∀ w' ∈ w :: B, w'.before args s = true := fun w' h' => (List.mem_cons.mp h').elim (fun e => by rw [e]; exact h) (t w')
theorem vx_n {args : Array Value} {s : State} : ∀ w ∈ ([] : List Cond), w.before args s = true := fun _ h => nomatch h
theorem vx_own {args : Array Value} {s : State} {L : List Cond} (h1 : ∀ w ∈ L.filter vx_no, w.before args s = true)
    (hU : (Cond.isRef (.static Bundle.tN "UNASSIGNED_STACK" Bundle.steD)).before args s = true) (hN : (Cond.isRef (.static Bundle.tN "SUPPRESSED_SENTINEL" Bundle.listD)).before args s = true)
    (lU : (Cond.laysStatic Bundle.tN "UNASSIGNED_STACK" Bundle.steD).before args s = true) (lN : (Cond.laysStatic Bundle.tN "SUPPRESSED_SENTINEL" Bundle.listD).before args s = true) : ∀ w ∈ L, w.before args s = true := by
  intro w hw
  by_cases e1 : w = .isRef (.static Bundle.tN "UNASSIGNED_STACK" Bundle.steD)
  · rw [e1]; exact hU
  · by_cases e2 : w = .isRef (.static Bundle.tN "SUPPRESSED_SENTINEL" Bundle.listD)
    · rw [e2]; exact hN
    · by_cases e3 : w = .laysStatic Bundle.tN "UNASSIGNED_STACK" Bundle.steD
      · rw [e3]; exact lU
      · by_cases e4 : w = .laysStatic Bundle.tN "SUPPRESSED_SENTINEL" Bundle.listD
        · rw [e4]; exact lN
        · exact h1 w (List.mem_filter.mpr ⟨hw, by unfold vx_no; rw [decide_eq_true e1, decide_eq_true e2, decide_eq_true e3, decide_eq_true e4]; rfl⟩)
/-- where a static field lies, its class's statics cell in H -/
def vx_L (C n d : String) (A : Nat → Prop) (U : State) (H : Heap) : Prop := ∃ (c : ClassId) (k : Class) (i : Nat) (f : Field) (a : Nat) (cell : Cell), U.vm.findClass C = some c ∧ U.fieldFound? C n d = some (c, k, i, f) ∧ f.isStatic = true ∧ k.statics = some a ∧ H[a]? = some cell ∧ cell.vm.isStatics = true ∧ cell.cls = c ∧ f.slot < cell.slots.size ∧ k.staticTypes[f.slot]? = some f.type ∧ ¬ A a
theorem vx_L.moved {C n d : String} {A : Nat → Prop} {u U : State} {H : Heap} (hvm : u.vm.Alike U.vm) (h : vx_L C n d A u H) : vx_L C n d A U H := by
  obtain ⟨c, k, i, f, a, cell, h1, h2, h3, h4, h5, h6, h7, h8, h9, h10⟩ := h
  obtain ⟨k', hi', he⟩ := State.fieldFound?_setVm hvm h2
  exact ⟨c, k', i, f, a, cell, by rw [hvm.findClass]; exact h1, hi', h3, by rw [he]; exact h4, h5, h6, h7, h8, by rw [he]; exact h9, h10⟩
theorem vx_L.kept {C n d : String} {A : Nat → Prop} {U : State} {H H1 : Heap} (h : vx_L C n d A U H) (hq : ∀ a : Nat, a < H.size → ¬ A a → H1[a]? = H[a]?) : vx_L C n d A U H1 := by
  obtain ⟨c, k, i, f, a, cell, h1, h2, h3, h4, h5, h6, h7, h8, h9, h10⟩ := h
  exact ⟨c, k, i, f, a, cell, h1, h2, h3, h4, by rw [hq a (Array.getElem?_eq_some_iff.mp h5).1 h10]; exact h5, h6, h7, h8, h9, h10⟩
theorem vx_L.narrow {C n d : String} {A B : Nat → Prop} {U : State} {H : Heap} (h : vx_L C n d A U H) (hAB : ∀ q, B q → A q) : vx_L C n d B U H := by
  obtain ⟨c, k, i, f, a, cell, h1, h2, h3, h4, h5, h6, h7, h8, h9, h10⟩ := h
  exact ⟨c, k, i, f, a, cell, h1, h2, h3, h4, h5, h6, h7, h8, h9, fun z => h10 (hAB _ z)⟩
theorem vx_L.word {C n d : String} {A : Nat → Prop} {s : State} {args : Array Value} (h : vx_L C n d A s s.heap) : (Cond.laysStatic C n d).before args s = true := by
  obtain ⟨c, k, i, f, a, cell, h1, h2, h3, h4, h5, h6, h7, h8, h9, -⟩ := h
  show (Cond.laysStatic C n d).holds args s none s [] = true
  exact Cond.laysStatic_of h1 h2 h3 h4 h5 h6 h7 h8 h9
/-- .. and what it holds: null or some reference -/
def vx_Zq (C n d : String) (A : Nat → Prop) (U : State) (H : Heap) : Prop := va_Zq C n d A U H ∧ vx_L C n d A U H
theorem vx_Zq.moved {C n d : String} {A : Nat → Prop} {u U : State} {H : Heap} (hvm : u.vm.Alike U.vm) (h : vx_Zq C n d A u H) : vx_Zq C n d A U H := ⟨va_Zq.moved hvm h.1, vx_L.moved hvm h.2⟩
theorem vx_Zq.kept {C n d : String} {A : Nat → Prop} {U : State} {H H1 : Heap} (h : vx_Zq C n d A U H) (hq : ∀ a : Nat, a < H.size → ¬ A a → H1[a]? = H[a]?) : vx_Zq C n d A U H1 := ⟨va_Zq.kept h.1 hq, vx_L.kept h.2 hq⟩
theorem vx_Zq.narrow {C n d : String} {A B : Nat → Prop} {U : State} {H : Heap} (h : vx_Zq C n d A U H) (hAB : ∀ q, B q → A q) : vx_Zq C n d B U H := ⟨va_Zq.narrow h.1 hAB, vx_L.narrow h.2 hAB⟩
theorem vx_Zqof {args : Array Value} {s : State} {C n d : String} {A : Nat → Prop} (hl : (Cond.laysStatic C n d).before args s = true) (hini : (Cond.initialized C).before args s = true) (h : (Cond.isRef (.static C n d)).before args s = true) (hA : ∀ a : Nat, a < s.heap.size → ¬ A a) : vx_Zq C n d A s s.heap := by
  refine ⟨va_Zqof hl hini h hA, ?_⟩
  obtain ⟨c, k, i, f, a, cell, h1, h2, h3, h4, h5, h6, h7, h8, h9⟩ := Cond.laysStatic_spec hl
  exact ⟨c, k, i, f, a, cell, h1, h2, h3, h4, h5, h6, h7, h8, h9, hA a (Array.getElem?_eq_some_iff.mp h5).1⟩
theorem vx_isRef {C n d : String} {v : Value} {A : Nat → Prop} {s : State} {args : Array Value} (h : va_Z C n d v A s s.heap) (hv : v.isRef = true) : (Cond.isRef (.static C n d)).before args s = true := by
  obtain ⟨cf, kf, fi, f, a, cell, h1, h2, h3, h4, h5, h6, h7, -⟩ := h
  have he : (Term.static C n d).eval args s none [] s = some v := by
    simp [Term.eval, State.fieldNamed?, h1, h2, h4, h5, h6, h7]
  simp only [Cond.before, Cond.holds, Cond.value, he]
  cases v <;> simp_all [Value.isRef]
theorem vx_isRefq {C n d : String} {A : Nat → Prop} {s : State} {args : Array Value} (h : va_Zq C n d A s s.heap) : (Cond.isRef (.static C n d)).before args s = true := by
  rcases h with h | ⟨t, h⟩
  · exact vx_isRef h rfl
  · exact vx_isRef h rfl
/-- the same frame, seen from here: as if the method were called anew in this heap -/
theorem vx_rebase {T : State} (X : Stand p l e R s m args below meth c T locs cells slots) {R' : Room} (hf : R'.frames ≤ R.frames) (hl : R'.locals ≤ R.locals) (hc : cells + R'.cells ≤ R.cells) (hs : slots + R'.slots ≤ R.slots) :
    Stand p l e R' ((T.setVm s.vm).setFrames (.invoking m args :: below)) m args below meth c T [] 0 0 := by
  have htop : (T.setVm s.vm).topJava?.isSome := X.here.top
  have hF : ((T.setVm s.vm).setFrames (.invoking m args :: below)).frames = .invoking m args :: below := State.frames_setFrames _ (State.cur_lt_of_top htop)
  obtain ⟨g₀, hg0⟩ := Option.isSome_iff_exists.mp htop
  obtain ⟨r, hr⟩ := State.topJava?_eq_some.mp hg0
  have hl9 : e.platform.stackLimits (T.setVm s.vm).me = e.platform.stackLimits s.me := X.limits
  have hb9 : (T.setVm s.vm).me.stackBytes = s.me.stackBytes := X.bytes
  refine ⟨X.admits, X.cas, X.clock, hF, ?_, X.hears, X.method, X.code, X.here, X.tail, X.warmed, ?_, ?_, ?_⟩
  · have h := X.room
    have hU : ((T.setVm s.vm).setFrames (.invoking m args :: below)).localsInUse = s.localsInUse := by
      rw [State.localsInUse_invoking hF (meth := meth) (c := c) X.method X.code, State.localsInUse_invoking X.frames X.method X.code]
    simp only [State.hasRoom, Bool.and_eq_true, decide_eq_true_eq] at h ⊢
    obtain ⟨⟨⟨⟨h1, h2, h3, h4, h5, h6⟩, h7⟩, h8⟩, h9⟩ := h
    rw [X.frames, List.length_cons] at h2 h3
    have q1 := X.heapSize
    have q2 := X.used
    simp only [hF, hU, List.length_cons, State.stackLimits_setFrames, State.stackBytes_setFrames, hl9, hb9]
    refine ⟨⟨⟨⟨by omega, by omega, by omega, by omega, by omega, h6⟩, ?_⟩, ?_⟩, X.book⟩
    · show T.heap.size + R'.cells ≤ e.platform.maxCells
      omega
    · show T.slotsUsed + R'.slots ≤ e.platform.maxSlots
      omega
  · rw [State.stackLimits_setFrames]; rfl
  · rw [State.stackBytes_setFrames]; rfl
  · refine ⟨?_, Nat.le_refl _, Nat.le_refl _, ?_, ?_, fun a c9 h9 => ⟨c9, h9, rfl, rfl, fun _ _ => rfl⟩⟩
    · obtain ⟨t, ht, -⟩ := State.frames_cons hr
      show T.setVm s.vm = { ((T.setVm s.vm).setFrames (.invoking m args :: below)).setFrames (T.setVm s.vm).frames with heap := T.heap, slotsUsed := T.slotsUsed }
      rw [State.setFrames_setFrames, State.setFrames_self ht]
      rfl
    · show T.slotsUsed = T.slotsUsed + ((T.heap.toList.drop T.heap.size).map (·.slots.size)).sum
      rw [List.drop_eq_nil_of_le (Nat.le_of_eq Array.length_toList)]
      rfl
    · show ((T.heap.toList.drop T.heap.size).map (·.slots.size)).sum ≤ 0
      rw [List.drop_eq_nil_of_le (Nat.le_of_eq Array.length_toList)]
      exact Nat.le_refl _
/-- 'throw new E()': new; dup; invokespecial; athrow -/
theorem vx_throw0 {cc : ByteArray} {pc : Nat} (hexec : p.tables.exec = Jvm.exec) (hb : c.code = cc) (hl : l.stackTraces = false) {own cls : String} {names : List String} {ik ic mc ms : Nat} {A : Nat → Prop}
    (hown : s.vm.findClass own = some m.cls) (hcls : Bundle.fit cls = true) (hnames : ∀ n ∈ names, Bundle.fit n = true)
    (hk : (Cond.classLink own ik cls).before args s = true) (hini : (Cond.initialized cls).before args s = true) (hat : ∀ w ∈ vx_at0 own ic cls names, w.before args s = true)
    (hgood : ∀ w ∈ Cond.classLink own ik cls :: Cond.initialized cls :: vx_at0 own ic cls names, vx_ot w = true)
    (hU : vx_Zq Bundle.tN "UNASSIGNED_STACK" Bundle.steD A s s.heap) (hN : vx_Zq Bundle.tN "SUPPRESSED_SENTINEL" Bundle.listD A s s.heap) (hS : va_S A s.heap H locs) (hsize : ls.size = c.maxLocals)
    (d0 : decode cc pc = .ok (.new ik, 3)) (d3 : decode cc (pc + 3) = .ok (.dup, 1)) (d4 : decode cc (pc + 4) = .ok (.invokespecial ic, 3)) (d7 : decode cc (pc + 7) = .ok (.athrow, 1))
    (hout : ∀ x ∈ c.exceptionTable.toList, covers x (pc + 7) = false)
    (hRframes : names.length + 3 < R.frames) (hRlocals : (rest.map fun v => v.category).sum + (13 * (names.length + 1) + 42) ≤ R.locals) (hRcells : cells + 1 ≤ R.cells) (hRslots : slots + 6 ≤ R.slots) (hlocks : meth.locks = false)
    (hx : ∀ t : State, s.vm.Alike t.vm → H.size ≤ t.heap.size → (∀ q : Nat, q < H.size → t.heap[q]? = H[q]?) → XC cls s t)
    (hf : ∀ z ∈ locs, free z.base) (hc : cells + 1 ≤ mc) (hs : slots + 6 ≤ ms) :
    W p l e R s m args below meth c H locs cells slots (vx_MQ below Qc XC args s mc ms free) (F0 m pc ls rest) := by
  intro T hT X
  have htr : e.platform.stackTraces = false := (show e.platform.stackTraces = l.stackTraces by rw [X.admits.platform]).trans hl
  have Y := vx_rebase X (R' := { frames := R.frames, locals := R.locals, cells := 1, slots := 6 }) (Nat.le_refl _) (Nat.le_refl _) hRcells hRslots
  obtain ⟨s', hA⟩ : ∃ z, z = (T.setVm s.vm).setFrames (.invoking m args :: below) := ⟨_, rfl⟩
  rw [← hA] at Y
  have hvm : s'.vm = s.vm := by rw [hA]; rfl
  have hhp : s'.heap = H := by rw [hA]; exact hT
  have hW0 : s.WarmedH s'.vm := by rw [hvm]; exact State.WarmedH.refl s
  have hat' : ∀ w ∈ vx_at0 own ic cls names, w.before args s' = true := fun w hw => vx_ot_at hW0 hvm.symm (hgood w (List.mem_cons_of_mem _ (List.mem_cons_of_mem _ hw))) (hat w hw)
  have hk' : (Cond.classLink own ik cls).before args s' = true := vx_ot_at hW0 hvm.symm (hgood _ List.mem_cons_self) hk
  have hini' : (Cond.initialized cls).before args s' = true := vx_ot_at hW0 hvm.symm (hgood _ (List.mem_cons_of_mem _ List.mem_cons_self)) hini
  have hU' : vx_Zq Bundle.tN "UNASSIGNED_STACK" Bundle.steD A s' s'.heap := by rw [hhp]; exact vx_Zq.moved hW0.alike (hU.kept hS.2.1)
  have hN' : vx_Zq Bundle.tN "SUPPRESSED_SENTINEL" Bundle.listD A s' s'.heap := by rw [hhp]; exact vx_Zq.moved hW0.alike (hN.kept hS.2.1)
  have h : ∀ w ∈ Bundle.ownAtoms0 own ic cls names, w.before args s' = true := vx_own hat' (vx_isRefq hU'.1) (vx_isRefq hN'.1) hU'.2.word hN'.2.word
  have hown' : s'.vm.findClass own = some m.cls := by rw [hvm]; exact hown
  have hins : (Cond.instantiable cls 6).before args s' = true := h _ (by simp [Bundle.ownAtoms0])
  obtain ⟨vm₁, cX, kX, hfX, hkX, -, -, X₁, st1⟩ := Y.newCold hexec (own := own) (C := cls) (index := ik) (n := 6) hown' hk' hins hini'
    (g := F0 m pc ls rest) rfl (by rw [hb]; exact d0) (Nat.le_refl _) (Nat.le_refl _)
  generalize hT1 : (T.setVm vm₁).pushCell { cls := cX, slots := kX.instanceTypes.map defaultValue, vm := .none } = T1 at X₁ st1
  have hcat : (Value.ref T.heap.size).category = 1 := rfl
  have hcellA : T1.heap[T.heap.size]? = some (freshCell cX kX) := by rw [← hT1]; exact State.heap_pushCell_size _ _
  have d3' : decode c.code (pc + 3) = .ok (.dup, 1) := by rw [hb]; exact d3
  obtain ⟨U, hsteps, hrun, hend, hW, hsame, ce, hce, hO⟩ := X₁.ctorThrow0 hexec htr (own := own) (cls := cls) (names := names) (ic := ic) hown' hcls hnames h (fun x hx => nomatch hx) hfX hkX hcellA (by rw [hhp, hT]; exact Nat.le_refl _)
    (g := { method := m, pc := pc + 4, locals := ls, stack := .ref T.heap.size :: .ref T.heap.size :: rest, locked := none }) rfl hsize rfl rfl (rest := rest) rfl
    (by rw [hb]; exact d4) (by rw [hb]; exact d7) hout hRframes (by simp only [List.map_cons, List.sum_cons, hcat]; omega) hlocks
  obtain ⟨f1, f2⟩ := vx_frame hsame
  rw [hhp] at f1 f2
  have hWs : s.WarmedH U.vm := State.WarmedH.trans hW0 hW
  have hcl : s.vm.findClass cls = some ce.cls := by
    have h9 := hO.cls
    rw [hvm] at h9
    exact h9
  have hall : s.sameButNew ({ U with vm := s.vm } : State) locs mc ms := by
    subst hA
    obtain ⟨e1, e2⟩ := hsame
    rw [State.setFrames_setFrames] at e1
    have h2 : (T.setVm s.vm).sameButNew ({ U with vm := s.vm } : State) [] (0 + 1) (0 + 6) := ⟨e1, e2⟩
    have h3 := X.same.trans h2
    rw [List.append_nil] at h3
    exact h3.mono hc hs
  refine ⟨U, ?_, .threw T.heap.size, hrun, hend, Or.inr ⟨T.heap.size, rfl, cls, ce, locs, hx U hWs.alike f1 (fun q hq => f2 q hq (fun z hz => nomatch hz)), hce, hO.vm, hcl, hWs, hall, hf⟩⟩
  refine st1 _ ?_
  show Steps p.tables e below (T1.setTop { method := m, pc := pc + 3, locals := ls, stack := .ref T.heap.size :: rest, locked := none }) _
  jvm_step X₁.here [X₁.here.top, hexec, d3', Value.category]
  exact hsteps
/-- 'throw new E("text")': new; dup; ldc; invokespecial; athrow -/
theorem vx_throwS {cc : ByteArray} {pc : Nat} (hexec : p.tables.exec = Jvm.exec) (hb : c.code = cc) (hl : l.stackTraces = false) {own cls text : String} {names : List String} {ik is ic mc ms sa : Nat} {A : Nat → Prop}
    (hown : s.vm.findClass own = some m.cls) (hcls : Bundle.fit cls = true) (hnames : ∀ n ∈ names, Bundle.fit n = true)
    (hk : (Cond.classLink own ik cls).before args s = true) (hini : (Cond.initialized cls).before args s = true) (hstr : vk_R own is text sa s) (hat : ∀ w ∈ vx_atS own ic cls names, w.before args s = true)
    (hgood : ∀ w ∈ Cond.classLink own ik cls :: Cond.initialized cls :: vx_atS own ic cls names, vx_ot w = true)
    (hU : vx_Zq Bundle.tN "UNASSIGNED_STACK" Bundle.steD A s s.heap) (hN : vx_Zq Bundle.tN "SUPPRESSED_SENTINEL" Bundle.listD A s s.heap) (hS : va_S A s.heap H locs) (hsize : ls.size = c.maxLocals)
    (d0 : decode cc pc = .ok (.new ik, 3)) (d3 : decode cc (pc + 3) = .ok (.dup, 1)) (d4 : decode cc (pc + 4) = .ok (.ldc is, 2)) (d6 : decode cc (pc + 6) = .ok (.invokespecial ic, 3)) (d9 : decode cc (pc + 9) = .ok (.athrow, 1))
    (hout : ∀ x ∈ c.exceptionTable.toList, covers x (pc + 9) = false)
    (hRframes : names.length + 3 < R.frames) (hRlocals : (rest.map fun v => v.category).sum + (13 * (names.length + 1) + 43) ≤ R.locals) (hRcells : cells + 1 ≤ R.cells) (hRslots : slots + 6 ≤ R.slots) (hlocks : meth.locks = false)
    (hx : ∀ t : State, s.vm.Alike t.vm → H.size ≤ t.heap.size → (∀ q : Nat, q < H.size → t.heap[q]? = H[q]?) → XC cls s t)
    (hf : ∀ z ∈ locs, free z.base) (hc : cells + 1 ≤ mc) (hs : slots + 6 ≤ ms) :
    W p l e R s m args below meth c H locs cells slots (vx_MQ below Qc XC args s mc ms free) (F0 m pc ls rest) := by
  intro T hT X
  have htr : e.platform.stackTraces = false := (show e.platform.stackTraces = l.stackTraces by rw [X.admits.platform]).trans hl
  have Y := vx_rebase X (R' := { frames := R.frames, locals := R.locals, cells := 1, slots := 6 }) (Nat.le_refl _) (Nat.le_refl _) hRcells hRslots
  obtain ⟨s', hA⟩ : ∃ z, z = (T.setVm s.vm).setFrames (.invoking m args :: below) := ⟨_, rfl⟩
  rw [← hA] at Y
  have hvm : s'.vm = s.vm := by rw [hA]; rfl
  have hhp : s'.heap = H := by rw [hA]; exact hT
  have hW0 : s.WarmedH s'.vm := by rw [hvm]; exact State.WarmedH.refl s
  have hat' : ∀ w ∈ vx_atS own ic cls names, w.before args s' = true := fun w hw => vx_ot_at hW0 hvm.symm (hgood w (List.mem_cons_of_mem _ (List.mem_cons_of_mem _ hw))) (hat w hw)
  have hk' : (Cond.classLink own ik cls).before args s' = true := vx_ot_at hW0 hvm.symm (hgood _ List.mem_cons_self) hk
  have hini' : (Cond.initialized cls).before args s' = true := vx_ot_at hW0 hvm.symm (hgood _ (List.mem_cons_of_mem _ List.mem_cons_self)) hini
  have hU' : vx_Zq Bundle.tN "UNASSIGNED_STACK" Bundle.steD A s' s'.heap := by rw [hhp]; exact vx_Zq.moved hW0.alike (hU.kept hS.2.1)
  have hN' : vx_Zq Bundle.tN "SUPPRESSED_SENTINEL" Bundle.listD A s' s'.heap := by rw [hhp]; exact vx_Zq.moved hW0.alike (hN.kept hS.2.1)
  have h : ∀ w ∈ Bundle.ownAtoms own ic cls names, w.before args s' = true := vx_own hat' (vx_isRefq hU'.1) (vx_isRefq hN'.1) hU'.2.word hN'.2.word
  have hown' : s'.vm.findClass own = some m.cls := by rw [hvm]; exact hown
  have hins : (Cond.instantiable cls 6).before args s' = true := h _ (by simp [Bundle.ownAtoms])
  obtain ⟨vm₁, cX, kX, hfX, hkX, -, -, X₁, st1⟩ := Y.newCold hexec (own := own) (C := cls) (index := ik) (n := 6) hown' hk' hins hini'
    (g := F0 m pc ls rest) rfl (by rw [hb]; exact d0) (Nat.le_refl _) (Nat.le_refl _)
  generalize hT1 : (T.setVm vm₁).pushCell { cls := cX, slots := kX.instanceTypes.map defaultValue, vm := .none } = T1 at X₁ st1
  have hcat : (Value.ref T.heap.size).category = 1 := rfl
  have hcellA : T1.heap[T.heap.size]? = some (freshCell cX kX) := by rw [← hT1]; exact State.heap_pushCell_size _ _
  have d3' : decode c.code (pc + 3) = .ok (.dup, 1) := by rw [hb]; exact d3
  have d4' : decode c.code (pc + 4) = .ok (.ldc is, 2) := by rw [hb]; exact d4
  have hstr' : vk_R own is text sa s' := vk_R.warm hW0 hstr
  obtain ⟨U, hsteps, hrun, hend, hW, hsame, ce, hce, hO⟩ := X₁.ctorThrowS hexec htr (own := own) (cls := cls) (names := names) (ic := ic) hown' hcls hnames h (fun x hx => nomatch hx) hfX hkX hcellA (by rw [hhp, hT]; exact Nat.le_refl _) (msg := .ref sa) rfl
    (g := { method := m, pc := pc + 6, locals := ls, stack := .ref sa :: .ref T.heap.size :: .ref T.heap.size :: rest, locked := none }) rfl hsize rfl rfl (rest := rest) rfl
    (by rw [hb]; exact d6) (by rw [hb]; exact d9) hout hRframes (by simp only [List.map_cons, List.sum_cons, hcat]; omega) hlocks
  obtain ⟨f1, f2⟩ := vx_frame hsame
  rw [hhp] at f1 f2
  have hWs : s.WarmedH U.vm := State.WarmedH.trans hW0 hW
  have hcl : s.vm.findClass cls = some ce.cls := by
    have h9 := hO.cls
    rw [hvm] at h9
    exact h9
  have hall : s.sameButNew ({ U with vm := s.vm } : State) locs mc ms := by
    subst hA
    obtain ⟨e1, e2⟩ := hsame
    rw [State.setFrames_setFrames] at e1
    have h2 : (T.setVm s.vm).sameButNew ({ U with vm := s.vm } : State) [] (0 + 1) (0 + 6) := ⟨e1, e2⟩
    have h3 := X.same.trans h2
    rw [List.append_nil] at h3
    exact h3.mono hc hs
  refine ⟨U, ?_, .threw T.heap.size, hrun, hend, Or.inr ⟨T.heap.size, rfl, cls, ce, locs, hx U hWs.alike f1 (fun q hq => f2 q hq (fun z hz => nomatch hz)), hce, hO.vm, hcl, hWs, hall, hf⟩⟩
  refine st1 _ ?_
  show Steps p.tables e below (T1.setTop { method := m, pc := pc + 3, locals := ls, stack := .ref T.heap.size :: rest, locked := none }) _
  jvm_step X₁.here [X₁.here.top, hexec, d3', Value.category]
  exact X₁.ldcString hexec (own := own) (text := text) (index := is) (a := sa) hown' hstr'.1 hstr'.2
    (g := { method := m, pc := pc + 4, locals := ls, stack := .ref T.heap.size :: .ref T.heap.size :: rest, locked := none }) rfl d4' _ hsteps
/-- 'throw new E("text")', the text by a wide index -/
theorem vx_throwSW {cc : ByteArray} {pc : Nat} (hexec : p.tables.exec = Jvm.exec) (hb : c.code = cc) (hl : l.stackTraces = false) {own cls text : String} {names : List String} {ik is ic mc ms sa : Nat} {A : Nat → Prop}
    (hown : s.vm.findClass own = some m.cls) (hcls : Bundle.fit cls = true) (hnames : ∀ n ∈ names, Bundle.fit n = true)
    (hk : (Cond.classLink own ik cls).before args s = true) (hini : (Cond.initialized cls).before args s = true) (hstr : vk_R own is text sa s) (hat : ∀ w ∈ vx_atS own ic cls names, w.before args s = true)
    (hgood : ∀ w ∈ Cond.classLink own ik cls :: Cond.initialized cls :: vx_atS own ic cls names, vx_ot w = true)
    (hU : vx_Zq Bundle.tN "UNASSIGNED_STACK" Bundle.steD A s s.heap) (hN : vx_Zq Bundle.tN "SUPPRESSED_SENTINEL" Bundle.listD A s s.heap) (hS : va_S A s.heap H locs) (hsize : ls.size = c.maxLocals)
    (d0 : decode cc pc = .ok (.new ik, 3)) (d3 : decode cc (pc + 3) = .ok (.dup, 1)) (d4 : decode cc (pc + 4) = .ok (.ldc_w is, 3)) (d7 : decode cc (pc + 7) = .ok (.invokespecial ic, 3)) (d10 : decode cc (pc + 10) = .ok (.athrow, 1))
    (hout : ∀ x ∈ c.exceptionTable.toList, covers x (pc + 10) = false)
    (hRframes : names.length + 3 < R.frames) (hRlocals : (rest.map fun v => v.category).sum + (13 * (names.length + 1) + 43) ≤ R.locals) (hRcells : cells + 1 ≤ R.cells) (hRslots : slots + 6 ≤ R.slots) (hlocks : meth.locks = false)
    (hx : ∀ t : State, s.vm.Alike t.vm → H.size ≤ t.heap.size → (∀ q : Nat, q < H.size → t.heap[q]? = H[q]?) → XC cls s t)
    (hf : ∀ z ∈ locs, free z.base) (hc : cells + 1 ≤ mc) (hs : slots + 6 ≤ ms) :
    W p l e R s m args below meth c H locs cells slots (vx_MQ below Qc XC args s mc ms free) (F0 m pc ls rest) := by
  intro T hT X
  have htr : e.platform.stackTraces = false := (show e.platform.stackTraces = l.stackTraces by rw [X.admits.platform]).trans hl
  have Y := vx_rebase X (R' := { frames := R.frames, locals := R.locals, cells := 1, slots := 6 }) (Nat.le_refl _) (Nat.le_refl _) hRcells hRslots
  obtain ⟨s', hA⟩ : ∃ z, z = (T.setVm s.vm).setFrames (.invoking m args :: below) := ⟨_, rfl⟩
  rw [← hA] at Y
  have hvm : s'.vm = s.vm := by rw [hA]; rfl
  have hhp : s'.heap = H := by rw [hA]; exact hT
  have hW0 : s.WarmedH s'.vm := by rw [hvm]; exact State.WarmedH.refl s
  have hat' : ∀ w ∈ vx_atS own ic cls names, w.before args s' = true := fun w hw => vx_ot_at hW0 hvm.symm (hgood w (List.mem_cons_of_mem _ (List.mem_cons_of_mem _ hw))) (hat w hw)
  have hk' : (Cond.classLink own ik cls).before args s' = true := vx_ot_at hW0 hvm.symm (hgood _ List.mem_cons_self) hk
  have hini' : (Cond.initialized cls).before args s' = true := vx_ot_at hW0 hvm.symm (hgood _ (List.mem_cons_of_mem _ List.mem_cons_self)) hini
  have hU' : vx_Zq Bundle.tN "UNASSIGNED_STACK" Bundle.steD A s' s'.heap := by rw [hhp]; exact vx_Zq.moved hW0.alike (hU.kept hS.2.1)
  have hN' : vx_Zq Bundle.tN "SUPPRESSED_SENTINEL" Bundle.listD A s' s'.heap := by rw [hhp]; exact vx_Zq.moved hW0.alike (hN.kept hS.2.1)
  have h : ∀ w ∈ Bundle.ownAtoms own ic cls names, w.before args s' = true := vx_own hat' (vx_isRefq hU'.1) (vx_isRefq hN'.1) hU'.2.word hN'.2.word
  have hown' : s'.vm.findClass own = some m.cls := by rw [hvm]; exact hown
  have hins : (Cond.instantiable cls 6).before args s' = true := h _ (by simp [Bundle.ownAtoms])
  obtain ⟨vm₁, cX, kX, hfX, hkX, -, -, X₁, st1⟩ := Y.newCold hexec (own := own) (C := cls) (index := ik) (n := 6) hown' hk' hins hini'
    (g := F0 m pc ls rest) rfl (by rw [hb]; exact d0) (Nat.le_refl _) (Nat.le_refl _)
  generalize hT1 : (T.setVm vm₁).pushCell { cls := cX, slots := kX.instanceTypes.map defaultValue, vm := .none } = T1 at X₁ st1
  have hcat : (Value.ref T.heap.size).category = 1 := rfl
  have hcellA : T1.heap[T.heap.size]? = some (freshCell cX kX) := by rw [← hT1]; exact State.heap_pushCell_size _ _
  have d3' : decode c.code (pc + 3) = .ok (.dup, 1) := by rw [hb]; exact d3
  have d4' : decode c.code (pc + 4) = .ok (.ldc_w is, 3) := by rw [hb]; exact d4
  have hstr' : vk_R own is text sa s' := vk_R.warm hW0 hstr
  obtain ⟨U, hsteps, hrun, hend, hW, hsame, ce, hce, hO⟩ := X₁.ctorThrowS hexec htr (own := own) (cls := cls) (names := names) (ic := ic) hown' hcls hnames h (fun x hx => nomatch hx) hfX hkX hcellA (by rw [hhp, hT]; exact Nat.le_refl _) (msg := .ref sa) rfl
    (g := { method := m, pc := pc + 7, locals := ls, stack := .ref sa :: .ref T.heap.size :: .ref T.heap.size :: rest, locked := none }) rfl hsize rfl rfl (rest := rest) rfl
    (by rw [hb]; exact d7) (by rw [hb]; exact d10) hout hRframes (by simp only [List.map_cons, List.sum_cons, hcat]; omega) hlocks
  obtain ⟨f1, f2⟩ := vx_frame hsame
  rw [hhp] at f1 f2
  have hWs : s.WarmedH U.vm := State.WarmedH.trans hW0 hW
  have hcl : s.vm.findClass cls = some ce.cls := by
    have h9 := hO.cls
    rw [hvm] at h9
    exact h9
  have hall : s.sameButNew ({ U with vm := s.vm } : State) locs mc ms := by
    subst hA
    obtain ⟨e1, e2⟩ := hsame
    rw [State.setFrames_setFrames] at e1
    have h2 : (T.setVm s.vm).sameButNew ({ U with vm := s.vm } : State) [] (0 + 1) (0 + 6) := ⟨e1, e2⟩
    have h3 := X.same.trans h2
    rw [List.append_nil] at h3
    exact h3.mono hc hs
  refine ⟨U, ?_, .threw T.heap.size, hrun, hend, Or.inr ⟨T.heap.size, rfl, cls, ce, locs, hx U hWs.alike f1 (fun q hq => f2 q hq (fun z hz => nomatch hz)), hce, hO.vm, hcl, hWs, hall, hf⟩⟩
  refine st1 _ ?_
  show Steps p.tables e below (T1.setTop { method := m, pc := pc + 3, locals := ls, stack := .ref T.heap.size :: rest, locked := none }) _
  jvm_step X₁.here [X₁.here.top, hexec, d3', Value.category]
  exact X₁.ldcStringW hexec (own := own) (text := text) (index := is) (a := sa) hown' hstr'.1 hstr'.2
    (g := { method := m, pc := pc + 4, locals := ls, stack := .ref T.heap.size :: .ref T.heap.size :: rest, locked := none }) rfl d4' _ hsteps
end Ends
section Bodies
variable {l : Launch}
theorem vx_ofW {y : MethodName} {ws ws' : List Cond} {rm : Room} {Pc : Array Value → State → Prop} {Qc : Array Value → State → Outcome → State → Prop} {XC : String → State → State → Prop} {mc ms : Nat} {free : Addr → Prop} {cc : ByteArray} {maxL : Nat} {ret : Option FieldType}
    (hy : plainName y.cls = true) (hw : ws = Cond.code y cc maxL ret :: ws')
    (body : ∀ p e s m args below meth c s₁, BodyLoose p l y (headSpec ws rm) cc maxL ret e s m args below meth c s₁ → c.maxLocals = maxL → (∀ x ∈ c.exceptionTable.toList, False) → Pc args s →
      W p l e (headSpec ws rm).room s m args below meth c s.heap [] 0 0 (vx_MQ below Qc XC args s mc ms free) (entryFrame m args maxL)) : vx_Met l y ws rm Pc Qc XC mc ms free := by
  refine MetFree.of_bodyS (code := cc) (maxLocals := maxL) (ret := ret) hy ?_ ?_
  · intro args s m h hn
    obtain ⟨meth, c, h1, h2, h3, h4, h5, h6, -, -⟩ := Cond.code_spec hn (atoms_spec (ws := ws) h _ (by rw [hw]; exact List.mem_cons_self))
    exact ⟨meth, c, h1, h2, h3, h4, h5, h6⟩
  · intro p e s m args below meth c s₁ B hml hP _
    have hh0 : s₁.heap = s.heap := by rw [B.state]; rfl
    have ht : ∀ x ∈ c.exceptionTable.toList, False := by
      obtain ⟨meth9, c9, h1, h2, -, -, -, -, h7, -⟩ := Cond.code_spec B.named (atoms_spec (ws := ws) B.pre _ (by rw [hw]; exact List.mem_cons_self))
      cases Option.some.inj (h1.symm.trans B.method)
      cases Option.some.inj (h2.symm.trans (Stand.of_body B).code)
      intro x hx
      rw [Array.isEmpty_iff.mp h7] at hx
      cases hx
    obtain ⟨t, a1, o, b1, b2, b3⟩ := body p e s m args below meth c s₁ B hml ht hP s₁ hh0 (Stand.of_body B)
    exact ⟨t, o, a1, b1, b2, b3⟩
/-- the table of a body with handlers -/
theorem vx_table {p : Program} {x y : MethodName} {S : Spec} {cc bytes : ByteArray} {maxL maxL' : Nat} {ret ret' : Option FieldType} {e : Env} {s s₁ : State} {m : MethodId} {args : Array Value} {below : List Frame} {meth : Method} {c : Code} {hh : List (Nat × Nat × Nat × Nat)}
    (B : BodyLoose p l y S cc maxL ret e s m args below meth c s₁) (h : (Cond.codeWith y bytes maxL' ret' hh).before args s = true) : c.exceptionTable.toList = tableOf hh := by
  obtain ⟨m9, meth9, c9, hn9, h1, h2, -, -, h6, -⟩ := Cond.codeWith_spec h
  cases Option.some.inj (hn9.symm.trans B.named)
  cases Option.some.inj (h1.symm.trans B.method)
  cases Option.some.inj (h2.symm.trans (Stand.of_body B).code)
  rw [← h6, table_eq]
end Bodies
end VXA
/-! ===== END ===== -/
/-! ===== BEGIN a static call of a method with an exception table ===== -/
section VXS
variable {p : Program} {l : Launch} {e : Env} {R : Room} {s : State} {m : MethodId} {args : Array Value} {below : List Frame} {meth : Method} {c : Code} {T : State} {H : Heap} {locs : List Loc} {cells slots : Nat}
abbrev vx_CSW (R : Room) (s : State) (args : Array Value) (own : String) (index : Nat) (y : MethodName) (bytes : ByteArray) (maxL : Nat) (ret : Option FieldType) (hh : List (Nat × Nat × Nat × Nat)) (ws : List Cond) (rm : Room) (mc ms n : Nat) : Prop :=
  (rm.cells = mc ∧ rm.slots = ms ∧ rm.frames + 1 ≤ R.frames ∧ 8 + (maxL + 11) + rm.locals ≤ R.locals ∧ (∀ w ∈ ws, ∀ (a' : Array Value) (U : State), s.WarmedH U.vm → w.before a' U = true) ∧ Cond.codeWith y bytes maxL ret hh ∈ ws) ∧
  (Cond.codeWith y bytes maxL ret hh).before args s = true ∧ (Cond.initialized y.cls).before args s = true ∧ (y.cls ≠ "java/lang/invoke/MethodHandle" ∧ y.cls ≠ "java/lang/invoke/VarHandle") ∧
  (∀ sig, parseMethodDescriptor y.desc = some sig → n = sig.parameters.length) ∧ (Cond.methodLink own index y).before args s = true ∧ (Cond.static y).before args s = true
theorem vx_cwSW {own : String} {index maxL mc ms : Nat} {y : MethodName} {bytes : ByteArray} {ret : Option FieldType} {hh : List (Nat × Nat × Nat × Nat)} {Ts ws ws' : List Cond} {rm : Room} (n : Nat) (ht : ∀ w ∈ Ts, w.before args s = true) (hT : GoodIn Ts (va_wsS own index y ws)) (hw : ws = Cond.codeWith y bytes maxL ret hh :: ws') (hrc : rm.cells = mc) (hrs : rm.slots = ms)
    (hd : y.cls ≠ "java/lang/invoke/MethodHandle" ∧ y.cls ≠ "java/lang/invoke/VarHandle" ∧ (parseMethodDescriptor y.desc).map (fun d => d.parameters.length) = some n) (hR : rm.frames + 1 ≤ R.frames ∧ 8 + (maxL + 11) + rm.locals ≤ R.locals) :
    vx_CSW R s args own index y bytes maxL ret hh ws rm mc ms n := by
  have ok : ∀ w ∈ va_wsS own index y ws, w.before args s = true := fun w h => ht w (hT w h).1
  have hG : GoodIn Ts ws := fun w h => hT w (by unfold va_wsS; exact List.mem_append_right _ h)
  have hc : Cond.codeWith y bytes maxL ret hh ∈ ws := by rw [hw]; exact List.mem_cons_self
  refine ⟨⟨hrc, hrs, hR.1, hR.2, pay_in ht hG, hc⟩, ht _ (hG _ hc).1, ok _ (by simp [va_wsS]), ⟨hd.1, hd.2.1⟩, fun sig h => ?_, ok _ (by simp [va_wsS]), ok _ (by simp [va_wsS])⟩
  have h2 := hd.2.2
  rw [h] at h2
  exact (Option.some.inj h2).symm
theorem vx_callSW (X : Stand p l e R s m args below meth c T locs cells slots) (hexec : p.tables.exec = Jvm.exec) {own : String} {index : Nat} {y : MethodName} {bytes : ByteArray} {maxL : Nat} {ret : Option FieldType} {hh : List (Nat × Nat × Nat × Nat)}
    (hown : s.vm.findClass own = some m.cls) (hlink : (Cond.methodLink own index y).before args s = true) (hstat : (Cond.static y).before args s = true) (hinit : (Cond.initialized y.cls).before args s = true)
    (hcode : (Cond.codeWith y bytes maxL ret hh).before args s = true) (hy : y.cls ≠ "java/lang/invoke/MethodHandle" ∧ y.cls ≠ "java/lang/invoke/VarHandle")
    {W9 : Nat} {Pre : Pt → Array Value → Prop} {Post : Pt → Array Value → Option Value → Pt → Prop} (hK : Back l R p e below s args y 3 W9 Pre Post)
    {g : JFrame} (hg : g.method = m) (hsize : g.locals.size = c.maxLocals) {argsL rest : List Value} (hlen : ∀ sig, parseMethodDescriptor y.desc = some sig → argsL.length = sig.parameters.length)
    (hstack : g.stack = argsL.reverse ++ rest) (hW : 2 * g.monitorRoom + (rest.map fun v => v.category).sum ≤ W9) (hdg : decode c.code g.pc = .ok (.invokestatic index, 3))
    (hpre : ∀ vm₁, s.WarmedH vm₁ → Pre ⟨T.setVm vm₁, locs, cells, slots⟩ argsL.toArray) :
    ∃ (v : Option Value) (vm₁ : Vm) (B : Pt), s.WarmedH vm₁ ∧ Stand p l e R s m args below meth c B.U B.locs B.cells B.slots ∧ Post ⟨T.setVm vm₁, locs, cells, slots⟩ argsL.toArray v B ∧
      ∀ target, Steps p.tables e below (B.U.setTop { g with pc := g.pc + 3, stack := v.toList ++ rest }) target → Steps p.tables e below (T.setTop g) target := by
  obtain ⟨mk, methM, cM, hnamed, hmethM, -, -, -, -, -, -, hsigM⟩ := Cond.codeWith_spec hcode
  have hstatic : methM.isStatic = true := Cond.static_spec hnamed hmethM hstat
  obtain ⟨kP, hkP, -⟩ := className_of_methodNamed hnamed
  have hinitP : kP.init = .initialized := Cond.initialized_spec (findClass_of_methodNamed hnamed) hkP hinit
  obtain ⟨vm₁, X₁, hstep₁⟩ := X.invokestatic hexec hown hlink hnamed hmethM hstatic hkP hinitP hy (g := g) hg (argsL := argsL) (rest := rest) (hlen _ hsigM) hstack hdg
  obtain ⟨v, B, X', hpost, hsteps⟩ := hK m meth c ⟨T.setVm vm₁, locs, cells, slots⟩ { g with stack := rest } (.invokestatic index) mk argsL.toArray X₁ hg hsize hdg hW (X₁.named hnamed) (hpre vm₁ X₁.warmed)
  exact ⟨v, vm₁, B, X₁.warmed, X', hpost, fun target h => hstep₁ _ fun acts => by rw [doInvoke_state]; exact hsteps.trans h⟩
theorem vx_runSW {y : MethodName} {bytes cc : ByteArray} {maxL nL mc ms n index : Nat} {ret : Option FieldType} {hh : List (Nat × Nat × Nat × Nat)} {ws : List Cond} {rm : Room} {Pc : Array Value → State → Prop} {Qc : Array Value → State → Outcome → State → Prop} {free : Addr → Prop} {Ts : List Cond} {own : String} {As rest : List Value} {g : JFrame}
    (S : CallFix p m c cc nL s args Ts own) (hM : Met l y ws rm Pc Qc mc ms free) (cw : vx_CSW R s args own index y bytes maxL ret hh ws rm mc ms n) (hp : PreS s H Pc As)
    (hg : g.method = m) (hn : As.length = n) (hsize : g.locals.size = nL) (hstack : g.stack = As.reverse ++ rest) (hW : 2 * g.monitorRoom + (rest.map fun v => v.category).sum ≤ 8) (hdg : decode cc g.pc = .ok (.invokestatic index, 3)) (hf : cells + mc ≤ R.cells ∧ slots + ms ≤ R.slots) :
    va_Run p l e R s m args below meth c H locs cells slots mc ms g rest (Qc As.toArray) (free) := by
  obtain ⟨⟨hrc, hrs, hfr, hlo, hws, hcw⟩, hcode, hini, hy, hlen, hl, hstt⟩ := cw
  have hK : Back l R p e below s args y 3 8 (PreOf R mc ms Pc) (PostOf Qc mc ms free) := va_backW (hh := hh) (bytes := bytes) (maxL := maxL) (ret := ret) hM hp.1 hrc hrs hfr hlo hws hcw (fun a' U hW => word_at hW (Or.inl (by first | rfl | simp [Cond.onTables, Cond.keeps, Cond.steady])) hini)
  obtain ⟨hx, hb, hml, ho, -⟩ := S
  intro T hT X
  obtain ⟨v, vm₁, ⟨U', l2, c2, s2⟩, hW₁, X', ⟨g', mk, t, L, e1, e2, hq, h1, hL, h2, h3⟩, st⟩ := vx_callSW X hx (hh := hh) (bytes := bytes) (maxL := maxL) (ret := ret) ho hl hstt hini hcode hy hK hg (hsize.trans hml.symm) (argsL := As) (rest := rest) (fun sig h => hn.trans (hlen sig h)) hstack hW (by rw [hb]; exact hdg)
    (fun vm₁ hW₁ => ⟨hf.1, hf.2, hp.2 (T.setVm vm₁) hT hW₁⟩)
  dsimp only [Pt.U, Pt.locs, Pt.cells, Pt.slots] at X' e1 e2 h1 h2 h3 st
  subst h1; subst h2; subst h3
  exact ⟨v, (T.setVm vm₁).calling g' mk As.toArray, t, U', L, hT, X', hL, e1, e2, hq, st⟩
/-- not caught here, past rows that name other classes: it goes on to the caller -/
theorem vx_outP {p : Program} {l : Launch} {e : Env} {R : Room} {s : State} {m : MethodId} {args : Array Value} {below : List Frame} {meth : Method} {c : Code} {H : Heap} {locs : List Loc} {cells slots : Nat} {free : Addr → Prop} {ls : Array Slot} {rest : List Value} {Qc : Array Value → State → Outcome → State → Prop} {XC : String → State → State → Prop}
    {pc : Nat} {own E : String} {ce : Cell} {q : Addr} {mc ms : Nat} (hown : s.vm.findClass own = some m.cls) (hlocks : meth.locks = false)
    (hpass : ∀ z ∈ c.exceptionTable.toList, covers z pc = false ∨ (z.catchType ≠ 0 ∧ ∃ nm : String, (Cond.classLink own z.catchType nm).before args s = true ∧ va_Nc E nm s)) (hcell : H[q]? = some ce) (hv : ce.vm = .none) (hcl : s.vm.findClass E = some ce.cls)
    (hx : ∀ t : State, t.heap = H → s.vm.Alike t.vm → XC E s t) (hf : ∀ z ∈ locs, free z.base) (hc : cells ≤ mc) (hs : slots ≤ ms) :
    vx_W p l e R s m args below meth c H locs cells slots (vx_MQ below Qc XC args s mc ms free) (F0 m pc ls rest) q := by
  intro T hT X
  have hpl : e.platform.magicAccessors = ({} : Platform).magicAccessors := by rw [X.admits.platform]
  obtain ⟨vm', hW', X', st⟩ := X.outThrough hlocks q (g := F0 m pc ls rest) rfl rfl rfl (cell := ce) (by rw [hT]; exact hcell) (by rw [hv]; rfl)
    (by obtain ⟨k9, h9, -⟩ := Vm.findClass_spec hcl; exact ⟨k9, h9⟩) (fun z hz => by
      rcases hpass z hz with h | ⟨hz0, nm, hl1, hn1⟩
      · exact Or.inl h
      · obtain ⟨c6, hc6, hcl6⟩ := Cond.classLink_spec hown hl1 e.platform hpl
        obtain ⟨a8, b8, h1, h2, h3⟩ := hn1
        cases Option.some.inj (h1.symm.trans hcl)
        cases Option.some.inj (h2.symm.trans hc6)
        exact Or.inr ⟨hz0, _, hcl6, h3⟩)
  obtain ⟨g₀, hfr⟩ := X'.frames_eq
  have hcell9 : ((T.setVm vm').setFrames (.throwing q :: below)).heap[q]? = some ce := by
    show T.heap[q]? = some ce
    rw [hT]; exact hcell
  have hend : Ended ((T.setVm vm').setFrames (.throwing q :: below)) below (.threw q) := State.frames_setFrames _ (State.cur_lt_of_frames hfr)
  refine ⟨(T.setVm vm').setFrames (.throwing q :: below), ?_, .threw q, X'.here.running, hend, Or.inr ⟨q, rfl, E, ce, locs, hx _ hT (X'.ends _).1.alike, hcell9, hv, hcl, (X'.ends _).1, (X'.ends _).2.mono hc hs, hf⟩⟩
  rw [X.pushThrowing_eq]
  exact st
/-- a thing of a world lies in the heap -/
theorem vx_lt {D : va_G} {cl : List vw_C} {ws : va_W} {H1 : Heap} (h : va_P D cl ws H1) {k : Nat} {q : Nat × va_E} (hk : ws[k]? = some q) : q.1 < H1.size := (h k q hk).lt
end VXS
/-! ===== END ===== -/
/-! ===== BEGIN methods with a table of their own: called by a name, returning or throwing ===== -/
section VXH
/-! vx_backW, vx_callVX, vx_callSX, vx_callVW, vx_runVW, vx_runVX, vx_runSX, vx_ofWH follow the same proofs as their sisters above (Free/Laws.lean, Shelf42/LK1.lean); vx_outP calls Shelf42/NT130.lean (outThrough). -/
section
variable {l : Launch} {R : Room} {p : Program} {e : Env} {below : List Frame} {s : State} {sargs : Array Value} {y : MethodName} {len W9 : Nat}
theorem vx_backW {ws : List Cond} {rm : Room} {Pc : Array Value → State → Prop} {Qc : Array Value → State → Outcome → State → Prop} {XC : String → State → State → Prop} {mc ms : Nat} {free : Addr → Prop} {bytes : ByteArray} {maxL : Nat} {ret : Option FieldType} {hh : List (Nat × Nat × Nat × Nat)}
    (hM : vx_Met l y ws rm Pc Qc XC mc ms free) (hblind : FrameBlind Pc) (hrc : rm.cells = mc) (hrs : rm.slots = ms)
    (hframes : rm.frames + 1 ≤ R.frames) (hlocals : W9 + (maxL + 11) + rm.locals ≤ R.locals)
    (hws : ∀ w ∈ ws, ∀ a' U, s.WarmedH U.vm → w.before a' U = true) (hcode : Cond.codeWith y bytes maxL ret hh ∈ ws) (hinit : ∀ a' U, s.WarmedH U.vm → (Cond.initialized y.cls).before a' U = true) :
    vx_Back l R p e below s sargs y len W9 (PreOf R mc ms Pc) (PostOf Qc mc ms free) (vx_Post XC mc ms free) := by
  intro m meth c A g ig mk a X hg hsize hdg hW hn hp
  have h1 : (headSpec ws rm).pre.before a A.U = true := atoms_intro fun w hw => hws w hw _ _ X.warmed
  have h2 : (Cond.codeWith y bytes maxL ret hh).before a A.U = true := hws _ hcode _ _ X.warmed
  have h3 : (Cond.initialized y.cls).before a A.U = true := hinit _ _ X.warmed
  have h4 : A.cells + (headSpec ws rm).room.cells ≤ R.cells := by rw [show (headSpec ws rm).room.cells = mc from hrc]; exact hp.1
  have h5 : A.slots + (headSpec ws rm).room.slots ≤ R.slots := by rw [show (headSpec ws rm).room.slots = ms from hrs]; exact hp.2.1
  have hPc : Pc a (A.U.calling g mk a) := hblind _ _ _ _ hp.2.2
  obtain ⟨U, Ls, c0, s0⟩ := A
  dsimp only [Pt.U, Pt.locs, Pt.cells, Pt.slots] at h1 h2 h3 h4 h5 X hn hPc ⊢
  obtain ⟨m9, methY, cY, hn9, hmY, hcY, -, hlY, -⟩ := Cond.codeWith_spec h2
  cases Option.some.inj (hn9.symm.trans hn)
  obtain ⟨kY, hkY, -⟩ := className_of_methodNamed hn
  have hinitY : kY.init = .initialized := Cond.initialized_spec (findClass_of_methodNamed hn) hkY h3
  have h : At U g.method c below := by rw [hg]; exact X.here
  have hlocals9 : W9 + (maxL + 11) + (headSpec ws rm).room.locals ≤ R.locals := hlocals
  have happ : (headSpec ws rm).appliesLoose y e.platform (U.calling g mk a) = true :=
    Spec.appliesLoose_calling (g := g) h hdg hn hkY hinitY
      (X.room_calling (g := g) (R' := (headSpec ws rm).room) hsize hmY hcY hframes (by rw [hlY]; omega) h4 h5) h1
  obtain ⟨mid, hmid⟩ := h.above
  have hfr : (U.setTop g).frames = (.java g :: mid) ++ below := by rw [State.frames_setTop' g h.top, hmid]; rfl
  obtain ⟨o, s₂, hsteps, -, hend, hq⟩ := Steps.callFree hM p X.admits X.cas X.clock (acts := []) hfr happ hPc trivial
  have hq' : vx_Q Qc XC mc ms free a (U.calling g mk a) o s₂ := hq
  rw [State.frames_setTop' g h.top] at hend
  obtain ⟨g₀, hg0⟩ := Option.isSome_iff_exists.mp h.top
  obtain ⟨r, hr⟩ := State.topJava?_eq_some.mp hg0
  have hr' : (({ U with heap := s₂.heap, slotsUsed := s₂.slotsUsed } : State).setVm s₂.vm).frames = .java g₀ :: r := hr
  rcases hq' with ⟨hqc, L, hfe, hL⟩ | ⟨q, rfl, E, ce, L, hx, hce, hcv, hcl, hW₂, hsm, hL⟩
  · obtain ⟨⟨v, rfl⟩, hW₂, e2, q2, q3, q4, q5, q6⟩ := id hfe
    have e3 : s₂ = ({ (U.calling g mk a).setFrames s₂.frames with heap := s₂.heap, slotsUsed := s₂.slotsUsed } : State).setVm s₂.vm := by
      have : s₂ = ({ s₂ with vm := (U.calling g mk a).vm } : State).setVm s₂.vm := rfl
      rw [e2] at this
      exact this
    obtain ⟨c₂, i₂, len₂, hc₂, hd₂, hf₂⟩ := hend
    have hW' : U.WarmedH s₂.vm := hW₂
    have hcc : c₂ = c := by
      have h1 : s₂.code? g.method = U.code? g.method := by
        rw [State.code?_eq, State.code?_eq, hW'.alike.method?]
      exact Option.some.inj (hc₂.symm.trans (h1.trans h.code))
    subst hcc
    have hlen : len₂ = len := by rw [hdg] at hd₂; cases hd₂; rfl
    subst hlen
    have hs₂ : s₂ = (({ U with heap := s₂.heap, slotsUsed := s₂.slotsUsed } : State).setVm s₂.vm).setTop { g with pc := g.pc + len₂, stack := v.toList ++ g.stack } := by
      refine e3.trans ?_
      rw [hf₂, State.calling_eq h.top, State.setFrames_setFrames, State.setTop_of_frames _ hr', hr]
      rfl
    have hsame : U.sameButNew ({ U with heap := s₂.heap, slotsUsed := s₂.slotsUsed } : State) L mc ms := by
      refine ⟨?_, q2, q3, q4, q5, q6⟩
      obtain ⟨t, ht, -⟩ := State.frames_cons hr
      show ({ U with heap := s₂.heap, slotsUsed := s₂.slotsUsed } : State) = { U.setFrames U.frames with heap := s₂.heap, slotsUsed := s₂.slotsUsed }
      rw [State.setFrames_self ht]
    subst hg
    refine Or.inl ⟨v, ⟨(({ U with heap := s₂.heap, slotsUsed := s₂.slotsUsed } : State).setVm s₂.vm), Ls ++ L, c0 + mc, s0 + ms⟩,
      ⟨X.admits, X.cas, X.clock, X.frames, X.room, X.hears, X.method, X.code, (X.here.setHeapUsed s₂.heap s₂.slotsUsed).setVm hW'.alike, X.tail, State.WarmedH.trans X.warmed hW', X.limits, X.bytes, X.same.trans (hsame.setVm s.vm)⟩,
      ⟨g, mk, s₂, L, rfl, rfl, hqc, rfl, hL, rfl, rfl⟩, ?_⟩
    show Steps p.tables e below _ ((({ U with heap := s₂.heap, slotsUsed := s₂.slotsUsed } : State).setVm s₂.vm).setTop { g with pc := g.pc + len₂, stack := v.toList ++ g.stack })
    rw [← hs₂]
    exact hsteps
  · obtain ⟨e2, q2, q3, q4, q5, q6⟩ := id hsm
    have e3 : s₂ = ({ (U.calling g mk a).setFrames s₂.frames with heap := s₂.heap, slotsUsed := s₂.slotsUsed } : State).setVm s₂.vm := by
      have : s₂ = ({ s₂ with vm := (U.calling g mk a).vm } : State).setVm s₂.vm := rfl
      rw [e2] at this
      exact this
    have hf₂ : s₂.frames = .throwing q :: .java g :: U.frames.tail := hend
    have hW' : U.WarmedH s₂.vm := hW₂
    have hs₂ : s₂ = ((({ U with heap := s₂.heap, slotsUsed := s₂.slotsUsed } : State).setVm s₂.vm).setTop g).pushFrame (.throwing q) := by
      refine e3.trans ?_
      rw [hf₂, State.calling_eq h.top, State.setFrames_setFrames, State.pushFrame, State.frames_setTop _ hr', State.setTop_of_frames _ hr', State.setFrames_setFrames, hr]
      rfl
    have hsame : U.sameButNew ({ U with heap := s₂.heap, slotsUsed := s₂.slotsUsed } : State) L mc ms := by
      refine ⟨?_, q2, q3, q4, q5, q6⟩
      obtain ⟨t, ht, -⟩ := State.frames_cons hr
      show ({ U with heap := s₂.heap, slotsUsed := s₂.slotsUsed } : State) = { U.setFrames U.frames with heap := s₂.heap, slotsUsed := s₂.slotsUsed }
      rw [State.setFrames_self ht]
    subst hg
    refine Or.inr ⟨q, ⟨(({ U with heap := s₂.heap, slotsUsed := s₂.slotsUsed } : State).setVm s₂.vm), Ls ++ L, c0 + mc, s0 + ms⟩,
      ⟨X.admits, X.cas, X.clock, X.frames, X.room, X.hears, X.method, X.code, (X.here.setHeapUsed s₂.heap s₂.slotsUsed).setVm hW'.alike, X.tail, State.WarmedH.trans X.warmed hW', X.limits, X.bytes, X.same.trans (hsame.setVm s.vm)⟩,
      ⟨g, mk, s₂, L, E, ce, rfl, rfl, hx, hce, hcv, hcl, rfl, hL, rfl, rfl⟩, ?_⟩
    show Steps p.tables e below _ (((({ U with heap := s₂.heap, slotsUsed := s₂.slotsUsed } : State).setVm s₂.vm).setTop g).pushFrame (.throwing q))
    rw [← hs₂]
    exact hsteps
end
variable {p : Program} {l : Launch} {e : Env} {R : Room} {s : State} {m : MethodId} {args : Array Value} {below : List Frame} {meth : Method} {c : Code} {T : State} {H : Heap} {locs : List Loc} {cells slots : Nat}
theorem vx_callVX (X : Stand p l e R s m args below meth c T locs cells slots) (hexec : p.tables.exec = Jvm.exec) {own C : String} {index : Nat} {y : MethodName} {bytes : ByteArray} {maxL : Nat} {ret : Option FieldType} {hh : List (Nat × Nat × Nat × Nat)}
    (hown : s.vm.findClass own = some m.cls) (hlink : (Cond.methodLink own index y).before args s = true) (hinst : (Cond.instanceMethod y).before args s = true) (hsel : (Cond.selects C y y).before args s = true)
    (hcode : (Cond.codeWith y bytes maxL ret hh).before args s = true) (hy : y.cls ≠ "java/lang/invoke/MethodHandle" ∧ y.cls ≠ "java/lang/invoke/VarHandle")
    {W9 : Nat} {Pre : Pt → Array Value → Prop} {Post : Pt → Array Value → Option Value → Pt → Prop} {PostX : Pt → Array Value → Addr → Pt → Prop} (hK : vx_Back l R p e below s args y 3 W9 Pre Post PostX)
    {b : Addr} {cellB : Cell} (hcell : T.heap[b]? = some cellB) (hobj : cellB.vm.isStatics = false) (hcls : s.vm.findClass C = some cellB.cls)
    {g : JFrame} (hg : g.method = m) (hsize : g.locals.size = c.maxLocals) {argsL rest : List Value} (hlen : ∀ sig, parseMethodDescriptor y.desc = some sig → argsL.length = sig.parameters.length)
    (hstack : g.stack = argsL.reverse ++ .ref b :: rest) (hW : 2 * g.monitorRoom + (rest.map fun v => v.category).sum ≤ W9) (hdg : decode c.code g.pc = .ok (.invokevirtual index, 3))
    (hpre : ∀ vm₁, s.WarmedH vm₁ → Pre ⟨T.setVm vm₁, locs, cells, slots⟩ (Value.ref b :: argsL).toArray) :
    (∃ (v : Option Value) (vm₁ : Vm) (B : Pt), s.WarmedH vm₁ ∧ Stand p l e R s m args below meth c B.U B.locs B.cells B.slots ∧ Post ⟨T.setVm vm₁, locs, cells, slots⟩ (Value.ref b :: argsL).toArray v B ∧
      ∀ target, Steps p.tables e below (B.U.setTop { g with pc := g.pc + 3, stack := v.toList ++ rest }) target → Steps p.tables e below (T.setTop g) target) ∨
    (∃ (q : Addr) (vm₁ : Vm) (B : Pt), s.WarmedH vm₁ ∧ Stand p l e R s m args below meth c B.U B.locs B.cells B.slots ∧ PostX ⟨T.setVm vm₁, locs, cells, slots⟩ (Value.ref b :: argsL).toArray q B ∧
      Steps p.tables e below (T.setTop g) ((B.U.setTop { g with stack := rest }).pushFrame (.throwing q))) := by
  obtain ⟨mk, methM, hnamed, hmethM, hstM, habM⟩ := Cond.instanceMethod_spec hinst
  obtain ⟨m8, methM', cM, hn8, hmethM', -, -, -, -, -, -, hsigM⟩ := Cond.codeWith_spec hcode
  cases Option.some.inj (hn8.symm.trans hnamed)
  cases hmethM.symm.trans hmethM'
  obtain ⟨c2, r2, m2, q1, q2, q3, q4, kP, hkP, hkPi⟩ := Cond.selects_spec hsel
  cases hcls.symm.trans q1
  cases (State.methodFound?_of_named hnamed hy).symm.trans q2
  cases hnamed.symm.trans q3
  have hselP : selectMethod e.platform s.vm cellB.cls mk = .method mk := by rw [Launch.admits_selectMethod X.admits]; exact q4
  obtain ⟨vm₁, X₁, hstep₁⟩ := X.invokevirtual hexec hown hlink hnamed hmethM hstM hkP hkPi hy (a := b) (cell := cellB) hcell
    (fun z h => by rw [h] at hobj; cases hobj) hselP hmethM habM hkP hkPi (g := g) hg (argsL := argsL) (rest := rest) (hlen _ hsigM) hstack hdg
  rcases hK m meth c ⟨T.setVm vm₁, locs, cells, slots⟩ { g with stack := rest } (.invokevirtual index) mk (Value.ref b :: argsL).toArray X₁ hg hsize hdg hW (X₁.named hnamed) (hpre vm₁ X₁.warmed) with ⟨v, B, X', hpost, hsteps⟩ | ⟨q, B, X', hpost, hsteps⟩
  · exact Or.inl ⟨v, vm₁, B, X₁.warmed, X', hpost, fun target h => hstep₁ _ fun acts => by rw [doInvoke_state]; exact hsteps.trans h⟩
  · exact Or.inr ⟨q, vm₁, B, X₁.warmed, X', hpost, hstep₁ _ fun acts => by rw [doInvoke_state]; exact hsteps⟩
theorem vx_callSX (X : Stand p l e R s m args below meth c T locs cells slots) (hexec : p.tables.exec = Jvm.exec) {own : String} {index : Nat} {y : MethodName} {bytes : ByteArray} {maxL : Nat} {ret : Option FieldType} {hh : List (Nat × Nat × Nat × Nat)}
    (hown : s.vm.findClass own = some m.cls) (hlink : (Cond.methodLink own index y).before args s = true) (hstat : (Cond.static y).before args s = true) (hinit : (Cond.initialized y.cls).before args s = true)
    (hcode : (Cond.codeWith y bytes maxL ret hh).before args s = true) (hy : y.cls ≠ "java/lang/invoke/MethodHandle" ∧ y.cls ≠ "java/lang/invoke/VarHandle")
    {W9 : Nat} {Pre : Pt → Array Value → Prop} {Post : Pt → Array Value → Option Value → Pt → Prop} {PostX : Pt → Array Value → Addr → Pt → Prop} (hK : vx_Back l R p e below s args y 3 W9 Pre Post PostX)
    {g : JFrame} (hg : g.method = m) (hsize : g.locals.size = c.maxLocals) {argsL rest : List Value} (hlen : ∀ sig, parseMethodDescriptor y.desc = some sig → argsL.length = sig.parameters.length)
    (hstack : g.stack = argsL.reverse ++ rest) (hW : 2 * g.monitorRoom + (rest.map fun v => v.category).sum ≤ W9) (hdg : decode c.code g.pc = .ok (.invokestatic index, 3))
    (hpre : ∀ vm₁, s.WarmedH vm₁ → Pre ⟨T.setVm vm₁, locs, cells, slots⟩ argsL.toArray) :
    (∃ (v : Option Value) (vm₁ : Vm) (B : Pt), s.WarmedH vm₁ ∧ Stand p l e R s m args below meth c B.U B.locs B.cells B.slots ∧ Post ⟨T.setVm vm₁, locs, cells, slots⟩ argsL.toArray v B ∧
      ∀ target, Steps p.tables e below (B.U.setTop { g with pc := g.pc + 3, stack := v.toList ++ rest }) target → Steps p.tables e below (T.setTop g) target) ∨
    (∃ (q : Addr) (vm₁ : Vm) (B : Pt), s.WarmedH vm₁ ∧ Stand p l e R s m args below meth c B.U B.locs B.cells B.slots ∧ PostX ⟨T.setVm vm₁, locs, cells, slots⟩ argsL.toArray q B ∧
      Steps p.tables e below (T.setTop g) ((B.U.setTop { g with stack := rest }).pushFrame (.throwing q))) := by
  obtain ⟨mk, methM, cM, hnamed, hmethM, -, -, -, -, -, -, hsigM⟩ := Cond.codeWith_spec hcode
  have hstatic : methM.isStatic = true := Cond.static_spec hnamed hmethM hstat
  obtain ⟨kP, hkP, -⟩ := className_of_methodNamed hnamed
  have hinitP : kP.init = .initialized := Cond.initialized_spec (findClass_of_methodNamed hnamed) hkP hinit
  obtain ⟨vm₁, X₁, hstep₁⟩ := X.invokestatic hexec hown hlink hnamed hmethM hstatic hkP hinitP hy (g := g) hg (argsL := argsL) (rest := rest) (hlen _ hsigM) hstack hdg
  rcases hK m meth c ⟨T.setVm vm₁, locs, cells, slots⟩ { g with stack := rest } (.invokestatic index) mk argsL.toArray X₁ hg hsize hdg hW (X₁.named hnamed) (hpre vm₁ X₁.warmed) with ⟨v, B, X', hpost, hsteps⟩ | ⟨q, B, X', hpost, hsteps⟩
  · exact Or.inl ⟨v, vm₁, B, X₁.warmed, X', hpost, fun target h => hstep₁ _ fun acts => by rw [doInvoke_state]; exact hsteps.trans h⟩
  · exact Or.inr ⟨q, vm₁, B, X₁.warmed, X', hpost, hstep₁ _ fun acts => by rw [doInvoke_state]; exact hsteps⟩
theorem vx_callVW (X : Stand p l e R s m args below meth c T locs cells slots) (hexec : p.tables.exec = Jvm.exec) {own C : String} {index : Nat} {y : MethodName} {bytes : ByteArray} {maxL : Nat} {ret : Option FieldType} {hh : List (Nat × Nat × Nat × Nat)}
    (hown : s.vm.findClass own = some m.cls) (hlink : (Cond.methodLink own index y).before args s = true) (hinst : (Cond.instanceMethod y).before args s = true) (hsel : (Cond.selects C y y).before args s = true)
    (hcode : (Cond.codeWith y bytes maxL ret hh).before args s = true) (hy : y.cls ≠ "java/lang/invoke/MethodHandle" ∧ y.cls ≠ "java/lang/invoke/VarHandle")
    {W9 : Nat} {Pre : Pt → Array Value → Prop} {Post : Pt → Array Value → Option Value → Pt → Prop} (hK : Back l R p e below s args y 3 W9 Pre Post)
    {b : Addr} {cellB : Cell} (hcell : T.heap[b]? = some cellB) (hobj : cellB.vm.isStatics = false) (hcls : s.vm.findClass C = some cellB.cls)
    {g : JFrame} (hg : g.method = m) (hsize : g.locals.size = c.maxLocals) {argsL rest : List Value} (hlen : ∀ sig, parseMethodDescriptor y.desc = some sig → argsL.length = sig.parameters.length)
    (hstack : g.stack = argsL.reverse ++ .ref b :: rest) (hW : 2 * g.monitorRoom + (rest.map fun v => v.category).sum ≤ W9) (hdg : decode c.code g.pc = .ok (.invokevirtual index, 3))
    (hpre : ∀ vm₁, s.WarmedH vm₁ → Pre ⟨T.setVm vm₁, locs, cells, slots⟩ (Value.ref b :: argsL).toArray) :
    ∃ (v : Option Value) (vm₁ : Vm) (B : Pt), s.WarmedH vm₁ ∧ Stand p l e R s m args below meth c B.U B.locs B.cells B.slots ∧ Post ⟨T.setVm vm₁, locs, cells, slots⟩ (Value.ref b :: argsL).toArray v B ∧
      ∀ target, Steps p.tables e below (B.U.setTop { g with pc := g.pc + 3, stack := v.toList ++ rest }) target → Steps p.tables e below (T.setTop g) target := by
  obtain ⟨mk, methM, hnamed, hmethM, hstM, habM⟩ := Cond.instanceMethod_spec hinst
  obtain ⟨m8, methM', cM, hn8, hmethM', -, -, -, -, -, -, hsigM⟩ := Cond.codeWith_spec hcode
  cases Option.some.inj (hn8.symm.trans hnamed)
  cases hmethM.symm.trans hmethM'
  obtain ⟨c2, r2, m2, q1, q2, q3, q4, kP, hkP, hkPi⟩ := Cond.selects_spec hsel
  cases hcls.symm.trans q1
  cases (State.methodFound?_of_named hnamed hy).symm.trans q2
  cases hnamed.symm.trans q3
  have hselP : selectMethod e.platform s.vm cellB.cls mk = .method mk := by rw [Launch.admits_selectMethod X.admits]; exact q4
  obtain ⟨vm₁, X₁, hstep₁⟩ := X.invokevirtual hexec hown hlink hnamed hmethM hstM hkP hkPi hy (a := b) (cell := cellB) hcell
    (fun z h => by rw [h] at hobj; cases hobj) hselP hmethM habM hkP hkPi (g := g) hg (argsL := argsL) (rest := rest) (hlen _ hsigM) hstack hdg
  obtain ⟨v, B, X', hpost, hsteps⟩ := hK m meth c ⟨T.setVm vm₁, locs, cells, slots⟩ { g with stack := rest } (.invokevirtual index) mk (Value.ref b :: argsL).toArray X₁ hg hsize hdg hW (X₁.named hnamed) (hpre vm₁ X₁.warmed)
  exact ⟨v, vm₁, B, X₁.warmed, X', hpost, fun target h => hstep₁ _ fun acts => by rw [doInvoke_state]; exact hsteps.trans h⟩
abbrev vx_CVW (R : Room) (s : State) (args : Array Value) (own C : String) (index : Nat) (y : MethodName) (bytes : ByteArray) (maxL : Nat) (ret : Option FieldType) (hh : List (Nat × Nat × Nat × Nat)) (ws : List Cond) (rm : Room) (mc ms n : Nat) : Prop :=
  (rm.cells = mc ∧ rm.slots = ms ∧ rm.frames + 1 ≤ R.frames ∧ 8 + (maxL + 11) + rm.locals ≤ R.locals ∧ (∀ w ∈ ws, ∀ (a' : Array Value) (U : State), s.WarmedH U.vm → w.before a' U = true) ∧ Cond.codeWith y bytes maxL ret hh ∈ ws) ∧
  (Cond.codeWith y bytes maxL ret hh).before args s = true ∧ (Cond.initialized y.cls).before args s = true ∧ (y.cls ≠ "java/lang/invoke/MethodHandle" ∧ y.cls ≠ "java/lang/invoke/VarHandle") ∧
  (∀ sig, parseMethodDescriptor y.desc = some sig → n = sig.parameters.length) ∧ (Cond.methodLink own index y).before args s = true ∧ (Cond.instanceMethod y).before args s = true ∧ (Cond.selects C y y).before args s = true
theorem vx_cwVW {own C : String} {index maxL mc ms : Nat} {y : MethodName} {bytes : ByteArray} {ret : Option FieldType} {hh : List (Nat × Nat × Nat × Nat)} {Ts ws ws' : List Cond} {rm : Room} (n : Nat) (ht : ∀ w ∈ Ts, w.before args s = true) (hT : GoodIn Ts (wsV own index C y ws)) (hw : ws = Cond.codeWith y bytes maxL ret hh :: ws') (hrc : rm.cells = mc) (hrs : rm.slots = ms)
    (hd : y.cls = C ∧ y.cls ≠ "java/lang/invoke/MethodHandle" ∧ y.cls ≠ "java/lang/invoke/VarHandle" ∧ (parseMethodDescriptor y.desc).map (fun d => d.parameters.length) = some n) (hR : rm.frames + 1 ≤ R.frames ∧ 8 + (maxL + 11) + rm.locals ≤ R.locals) :
    vx_CVW R s args own C index y bytes maxL ret hh ws rm mc ms n := by
  obtain ⟨hC, hd⟩ := hd
  subst hC
  have ok : ∀ w ∈ wsV own index y.cls y ws, w.before args s = true := fun w h => ht w (hT w h).1
  have hG : GoodIn Ts ws := fun w h => hT w (by unfold wsV; exact List.mem_append_right _ h)
  have hc : Cond.codeWith y bytes maxL ret hh ∈ ws := by rw [hw]; exact List.mem_cons_self
  refine ⟨⟨hrc, hrs, hR.1, hR.2, pay_in ht hG, hc⟩, ht _ (hG _ hc).1, ok _ (by simp [wsV]), ⟨hd.1, hd.2.1⟩, fun sig h => ?_, ok _ (by simp [wsV]), ok _ (by simp [wsV]), ok _ (by simp [wsV])⟩
  have h2 := hd.2.2
  rw [h] at h2
  exact (Option.some.inj h2).symm
theorem vx_runVW {y : MethodName} {bytes cc : ByteArray} {maxL nL mc ms n index : Nat} {ret : Option FieldType} {hh : List (Nat × Nat × Nat × Nat)} {ws : List Cond} {rm : Room} {Pc : Array Value → State → Prop} {Qc : Array Value → State → Outcome → State → Prop} {free : Addr → Prop} {Ts : List Cond} {own C : String} {b : Addr} {As rest : List Value} {g : JFrame}
    (S : CallFix p m c cc nL s args Ts own) (hM : Met l y ws rm Pc Qc mc ms free) (cw : vx_CVW R s args own C index y bytes maxL ret hh ws rm mc ms n) (hp : PreV s H C b Pc As)
    (hg : g.method = m) (hn : As.length = n) (hsize : g.locals.size = nL) (hstack : g.stack = As.reverse ++ .ref b :: rest) (hW : 2 * g.monitorRoom + (rest.map fun v => v.category).sum ≤ 8) (hdg : decode cc g.pc = .ok (.invokevirtual index, 3)) (hf : cells + mc ≤ R.cells ∧ slots + ms ≤ R.slots) :
    va_Run p l e R s m args below meth c H locs cells slots mc ms g rest (Qc (Value.ref b :: As).toArray) free := by
  obtain ⟨⟨hrc, hrs, hfr, hlo, hws, hcw⟩, hcode, hini, hy, hlen, hl, hin, hse⟩ := cw
  have hK : Back l R p e below s args y 3 8 (PreOf R mc ms Pc) (PostOf Qc mc ms free) := va_backW (hh := hh) (bytes := bytes) (maxL := maxL) (ret := ret) hM hp.1 hrc hrs hfr hlo hws hcw (fun a' U hW => word_at hW (Or.inl (by first | rfl | simp [Cond.onTables, Cond.keeps, Cond.steady])) hini)
  obtain ⟨hx, hb, hml, ho, -⟩ := S
  obtain ⟨-, ⟨cellB, hcB, hoB, hclB⟩, hPc⟩ := hp
  intro T hT X
  obtain ⟨v, vm₁, ⟨U', l2, c2, s2⟩, hW₁, X', ⟨g', mk, t, L, e1, e2, hq, h1, hL, h2, h3⟩, st⟩ := vx_callVW X hx (C := C) (hh := hh) (bytes := bytes) (maxL := maxL) (ret := ret) ho hl hin hse hcode hy hK (by rw [hT]; exact hcB) hoB hclB hg (hsize.trans hml.symm) (argsL := As) (rest := rest) (fun sig h => hn.trans (hlen sig h)) hstack hW (by rw [hb]; exact hdg)
    (fun vm₁ hW₁ => ⟨hf.1, hf.2, hPc (T.setVm vm₁) hT hW₁⟩)
  dsimp only [Pt.U, Pt.locs, Pt.cells, Pt.slots] at X' e1 e2 h1 h2 h3 st
  subst h1; subst h2; subst h3
  exact ⟨v, (T.setVm vm₁).calling g' mk (Value.ref b :: As).toArray, t, U', L, hT, X', hL, e1, e2, hq, st⟩
section
variable {y : MethodName} {bytes cc : ByteArray} {maxL nL mc ms n index : Nat} {ret : Option FieldType} {ws : List Cond} {rm : Room} {Pc : Array Value → State → Prop} {Qc : Array Value → State → Outcome → State → Prop} {XC : String → State → State → Prop} {free : Addr → Prop} {Ts : List Cond} {own C : String} {b : Addr} {As rest : List Value} {g : JFrame}
theorem vx_runVX {hh : List (Nat × Nat × Nat × Nat)} (S : CallFix p m c cc nL s args Ts own) (hM : vx_Met l y ws rm Pc Qc XC mc ms free) (cw : vx_CVW R s args own C index y bytes maxL ret hh ws rm mc ms n) (hp : PreV s H C b Pc As)
    (hg : g.method = m) (hn : As.length = n) (hsize : g.locals.size = nL) (hstack : g.stack = As.reverse ++ .ref b :: rest) (hW : 2 * g.monitorRoom + (rest.map fun v => v.category).sum ≤ 8) (hdg : decode cc g.pc = .ok (.invokevirtual index, 3)) (hf : cells + mc ≤ R.cells ∧ slots + ms ≤ R.slots) :
    vx_Run p l e R s m args below meth c H locs cells slots mc ms g rest (Qc (Value.ref b :: As).toArray) XC free := by
  obtain ⟨⟨hrc, hrs, hfr, hlo, hws, hcw⟩, hcode, hini, hy, hlen, hl, hin, hse⟩ := cw
  have hK : vx_Back l R p e below s args y 3 8 (PreOf R mc ms Pc) (PostOf Qc mc ms free) (vx_Post XC mc ms free) := vx_backW (hh := hh) (bytes := bytes) (maxL := maxL) (ret := ret) hM hp.1 hrc hrs hfr hlo hws hcw (fun a' U hW => word_at hW (Or.inl (by first | rfl | simp [Cond.onTables, Cond.keeps, Cond.steady])) hini)
  obtain ⟨hx, hb, hml, ho, -⟩ := S
  obtain ⟨-, ⟨cellB, hcB, hoB, hclB⟩, hPc⟩ := hp
  intro T hT X
  rcases vx_callVX X hx (C := C) (hh := hh) (bytes := bytes) (maxL := maxL) (ret := ret) ho hl hin hse hcode hy hK (by rw [hT]; exact hcB) hoB hclB hg (hsize.trans hml.symm) (argsL := As) (rest := rest) (fun sig h => hn.trans (hlen sig h)) hstack hW (by rw [hb]; exact hdg)
    (fun vm₁ hW₁ => ⟨hf.1, hf.2, hPc (T.setVm vm₁) hT hW₁⟩) with ⟨v, vm₁, ⟨U', l2, c2, s2⟩, hW₁, X', ⟨g', mk, t, L, e1, e2, hq, h1, hL, h2, h3⟩, st⟩ | ⟨q, vm₁, ⟨U', l2, c2, s2⟩, hW₁, X', ⟨g', mk, t, L, E, ce, e1, e2, hq, hce, hcv, hcl, h1, hL, h2, h3⟩, st⟩
  · dsimp only [Pt.U, Pt.locs, Pt.cells, Pt.slots] at X' e1 e2 h1 h2 h3 st
    subst h1; subst h2; subst h3
    exact Or.inl ⟨v, (T.setVm vm₁).calling g' mk (Value.ref b :: As).toArray, t, U', L, hT, X', hL, e1, e2, hq, st⟩
  · dsimp only [Pt.U, Pt.locs, Pt.cells, Pt.slots] at X' e1 e2 h1 h2 h3 st hcl
    subst h1; subst h2; subst h3
    exact Or.inr ⟨q, (T.setVm vm₁).calling g' mk (Value.ref b :: As).toArray, t, U', L, E, ce, hT, X', hL, e1, e2, hq, hce, hcv, vx_cls hW₁ hcl, st⟩
theorem vx_runSX {hh : List (Nat × Nat × Nat × Nat)} (S : CallFix p m c cc nL s args Ts own) (hM : vx_Met l y ws rm Pc Qc XC mc ms free) (cw : vx_CSW R s args own index y bytes maxL ret hh ws rm mc ms n) (hp : PreS s H Pc As)
    (hg : g.method = m) (hn : As.length = n) (hsize : g.locals.size = nL) (hstack : g.stack = As.reverse ++ rest) (hW : 2 * g.monitorRoom + (rest.map fun v => v.category).sum ≤ 8) (hdg : decode cc g.pc = .ok (.invokestatic index, 3)) (hf : cells + mc ≤ R.cells ∧ slots + ms ≤ R.slots) :
    vx_Run p l e R s m args below meth c H locs cells slots mc ms g rest (Qc As.toArray) XC free := by
  obtain ⟨⟨hrc, hrs, hfr, hlo, hws, hcw⟩, hcode, hini, hy, hlen, hl, hstt⟩ := cw
  have hK : vx_Back l R p e below s args y 3 8 (PreOf R mc ms Pc) (PostOf Qc mc ms free) (vx_Post XC mc ms free) := vx_backW (hh := hh) (bytes := bytes) (maxL := maxL) (ret := ret) hM hp.1 hrc hrs hfr hlo hws hcw (fun a' U hW => word_at hW (Or.inl (by first | rfl | simp [Cond.onTables, Cond.keeps, Cond.steady])) hini)
  obtain ⟨hx, hb, hml, ho, -⟩ := S
  intro T hT X
  rcases vx_callSX X hx (hh := hh) (bytes := bytes) (maxL := maxL) (ret := ret) ho hl hstt hini hcode hy hK hg (hsize.trans hml.symm) (argsL := As) (rest := rest) (fun sig h => hn.trans (hlen sig h)) hstack hW (by rw [hb]; exact hdg)
    (fun vm₁ hW₁ => ⟨hf.1, hf.2, hp.2 (T.setVm vm₁) hT hW₁⟩) with ⟨v, vm₁, ⟨U', l2, c2, s2⟩, hW₁, X', ⟨g', mk, t, L, e1, e2, hq, h1, hL, h2, h3⟩, st⟩ | ⟨q, vm₁, ⟨U', l2, c2, s2⟩, hW₁, X', ⟨g', mk, t, L, E, ce, e1, e2, hq, hce, hcv, hcl, h1, hL, h2, h3⟩, st⟩
  · dsimp only [Pt.U, Pt.locs, Pt.cells, Pt.slots] at X' e1 e2 h1 h2 h3 st
    subst h1; subst h2; subst h3
    exact Or.inl ⟨v, (T.setVm vm₁).calling g' mk As.toArray, t, U', L, hT, X', hL, e1, e2, hq, st⟩
  · dsimp only [Pt.U, Pt.locs, Pt.cells, Pt.slots] at X' e1 e2 h1 h2 h3 st hcl
    subst h1; subst h2; subst h3
    exact Or.inr ⟨q, (T.setVm vm₁).calling g' mk As.toArray, t, U', L, E, ce, hT, X', hL, e1, e2, hq, hce, hcv, vx_cls hW₁ hcl, st⟩
end
end VXH
theorem vx_ofWH {l : Launch} {y : MethodName} {ws ws' : List Cond} {rm : Room} {Pc : Array Value → State → Prop} {Qc : Array Value → State → Outcome → State → Prop} {XC : String → State → State → Prop} {mc ms : Nat} {free : Addr → Prop} {cc : ByteArray} {maxL : Nat} {ret : Option FieldType} {hh : List (Nat × Nat × Nat × Nat)}
    (hy : plainName y.cls = true) (hw : ws = Cond.codeWith y cc maxL ret hh :: ws')
    (body : ∀ p e s m args below meth c s₁, BodyLoose p l y (headSpec ws rm) cc maxL ret e s m args below meth c s₁ → c.maxLocals = maxL → Pc args s →
      W p l e (headSpec ws rm).room s m args below meth c s.heap [] 0 0 (vx_MQ below Qc XC args s mc ms free) (entryFrame m args maxL)) : vx_Met l y ws rm Pc Qc XC mc ms free := by
  refine MetFree.of_bodyS (code := cc) (maxLocals := maxL) (ret := ret) hy ?_ ?_
  · intro args s m h hn
    obtain ⟨m9, meth, c, hn9, h1, h2, h3, h4, -, h5, h6, -⟩ := Cond.codeWith_spec (atoms_spec (ws := ws) h _ (by rw [hw]; exact List.mem_cons_self))
    cases hn.symm.trans hn9
    exact ⟨meth, c, h1, h2, h3, h4, h5, h6⟩
  · intro p e s m args below meth c s₁ B hml hP _
    have hh0 : s₁.heap = s.heap := by rw [B.state]; rfl
    obtain ⟨t, a1, o, b1, b2, b3⟩ := body p e s m args below meth c s₁ B hml hP s₁ hh0 (Stand.of_body B)
    exact ⟨t, o, a1, b1, b2, b3⟩
/-! ===== END ===== -/
end
section
/-! ===== BEGIN printed: names, fields, word lists, decode rows ===== -/
def RX0 : String := "SegmentYard$Arguments"
def TX0 : u_T := fun k => match k with
  | 0 => ("SegmentYard$Arguments", "listed", "I", false)
  | 1 => ("SegmentYard$Arguments", "types", "[I", true)
  | 2 => ("SegmentYard$Arguments", "codes", "[I", true)
  | 3 => ("SegmentYard$Arguments", "conditions", "[I", true)
  | 4 => ("SegmentYard$Arguments", "ors", "[Z", true)
  | 5 => ("SegmentYard$Arguments", "fields", "[I", true)
  | 6 => ("SegmentYard$Arguments", "comparisons", "[I", true)
  | _ => ("SegmentYard$Arguments", "numbers", "[I", true)
def tyX0 : Nat → FieldType := fun k => match k with
  | 0 => .int
  | 1 => .array .int
  | 2 => .array .int
  | 3 => .array .int
  | 4 => .array .boolean
  | 5 => .array .int
  | 6 => .array .int
  | _ => .array .int
abbrev wsX00 : List Cond := u_ws RX0 TX0 8
theorem nmX0 : ∀ a, a < 8 → ∀ b, b < 8 → a ≠ b → (TX0 a).2.1 ≠ (TX0 b).2.1 := by decide +kernel
theorem tyX0_ok : ∀ k, k < 8 → parseFieldDescriptor (TX0 k).2.2.1 = some (tyX0 k) := by decide +kernel
abbrev cX0_init : ByteArray := prog_2_method_1_code
def yX0_init : MethodName := ⟨RX0, "<init>", "()V"⟩
abbrev cX0_isListed : ByteArray := prog_2_method_2_code
def yX0_isListed : MethodName := ⟨RX0, "isListed", "(I)Z"⟩
abbrev cX0_size : ByteArray := prog_2_method_3_code
def yX0_size : MethodName := ⟨RX0, "size", "()I"⟩
abbrev cX0_list : ByteArray := prog_2_method_4_code
def yX0_list : MethodName := ⟨RX0, "list", "(II)I"⟩
abbrev cX0_addCondition : ByteArray := prog_2_method_5_code
def yX0_addCondition : MethodName := ⟨RX0, "addCondition", "(ZIII)I"⟩
abbrev cX0_drop : ByteArray := prog_2_method_6_code
def yX0_drop : MethodName := ⟨RX0, "drop", "()I"⟩
abbrev cX0_typeOf : ByteArray := prog_2_method_7_code
def yX0_typeOf : MethodName := ⟨RX0, "typeOf", "(I)I"⟩
abbrev cX0_hasCode : ByteArray := prog_2_method_8_code
def yX0_hasCode : MethodName := ⟨RX0, "hasCode", "(II)Z"⟩
abbrev cX0_conditionsOf : ByteArray := prog_2_method_9_code
def yX0_conditionsOf : MethodName := ⟨RX0, "conditionsOf", "(I)I"⟩
abbrev cX0_firstNew : ByteArray := prog_2_method_10_code
def yX0_firstNew : MethodName := ⟨RX0, "firstNew", "()I"⟩
abbrev cX0_isFulfilled : ByteArray := prog_2_method_11_code
def yX0_isFulfilled : MethodName := ⟨RX0, "isFulfilled", "(ILSegmentYard$Store;I)Z"⟩
abbrev cX0_isMet : ByteArray := prog_2_method_12_code
def yX0_isMet : MethodName := ⟨RX0, "isMet", "(III)Z"⟩
def RX1 : String := "SegmentYard$Needs"
def TX1 : u_T := fun k => match k with
  | 0 => ("SegmentYard$Needs", "needed", "I", false)
  | 1 => ("SegmentYard$Needs", "isRefused", "Z", false)
  | 2 => ("SegmentYard$Needs", "types", "[I", true)
  | _ => ("SegmentYard$Needs", "rootKeys", "[I", true)
def tyX1 : Nat → FieldType := fun k => match k with
  | 0 => .int
  | 1 => .boolean
  | 2 => .array .int
  | _ => .array .int
abbrev wsX10 : List Cond := u_ws RX1 TX1 4
theorem nmX1 : ∀ a, a < 4 → ∀ b, b < 4 → a ≠ b → (TX1 a).2.1 ≠ (TX1 b).2.1 := by decide +kernel
theorem tyX1_ok : ∀ k, k < 4 → parseFieldDescriptor (TX1 k).2.2.1 = some (tyX1 k) := by decide +kernel
abbrev cX1_init : ByteArray := prog_3_method_1_code
def yX1_init : MethodName := ⟨RX1, "<init>", "()V"⟩
abbrev cX1_start : ByteArray := prog_3_method_2_code
def yX1_start : MethodName := ⟨RX1, "start", "()V"⟩
abbrev cX1_refuse : ByteArray := prog_3_method_3_code
def yX1_refuse : MethodName := ⟨RX1, "refuse", "()V"⟩
abbrev cX1_isRefused : ByteArray := prog_3_method_4_code
def yX1_isRefused : MethodName := ⟨RX1, "isRefused", "()Z"⟩
abbrev cX1_size : ByteArray := prog_3_method_5_code
def yX1_size : MethodName := ⟨RX1, "size", "()I"⟩
abbrev cX1_add : ByteArray := prog_3_method_6_code
def yX1_add : MethodName := ⟨RX1, "add", "(II)V"⟩
abbrev cX1_typeOf : ByteArray := prog_3_method_7_code
def yX1_typeOf : MethodName := ⟨RX1, "typeOf", "(I)I"⟩
abbrev cX1_keyOf : ByteArray := prog_3_method_8_code
def yX1_keyOf : MethodName := ⟨RX1, "keyOf", "(I)I"⟩
def RX2 : String := "SegmentYard$Schema"
def TX2 : u_T := fun k => match k with
  | 0 => ("SegmentYard$Schema", "defined", "I", false)
  | 1 => ("SegmentYard$Schema", "databases", "[I", true)
  | 2 => ("SegmentYard$Schema", "parents", "[I", true)
  | 3 => ("SegmentYard$Schema", "levels", "[I", true)
  | 4 => ("SegmentYard$Schema", "keyKinds", "[I", true)
  | 5 => ("SegmentYard$Schema", "rules", "[I", true)
  | 6 => ("SegmentYard$Schema", "targets", "[I", true)
  | 7 => ("SegmentYard$Schema", "comings", "[I", true)
  | _ => ("SegmentYard$Schema", "goings", "[I", true)
def tyX2 : Nat → FieldType := fun k => match k with
  | 0 => .int
  | 1 => .array .int
  | 2 => .array .int
  | 3 => .array .int
  | 4 => .array .int
  | 5 => .array .int
  | 6 => .array .int
  | 7 => .array .int
  | _ => .array .int
abbrev wsX20 : List Cond := u_ws RX2 TX2 9
theorem nmX2 : ∀ a, a < 9 → ∀ b, b < 9 → a ≠ b → (TX2 a).2.1 ≠ (TX2 b).2.1 := by decide +kernel
theorem tyX2_ok : ∀ k, k < 9 → parseFieldDescriptor (TX2 k).2.2.1 = some (tyX2 k) := by decide +kernel
abbrev cX2_init : ByteArray := prog_4_method_1_code
def yX2_init : MethodName := ⟨RX2, "<init>", "()V"⟩
abbrev cX2_size : ByteArray := prog_4_method_2_code
def yX2_size : MethodName := ⟨RX2, "size", "()I"⟩
abbrev cX2_isType : ByteArray := prog_4_method_3_code
def yX2_isType : MethodName := ⟨RX2, "isType", "(I)Z"⟩
abbrev cX2_define : ByteArray := prog_4_method_4_code
def yX2_define : MethodName := ⟨RX2, "define", "(IIII)I"⟩
abbrev cX2_bind : ByteArray := prog_4_method_5_code
def yX2_bind : MethodName := ⟨RX2, "bind", "(IIII)V"⟩
abbrev cX2_databaseOf : ByteArray := prog_4_method_6_code
def yX2_databaseOf : MethodName := ⟨RX2, "databaseOf", "(I)I"⟩
abbrev cX2_parentOf : ByteArray := prog_4_method_7_code
def yX2_parentOf : MethodName := ⟨RX2, "parentOf", "(I)I"⟩
abbrev cX2_levelOf : ByteArray := prog_4_method_8_code
def yX2_levelOf : MethodName := ⟨RX2, "levelOf", "(I)I"⟩
abbrev cX2_keysOf : ByteArray := prog_4_method_9_code
def yX2_keysOf : MethodName := ⟨RX2, "keysOf", "(I)I"⟩
abbrev cX2_ruleOf : ByteArray := prog_4_method_10_code
def yX2_ruleOf : MethodName := ⟨RX2, "ruleOf", "(I)I"⟩
abbrev cX2_targetOf : ByteArray := prog_4_method_11_code
def yX2_targetOf : MethodName := ⟨RX2, "targetOf", "(I)I"⟩
abbrev cX2_comingOf : ByteArray := prog_4_method_12_code
def yX2_comingOf : MethodName := ⟨RX2, "comingOf", "(I)I"⟩
abbrev cX2_goingOf : ByteArray := prog_4_method_13_code
def yX2_goingOf : MethodName := ⟨RX2, "goingOf", "(I)I"⟩
abbrev cX2_levelBelow : ByteArray := prog_4_method_14_code
def yX2_levelBelow : MethodName := ⟨RX2, "levelBelow", "(I)I"⟩
abbrev cX2_isRootType : ByteArray := prog_4_method_15_code
def yX2_isRootType : MethodName := ⟨RX2, "isRootType", "(I)Z"⟩
abbrev cX2_hasRootType : ByteArray := prog_4_method_16_code
def yX2_hasRootType : MethodName := ⟨RX2, "hasRootType", "(I)Z"⟩
abbrev cX2_isBelow : ByteArray := prog_4_method_17_code
def yX2_isBelow : MethodName := ⟨RX2, "isBelow", "(II)Z"⟩
def RX3 : String := "SegmentYard$Store"
def TX3 : u_T := fun k => match k with
  | 0 => ("SegmentYard$Store", "schema", "LSegmentYard$Schema;", true)
  | 1 => ("SegmentYard$Store", "types", "[I", true)
  | 2 => ("SegmentYard$Store", "parents", "[I", true)
  | 3 => ("SegmentYard$Store", "ranks", "[I", true)
  | 4 => ("SegmentYard$Store", "numbers", "[I", true)
  | 5 => ("SegmentYard$Store", "rows", "[I", true)
  | 6 => ("SegmentYard$Store", "counts", "[I", true)
  | 7 => ("SegmentYard$Store", "places", "[I", true)
  | 8 => ("SegmentYard$Store", "doomed", "[Z", true)
  | _ => ("SegmentYard$Store", "total", "I", false)
def tyX3 : Nat → FieldType := fun k => match k with
  | 0 => .object "SegmentYard$Schema"
  | 1 => .array .int
  | 2 => .array .int
  | 3 => .array .int
  | 4 => .array .int
  | 5 => .array .int
  | 6 => .array .int
  | 7 => .array .int
  | 8 => .array .boolean
  | _ => .int
abbrev wsX30 : List Cond := u_ws RX3 TX3 10
theorem nmX3 : ∀ a, a < 10 → ∀ b, b < 10 → a ≠ b → (TX3 a).2.1 ≠ (TX3 b).2.1 := by decide +kernel
theorem tyX3_ok : ∀ k, k < 10 → parseFieldDescriptor (TX3 k).2.2.1 = some (tyX3 k) := by decide +kernel
abbrev cX3_init : ByteArray := prog_5_method_1_code
def yX3_init : MethodName := ⟨RX3, "<init>", "(LSegmentYard$Schema;)V"⟩
abbrev cX3_isNumber : ByteArray := prog_5_method_2_code
def yX3_isNumber : MethodName := ⟨RX3, "isNumber", "(I)Z"⟩
abbrev cX3_size : ByteArray := prog_5_method_3_code
def yX3_size : MethodName := ⟨RX3, "size", "()I"⟩
abbrev cX3_countOf : ByteArray := prog_5_method_4_code
def yX3_countOf : MethodName := ⟨RX3, "countOf", "(I)I"⟩
abbrev cX3_segmentAt : ByteArray := prog_5_method_5_code
def yX3_segmentAt : MethodName := ⟨RX3, "segmentAt", "(II)I"⟩
abbrev cX3_typeOf : ByteArray := prog_5_method_6_code
def yX3_typeOf : MethodName := ⟨RX3, "typeOf", "(I)I"⟩
abbrev cX3_databaseOf : ByteArray := prog_5_method_7_code
def yX3_databaseOf : MethodName := ⟨RX3, "databaseOf", "(I)I"⟩
abbrev cX3_parentOf : ByteArray := prog_5_method_8_code
def yX3_parentOf : MethodName := ⟨RX3, "parentOf", "(I)I"⟩
abbrev cX3_numberOf : ByteArray := prog_5_method_9_code
def yX3_numberOf : MethodName := ⟨RX3, "numberOf", "(II)I"⟩
abbrev cX3_setNumber : ByteArray := prog_5_method_10_code
def yX3_setNumber : MethodName := ⟨RX3, "setNumber", "(III)V"⟩
abbrev cX3_signOf : ByteArray := prog_5_method_11_code
def yX3_signOf : MethodName := ⟨RX3, "signOf", "(I)I"⟩
abbrev cX3_placeOf : ByteArray := prog_5_method_12_code
def yX3_placeOf : MethodName := ⟨RX3, "placeOf", "(I)I"⟩
abbrev cX3_isBelow : ByteArray := prog_5_method_13_code
def yX3_isBelow : MethodName := ⟨RX3, "isBelow", "(II)Z"⟩
abbrev cX3_upward : ByteArray := prog_5_method_14_code
def yX3_upward : MethodName := ⟨RX3, "upward", "(II)I"⟩
abbrev cX3_isTwin : ByteArray := prog_5_method_15_code
def yX3_isTwin : MethodName := ⟨RX3, "isTwin", "(III)Z"⟩
abbrev cX3_hasTwin : ByteArray := prog_5_method_16_code
def yX3_hasTwin : MethodName := ⟨RX3, "hasTwin", "(III)Z"⟩
abbrev cX3_rootOf : ByteArray := prog_5_method_17_code
def yX3_rootOf : MethodName := ⟨RX3, "rootOf", "(II)I"⟩
abbrev cX3_isTied : ByteArray := prog_5_method_18_code
def yX3_isTied : MethodName := ⟨RX3, "isTied", "(II)Z"⟩
abbrev cX3_add : ByteArray := prog_5_method_19_code
def yX3_add : MethodName := ⟨RX3, "add", "(III)I"⟩
abbrev cX3_unused : ByteArray := prog_5_method_20_code
def yX3_unused : MethodName := ⟨RX3, "unused", "()I"⟩
abbrev cX3_endOfTwins : ByteArray := prog_5_method_21_code
def yX3_endOfTwins : MethodName := ⟨RX3, "endOfTwins", "(II)I"⟩
abbrev cX3_liesUpTo : ByteArray := prog_5_method_22_code
def yX3_liesUpTo : MethodName := ⟨RX3, "liesUpTo", "(III)Z"⟩
abbrev cX3_makeRank : ByteArray := prog_5_method_23_code
def yX3_makeRank : MethodName := ⟨RX3, "makeRank", "(III)I"⟩
abbrev cX3_putInRow : ByteArray := prog_5_method_24_code
def yX3_putInRow : MethodName := ⟨RX3, "putInRow", "(III)V"⟩
abbrev cX3_numberPlaces : ByteArray := prog_5_method_25_code
def yX3_numberPlaces : MethodName := ⟨RX3, "numberPlaces", "(I)V"⟩
abbrev cX3_isAhead : ByteArray := prog_5_method_26_code
def yX3_isAhead : MethodName := ⟨RX3, "isAhead", "(II)Z"⟩
abbrev cX3_climb : ByteArray := prog_5_method_27_code
def yX3_climb : MethodName := ⟨RX3, "climb", "(II)I"⟩
abbrev cX3_spareAll : ByteArray := prog_5_method_28_code
def yX3_spareAll : MethodName := ⟨RX3, "spareAll", "()V"⟩
abbrev cX3_doom : ByteArray := prog_5_method_29_code
def yX3_doom : MethodName := ⟨RX3, "doom", "(I)V"⟩
abbrev cX3_isDoomed : ByteArray := prog_5_method_30_code
def yX3_isDoomed : MethodName := ⟨RX3, "isDoomed", "(I)Z"⟩
abbrev cX3_sparedBehind : ByteArray := prog_5_method_31_code
def yX3_sparedBehind : MethodName := ⟨RX3, "sparedBehind", "(I)I"⟩
abbrev cX3_removeDoomed : ByteArray := prog_5_method_32_code
def yX3_removeDoomed : MethodName := ⟨RX3, "removeDoomed", "()V"⟩
def RX4 : String := "SegmentYard$View"
def TX4 : u_T := fun k => match k with
  | 0 => ("SegmentYard$View", "database", "I", false)
  | 1 => ("SegmentYard$View", "set", "I", false)
  | 2 => ("SegmentYard$View", "mark", "I", false)
  | 3 => ("SegmentYard$View", "isAt", "Z", false)
  | 4 => ("SegmentYard$View", "isBehindAll", "Z", false)
  | 5 => ("SegmentYard$View", "parent", "I", false)
  | 6 => ("SegmentYard$View", "holding", "I", false)
  | 7 => ("SegmentYard$View", "held", "[I", true)
  | _ => ("SegmentYard$View", "kept", "[Z", true)
def tyX4 : Nat → FieldType := fun k => match k with
  | 0 => .int
  | 1 => .int
  | 2 => .int
  | 3 => .boolean
  | 4 => .boolean
  | 5 => .int
  | 6 => .int
  | 7 => .array .int
  | _ => .array .boolean
abbrev wsX40 : List Cond := u_ws RX4 TX4 9
theorem nmX4 : ∀ a, a < 9 → ∀ b, b < 9 → a ≠ b → (TX4 a).2.1 ≠ (TX4 b).2.1 := by decide +kernel
theorem tyX4_ok : ∀ k, k < 9 → parseFieldDescriptor (TX4 k).2.2.1 = some (tyX4 k) := by decide +kernel
abbrev cX4_init : ByteArray := prog_6_method_1_code
def yX4_init : MethodName := ⟨RX4, "<init>", "()V"⟩
abbrev cX4_reopen : ByteArray := prog_6_method_2_code
def yX4_reopen : MethodName := ⟨RX4, "reopen", "(II)V"⟩
abbrev cX4_database : ByteArray := prog_6_method_3_code
def yX4_database : MethodName := ⟨RX4, "database", "()I"⟩
abbrev cX4_sees : ByteArray := prog_6_method_4_code
def yX4_sees : MethodName := ⟨RX4, "sees", "(LSegmentYard$Schema;I)Z"⟩
abbrev cX4_mark : ByteArray := prog_6_method_5_code
def yX4_mark : MethodName := ⟨RX4, "mark", "()I"⟩
abbrev cX4_segmentAt : ByteArray := prog_6_method_6_code
def yX4_segmentAt : MethodName := ⟨RX4, "segmentAt", "()I"⟩
abbrev cX4_isBehindAll : ByteArray := prog_6_method_7_code
def yX4_isBehindAll : MethodName := ⟨RX4, "isBehindAll", "()Z"⟩
abbrev cX4_standAt : ByteArray := prog_6_method_8_code
def yX4_standAt : MethodName := ⟨RX4, "standAt", "(I)V"⟩
abbrev cX4_standAheadOf : ByteArray := prog_6_method_9_code
def yX4_standAheadOf : MethodName := ⟨RX4, "standAheadOf", "(I)V"⟩
abbrev cX4_standAheadOfAll : ByteArray := prog_6_method_10_code
def yX4_standAheadOfAll : MethodName := ⟨RX4, "standAheadOfAll", "()V"⟩
abbrev cX4_parentSegment : ByteArray := prog_6_method_11_code
def yX4_parentSegment : MethodName := ⟨RX4, "parentSegment", "()I"⟩
abbrev cX4_setParent : ByteArray := prog_6_method_12_code
def yX4_setParent : MethodName := ⟨RX4, "setParent", "(I)V"⟩
abbrev cX4_heldCount : ByteArray := prog_6_method_13_code
def yX4_heldCount : MethodName := ⟨RX4, "heldCount", "()I"⟩
abbrev cX4_heldAt : ByteArray := prog_6_method_14_code
def yX4_heldAt : MethodName := ⟨RX4, "heldAt", "(I)I"⟩
abbrev cX4_isKept : ByteArray := prog_6_method_15_code
def yX4_isKept : MethodName := ⟨RX4, "isKept", "(I)Z"⟩
abbrev cX4_lastHeld : ByteArray := prog_6_method_16_code
def yX4_lastHeld : MethodName := ⟨RX4, "lastHeld", "()I"⟩
abbrev cX4_hold : ByteArray := prog_6_method_17_code
def yX4_hold : MethodName := ⟨RX4, "hold", "(IZ)V"⟩
abbrev cX4_release : ByteArray := prog_6_method_18_code
def yX4_release : MethodName := ⟨RX4, "release", "()V"⟩
def RX5 : String := "SegmentYard"
def TX5 : u_T := fun k => match k with
  | 0 => ("SegmentYard", "schema", "LSegmentYard$Schema;", true)
  | 1 => ("SegmentYard", "store", "LSegmentYard$Store;", true)
  | 2 => ("SegmentYard", "arguments", "LSegmentYard$Arguments;", true)
  | 3 => ("SegmentYard", "needs", "LSegmentYard$Needs;", true)
  | 4 => ("SegmentYard", "views", "[LSegmentYard$View;", true)
  | _ => ("SegmentYard", "slots", "[I", true)
def tyX5 : Nat → FieldType := fun k => match k with
  | 0 => .object "SegmentYard$Schema"
  | 1 => .object "SegmentYard$Store"
  | 2 => .object "SegmentYard$Arguments"
  | 3 => .object "SegmentYard$Needs"
  | 4 => .array (.object "SegmentYard$View")
  | _ => .array .int
abbrev wsX50 : List Cond := u_ws RX5 TX5 6
theorem nmX5 : ∀ a, a < 6 → ∀ b, b < 6 → a ≠ b → (TX5 a).2.1 ≠ (TX5 b).2.1 := by decide +kernel
theorem tyX5_ok : ∀ k, k < 6 → parseFieldDescriptor (TX5 k).2.2.1 = some (tyX5 k) := by decide +kernel
abbrev cX5_init : ByteArray := prog_1_method_1_code
def yX5_init : MethodName := ⟨RX5, "<init>", "()V"⟩
abbrev cX5_type : ByteArray := prog_1_method_2_code
def yX5_type : MethodName := ⟨RX5, "type", "(IIII)I"⟩
abbrev cX5_tie : ByteArray := prog_1_method_3_code
def yX5_tie : MethodName := ⟨RX5, "tie", "(IIII)V"⟩
abbrev cX5_open : ByteArray := prog_1_method_4_code
def yX5_open : MethodName := ⟨RX5, "open", "(III)V"⟩
abbrev cX5_argument : ByteArray := prog_1_method_5_code
def yX5_argument : MethodName := ⟨RX5, "argument", "(II)I"⟩
abbrev cX5_condition : ByteArray := prog_1_method_6_code
def yX5_condition : MethodName := ⟨RX5, "condition", "(ZIII)I"⟩
abbrev cX5_clear : ByteArray := prog_1_method_7_code
def yX5_clear : MethodName := ⟨RX5, "clear", "()I"⟩
abbrev cX5_put : ByteArray := prog_1_method_8_code
def yX5_put : MethodName := ⟨RX5, "put", "(III)I"⟩
abbrev cX5_area : ByteArray := prog_1_method_9_code
def yX5_area : MethodName := ⟨RX5, "area", "(II)I"⟩
abbrev cX5_get : ByteArray := prog_1_method_10_code
def yX5_get : MethodName := ⟨RX5, "get", "(IIZ)I"⟩
abbrev cX5_insert : ByteArray := prog_1_method_11_code
def yX5_insert : MethodName := ⟨RX5, "insert", "(I)I"⟩
abbrev cX5_replace : ByteArray := prog_1_method_12_code
def yX5_replace : MethodName := ⟨RX5, "replace", "(I)I"⟩
abbrev cX5_delete : ByteArray := prog_1_method_13_code
def yX5_delete : MethodName := ⟨RX5, "delete", "(I)I"⟩
abbrev cX5_types : ByteArray := prog_1_method_14_code
def yX5_types : MethodName := ⟨RX5, "types", "()I"⟩
abbrev cX5_count : ByteArray := prog_1_method_15_code
def yX5_count : MethodName := ⟨RX5, "count", "(I)I"⟩
abbrev cX5_rowAt : ByteArray := prog_1_method_16_code
def yX5_rowAt : MethodName := ⟨RX5, "rowAt", "(II)I"⟩
abbrev cX5_rowAnew : ByteArray := prog_1_method_17_code
def yX5_rowAnew : MethodName := ⟨RX5, "rowAnew", "(II)I"⟩
abbrev cX5_fieldAt : ByteArray := prog_1_method_18_code
def yX5_fieldAt : MethodName := ⟨RX5, "fieldAt", "(III)I"⟩
abbrev cX5_at : ByteArray := prog_1_method_19_code
def yX5_at : MethodName := ⟨RX5, "at", "(I)I"⟩
abbrev cX5_ahead : ByteArray := prog_1_method_20_code
def yX5_ahead : MethodName := ⟨RX5, "ahead", "(I)I"⟩
abbrev cX5_parent : ByteArray := prog_1_method_21_code
def yX5_parent : MethodName := ⟨RX5, "parent", "(I)I"⟩
abbrev cX5_holds : ByteArray := prog_1_method_22_code
def yX5_holds : MethodName := ⟨RX5, "holds", "(I)I"⟩
abbrev cX5_keys : ByteArray := prog_1_method_23_code
def yX5_keys : MethodName := ⟨RX5, "keys", "(I)J"⟩
abbrev cX5_second : ByteArray := prog_1_method_24_code
def yX5_second : MethodName := ⟨RX5, "second", "(I)I"⟩
abbrev cX5_tied : ByteArray := prog_1_method_25_code
def yX5_tied : MethodName := ⟨RX5, "tied", "(I)I"⟩
abbrev cX5_isIn : ByteArray := prog_1_method_26_code
def yX5_isIn : MethodName := ⟨RX5, "isIn", "(II)Z"⟩
abbrev cX5_isPlace : ByteArray := prog_1_method_27_code
def yX5_isPlace : MethodName := ⟨RX5, "isPlace", "(II)Z"⟩
abbrev cX5_needIndex : ByteArray := prog_1_method_28_code
def yX5_needIndex : MethodName := ⟨RX5, "needIndex", "(Z)V"⟩
abbrev cX5_needRange : ByteArray := prog_1_method_29_code
def yX5_needRange : MethodName := ⟨RX5, "needRange", "(Z)V"⟩
abbrev cX5_needState : ByteArray := prog_1_method_30_code
def yX5_needState : MethodName := ⟨RX5, "needState", "(Z)V"⟩
abbrev cX5_viewOf : ByteArray := prog_1_method_31_code
def yX5_viewOf : MethodName := ⟨RX5, "viewOf", "(I)LSegmentYard$View;"⟩
abbrev cX5_slotNumber : ByteArray := prog_1_method_32_code
def yX5_slotNumber : MethodName := ⟨RX5, "slotNumber", "(II)I"⟩
abbrev cX5_setSlotNumber : ByteArray := prog_1_method_33_code
def yX5_setSlotNumber : MethodName := ⟨RX5, "setSlotNumber", "(III)V"⟩
abbrev cX5_fillSlot : ByteArray := prog_1_method_34_code
def yX5_fillSlot : MethodName := ⟨RX5, "fillSlot", "(II)V"⟩
abbrev cX5_fillSegment : ByteArray := prog_1_method_35_code
def yX5_fillSegment : MethodName := ⟨RX5, "fillSegment", "(II)V"⟩
abbrev cX5_seek : ByteArray := prog_1_method_36_code
def yX5_seek : MethodName := ⟨RX5, "seek", "(LSegmentYard$View;IZ)I"⟩
abbrev cX5_isListOrdered : ByteArray := prog_1_method_37_code
def yX5_isListOrdered : MethodName := ⟨RX5, "isListOrdered", "(LSegmentYard$View;)Z"⟩
abbrev cX5_miss : ByteArray := prog_1_method_38_code
def yX5_miss : MethodName := ⟨RX5, "miss", "(LSegmentYard$View;I)I"⟩
abbrev cX5_statusOfStep : ByteArray := prog_1_method_39_code
def yX5_statusOfStep : MethodName := ⟨RX5, "statusOfStep", "(II)I"⟩
abbrev cX5_deliver : ByteArray := prog_1_method_40_code
def yX5_deliver : MethodName := ⟨RX5, "deliver", "(LSegmentYard$View;IZ)V"⟩
abbrev cX5_deliverOne : ByteArray := prog_1_method_41_code
def yX5_deliverOne : MethodName := ⟨RX5, "deliverOne", "(LSegmentYard$View;IIIZ)V"⟩
abbrev cX5_parentageOf : ByteArray := prog_1_method_42_code
def yX5_parentageOf : MethodName := ⟨RX5, "parentageOf", "(I)I"⟩
abbrev cX5_countAhead : ByteArray := prog_1_method_43_code
def yX5_countAhead : MethodName := ⟨RX5, "countAhead", "(LSegmentYard$View;)I"⟩
abbrev cX5_placeBehind : ByteArray := prog_1_method_44_code
def yX5_placeBehind : MethodName := ⟨RX5, "placeBehind", "(LSegmentYard$View;)I"⟩
abbrev cX5_firstRight : ByteArray := prog_1_method_45_code
def yX5_firstRight : MethodName := ⟨RX5, "firstRight", "(LSegmentYard$View;III)I"⟩
abbrev cX5_isRight : ByteArray := prog_1_method_46_code
def yX5_isRight : MethodName := ⟨RX5, "isRight", "(LSegmentYard$View;II)Z"⟩
abbrev cX5_areCodesRight : ByteArray := prog_1_method_47_code
def yX5_areCodesRight : MethodName := ⟨RX5, "areCodesRight", "(LSegmentYard$View;II)Z"⟩
abbrev cX5_isTwinFulfilling : ByteArray := prog_1_method_48_code
def yX5_isTwinFulfilling : MethodName := ⟨RX5, "isTwinFulfilling", "(IIZ)Z"⟩
abbrev cX5_insertListed : ByteArray := prog_1_method_49_code
def yX5_insertListed : MethodName := ⟨RX5, "insertListed", "(LSegmentYard$View;)I"⟩
abbrev cX5_areNewOnesOrdered : ByteArray := prog_1_method_50_code
def yX5_areNewOnesOrdered : MethodName := ⟨RX5, "areNewOnesOrdered", "(I)Z"⟩
abbrev cX5_gatherNeedsOfNew : ByteArray := prog_1_method_51_code
def yX5_gatherNeedsOfNew : MethodName := ⟨RX5, "gatherNeedsOfNew", "(I)V"⟩
abbrev cX5_insertNew : ByteArray := prog_1_method_52_code
def yX5_insertNew : MethodName := ⟨RX5, "insertNew", "(LSegmentYard$View;II)V"⟩
abbrev cX5_addSegment : ByteArray := prog_1_method_53_code
def yX5_addSegment : MethodName := ⟨RX5, "addSegment", "(IIII)I"⟩
abbrev cX5_twinBehindNew : ByteArray := prog_1_method_54_code
def yX5_twinBehindNew : MethodName := ⟨RX5, "twinBehindNew", "(IIII)I"⟩
abbrev cX5_needRoot : ByteArray := prog_1_method_55_code
def yX5_needRoot : MethodName := ⟨RX5, "needRoot", "(II)V"⟩
abbrev cX5_statusOfNeeds : ByteArray := prog_1_method_56_code
def yX5_statusOfNeeds : MethodName := ⟨RX5, "statusOfNeeds", "(I)I"⟩
abbrev cX5_makeNeeded : ByteArray := prog_1_method_57_code
def yX5_makeNeeded : MethodName := ⟨RX5, "makeNeeded", "()V"⟩
abbrev cX5_replaceHeld : ByteArray := prog_1_method_58_code
def yX5_replaceHeld : MethodName := ⟨RX5, "replaceHeld", "(LSegmentYard$View;)I"⟩
abbrev cX5_wouldChangeKey : ByteArray := prog_1_method_59_code
def yX5_wouldChangeKey : MethodName := ⟨RX5, "wouldChangeKey", "(LSegmentYard$View;)Z"⟩
abbrev cX5_gatherNeedsOfHeld : ByteArray := prog_1_method_60_code
def yX5_gatherNeedsOfHeld : MethodName := ⟨RX5, "gatherNeedsOfHeld", "(LSegmentYard$View;)V"⟩
abbrev cX5_fillHeld : ByteArray := prog_1_method_61_code
def yX5_fillHeld : MethodName := ⟨RX5, "fillHeld", "(LSegmentYard$View;)V"⟩
abbrev cX5_deleteFrom : ByteArray := prog_1_method_62_code
def yX5_deleteFrom : MethodName := ⟨RX5, "deleteFrom", "(I)I"⟩
abbrev cX5_isBound : ByteArray := prog_1_method_63_code
def yX5_isBound : MethodName := ⟨RX5, "isBound", "(I)Z"⟩
abbrev cX5_leaveDoomed : ByteArray := prog_1_method_64_code
def yX5_leaveDoomed : MethodName := ⟨RX5, "leaveDoomed", "(LSegmentYard$View;)V"⟩
abbrev cX5_comparedAhead : ByteArray := prog_1_method_65_code
def yX5_comparedAhead : MethodName := ⟨RX5, "comparedAhead", "(II)I"⟩
def RX6 : String := "SegmentYardModel"
def TX6 : u_T := fun k => match k with
  | 0 => ("SegmentYardModel", "types", "I", false)
  | 1 => ("SegmentYardModel", "database", "[I", true)
  | 2 => ("SegmentYardModel", "above", "[I", true)
  | 3 => ("SegmentYardModel", "keys", "[I", true)
  | 4 => ("SegmentYardModel", "rule", "[I", true)
  | 5 => ("SegmentYardModel", "level", "[I", true)
  | 6 => ("SegmentYardModel", "target", "[I", true)
  | 7 => ("SegmentYardModel", "coming", "[I", true)
  | 8 => ("SegmentYardModel", "going", "[I", true)
  | 9 => ("SegmentYardModel", "kind", "[I", true)
  | 10 => ("SegmentYardModel", "parent", "[I", true)
  | 11 => ("SegmentYardModel", "field", "[I", true)
  | 12 => ("SegmentYardModel", "gone", "[Z", true)
  | 13 => ("SegmentYardModel", "many", "[I", true)
  | 14 => ("SegmentYardModel", "row", "[I", true)
  | 15 => ("SegmentYardModel", "of", "[I", true)
  | 16 => ("SegmentYardModel", "set", "[I", true)
  | 17 => ("SegmentYardModel", "mode", "[I", true)
  | 18 => ("SegmentYardModel", "here", "[I", true)
  | 19 => ("SegmentYardModel", "root", "[I", true)
  | 20 => ("SegmentYardModel", "holds", "[I", true)
  | 21 => ("SegmentYardModel", "held", "[I", true)
  | 22 => ("SegmentYardModel", "stays", "[I", true)
  | 23 => ("SegmentYardModel", "had", "I", false)
  | 24 => ("SegmentYardModel", "listed", "I", false)
  | 25 => ("SegmentYardModel", "wanted", "[I", true)
  | 26 => ("SegmentYardModel", "codes", "[I", true)
  | 27 => ("SegmentYardModel", "conditions", "[I", true)
  | 28 => ("SegmentYardModel", "or", "[Z", true)
  | 29 => ("SegmentYardModel", "which", "[I", true)
  | 30 => ("SegmentYardModel", "how", "[I", true)
  | 31 => ("SegmentYardModel", "number", "[I", true)
  | 32 => ("SegmentYardModel", "slots", "[I", true)
  | 33 => ("SegmentYardModel", "made", "I", false)
  | 34 => ("SegmentYardModel", "madeType", "[I", true)
  | 35 => ("SegmentYardModel", "madeKey", "[I", true)
  | _ => ("SegmentYardModel", "thrown", "I", false)
def tyX6 : Nat → FieldType := fun k => match k with
  | 0 => .int
  | 1 => .array .int
  | 2 => .array .int
  | 3 => .array .int
  | 4 => .array .int
  | 5 => .array .int
  | 6 => .array .int
  | 7 => .array .int
  | 8 => .array .int
  | 9 => .array .int
  | 10 => .array .int
  | 11 => .array .int
  | 12 => .array .boolean
  | 13 => .array .int
  | 14 => .array .int
  | 15 => .array .int
  | 16 => .array .int
  | 17 => .array .int
  | 18 => .array .int
  | 19 => .array .int
  | 20 => .array .int
  | 21 => .array .int
  | 22 => .array .int
  | 23 => .int
  | 24 => .int
  | 25 => .array .int
  | 26 => .array .int
  | 27 => .array .int
  | 28 => .array .boolean
  | 29 => .array .int
  | 30 => .array .int
  | 31 => .array .int
  | 32 => .array .int
  | 33 => .int
  | 34 => .array .int
  | 35 => .array .int
  | _ => .int
abbrev wsX60 : List Cond := u_ws RX6 TX6 37
theorem nmX6 : ∀ a, a < 37 → ∀ b, b < 37 → a ≠ b → (TX6 a).2.1 ≠ (TX6 b).2.1 := by decide +kernel
theorem tyX6_ok : ∀ k, k < 37 → parseFieldDescriptor (TX6 k).2.2.1 = some (tyX6 k) := by decide +kernel
abbrev cX6_init : ByteArray := prog_8_method_1_code
def yX6_init : MethodName := ⟨RX6, "<init>", "()V"⟩
abbrev cX6_thrown : ByteArray := prog_8_method_2_code
def yX6_thrown : MethodName := ⟨RX6, "thrown", "()I"⟩
abbrev cX6_in : ByteArray := prog_8_method_3_code
def yX6_in : MethodName := ⟨RX6, "in", "(III)Z"⟩
abbrev cX6_goes : ByteArray := prog_8_method_4_code
def yX6_goes : MethodName := ⟨RX6, "goes", "(ZZZ)Z"⟩
abbrev cX6_told : ByteArray := prog_8_method_5_code
def yX6_told : MethodName := ⟨RX6, "told", "(I)I"⟩
abbrev cX6_isDatabase : ByteArray := prog_8_method_6_code
def yX6_isDatabase : MethodName := ⟨RX6, "isDatabase", "(I)Z"⟩
abbrev cX6_isType : ByteArray := prog_8_method_7_code
def yX6_isType : MethodName := ⟨RX6, "isType", "(I)Z"⟩
abbrev cX6_isView : ByteArray := prog_8_method_8_code
def yX6_isView : MethodName := ⟨RX6, "isView", "(I)Z"⟩
abbrev cX6_isNumber : ByteArray := prog_8_method_9_code
def yX6_isNumber : MethodName := ⟨RX6, "isNumber", "(I)Z"⟩
abbrev cX6_all : ByteArray := prog_8_method_10_code
def yX6_all : MethodName := ⟨RX6, "all", "()I"⟩
abbrev cX6_hasRoot : ByteArray := prog_8_method_11_code
def yX6_hasRoot : MethodName := ⟨RX6, "hasRoot", "(I)Z"⟩
abbrev cX6_type : ByteArray := prog_8_method_12_code
def yX6_type : MethodName := ⟨RX6, "type", "(IIII)I"⟩
abbrev cX6_tie : ByteArray := prog_8_method_13_code
def yX6_tie : MethodName := ⟨RX6, "tie", "(IIII)V"⟩
abbrev cX6_opens : ByteArray := prog_8_method_14_code
def yX6_opens : MethodName := ⟨RX6, "opens", "(III)V"⟩
abbrev cX6_open : ByteArray := prog_8_method_15_code
def yX6_open : MethodName := ⟨RX6, "open", "(III)V"⟩
abbrev cX6_sees : ByteArray := prog_8_method_16_code
def yX6_sees : MethodName := ⟨RX6, "sees", "(II)Z"⟩
abbrev cX6_argument : ByteArray := prog_8_method_17_code
def yX6_argument : MethodName := ⟨RX6, "argument", "(II)I"⟩
abbrev cX6_condition : ByteArray := prog_8_method_18_code
def yX6_condition : MethodName := ⟨RX6, "condition", "(ZIII)I"⟩
abbrev cX6_clears : ByteArray := prog_8_method_19_code
def yX6_clears : MethodName := ⟨RX6, "clears", "()I"⟩
abbrev cX6_clear : ByteArray := prog_8_method_20_code
def yX6_clear : MethodName := ⟨RX6, "clear", "()I"⟩
abbrev cX6_isSlot : ByteArray := prog_8_method_21_code
def yX6_isSlot : MethodName := ⟨RX6, "isSlot", "(II)Z"⟩
abbrev cX6_put : ByteArray := prog_8_method_22_code
def yX6_put : MethodName := ⟨RX6, "put", "(III)I"⟩
abbrev cX6_area : ByteArray := prog_8_method_23_code
def yX6_area : MethodName := ⟨RX6, "area", "(II)I"⟩
abbrev cX6_segmentAt : ByteArray := prog_8_method_24_code
def yX6_segmentAt : MethodName := ⟨RX6, "segmentAt", "(II)I"⟩
abbrev cX6_placeOf : ByteArray := prog_8_method_25_code
def yX6_placeOf : MethodName := ⟨RX6, "placeOf", "(I)I"⟩
abbrev cX6_key : ByteArray := prog_8_method_26_code
def yX6_key : MethodName := ⟨RX6, "key", "(I)I"⟩
abbrev cX6_among : ByteArray := prog_8_method_27_code
def yX6_among : MethodName := ⟨RX6, "among", "(II)I"⟩
abbrev cX6_isUnder : ByteArray := prog_8_method_28_code
def yX6_isUnder : MethodName := ⟨RX6, "isUnder", "(II)Z"⟩
abbrev cX6_areTwins : ByteArray := prog_8_method_29_code
def yX6_areTwins : MethodName := ⟨RX6, "areTwins", "(II)Z"⟩
abbrev cX6_liesAhead : ByteArray := prog_8_method_30_code
def yX6_liesAhead : MethodName := ⟨RX6, "liesAhead", "(IIII)Z"⟩
abbrev cX6_isBehind : ByteArray := prog_8_method_31_code
def yX6_isBehind : MethodName := ⟨RX6, "isBehind", "(IIIII)Z"⟩
abbrev cX6_inserts : ByteArray := prog_8_method_32_code
def yX6_inserts : MethodName := ⟨RX6, "inserts", "(IIII)I"⟩
abbrev cX6_rootOf : ByteArray := prog_8_method_33_code
def yX6_rootOf : MethodName := ⟨RX6, "rootOf", "(II)I"⟩
abbrev cX6_secondOf : ByteArray := prog_8_method_34_code
def yX6_secondOf : MethodName := ⟨RX6, "secondOf", "(I)I"⟩
abbrev cX6_compares : ByteArray := prog_8_method_35_code
def yX6_compares : MethodName := ⟨RX6, "compares", "(III)Z"⟩
abbrev cX6_fulfils : ByteArray := prog_8_method_36_code
def yX6_fulfils : MethodName := ⟨RX6, "fulfils", "(II)Z"⟩
abbrev cX6_hasCode : ByteArray := prog_8_method_37_code
def yX6_hasCode : MethodName := ⟨RX6, "hasCode", "(II)Z"⟩
abbrev cX6_hasTwin : ByteArray := prog_8_method_38_code
def yX6_hasTwin : MethodName := ⟨RX6, "hasTwin", "(IIZ)Z"⟩
abbrev cX6_isRightFor : ByteArray := prog_8_method_39_code
def yX6_isRightFor : MethodName := ⟨RX6, "isRightFor", "(III)Z"⟩
abbrev cX6_isRight : ByteArray := prog_8_method_40_code
def yX6_isRight : MethodName := ⟨RX6, "isRight", "(III)Z"⟩
abbrev cX6_isList : ByteArray := prog_8_method_41_code
def yX6_isList : MethodName := ⟨RX6, "isList", "(I)Z"⟩
abbrev cX6_isBelow : ByteArray := prog_8_method_42_code
def yX6_isBelow : MethodName := ⟨RX6, "isBelow", "(II)Z"⟩
abbrev cX6_loses : ByteArray := prog_8_method_43_code
def yX6_loses : MethodName := ⟨RX6, "loses", "(I)V"⟩
abbrev cX6_from : ByteArray := prog_8_method_44_code
def yX6_from : MethodName := ⟨RX6, "from", "(I)I"⟩
abbrev cX6_finds : ByteArray := prog_8_method_45_code
def yX6_finds : MethodName := ⟨RX6, "finds", "(II)I"⟩
abbrev cX6_fills : ByteArray := prog_8_method_46_code
def yX6_fills : MethodName := ⟨RX6, "fills", "(IIIZI)V"⟩
abbrev cX6_comesTo : ByteArray := prog_8_method_47_code
def yX6_comesTo : MethodName := ⟨RX6, "comesTo", "(IIIZ)I"⟩
abbrev cX6_gets : ByteArray := prog_8_method_48_code
def yX6_gets : MethodName := ⟨RX6, "gets", "(IIZ)I"⟩
abbrev cX6_get : ByteArray := prog_8_method_49_code
def yX6_get : MethodName := ⟨RX6, "get", "(IIZ)I"⟩
abbrev cX6_firstNew : ByteArray := prog_8_method_50_code
def yX6_firstNew : MethodName := ⟨RX6, "firstNew", "()I"⟩
abbrev cX6_areNew : ByteArray := prog_8_method_51_code
def yX6_areNew : MethodName := ⟨RX6, "areNew", "(I)Z"⟩
abbrev cX6_parentFor : ByteArray := prog_8_method_52_code
def yX6_parentFor : MethodName := ⟨RX6, "parentFor", "(II)I"⟩
abbrev cX6_isDouble : ByteArray := prog_8_method_53_code
def yX6_isDouble : MethodName := ⟨RX6, "isDouble", "(III)Z"⟩
abbrev cX6_needs : ByteArray := prog_8_method_54_code
def yX6_needs : MethodName := ⟨RX6, "needs", "(II)Z"⟩
abbrev cX6_makes : ByteArray := prog_8_method_55_code
def yX6_makes : MethodName := ⟨RX6, "makes", "()V"⟩
abbrev cX6_needsAll : ByteArray := prog_8_method_56_code
def yX6_needsAll : MethodName := ⟨RX6, "needsAll", "(I)Z"⟩
abbrev cX6_insertsAll : ByteArray := prog_8_method_57_code
def yX6_insertsAll : MethodName := ⟨RX6, "insertsAll", "(I)I"⟩
abbrev cX6_insert : ByteArray := prog_8_method_58_code
def yX6_insert : MethodName := ⟨RX6, "insert", "(I)I"⟩
abbrev cX6_replaces : ByteArray := prog_8_method_59_code
def yX6_replaces : MethodName := ⟨RX6, "replaces", "(I)I"⟩
abbrev cX6_replace : ByteArray := prog_8_method_60_code
def yX6_replace : MethodName := ⟨RX6, "replace", "(I)I"⟩
abbrev cX6_marks : ByteArray := prog_8_method_61_code
def yX6_marks : MethodName := ⟨RX6, "marks", "(I)V"⟩
abbrev cX6_marksAll : ByteArray := prog_8_method_62_code
def yX6_marksAll : MethodName := ⟨RX6, "marksAll", "(I)Z"⟩
abbrev cX6_leaves : ByteArray := prog_8_method_63_code
def yX6_leaves : MethodName := ⟨RX6, "leaves", "(I)V"⟩
abbrev cX6_removes : ByteArray := prog_8_method_64_code
def yX6_removes : MethodName := ⟨RX6, "removes", "()V"⟩
abbrev cX6_deletes : ByteArray := prog_8_method_65_code
def yX6_deletes : MethodName := ⟨RX6, "deletes", "(I)I"⟩
abbrev cX6_delete : ByteArray := prog_8_method_66_code
def yX6_delete : MethodName := ⟨RX6, "delete", "(I)I"⟩
abbrev cX6_types : ByteArray := prog_8_method_67_code
def yX6_types : MethodName := ⟨RX6, "types", "()I"⟩
abbrev cX6_count : ByteArray := prog_8_method_68_code
def yX6_count : MethodName := ⟨RX6, "count", "(I)I"⟩
abbrev cX6_isPlace : ByteArray := prog_8_method_69_code
def yX6_isPlace : MethodName := ⟨RX6, "isPlace", "(II)Z"⟩
abbrev cX6_rowAt : ByteArray := prog_8_method_70_code
def yX6_rowAt : MethodName := ⟨RX6, "rowAt", "(II)I"⟩
abbrev cX6_rowAnew : ByteArray := prog_8_method_71_code
def yX6_rowAnew : MethodName := ⟨RX6, "rowAnew", "(II)I"⟩
abbrev cX6_fieldAt : ByteArray := prog_8_method_72_code
def yX6_fieldAt : MethodName := ⟨RX6, "fieldAt", "(III)I"⟩
abbrev cX6_at : ByteArray := prog_8_method_73_code
def yX6_at : MethodName := ⟨RX6, "at", "(I)I"⟩
abbrev cX6_ahead : ByteArray := prog_8_method_74_code
def yX6_ahead : MethodName := ⟨RX6, "ahead", "(I)I"⟩
abbrev cX6_parent : ByteArray := prog_8_method_75_code
def yX6_parent : MethodName := ⟨RX6, "parent", "(I)I"⟩
abbrev cX6_holds : ByteArray := prog_8_method_76_code
def yX6_holds : MethodName := ⟨RX6, "holds", "(I)I"⟩
abbrev cX6_keys : ByteArray := prog_8_method_77_code
def yX6_keys : MethodName := ⟨RX6, "keys", "(I)J"⟩
abbrev cX6_second : ByteArray := prog_8_method_78_code
def yX6_second : MethodName := ⟨RX6, "second", "(I)I"⟩
abbrev cX6_tied : ByteArray := prog_8_method_79_code
def yX6_tied : MethodName := ⟨RX6, "tied", "(I)I"⟩
def RJ9 : String := "java/lang/Math"
def TJ9 : u_T := fun k => match k with
  | _ => ("", "", "", false)
def tyJ9 : Nat → FieldType := fun k => match k with
  | _ => .int
abbrev wsJ90 : List Cond := u_ws RJ9 TJ9 0
theorem nmJ9 : ∀ a, a < 0 → ∀ b, b < 0 → a ≠ b → (TJ9 a).2.1 ≠ (TJ9 b).2.1 := by decide +kernel
theorem tyJ9_ok : ∀ k, k < 0 → parseFieldDescriptor (TJ9 k).2.2.1 = some (tyJ9 k) := by decide +kernel
abbrev cJ9_max_7cf53 : ByteArray := prog_13_method_65_code
def yJ9_max_7cf53 : MethodName := ⟨RJ9, "max", "(II)I"⟩
def RJ0 : String := "java/lang/String"
def TJ0 : u_T := fun k => match k with
  | _ => ("", "", "", false)
def tyJ0 : Nat → FieldType := fun k => match k with
  | _ => .int
abbrev wsJ00 : List Cond := u_ws RJ0 TJ0 0
theorem nmJ0 : ∀ a, a < 0 → ∀ b, b < 0 → a ≠ b → (TJ0 a).2.1 ≠ (TJ0 b).2.1 := by decide +kernel
theorem tyJ0_ok : ∀ k, k < 0 → parseFieldDescriptor (TJ0 k).2.2.1 = some (tyJ0 k) := by decide +kernel
def RL : String := "SegmentYardLaw"
abbrev cL_type : ByteArray := method_3_code
def yL_type : MethodName := ⟨RL, "type", "(LSegmentYard;IIII[J)I"⟩
abbrev cL_tie : ByteArray := method_4_code
def yL_tie : MethodName := ⟨RL, "tie", "(LSegmentYard;IIII)I"⟩
abbrev cL_open : ByteArray := method_5_code
def yL_open : MethodName := ⟨RL, "open", "(LSegmentYard;III)I"⟩
abbrev cL_argument : ByteArray := method_6_code
def yL_argument : MethodName := ⟨RL, "argument", "(LSegmentYard;II[J)I"⟩
abbrev cL_condition : ByteArray := method_7_code
def yL_condition : MethodName := ⟨RL, "condition", "(LSegmentYard;ZIII[J)I"⟩
abbrev cL_put : ByteArray := method_8_code
def yL_put : MethodName := ⟨RL, "put", "(LSegmentYard;III[J)I"⟩
abbrev cL_area : ByteArray := method_9_code
def yL_area : MethodName := ⟨RL, "area", "(LSegmentYard;II[J)I"⟩
abbrev cL_get : ByteArray := method_10_code
def yL_get : MethodName := ⟨RL, "get", "(LSegmentYard;IIZ[J)I"⟩
abbrev cL_insert : ByteArray := method_11_code
def yL_insert : MethodName := ⟨RL, "insert", "(LSegmentYard;I[J)I"⟩
abbrev cL_replace : ByteArray := method_12_code
def yL_replace : MethodName := ⟨RL, "replace", "(LSegmentYard;I[J)I"⟩
abbrev cL_delete : ByteArray := method_13_code
def yL_delete : MethodName := ⟨RL, "delete", "(LSegmentYard;I[J)I"⟩
abbrev cL_count : ByteArray := method_14_code
def yL_count : MethodName := ⟨RL, "count", "(LSegmentYard;I[J)I"⟩
abbrev cL_rowAt : ByteArray := method_15_code
def yL_rowAt : MethodName := ⟨RL, "rowAt", "(LSegmentYard;II[J)I"⟩
abbrev cL_rowAnew : ByteArray := method_16_code
def yL_rowAnew : MethodName := ⟨RL, "rowAnew", "(LSegmentYard;II[J)I"⟩
abbrev cL_fieldAt : ByteArray := method_17_code
def yL_fieldAt : MethodName := ⟨RL, "fieldAt", "(LSegmentYard;III[J)I"⟩
abbrev cL_at : ByteArray := method_18_code
def yL_at : MethodName := ⟨RL, "at", "(LSegmentYard;I[J)I"⟩
abbrev cL_ahead : ByteArray := method_19_code
def yL_ahead : MethodName := ⟨RL, "ahead", "(LSegmentYard;I[J)I"⟩
abbrev cL_parent : ByteArray := method_20_code
def yL_parent : MethodName := ⟨RL, "parent", "(LSegmentYard;I[J)I"⟩
abbrev cL_holds : ByteArray := method_21_code
def yL_holds : MethodName := ⟨RL, "holds", "(LSegmentYard;I[J)I"⟩
abbrev cL_keys : ByteArray := method_22_code
def yL_keys : MethodName := ⟨RL, "keys", "(LSegmentYard;I[J)I"⟩
abbrev cL_second : ByteArray := method_23_code
def yL_second : MethodName := ⟨RL, "second", "(LSegmentYard;I[J)I"⟩
abbrev cL_tied : ByteArray := method_24_code
def yL_tied : MethodName := ⟨RL, "tied", "(LSegmentYard;I[J)I"⟩
abbrev cL_law : ByteArray := code
def yL_law : MethodName := ⟨RL, "law", "([I)Z"⟩
end
section
theorem dX0_init_0 : decode cX0_init 0 = .ok (.aload_n 0, 1) := by decide +kernel
theorem dX0_init_1 : decode cX0_init 1 = .ok (.invokespecial 3, 3) := by decide +kernel
theorem dX0_init_4 : decode cX0_init 4 = .ok (.aload_n 0, 1) := by decide +kernel
theorem dX0_init_5 : decode cX0_init 5 = .ok (.iconst 0, 1) := by decide +kernel
theorem dX0_init_6 : decode cX0_init 6 = .ok (.putfield 9, 3) := by decide +kernel
theorem dX0_init_9 : decode cX0_init 9 = .ok (.aload_n 0, 1) := by decide +kernel
theorem dX0_init_10 : decode cX0_init 10 = .ok (.iconst 4, 1) := by decide +kernel
theorem dX0_init_11 : decode cX0_init 11 = .ok (.newarray .int, 2) := by decide +kernel
theorem dX0_init_13 : decode cX0_init 13 = .ok (.putfield 15, 3) := by decide +kernel
theorem dX0_init_16 : decode cX0_init 16 = .ok (.aload_n 0, 1) := by decide +kernel
theorem dX0_init_17 : decode cX0_init 17 = .ok (.iconst 4, 1) := by decide +kernel
theorem dX0_init_18 : decode cX0_init 18 = .ok (.newarray .int, 2) := by decide +kernel
theorem dX0_init_20 : decode cX0_init 20 = .ok (.putfield 19, 3) := by decide +kernel
theorem dX0_init_23 : decode cX0_init 23 = .ok (.aload_n 0, 1) := by decide +kernel
theorem dX0_init_24 : decode cX0_init 24 = .ok (.iconst 4, 1) := by decide +kernel
theorem dX0_init_25 : decode cX0_init 25 = .ok (.newarray .int, 2) := by decide +kernel
theorem dX0_init_27 : decode cX0_init 27 = .ok (.putfield 22, 3) := by decide +kernel
theorem dX0_init_30 : decode cX0_init 30 = .ok (.aload_n 0, 1) := by decide +kernel
theorem dX0_init_31 : decode cX0_init 31 = .ok (.bipush 12, 2) := by decide +kernel
theorem dX0_init_33 : decode cX0_init 33 = .ok (.newarray .boolean, 2) := by decide +kernel
theorem dX0_init_35 : decode cX0_init 35 = .ok (.putfield 25, 3) := by decide +kernel
theorem dX0_init_38 : decode cX0_init 38 = .ok (.aload_n 0, 1) := by decide +kernel
theorem dX0_init_39 : decode cX0_init 39 = .ok (.bipush 12, 2) := by decide +kernel
theorem dX0_init_41 : decode cX0_init 41 = .ok (.newarray .int, 2) := by decide +kernel
theorem dX0_init_43 : decode cX0_init 43 = .ok (.putfield 29, 3) := by decide +kernel
theorem dX0_init_46 : decode cX0_init 46 = .ok (.aload_n 0, 1) := by decide +kernel
theorem dX0_init_47 : decode cX0_init 47 = .ok (.bipush 12, 2) := by decide +kernel
theorem dX0_init_49 : decode cX0_init 49 = .ok (.newarray .int, 2) := by decide +kernel
theorem dX0_init_51 : decode cX0_init 51 = .ok (.putfield 32, 3) := by decide +kernel
theorem dX0_init_54 : decode cX0_init 54 = .ok (.aload_n 0, 1) := by decide +kernel
theorem dX0_init_55 : decode cX0_init 55 = .ok (.bipush 12, 2) := by decide +kernel
theorem dX0_init_57 : decode cX0_init 57 = .ok (.newarray .int, 2) := by decide +kernel
theorem dX0_init_59 : decode cX0_init 59 = .ok (.putfield 35, 3) := by decide +kernel
theorem dX0_init_62 : decode cX0_init 62 = .ok (.return_, 1) := by decide +kernel
theorem dX0_isListed_0 : decode cX0_isListed 0 = .ok (.iload_n 1, 1) := by decide +kernel
theorem dX0_isListed_1 : decode cX0_isListed 1 = .ok (.ifCond .lt 20, 3) := by decide +kernel
theorem dX0_isListed_4 : decode cX0_isListed 4 = .ok (.iload_n 1, 1) := by decide +kernel
theorem dX0_isListed_5 : decode cX0_isListed 5 = .ok (.aload_n 0, 1) := by decide +kernel
theorem dX0_isListed_6 : decode cX0_isListed 6 = .ok (.getfield 9, 3) := by decide +kernel
theorem dX0_isListed_9 : decode cX0_isListed 9 = .ok (.if_icmp .ge 12, 3) := by decide +kernel
theorem dX0_isListed_12 : decode cX0_isListed 12 = .ok (.iload_n 1, 1) := by decide +kernel
theorem dX0_isListed_13 : decode cX0_isListed 13 = .ok (.iconst 4, 1) := by decide +kernel
theorem dX0_isListed_14 : decode cX0_isListed 14 = .ok (.if_icmp .ge 7, 3) := by decide +kernel
theorem dX0_isListed_17 : decode cX0_isListed 17 = .ok (.iconst 1, 1) := by decide +kernel
theorem dX0_isListed_18 : decode cX0_isListed 18 = .ok (.goto 4, 3) := by decide +kernel
theorem dX0_isListed_21 : decode cX0_isListed 21 = .ok (.iconst 0, 1) := by decide +kernel
theorem dX0_isListed_22 : decode cX0_isListed 22 = .ok (.ireturn, 1) := by decide +kernel
theorem dX0_size_0 : decode cX0_size 0 = .ok (.aload_n 0, 1) := by decide +kernel
theorem dX0_size_1 : decode cX0_size 1 = .ok (.getfield 9, 3) := by decide +kernel
theorem dX0_size_4 : decode cX0_size 4 = .ok (.ireturn, 1) := by decide +kernel
theorem dX0_list_0 : decode cX0_list 0 = .ok (.aload_n 0, 1) := by decide +kernel
theorem dX0_list_1 : decode cX0_list 1 = .ok (.getfield 9, 3) := by decide +kernel
theorem dX0_list_4 : decode cX0_list 4 = .ok (.iconst 4, 1) := by decide +kernel
theorem dX0_list_5 : decode cX0_list 5 = .ok (.if_icmp .ge 43, 3) := by decide +kernel
theorem dX0_list_8 : decode cX0_list 8 = .ok (.aload_n 0, 1) := by decide +kernel
theorem dX0_list_9 : decode cX0_list 9 = .ok (.getfield 15, 3) := by decide +kernel
theorem dX0_list_12 : decode cX0_list 12 = .ok (.aload_n 0, 1) := by decide +kernel
theorem dX0_list_13 : decode cX0_list 13 = .ok (.getfield 9, 3) := by decide +kernel
theorem dX0_list_16 : decode cX0_list 16 = .ok (.iload_n 1, 1) := by decide +kernel
theorem dX0_list_17 : decode cX0_list 17 = .ok (.iastore, 1) := by decide +kernel
theorem dX0_list_18 : decode cX0_list 18 = .ok (.aload_n 0, 1) := by decide +kernel
theorem dX0_list_19 : decode cX0_list 19 = .ok (.getfield 19, 3) := by decide +kernel
theorem dX0_list_22 : decode cX0_list 22 = .ok (.aload_n 0, 1) := by decide +kernel
theorem dX0_list_23 : decode cX0_list 23 = .ok (.getfield 9, 3) := by decide +kernel
theorem dX0_list_26 : decode cX0_list 26 = .ok (.iload_n 2, 1) := by decide +kernel
theorem dX0_list_27 : decode cX0_list 27 = .ok (.iastore, 1) := by decide +kernel
theorem dX0_list_28 : decode cX0_list 28 = .ok (.aload_n 0, 1) := by decide +kernel
theorem dX0_list_29 : decode cX0_list 29 = .ok (.getfield 22, 3) := by decide +kernel
theorem dX0_list_32 : decode cX0_list 32 = .ok (.aload_n 0, 1) := by decide +kernel
theorem dX0_list_33 : decode cX0_list 33 = .ok (.getfield 9, 3) := by decide +kernel
theorem dX0_list_36 : decode cX0_list 36 = .ok (.iconst 0, 1) := by decide +kernel
theorem dX0_list_37 : decode cX0_list 37 = .ok (.iastore, 1) := by decide +kernel
theorem dX0_list_38 : decode cX0_list 38 = .ok (.aload_n 0, 1) := by decide +kernel
theorem dX0_list_39 : decode cX0_list 39 = .ok (.dup, 1) := by decide +kernel
theorem dX0_list_40 : decode cX0_list 40 = .ok (.getfield 9, 3) := by decide +kernel
theorem dX0_list_43 : decode cX0_list 43 = .ok (.iconst 1, 1) := by decide +kernel
theorem dX0_list_44 : decode cX0_list 44 = .ok (.iadd, 1) := by decide +kernel
theorem dX0_list_45 : decode cX0_list 45 = .ok (.putfield 9, 3) := by decide +kernel
theorem dX0_list_48 : decode cX0_list 48 = .ok (.aload_n 0, 1) := by decide +kernel
theorem dX0_list_49 : decode cX0_list 49 = .ok (.getfield 9, 3) := by decide +kernel
theorem dX0_list_52 : decode cX0_list 52 = .ok (.ireturn, 1) := by decide +kernel
theorem dX0_addCondition_0 : decode cX0_addCondition 0 = .ok (.aload_n 0, 1) := by decide +kernel
theorem dX0_addCondition_1 : decode cX0_addCondition 1 = .ok (.getfield 9, 3) := by decide +kernel
theorem dX0_addCondition_4 : decode cX0_addCondition 4 = .ok (.iconst 1, 1) := by decide +kernel
theorem dX0_addCondition_5 : decode cX0_addCondition 5 = .ok (.isub, 1) := by decide +kernel
theorem dX0_addCondition_6 : decode cX0_addCondition 6 = .ok (.istore 5, 2) := by decide +kernel
theorem dX0_addCondition_8 : decode cX0_addCondition 8 = .ok (.aload_n 0, 1) := by decide +kernel
theorem dX0_addCondition_9 : decode cX0_addCondition 9 = .ok (.iload 5, 2) := by decide +kernel
theorem dX0_addCondition_11 : decode cX0_addCondition 11 = .ok (.invokevirtual 38, 3) := by decide +kernel
theorem dX0_addCondition_14 : decode cX0_addCondition 14 = .ok (.ifCond .eq 14, 3) := by decide +kernel
theorem dX0_addCondition_17 : decode cX0_addCondition 17 = .ok (.aload_n 0, 1) := by decide +kernel
theorem dX0_addCondition_18 : decode cX0_addCondition 18 = .ok (.getfield 22, 3) := by decide +kernel
theorem dX0_addCondition_21 : decode cX0_addCondition 21 = .ok (.iload 5, 2) := by decide +kernel
theorem dX0_addCondition_23 : decode cX0_addCondition 23 = .ok (.iaload, 1) := by decide +kernel
theorem dX0_addCondition_24 : decode cX0_addCondition 24 = .ok (.iconst 3, 1) := by decide +kernel
theorem dX0_addCondition_25 : decode cX0_addCondition 25 = .ok (.if_icmp .lt 5, 3) := by decide +kernel
theorem dX0_addCondition_28 : decode cX0_addCondition 28 = .ok (.iconst 0, 1) := by decide +kernel
theorem dX0_addCondition_29 : decode cX0_addCondition 29 = .ok (.ireturn, 1) := by decide +kernel
theorem dX0_addCondition_30 : decode cX0_addCondition 30 = .ok (.iload 5, 2) := by decide +kernel
theorem dX0_addCondition_32 : decode cX0_addCondition 32 = .ok (.iconst 3, 1) := by decide +kernel
theorem dX0_addCondition_33 : decode cX0_addCondition 33 = .ok (.imul, 1) := by decide +kernel
theorem dX0_addCondition_34 : decode cX0_addCondition 34 = .ok (.aload_n 0, 1) := by decide +kernel
theorem dX0_addCondition_35 : decode cX0_addCondition 35 = .ok (.getfield 22, 3) := by decide +kernel
theorem dX0_addCondition_38 : decode cX0_addCondition 38 = .ok (.iload 5, 2) := by decide +kernel
theorem dX0_addCondition_40 : decode cX0_addCondition 40 = .ok (.iaload, 1) := by decide +kernel
theorem dX0_addCondition_41 : decode cX0_addCondition 41 = .ok (.iadd, 1) := by decide +kernel
theorem dX0_addCondition_42 : decode cX0_addCondition 42 = .ok (.istore 6, 2) := by decide +kernel
theorem dX0_addCondition_44 : decode cX0_addCondition 44 = .ok (.aload_n 0, 1) := by decide +kernel
theorem dX0_addCondition_45 : decode cX0_addCondition 45 = .ok (.getfield 25, 3) := by decide +kernel
theorem dX0_addCondition_48 : decode cX0_addCondition 48 = .ok (.iload 6, 2) := by decide +kernel
theorem dX0_addCondition_50 : decode cX0_addCondition 50 = .ok (.iload_n 1, 1) := by decide +kernel
theorem dX0_addCondition_51 : decode cX0_addCondition 51 = .ok (.bastore, 1) := by decide +kernel
theorem dX0_addCondition_52 : decode cX0_addCondition 52 = .ok (.aload_n 0, 1) := by decide +kernel
theorem dX0_addCondition_53 : decode cX0_addCondition 53 = .ok (.getfield 29, 3) := by decide +kernel
theorem dX0_addCondition_56 : decode cX0_addCondition 56 = .ok (.iload 6, 2) := by decide +kernel
theorem dX0_addCondition_58 : decode cX0_addCondition 58 = .ok (.iload_n 2, 1) := by decide +kernel
theorem dX0_addCondition_59 : decode cX0_addCondition 59 = .ok (.iastore, 1) := by decide +kernel
theorem dX0_addCondition_60 : decode cX0_addCondition 60 = .ok (.aload_n 0, 1) := by decide +kernel
theorem dX0_addCondition_61 : decode cX0_addCondition 61 = .ok (.getfield 32, 3) := by decide +kernel
theorem dX0_addCondition_64 : decode cX0_addCondition 64 = .ok (.iload 6, 2) := by decide +kernel
theorem dX0_addCondition_66 : decode cX0_addCondition 66 = .ok (.iload_n 3, 1) := by decide +kernel
theorem dX0_addCondition_67 : decode cX0_addCondition 67 = .ok (.iastore, 1) := by decide +kernel
theorem dX0_addCondition_68 : decode cX0_addCondition 68 = .ok (.aload_n 0, 1) := by decide +kernel
theorem dX0_addCondition_69 : decode cX0_addCondition 69 = .ok (.getfield 35, 3) := by decide +kernel
theorem dX0_addCondition_72 : decode cX0_addCondition 72 = .ok (.iload 6, 2) := by decide +kernel
theorem dX0_addCondition_74 : decode cX0_addCondition 74 = .ok (.iload 4, 2) := by decide +kernel
theorem dX0_addCondition_76 : decode cX0_addCondition 76 = .ok (.iastore, 1) := by decide +kernel
theorem dX0_addCondition_77 : decode cX0_addCondition 77 = .ok (.aload_n 0, 1) := by decide +kernel
theorem dX0_addCondition_78 : decode cX0_addCondition 78 = .ok (.getfield 22, 3) := by decide +kernel
theorem dX0_addCondition_81 : decode cX0_addCondition 81 = .ok (.iload 5, 2) := by decide +kernel
theorem dX0_addCondition_83 : decode cX0_addCondition 83 = .ok (.dup2, 1) := by decide +kernel
theorem dX0_addCondition_84 : decode cX0_addCondition 84 = .ok (.iaload, 1) := by decide +kernel
theorem dX0_addCondition_85 : decode cX0_addCondition 85 = .ok (.iconst 1, 1) := by decide +kernel
theorem dX0_addCondition_86 : decode cX0_addCondition 86 = .ok (.iadd, 1) := by decide +kernel
theorem dX0_addCondition_87 : decode cX0_addCondition 87 = .ok (.iastore, 1) := by decide +kernel
theorem dX0_addCondition_88 : decode cX0_addCondition 88 = .ok (.aload_n 0, 1) := by decide +kernel
theorem dX0_addCondition_89 : decode cX0_addCondition 89 = .ok (.getfield 22, 3) := by decide +kernel
theorem dX0_addCondition_92 : decode cX0_addCondition 92 = .ok (.iload 5, 2) := by decide +kernel
theorem dX0_addCondition_94 : decode cX0_addCondition 94 = .ok (.iaload, 1) := by decide +kernel
theorem dX0_addCondition_95 : decode cX0_addCondition 95 = .ok (.ireturn, 1) := by decide +kernel
theorem dX0_drop_0 : decode cX0_drop 0 = .ok (.aload_n 0, 1) := by decide +kernel
theorem dX0_drop_1 : decode cX0_drop 1 = .ok (.getfield 9, 3) := by decide +kernel
theorem dX0_drop_4 : decode cX0_drop 4 = .ok (.istore_n 1, 1) := by decide +kernel
theorem dX0_drop_5 : decode cX0_drop 5 = .ok (.aload_n 0, 1) := by decide +kernel
theorem dX0_drop_6 : decode cX0_drop 6 = .ok (.iconst 0, 1) := by decide +kernel
theorem dX0_drop_7 : decode cX0_drop 7 = .ok (.putfield 9, 3) := by decide +kernel
theorem dX0_drop_10 : decode cX0_drop 10 = .ok (.iload_n 1, 1) := by decide +kernel
theorem dX0_drop_11 : decode cX0_drop 11 = .ok (.ireturn, 1) := by decide +kernel
theorem dX0_typeOf_0 : decode cX0_typeOf 0 = .ok (.aload_n 0, 1) := by decide +kernel
theorem dX0_typeOf_1 : decode cX0_typeOf 1 = .ok (.iload_n 1, 1) := by decide +kernel
theorem dX0_typeOf_2 : decode cX0_typeOf 2 = .ok (.invokevirtual 38, 3) := by decide +kernel
theorem dX0_typeOf_5 : decode cX0_typeOf 5 = .ok (.ifCond .eq 12, 3) := by decide +kernel
theorem dX0_typeOf_8 : decode cX0_typeOf 8 = .ok (.aload_n 0, 1) := by decide +kernel
theorem dX0_typeOf_9 : decode cX0_typeOf 9 = .ok (.getfield 15, 3) := by decide +kernel
theorem dX0_typeOf_12 : decode cX0_typeOf 12 = .ok (.iload_n 1, 1) := by decide +kernel
theorem dX0_typeOf_13 : decode cX0_typeOf 13 = .ok (.iaload, 1) := by decide +kernel
theorem dX0_typeOf_14 : decode cX0_typeOf 14 = .ok (.goto 4, 3) := by decide +kernel
theorem dX0_typeOf_17 : decode cX0_typeOf 17 = .ok (.iconst (-1), 1) := by decide +kernel
theorem dX0_typeOf_18 : decode cX0_typeOf 18 = .ok (.ireturn, 1) := by decide +kernel
theorem dX0_hasCode_0 : decode cX0_hasCode 0 = .ok (.aload_n 0, 1) := by decide +kernel
theorem dX0_hasCode_1 : decode cX0_hasCode 1 = .ok (.iload_n 1, 1) := by decide +kernel
theorem dX0_hasCode_2 : decode cX0_hasCode 2 = .ok (.invokevirtual 38, 3) := by decide +kernel
theorem dX0_hasCode_5 : decode cX0_hasCode 5 = .ok (.ifCond .eq 18, 3) := by decide +kernel
theorem dX0_hasCode_8 : decode cX0_hasCode 8 = .ok (.aload_n 0, 1) := by decide +kernel
theorem dX0_hasCode_9 : decode cX0_hasCode 9 = .ok (.getfield 19, 3) := by decide +kernel
theorem dX0_hasCode_12 : decode cX0_hasCode 12 = .ok (.iload_n 1, 1) := by decide +kernel
theorem dX0_hasCode_13 : decode cX0_hasCode 13 = .ok (.iaload, 1) := by decide +kernel
theorem dX0_hasCode_14 : decode cX0_hasCode 14 = .ok (.iload_n 2, 1) := by decide +kernel
theorem dX0_hasCode_15 : decode cX0_hasCode 15 = .ok (.iand, 1) := by decide +kernel
theorem dX0_hasCode_16 : decode cX0_hasCode 16 = .ok (.ifCond .eq 7, 3) := by decide +kernel
theorem dX0_hasCode_19 : decode cX0_hasCode 19 = .ok (.iconst 1, 1) := by decide +kernel
theorem dX0_hasCode_20 : decode cX0_hasCode 20 = .ok (.goto 4, 3) := by decide +kernel
theorem dX0_hasCode_23 : decode cX0_hasCode 23 = .ok (.iconst 0, 1) := by decide +kernel
theorem dX0_hasCode_24 : decode cX0_hasCode 24 = .ok (.ireturn, 1) := by decide +kernel
theorem dX0_conditionsOf_0 : decode cX0_conditionsOf 0 = .ok (.iload_n 1, 1) := by decide +kernel
theorem dX0_conditionsOf_1 : decode cX0_conditionsOf 1 = .ok (.ifCond .lt 25, 3) := by decide +kernel
theorem dX0_conditionsOf_4 : decode cX0_conditionsOf 4 = .ok (.iload_n 1, 1) := by decide +kernel
theorem dX0_conditionsOf_5 : decode cX0_conditionsOf 5 = .ok (.aload_n 0, 1) := by decide +kernel
theorem dX0_conditionsOf_6 : decode cX0_conditionsOf 6 = .ok (.getfield 9, 3) := by decide +kernel
theorem dX0_conditionsOf_9 : decode cX0_conditionsOf 9 = .ok (.if_icmp .ge 17, 3) := by decide +kernel
theorem dX0_conditionsOf_12 : decode cX0_conditionsOf 12 = .ok (.iload_n 1, 1) := by decide +kernel
theorem dX0_conditionsOf_13 : decode cX0_conditionsOf 13 = .ok (.iconst 4, 1) := by decide +kernel
theorem dX0_conditionsOf_14 : decode cX0_conditionsOf 14 = .ok (.if_icmp .ge 12, 3) := by decide +kernel
theorem dX0_conditionsOf_17 : decode cX0_conditionsOf 17 = .ok (.aload_n 0, 1) := by decide +kernel
theorem dX0_conditionsOf_18 : decode cX0_conditionsOf 18 = .ok (.getfield 22, 3) := by decide +kernel
theorem dX0_conditionsOf_21 : decode cX0_conditionsOf 21 = .ok (.iload_n 1, 1) := by decide +kernel
theorem dX0_conditionsOf_22 : decode cX0_conditionsOf 22 = .ok (.iaload, 1) := by decide +kernel
theorem dX0_conditionsOf_23 : decode cX0_conditionsOf 23 = .ok (.goto 4, 3) := by decide +kernel
theorem dX0_conditionsOf_26 : decode cX0_conditionsOf 26 = .ok (.iconst 0, 1) := by decide +kernel
theorem dX0_conditionsOf_27 : decode cX0_conditionsOf 27 = .ok (.ireturn, 1) := by decide +kernel
theorem dX0_firstNew_0 : decode cX0_firstNew 0 = .ok (.iconst 0, 1) := by decide +kernel
theorem dX0_firstNew_1 : decode cX0_firstNew 1 = .ok (.istore_n 1, 1) := by decide +kernel
theorem dX0_firstNew_2 : decode cX0_firstNew 2 = .ok (.iload_n 1, 1) := by decide +kernel
theorem dX0_firstNew_3 : decode cX0_firstNew 3 = .ok (.aload_n 0, 1) := by decide +kernel
theorem dX0_firstNew_4 : decode cX0_firstNew 4 = .ok (.getfield 9, 3) := by decide +kernel
theorem dX0_firstNew_7 : decode cX0_firstNew 7 = .ok (.if_icmp .ge 20, 3) := by decide +kernel
theorem dX0_firstNew_10 : decode cX0_firstNew 10 = .ok (.aload_n 0, 1) := by decide +kernel
theorem dX0_firstNew_11 : decode cX0_firstNew 11 = .ok (.iload_n 1, 1) := by decide +kernel
theorem dX0_firstNew_12 : decode cX0_firstNew 12 = .ok (.iconst 1, 1) := by decide +kernel
theorem dX0_firstNew_13 : decode cX0_firstNew 13 = .ok (.invokevirtual 42, 3) := by decide +kernel
theorem dX0_firstNew_16 : decode cX0_firstNew 16 = .ok (.ifCond .eq 5, 3) := by decide +kernel
theorem dX0_firstNew_19 : decode cX0_firstNew 19 = .ok (.iload_n 1, 1) := by decide +kernel
theorem dX0_firstNew_20 : decode cX0_firstNew 20 = .ok (.ireturn, 1) := by decide +kernel
theorem dX0_firstNew_21 : decode cX0_firstNew 21 = .ok (.iinc 1 1, 3) := by decide +kernel
theorem dX0_firstNew_24 : decode cX0_firstNew 24 = .ok (.goto (-22), 3) := by decide +kernel
theorem dX0_firstNew_27 : decode cX0_firstNew 27 = .ok (.aload_n 0, 1) := by decide +kernel
theorem dX0_firstNew_28 : decode cX0_firstNew 28 = .ok (.getfield 9, 3) := by decide +kernel
theorem dX0_firstNew_31 : decode cX0_firstNew 31 = .ok (.iconst 1, 1) := by decide +kernel
theorem dX0_firstNew_32 : decode cX0_firstNew 32 = .ok (.isub, 1) := by decide +kernel
theorem dX0_firstNew_33 : decode cX0_firstNew 33 = .ok (.ireturn, 1) := by decide +kernel
theorem dX0_isFulfilled_0 : decode cX0_isFulfilled 0 = .ok (.iconst 1, 1) := by decide +kernel
theorem dX0_isFulfilled_1 : decode cX0_isFulfilled 1 = .ok (.istore 4, 2) := by decide +kernel
theorem dX0_isFulfilled_3 : decode cX0_isFulfilled 3 = .ok (.iload_n 1, 1) := by decide +kernel
theorem dX0_isFulfilled_4 : decode cX0_isFulfilled 4 = .ok (.iconst 3, 1) := by decide +kernel
theorem dX0_isFulfilled_5 : decode cX0_isFulfilled 5 = .ok (.imul, 1) := by decide +kernel
theorem dX0_isFulfilled_6 : decode cX0_isFulfilled 6 = .ok (.istore 5, 2) := by decide +kernel
theorem dX0_isFulfilled_8 : decode cX0_isFulfilled 8 = .ok (.iconst 0, 1) := by decide +kernel
theorem dX0_isFulfilled_9 : decode cX0_isFulfilled 9 = .ok (.istore 6, 2) := by decide +kernel
theorem dX0_isFulfilled_11 : decode cX0_isFulfilled 11 = .ok (.iload 6, 2) := by decide +kernel
theorem dX0_isFulfilled_13 : decode cX0_isFulfilled 13 = .ok (.aload_n 0, 1) := by decide +kernel
theorem dX0_isFulfilled_14 : decode cX0_isFulfilled 14 = .ok (.iload_n 1, 1) := by decide +kernel
theorem dX0_isFulfilled_15 : decode cX0_isFulfilled 15 = .ok (.invokevirtual 46, 3) := by decide +kernel
theorem dX0_isFulfilled_18 : decode cX0_isFulfilled 18 = .ok (.if_icmp .ge 100, 3) := by decide +kernel
theorem dX0_isFulfilled_21 : decode cX0_isFulfilled 21 = .ok (.iload 6, 2) := by decide +kernel
theorem dX0_isFulfilled_23 : decode cX0_isFulfilled 23 = .ok (.iconst 3, 1) := by decide +kernel
theorem dX0_isFulfilled_24 : decode cX0_isFulfilled 24 = .ok (.if_icmp .ge 94, 3) := by decide +kernel
theorem dX0_isFulfilled_27 : decode cX0_isFulfilled 27 = .ok (.iload 6, 2) := by decide +kernel
theorem dX0_isFulfilled_29 : decode cX0_isFulfilled 29 = .ok (.ifCond .le 26, 3) := by decide +kernel
theorem dX0_isFulfilled_32 : decode cX0_isFulfilled 32 = .ok (.aload_n 0, 1) := by decide +kernel
theorem dX0_isFulfilled_33 : decode cX0_isFulfilled 33 = .ok (.getfield 25, 3) := by decide +kernel
theorem dX0_isFulfilled_36 : decode cX0_isFulfilled 36 = .ok (.iload 5, 2) := by decide +kernel
theorem dX0_isFulfilled_38 : decode cX0_isFulfilled 38 = .ok (.iload 6, 2) := by decide +kernel
theorem dX0_isFulfilled_40 : decode cX0_isFulfilled 40 = .ok (.iadd, 1) := by decide +kernel
theorem dX0_isFulfilled_41 : decode cX0_isFulfilled 41 = .ok (.baload, 1) := by decide +kernel
theorem dX0_isFulfilled_42 : decode cX0_isFulfilled 42 = .ok (.ifCond .eq 13, 3) := by decide +kernel
theorem dX0_isFulfilled_45 : decode cX0_isFulfilled 45 = .ok (.iload 4, 2) := by decide +kernel
theorem dX0_isFulfilled_47 : decode cX0_isFulfilled 47 = .ok (.ifCond .eq 5, 3) := by decide +kernel
theorem dX0_isFulfilled_50 : decode cX0_isFulfilled 50 = .ok (.iconst 1, 1) := by decide +kernel
theorem dX0_isFulfilled_51 : decode cX0_isFulfilled 51 = .ok (.ireturn, 1) := by decide +kernel
theorem dX0_isFulfilled_52 : decode cX0_isFulfilled 52 = .ok (.iconst 1, 1) := by decide +kernel
theorem dX0_isFulfilled_53 : decode cX0_isFulfilled 53 = .ok (.istore 4, 2) := by decide +kernel
theorem dX0_isFulfilled_55 : decode cX0_isFulfilled 55 = .ok (.aload_n 2, 1) := by decide +kernel
theorem dX0_isFulfilled_56 : decode cX0_isFulfilled 56 = .ok (.iload_n 3, 1) := by decide +kernel
theorem dX0_isFulfilled_57 : decode cX0_isFulfilled 57 = .ok (.aload_n 0, 1) := by decide +kernel
theorem dX0_isFulfilled_58 : decode cX0_isFulfilled 58 = .ok (.getfield 29, 3) := by decide +kernel
theorem dX0_isFulfilled_61 : decode cX0_isFulfilled 61 = .ok (.iload 5, 2) := by decide +kernel
theorem dX0_isFulfilled_63 : decode cX0_isFulfilled 63 = .ok (.iload 6, 2) := by decide +kernel
theorem dX0_isFulfilled_65 : decode cX0_isFulfilled 65 = .ok (.iadd, 1) := by decide +kernel
theorem dX0_isFulfilled_66 : decode cX0_isFulfilled 66 = .ok (.iaload, 1) := by decide +kernel
theorem dX0_isFulfilled_67 : decode cX0_isFulfilled 67 = .ok (.invokevirtual 50, 3) := by decide +kernel
theorem dX0_isFulfilled_70 : decode cX0_isFulfilled 70 = .ok (.istore 7, 2) := by decide +kernel
theorem dX0_isFulfilled_72 : decode cX0_isFulfilled 72 = .ok (.iload 4, 2) := by decide +kernel
theorem dX0_isFulfilled_74 : decode cX0_isFulfilled 74 = .ok (.ifCond .eq 35, 3) := by decide +kernel
theorem dX0_isFulfilled_77 : decode cX0_isFulfilled 77 = .ok (.aload_n 0, 1) := by decide +kernel
theorem dX0_isFulfilled_78 : decode cX0_isFulfilled 78 = .ok (.getfield 32, 3) := by decide +kernel
theorem dX0_isFulfilled_81 : decode cX0_isFulfilled 81 = .ok (.iload 5, 2) := by decide +kernel
theorem dX0_isFulfilled_83 : decode cX0_isFulfilled 83 = .ok (.iload 6, 2) := by decide +kernel
theorem dX0_isFulfilled_85 : decode cX0_isFulfilled 85 = .ok (.iadd, 1) := by decide +kernel
theorem dX0_isFulfilled_86 : decode cX0_isFulfilled 86 = .ok (.iaload, 1) := by decide +kernel
theorem dX0_isFulfilled_87 : decode cX0_isFulfilled 87 = .ok (.iload 7, 2) := by decide +kernel
theorem dX0_isFulfilled_89 : decode cX0_isFulfilled 89 = .ok (.aload_n 0, 1) := by decide +kernel
theorem dX0_isFulfilled_90 : decode cX0_isFulfilled 90 = .ok (.getfield 35, 3) := by decide +kernel
theorem dX0_isFulfilled_93 : decode cX0_isFulfilled 93 = .ok (.iload 5, 2) := by decide +kernel
theorem dX0_isFulfilled_95 : decode cX0_isFulfilled 95 = .ok (.iload 6, 2) := by decide +kernel
theorem dX0_isFulfilled_97 : decode cX0_isFulfilled 97 = .ok (.iadd, 1) := by decide +kernel
theorem dX0_isFulfilled_98 : decode cX0_isFulfilled 98 = .ok (.iaload, 1) := by decide +kernel
theorem dX0_isFulfilled_99 : decode cX0_isFulfilled 99 = .ok (.invokestatic 56, 3) := by decide +kernel
theorem dX0_isFulfilled_102 : decode cX0_isFulfilled 102 = .ok (.ifCond .eq 7, 3) := by decide +kernel
theorem dX0_isFulfilled_105 : decode cX0_isFulfilled 105 = .ok (.iconst 1, 1) := by decide +kernel
theorem dX0_isFulfilled_106 : decode cX0_isFulfilled 106 = .ok (.goto 4, 3) := by decide +kernel
theorem dX0_isFulfilled_109 : decode cX0_isFulfilled 109 = .ok (.iconst 0, 1) := by decide +kernel
theorem dX0_isFulfilled_110 : decode cX0_isFulfilled 110 = .ok (.istore 4, 2) := by decide +kernel
theorem dX0_isFulfilled_112 : decode cX0_isFulfilled 112 = .ok (.iinc 6 1, 3) := by decide +kernel
theorem dX0_isFulfilled_115 : decode cX0_isFulfilled 115 = .ok (.goto (-104), 3) := by decide +kernel
theorem dX0_isFulfilled_118 : decode cX0_isFulfilled 118 = .ok (.iload 4, 2) := by decide +kernel
theorem dX0_isFulfilled_120 : decode cX0_isFulfilled 120 = .ok (.ireturn, 1) := by decide +kernel
theorem dX0_isMet_0 : decode cX0_isMet 0 = .ok (.iload_n 0, 1) := by decide +kernel
theorem dX0_isMet_1 : decode cX0_isMet 1 = .ok (.tableswitch 90 0 4 #[35, 46, 57, 68, 79], 35) := by decide +kernel
theorem dX0_isMet_36 : decode cX0_isMet 36 = .ok (.iload_n 1, 1) := by decide +kernel
theorem dX0_isMet_37 : decode cX0_isMet 37 = .ok (.iload_n 2, 1) := by decide +kernel
theorem dX0_isMet_38 : decode cX0_isMet 38 = .ok (.if_icmp .ne 7, 3) := by decide +kernel
theorem dX0_isMet_41 : decode cX0_isMet 41 = .ok (.iconst 1, 1) := by decide +kernel
theorem dX0_isMet_42 : decode cX0_isMet 42 = .ok (.goto 4, 3) := by decide +kernel
theorem dX0_isMet_45 : decode cX0_isMet 45 = .ok (.iconst 0, 1) := by decide +kernel
theorem dX0_isMet_46 : decode cX0_isMet 46 = .ok (.ireturn, 1) := by decide +kernel
theorem dX0_isMet_47 : decode cX0_isMet 47 = .ok (.iload_n 1, 1) := by decide +kernel
theorem dX0_isMet_48 : decode cX0_isMet 48 = .ok (.iload_n 2, 1) := by decide +kernel
theorem dX0_isMet_49 : decode cX0_isMet 49 = .ok (.if_icmp .eq 7, 3) := by decide +kernel
theorem dX0_isMet_52 : decode cX0_isMet 52 = .ok (.iconst 1, 1) := by decide +kernel
theorem dX0_isMet_53 : decode cX0_isMet 53 = .ok (.goto 4, 3) := by decide +kernel
theorem dX0_isMet_56 : decode cX0_isMet 56 = .ok (.iconst 0, 1) := by decide +kernel
theorem dX0_isMet_57 : decode cX0_isMet 57 = .ok (.ireturn, 1) := by decide +kernel
theorem dX0_isMet_58 : decode cX0_isMet 58 = .ok (.iload_n 1, 1) := by decide +kernel
theorem dX0_isMet_59 : decode cX0_isMet 59 = .ok (.iload_n 2, 1) := by decide +kernel
theorem dX0_isMet_60 : decode cX0_isMet 60 = .ok (.if_icmp .ge 7, 3) := by decide +kernel
theorem dX0_isMet_63 : decode cX0_isMet 63 = .ok (.iconst 1, 1) := by decide +kernel
theorem dX0_isMet_64 : decode cX0_isMet 64 = .ok (.goto 4, 3) := by decide +kernel
theorem dX0_isMet_67 : decode cX0_isMet 67 = .ok (.iconst 0, 1) := by decide +kernel
theorem dX0_isMet_68 : decode cX0_isMet 68 = .ok (.ireturn, 1) := by decide +kernel
theorem dX0_isMet_69 : decode cX0_isMet 69 = .ok (.iload_n 1, 1) := by decide +kernel
theorem dX0_isMet_70 : decode cX0_isMet 70 = .ok (.iload_n 2, 1) := by decide +kernel
theorem dX0_isMet_71 : decode cX0_isMet 71 = .ok (.if_icmp .gt 7, 3) := by decide +kernel
theorem dX0_isMet_74 : decode cX0_isMet 74 = .ok (.iconst 1, 1) := by decide +kernel
theorem dX0_isMet_75 : decode cX0_isMet 75 = .ok (.goto 4, 3) := by decide +kernel
theorem dX0_isMet_78 : decode cX0_isMet 78 = .ok (.iconst 0, 1) := by decide +kernel
theorem dX0_isMet_79 : decode cX0_isMet 79 = .ok (.ireturn, 1) := by decide +kernel
theorem dX0_isMet_80 : decode cX0_isMet 80 = .ok (.iload_n 1, 1) := by decide +kernel
theorem dX0_isMet_81 : decode cX0_isMet 81 = .ok (.iload_n 2, 1) := by decide +kernel
theorem dX0_isMet_82 : decode cX0_isMet 82 = .ok (.if_icmp .le 7, 3) := by decide +kernel
theorem dX0_isMet_85 : decode cX0_isMet 85 = .ok (.iconst 1, 1) := by decide +kernel
theorem dX0_isMet_86 : decode cX0_isMet 86 = .ok (.goto 4, 3) := by decide +kernel
theorem dX0_isMet_89 : decode cX0_isMet 89 = .ok (.iconst 0, 1) := by decide +kernel
theorem dX0_isMet_90 : decode cX0_isMet 90 = .ok (.ireturn, 1) := by decide +kernel
theorem dX0_isMet_91 : decode cX0_isMet 91 = .ok (.iload_n 1, 1) := by decide +kernel
theorem dX0_isMet_92 : decode cX0_isMet 92 = .ok (.iload_n 2, 1) := by decide +kernel
theorem dX0_isMet_93 : decode cX0_isMet 93 = .ok (.if_icmp .lt 7, 3) := by decide +kernel
theorem dX0_isMet_96 : decode cX0_isMet 96 = .ok (.iconst 1, 1) := by decide +kernel
theorem dX0_isMet_97 : decode cX0_isMet 97 = .ok (.goto 4, 3) := by decide +kernel
theorem dX0_isMet_100 : decode cX0_isMet 100 = .ok (.iconst 0, 1) := by decide +kernel
theorem dX0_isMet_101 : decode cX0_isMet 101 = .ok (.ireturn, 1) := by decide +kernel
theorem dX1_init_0 : decode cX1_init 0 = .ok (.aload_n 0, 1) := by decide +kernel
theorem dX1_init_1 : decode cX1_init 1 = .ok (.invokespecial 3, 3) := by decide +kernel
theorem dX1_init_4 : decode cX1_init 4 = .ok (.aload_n 0, 1) := by decide +kernel
theorem dX1_init_5 : decode cX1_init 5 = .ok (.iconst 0, 1) := by decide +kernel
theorem dX1_init_6 : decode cX1_init 6 = .ok (.putfield 9, 3) := by decide +kernel
theorem dX1_init_9 : decode cX1_init 9 = .ok (.aload_n 0, 1) := by decide +kernel
theorem dX1_init_10 : decode cX1_init 10 = .ok (.iconst 0, 1) := by decide +kernel
theorem dX1_init_11 : decode cX1_init 11 = .ok (.putfield 15, 3) := by decide +kernel
theorem dX1_init_14 : decode cX1_init 14 = .ok (.aload_n 0, 1) := by decide +kernel
theorem dX1_init_15 : decode cX1_init 15 = .ok (.iconst 4, 1) := by decide +kernel
theorem dX1_init_16 : decode cX1_init 16 = .ok (.newarray .int, 2) := by decide +kernel
theorem dX1_init_18 : decode cX1_init 18 = .ok (.putfield 19, 3) := by decide +kernel
theorem dX1_init_21 : decode cX1_init 21 = .ok (.aload_n 0, 1) := by decide +kernel
theorem dX1_init_22 : decode cX1_init 22 = .ok (.iconst 4, 1) := by decide +kernel
theorem dX1_init_23 : decode cX1_init 23 = .ok (.newarray .int, 2) := by decide +kernel
theorem dX1_init_25 : decode cX1_init 25 = .ok (.putfield 23, 3) := by decide +kernel
theorem dX1_init_28 : decode cX1_init 28 = .ok (.return_, 1) := by decide +kernel
theorem dX1_start_0 : decode cX1_start 0 = .ok (.aload_n 0, 1) := by decide +kernel
theorem dX1_start_1 : decode cX1_start 1 = .ok (.iconst 0, 1) := by decide +kernel
theorem dX1_start_2 : decode cX1_start 2 = .ok (.putfield 9, 3) := by decide +kernel
theorem dX1_start_5 : decode cX1_start 5 = .ok (.aload_n 0, 1) := by decide +kernel
theorem dX1_start_6 : decode cX1_start 6 = .ok (.iconst 0, 1) := by decide +kernel
theorem dX1_start_7 : decode cX1_start 7 = .ok (.putfield 15, 3) := by decide +kernel
theorem dX1_start_10 : decode cX1_start 10 = .ok (.return_, 1) := by decide +kernel
theorem dX1_refuse_0 : decode cX1_refuse 0 = .ok (.aload_n 0, 1) := by decide +kernel
theorem dX1_refuse_1 : decode cX1_refuse 1 = .ok (.iconst 1, 1) := by decide +kernel
theorem dX1_refuse_2 : decode cX1_refuse 2 = .ok (.putfield 15, 3) := by decide +kernel
theorem dX1_refuse_5 : decode cX1_refuse 5 = .ok (.return_, 1) := by decide +kernel
theorem dX1_isRefused_0 : decode cX1_isRefused 0 = .ok (.aload_n 0, 1) := by decide +kernel
theorem dX1_isRefused_1 : decode cX1_isRefused 1 = .ok (.getfield 15, 3) := by decide +kernel
theorem dX1_isRefused_4 : decode cX1_isRefused 4 = .ok (.ireturn, 1) := by decide +kernel
theorem dX1_size_0 : decode cX1_size 0 = .ok (.aload_n 0, 1) := by decide +kernel
theorem dX1_size_1 : decode cX1_size 1 = .ok (.getfield 9, 3) := by decide +kernel
theorem dX1_size_4 : decode cX1_size 4 = .ok (.ireturn, 1) := by decide +kernel
theorem dX1_add_0 : decode cX1_add 0 = .ok (.iconst 0, 1) := by decide +kernel
theorem dX1_add_1 : decode cX1_add 1 = .ok (.istore_n 3, 1) := by decide +kernel
theorem dX1_add_2 : decode cX1_add 2 = .ok (.iload_n 3, 1) := by decide +kernel
theorem dX1_add_3 : decode cX1_add 3 = .ok (.aload_n 0, 1) := by decide +kernel
theorem dX1_add_4 : decode cX1_add 4 = .ok (.getfield 9, 3) := by decide +kernel
theorem dX1_add_7 : decode cX1_add 7 = .ok (.if_icmp .ge 35, 3) := by decide +kernel
theorem dX1_add_10 : decode cX1_add 10 = .ok (.iload_n 3, 1) := by decide +kernel
theorem dX1_add_11 : decode cX1_add 11 = .ok (.iconst 4, 1) := by decide +kernel
theorem dX1_add_12 : decode cX1_add 12 = .ok (.if_icmp .ge 30, 3) := by decide +kernel
theorem dX1_add_15 : decode cX1_add 15 = .ok (.aload_n 0, 1) := by decide +kernel
theorem dX1_add_16 : decode cX1_add 16 = .ok (.getfield 19, 3) := by decide +kernel
theorem dX1_add_19 : decode cX1_add 19 = .ok (.iload_n 3, 1) := by decide +kernel
theorem dX1_add_20 : decode cX1_add 20 = .ok (.iaload, 1) := by decide +kernel
theorem dX1_add_21 : decode cX1_add 21 = .ok (.iload_n 1, 1) := by decide +kernel
theorem dX1_add_22 : decode cX1_add 22 = .ok (.if_icmp .ne 14, 3) := by decide +kernel
theorem dX1_add_25 : decode cX1_add 25 = .ok (.aload_n 0, 1) := by decide +kernel
theorem dX1_add_26 : decode cX1_add 26 = .ok (.getfield 23, 3) := by decide +kernel
theorem dX1_add_29 : decode cX1_add 29 = .ok (.iload_n 3, 1) := by decide +kernel
theorem dX1_add_30 : decode cX1_add 30 = .ok (.iaload, 1) := by decide +kernel
theorem dX1_add_31 : decode cX1_add 31 = .ok (.iload_n 2, 1) := by decide +kernel
theorem dX1_add_32 : decode cX1_add 32 = .ok (.if_icmp .ne 4, 3) := by decide +kernel
theorem dX1_add_35 : decode cX1_add 35 = .ok (.return_, 1) := by decide +kernel
theorem dX1_add_36 : decode cX1_add 36 = .ok (.iinc 3 1, 3) := by decide +kernel
theorem dX1_add_39 : decode cX1_add 39 = .ok (.goto (-37), 3) := by decide +kernel
theorem dX1_add_42 : decode cX1_add 42 = .ok (.aload_n 0, 1) := by decide +kernel
theorem dX1_add_43 : decode cX1_add 43 = .ok (.getfield 9, 3) := by decide +kernel
theorem dX1_add_46 : decode cX1_add 46 = .ok (.iconst 4, 1) := by decide +kernel
theorem dX1_add_47 : decode cX1_add 47 = .ok (.if_icmp .ge 33, 3) := by decide +kernel
theorem dX1_add_50 : decode cX1_add 50 = .ok (.aload_n 0, 1) := by decide +kernel
theorem dX1_add_51 : decode cX1_add 51 = .ok (.getfield 19, 3) := by decide +kernel
theorem dX1_add_54 : decode cX1_add 54 = .ok (.aload_n 0, 1) := by decide +kernel
theorem dX1_add_55 : decode cX1_add 55 = .ok (.getfield 9, 3) := by decide +kernel
theorem dX1_add_58 : decode cX1_add 58 = .ok (.iload_n 1, 1) := by decide +kernel
theorem dX1_add_59 : decode cX1_add 59 = .ok (.iastore, 1) := by decide +kernel
theorem dX1_add_60 : decode cX1_add 60 = .ok (.aload_n 0, 1) := by decide +kernel
theorem dX1_add_61 : decode cX1_add 61 = .ok (.getfield 23, 3) := by decide +kernel
theorem dX1_add_64 : decode cX1_add 64 = .ok (.aload_n 0, 1) := by decide +kernel
theorem dX1_add_65 : decode cX1_add 65 = .ok (.getfield 9, 3) := by decide +kernel
theorem dX1_add_68 : decode cX1_add 68 = .ok (.iload_n 2, 1) := by decide +kernel
theorem dX1_add_69 : decode cX1_add 69 = .ok (.iastore, 1) := by decide +kernel
theorem dX1_add_70 : decode cX1_add 70 = .ok (.aload_n 0, 1) := by decide +kernel
theorem dX1_add_71 : decode cX1_add 71 = .ok (.dup, 1) := by decide +kernel
theorem dX1_add_72 : decode cX1_add 72 = .ok (.getfield 9, 3) := by decide +kernel
theorem dX1_add_75 : decode cX1_add 75 = .ok (.iconst 1, 1) := by decide +kernel
theorem dX1_add_76 : decode cX1_add 76 = .ok (.iadd, 1) := by decide +kernel
theorem dX1_add_77 : decode cX1_add 77 = .ok (.putfield 9, 3) := by decide +kernel
theorem dX1_add_80 : decode cX1_add 80 = .ok (.return_, 1) := by decide +kernel
theorem dX1_typeOf_0 : decode cX1_typeOf 0 = .ok (.iload_n 1, 1) := by decide +kernel
theorem dX1_typeOf_1 : decode cX1_typeOf 1 = .ok (.ifCond .lt 20, 3) := by decide +kernel
theorem dX1_typeOf_4 : decode cX1_typeOf 4 = .ok (.iload_n 1, 1) := by decide +kernel
theorem dX1_typeOf_5 : decode cX1_typeOf 5 = .ok (.aload_n 0, 1) := by decide +kernel
theorem dX1_typeOf_6 : decode cX1_typeOf 6 = .ok (.getfield 9, 3) := by decide +kernel
theorem dX1_typeOf_9 : decode cX1_typeOf 9 = .ok (.if_icmp .ge 12, 3) := by decide +kernel
theorem dX1_typeOf_12 : decode cX1_typeOf 12 = .ok (.aload_n 0, 1) := by decide +kernel
theorem dX1_typeOf_13 : decode cX1_typeOf 13 = .ok (.getfield 19, 3) := by decide +kernel
theorem dX1_typeOf_16 : decode cX1_typeOf 16 = .ok (.iload_n 1, 1) := by decide +kernel
theorem dX1_typeOf_17 : decode cX1_typeOf 17 = .ok (.iaload, 1) := by decide +kernel
theorem dX1_typeOf_18 : decode cX1_typeOf 18 = .ok (.goto 4, 3) := by decide +kernel
theorem dX1_typeOf_21 : decode cX1_typeOf 21 = .ok (.iconst (-1), 1) := by decide +kernel
theorem dX1_typeOf_22 : decode cX1_typeOf 22 = .ok (.ireturn, 1) := by decide +kernel
theorem dX1_keyOf_0 : decode cX1_keyOf 0 = .ok (.iload_n 1, 1) := by decide +kernel
theorem dX1_keyOf_1 : decode cX1_keyOf 1 = .ok (.ifCond .lt 20, 3) := by decide +kernel
theorem dX1_keyOf_4 : decode cX1_keyOf 4 = .ok (.iload_n 1, 1) := by decide +kernel
theorem dX1_keyOf_5 : decode cX1_keyOf 5 = .ok (.aload_n 0, 1) := by decide +kernel
theorem dX1_keyOf_6 : decode cX1_keyOf 6 = .ok (.getfield 9, 3) := by decide +kernel
theorem dX1_keyOf_9 : decode cX1_keyOf 9 = .ok (.if_icmp .ge 12, 3) := by decide +kernel
theorem dX1_keyOf_12 : decode cX1_keyOf 12 = .ok (.aload_n 0, 1) := by decide +kernel
theorem dX1_keyOf_13 : decode cX1_keyOf 13 = .ok (.getfield 23, 3) := by decide +kernel
theorem dX1_keyOf_16 : decode cX1_keyOf 16 = .ok (.iload_n 1, 1) := by decide +kernel
theorem dX1_keyOf_17 : decode cX1_keyOf 17 = .ok (.iaload, 1) := by decide +kernel
theorem dX1_keyOf_18 : decode cX1_keyOf 18 = .ok (.goto 4, 3) := by decide +kernel
theorem dX1_keyOf_21 : decode cX1_keyOf 21 = .ok (.iconst (-1), 1) := by decide +kernel
theorem dX1_keyOf_22 : decode cX1_keyOf 22 = .ok (.ireturn, 1) := by decide +kernel
theorem dX2_init_0 : decode cX2_init 0 = .ok (.aload_n 0, 1) := by decide +kernel
theorem dX2_init_1 : decode cX2_init 1 = .ok (.invokespecial 3, 3) := by decide +kernel
theorem dX2_init_4 : decode cX2_init 4 = .ok (.aload_n 0, 1) := by decide +kernel
theorem dX2_init_5 : decode cX2_init 5 = .ok (.iconst 0, 1) := by decide +kernel
theorem dX2_init_6 : decode cX2_init 6 = .ok (.putfield 9, 3) := by decide +kernel
theorem dX2_init_9 : decode cX2_init 9 = .ok (.aload_n 0, 1) := by decide +kernel
theorem dX2_init_10 : decode cX2_init 10 = .ok (.bipush 12, 2) := by decide +kernel
theorem dX2_init_12 : decode cX2_init 12 = .ok (.newarray .int, 2) := by decide +kernel
theorem dX2_init_14 : decode cX2_init 14 = .ok (.putfield 15, 3) := by decide +kernel
theorem dX2_init_17 : decode cX2_init 17 = .ok (.aload_n 0, 1) := by decide +kernel
theorem dX2_init_18 : decode cX2_init 18 = .ok (.bipush 12, 2) := by decide +kernel
theorem dX2_init_20 : decode cX2_init 20 = .ok (.newarray .int, 2) := by decide +kernel
theorem dX2_init_22 : decode cX2_init 22 = .ok (.putfield 19, 3) := by decide +kernel
theorem dX2_init_25 : decode cX2_init 25 = .ok (.aload_n 0, 1) := by decide +kernel
theorem dX2_init_26 : decode cX2_init 26 = .ok (.bipush 12, 2) := by decide +kernel
theorem dX2_init_28 : decode cX2_init 28 = .ok (.newarray .int, 2) := by decide +kernel
theorem dX2_init_30 : decode cX2_init 30 = .ok (.putfield 22, 3) := by decide +kernel
theorem dX2_init_33 : decode cX2_init 33 = .ok (.aload_n 0, 1) := by decide +kernel
theorem dX2_init_34 : decode cX2_init 34 = .ok (.bipush 12, 2) := by decide +kernel
theorem dX2_init_36 : decode cX2_init 36 = .ok (.newarray .int, 2) := by decide +kernel
theorem dX2_init_38 : decode cX2_init 38 = .ok (.putfield 25, 3) := by decide +kernel
theorem dX2_init_41 : decode cX2_init 41 = .ok (.aload_n 0, 1) := by decide +kernel
theorem dX2_init_42 : decode cX2_init 42 = .ok (.bipush 12, 2) := by decide +kernel
theorem dX2_init_44 : decode cX2_init 44 = .ok (.newarray .int, 2) := by decide +kernel
theorem dX2_init_46 : decode cX2_init 46 = .ok (.putfield 28, 3) := by decide +kernel
theorem dX2_init_49 : decode cX2_init 49 = .ok (.aload_n 0, 1) := by decide +kernel
theorem dX2_init_50 : decode cX2_init 50 = .ok (.bipush 12, 2) := by decide +kernel
theorem dX2_init_52 : decode cX2_init 52 = .ok (.newarray .int, 2) := by decide +kernel
theorem dX2_init_54 : decode cX2_init 54 = .ok (.putfield 31, 3) := by decide +kernel
theorem dX2_init_57 : decode cX2_init 57 = .ok (.aload_n 0, 1) := by decide +kernel
theorem dX2_init_58 : decode cX2_init 58 = .ok (.bipush 12, 2) := by decide +kernel
theorem dX2_init_60 : decode cX2_init 60 = .ok (.newarray .int, 2) := by decide +kernel
theorem dX2_init_62 : decode cX2_init 62 = .ok (.putfield 34, 3) := by decide +kernel
theorem dX2_init_65 : decode cX2_init 65 = .ok (.aload_n 0, 1) := by decide +kernel
theorem dX2_init_66 : decode cX2_init 66 = .ok (.bipush 12, 2) := by decide +kernel
theorem dX2_init_68 : decode cX2_init 68 = .ok (.newarray .int, 2) := by decide +kernel
theorem dX2_init_70 : decode cX2_init 70 = .ok (.putfield 37, 3) := by decide +kernel
theorem dX2_init_73 : decode cX2_init 73 = .ok (.return_, 1) := by decide +kernel
theorem dX2_size_0 : decode cX2_size 0 = .ok (.aload_n 0, 1) := by decide +kernel
theorem dX2_size_1 : decode cX2_size 1 = .ok (.getfield 9, 3) := by decide +kernel
theorem dX2_size_4 : decode cX2_size 4 = .ok (.ireturn, 1) := by decide +kernel
theorem dX2_isType_0 : decode cX2_isType 0 = .ok (.iload_n 1, 1) := by decide +kernel
theorem dX2_isType_1 : decode cX2_isType 1 = .ok (.ifCond .lt 15, 3) := by decide +kernel
theorem dX2_isType_4 : decode cX2_isType 4 = .ok (.iload_n 1, 1) := by decide +kernel
theorem dX2_isType_5 : decode cX2_isType 5 = .ok (.aload_n 0, 1) := by decide +kernel
theorem dX2_isType_6 : decode cX2_isType 6 = .ok (.getfield 9, 3) := by decide +kernel
theorem dX2_isType_9 : decode cX2_isType 9 = .ok (.if_icmp .ge 7, 3) := by decide +kernel
theorem dX2_isType_12 : decode cX2_isType 12 = .ok (.iconst 1, 1) := by decide +kernel
theorem dX2_isType_13 : decode cX2_isType 13 = .ok (.goto 4, 3) := by decide +kernel
theorem dX2_isType_16 : decode cX2_isType 16 = .ok (.iconst 0, 1) := by decide +kernel
theorem dX2_isType_17 : decode cX2_isType 17 = .ok (.ireturn, 1) := by decide +kernel
theorem dX2_define_0 : decode cX2_define 0 = .ok (.aload_n 0, 1) := by decide +kernel
theorem dX2_define_1 : decode cX2_define 1 = .ok (.getfield 9, 3) := by decide +kernel
theorem dX2_define_4 : decode cX2_define 4 = .ok (.istore 5, 2) := by decide +kernel
theorem dX2_define_6 : decode cX2_define 6 = .ok (.iload 5, 2) := by decide +kernel
theorem dX2_define_8 : decode cX2_define 8 = .ok (.bipush 12, 2) := by decide +kernel
theorem dX2_define_10 : decode cX2_define 10 = .ok (.if_icmp .lt 5, 3) := by decide +kernel
theorem dX2_define_13 : decode cX2_define 13 = .ok (.iconst (-1), 1) := by decide +kernel
theorem dX2_define_14 : decode cX2_define 14 = .ok (.ireturn, 1) := by decide +kernel
theorem dX2_define_15 : decode cX2_define 15 = .ok (.aload_n 0, 1) := by decide +kernel
theorem dX2_define_16 : decode cX2_define 16 = .ok (.getfield 22, 3) := by decide +kernel
theorem dX2_define_19 : decode cX2_define 19 = .ok (.iload 5, 2) := by decide +kernel
theorem dX2_define_21 : decode cX2_define 21 = .ok (.aload_n 0, 1) := by decide +kernel
theorem dX2_define_22 : decode cX2_define 22 = .ok (.iload_n 2, 1) := by decide +kernel
theorem dX2_define_23 : decode cX2_define 23 = .ok (.invokevirtual 40, 3) := by decide +kernel
theorem dX2_define_26 : decode cX2_define 26 = .ok (.iastore, 1) := by decide +kernel
theorem dX2_define_27 : decode cX2_define 27 = .ok (.aload_n 0, 1) := by decide +kernel
theorem dX2_define_28 : decode cX2_define 28 = .ok (.getfield 15, 3) := by decide +kernel
theorem dX2_define_31 : decode cX2_define 31 = .ok (.iload 5, 2) := by decide +kernel
theorem dX2_define_33 : decode cX2_define 33 = .ok (.iload_n 1, 1) := by decide +kernel
theorem dX2_define_34 : decode cX2_define 34 = .ok (.iastore, 1) := by decide +kernel
theorem dX2_define_35 : decode cX2_define 35 = .ok (.aload_n 0, 1) := by decide +kernel
theorem dX2_define_36 : decode cX2_define 36 = .ok (.getfield 19, 3) := by decide +kernel
theorem dX2_define_39 : decode cX2_define 39 = .ok (.iload 5, 2) := by decide +kernel
theorem dX2_define_41 : decode cX2_define 41 = .ok (.iload_n 2, 1) := by decide +kernel
theorem dX2_define_42 : decode cX2_define 42 = .ok (.iastore, 1) := by decide +kernel
theorem dX2_define_43 : decode cX2_define 43 = .ok (.aload_n 0, 1) := by decide +kernel
theorem dX2_define_44 : decode cX2_define 44 = .ok (.getfield 25, 3) := by decide +kernel
theorem dX2_define_47 : decode cX2_define 47 = .ok (.iload 5, 2) := by decide +kernel
theorem dX2_define_49 : decode cX2_define 49 = .ok (.iload_n 3, 1) := by decide +kernel
theorem dX2_define_50 : decode cX2_define 50 = .ok (.iastore, 1) := by decide +kernel
theorem dX2_define_51 : decode cX2_define 51 = .ok (.aload_n 0, 1) := by decide +kernel
theorem dX2_define_52 : decode cX2_define 52 = .ok (.getfield 28, 3) := by decide +kernel
theorem dX2_define_55 : decode cX2_define 55 = .ok (.iload 5, 2) := by decide +kernel
theorem dX2_define_57 : decode cX2_define 57 = .ok (.iload 4, 2) := by decide +kernel
theorem dX2_define_59 : decode cX2_define 59 = .ok (.iastore, 1) := by decide +kernel
theorem dX2_define_60 : decode cX2_define 60 = .ok (.aload_n 0, 1) := by decide +kernel
theorem dX2_define_61 : decode cX2_define 61 = .ok (.getfield 31, 3) := by decide +kernel
theorem dX2_define_64 : decode cX2_define 64 = .ok (.iload 5, 2) := by decide +kernel
theorem dX2_define_66 : decode cX2_define 66 = .ok (.iconst (-1), 1) := by decide +kernel
theorem dX2_define_67 : decode cX2_define 67 = .ok (.iastore, 1) := by decide +kernel
theorem dX2_define_68 : decode cX2_define 68 = .ok (.aload_n 0, 1) := by decide +kernel
theorem dX2_define_69 : decode cX2_define 69 = .ok (.dup, 1) := by decide +kernel
theorem dX2_define_70 : decode cX2_define 70 = .ok (.getfield 9, 3) := by decide +kernel
theorem dX2_define_73 : decode cX2_define 73 = .ok (.iconst 1, 1) := by decide +kernel
theorem dX2_define_74 : decode cX2_define 74 = .ok (.iadd, 1) := by decide +kernel
theorem dX2_define_75 : decode cX2_define 75 = .ok (.putfield 9, 3) := by decide +kernel
theorem dX2_define_78 : decode cX2_define 78 = .ok (.iload 5, 2) := by decide +kernel
theorem dX2_define_80 : decode cX2_define 80 = .ok (.ireturn, 1) := by decide +kernel
theorem dX2_bind_0 : decode cX2_bind 0 = .ok (.aload_n 0, 1) := by decide +kernel
theorem dX2_bind_1 : decode cX2_bind 1 = .ok (.iload_n 1, 1) := by decide +kernel
theorem dX2_bind_2 : decode cX2_bind 2 = .ok (.invokevirtual 44, 3) := by decide +kernel
theorem dX2_bind_5 : decode cX2_bind 5 = .ok (.ifCond .eq 25, 3) := by decide +kernel
theorem dX2_bind_8 : decode cX2_bind 8 = .ok (.aload_n 0, 1) := by decide +kernel
theorem dX2_bind_9 : decode cX2_bind 9 = .ok (.getfield 31, 3) := by decide +kernel
theorem dX2_bind_12 : decode cX2_bind 12 = .ok (.iload_n 1, 1) := by decide +kernel
theorem dX2_bind_13 : decode cX2_bind 13 = .ok (.iload_n 2, 1) := by decide +kernel
theorem dX2_bind_14 : decode cX2_bind 14 = .ok (.iastore, 1) := by decide +kernel
theorem dX2_bind_15 : decode cX2_bind 15 = .ok (.aload_n 0, 1) := by decide +kernel
theorem dX2_bind_16 : decode cX2_bind 16 = .ok (.getfield 34, 3) := by decide +kernel
theorem dX2_bind_19 : decode cX2_bind 19 = .ok (.iload_n 1, 1) := by decide +kernel
theorem dX2_bind_20 : decode cX2_bind 20 = .ok (.iload_n 3, 1) := by decide +kernel
theorem dX2_bind_21 : decode cX2_bind 21 = .ok (.iastore, 1) := by decide +kernel
theorem dX2_bind_22 : decode cX2_bind 22 = .ok (.aload_n 0, 1) := by decide +kernel
theorem dX2_bind_23 : decode cX2_bind 23 = .ok (.getfield 37, 3) := by decide +kernel
theorem dX2_bind_26 : decode cX2_bind 26 = .ok (.iload_n 1, 1) := by decide +kernel
theorem dX2_bind_27 : decode cX2_bind 27 = .ok (.iload 4, 2) := by decide +kernel
theorem dX2_bind_29 : decode cX2_bind 29 = .ok (.iastore, 1) := by decide +kernel
theorem dX2_bind_30 : decode cX2_bind 30 = .ok (.return_, 1) := by decide +kernel
theorem dX2_databaseOf_0 : decode cX2_databaseOf 0 = .ok (.aload_n 0, 1) := by decide +kernel
theorem dX2_databaseOf_1 : decode cX2_databaseOf 1 = .ok (.iload_n 1, 1) := by decide +kernel
theorem dX2_databaseOf_2 : decode cX2_databaseOf 2 = .ok (.invokevirtual 44, 3) := by decide +kernel
theorem dX2_databaseOf_5 : decode cX2_databaseOf 5 = .ok (.ifCond .eq 12, 3) := by decide +kernel
theorem dX2_databaseOf_8 : decode cX2_databaseOf 8 = .ok (.aload_n 0, 1) := by decide +kernel
theorem dX2_databaseOf_9 : decode cX2_databaseOf 9 = .ok (.getfield 15, 3) := by decide +kernel
theorem dX2_databaseOf_12 : decode cX2_databaseOf 12 = .ok (.iload_n 1, 1) := by decide +kernel
theorem dX2_databaseOf_13 : decode cX2_databaseOf 13 = .ok (.iaload, 1) := by decide +kernel
theorem dX2_databaseOf_14 : decode cX2_databaseOf 14 = .ok (.goto 4, 3) := by decide +kernel
theorem dX2_databaseOf_17 : decode cX2_databaseOf 17 = .ok (.iconst (-1), 1) := by decide +kernel
theorem dX2_databaseOf_18 : decode cX2_databaseOf 18 = .ok (.ireturn, 1) := by decide +kernel
theorem dX2_parentOf_0 : decode cX2_parentOf 0 = .ok (.aload_n 0, 1) := by decide +kernel
theorem dX2_parentOf_1 : decode cX2_parentOf 1 = .ok (.iload_n 1, 1) := by decide +kernel
theorem dX2_parentOf_2 : decode cX2_parentOf 2 = .ok (.invokevirtual 44, 3) := by decide +kernel
theorem dX2_parentOf_5 : decode cX2_parentOf 5 = .ok (.ifCond .eq 12, 3) := by decide +kernel
theorem dX2_parentOf_8 : decode cX2_parentOf 8 = .ok (.aload_n 0, 1) := by decide +kernel
theorem dX2_parentOf_9 : decode cX2_parentOf 9 = .ok (.getfield 19, 3) := by decide +kernel
theorem dX2_parentOf_12 : decode cX2_parentOf 12 = .ok (.iload_n 1, 1) := by decide +kernel
theorem dX2_parentOf_13 : decode cX2_parentOf 13 = .ok (.iaload, 1) := by decide +kernel
theorem dX2_parentOf_14 : decode cX2_parentOf 14 = .ok (.goto 4, 3) := by decide +kernel
theorem dX2_parentOf_17 : decode cX2_parentOf 17 = .ok (.iconst (-1), 1) := by decide +kernel
theorem dX2_parentOf_18 : decode cX2_parentOf 18 = .ok (.ireturn, 1) := by decide +kernel
theorem dX2_levelOf_0 : decode cX2_levelOf 0 = .ok (.aload_n 0, 1) := by decide +kernel
theorem dX2_levelOf_1 : decode cX2_levelOf 1 = .ok (.iload_n 1, 1) := by decide +kernel
theorem dX2_levelOf_2 : decode cX2_levelOf 2 = .ok (.invokevirtual 44, 3) := by decide +kernel
theorem dX2_levelOf_5 : decode cX2_levelOf 5 = .ok (.ifCond .eq 12, 3) := by decide +kernel
theorem dX2_levelOf_8 : decode cX2_levelOf 8 = .ok (.aload_n 0, 1) := by decide +kernel
theorem dX2_levelOf_9 : decode cX2_levelOf 9 = .ok (.getfield 22, 3) := by decide +kernel
theorem dX2_levelOf_12 : decode cX2_levelOf 12 = .ok (.iload_n 1, 1) := by decide +kernel
theorem dX2_levelOf_13 : decode cX2_levelOf 13 = .ok (.iaload, 1) := by decide +kernel
theorem dX2_levelOf_14 : decode cX2_levelOf 14 = .ok (.goto 4, 3) := by decide +kernel
theorem dX2_levelOf_17 : decode cX2_levelOf 17 = .ok (.iconst 0, 1) := by decide +kernel
theorem dX2_levelOf_18 : decode cX2_levelOf 18 = .ok (.ireturn, 1) := by decide +kernel
theorem dX2_keysOf_0 : decode cX2_keysOf 0 = .ok (.aload_n 0, 1) := by decide +kernel
theorem dX2_keysOf_1 : decode cX2_keysOf 1 = .ok (.iload_n 1, 1) := by decide +kernel
theorem dX2_keysOf_2 : decode cX2_keysOf 2 = .ok (.invokevirtual 44, 3) := by decide +kernel
theorem dX2_keysOf_5 : decode cX2_keysOf 5 = .ok (.ifCond .eq 12, 3) := by decide +kernel
theorem dX2_keysOf_8 : decode cX2_keysOf 8 = .ok (.aload_n 0, 1) := by decide +kernel
theorem dX2_keysOf_9 : decode cX2_keysOf 9 = .ok (.getfield 25, 3) := by decide +kernel
theorem dX2_keysOf_12 : decode cX2_keysOf 12 = .ok (.iload_n 1, 1) := by decide +kernel
theorem dX2_keysOf_13 : decode cX2_keysOf 13 = .ok (.iaload, 1) := by decide +kernel
theorem dX2_keysOf_14 : decode cX2_keysOf 14 = .ok (.goto 4, 3) := by decide +kernel
theorem dX2_keysOf_17 : decode cX2_keysOf 17 = .ok (.iconst (-1), 1) := by decide +kernel
theorem dX2_keysOf_18 : decode cX2_keysOf 18 = .ok (.ireturn, 1) := by decide +kernel
theorem dX2_ruleOf_0 : decode cX2_ruleOf 0 = .ok (.aload_n 0, 1) := by decide +kernel
theorem dX2_ruleOf_1 : decode cX2_ruleOf 1 = .ok (.iload_n 1, 1) := by decide +kernel
theorem dX2_ruleOf_2 : decode cX2_ruleOf 2 = .ok (.invokevirtual 44, 3) := by decide +kernel
theorem dX2_ruleOf_5 : decode cX2_ruleOf 5 = .ok (.ifCond .eq 12, 3) := by decide +kernel
theorem dX2_ruleOf_8 : decode cX2_ruleOf 8 = .ok (.aload_n 0, 1) := by decide +kernel
theorem dX2_ruleOf_9 : decode cX2_ruleOf 9 = .ok (.getfield 28, 3) := by decide +kernel
theorem dX2_ruleOf_12 : decode cX2_ruleOf 12 = .ok (.iload_n 1, 1) := by decide +kernel
theorem dX2_ruleOf_13 : decode cX2_ruleOf 13 = .ok (.iaload, 1) := by decide +kernel
theorem dX2_ruleOf_14 : decode cX2_ruleOf 14 = .ok (.goto 4, 3) := by decide +kernel
theorem dX2_ruleOf_17 : decode cX2_ruleOf 17 = .ok (.iconst (-1), 1) := by decide +kernel
theorem dX2_ruleOf_18 : decode cX2_ruleOf 18 = .ok (.ireturn, 1) := by decide +kernel
theorem dX2_targetOf_0 : decode cX2_targetOf 0 = .ok (.aload_n 0, 1) := by decide +kernel
theorem dX2_targetOf_1 : decode cX2_targetOf 1 = .ok (.iload_n 1, 1) := by decide +kernel
theorem dX2_targetOf_2 : decode cX2_targetOf 2 = .ok (.invokevirtual 44, 3) := by decide +kernel
theorem dX2_targetOf_5 : decode cX2_targetOf 5 = .ok (.ifCond .eq 12, 3) := by decide +kernel
theorem dX2_targetOf_8 : decode cX2_targetOf 8 = .ok (.aload_n 0, 1) := by decide +kernel
theorem dX2_targetOf_9 : decode cX2_targetOf 9 = .ok (.getfield 31, 3) := by decide +kernel
theorem dX2_targetOf_12 : decode cX2_targetOf 12 = .ok (.iload_n 1, 1) := by decide +kernel
theorem dX2_targetOf_13 : decode cX2_targetOf 13 = .ok (.iaload, 1) := by decide +kernel
theorem dX2_targetOf_14 : decode cX2_targetOf 14 = .ok (.goto 4, 3) := by decide +kernel
theorem dX2_targetOf_17 : decode cX2_targetOf 17 = .ok (.iconst (-1), 1) := by decide +kernel
theorem dX2_targetOf_18 : decode cX2_targetOf 18 = .ok (.ireturn, 1) := by decide +kernel
theorem dX2_comingOf_0 : decode cX2_comingOf 0 = .ok (.aload_n 0, 1) := by decide +kernel
theorem dX2_comingOf_1 : decode cX2_comingOf 1 = .ok (.iload_n 1, 1) := by decide +kernel
theorem dX2_comingOf_2 : decode cX2_comingOf 2 = .ok (.invokevirtual 44, 3) := by decide +kernel
theorem dX2_comingOf_5 : decode cX2_comingOf 5 = .ok (.ifCond .eq 12, 3) := by decide +kernel
theorem dX2_comingOf_8 : decode cX2_comingOf 8 = .ok (.aload_n 0, 1) := by decide +kernel
theorem dX2_comingOf_9 : decode cX2_comingOf 9 = .ok (.getfield 34, 3) := by decide +kernel
theorem dX2_comingOf_12 : decode cX2_comingOf 12 = .ok (.iload_n 1, 1) := by decide +kernel
theorem dX2_comingOf_13 : decode cX2_comingOf 13 = .ok (.iaload, 1) := by decide +kernel
theorem dX2_comingOf_14 : decode cX2_comingOf 14 = .ok (.goto 4, 3) := by decide +kernel
theorem dX2_comingOf_17 : decode cX2_comingOf 17 = .ok (.iconst (-1), 1) := by decide +kernel
theorem dX2_comingOf_18 : decode cX2_comingOf 18 = .ok (.ireturn, 1) := by decide +kernel
theorem dX2_goingOf_0 : decode cX2_goingOf 0 = .ok (.aload_n 0, 1) := by decide +kernel
theorem dX2_goingOf_1 : decode cX2_goingOf 1 = .ok (.iload_n 1, 1) := by decide +kernel
theorem dX2_goingOf_2 : decode cX2_goingOf 2 = .ok (.invokevirtual 44, 3) := by decide +kernel
theorem dX2_goingOf_5 : decode cX2_goingOf 5 = .ok (.ifCond .eq 12, 3) := by decide +kernel
theorem dX2_goingOf_8 : decode cX2_goingOf 8 = .ok (.aload_n 0, 1) := by decide +kernel
theorem dX2_goingOf_9 : decode cX2_goingOf 9 = .ok (.getfield 37, 3) := by decide +kernel
theorem dX2_goingOf_12 : decode cX2_goingOf 12 = .ok (.iload_n 1, 1) := by decide +kernel
theorem dX2_goingOf_13 : decode cX2_goingOf 13 = .ok (.iaload, 1) := by decide +kernel
theorem dX2_goingOf_14 : decode cX2_goingOf 14 = .ok (.goto 4, 3) := by decide +kernel
theorem dX2_goingOf_17 : decode cX2_goingOf 17 = .ok (.iconst (-1), 1) := by decide +kernel
theorem dX2_goingOf_18 : decode cX2_goingOf 18 = .ok (.ireturn, 1) := by decide +kernel
theorem dX2_levelBelow_0 : decode cX2_levelBelow 0 = .ok (.aload_n 0, 1) := by decide +kernel
theorem dX2_levelBelow_1 : decode cX2_levelBelow 1 = .ok (.iload_n 1, 1) := by decide +kernel
theorem dX2_levelBelow_2 : decode cX2_levelBelow 2 = .ok (.invokevirtual 48, 3) := by decide +kernel
theorem dX2_levelBelow_5 : decode cX2_levelBelow 5 = .ok (.iconst 1, 1) := by decide +kernel
theorem dX2_levelBelow_6 : decode cX2_levelBelow 6 = .ok (.iadd, 1) := by decide +kernel
theorem dX2_levelBelow_7 : decode cX2_levelBelow 7 = .ok (.ireturn, 1) := by decide +kernel
theorem dX2_isRootType_0 : decode cX2_isRootType 0 = .ok (.aload_n 0, 1) := by decide +kernel
theorem dX2_isRootType_1 : decode cX2_isRootType 1 = .ok (.iload_n 1, 1) := by decide +kernel
theorem dX2_isRootType_2 : decode cX2_isRootType 2 = .ok (.invokevirtual 44, 3) := by decide +kernel
theorem dX2_isRootType_5 : decode cX2_isRootType 5 = .ok (.ifCond .eq 17, 3) := by decide +kernel
theorem dX2_isRootType_8 : decode cX2_isRootType 8 = .ok (.aload_n 0, 1) := by decide +kernel
theorem dX2_isRootType_9 : decode cX2_isRootType 9 = .ok (.getfield 19, 3) := by decide +kernel
theorem dX2_isRootType_12 : decode cX2_isRootType 12 = .ok (.iload_n 1, 1) := by decide +kernel
theorem dX2_isRootType_13 : decode cX2_isRootType 13 = .ok (.iaload, 1) := by decide +kernel
theorem dX2_isRootType_14 : decode cX2_isRootType 14 = .ok (.iconst (-1), 1) := by decide +kernel
theorem dX2_isRootType_15 : decode cX2_isRootType 15 = .ok (.if_icmp .ne 7, 3) := by decide +kernel
theorem dX2_isRootType_18 : decode cX2_isRootType 18 = .ok (.iconst 1, 1) := by decide +kernel
theorem dX2_isRootType_19 : decode cX2_isRootType 19 = .ok (.goto 4, 3) := by decide +kernel
theorem dX2_isRootType_22 : decode cX2_isRootType 22 = .ok (.iconst 0, 1) := by decide +kernel
theorem dX2_isRootType_23 : decode cX2_isRootType 23 = .ok (.ireturn, 1) := by decide +kernel
theorem dX2_hasRootType_0 : decode cX2_hasRootType 0 = .ok (.iconst 0, 1) := by decide +kernel
theorem dX2_hasRootType_1 : decode cX2_hasRootType 1 = .ok (.istore_n 2, 1) := by decide +kernel
theorem dX2_hasRootType_2 : decode cX2_hasRootType 2 = .ok (.iload_n 2, 1) := by decide +kernel
theorem dX2_hasRootType_3 : decode cX2_hasRootType 3 = .ok (.aload_n 0, 1) := by decide +kernel
theorem dX2_hasRootType_4 : decode cX2_hasRootType 4 = .ok (.getfield 9, 3) := by decide +kernel
theorem dX2_hasRootType_7 : decode cX2_hasRootType 7 = .ok (.if_icmp .ge 28, 3) := by decide +kernel
theorem dX2_hasRootType_10 : decode cX2_hasRootType 10 = .ok (.aload_n 0, 1) := by decide +kernel
theorem dX2_hasRootType_11 : decode cX2_hasRootType 11 = .ok (.iload_n 2, 1) := by decide +kernel
theorem dX2_hasRootType_12 : decode cX2_hasRootType 12 = .ok (.invokevirtual 51, 3) := by decide +kernel
theorem dX2_hasRootType_15 : decode cX2_hasRootType 15 = .ok (.ifCond .eq 14, 3) := by decide +kernel
theorem dX2_hasRootType_18 : decode cX2_hasRootType 18 = .ok (.aload_n 0, 1) := by decide +kernel
theorem dX2_hasRootType_19 : decode cX2_hasRootType 19 = .ok (.iload_n 2, 1) := by decide +kernel
theorem dX2_hasRootType_20 : decode cX2_hasRootType 20 = .ok (.invokevirtual 54, 3) := by decide +kernel
theorem dX2_hasRootType_23 : decode cX2_hasRootType 23 = .ok (.iload_n 1, 1) := by decide +kernel
theorem dX2_hasRootType_24 : decode cX2_hasRootType 24 = .ok (.if_icmp .ne 5, 3) := by decide +kernel
theorem dX2_hasRootType_27 : decode cX2_hasRootType 27 = .ok (.iconst 1, 1) := by decide +kernel
theorem dX2_hasRootType_28 : decode cX2_hasRootType 28 = .ok (.ireturn, 1) := by decide +kernel
theorem dX2_hasRootType_29 : decode cX2_hasRootType 29 = .ok (.iinc 2 1, 3) := by decide +kernel
theorem dX2_hasRootType_32 : decode cX2_hasRootType 32 = .ok (.goto (-30), 3) := by decide +kernel
theorem dX2_hasRootType_35 : decode cX2_hasRootType 35 = .ok (.iconst 0, 1) := by decide +kernel
theorem dX2_hasRootType_36 : decode cX2_hasRootType 36 = .ok (.ireturn, 1) := by decide +kernel
theorem dX2_isBelow_0 : decode cX2_isBelow 0 = .ok (.aload_n 0, 1) := by decide +kernel
theorem dX2_isBelow_1 : decode cX2_isBelow 1 = .ok (.iload_n 1, 1) := by decide +kernel
theorem dX2_isBelow_2 : decode cX2_isBelow 2 = .ok (.invokevirtual 57, 3) := by decide +kernel
theorem dX2_isBelow_5 : decode cX2_isBelow 5 = .ok (.istore_n 3, 1) := by decide +kernel
theorem dX2_isBelow_6 : decode cX2_isBelow 6 = .ok (.iconst 0, 1) := by decide +kernel
theorem dX2_isBelow_7 : decode cX2_isBelow 7 = .ok (.istore 4, 2) := by decide +kernel
theorem dX2_isBelow_9 : decode cX2_isBelow 9 = .ok (.iload 4, 2) := by decide +kernel
theorem dX2_isBelow_11 : decode cX2_isBelow 11 = .ok (.iconst 4, 1) := by decide +kernel
theorem dX2_isBelow_12 : decode cX2_isBelow 12 = .ok (.if_icmp .ge 27, 3) := by decide +kernel
theorem dX2_isBelow_15 : decode cX2_isBelow 15 = .ok (.iload_n 3, 1) := by decide +kernel
theorem dX2_isBelow_16 : decode cX2_isBelow 16 = .ok (.iconst (-1), 1) := by decide +kernel
theorem dX2_isBelow_17 : decode cX2_isBelow 17 = .ok (.if_icmp .eq 22, 3) := by decide +kernel
theorem dX2_isBelow_20 : decode cX2_isBelow 20 = .ok (.iload_n 3, 1) := by decide +kernel
theorem dX2_isBelow_21 : decode cX2_isBelow 21 = .ok (.iload_n 2, 1) := by decide +kernel
theorem dX2_isBelow_22 : decode cX2_isBelow 22 = .ok (.if_icmp .ne 5, 3) := by decide +kernel
theorem dX2_isBelow_25 : decode cX2_isBelow 25 = .ok (.iconst 1, 1) := by decide +kernel
theorem dX2_isBelow_26 : decode cX2_isBelow 26 = .ok (.ireturn, 1) := by decide +kernel
theorem dX2_isBelow_27 : decode cX2_isBelow 27 = .ok (.aload_n 0, 1) := by decide +kernel
theorem dX2_isBelow_28 : decode cX2_isBelow 28 = .ok (.iload_n 3, 1) := by decide +kernel
theorem dX2_isBelow_29 : decode cX2_isBelow 29 = .ok (.invokevirtual 57, 3) := by decide +kernel
theorem dX2_isBelow_32 : decode cX2_isBelow 32 = .ok (.istore_n 3, 1) := by decide +kernel
theorem dX2_isBelow_33 : decode cX2_isBelow 33 = .ok (.iinc 4 1, 3) := by decide +kernel
theorem dX2_isBelow_36 : decode cX2_isBelow 36 = .ok (.goto (-27), 3) := by decide +kernel
theorem dX2_isBelow_39 : decode cX2_isBelow 39 = .ok (.iconst 0, 1) := by decide +kernel
theorem dX2_isBelow_40 : decode cX2_isBelow 40 = .ok (.ireturn, 1) := by decide +kernel
theorem dX3_init_0 : decode cX3_init 0 = .ok (.aload_n 0, 1) := by decide +kernel
theorem dX3_init_1 : decode cX3_init 1 = .ok (.invokespecial 3, 3) := by decide +kernel
theorem dX3_init_4 : decode cX3_init 4 = .ok (.aload_n 0, 1) := by decide +kernel
theorem dX3_init_5 : decode cX3_init 5 = .ok (.bipush 60, 2) := by decide +kernel
theorem dX3_init_7 : decode cX3_init 7 = .ok (.newarray .int, 2) := by decide +kernel
theorem dX3_init_9 : decode cX3_init 9 = .ok (.putfield 9, 3) := by decide +kernel
theorem dX3_init_12 : decode cX3_init 12 = .ok (.aload_n 0, 1) := by decide +kernel
theorem dX3_init_13 : decode cX3_init 13 = .ok (.bipush 60, 2) := by decide +kernel
theorem dX3_init_15 : decode cX3_init 15 = .ok (.newarray .int, 2) := by decide +kernel
theorem dX3_init_17 : decode cX3_init 17 = .ok (.putfield 15, 3) := by decide +kernel
theorem dX3_init_20 : decode cX3_init 20 = .ok (.aload_n 0, 1) := by decide +kernel
theorem dX3_init_21 : decode cX3_init 21 = .ok (.bipush 60, 2) := by decide +kernel
theorem dX3_init_23 : decode cX3_init 23 = .ok (.newarray .int, 2) := by decide +kernel
theorem dX3_init_25 : decode cX3_init 25 = .ok (.putfield 18, 3) := by decide +kernel
theorem dX3_init_28 : decode cX3_init 28 = .ok (.aload_n 0, 1) := by decide +kernel
theorem dX3_init_29 : decode cX3_init 29 = .ok (.sipush 180, 3) := by decide +kernel
theorem dX3_init_32 : decode cX3_init 32 = .ok (.newarray .int, 2) := by decide +kernel
theorem dX3_init_34 : decode cX3_init 34 = .ok (.putfield 21, 3) := by decide +kernel
theorem dX3_init_37 : decode cX3_init 37 = .ok (.aload_n 0, 1) := by decide +kernel
theorem dX3_init_38 : decode cX3_init 38 = .ok (.sipush 180, 3) := by decide +kernel
theorem dX3_init_41 : decode cX3_init 41 = .ok (.newarray .int, 2) := by decide +kernel
theorem dX3_init_43 : decode cX3_init 43 = .ok (.putfield 24, 3) := by decide +kernel
theorem dX3_init_46 : decode cX3_init 46 = .ok (.aload_n 0, 1) := by decide +kernel
theorem dX3_init_47 : decode cX3_init 47 = .ok (.iconst 3, 1) := by decide +kernel
theorem dX3_init_48 : decode cX3_init 48 = .ok (.newarray .int, 2) := by decide +kernel
theorem dX3_init_50 : decode cX3_init 50 = .ok (.putfield 27, 3) := by decide +kernel
theorem dX3_init_53 : decode cX3_init 53 = .ok (.aload_n 0, 1) := by decide +kernel
theorem dX3_init_54 : decode cX3_init 54 = .ok (.bipush 60, 2) := by decide +kernel
theorem dX3_init_56 : decode cX3_init 56 = .ok (.newarray .int, 2) := by decide +kernel
theorem dX3_init_58 : decode cX3_init 58 = .ok (.putfield 30, 3) := by decide +kernel
theorem dX3_init_61 : decode cX3_init 61 = .ok (.aload_n 0, 1) := by decide +kernel
theorem dX3_init_62 : decode cX3_init 62 = .ok (.bipush 60, 2) := by decide +kernel
theorem dX3_init_64 : decode cX3_init 64 = .ok (.newarray .boolean, 2) := by decide +kernel
theorem dX3_init_66 : decode cX3_init 66 = .ok (.putfield 33, 3) := by decide +kernel
theorem dX3_init_69 : decode cX3_init 69 = .ok (.aload_n 0, 1) := by decide +kernel
theorem dX3_init_70 : decode cX3_init 70 = .ok (.iconst 0, 1) := by decide +kernel
theorem dX3_init_71 : decode cX3_init 71 = .ok (.putfield 37, 3) := by decide +kernel
theorem dX3_init_74 : decode cX3_init 74 = .ok (.aload_n 0, 1) := by decide +kernel
theorem dX3_init_75 : decode cX3_init 75 = .ok (.aload_n 1, 1) := by decide +kernel
theorem dX3_init_76 : decode cX3_init 76 = .ok (.putfield 41, 3) := by decide +kernel
theorem dX3_init_79 : decode cX3_init 79 = .ok (.iconst 0, 1) := by decide +kernel
theorem dX3_init_80 : decode cX3_init 80 = .ok (.istore_n 2, 1) := by decide +kernel
theorem dX3_init_81 : decode cX3_init 81 = .ok (.iload_n 2, 1) := by decide +kernel
theorem dX3_init_82 : decode cX3_init 82 = .ok (.bipush 60, 2) := by decide +kernel
theorem dX3_init_84 : decode cX3_init 84 = .ok (.if_icmp .ge 30, 3) := by decide +kernel
theorem dX3_init_87 : decode cX3_init 87 = .ok (.aload_n 0, 1) := by decide +kernel
theorem dX3_init_88 : decode cX3_init 88 = .ok (.getfield 9, 3) := by decide +kernel
theorem dX3_init_91 : decode cX3_init 91 = .ok (.iload_n 2, 1) := by decide +kernel
theorem dX3_init_92 : decode cX3_init 92 = .ok (.iconst (-1), 1) := by decide +kernel
theorem dX3_init_93 : decode cX3_init 93 = .ok (.iastore, 1) := by decide +kernel
theorem dX3_init_94 : decode cX3_init 94 = .ok (.aload_n 0, 1) := by decide +kernel
theorem dX3_init_95 : decode cX3_init 95 = .ok (.getfield 15, 3) := by decide +kernel
theorem dX3_init_98 : decode cX3_init 98 = .ok (.iload_n 2, 1) := by decide +kernel
theorem dX3_init_99 : decode cX3_init 99 = .ok (.iconst (-1), 1) := by decide +kernel
theorem dX3_init_100 : decode cX3_init 100 = .ok (.iastore, 1) := by decide +kernel
theorem dX3_init_101 : decode cX3_init 101 = .ok (.aload_n 0, 1) := by decide +kernel
theorem dX3_init_102 : decode cX3_init 102 = .ok (.getfield 30, 3) := by decide +kernel
theorem dX3_init_105 : decode cX3_init 105 = .ok (.iload_n 2, 1) := by decide +kernel
theorem dX3_init_106 : decode cX3_init 106 = .ok (.iconst (-1), 1) := by decide +kernel
theorem dX3_init_107 : decode cX3_init 107 = .ok (.iastore, 1) := by decide +kernel
theorem dX3_init_108 : decode cX3_init 108 = .ok (.iinc 2 1, 3) := by decide +kernel
theorem dX3_init_111 : decode cX3_init 111 = .ok (.goto (-30), 3) := by decide +kernel
theorem dX3_init_114 : decode cX3_init 114 = .ok (.return_, 1) := by decide +kernel
theorem dX3_isNumber_0 : decode cX3_isNumber 0 = .ok (.iload_n 0, 1) := by decide +kernel
theorem dX3_isNumber_1 : decode cX3_isNumber 1 = .ok (.ifCond .lt 13, 3) := by decide +kernel
theorem dX3_isNumber_4 : decode cX3_isNumber 4 = .ok (.iload_n 0, 1) := by decide +kernel
theorem dX3_isNumber_5 : decode cX3_isNumber 5 = .ok (.bipush 60, 2) := by decide +kernel
theorem dX3_isNumber_7 : decode cX3_isNumber 7 = .ok (.if_icmp .ge 7, 3) := by decide +kernel
theorem dX3_isNumber_10 : decode cX3_isNumber 10 = .ok (.iconst 1, 1) := by decide +kernel
theorem dX3_isNumber_11 : decode cX3_isNumber 11 = .ok (.goto 4, 3) := by decide +kernel
theorem dX3_isNumber_14 : decode cX3_isNumber 14 = .ok (.iconst 0, 1) := by decide +kernel
theorem dX3_isNumber_15 : decode cX3_isNumber 15 = .ok (.ireturn, 1) := by decide +kernel
theorem dX3_size_0 : decode cX3_size 0 = .ok (.aload_n 0, 1) := by decide +kernel
theorem dX3_size_1 : decode cX3_size 1 = .ok (.getfield 37, 3) := by decide +kernel
theorem dX3_size_4 : decode cX3_size 4 = .ok (.ireturn, 1) := by decide +kernel
theorem dX3_countOf_0 : decode cX3_countOf 0 = .ok (.iload_n 1, 1) := by decide +kernel
theorem dX3_countOf_1 : decode cX3_countOf 1 = .ok (.ifCond .lt 17, 3) := by decide +kernel
theorem dX3_countOf_4 : decode cX3_countOf 4 = .ok (.iload_n 1, 1) := by decide +kernel
theorem dX3_countOf_5 : decode cX3_countOf 5 = .ok (.iconst 3, 1) := by decide +kernel
theorem dX3_countOf_6 : decode cX3_countOf 6 = .ok (.if_icmp .ge 12, 3) := by decide +kernel
theorem dX3_countOf_9 : decode cX3_countOf 9 = .ok (.aload_n 0, 1) := by decide +kernel
theorem dX3_countOf_10 : decode cX3_countOf 10 = .ok (.getfield 27, 3) := by decide +kernel
theorem dX3_countOf_13 : decode cX3_countOf 13 = .ok (.iload_n 1, 1) := by decide +kernel
theorem dX3_countOf_14 : decode cX3_countOf 14 = .ok (.iaload, 1) := by decide +kernel
theorem dX3_countOf_15 : decode cX3_countOf 15 = .ok (.goto 4, 3) := by decide +kernel
theorem dX3_countOf_18 : decode cX3_countOf 18 = .ok (.iconst 0, 1) := by decide +kernel
theorem dX3_countOf_19 : decode cX3_countOf 19 = .ok (.ireturn, 1) := by decide +kernel
theorem dX3_segmentAt_0 : decode cX3_segmentAt 0 = .ok (.iload_n 1, 1) := by decide +kernel
theorem dX3_segmentAt_1 : decode cX3_segmentAt 1 = .ok (.ifCond .lt 22, 3) := by decide +kernel
theorem dX3_segmentAt_4 : decode cX3_segmentAt 4 = .ok (.iload_n 1, 1) := by decide +kernel
theorem dX3_segmentAt_5 : decode cX3_segmentAt 5 = .ok (.iconst 3, 1) := by decide +kernel
theorem dX3_segmentAt_6 : decode cX3_segmentAt 6 = .ok (.if_icmp .ge 17, 3) := by decide +kernel
theorem dX3_segmentAt_9 : decode cX3_segmentAt 9 = .ok (.iload_n 2, 1) := by decide +kernel
theorem dX3_segmentAt_10 : decode cX3_segmentAt 10 = .ok (.ifCond .lt 13, 3) := by decide +kernel
theorem dX3_segmentAt_13 : decode cX3_segmentAt 13 = .ok (.iload_n 2, 1) := by decide +kernel
theorem dX3_segmentAt_14 : decode cX3_segmentAt 14 = .ok (.bipush 60, 2) := by decide +kernel
theorem dX3_segmentAt_16 : decode cX3_segmentAt 16 = .ok (.if_icmp .ge 7, 3) := by decide +kernel
theorem dX3_segmentAt_19 : decode cX3_segmentAt 19 = .ok (.iconst 1, 1) := by decide +kernel
theorem dX3_segmentAt_20 : decode cX3_segmentAt 20 = .ok (.goto 4, 3) := by decide +kernel
theorem dX3_segmentAt_23 : decode cX3_segmentAt 23 = .ok (.iconst 0, 1) := by decide +kernel
theorem dX3_segmentAt_24 : decode cX3_segmentAt 24 = .ok (.istore_n 3, 1) := by decide +kernel
theorem dX3_segmentAt_25 : decode cX3_segmentAt 25 = .ok (.iload_n 3, 1) := by decide +kernel
theorem dX3_segmentAt_26 : decode cX3_segmentAt 26 = .ok (.ifCond .eq 27, 3) := by decide +kernel
theorem dX3_segmentAt_29 : decode cX3_segmentAt 29 = .ok (.iload_n 2, 1) := by decide +kernel
theorem dX3_segmentAt_30 : decode cX3_segmentAt 30 = .ok (.aload_n 0, 1) := by decide +kernel
theorem dX3_segmentAt_31 : decode cX3_segmentAt 31 = .ok (.getfield 27, 3) := by decide +kernel
theorem dX3_segmentAt_34 : decode cX3_segmentAt 34 = .ok (.iload_n 1, 1) := by decide +kernel
theorem dX3_segmentAt_35 : decode cX3_segmentAt 35 = .ok (.iaload, 1) := by decide +kernel
theorem dX3_segmentAt_36 : decode cX3_segmentAt 36 = .ok (.if_icmp .ge 17, 3) := by decide +kernel
theorem dX3_segmentAt_39 : decode cX3_segmentAt 39 = .ok (.aload_n 0, 1) := by decide +kernel
theorem dX3_segmentAt_40 : decode cX3_segmentAt 40 = .ok (.getfield 24, 3) := by decide +kernel
theorem dX3_segmentAt_43 : decode cX3_segmentAt 43 = .ok (.iload_n 1, 1) := by decide +kernel
theorem dX3_segmentAt_44 : decode cX3_segmentAt 44 = .ok (.bipush 60, 2) := by decide +kernel
theorem dX3_segmentAt_46 : decode cX3_segmentAt 46 = .ok (.imul, 1) := by decide +kernel
theorem dX3_segmentAt_47 : decode cX3_segmentAt 47 = .ok (.iload_n 2, 1) := by decide +kernel
theorem dX3_segmentAt_48 : decode cX3_segmentAt 48 = .ok (.iadd, 1) := by decide +kernel
theorem dX3_segmentAt_49 : decode cX3_segmentAt 49 = .ok (.iaload, 1) := by decide +kernel
theorem dX3_segmentAt_50 : decode cX3_segmentAt 50 = .ok (.goto 4, 3) := by decide +kernel
theorem dX3_segmentAt_53 : decode cX3_segmentAt 53 = .ok (.iconst (-1), 1) := by decide +kernel
theorem dX3_segmentAt_54 : decode cX3_segmentAt 54 = .ok (.ireturn, 1) := by decide +kernel
theorem dX3_typeOf_0 : decode cX3_typeOf 0 = .ok (.iload_n 1, 1) := by decide +kernel
theorem dX3_typeOf_1 : decode cX3_typeOf 1 = .ok (.ifCond .lt 18, 3) := by decide +kernel
theorem dX3_typeOf_4 : decode cX3_typeOf 4 = .ok (.iload_n 1, 1) := by decide +kernel
theorem dX3_typeOf_5 : decode cX3_typeOf 5 = .ok (.bipush 60, 2) := by decide +kernel
theorem dX3_typeOf_7 : decode cX3_typeOf 7 = .ok (.if_icmp .ge 12, 3) := by decide +kernel
theorem dX3_typeOf_10 : decode cX3_typeOf 10 = .ok (.aload_n 0, 1) := by decide +kernel
theorem dX3_typeOf_11 : decode cX3_typeOf 11 = .ok (.getfield 9, 3) := by decide +kernel
theorem dX3_typeOf_14 : decode cX3_typeOf 14 = .ok (.iload_n 1, 1) := by decide +kernel
theorem dX3_typeOf_15 : decode cX3_typeOf 15 = .ok (.iaload, 1) := by decide +kernel
theorem dX3_typeOf_16 : decode cX3_typeOf 16 = .ok (.goto 4, 3) := by decide +kernel
theorem dX3_typeOf_19 : decode cX3_typeOf 19 = .ok (.iconst (-1), 1) := by decide +kernel
theorem dX3_typeOf_20 : decode cX3_typeOf 20 = .ok (.ireturn, 1) := by decide +kernel
theorem dX3_databaseOf_0 : decode cX3_databaseOf 0 = .ok (.aload_n 0, 1) := by decide +kernel
theorem dX3_databaseOf_1 : decode cX3_databaseOf 1 = .ok (.getfield 41, 3) := by decide +kernel
theorem dX3_databaseOf_4 : decode cX3_databaseOf 4 = .ok (.aload_n 0, 1) := by decide +kernel
theorem dX3_databaseOf_5 : decode cX3_databaseOf 5 = .ok (.iload_n 1, 1) := by decide +kernel
theorem dX3_databaseOf_6 : decode cX3_databaseOf 6 = .ok (.invokevirtual 45, 3) := by decide +kernel
theorem dX3_databaseOf_9 : decode cX3_databaseOf 9 = .ok (.invokevirtual 49, 3) := by decide +kernel
theorem dX3_databaseOf_12 : decode cX3_databaseOf 12 = .ok (.ireturn, 1) := by decide +kernel
theorem dX3_parentOf_0 : decode cX3_parentOf 0 = .ok (.iload_n 1, 1) := by decide +kernel
theorem dX3_parentOf_1 : decode cX3_parentOf 1 = .ok (.ifCond .lt 18, 3) := by decide +kernel
theorem dX3_parentOf_4 : decode cX3_parentOf 4 = .ok (.iload_n 1, 1) := by decide +kernel
theorem dX3_parentOf_5 : decode cX3_parentOf 5 = .ok (.bipush 60, 2) := by decide +kernel
theorem dX3_parentOf_7 : decode cX3_parentOf 7 = .ok (.if_icmp .ge 12, 3) := by decide +kernel
theorem dX3_parentOf_10 : decode cX3_parentOf 10 = .ok (.aload_n 0, 1) := by decide +kernel
theorem dX3_parentOf_11 : decode cX3_parentOf 11 = .ok (.getfield 15, 3) := by decide +kernel
theorem dX3_parentOf_14 : decode cX3_parentOf 14 = .ok (.iload_n 1, 1) := by decide +kernel
theorem dX3_parentOf_15 : decode cX3_parentOf 15 = .ok (.iaload, 1) := by decide +kernel
theorem dX3_parentOf_16 : decode cX3_parentOf 16 = .ok (.goto 4, 3) := by decide +kernel
theorem dX3_parentOf_19 : decode cX3_parentOf 19 = .ok (.iconst (-1), 1) := by decide +kernel
theorem dX3_parentOf_20 : decode cX3_parentOf 20 = .ok (.ireturn, 1) := by decide +kernel
theorem dX3_numberOf_0 : decode cX3_numberOf 0 = .ok (.iload_n 1, 1) := by decide +kernel
theorem dX3_numberOf_1 : decode cX3_numberOf 1 = .ok (.ifCond .lt 22, 3) := by decide +kernel
theorem dX3_numberOf_4 : decode cX3_numberOf 4 = .ok (.iload_n 1, 1) := by decide +kernel
theorem dX3_numberOf_5 : decode cX3_numberOf 5 = .ok (.bipush 60, 2) := by decide +kernel
theorem dX3_numberOf_7 : decode cX3_numberOf 7 = .ok (.if_icmp .ge 16, 3) := by decide +kernel
theorem dX3_numberOf_10 : decode cX3_numberOf 10 = .ok (.iload_n 2, 1) := by decide +kernel
theorem dX3_numberOf_11 : decode cX3_numberOf 11 = .ok (.ifCond .lt 12, 3) := by decide +kernel
theorem dX3_numberOf_14 : decode cX3_numberOf 14 = .ok (.iload_n 2, 1) := by decide +kernel
theorem dX3_numberOf_15 : decode cX3_numberOf 15 = .ok (.iconst 3, 1) := by decide +kernel
theorem dX3_numberOf_16 : decode cX3_numberOf 16 = .ok (.if_icmp .ge 7, 3) := by decide +kernel
theorem dX3_numberOf_19 : decode cX3_numberOf 19 = .ok (.iconst 1, 1) := by decide +kernel
theorem dX3_numberOf_20 : decode cX3_numberOf 20 = .ok (.goto 4, 3) := by decide +kernel
theorem dX3_numberOf_23 : decode cX3_numberOf 23 = .ok (.iconst 0, 1) := by decide +kernel
theorem dX3_numberOf_24 : decode cX3_numberOf 24 = .ok (.istore_n 3, 1) := by decide +kernel
theorem dX3_numberOf_25 : decode cX3_numberOf 25 = .ok (.iload_n 3, 1) := by decide +kernel
theorem dX3_numberOf_26 : decode cX3_numberOf 26 = .ok (.ifCond .eq 16, 3) := by decide +kernel
theorem dX3_numberOf_29 : decode cX3_numberOf 29 = .ok (.aload_n 0, 1) := by decide +kernel
theorem dX3_numberOf_30 : decode cX3_numberOf 30 = .ok (.getfield 21, 3) := by decide +kernel
theorem dX3_numberOf_33 : decode cX3_numberOf 33 = .ok (.iload_n 1, 1) := by decide +kernel
theorem dX3_numberOf_34 : decode cX3_numberOf 34 = .ok (.iconst 3, 1) := by decide +kernel
theorem dX3_numberOf_35 : decode cX3_numberOf 35 = .ok (.imul, 1) := by decide +kernel
theorem dX3_numberOf_36 : decode cX3_numberOf 36 = .ok (.iload_n 2, 1) := by decide +kernel
theorem dX3_numberOf_37 : decode cX3_numberOf 37 = .ok (.iadd, 1) := by decide +kernel
theorem dX3_numberOf_38 : decode cX3_numberOf 38 = .ok (.iaload, 1) := by decide +kernel
theorem dX3_numberOf_39 : decode cX3_numberOf 39 = .ok (.goto 4, 3) := by decide +kernel
theorem dX3_numberOf_42 : decode cX3_numberOf 42 = .ok (.iconst (-1), 1) := by decide +kernel
theorem dX3_numberOf_43 : decode cX3_numberOf 43 = .ok (.ireturn, 1) := by decide +kernel
theorem dX3_setNumber_0 : decode cX3_setNumber 0 = .ok (.iload_n 1, 1) := by decide +kernel
theorem dX3_setNumber_1 : decode cX3_setNumber 1 = .ok (.invokestatic 54, 3) := by decide +kernel
theorem dX3_setNumber_4 : decode cX3_setNumber 4 = .ok (.ifCond .eq 23, 3) := by decide +kernel
theorem dX3_setNumber_7 : decode cX3_setNumber 7 = .ok (.iload_n 2, 1) := by decide +kernel
theorem dX3_setNumber_8 : decode cX3_setNumber 8 = .ok (.ifCond .lt 19, 3) := by decide +kernel
theorem dX3_setNumber_11 : decode cX3_setNumber 11 = .ok (.iload_n 2, 1) := by decide +kernel
theorem dX3_setNumber_12 : decode cX3_setNumber 12 = .ok (.iconst 3, 1) := by decide +kernel
theorem dX3_setNumber_13 : decode cX3_setNumber 13 = .ok (.if_icmp .ge 14, 3) := by decide +kernel
theorem dX3_setNumber_16 : decode cX3_setNumber 16 = .ok (.aload_n 0, 1) := by decide +kernel
theorem dX3_setNumber_17 : decode cX3_setNumber 17 = .ok (.getfield 21, 3) := by decide +kernel
theorem dX3_setNumber_20 : decode cX3_setNumber 20 = .ok (.iload_n 1, 1) := by decide +kernel
theorem dX3_setNumber_21 : decode cX3_setNumber 21 = .ok (.iconst 3, 1) := by decide +kernel
theorem dX3_setNumber_22 : decode cX3_setNumber 22 = .ok (.imul, 1) := by decide +kernel
theorem dX3_setNumber_23 : decode cX3_setNumber 23 = .ok (.iload_n 2, 1) := by decide +kernel
theorem dX3_setNumber_24 : decode cX3_setNumber 24 = .ok (.iadd, 1) := by decide +kernel
theorem dX3_setNumber_25 : decode cX3_setNumber 25 = .ok (.iload_n 3, 1) := by decide +kernel
theorem dX3_setNumber_26 : decode cX3_setNumber 26 = .ok (.iastore, 1) := by decide +kernel
theorem dX3_setNumber_27 : decode cX3_setNumber 27 = .ok (.return_, 1) := by decide +kernel
theorem dX3_signOf_0 : decode cX3_signOf 0 = .ok (.sipush 1000, 3) := by decide +kernel
theorem dX3_signOf_3 : decode cX3_signOf 3 = .ok (.aload_n 0, 1) := by decide +kernel
theorem dX3_signOf_4 : decode cX3_signOf 4 = .ok (.iload_n 1, 1) := by decide +kernel
theorem dX3_signOf_5 : decode cX3_signOf 5 = .ok (.invokevirtual 45, 3) := by decide +kernel
theorem dX3_signOf_8 : decode cX3_signOf 8 = .ok (.imul, 1) := by decide +kernel
theorem dX3_signOf_9 : decode cX3_signOf 9 = .ok (.aload_n 0, 1) := by decide +kernel
theorem dX3_signOf_10 : decode cX3_signOf 10 = .ok (.iload_n 1, 1) := by decide +kernel
theorem dX3_signOf_11 : decode cX3_signOf 11 = .ok (.iconst 0, 1) := by decide +kernel
theorem dX3_signOf_12 : decode cX3_signOf 12 = .ok (.invokevirtual 58, 3) := by decide +kernel
theorem dX3_signOf_15 : decode cX3_signOf 15 = .ok (.iadd, 1) := by decide +kernel
theorem dX3_signOf_16 : decode cX3_signOf 16 = .ok (.ireturn, 1) := by decide +kernel
theorem dX3_placeOf_0 : decode cX3_placeOf 0 = .ok (.iload_n 1, 1) := by decide +kernel
theorem dX3_placeOf_1 : decode cX3_placeOf 1 = .ok (.ifCond .lt 18, 3) := by decide +kernel
theorem dX3_placeOf_4 : decode cX3_placeOf 4 = .ok (.iload_n 1, 1) := by decide +kernel
theorem dX3_placeOf_5 : decode cX3_placeOf 5 = .ok (.bipush 60, 2) := by decide +kernel
theorem dX3_placeOf_7 : decode cX3_placeOf 7 = .ok (.if_icmp .ge 12, 3) := by decide +kernel
theorem dX3_placeOf_10 : decode cX3_placeOf 10 = .ok (.aload_n 0, 1) := by decide +kernel
theorem dX3_placeOf_11 : decode cX3_placeOf 11 = .ok (.getfield 30, 3) := by decide +kernel
theorem dX3_placeOf_14 : decode cX3_placeOf 14 = .ok (.iload_n 1, 1) := by decide +kernel
theorem dX3_placeOf_15 : decode cX3_placeOf 15 = .ok (.iaload, 1) := by decide +kernel
theorem dX3_placeOf_16 : decode cX3_placeOf 16 = .ok (.goto 4, 3) := by decide +kernel
theorem dX3_placeOf_19 : decode cX3_placeOf 19 = .ok (.iconst (-1), 1) := by decide +kernel
theorem dX3_placeOf_20 : decode cX3_placeOf 20 = .ok (.ireturn, 1) := by decide +kernel
theorem dX3_isBelow_0 : decode cX3_isBelow 0 = .ok (.aload_n 0, 1) := by decide +kernel
theorem dX3_isBelow_1 : decode cX3_isBelow 1 = .ok (.iload_n 1, 1) := by decide +kernel
theorem dX3_isBelow_2 : decode cX3_isBelow 2 = .ok (.invokevirtual 62, 3) := by decide +kernel
theorem dX3_isBelow_5 : decode cX3_isBelow 5 = .ok (.istore_n 3, 1) := by decide +kernel
theorem dX3_isBelow_6 : decode cX3_isBelow 6 = .ok (.iconst 0, 1) := by decide +kernel
theorem dX3_isBelow_7 : decode cX3_isBelow 7 = .ok (.istore 4, 2) := by decide +kernel
theorem dX3_isBelow_9 : decode cX3_isBelow 9 = .ok (.iload 4, 2) := by decide +kernel
theorem dX3_isBelow_11 : decode cX3_isBelow 11 = .ok (.iconst 4, 1) := by decide +kernel
theorem dX3_isBelow_12 : decode cX3_isBelow 12 = .ok (.if_icmp .ge 27, 3) := by decide +kernel
theorem dX3_isBelow_15 : decode cX3_isBelow 15 = .ok (.iload_n 3, 1) := by decide +kernel
theorem dX3_isBelow_16 : decode cX3_isBelow 16 = .ok (.iconst (-1), 1) := by decide +kernel
theorem dX3_isBelow_17 : decode cX3_isBelow 17 = .ok (.if_icmp .eq 22, 3) := by decide +kernel
theorem dX3_isBelow_20 : decode cX3_isBelow 20 = .ok (.iload_n 3, 1) := by decide +kernel
theorem dX3_isBelow_21 : decode cX3_isBelow 21 = .ok (.iload_n 2, 1) := by decide +kernel
theorem dX3_isBelow_22 : decode cX3_isBelow 22 = .ok (.if_icmp .ne 5, 3) := by decide +kernel
theorem dX3_isBelow_25 : decode cX3_isBelow 25 = .ok (.iconst 1, 1) := by decide +kernel
theorem dX3_isBelow_26 : decode cX3_isBelow 26 = .ok (.ireturn, 1) := by decide +kernel
theorem dX3_isBelow_27 : decode cX3_isBelow 27 = .ok (.aload_n 0, 1) := by decide +kernel
theorem dX3_isBelow_28 : decode cX3_isBelow 28 = .ok (.iload_n 3, 1) := by decide +kernel
theorem dX3_isBelow_29 : decode cX3_isBelow 29 = .ok (.invokevirtual 62, 3) := by decide +kernel
theorem dX3_isBelow_32 : decode cX3_isBelow 32 = .ok (.istore_n 3, 1) := by decide +kernel
theorem dX3_isBelow_33 : decode cX3_isBelow 33 = .ok (.iinc 4 1, 3) := by decide +kernel
theorem dX3_isBelow_36 : decode cX3_isBelow 36 = .ok (.goto (-27), 3) := by decide +kernel
theorem dX3_isBelow_39 : decode cX3_isBelow 39 = .ok (.iconst 0, 1) := by decide +kernel
theorem dX3_isBelow_40 : decode cX3_isBelow 40 = .ok (.ireturn, 1) := by decide +kernel
theorem dX3_upward_0 : decode cX3_upward 0 = .ok (.iload_n 1, 1) := by decide +kernel
theorem dX3_upward_1 : decode cX3_upward 1 = .ok (.istore_n 3, 1) := by decide +kernel
theorem dX3_upward_2 : decode cX3_upward 2 = .ok (.iconst 0, 1) := by decide +kernel
theorem dX3_upward_3 : decode cX3_upward 3 = .ok (.istore 4, 2) := by decide +kernel
theorem dX3_upward_5 : decode cX3_upward 5 = .ok (.iload 4, 2) := by decide +kernel
theorem dX3_upward_7 : decode cX3_upward 7 = .ok (.iconst 4, 1) := by decide +kernel
theorem dX3_upward_8 : decode cX3_upward 8 = .ok (.if_icmp .ge 31, 3) := by decide +kernel
theorem dX3_upward_11 : decode cX3_upward 11 = .ok (.iload_n 3, 1) := by decide +kernel
theorem dX3_upward_12 : decode cX3_upward 12 = .ok (.iconst (-1), 1) := by decide +kernel
theorem dX3_upward_13 : decode cX3_upward 13 = .ok (.if_icmp .eq 26, 3) := by decide +kernel
theorem dX3_upward_16 : decode cX3_upward 16 = .ok (.aload_n 0, 1) := by decide +kernel
theorem dX3_upward_17 : decode cX3_upward 17 = .ok (.iload_n 3, 1) := by decide +kernel
theorem dX3_upward_18 : decode cX3_upward 18 = .ok (.invokevirtual 45, 3) := by decide +kernel
theorem dX3_upward_21 : decode cX3_upward 21 = .ok (.iload_n 2, 1) := by decide +kernel
theorem dX3_upward_22 : decode cX3_upward 22 = .ok (.if_icmp .ne 5, 3) := by decide +kernel
theorem dX3_upward_25 : decode cX3_upward 25 = .ok (.iload_n 3, 1) := by decide +kernel
theorem dX3_upward_26 : decode cX3_upward 26 = .ok (.ireturn, 1) := by decide +kernel
theorem dX3_upward_27 : decode cX3_upward 27 = .ok (.aload_n 0, 1) := by decide +kernel
theorem dX3_upward_28 : decode cX3_upward 28 = .ok (.iload_n 3, 1) := by decide +kernel
theorem dX3_upward_29 : decode cX3_upward 29 = .ok (.invokevirtual 62, 3) := by decide +kernel
theorem dX3_upward_32 : decode cX3_upward 32 = .ok (.istore_n 3, 1) := by decide +kernel
theorem dX3_upward_33 : decode cX3_upward 33 = .ok (.iinc 4 1, 3) := by decide +kernel
theorem dX3_upward_36 : decode cX3_upward 36 = .ok (.goto (-31), 3) := by decide +kernel
theorem dX3_upward_39 : decode cX3_upward 39 = .ok (.iconst (-1), 1) := by decide +kernel
theorem dX3_upward_40 : decode cX3_upward 40 = .ok (.ireturn, 1) := by decide +kernel
theorem dX3_isTwin_0 : decode cX3_isTwin 0 = .ok (.iload_n 1, 1) := by decide +kernel
theorem dX3_isTwin_1 : decode cX3_isTwin 1 = .ok (.ifCond .lt 13, 3) := by decide +kernel
theorem dX3_isTwin_4 : decode cX3_isTwin 4 = .ok (.iload_n 1, 1) := by decide +kernel
theorem dX3_isTwin_5 : decode cX3_isTwin 5 = .ok (.bipush 60, 2) := by decide +kernel
theorem dX3_isTwin_7 : decode cX3_isTwin 7 = .ok (.if_icmp .ge 7, 3) := by decide +kernel
theorem dX3_isTwin_10 : decode cX3_isTwin 10 = .ok (.iconst 1, 1) := by decide +kernel
theorem dX3_isTwin_11 : decode cX3_isTwin 11 = .ok (.goto 4, 3) := by decide +kernel
theorem dX3_isTwin_14 : decode cX3_isTwin 14 = .ok (.iconst 0, 1) := by decide +kernel
theorem dX3_isTwin_15 : decode cX3_isTwin 15 = .ok (.istore 4, 2) := by decide +kernel
theorem dX3_isTwin_17 : decode cX3_isTwin 17 = .ok (.iload 4, 2) := by decide +kernel
theorem dX3_isTwin_19 : decode cX3_isTwin 19 = .ok (.ifCond .eq 27, 3) := by decide +kernel
theorem dX3_isTwin_22 : decode cX3_isTwin 22 = .ok (.aload_n 0, 1) := by decide +kernel
theorem dX3_isTwin_23 : decode cX3_isTwin 23 = .ok (.getfield 9, 3) := by decide +kernel
theorem dX3_isTwin_26 : decode cX3_isTwin 26 = .ok (.iload_n 1, 1) := by decide +kernel
theorem dX3_isTwin_27 : decode cX3_isTwin 27 = .ok (.iaload, 1) := by decide +kernel
theorem dX3_isTwin_28 : decode cX3_isTwin 28 = .ok (.iload_n 2, 1) := by decide +kernel
theorem dX3_isTwin_29 : decode cX3_isTwin 29 = .ok (.if_icmp .ne 17, 3) := by decide +kernel
theorem dX3_isTwin_32 : decode cX3_isTwin 32 = .ok (.aload_n 0, 1) := by decide +kernel
theorem dX3_isTwin_33 : decode cX3_isTwin 33 = .ok (.getfield 15, 3) := by decide +kernel
theorem dX3_isTwin_36 : decode cX3_isTwin 36 = .ok (.iload_n 1, 1) := by decide +kernel
theorem dX3_isTwin_37 : decode cX3_isTwin 37 = .ok (.iaload, 1) := by decide +kernel
theorem dX3_isTwin_38 : decode cX3_isTwin 38 = .ok (.iload_n 3, 1) := by decide +kernel
theorem dX3_isTwin_39 : decode cX3_isTwin 39 = .ok (.if_icmp .ne 7, 3) := by decide +kernel
theorem dX3_isTwin_42 : decode cX3_isTwin 42 = .ok (.iconst 1, 1) := by decide +kernel
theorem dX3_isTwin_43 : decode cX3_isTwin 43 = .ok (.goto 4, 3) := by decide +kernel
theorem dX3_isTwin_46 : decode cX3_isTwin 46 = .ok (.iconst 0, 1) := by decide +kernel
theorem dX3_isTwin_47 : decode cX3_isTwin 47 = .ok (.ireturn, 1) := by decide +kernel
theorem dX3_hasTwin_0 : decode cX3_hasTwin 0 = .ok (.iconst 0, 1) := by decide +kernel
theorem dX3_hasTwin_1 : decode cX3_hasTwin 1 = .ok (.istore 4, 2) := by decide +kernel
theorem dX3_hasTwin_3 : decode cX3_hasTwin 3 = .ok (.iload 4, 2) := by decide +kernel
theorem dX3_hasTwin_5 : decode cX3_hasTwin 5 = .ok (.bipush 60, 2) := by decide +kernel
theorem dX3_hasTwin_7 : decode cX3_hasTwin 7 = .ok (.if_icmp .ge 33, 3) := by decide +kernel
theorem dX3_hasTwin_10 : decode cX3_hasTwin 10 = .ok (.aload_n 0, 1) := by decide +kernel
theorem dX3_hasTwin_11 : decode cX3_hasTwin 11 = .ok (.iload 4, 2) := by decide +kernel
theorem dX3_hasTwin_13 : decode cX3_hasTwin 13 = .ok (.iload_n 1, 1) := by decide +kernel
theorem dX3_hasTwin_14 : decode cX3_hasTwin 14 = .ok (.iload_n 2, 1) := by decide +kernel
theorem dX3_hasTwin_15 : decode cX3_hasTwin 15 = .ok (.invokevirtual 65, 3) := by decide +kernel
theorem dX3_hasTwin_18 : decode cX3_hasTwin 18 = .ok (.ifCond .eq 16, 3) := by decide +kernel
theorem dX3_hasTwin_21 : decode cX3_hasTwin 21 = .ok (.aload_n 0, 1) := by decide +kernel
theorem dX3_hasTwin_22 : decode cX3_hasTwin 22 = .ok (.iload 4, 2) := by decide +kernel
theorem dX3_hasTwin_24 : decode cX3_hasTwin 24 = .ok (.iconst 0, 1) := by decide +kernel
theorem dX3_hasTwin_25 : decode cX3_hasTwin 25 = .ok (.invokevirtual 58, 3) := by decide +kernel
theorem dX3_hasTwin_28 : decode cX3_hasTwin 28 = .ok (.iload_n 3, 1) := by decide +kernel
theorem dX3_hasTwin_29 : decode cX3_hasTwin 29 = .ok (.if_icmp .ne 5, 3) := by decide +kernel
theorem dX3_hasTwin_32 : decode cX3_hasTwin 32 = .ok (.iconst 1, 1) := by decide +kernel
theorem dX3_hasTwin_33 : decode cX3_hasTwin 33 = .ok (.ireturn, 1) := by decide +kernel
theorem dX3_hasTwin_34 : decode cX3_hasTwin 34 = .ok (.iinc 4 1, 3) := by decide +kernel
theorem dX3_hasTwin_37 : decode cX3_hasTwin 37 = .ok (.goto (-34), 3) := by decide +kernel
theorem dX3_hasTwin_40 : decode cX3_hasTwin 40 = .ok (.iconst 0, 1) := by decide +kernel
theorem dX3_hasTwin_41 : decode cX3_hasTwin 41 = .ok (.ireturn, 1) := by decide +kernel
theorem dX3_rootOf_0 : decode cX3_rootOf 0 = .ok (.iconst 0, 1) := by decide +kernel
theorem dX3_rootOf_1 : decode cX3_rootOf 1 = .ok (.istore_n 3, 1) := by decide +kernel
theorem dX3_rootOf_2 : decode cX3_rootOf 2 = .ok (.iload_n 3, 1) := by decide +kernel
theorem dX3_rootOf_3 : decode cX3_rootOf 3 = .ok (.bipush 60, 2) := by decide +kernel
theorem dX3_rootOf_5 : decode cX3_rootOf 5 = .ok (.if_icmp .ge 36, 3) := by decide +kernel
theorem dX3_rootOf_8 : decode cX3_rootOf 8 = .ok (.iload_n 1, 1) := by decide +kernel
theorem dX3_rootOf_9 : decode cX3_rootOf 9 = .ok (.iconst (-1), 1) := by decide +kernel
theorem dX3_rootOf_10 : decode cX3_rootOf 10 = .ok (.if_icmp .eq 31, 3) := by decide +kernel
theorem dX3_rootOf_13 : decode cX3_rootOf 13 = .ok (.aload_n 0, 1) := by decide +kernel
theorem dX3_rootOf_14 : decode cX3_rootOf 14 = .ok (.getfield 9, 3) := by decide +kernel
theorem dX3_rootOf_17 : decode cX3_rootOf 17 = .ok (.iload_n 3, 1) := by decide +kernel
theorem dX3_rootOf_18 : decode cX3_rootOf 18 = .ok (.iaload, 1) := by decide +kernel
theorem dX3_rootOf_19 : decode cX3_rootOf 19 = .ok (.iload_n 1, 1) := by decide +kernel
theorem dX3_rootOf_20 : decode cX3_rootOf 20 = .ok (.if_icmp .ne 15, 3) := by decide +kernel
theorem dX3_rootOf_23 : decode cX3_rootOf 23 = .ok (.aload_n 0, 1) := by decide +kernel
theorem dX3_rootOf_24 : decode cX3_rootOf 24 = .ok (.iload_n 3, 1) := by decide +kernel
theorem dX3_rootOf_25 : decode cX3_rootOf 25 = .ok (.iconst 0, 1) := by decide +kernel
theorem dX3_rootOf_26 : decode cX3_rootOf 26 = .ok (.invokevirtual 58, 3) := by decide +kernel
theorem dX3_rootOf_29 : decode cX3_rootOf 29 = .ok (.iload_n 2, 1) := by decide +kernel
theorem dX3_rootOf_30 : decode cX3_rootOf 30 = .ok (.if_icmp .ne 5, 3) := by decide +kernel
theorem dX3_rootOf_33 : decode cX3_rootOf 33 = .ok (.iload_n 3, 1) := by decide +kernel
theorem dX3_rootOf_34 : decode cX3_rootOf 34 = .ok (.ireturn, 1) := by decide +kernel
theorem dX3_rootOf_35 : decode cX3_rootOf 35 = .ok (.iinc 3 1, 3) := by decide +kernel
theorem dX3_rootOf_38 : decode cX3_rootOf 38 = .ok (.goto (-36), 3) := by decide +kernel
theorem dX3_rootOf_41 : decode cX3_rootOf 41 = .ok (.iconst (-1), 1) := by decide +kernel
theorem dX3_rootOf_42 : decode cX3_rootOf 42 = .ok (.ireturn, 1) := by decide +kernel
theorem dX3_isTied_0 : decode cX3_isTied 0 = .ok (.aload_n 0, 1) := by decide +kernel
theorem dX3_isTied_1 : decode cX3_isTied 1 = .ok (.getfield 41, 3) := by decide +kernel
theorem dX3_isTied_4 : decode cX3_isTied 4 = .ok (.aload_n 0, 1) := by decide +kernel
theorem dX3_isTied_5 : decode cX3_isTied 5 = .ok (.iload_n 1, 1) := by decide +kernel
theorem dX3_isTied_6 : decode cX3_isTied 6 = .ok (.invokevirtual 45, 3) := by decide +kernel
theorem dX3_isTied_9 : decode cX3_isTied 9 = .ok (.invokevirtual 69, 3) := by decide +kernel
theorem dX3_isTied_12 : decode cX3_isTied 12 = .ok (.istore_n 3, 1) := by decide +kernel
theorem dX3_isTied_13 : decode cX3_isTied 13 = .ok (.iload_n 3, 1) := by decide +kernel
theorem dX3_isTied_14 : decode cX3_isTied 14 = .ok (.iconst (-1), 1) := by decide +kernel
theorem dX3_isTied_15 : decode cX3_isTied 15 = .ok (.if_icmp .eq 31, 3) := by decide +kernel
theorem dX3_isTied_18 : decode cX3_isTied 18 = .ok (.iload_n 3, 1) := by decide +kernel
theorem dX3_isTied_19 : decode cX3_isTied 19 = .ok (.aload_n 0, 1) := by decide +kernel
theorem dX3_isTied_20 : decode cX3_isTied 20 = .ok (.iload_n 2, 1) := by decide +kernel
theorem dX3_isTied_21 : decode cX3_isTied 21 = .ok (.invokevirtual 45, 3) := by decide +kernel
theorem dX3_isTied_24 : decode cX3_isTied 24 = .ok (.if_icmp .ne 22, 3) := by decide +kernel
theorem dX3_isTied_27 : decode cX3_isTied 27 = .ok (.aload_n 0, 1) := by decide +kernel
theorem dX3_isTied_28 : decode cX3_isTied 28 = .ok (.iload_n 1, 1) := by decide +kernel
theorem dX3_isTied_29 : decode cX3_isTied 29 = .ok (.iconst 2, 1) := by decide +kernel
theorem dX3_isTied_30 : decode cX3_isTied 30 = .ok (.invokevirtual 58, 3) := by decide +kernel
theorem dX3_isTied_33 : decode cX3_isTied 33 = .ok (.aload_n 0, 1) := by decide +kernel
theorem dX3_isTied_34 : decode cX3_isTied 34 = .ok (.iload_n 2, 1) := by decide +kernel
theorem dX3_isTied_35 : decode cX3_isTied 35 = .ok (.iconst 0, 1) := by decide +kernel
theorem dX3_isTied_36 : decode cX3_isTied 36 = .ok (.invokevirtual 58, 3) := by decide +kernel
theorem dX3_isTied_39 : decode cX3_isTied 39 = .ok (.if_icmp .ne 7, 3) := by decide +kernel
theorem dX3_isTied_42 : decode cX3_isTied 42 = .ok (.iconst 1, 1) := by decide +kernel
theorem dX3_isTied_43 : decode cX3_isTied 43 = .ok (.goto 4, 3) := by decide +kernel
theorem dX3_isTied_46 : decode cX3_isTied 46 = .ok (.iconst 0, 1) := by decide +kernel
theorem dX3_isTied_47 : decode cX3_isTied 47 = .ok (.ireturn, 1) := by decide +kernel
theorem dX3_add_0 : decode cX3_add 0 = .ok (.iload_n 3, 1) := by decide +kernel
theorem dX3_add_1 : decode cX3_add 1 = .ok (.iconst (-1), 1) := by decide +kernel
theorem dX3_add_2 : decode cX3_add 2 = .ok (.if_icmp .ne 12, 3) := by decide +kernel
theorem dX3_add_5 : decode cX3_add 5 = .ok (.aload_n 0, 1) := by decide +kernel
theorem dX3_add_6 : decode cX3_add 6 = .ok (.iload_n 1, 1) := by decide +kernel
theorem dX3_add_7 : decode cX3_add 7 = .ok (.iload_n 2, 1) := by decide +kernel
theorem dX3_add_8 : decode cX3_add 8 = .ok (.invokevirtual 72, 3) := by decide +kernel
theorem dX3_add_11 : decode cX3_add 11 = .ok (.goto 8, 3) := by decide +kernel
theorem dX3_add_14 : decode cX3_add 14 = .ok (.aload_n 0, 1) := by decide +kernel
theorem dX3_add_15 : decode cX3_add 15 = .ok (.iload_n 3, 1) := by decide +kernel
theorem dX3_add_16 : decode cX3_add 16 = .ok (.invokevirtual 75, 3) := by decide +kernel
theorem dX3_add_19 : decode cX3_add 19 = .ok (.istore 4, 2) := by decide +kernel
theorem dX3_add_21 : decode cX3_add 21 = .ok (.aload_n 0, 1) := by decide +kernel
theorem dX3_add_22 : decode cX3_add 22 = .ok (.invokevirtual 78, 3) := by decide +kernel
theorem dX3_add_25 : decode cX3_add 25 = .ok (.istore 5, 2) := by decide +kernel
theorem dX3_add_27 : decode cX3_add 27 = .ok (.iload 5, 2) := by decide +kernel
theorem dX3_add_29 : decode cX3_add 29 = .ok (.iconst (-1), 1) := by decide +kernel
theorem dX3_add_30 : decode cX3_add 30 = .ok (.if_icmp .eq 9, 3) := by decide +kernel
theorem dX3_add_33 : decode cX3_add 33 = .ok (.iload 4, 2) := by decide +kernel
theorem dX3_add_35 : decode cX3_add 35 = .ok (.iconst (-1), 1) := by decide +kernel
theorem dX3_add_36 : decode cX3_add 36 = .ok (.if_icmp .ne 5, 3) := by decide +kernel
theorem dX3_add_39 : decode cX3_add 39 = .ok (.iconst (-1), 1) := by decide +kernel
theorem dX3_add_40 : decode cX3_add 40 = .ok (.ireturn, 1) := by decide +kernel
theorem dX3_add_41 : decode cX3_add 41 = .ok (.aload_n 0, 1) := by decide +kernel
theorem dX3_add_42 : decode cX3_add 42 = .ok (.getfield 18, 3) := by decide +kernel
theorem dX3_add_45 : decode cX3_add 45 = .ok (.iload 5, 2) := by decide +kernel
theorem dX3_add_47 : decode cX3_add 47 = .ok (.aload_n 0, 1) := by decide +kernel
theorem dX3_add_48 : decode cX3_add 48 = .ok (.iload_n 1, 1) := by decide +kernel
theorem dX3_add_49 : decode cX3_add 49 = .ok (.iload_n 2, 1) := by decide +kernel
theorem dX3_add_50 : decode cX3_add 50 = .ok (.iload_n 3, 1) := by decide +kernel
theorem dX3_add_51 : decode cX3_add 51 = .ok (.invokevirtual 82, 3) := by decide +kernel
theorem dX3_add_54 : decode cX3_add 54 = .ok (.iastore, 1) := by decide +kernel
theorem dX3_add_55 : decode cX3_add 55 = .ok (.aload_n 0, 1) := by decide +kernel
theorem dX3_add_56 : decode cX3_add 56 = .ok (.getfield 9, 3) := by decide +kernel
theorem dX3_add_59 : decode cX3_add 59 = .ok (.iload 5, 2) := by decide +kernel
theorem dX3_add_61 : decode cX3_add 61 = .ok (.iload_n 1, 1) := by decide +kernel
theorem dX3_add_62 : decode cX3_add 62 = .ok (.iastore, 1) := by decide +kernel
theorem dX3_add_63 : decode cX3_add 63 = .ok (.aload_n 0, 1) := by decide +kernel
theorem dX3_add_64 : decode cX3_add 64 = .ok (.getfield 15, 3) := by decide +kernel
theorem dX3_add_67 : decode cX3_add 67 = .ok (.iload 5, 2) := by decide +kernel
theorem dX3_add_69 : decode cX3_add 69 = .ok (.iload_n 2, 1) := by decide +kernel
theorem dX3_add_70 : decode cX3_add 70 = .ok (.iastore, 1) := by decide +kernel
theorem dX3_add_71 : decode cX3_add 71 = .ok (.iconst 0, 1) := by decide +kernel
theorem dX3_add_72 : decode cX3_add 72 = .ok (.istore 6, 2) := by decide +kernel
theorem dX3_add_74 : decode cX3_add 74 = .ok (.iload 6, 2) := by decide +kernel
theorem dX3_add_76 : decode cX3_add 76 = .ok (.iconst 3, 1) := by decide +kernel
theorem dX3_add_77 : decode cX3_add 77 = .ok (.if_icmp .ge 18, 3) := by decide +kernel
theorem dX3_add_80 : decode cX3_add 80 = .ok (.aload_n 0, 1) := by decide +kernel
theorem dX3_add_81 : decode cX3_add 81 = .ok (.iload 5, 2) := by decide +kernel
theorem dX3_add_83 : decode cX3_add 83 = .ok (.iload 6, 2) := by decide +kernel
theorem dX3_add_85 : decode cX3_add 85 = .ok (.iconst 0, 1) := by decide +kernel
theorem dX3_add_86 : decode cX3_add 86 = .ok (.invokevirtual 86, 3) := by decide +kernel
theorem dX3_add_89 : decode cX3_add 89 = .ok (.iinc 6 1, 3) := by decide +kernel
theorem dX3_add_92 : decode cX3_add 92 = .ok (.goto (-18), 3) := by decide +kernel
theorem dX3_add_95 : decode cX3_add 95 = .ok (.aload_n 0, 1) := by decide +kernel
theorem dX3_add_96 : decode cX3_add 96 = .ok (.aload_n 0, 1) := by decide +kernel
theorem dX3_add_97 : decode cX3_add 97 = .ok (.getfield 41, 3) := by decide +kernel
theorem dX3_add_100 : decode cX3_add 100 = .ok (.iload_n 1, 1) := by decide +kernel
theorem dX3_add_101 : decode cX3_add 101 = .ok (.invokevirtual 49, 3) := by decide +kernel
theorem dX3_add_104 : decode cX3_add 104 = .ok (.iload 4, 2) := by decide +kernel
theorem dX3_add_106 : decode cX3_add 106 = .ok (.iload 5, 2) := by decide +kernel
theorem dX3_add_108 : decode cX3_add 108 = .ok (.invokevirtual 90, 3) := by decide +kernel
theorem dX3_add_111 : decode cX3_add 111 = .ok (.iload 5, 2) := by decide +kernel
theorem dX3_add_113 : decode cX3_add 113 = .ok (.ireturn, 1) := by decide +kernel
theorem dX3_unused_0 : decode cX3_unused 0 = .ok (.iconst 0, 1) := by decide +kernel
theorem dX3_unused_1 : decode cX3_unused 1 = .ok (.istore_n 1, 1) := by decide +kernel
theorem dX3_unused_2 : decode cX3_unused 2 = .ok (.iload_n 1, 1) := by decide +kernel
theorem dX3_unused_3 : decode cX3_unused 3 = .ok (.bipush 60, 2) := by decide +kernel
theorem dX3_unused_5 : decode cX3_unused 5 = .ok (.if_icmp .ge 21, 3) := by decide +kernel
theorem dX3_unused_8 : decode cX3_unused 8 = .ok (.aload_n 0, 1) := by decide +kernel
theorem dX3_unused_9 : decode cX3_unused 9 = .ok (.getfield 9, 3) := by decide +kernel
theorem dX3_unused_12 : decode cX3_unused 12 = .ok (.iload_n 1, 1) := by decide +kernel
theorem dX3_unused_13 : decode cX3_unused 13 = .ok (.iaload, 1) := by decide +kernel
theorem dX3_unused_14 : decode cX3_unused 14 = .ok (.iconst (-1), 1) := by decide +kernel
theorem dX3_unused_15 : decode cX3_unused 15 = .ok (.if_icmp .ne 5, 3) := by decide +kernel
theorem dX3_unused_18 : decode cX3_unused 18 = .ok (.iload_n 1, 1) := by decide +kernel
theorem dX3_unused_19 : decode cX3_unused 19 = .ok (.ireturn, 1) := by decide +kernel
theorem dX3_unused_20 : decode cX3_unused 20 = .ok (.iinc 1 1, 3) := by decide +kernel
theorem dX3_unused_23 : decode cX3_unused 23 = .ok (.goto (-21), 3) := by decide +kernel
theorem dX3_unused_26 : decode cX3_unused 26 = .ok (.iconst (-1), 1) := by decide +kernel
theorem dX3_unused_27 : decode cX3_unused 27 = .ok (.ireturn, 1) := by decide +kernel
theorem dX3_endOfTwins_0 : decode cX3_endOfTwins 0 = .ok (.aload_n 0, 1) := by decide +kernel
theorem dX3_endOfTwins_1 : decode cX3_endOfTwins 1 = .ok (.getfield 41, 3) := by decide +kernel
theorem dX3_endOfTwins_4 : decode cX3_endOfTwins 4 = .ok (.iload_n 1, 1) := by decide +kernel
theorem dX3_endOfTwins_5 : decode cX3_endOfTwins 5 = .ok (.invokevirtual 49, 3) := by decide +kernel
theorem dX3_endOfTwins_8 : decode cX3_endOfTwins 8 = .ok (.istore_n 3, 1) := by decide +kernel
theorem dX3_endOfTwins_9 : decode cX3_endOfTwins 9 = .ok (.iload_n 2, 1) := by decide +kernel
theorem dX3_endOfTwins_10 : decode cX3_endOfTwins 10 = .ok (.iconst (-1), 1) := by decide +kernel
theorem dX3_endOfTwins_11 : decode cX3_endOfTwins 11 = .ok (.if_icmp .ne 9, 3) := by decide +kernel
theorem dX3_endOfTwins_14 : decode cX3_endOfTwins 14 = .ok (.aload_n 0, 1) := by decide +kernel
theorem dX3_endOfTwins_15 : decode cX3_endOfTwins 15 = .ok (.iload_n 3, 1) := by decide +kernel
theorem dX3_endOfTwins_16 : decode cX3_endOfTwins 16 = .ok (.invokevirtual 93, 3) := by decide +kernel
theorem dX3_endOfTwins_19 : decode cX3_endOfTwins 19 = .ok (.ireturn, 1) := by decide +kernel
theorem dX3_endOfTwins_20 : decode cX3_endOfTwins 20 = .ok (.aload_n 0, 1) := by decide +kernel
theorem dX3_endOfTwins_21 : decode cX3_endOfTwins 21 = .ok (.iload_n 2, 1) := by decide +kernel
theorem dX3_endOfTwins_22 : decode cX3_endOfTwins 22 = .ok (.invokevirtual 75, 3) := by decide +kernel
theorem dX3_endOfTwins_25 : decode cX3_endOfTwins 25 = .ok (.iconst 1, 1) := by decide +kernel
theorem dX3_endOfTwins_26 : decode cX3_endOfTwins 26 = .ok (.iadd, 1) := by decide +kernel
theorem dX3_endOfTwins_27 : decode cX3_endOfTwins 27 = .ok (.istore 4, 2) := by decide +kernel
theorem dX3_endOfTwins_29 : decode cX3_endOfTwins 29 = .ok (.iconst 0, 1) := by decide +kernel
theorem dX3_endOfTwins_30 : decode cX3_endOfTwins 30 = .ok (.istore 5, 2) := by decide +kernel
theorem dX3_endOfTwins_32 : decode cX3_endOfTwins 32 = .ok (.iload 5, 2) := by decide +kernel
theorem dX3_endOfTwins_34 : decode cX3_endOfTwins 34 = .ok (.bipush 60, 2) := by decide +kernel
theorem dX3_endOfTwins_36 : decode cX3_endOfTwins 36 = .ok (.if_icmp .ge 28, 3) := by decide +kernel
theorem dX3_endOfTwins_39 : decode cX3_endOfTwins 39 = .ok (.aload_n 0, 1) := by decide +kernel
theorem dX3_endOfTwins_40 : decode cX3_endOfTwins 40 = .ok (.aload_n 0, 1) := by decide +kernel
theorem dX3_endOfTwins_41 : decode cX3_endOfTwins 41 = .ok (.iload_n 3, 1) := by decide +kernel
theorem dX3_endOfTwins_42 : decode cX3_endOfTwins 42 = .ok (.iload 4, 2) := by decide +kernel
theorem dX3_endOfTwins_44 : decode cX3_endOfTwins 44 = .ok (.invokevirtual 96, 3) := by decide +kernel
theorem dX3_endOfTwins_47 : decode cX3_endOfTwins 47 = .ok (.iload_n 2, 1) := by decide +kernel
theorem dX3_endOfTwins_48 : decode cX3_endOfTwins 48 = .ok (.iload_n 1, 1) := by decide +kernel
theorem dX3_endOfTwins_49 : decode cX3_endOfTwins 49 = .ok (.invokevirtual 99, 3) := by decide +kernel
theorem dX3_endOfTwins_52 : decode cX3_endOfTwins 52 = .ok (.ifCond .eq 12, 3) := by decide +kernel
theorem dX3_endOfTwins_55 : decode cX3_endOfTwins 55 = .ok (.iinc 4 1, 3) := by decide +kernel
theorem dX3_endOfTwins_58 : decode cX3_endOfTwins 58 = .ok (.iinc 5 1, 3) := by decide +kernel
theorem dX3_endOfTwins_61 : decode cX3_endOfTwins 61 = .ok (.goto (-29), 3) := by decide +kernel
theorem dX3_endOfTwins_64 : decode cX3_endOfTwins 64 = .ok (.iload 4, 2) := by decide +kernel
theorem dX3_endOfTwins_66 : decode cX3_endOfTwins 66 = .ok (.ireturn, 1) := by decide +kernel
theorem dX3_liesUpTo_0 : decode cX3_liesUpTo 0 = .ok (.iload_n 1, 1) := by decide +kernel
theorem dX3_liesUpTo_1 : decode cX3_liesUpTo 1 = .ok (.istore 4, 2) := by decide +kernel
theorem dX3_liesUpTo_3 : decode cX3_liesUpTo 3 = .ok (.iconst 0, 1) := by decide +kernel
theorem dX3_liesUpTo_4 : decode cX3_liesUpTo 4 = .ok (.istore 5, 2) := by decide +kernel
theorem dX3_liesUpTo_6 : decode cX3_liesUpTo 6 = .ok (.iload 5, 2) := by decide +kernel
theorem dX3_liesUpTo_8 : decode cX3_liesUpTo 8 = .ok (.iconst 4, 1) := by decide +kernel
theorem dX3_liesUpTo_9 : decode cX3_liesUpTo 9 = .ok (.if_icmp .ge 49, 3) := by decide +kernel
theorem dX3_liesUpTo_12 : decode cX3_liesUpTo 12 = .ok (.iload 4, 2) := by decide +kernel
theorem dX3_liesUpTo_14 : decode cX3_liesUpTo 14 = .ok (.iconst (-1), 1) := by decide +kernel
theorem dX3_liesUpTo_15 : decode cX3_liesUpTo 15 = .ok (.if_icmp .eq 43, 3) := by decide +kernel
theorem dX3_liesUpTo_18 : decode cX3_liesUpTo 18 = .ok (.aload_n 0, 1) := by decide +kernel
theorem dX3_liesUpTo_19 : decode cX3_liesUpTo 19 = .ok (.iload 4, 2) := by decide +kernel
theorem dX3_liesUpTo_21 : decode cX3_liesUpTo 21 = .ok (.invokevirtual 62, 3) := by decide +kernel
theorem dX3_liesUpTo_24 : decode cX3_liesUpTo 24 = .ok (.iload_n 2, 1) := by decide +kernel
theorem dX3_liesUpTo_25 : decode cX3_liesUpTo 25 = .ok (.if_icmp .ne 19, 3) := by decide +kernel
theorem dX3_liesUpTo_28 : decode cX3_liesUpTo 28 = .ok (.aload_n 0, 1) := by decide +kernel
theorem dX3_liesUpTo_29 : decode cX3_liesUpTo 29 = .ok (.iload 4, 2) := by decide +kernel
theorem dX3_liesUpTo_31 : decode cX3_liesUpTo 31 = .ok (.invokevirtual 45, 3) := by decide +kernel
theorem dX3_liesUpTo_34 : decode cX3_liesUpTo 34 = .ok (.iload_n 3, 1) := by decide +kernel
theorem dX3_liesUpTo_35 : decode cX3_liesUpTo 35 = .ok (.if_icmp .gt 7, 3) := by decide +kernel
theorem dX3_liesUpTo_38 : decode cX3_liesUpTo 38 = .ok (.iconst 1, 1) := by decide +kernel
theorem dX3_liesUpTo_39 : decode cX3_liesUpTo 39 = .ok (.goto 4, 3) := by decide +kernel
theorem dX3_liesUpTo_42 : decode cX3_liesUpTo 42 = .ok (.iconst 0, 1) := by decide +kernel
theorem dX3_liesUpTo_43 : decode cX3_liesUpTo 43 = .ok (.ireturn, 1) := by decide +kernel
theorem dX3_liesUpTo_44 : decode cX3_liesUpTo 44 = .ok (.aload_n 0, 1) := by decide +kernel
theorem dX3_liesUpTo_45 : decode cX3_liesUpTo 45 = .ok (.iload 4, 2) := by decide +kernel
theorem dX3_liesUpTo_47 : decode cX3_liesUpTo 47 = .ok (.invokevirtual 62, 3) := by decide +kernel
theorem dX3_liesUpTo_50 : decode cX3_liesUpTo 50 = .ok (.istore 4, 2) := by decide +kernel
theorem dX3_liesUpTo_52 : decode cX3_liesUpTo 52 = .ok (.iinc 5 1, 3) := by decide +kernel
theorem dX3_liesUpTo_55 : decode cX3_liesUpTo 55 = .ok (.goto (-49), 3) := by decide +kernel
theorem dX3_liesUpTo_58 : decode cX3_liesUpTo 58 = .ok (.iconst 0, 1) := by decide +kernel
theorem dX3_liesUpTo_59 : decode cX3_liesUpTo 59 = .ok (.ireturn, 1) := by decide +kernel
theorem dX3_makeRank_0 : decode cX3_makeRank 0 = .ok (.iconst 0, 1) := by decide +kernel
theorem dX3_makeRank_1 : decode cX3_makeRank 1 = .ok (.istore 4, 2) := by decide +kernel
theorem dX3_makeRank_3 : decode cX3_makeRank 3 = .ok (.iconst 0, 1) := by decide +kernel
theorem dX3_makeRank_4 : decode cX3_makeRank 4 = .ok (.istore 5, 2) := by decide +kernel
theorem dX3_makeRank_6 : decode cX3_makeRank 6 = .ok (.iload 5, 2) := by decide +kernel
theorem dX3_makeRank_8 : decode cX3_makeRank 8 = .ok (.bipush 60, 2) := by decide +kernel
theorem dX3_makeRank_10 : decode cX3_makeRank 10 = .ok (.if_icmp .ge 36, 3) := by decide +kernel
theorem dX3_makeRank_13 : decode cX3_makeRank 13 = .ok (.aload_n 0, 1) := by decide +kernel
theorem dX3_makeRank_14 : decode cX3_makeRank 14 = .ok (.iload 5, 2) := by decide +kernel
theorem dX3_makeRank_16 : decode cX3_makeRank 16 = .ok (.iload_n 1, 1) := by decide +kernel
theorem dX3_makeRank_17 : decode cX3_makeRank 17 = .ok (.iload_n 2, 1) := by decide +kernel
theorem dX3_makeRank_18 : decode cX3_makeRank 18 = .ok (.invokevirtual 65, 3) := by decide +kernel
theorem dX3_makeRank_21 : decode cX3_makeRank 21 = .ok (.ifCond .eq 19, 3) := by decide +kernel
theorem dX3_makeRank_24 : decode cX3_makeRank 24 = .ok (.iload 4, 2) := by decide +kernel
theorem dX3_makeRank_26 : decode cX3_makeRank 26 = .ok (.aload_n 0, 1) := by decide +kernel
theorem dX3_makeRank_27 : decode cX3_makeRank 27 = .ok (.getfield 18, 3) := by decide +kernel
theorem dX3_makeRank_30 : decode cX3_makeRank 30 = .ok (.iload 5, 2) := by decide +kernel
theorem dX3_makeRank_32 : decode cX3_makeRank 32 = .ok (.iaload, 1) := by decide +kernel
theorem dX3_makeRank_33 : decode cX3_makeRank 33 = .ok (.iconst 1, 1) := by decide +kernel
theorem dX3_makeRank_34 : decode cX3_makeRank 34 = .ok (.iadd, 1) := by decide +kernel
theorem dX3_makeRank_35 : decode cX3_makeRank 35 = .ok (.invokestatic 102, 3) := by decide +kernel
theorem dX3_makeRank_38 : decode cX3_makeRank 38 = .ok (.istore 4, 2) := by decide +kernel
theorem dX3_makeRank_40 : decode cX3_makeRank 40 = .ok (.iinc 5 1, 3) := by decide +kernel
theorem dX3_makeRank_43 : decode cX3_makeRank 43 = .ok (.goto (-37), 3) := by decide +kernel
theorem dX3_makeRank_46 : decode cX3_makeRank 46 = .ok (.iload_n 3, 1) := by decide +kernel
theorem dX3_makeRank_47 : decode cX3_makeRank 47 = .ok (.invokestatic 54, 3) := by decide +kernel
theorem dX3_makeRank_50 : decode cX3_makeRank 50 = .ok (.ifCond .ne 6, 3) := by decide +kernel
theorem dX3_makeRank_53 : decode cX3_makeRank 53 = .ok (.iload 4, 2) := by decide +kernel
theorem dX3_makeRank_55 : decode cX3_makeRank 55 = .ok (.ireturn, 1) := by decide +kernel
theorem dX3_makeRank_56 : decode cX3_makeRank 56 = .ok (.aload_n 0, 1) := by decide +kernel
theorem dX3_makeRank_57 : decode cX3_makeRank 57 = .ok (.getfield 18, 3) := by decide +kernel
theorem dX3_makeRank_60 : decode cX3_makeRank 60 = .ok (.iload_n 3, 1) := by decide +kernel
theorem dX3_makeRank_61 : decode cX3_makeRank 61 = .ok (.iaload, 1) := by decide +kernel
theorem dX3_makeRank_62 : decode cX3_makeRank 62 = .ok (.istore 4, 2) := by decide +kernel
theorem dX3_makeRank_64 : decode cX3_makeRank 64 = .ok (.iconst 0, 1) := by decide +kernel
theorem dX3_makeRank_65 : decode cX3_makeRank 65 = .ok (.istore 5, 2) := by decide +kernel
theorem dX3_makeRank_67 : decode cX3_makeRank 67 = .ok (.iload 5, 2) := by decide +kernel
theorem dX3_makeRank_69 : decode cX3_makeRank 69 = .ok (.bipush 60, 2) := by decide +kernel
theorem dX3_makeRank_71 : decode cX3_makeRank 71 = .ok (.if_icmp .ge 43, 3) := by decide +kernel
theorem dX3_makeRank_74 : decode cX3_makeRank 74 = .ok (.aload_n 0, 1) := by decide +kernel
theorem dX3_makeRank_75 : decode cX3_makeRank 75 = .ok (.iload 5, 2) := by decide +kernel
theorem dX3_makeRank_77 : decode cX3_makeRank 77 = .ok (.iload_n 1, 1) := by decide +kernel
theorem dX3_makeRank_78 : decode cX3_makeRank 78 = .ok (.iload_n 2, 1) := by decide +kernel
theorem dX3_makeRank_79 : decode cX3_makeRank 79 = .ok (.invokevirtual 65, 3) := by decide +kernel
theorem dX3_makeRank_82 : decode cX3_makeRank 82 = .ok (.ifCond .eq 26, 3) := by decide +kernel
theorem dX3_makeRank_85 : decode cX3_makeRank 85 = .ok (.aload_n 0, 1) := by decide +kernel
theorem dX3_makeRank_86 : decode cX3_makeRank 86 = .ok (.getfield 18, 3) := by decide +kernel
theorem dX3_makeRank_89 : decode cX3_makeRank 89 = .ok (.iload 5, 2) := by decide +kernel
theorem dX3_makeRank_91 : decode cX3_makeRank 91 = .ok (.iaload, 1) := by decide +kernel
theorem dX3_makeRank_92 : decode cX3_makeRank 92 = .ok (.iload 4, 2) := by decide +kernel
theorem dX3_makeRank_94 : decode cX3_makeRank 94 = .ok (.if_icmp .lt 14, 3) := by decide +kernel
theorem dX3_makeRank_97 : decode cX3_makeRank 97 = .ok (.aload_n 0, 1) := by decide +kernel
theorem dX3_makeRank_98 : decode cX3_makeRank 98 = .ok (.getfield 18, 3) := by decide +kernel
theorem dX3_makeRank_101 : decode cX3_makeRank 101 = .ok (.iload 5, 2) := by decide +kernel
theorem dX3_makeRank_103 : decode cX3_makeRank 103 = .ok (.dup2, 1) := by decide +kernel
theorem dX3_makeRank_104 : decode cX3_makeRank 104 = .ok (.iaload, 1) := by decide +kernel
theorem dX3_makeRank_105 : decode cX3_makeRank 105 = .ok (.iconst 1, 1) := by decide +kernel
theorem dX3_makeRank_106 : decode cX3_makeRank 106 = .ok (.iadd, 1) := by decide +kernel
theorem dX3_makeRank_107 : decode cX3_makeRank 107 = .ok (.iastore, 1) := by decide +kernel
theorem dX3_makeRank_108 : decode cX3_makeRank 108 = .ok (.iinc 5 1, 3) := by decide +kernel
theorem dX3_makeRank_111 : decode cX3_makeRank 111 = .ok (.goto (-44), 3) := by decide +kernel
theorem dX3_makeRank_114 : decode cX3_makeRank 114 = .ok (.iload 4, 2) := by decide +kernel
theorem dX3_makeRank_116 : decode cX3_makeRank 116 = .ok (.ireturn, 1) := by decide +kernel
theorem dX3_putInRow_0 : decode cX3_putInRow 0 = .ok (.aload_n 0, 1) := by decide +kernel
theorem dX3_putInRow_1 : decode cX3_putInRow 1 = .ok (.iload_n 1, 1) := by decide +kernel
theorem dX3_putInRow_2 : decode cX3_putInRow 2 = .ok (.invokevirtual 93, 3) := by decide +kernel
theorem dX3_putInRow_5 : decode cX3_putInRow 5 = .ok (.istore 4, 2) := by decide +kernel
theorem dX3_putInRow_7 : decode cX3_putInRow 7 = .ok (.iload_n 1, 1) := by decide +kernel
theorem dX3_putInRow_8 : decode cX3_putInRow 8 = .ok (.iconst 3, 1) := by decide +kernel
theorem dX3_putInRow_9 : decode cX3_putInRow 9 = .ok (.invokestatic 107, 3) := by decide +kernel
theorem dX3_putInRow_12 : decode cX3_putInRow 12 = .ok (.ifCond .eq 20, 3) := by decide +kernel
theorem dX3_putInRow_15 : decode cX3_putInRow 15 = .ok (.iload 4, 2) := by decide +kernel
theorem dX3_putInRow_17 : decode cX3_putInRow 17 = .ok (.bipush 60, 2) := by decide +kernel
theorem dX3_putInRow_19 : decode cX3_putInRow 19 = .ok (.if_icmp .ge 13, 3) := by decide +kernel
theorem dX3_putInRow_22 : decode cX3_putInRow 22 = .ok (.iload_n 2, 1) := by decide +kernel
theorem dX3_putInRow_23 : decode cX3_putInRow 23 = .ok (.ifCond .lt 9, 3) := by decide +kernel
theorem dX3_putInRow_26 : decode cX3_putInRow 26 = .ok (.iload_n 2, 1) := by decide +kernel
theorem dX3_putInRow_27 : decode cX3_putInRow 27 = .ok (.iload 4, 2) := by decide +kernel
theorem dX3_putInRow_29 : decode cX3_putInRow 29 = .ok (.if_icmp .le 4, 3) := by decide +kernel
theorem dX3_putInRow_32 : decode cX3_putInRow 32 = .ok (.return_, 1) := by decide +kernel
theorem dX3_putInRow_33 : decode cX3_putInRow 33 = .ok (.iload_n 1, 1) := by decide +kernel
theorem dX3_putInRow_34 : decode cX3_putInRow 34 = .ok (.bipush 60, 2) := by decide +kernel
theorem dX3_putInRow_36 : decode cX3_putInRow 36 = .ok (.imul, 1) := by decide +kernel
theorem dX3_putInRow_37 : decode cX3_putInRow 37 = .ok (.istore 5, 2) := by decide +kernel
theorem dX3_putInRow_39 : decode cX3_putInRow 39 = .ok (.iload 4, 2) := by decide +kernel
theorem dX3_putInRow_41 : decode cX3_putInRow 41 = .ok (.istore 6, 2) := by decide +kernel
theorem dX3_putInRow_43 : decode cX3_putInRow 43 = .ok (.iload 6, 2) := by decide +kernel
theorem dX3_putInRow_45 : decode cX3_putInRow 45 = .ok (.iload_n 2, 1) := by decide +kernel
theorem dX3_putInRow_46 : decode cX3_putInRow 46 = .ok (.if_icmp .le 31, 3) := by decide +kernel
theorem dX3_putInRow_49 : decode cX3_putInRow 49 = .ok (.aload_n 0, 1) := by decide +kernel
theorem dX3_putInRow_50 : decode cX3_putInRow 50 = .ok (.getfield 24, 3) := by decide +kernel
theorem dX3_putInRow_53 : decode cX3_putInRow 53 = .ok (.iload 5, 2) := by decide +kernel
theorem dX3_putInRow_55 : decode cX3_putInRow 55 = .ok (.iload 6, 2) := by decide +kernel
theorem dX3_putInRow_57 : decode cX3_putInRow 57 = .ok (.iadd, 1) := by decide +kernel
theorem dX3_putInRow_58 : decode cX3_putInRow 58 = .ok (.aload_n 0, 1) := by decide +kernel
theorem dX3_putInRow_59 : decode cX3_putInRow 59 = .ok (.getfield 24, 3) := by decide +kernel
theorem dX3_putInRow_62 : decode cX3_putInRow 62 = .ok (.iload 5, 2) := by decide +kernel
theorem dX3_putInRow_64 : decode cX3_putInRow 64 = .ok (.iload 6, 2) := by decide +kernel
theorem dX3_putInRow_66 : decode cX3_putInRow 66 = .ok (.iadd, 1) := by decide +kernel
theorem dX3_putInRow_67 : decode cX3_putInRow 67 = .ok (.iconst 1, 1) := by decide +kernel
theorem dX3_putInRow_68 : decode cX3_putInRow 68 = .ok (.isub, 1) := by decide +kernel
theorem dX3_putInRow_69 : decode cX3_putInRow 69 = .ok (.iaload, 1) := by decide +kernel
theorem dX3_putInRow_70 : decode cX3_putInRow 70 = .ok (.iastore, 1) := by decide +kernel
theorem dX3_putInRow_71 : decode cX3_putInRow 71 = .ok (.iinc 6 (-1), 3) := by decide +kernel
theorem dX3_putInRow_74 : decode cX3_putInRow 74 = .ok (.goto (-31), 3) := by decide +kernel
theorem dX3_putInRow_77 : decode cX3_putInRow 77 = .ok (.aload_n 0, 1) := by decide +kernel
theorem dX3_putInRow_78 : decode cX3_putInRow 78 = .ok (.getfield 24, 3) := by decide +kernel
theorem dX3_putInRow_81 : decode cX3_putInRow 81 = .ok (.iload 5, 2) := by decide +kernel
theorem dX3_putInRow_83 : decode cX3_putInRow 83 = .ok (.iload_n 2, 1) := by decide +kernel
theorem dX3_putInRow_84 : decode cX3_putInRow 84 = .ok (.iadd, 1) := by decide +kernel
theorem dX3_putInRow_85 : decode cX3_putInRow 85 = .ok (.iload_n 3, 1) := by decide +kernel
theorem dX3_putInRow_86 : decode cX3_putInRow 86 = .ok (.iastore, 1) := by decide +kernel
theorem dX3_putInRow_87 : decode cX3_putInRow 87 = .ok (.aload_n 0, 1) := by decide +kernel
theorem dX3_putInRow_88 : decode cX3_putInRow 88 = .ok (.getfield 27, 3) := by decide +kernel
theorem dX3_putInRow_91 : decode cX3_putInRow 91 = .ok (.iload_n 1, 1) := by decide +kernel
theorem dX3_putInRow_92 : decode cX3_putInRow 92 = .ok (.dup2, 1) := by decide +kernel
theorem dX3_putInRow_93 : decode cX3_putInRow 93 = .ok (.iaload, 1) := by decide +kernel
theorem dX3_putInRow_94 : decode cX3_putInRow 94 = .ok (.iconst 1, 1) := by decide +kernel
theorem dX3_putInRow_95 : decode cX3_putInRow 95 = .ok (.iadd, 1) := by decide +kernel
theorem dX3_putInRow_96 : decode cX3_putInRow 96 = .ok (.iastore, 1) := by decide +kernel
theorem dX3_putInRow_97 : decode cX3_putInRow 97 = .ok (.aload_n 0, 1) := by decide +kernel
theorem dX3_putInRow_98 : decode cX3_putInRow 98 = .ok (.dup, 1) := by decide +kernel
theorem dX3_putInRow_99 : decode cX3_putInRow 99 = .ok (.getfield 37, 3) := by decide +kernel
theorem dX3_putInRow_102 : decode cX3_putInRow 102 = .ok (.iconst 1, 1) := by decide +kernel
theorem dX3_putInRow_103 : decode cX3_putInRow 103 = .ok (.iadd, 1) := by decide +kernel
theorem dX3_putInRow_104 : decode cX3_putInRow 104 = .ok (.putfield 37, 3) := by decide +kernel
theorem dX3_putInRow_107 : decode cX3_putInRow 107 = .ok (.aload_n 0, 1) := by decide +kernel
theorem dX3_putInRow_108 : decode cX3_putInRow 108 = .ok (.iload_n 1, 1) := by decide +kernel
theorem dX3_putInRow_109 : decode cX3_putInRow 109 = .ok (.invokevirtual 111, 3) := by decide +kernel
theorem dX3_putInRow_112 : decode cX3_putInRow 112 = .ok (.return_, 1) := by decide +kernel
theorem dX3_numberPlaces_0 : decode cX3_numberPlaces 0 = .ok (.iconst 0, 1) := by decide +kernel
theorem dX3_numberPlaces_1 : decode cX3_numberPlaces 1 = .ok (.istore_n 2, 1) := by decide +kernel
theorem dX3_numberPlaces_2 : decode cX3_numberPlaces 2 = .ok (.iload_n 2, 1) := by decide +kernel
theorem dX3_numberPlaces_3 : decode cX3_numberPlaces 3 = .ok (.aload_n 0, 1) := by decide +kernel
theorem dX3_numberPlaces_4 : decode cX3_numberPlaces 4 = .ok (.iload_n 1, 1) := by decide +kernel
theorem dX3_numberPlaces_5 : decode cX3_numberPlaces 5 = .ok (.invokevirtual 93, 3) := by decide +kernel
theorem dX3_numberPlaces_8 : decode cX3_numberPlaces 8 = .ok (.if_icmp .ge 30, 3) := by decide +kernel
theorem dX3_numberPlaces_11 : decode cX3_numberPlaces 11 = .ok (.aload_n 0, 1) := by decide +kernel
theorem dX3_numberPlaces_12 : decode cX3_numberPlaces 12 = .ok (.iload_n 1, 1) := by decide +kernel
theorem dX3_numberPlaces_13 : decode cX3_numberPlaces 13 = .ok (.iload_n 2, 1) := by decide +kernel
theorem dX3_numberPlaces_14 : decode cX3_numberPlaces 14 = .ok (.invokevirtual 96, 3) := by decide +kernel
theorem dX3_numberPlaces_17 : decode cX3_numberPlaces 17 = .ok (.istore_n 3, 1) := by decide +kernel
theorem dX3_numberPlaces_18 : decode cX3_numberPlaces 18 = .ok (.iload_n 3, 1) := by decide +kernel
theorem dX3_numberPlaces_19 : decode cX3_numberPlaces 19 = .ok (.invokestatic 54, 3) := by decide +kernel
theorem dX3_numberPlaces_22 : decode cX3_numberPlaces 22 = .ok (.ifCond .eq 10, 3) := by decide +kernel
theorem dX3_numberPlaces_25 : decode cX3_numberPlaces 25 = .ok (.aload_n 0, 1) := by decide +kernel
theorem dX3_numberPlaces_26 : decode cX3_numberPlaces 26 = .ok (.getfield 30, 3) := by decide +kernel
theorem dX3_numberPlaces_29 : decode cX3_numberPlaces 29 = .ok (.iload_n 3, 1) := by decide +kernel
theorem dX3_numberPlaces_30 : decode cX3_numberPlaces 30 = .ok (.iload_n 2, 1) := by decide +kernel
theorem dX3_numberPlaces_31 : decode cX3_numberPlaces 31 = .ok (.iastore, 1) := by decide +kernel
theorem dX3_numberPlaces_32 : decode cX3_numberPlaces 32 = .ok (.iinc 2 1, 3) := by decide +kernel
theorem dX3_numberPlaces_35 : decode cX3_numberPlaces 35 = .ok (.goto (-33), 3) := by decide +kernel
theorem dX3_numberPlaces_38 : decode cX3_numberPlaces 38 = .ok (.return_, 1) := by decide +kernel
theorem dX3_isAhead_0 : decode cX3_isAhead 0 = .ok (.aload_n 0, 1) := by decide +kernel
theorem dX3_isAhead_1 : decode cX3_isAhead 1 = .ok (.getfield 41, 3) := by decide +kernel
theorem dX3_isAhead_4 : decode cX3_isAhead 4 = .ok (.aload_n 0, 1) := by decide +kernel
theorem dX3_isAhead_5 : decode cX3_isAhead 5 = .ok (.iload_n 1, 1) := by decide +kernel
theorem dX3_isAhead_6 : decode cX3_isAhead 6 = .ok (.invokevirtual 45, 3) := by decide +kernel
theorem dX3_isAhead_9 : decode cX3_isAhead 9 = .ok (.invokevirtual 115, 3) := by decide +kernel
theorem dX3_isAhead_12 : decode cX3_isAhead 12 = .ok (.istore_n 3, 1) := by decide +kernel
theorem dX3_isAhead_13 : decode cX3_isAhead 13 = .ok (.aload_n 0, 1) := by decide +kernel
theorem dX3_isAhead_14 : decode cX3_isAhead 14 = .ok (.getfield 41, 3) := by decide +kernel
theorem dX3_isAhead_17 : decode cX3_isAhead 17 = .ok (.aload_n 0, 1) := by decide +kernel
theorem dX3_isAhead_18 : decode cX3_isAhead 18 = .ok (.iload_n 2, 1) := by decide +kernel
theorem dX3_isAhead_19 : decode cX3_isAhead 19 = .ok (.invokevirtual 45, 3) := by decide +kernel
theorem dX3_isAhead_22 : decode cX3_isAhead 22 = .ok (.invokevirtual 115, 3) := by decide +kernel
theorem dX3_isAhead_25 : decode cX3_isAhead 25 = .ok (.istore 4, 2) := by decide +kernel
theorem dX3_isAhead_27 : decode cX3_isAhead 27 = .ok (.aload_n 0, 1) := by decide +kernel
theorem dX3_isAhead_28 : decode cX3_isAhead 28 = .ok (.iload_n 1, 1) := by decide +kernel
theorem dX3_isAhead_29 : decode cX3_isAhead 29 = .ok (.iload_n 3, 1) := by decide +kernel
theorem dX3_isAhead_30 : decode cX3_isAhead 30 = .ok (.iload 4, 2) := by decide +kernel
theorem dX3_isAhead_32 : decode cX3_isAhead 32 = .ok (.isub, 1) := by decide +kernel
theorem dX3_isAhead_33 : decode cX3_isAhead 33 = .ok (.invokevirtual 118, 3) := by decide +kernel
theorem dX3_isAhead_36 : decode cX3_isAhead 36 = .ok (.istore 5, 2) := by decide +kernel
theorem dX3_isAhead_38 : decode cX3_isAhead 38 = .ok (.aload_n 0, 1) := by decide +kernel
theorem dX3_isAhead_39 : decode cX3_isAhead 39 = .ok (.iload_n 2, 1) := by decide +kernel
theorem dX3_isAhead_40 : decode cX3_isAhead 40 = .ok (.iload 4, 2) := by decide +kernel
theorem dX3_isAhead_42 : decode cX3_isAhead 42 = .ok (.iload_n 3, 1) := by decide +kernel
theorem dX3_isAhead_43 : decode cX3_isAhead 43 = .ok (.isub, 1) := by decide +kernel
theorem dX3_isAhead_44 : decode cX3_isAhead 44 = .ok (.invokevirtual 118, 3) := by decide +kernel
theorem dX3_isAhead_47 : decode cX3_isAhead 47 = .ok (.istore 6, 2) := by decide +kernel
theorem dX3_isAhead_49 : decode cX3_isAhead 49 = .ok (.iload 5, 2) := by decide +kernel
theorem dX3_isAhead_51 : decode cX3_isAhead 51 = .ok (.iload 6, 2) := by decide +kernel
theorem dX3_isAhead_53 : decode cX3_isAhead 53 = .ok (.if_icmp .ne 15, 3) := by decide +kernel
theorem dX3_isAhead_56 : decode cX3_isAhead 56 = .ok (.iload_n 3, 1) := by decide +kernel
theorem dX3_isAhead_57 : decode cX3_isAhead 57 = .ok (.iload 4, 2) := by decide +kernel
theorem dX3_isAhead_59 : decode cX3_isAhead 59 = .ok (.if_icmp .ge 7, 3) := by decide +kernel
theorem dX3_isAhead_62 : decode cX3_isAhead 62 = .ok (.iconst 1, 1) := by decide +kernel
theorem dX3_isAhead_63 : decode cX3_isAhead 63 = .ok (.goto 4, 3) := by decide +kernel
theorem dX3_isAhead_66 : decode cX3_isAhead 66 = .ok (.iconst 0, 1) := by decide +kernel
theorem dX3_isAhead_67 : decode cX3_isAhead 67 = .ok (.ireturn, 1) := by decide +kernel
theorem dX3_isAhead_68 : decode cX3_isAhead 68 = .ok (.iconst 0, 1) := by decide +kernel
theorem dX3_isAhead_69 : decode cX3_isAhead 69 = .ok (.istore 7, 2) := by decide +kernel
theorem dX3_isAhead_71 : decode cX3_isAhead 71 = .ok (.iload 7, 2) := by decide +kernel
theorem dX3_isAhead_73 : decode cX3_isAhead 73 = .ok (.iconst 4, 1) := by decide +kernel
theorem dX3_isAhead_74 : decode cX3_isAhead 74 = .ok (.if_icmp .ge 40, 3) := by decide +kernel
theorem dX3_isAhead_77 : decode cX3_isAhead 77 = .ok (.aload_n 0, 1) := by decide +kernel
theorem dX3_isAhead_78 : decode cX3_isAhead 78 = .ok (.iload 5, 2) := by decide +kernel
theorem dX3_isAhead_80 : decode cX3_isAhead 80 = .ok (.invokevirtual 62, 3) := by decide +kernel
theorem dX3_isAhead_83 : decode cX3_isAhead 83 = .ok (.aload_n 0, 1) := by decide +kernel
theorem dX3_isAhead_84 : decode cX3_isAhead 84 = .ok (.iload 6, 2) := by decide +kernel
theorem dX3_isAhead_86 : decode cX3_isAhead 86 = .ok (.invokevirtual 62, 3) := by decide +kernel
theorem dX3_isAhead_89 : decode cX3_isAhead 89 = .ok (.if_icmp .eq 25, 3) := by decide +kernel
theorem dX3_isAhead_92 : decode cX3_isAhead 92 = .ok (.aload_n 0, 1) := by decide +kernel
theorem dX3_isAhead_93 : decode cX3_isAhead 93 = .ok (.iload 5, 2) := by decide +kernel
theorem dX3_isAhead_95 : decode cX3_isAhead 95 = .ok (.invokevirtual 62, 3) := by decide +kernel
theorem dX3_isAhead_98 : decode cX3_isAhead 98 = .ok (.istore 5, 2) := by decide +kernel
theorem dX3_isAhead_100 : decode cX3_isAhead 100 = .ok (.aload_n 0, 1) := by decide +kernel
theorem dX3_isAhead_101 : decode cX3_isAhead 101 = .ok (.iload 6, 2) := by decide +kernel
theorem dX3_isAhead_103 : decode cX3_isAhead 103 = .ok (.invokevirtual 62, 3) := by decide +kernel
theorem dX3_isAhead_106 : decode cX3_isAhead 106 = .ok (.istore 6, 2) := by decide +kernel
theorem dX3_isAhead_108 : decode cX3_isAhead 108 = .ok (.iinc 7 1, 3) := by decide +kernel
theorem dX3_isAhead_111 : decode cX3_isAhead 111 = .ok (.goto (-40), 3) := by decide +kernel
theorem dX3_isAhead_114 : decode cX3_isAhead 114 = .ok (.aload_n 0, 1) := by decide +kernel
theorem dX3_isAhead_115 : decode cX3_isAhead 115 = .ok (.iload 5, 2) := by decide +kernel
theorem dX3_isAhead_117 : decode cX3_isAhead 117 = .ok (.invokevirtual 45, 3) := by decide +kernel
theorem dX3_isAhead_120 : decode cX3_isAhead 120 = .ok (.aload_n 0, 1) := by decide +kernel
theorem dX3_isAhead_121 : decode cX3_isAhead 121 = .ok (.iload 6, 2) := by decide +kernel
theorem dX3_isAhead_123 : decode cX3_isAhead 123 = .ok (.invokevirtual 45, 3) := by decide +kernel
theorem dX3_isAhead_126 : decode cX3_isAhead 126 = .ok (.if_icmp .eq 24, 3) := by decide +kernel
theorem dX3_isAhead_129 : decode cX3_isAhead 129 = .ok (.aload_n 0, 1) := by decide +kernel
theorem dX3_isAhead_130 : decode cX3_isAhead 130 = .ok (.iload 5, 2) := by decide +kernel
theorem dX3_isAhead_132 : decode cX3_isAhead 132 = .ok (.invokevirtual 45, 3) := by decide +kernel
theorem dX3_isAhead_135 : decode cX3_isAhead 135 = .ok (.aload_n 0, 1) := by decide +kernel
theorem dX3_isAhead_136 : decode cX3_isAhead 136 = .ok (.iload 6, 2) := by decide +kernel
theorem dX3_isAhead_138 : decode cX3_isAhead 138 = .ok (.invokevirtual 45, 3) := by decide +kernel
theorem dX3_isAhead_141 : decode cX3_isAhead 141 = .ok (.if_icmp .ge 7, 3) := by decide +kernel
theorem dX3_isAhead_144 : decode cX3_isAhead 144 = .ok (.iconst 1, 1) := by decide +kernel
theorem dX3_isAhead_145 : decode cX3_isAhead 145 = .ok (.goto 4, 3) := by decide +kernel
theorem dX3_isAhead_148 : decode cX3_isAhead 148 = .ok (.iconst 0, 1) := by decide +kernel
theorem dX3_isAhead_149 : decode cX3_isAhead 149 = .ok (.ireturn, 1) := by decide +kernel
theorem dX3_isAhead_150 : decode cX3_isAhead 150 = .ok (.iload 5, 2) := by decide +kernel
theorem dX3_isAhead_152 : decode cX3_isAhead 152 = .ok (.invokestatic 54, 3) := by decide +kernel
theorem dX3_isAhead_155 : decode cX3_isAhead 155 = .ok (.ifCond .eq 32, 3) := by decide +kernel
theorem dX3_isAhead_158 : decode cX3_isAhead 158 = .ok (.iload 6, 2) := by decide +kernel
theorem dX3_isAhead_160 : decode cX3_isAhead 160 = .ok (.invokestatic 54, 3) := by decide +kernel
theorem dX3_isAhead_163 : decode cX3_isAhead 163 = .ok (.ifCond .eq 24, 3) := by decide +kernel
theorem dX3_isAhead_166 : decode cX3_isAhead 166 = .ok (.aload_n 0, 1) := by decide +kernel
theorem dX3_isAhead_167 : decode cX3_isAhead 167 = .ok (.getfield 18, 3) := by decide +kernel
theorem dX3_isAhead_170 : decode cX3_isAhead 170 = .ok (.iload 5, 2) := by decide +kernel
theorem dX3_isAhead_172 : decode cX3_isAhead 172 = .ok (.iaload, 1) := by decide +kernel
theorem dX3_isAhead_173 : decode cX3_isAhead 173 = .ok (.aload_n 0, 1) := by decide +kernel
theorem dX3_isAhead_174 : decode cX3_isAhead 174 = .ok (.getfield 18, 3) := by decide +kernel
theorem dX3_isAhead_177 : decode cX3_isAhead 177 = .ok (.iload 6, 2) := by decide +kernel
theorem dX3_isAhead_179 : decode cX3_isAhead 179 = .ok (.iaload, 1) := by decide +kernel
theorem dX3_isAhead_180 : decode cX3_isAhead 180 = .ok (.if_icmp .ge 7, 3) := by decide +kernel
theorem dX3_isAhead_183 : decode cX3_isAhead 183 = .ok (.iconst 1, 1) := by decide +kernel
theorem dX3_isAhead_184 : decode cX3_isAhead 184 = .ok (.goto 4, 3) := by decide +kernel
theorem dX3_isAhead_187 : decode cX3_isAhead 187 = .ok (.iconst 0, 1) := by decide +kernel
theorem dX3_isAhead_188 : decode cX3_isAhead 188 = .ok (.ireturn, 1) := by decide +kernel
theorem dX3_climb_0 : decode cX3_climb 0 = .ok (.iload_n 1, 1) := by decide +kernel
theorem dX3_climb_1 : decode cX3_climb 1 = .ok (.istore_n 3, 1) := by decide +kernel
theorem dX3_climb_2 : decode cX3_climb 2 = .ok (.iconst 0, 1) := by decide +kernel
theorem dX3_climb_3 : decode cX3_climb 3 = .ok (.istore 4, 2) := by decide +kernel
theorem dX3_climb_5 : decode cX3_climb 5 = .ok (.iload 4, 2) := by decide +kernel
theorem dX3_climb_7 : decode cX3_climb 7 = .ok (.iload_n 2, 1) := by decide +kernel
theorem dX3_climb_8 : decode cX3_climb 8 = .ok (.if_icmp .ge 15, 3) := by decide +kernel
theorem dX3_climb_11 : decode cX3_climb 11 = .ok (.aload_n 0, 1) := by decide +kernel
theorem dX3_climb_12 : decode cX3_climb 12 = .ok (.iload_n 3, 1) := by decide +kernel
theorem dX3_climb_13 : decode cX3_climb 13 = .ok (.invokevirtual 62, 3) := by decide +kernel
theorem dX3_climb_16 : decode cX3_climb 16 = .ok (.istore_n 3, 1) := by decide +kernel
theorem dX3_climb_17 : decode cX3_climb 17 = .ok (.iinc 4 1, 3) := by decide +kernel
theorem dX3_climb_20 : decode cX3_climb 20 = .ok (.goto (-15), 3) := by decide +kernel
theorem dX3_climb_23 : decode cX3_climb 23 = .ok (.iload_n 3, 1) := by decide +kernel
theorem dX3_climb_24 : decode cX3_climb 24 = .ok (.ireturn, 1) := by decide +kernel
theorem dX3_spareAll_0 : decode cX3_spareAll 0 = .ok (.iconst 0, 1) := by decide +kernel
theorem dX3_spareAll_1 : decode cX3_spareAll 1 = .ok (.istore_n 1, 1) := by decide +kernel
theorem dX3_spareAll_2 : decode cX3_spareAll 2 = .ok (.iload_n 1, 1) := by decide +kernel
theorem dX3_spareAll_3 : decode cX3_spareAll 3 = .ok (.bipush 60, 2) := by decide +kernel
theorem dX3_spareAll_5 : decode cX3_spareAll 5 = .ok (.if_icmp .ge 16, 3) := by decide +kernel
theorem dX3_spareAll_8 : decode cX3_spareAll 8 = .ok (.aload_n 0, 1) := by decide +kernel
theorem dX3_spareAll_9 : decode cX3_spareAll 9 = .ok (.getfield 33, 3) := by decide +kernel
theorem dX3_spareAll_12 : decode cX3_spareAll 12 = .ok (.iload_n 1, 1) := by decide +kernel
theorem dX3_spareAll_13 : decode cX3_spareAll 13 = .ok (.iconst 0, 1) := by decide +kernel
theorem dX3_spareAll_14 : decode cX3_spareAll 14 = .ok (.bastore, 1) := by decide +kernel
theorem dX3_spareAll_15 : decode cX3_spareAll 15 = .ok (.iinc 1 1, 3) := by decide +kernel
theorem dX3_spareAll_18 : decode cX3_spareAll 18 = .ok (.goto (-16), 3) := by decide +kernel
theorem dX3_spareAll_21 : decode cX3_spareAll 21 = .ok (.return_, 1) := by decide +kernel
theorem dX3_doom_0 : decode cX3_doom 0 = .ok (.iconst 0, 1) := by decide +kernel
theorem dX3_doom_1 : decode cX3_doom 1 = .ok (.istore_n 2, 1) := by decide +kernel
theorem dX3_doom_2 : decode cX3_doom 2 = .ok (.iload_n 2, 1) := by decide +kernel
theorem dX3_doom_3 : decode cX3_doom 3 = .ok (.bipush 60, 2) := by decide +kernel
theorem dX3_doom_5 : decode cX3_doom 5 = .ok (.if_icmp .ge 40, 3) := by decide +kernel
theorem dX3_doom_8 : decode cX3_doom 8 = .ok (.aload_n 0, 1) := by decide +kernel
theorem dX3_doom_9 : decode cX3_doom 9 = .ok (.getfield 9, 3) := by decide +kernel
theorem dX3_doom_12 : decode cX3_doom 12 = .ok (.iload_n 2, 1) := by decide +kernel
theorem dX3_doom_13 : decode cX3_doom 13 = .ok (.iaload, 1) := by decide +kernel
theorem dX3_doom_14 : decode cX3_doom 14 = .ok (.iconst (-1), 1) := by decide +kernel
theorem dX3_doom_15 : decode cX3_doom 15 = .ok (.if_icmp .eq 24, 3) := by decide +kernel
theorem dX3_doom_18 : decode cX3_doom 18 = .ok (.iload_n 2, 1) := by decide +kernel
theorem dX3_doom_19 : decode cX3_doom 19 = .ok (.iload_n 1, 1) := by decide +kernel
theorem dX3_doom_20 : decode cX3_doom 20 = .ok (.if_icmp .eq 12, 3) := by decide +kernel
theorem dX3_doom_23 : decode cX3_doom 23 = .ok (.aload_n 0, 1) := by decide +kernel
theorem dX3_doom_24 : decode cX3_doom 24 = .ok (.iload_n 2, 1) := by decide +kernel
theorem dX3_doom_25 : decode cX3_doom 25 = .ok (.iload_n 1, 1) := by decide +kernel
theorem dX3_doom_26 : decode cX3_doom 26 = .ok (.invokevirtual 121, 3) := by decide +kernel
theorem dX3_doom_29 : decode cX3_doom 29 = .ok (.ifCond .eq 10, 3) := by decide +kernel
theorem dX3_doom_32 : decode cX3_doom 32 = .ok (.aload_n 0, 1) := by decide +kernel
theorem dX3_doom_33 : decode cX3_doom 33 = .ok (.getfield 33, 3) := by decide +kernel
theorem dX3_doom_36 : decode cX3_doom 36 = .ok (.iload_n 2, 1) := by decide +kernel
theorem dX3_doom_37 : decode cX3_doom 37 = .ok (.iconst 1, 1) := by decide +kernel
theorem dX3_doom_38 : decode cX3_doom 38 = .ok (.bastore, 1) := by decide +kernel
theorem dX3_doom_39 : decode cX3_doom 39 = .ok (.iinc 2 1, 3) := by decide +kernel
theorem dX3_doom_42 : decode cX3_doom 42 = .ok (.goto (-40), 3) := by decide +kernel
theorem dX3_doom_45 : decode cX3_doom 45 = .ok (.return_, 1) := by decide +kernel
theorem dX3_isDoomed_0 : decode cX3_isDoomed 0 = .ok (.iload_n 1, 1) := by decide +kernel
theorem dX3_isDoomed_1 : decode cX3_isDoomed 1 = .ok (.invokestatic 54, 3) := by decide +kernel
theorem dX3_isDoomed_4 : decode cX3_isDoomed 4 = .ok (.ifCond .eq 16, 3) := by decide +kernel
theorem dX3_isDoomed_7 : decode cX3_isDoomed 7 = .ok (.aload_n 0, 1) := by decide +kernel
theorem dX3_isDoomed_8 : decode cX3_isDoomed 8 = .ok (.getfield 33, 3) := by decide +kernel
theorem dX3_isDoomed_11 : decode cX3_isDoomed 11 = .ok (.iload_n 1, 1) := by decide +kernel
theorem dX3_isDoomed_12 : decode cX3_isDoomed 12 = .ok (.baload, 1) := by decide +kernel
theorem dX3_isDoomed_13 : decode cX3_isDoomed 13 = .ok (.ifCond .eq 7, 3) := by decide +kernel
theorem dX3_isDoomed_16 : decode cX3_isDoomed 16 = .ok (.iconst 1, 1) := by decide +kernel
theorem dX3_isDoomed_17 : decode cX3_isDoomed 17 = .ok (.goto 4, 3) := by decide +kernel
theorem dX3_isDoomed_20 : decode cX3_isDoomed 20 = .ok (.iconst 0, 1) := by decide +kernel
theorem dX3_isDoomed_21 : decode cX3_isDoomed 21 = .ok (.ireturn, 1) := by decide +kernel
theorem dX3_sparedBehind_0 : decode cX3_sparedBehind 0 = .ok (.aload_n 0, 1) := by decide +kernel
theorem dX3_sparedBehind_1 : decode cX3_sparedBehind 1 = .ok (.iload_n 1, 1) := by decide +kernel
theorem dX3_sparedBehind_2 : decode cX3_sparedBehind 2 = .ok (.invokevirtual 124, 3) := by decide +kernel
theorem dX3_sparedBehind_5 : decode cX3_sparedBehind 5 = .ok (.istore_n 2, 1) := by decide +kernel
theorem dX3_sparedBehind_6 : decode cX3_sparedBehind 6 = .ok (.aload_n 0, 1) := by decide +kernel
theorem dX3_sparedBehind_7 : decode cX3_sparedBehind 7 = .ok (.iload_n 1, 1) := by decide +kernel
theorem dX3_sparedBehind_8 : decode cX3_sparedBehind 8 = .ok (.invokevirtual 75, 3) := by decide +kernel
theorem dX3_sparedBehind_11 : decode cX3_sparedBehind 11 = .ok (.iconst 1, 1) := by decide +kernel
theorem dX3_sparedBehind_12 : decode cX3_sparedBehind 12 = .ok (.iadd, 1) := by decide +kernel
theorem dX3_sparedBehind_13 : decode cX3_sparedBehind 13 = .ok (.istore_n 3, 1) := by decide +kernel
theorem dX3_sparedBehind_14 : decode cX3_sparedBehind 14 = .ok (.iload_n 3, 1) := by decide +kernel
theorem dX3_sparedBehind_15 : decode cX3_sparedBehind 15 = .ok (.aload_n 0, 1) := by decide +kernel
theorem dX3_sparedBehind_16 : decode cX3_sparedBehind 16 = .ok (.iload_n 2, 1) := by decide +kernel
theorem dX3_sparedBehind_17 : decode cX3_sparedBehind 17 = .ok (.invokevirtual 93, 3) := by decide +kernel
theorem dX3_sparedBehind_20 : decode cX3_sparedBehind 20 = .ok (.if_icmp .ge 29, 3) := by decide +kernel
theorem dX3_sparedBehind_23 : decode cX3_sparedBehind 23 = .ok (.aload_n 0, 1) := by decide +kernel
theorem dX3_sparedBehind_24 : decode cX3_sparedBehind 24 = .ok (.aload_n 0, 1) := by decide +kernel
theorem dX3_sparedBehind_25 : decode cX3_sparedBehind 25 = .ok (.iload_n 2, 1) := by decide +kernel
theorem dX3_sparedBehind_26 : decode cX3_sparedBehind 26 = .ok (.iload_n 3, 1) := by decide +kernel
theorem dX3_sparedBehind_27 : decode cX3_sparedBehind 27 = .ok (.invokevirtual 96, 3) := by decide +kernel
theorem dX3_sparedBehind_30 : decode cX3_sparedBehind 30 = .ok (.invokevirtual 125, 3) := by decide +kernel
theorem dX3_sparedBehind_33 : decode cX3_sparedBehind 33 = .ok (.ifCond .ne 10, 3) := by decide +kernel
theorem dX3_sparedBehind_36 : decode cX3_sparedBehind 36 = .ok (.aload_n 0, 1) := by decide +kernel
theorem dX3_sparedBehind_37 : decode cX3_sparedBehind 37 = .ok (.iload_n 2, 1) := by decide +kernel
theorem dX3_sparedBehind_38 : decode cX3_sparedBehind 38 = .ok (.iload_n 3, 1) := by decide +kernel
theorem dX3_sparedBehind_39 : decode cX3_sparedBehind 39 = .ok (.invokevirtual 96, 3) := by decide +kernel
theorem dX3_sparedBehind_42 : decode cX3_sparedBehind 42 = .ok (.ireturn, 1) := by decide +kernel
theorem dX3_sparedBehind_43 : decode cX3_sparedBehind 43 = .ok (.iinc 3 1, 3) := by decide +kernel
theorem dX3_sparedBehind_46 : decode cX3_sparedBehind 46 = .ok (.goto (-32), 3) := by decide +kernel
theorem dX3_sparedBehind_49 : decode cX3_sparedBehind 49 = .ok (.iconst (-1), 1) := by decide +kernel
theorem dX3_sparedBehind_50 : decode cX3_sparedBehind 50 = .ok (.ireturn, 1) := by decide +kernel
theorem dX3_removeDoomed_0 : decode cX3_removeDoomed 0 = .ok (.iconst 0, 1) := by decide +kernel
theorem dX3_removeDoomed_1 : decode cX3_removeDoomed 1 = .ok (.istore_n 1, 1) := by decide +kernel
theorem dX3_removeDoomed_2 : decode cX3_removeDoomed 2 = .ok (.iload_n 1, 1) := by decide +kernel
theorem dX3_removeDoomed_3 : decode cX3_removeDoomed 3 = .ok (.iconst 3, 1) := by decide +kernel
theorem dX3_removeDoomed_4 : decode cX3_removeDoomed 4 = .ok (.if_icmp .ge 90, 3) := by decide +kernel
theorem dX3_removeDoomed_7 : decode cX3_removeDoomed 7 = .ok (.iconst 0, 1) := by decide +kernel
theorem dX3_removeDoomed_8 : decode cX3_removeDoomed 8 = .ok (.istore_n 2, 1) := by decide +kernel
theorem dX3_removeDoomed_9 : decode cX3_removeDoomed 9 = .ok (.iconst 0, 1) := by decide +kernel
theorem dX3_removeDoomed_10 : decode cX3_removeDoomed 10 = .ok (.istore_n 3, 1) := by decide +kernel
theorem dX3_removeDoomed_11 : decode cX3_removeDoomed 11 = .ok (.iload_n 3, 1) := by decide +kernel
theorem dX3_removeDoomed_12 : decode cX3_removeDoomed 12 = .ok (.aload_n 0, 1) := by decide +kernel
theorem dX3_removeDoomed_13 : decode cX3_removeDoomed 13 = .ok (.iload_n 1, 1) := by decide +kernel
theorem dX3_removeDoomed_14 : decode cX3_removeDoomed 14 = .ok (.invokevirtual 93, 3) := by decide +kernel
theorem dX3_removeDoomed_17 : decode cX3_removeDoomed 17 = .ok (.if_icmp .ge 42, 3) := by decide +kernel
theorem dX3_removeDoomed_20 : decode cX3_removeDoomed 20 = .ok (.aload_n 0, 1) := by decide +kernel
theorem dX3_removeDoomed_21 : decode cX3_removeDoomed 21 = .ok (.iload_n 1, 1) := by decide +kernel
theorem dX3_removeDoomed_22 : decode cX3_removeDoomed 22 = .ok (.iload_n 3, 1) := by decide +kernel
theorem dX3_removeDoomed_23 : decode cX3_removeDoomed 23 = .ok (.invokevirtual 96, 3) := by decide +kernel
theorem dX3_removeDoomed_26 : decode cX3_removeDoomed 26 = .ok (.istore 4, 2) := by decide +kernel
theorem dX3_removeDoomed_28 : decode cX3_removeDoomed 28 = .ok (.aload_n 0, 1) := by decide +kernel
theorem dX3_removeDoomed_29 : decode cX3_removeDoomed 29 = .ok (.iload 4, 2) := by decide +kernel
theorem dX3_removeDoomed_31 : decode cX3_removeDoomed 31 = .ok (.invokevirtual 125, 3) := by decide +kernel
theorem dX3_removeDoomed_34 : decode cX3_removeDoomed 34 = .ok (.ifCond .ne 19, 3) := by decide +kernel
theorem dX3_removeDoomed_37 : decode cX3_removeDoomed 37 = .ok (.aload_n 0, 1) := by decide +kernel
theorem dX3_removeDoomed_38 : decode cX3_removeDoomed 38 = .ok (.getfield 24, 3) := by decide +kernel
theorem dX3_removeDoomed_41 : decode cX3_removeDoomed 41 = .ok (.iload_n 1, 1) := by decide +kernel
theorem dX3_removeDoomed_42 : decode cX3_removeDoomed 42 = .ok (.bipush 60, 2) := by decide +kernel
theorem dX3_removeDoomed_44 : decode cX3_removeDoomed 44 = .ok (.imul, 1) := by decide +kernel
theorem dX3_removeDoomed_45 : decode cX3_removeDoomed 45 = .ok (.iload_n 2, 1) := by decide +kernel
theorem dX3_removeDoomed_46 : decode cX3_removeDoomed 46 = .ok (.iadd, 1) := by decide +kernel
theorem dX3_removeDoomed_47 : decode cX3_removeDoomed 47 = .ok (.iload 4, 2) := by decide +kernel
theorem dX3_removeDoomed_49 : decode cX3_removeDoomed 49 = .ok (.iastore, 1) := by decide +kernel
theorem dX3_removeDoomed_50 : decode cX3_removeDoomed 50 = .ok (.iinc 2 1, 3) := by decide +kernel
theorem dX3_removeDoomed_53 : decode cX3_removeDoomed 53 = .ok (.iinc 3 1, 3) := by decide +kernel
theorem dX3_removeDoomed_56 : decode cX3_removeDoomed 56 = .ok (.goto (-45), 3) := by decide +kernel
theorem dX3_removeDoomed_59 : decode cX3_removeDoomed 59 = .ok (.aload_n 0, 1) := by decide +kernel
theorem dX3_removeDoomed_60 : decode cX3_removeDoomed 60 = .ok (.dup, 1) := by decide +kernel
theorem dX3_removeDoomed_61 : decode cX3_removeDoomed 61 = .ok (.getfield 37, 3) := by decide +kernel
theorem dX3_removeDoomed_64 : decode cX3_removeDoomed 64 = .ok (.aload_n 0, 1) := by decide +kernel
theorem dX3_removeDoomed_65 : decode cX3_removeDoomed 65 = .ok (.getfield 27, 3) := by decide +kernel
theorem dX3_removeDoomed_68 : decode cX3_removeDoomed 68 = .ok (.iload_n 1, 1) := by decide +kernel
theorem dX3_removeDoomed_69 : decode cX3_removeDoomed 69 = .ok (.iaload, 1) := by decide +kernel
theorem dX3_removeDoomed_70 : decode cX3_removeDoomed 70 = .ok (.iload_n 2, 1) := by decide +kernel
theorem dX3_removeDoomed_71 : decode cX3_removeDoomed 71 = .ok (.isub, 1) := by decide +kernel
theorem dX3_removeDoomed_72 : decode cX3_removeDoomed 72 = .ok (.isub, 1) := by decide +kernel
theorem dX3_removeDoomed_73 : decode cX3_removeDoomed 73 = .ok (.putfield 37, 3) := by decide +kernel
theorem dX3_removeDoomed_76 : decode cX3_removeDoomed 76 = .ok (.aload_n 0, 1) := by decide +kernel
theorem dX3_removeDoomed_77 : decode cX3_removeDoomed 77 = .ok (.getfield 27, 3) := by decide +kernel
theorem dX3_removeDoomed_80 : decode cX3_removeDoomed 80 = .ok (.iload_n 1, 1) := by decide +kernel
theorem dX3_removeDoomed_81 : decode cX3_removeDoomed 81 = .ok (.iload_n 2, 1) := by decide +kernel
theorem dX3_removeDoomed_82 : decode cX3_removeDoomed 82 = .ok (.iastore, 1) := by decide +kernel
theorem dX3_removeDoomed_83 : decode cX3_removeDoomed 83 = .ok (.aload_n 0, 1) := by decide +kernel
theorem dX3_removeDoomed_84 : decode cX3_removeDoomed 84 = .ok (.iload_n 1, 1) := by decide +kernel
theorem dX3_removeDoomed_85 : decode cX3_removeDoomed 85 = .ok (.invokevirtual 111, 3) := by decide +kernel
theorem dX3_removeDoomed_88 : decode cX3_removeDoomed 88 = .ok (.iinc 1 1, 3) := by decide +kernel
theorem dX3_removeDoomed_91 : decode cX3_removeDoomed 91 = .ok (.goto (-89), 3) := by decide +kernel
theorem dX3_removeDoomed_94 : decode cX3_removeDoomed 94 = .ok (.iconst 0, 1) := by decide +kernel
theorem dX3_removeDoomed_95 : decode cX3_removeDoomed 95 = .ok (.istore_n 1, 1) := by decide +kernel
theorem dX3_removeDoomed_96 : decode cX3_removeDoomed 96 = .ok (.iload_n 1, 1) := by decide +kernel
theorem dX3_removeDoomed_97 : decode cX3_removeDoomed 97 = .ok (.bipush 60, 2) := by decide +kernel
theorem dX3_removeDoomed_99 : decode cX3_removeDoomed 99 = .ok (.if_icmp .ge 39, 3) := by decide +kernel
theorem dX3_removeDoomed_102 : decode cX3_removeDoomed 102 = .ok (.aload_n 0, 1) := by decide +kernel
theorem dX3_removeDoomed_103 : decode cX3_removeDoomed 103 = .ok (.getfield 33, 3) := by decide +kernel
theorem dX3_removeDoomed_106 : decode cX3_removeDoomed 106 = .ok (.iload_n 1, 1) := by decide +kernel
theorem dX3_removeDoomed_107 : decode cX3_removeDoomed 107 = .ok (.baload, 1) := by decide +kernel
theorem dX3_removeDoomed_108 : decode cX3_removeDoomed 108 = .ok (.ifCond .eq 24, 3) := by decide +kernel
theorem dX3_removeDoomed_111 : decode cX3_removeDoomed 111 = .ok (.aload_n 0, 1) := by decide +kernel
theorem dX3_removeDoomed_112 : decode cX3_removeDoomed 112 = .ok (.getfield 9, 3) := by decide +kernel
theorem dX3_removeDoomed_115 : decode cX3_removeDoomed 115 = .ok (.iload_n 1, 1) := by decide +kernel
theorem dX3_removeDoomed_116 : decode cX3_removeDoomed 116 = .ok (.iconst (-1), 1) := by decide +kernel
theorem dX3_removeDoomed_117 : decode cX3_removeDoomed 117 = .ok (.iastore, 1) := by decide +kernel
theorem dX3_removeDoomed_118 : decode cX3_removeDoomed 118 = .ok (.aload_n 0, 1) := by decide +kernel
theorem dX3_removeDoomed_119 : decode cX3_removeDoomed 119 = .ok (.getfield 15, 3) := by decide +kernel
theorem dX3_removeDoomed_122 : decode cX3_removeDoomed 122 = .ok (.iload_n 1, 1) := by decide +kernel
theorem dX3_removeDoomed_123 : decode cX3_removeDoomed 123 = .ok (.iconst (-1), 1) := by decide +kernel
theorem dX3_removeDoomed_124 : decode cX3_removeDoomed 124 = .ok (.iastore, 1) := by decide +kernel
theorem dX3_removeDoomed_125 : decode cX3_removeDoomed 125 = .ok (.aload_n 0, 1) := by decide +kernel
theorem dX3_removeDoomed_126 : decode cX3_removeDoomed 126 = .ok (.getfield 30, 3) := by decide +kernel
theorem dX3_removeDoomed_129 : decode cX3_removeDoomed 129 = .ok (.iload_n 1, 1) := by decide +kernel
theorem dX3_removeDoomed_130 : decode cX3_removeDoomed 130 = .ok (.iconst (-1), 1) := by decide +kernel
theorem dX3_removeDoomed_131 : decode cX3_removeDoomed 131 = .ok (.iastore, 1) := by decide +kernel
theorem dX3_removeDoomed_132 : decode cX3_removeDoomed 132 = .ok (.iinc 1 1, 3) := by decide +kernel
theorem dX3_removeDoomed_135 : decode cX3_removeDoomed 135 = .ok (.goto (-39), 3) := by decide +kernel
theorem dX3_removeDoomed_138 : decode cX3_removeDoomed 138 = .ok (.aload_n 0, 1) := by decide +kernel
theorem dX3_removeDoomed_139 : decode cX3_removeDoomed 139 = .ok (.invokevirtual 128, 3) := by decide +kernel
theorem dX3_removeDoomed_142 : decode cX3_removeDoomed 142 = .ok (.return_, 1) := by decide +kernel
theorem dX4_init_0 : decode cX4_init 0 = .ok (.aload_n 0, 1) := by decide +kernel
theorem dX4_init_1 : decode cX4_init 1 = .ok (.invokespecial 3, 3) := by decide +kernel
theorem dX4_init_4 : decode cX4_init 4 = .ok (.aload_n 0, 1) := by decide +kernel
theorem dX4_init_5 : decode cX4_init 5 = .ok (.iconst 0, 1) := by decide +kernel
theorem dX4_init_6 : decode cX4_init 6 = .ok (.putfield 9, 3) := by decide +kernel
theorem dX4_init_9 : decode cX4_init 9 = .ok (.aload_n 0, 1) := by decide +kernel
theorem dX4_init_10 : decode cX4_init 10 = .ok (.iconst 0, 1) := by decide +kernel
theorem dX4_init_11 : decode cX4_init 11 = .ok (.putfield 15, 3) := by decide +kernel
theorem dX4_init_14 : decode cX4_init 14 = .ok (.aload_n 0, 1) := by decide +kernel
theorem dX4_init_15 : decode cX4_init 15 = .ok (.iconst (-1), 1) := by decide +kernel
theorem dX4_init_16 : decode cX4_init 16 = .ok (.putfield 18, 3) := by decide +kernel
theorem dX4_init_19 : decode cX4_init 19 = .ok (.aload_n 0, 1) := by decide +kernel
theorem dX4_init_20 : decode cX4_init 20 = .ok (.iconst 0, 1) := by decide +kernel
theorem dX4_init_21 : decode cX4_init 21 = .ok (.putfield 21, 3) := by decide +kernel
theorem dX4_init_24 : decode cX4_init 24 = .ok (.aload_n 0, 1) := by decide +kernel
theorem dX4_init_25 : decode cX4_init 25 = .ok (.iconst 0, 1) := by decide +kernel
theorem dX4_init_26 : decode cX4_init 26 = .ok (.putfield 25, 3) := by decide +kernel
theorem dX4_init_29 : decode cX4_init 29 = .ok (.aload_n 0, 1) := by decide +kernel
theorem dX4_init_30 : decode cX4_init 30 = .ok (.iconst (-1), 1) := by decide +kernel
theorem dX4_init_31 : decode cX4_init 31 = .ok (.putfield 28, 3) := by decide +kernel
theorem dX4_init_34 : decode cX4_init 34 = .ok (.aload_n 0, 1) := by decide +kernel
theorem dX4_init_35 : decode cX4_init 35 = .ok (.iconst 0, 1) := by decide +kernel
theorem dX4_init_36 : decode cX4_init 36 = .ok (.putfield 31, 3) := by decide +kernel
theorem dX4_init_39 : decode cX4_init 39 = .ok (.aload_n 0, 1) := by decide +kernel
theorem dX4_init_40 : decode cX4_init 40 = .ok (.iconst 4, 1) := by decide +kernel
theorem dX4_init_41 : decode cX4_init 41 = .ok (.newarray .int, 2) := by decide +kernel
theorem dX4_init_43 : decode cX4_init 43 = .ok (.putfield 34, 3) := by decide +kernel
theorem dX4_init_46 : decode cX4_init 46 = .ok (.aload_n 0, 1) := by decide +kernel
theorem dX4_init_47 : decode cX4_init 47 = .ok (.iconst 4, 1) := by decide +kernel
theorem dX4_init_48 : decode cX4_init 48 = .ok (.newarray .boolean, 2) := by decide +kernel
theorem dX4_init_50 : decode cX4_init 50 = .ok (.putfield 38, 3) := by decide +kernel
theorem dX4_init_53 : decode cX4_init 53 = .ok (.return_, 1) := by decide +kernel
theorem dX4_reopen_0 : decode cX4_reopen 0 = .ok (.aload_n 0, 1) := by decide +kernel
theorem dX4_reopen_1 : decode cX4_reopen 1 = .ok (.iload_n 1, 1) := by decide +kernel
theorem dX4_reopen_2 : decode cX4_reopen 2 = .ok (.putfield 9, 3) := by decide +kernel
theorem dX4_reopen_5 : decode cX4_reopen 5 = .ok (.aload_n 0, 1) := by decide +kernel
theorem dX4_reopen_6 : decode cX4_reopen 6 = .ok (.iload_n 2, 1) := by decide +kernel
theorem dX4_reopen_7 : decode cX4_reopen 7 = .ok (.putfield 15, 3) := by decide +kernel
theorem dX4_reopen_10 : decode cX4_reopen 10 = .ok (.aload_n 0, 1) := by decide +kernel
theorem dX4_reopen_11 : decode cX4_reopen 11 = .ok (.iconst (-1), 1) := by decide +kernel
theorem dX4_reopen_12 : decode cX4_reopen 12 = .ok (.putfield 28, 3) := by decide +kernel
theorem dX4_reopen_15 : decode cX4_reopen 15 = .ok (.aload_n 0, 1) := by decide +kernel
theorem dX4_reopen_16 : decode cX4_reopen 16 = .ok (.iconst 0, 1) := by decide +kernel
theorem dX4_reopen_17 : decode cX4_reopen 17 = .ok (.putfield 31, 3) := by decide +kernel
theorem dX4_reopen_20 : decode cX4_reopen 20 = .ok (.aload_n 0, 1) := by decide +kernel
theorem dX4_reopen_21 : decode cX4_reopen 21 = .ok (.invokevirtual 42, 3) := by decide +kernel
theorem dX4_reopen_24 : decode cX4_reopen 24 = .ok (.return_, 1) := by decide +kernel
theorem dX4_database_0 : decode cX4_database 0 = .ok (.aload_n 0, 1) := by decide +kernel
theorem dX4_database_1 : decode cX4_database 1 = .ok (.getfield 9, 3) := by decide +kernel
theorem dX4_database_4 : decode cX4_database 4 = .ok (.ireturn, 1) := by decide +kernel
theorem dX4_sees_0 : decode cX4_sees 0 = .ok (.aload_n 1, 1) := by decide +kernel
theorem dX4_sees_1 : decode cX4_sees 1 = .ok (.iload_n 2, 1) := by decide +kernel
theorem dX4_sees_2 : decode cX4_sees 2 = .ok (.invokevirtual 45, 3) := by decide +kernel
theorem dX4_sees_5 : decode cX4_sees 5 = .ok (.aload_n 0, 1) := by decide +kernel
theorem dX4_sees_6 : decode cX4_sees 6 = .ok (.getfield 9, 3) := by decide +kernel
theorem dX4_sees_9 : decode cX4_sees 9 = .ok (.if_icmp .eq 5, 3) := by decide +kernel
theorem dX4_sees_12 : decode cX4_sees 12 = .ok (.iconst 0, 1) := by decide +kernel
theorem dX4_sees_13 : decode cX4_sees 13 = .ok (.ireturn, 1) := by decide +kernel
theorem dX4_sees_14 : decode cX4_sees 14 = .ok (.iload_n 2, 1) := by decide +kernel
theorem dX4_sees_15 : decode cX4_sees 15 = .ok (.istore_n 3, 1) := by decide +kernel
theorem dX4_sees_16 : decode cX4_sees 16 = .ok (.iconst 0, 1) := by decide +kernel
theorem dX4_sees_17 : decode cX4_sees 17 = .ok (.istore 4, 2) := by decide +kernel
theorem dX4_sees_19 : decode cX4_sees 19 = .ok (.iload 4, 2) := by decide +kernel
theorem dX4_sees_21 : decode cX4_sees 21 = .ok (.iconst 4, 1) := by decide +kernel
theorem dX4_sees_22 : decode cX4_sees 22 = .ok (.if_icmp .ge 33, 3) := by decide +kernel
theorem dX4_sees_25 : decode cX4_sees 25 = .ok (.iload_n 3, 1) := by decide +kernel
theorem dX4_sees_26 : decode cX4_sees 26 = .ok (.iconst (-1), 1) := by decide +kernel
theorem dX4_sees_27 : decode cX4_sees 27 = .ok (.if_icmp .eq 28, 3) := by decide +kernel
theorem dX4_sees_30 : decode cX4_sees 30 = .ok (.aload_n 0, 1) := by decide +kernel
theorem dX4_sees_31 : decode cX4_sees 31 = .ok (.getfield 15, 3) := by decide +kernel
theorem dX4_sees_34 : decode cX4_sees 34 = .ok (.iload_n 3, 1) := by decide +kernel
theorem dX4_sees_35 : decode cX4_sees 35 = .ok (.ishr, 1) := by decide +kernel
theorem dX4_sees_36 : decode cX4_sees 36 = .ok (.iconst 1, 1) := by decide +kernel
theorem dX4_sees_37 : decode cX4_sees 37 = .ok (.iand, 1) := by decide +kernel
theorem dX4_sees_38 : decode cX4_sees 38 = .ok (.ifCond .ne 5, 3) := by decide +kernel
theorem dX4_sees_41 : decode cX4_sees 41 = .ok (.iconst 0, 1) := by decide +kernel
theorem dX4_sees_42 : decode cX4_sees 42 = .ok (.ireturn, 1) := by decide +kernel
theorem dX4_sees_43 : decode cX4_sees 43 = .ok (.aload_n 1, 1) := by decide +kernel
theorem dX4_sees_44 : decode cX4_sees 44 = .ok (.iload_n 3, 1) := by decide +kernel
theorem dX4_sees_45 : decode cX4_sees 45 = .ok (.invokevirtual 51, 3) := by decide +kernel
theorem dX4_sees_48 : decode cX4_sees 48 = .ok (.istore_n 3, 1) := by decide +kernel
theorem dX4_sees_49 : decode cX4_sees 49 = .ok (.iinc 4 1, 3) := by decide +kernel
theorem dX4_sees_52 : decode cX4_sees 52 = .ok (.goto (-33), 3) := by decide +kernel
theorem dX4_sees_55 : decode cX4_sees 55 = .ok (.iconst 1, 1) := by decide +kernel
theorem dX4_sees_56 : decode cX4_sees 56 = .ok (.ireturn, 1) := by decide +kernel
theorem dX4_mark_0 : decode cX4_mark 0 = .ok (.aload_n 0, 1) := by decide +kernel
theorem dX4_mark_1 : decode cX4_mark 1 = .ok (.getfield 18, 3) := by decide +kernel
theorem dX4_mark_4 : decode cX4_mark 4 = .ok (.ireturn, 1) := by decide +kernel
theorem dX4_segmentAt_0 : decode cX4_segmentAt 0 = .ok (.aload_n 0, 1) := by decide +kernel
theorem dX4_segmentAt_1 : decode cX4_segmentAt 1 = .ok (.getfield 21, 3) := by decide +kernel
theorem dX4_segmentAt_4 : decode cX4_segmentAt 4 = .ok (.ifCond .eq 10, 3) := by decide +kernel
theorem dX4_segmentAt_7 : decode cX4_segmentAt 7 = .ok (.aload_n 0, 1) := by decide +kernel
theorem dX4_segmentAt_8 : decode cX4_segmentAt 8 = .ok (.getfield 18, 3) := by decide +kernel
theorem dX4_segmentAt_11 : decode cX4_segmentAt 11 = .ok (.goto 4, 3) := by decide +kernel
theorem dX4_segmentAt_14 : decode cX4_segmentAt 14 = .ok (.iconst (-1), 1) := by decide +kernel
theorem dX4_segmentAt_15 : decode cX4_segmentAt 15 = .ok (.ireturn, 1) := by decide +kernel
theorem dX4_isBehindAll_0 : decode cX4_isBehindAll 0 = .ok (.aload_n 0, 1) := by decide +kernel
theorem dX4_isBehindAll_1 : decode cX4_isBehindAll 1 = .ok (.getfield 25, 3) := by decide +kernel
theorem dX4_isBehindAll_4 : decode cX4_isBehindAll 4 = .ok (.ireturn, 1) := by decide +kernel
theorem dX4_standAt_0 : decode cX4_standAt 0 = .ok (.aload_n 0, 1) := by decide +kernel
theorem dX4_standAt_1 : decode cX4_standAt 1 = .ok (.iload_n 1, 1) := by decide +kernel
theorem dX4_standAt_2 : decode cX4_standAt 2 = .ok (.putfield 18, 3) := by decide +kernel
theorem dX4_standAt_5 : decode cX4_standAt 5 = .ok (.aload_n 0, 1) := by decide +kernel
theorem dX4_standAt_6 : decode cX4_standAt 6 = .ok (.iconst 1, 1) := by decide +kernel
theorem dX4_standAt_7 : decode cX4_standAt 7 = .ok (.putfield 21, 3) := by decide +kernel
theorem dX4_standAt_10 : decode cX4_standAt 10 = .ok (.aload_n 0, 1) := by decide +kernel
theorem dX4_standAt_11 : decode cX4_standAt 11 = .ok (.iconst 0, 1) := by decide +kernel
theorem dX4_standAt_12 : decode cX4_standAt 12 = .ok (.putfield 25, 3) := by decide +kernel
theorem dX4_standAt_15 : decode cX4_standAt 15 = .ok (.return_, 1) := by decide +kernel
theorem dX4_standAheadOf_0 : decode cX4_standAheadOf 0 = .ok (.aload_n 0, 1) := by decide +kernel
theorem dX4_standAheadOf_1 : decode cX4_standAheadOf 1 = .ok (.iload_n 1, 1) := by decide +kernel
theorem dX4_standAheadOf_2 : decode cX4_standAheadOf 2 = .ok (.putfield 18, 3) := by decide +kernel
theorem dX4_standAheadOf_5 : decode cX4_standAheadOf 5 = .ok (.aload_n 0, 1) := by decide +kernel
theorem dX4_standAheadOf_6 : decode cX4_standAheadOf 6 = .ok (.iconst 0, 1) := by decide +kernel
theorem dX4_standAheadOf_7 : decode cX4_standAheadOf 7 = .ok (.putfield 21, 3) := by decide +kernel
theorem dX4_standAheadOf_10 : decode cX4_standAheadOf 10 = .ok (.aload_n 0, 1) := by decide +kernel
theorem dX4_standAheadOf_11 : decode cX4_standAheadOf 11 = .ok (.iload_n 1, 1) := by decide +kernel
theorem dX4_standAheadOf_12 : decode cX4_standAheadOf 12 = .ok (.iconst (-1), 1) := by decide +kernel
theorem dX4_standAheadOf_13 : decode cX4_standAheadOf 13 = .ok (.if_icmp .ne 7, 3) := by decide +kernel
theorem dX4_standAheadOf_16 : decode cX4_standAheadOf 16 = .ok (.iconst 1, 1) := by decide +kernel
theorem dX4_standAheadOf_17 : decode cX4_standAheadOf 17 = .ok (.goto 4, 3) := by decide +kernel
theorem dX4_standAheadOf_20 : decode cX4_standAheadOf 20 = .ok (.iconst 0, 1) := by decide +kernel
theorem dX4_standAheadOf_21 : decode cX4_standAheadOf 21 = .ok (.putfield 25, 3) := by decide +kernel
theorem dX4_standAheadOf_24 : decode cX4_standAheadOf 24 = .ok (.return_, 1) := by decide +kernel
theorem dX4_standAheadOfAll_0 : decode cX4_standAheadOfAll 0 = .ok (.aload_n 0, 1) := by decide +kernel
theorem dX4_standAheadOfAll_1 : decode cX4_standAheadOfAll 1 = .ok (.iconst (-1), 1) := by decide +kernel
theorem dX4_standAheadOfAll_2 : decode cX4_standAheadOfAll 2 = .ok (.putfield 18, 3) := by decide +kernel
theorem dX4_standAheadOfAll_5 : decode cX4_standAheadOfAll 5 = .ok (.aload_n 0, 1) := by decide +kernel
theorem dX4_standAheadOfAll_6 : decode cX4_standAheadOfAll 6 = .ok (.iconst 0, 1) := by decide +kernel
theorem dX4_standAheadOfAll_7 : decode cX4_standAheadOfAll 7 = .ok (.putfield 21, 3) := by decide +kernel
theorem dX4_standAheadOfAll_10 : decode cX4_standAheadOfAll 10 = .ok (.aload_n 0, 1) := by decide +kernel
theorem dX4_standAheadOfAll_11 : decode cX4_standAheadOfAll 11 = .ok (.iconst 0, 1) := by decide +kernel
theorem dX4_standAheadOfAll_12 : decode cX4_standAheadOfAll 12 = .ok (.putfield 25, 3) := by decide +kernel
theorem dX4_standAheadOfAll_15 : decode cX4_standAheadOfAll 15 = .ok (.return_, 1) := by decide +kernel
theorem dX4_parentSegment_0 : decode cX4_parentSegment 0 = .ok (.aload_n 0, 1) := by decide +kernel
theorem dX4_parentSegment_1 : decode cX4_parentSegment 1 = .ok (.getfield 28, 3) := by decide +kernel
theorem dX4_parentSegment_4 : decode cX4_parentSegment 4 = .ok (.ireturn, 1) := by decide +kernel
theorem dX4_setParent_0 : decode cX4_setParent 0 = .ok (.aload_n 0, 1) := by decide +kernel
theorem dX4_setParent_1 : decode cX4_setParent 1 = .ok (.iload_n 1, 1) := by decide +kernel
theorem dX4_setParent_2 : decode cX4_setParent 2 = .ok (.putfield 28, 3) := by decide +kernel
theorem dX4_setParent_5 : decode cX4_setParent 5 = .ok (.return_, 1) := by decide +kernel
theorem dX4_heldCount_0 : decode cX4_heldCount 0 = .ok (.aload_n 0, 1) := by decide +kernel
theorem dX4_heldCount_1 : decode cX4_heldCount 1 = .ok (.getfield 31, 3) := by decide +kernel
theorem dX4_heldCount_4 : decode cX4_heldCount 4 = .ok (.ireturn, 1) := by decide +kernel
theorem dX4_heldAt_0 : decode cX4_heldAt 0 = .ok (.iload_n 1, 1) := by decide +kernel
theorem dX4_heldAt_1 : decode cX4_heldAt 1 = .ok (.ifCond .lt 25, 3) := by decide +kernel
theorem dX4_heldAt_4 : decode cX4_heldAt 4 = .ok (.iload_n 1, 1) := by decide +kernel
theorem dX4_heldAt_5 : decode cX4_heldAt 5 = .ok (.aload_n 0, 1) := by decide +kernel
theorem dX4_heldAt_6 : decode cX4_heldAt 6 = .ok (.getfield 31, 3) := by decide +kernel
theorem dX4_heldAt_9 : decode cX4_heldAt 9 = .ok (.if_icmp .ge 17, 3) := by decide +kernel
theorem dX4_heldAt_12 : decode cX4_heldAt 12 = .ok (.iload_n 1, 1) := by decide +kernel
theorem dX4_heldAt_13 : decode cX4_heldAt 13 = .ok (.iconst 4, 1) := by decide +kernel
theorem dX4_heldAt_14 : decode cX4_heldAt 14 = .ok (.if_icmp .ge 12, 3) := by decide +kernel
theorem dX4_heldAt_17 : decode cX4_heldAt 17 = .ok (.aload_n 0, 1) := by decide +kernel
theorem dX4_heldAt_18 : decode cX4_heldAt 18 = .ok (.getfield 34, 3) := by decide +kernel
theorem dX4_heldAt_21 : decode cX4_heldAt 21 = .ok (.iload_n 1, 1) := by decide +kernel
theorem dX4_heldAt_22 : decode cX4_heldAt 22 = .ok (.iaload, 1) := by decide +kernel
theorem dX4_heldAt_23 : decode cX4_heldAt 23 = .ok (.goto 4, 3) := by decide +kernel
theorem dX4_heldAt_26 : decode cX4_heldAt 26 = .ok (.iconst (-1), 1) := by decide +kernel
theorem dX4_heldAt_27 : decode cX4_heldAt 27 = .ok (.ireturn, 1) := by decide +kernel
theorem dX4_isKept_0 : decode cX4_isKept 0 = .ok (.iload_n 1, 1) := by decide +kernel
theorem dX4_isKept_1 : decode cX4_isKept 1 = .ok (.ifCond .lt 29, 3) := by decide +kernel
theorem dX4_isKept_4 : decode cX4_isKept 4 = .ok (.iload_n 1, 1) := by decide +kernel
theorem dX4_isKept_5 : decode cX4_isKept 5 = .ok (.aload_n 0, 1) := by decide +kernel
theorem dX4_isKept_6 : decode cX4_isKept 6 = .ok (.getfield 31, 3) := by decide +kernel
theorem dX4_isKept_9 : decode cX4_isKept 9 = .ok (.if_icmp .ge 21, 3) := by decide +kernel
theorem dX4_isKept_12 : decode cX4_isKept 12 = .ok (.iload_n 1, 1) := by decide +kernel
theorem dX4_isKept_13 : decode cX4_isKept 13 = .ok (.iconst 4, 1) := by decide +kernel
theorem dX4_isKept_14 : decode cX4_isKept 14 = .ok (.if_icmp .ge 16, 3) := by decide +kernel
theorem dX4_isKept_17 : decode cX4_isKept 17 = .ok (.aload_n 0, 1) := by decide +kernel
theorem dX4_isKept_18 : decode cX4_isKept 18 = .ok (.getfield 38, 3) := by decide +kernel
theorem dX4_isKept_21 : decode cX4_isKept 21 = .ok (.iload_n 1, 1) := by decide +kernel
theorem dX4_isKept_22 : decode cX4_isKept 22 = .ok (.baload, 1) := by decide +kernel
theorem dX4_isKept_23 : decode cX4_isKept 23 = .ok (.ifCond .eq 7, 3) := by decide +kernel
theorem dX4_isKept_26 : decode cX4_isKept 26 = .ok (.iconst 1, 1) := by decide +kernel
theorem dX4_isKept_27 : decode cX4_isKept 27 = .ok (.goto 4, 3) := by decide +kernel
theorem dX4_isKept_30 : decode cX4_isKept 30 = .ok (.iconst 0, 1) := by decide +kernel
theorem dX4_isKept_31 : decode cX4_isKept 31 = .ok (.ireturn, 1) := by decide +kernel
theorem dX4_lastHeld_0 : decode cX4_lastHeld 0 = .ok (.aload_n 0, 1) := by decide +kernel
theorem dX4_lastHeld_1 : decode cX4_lastHeld 1 = .ok (.aload_n 0, 1) := by decide +kernel
theorem dX4_lastHeld_2 : decode cX4_lastHeld 2 = .ok (.getfield 31, 3) := by decide +kernel
theorem dX4_lastHeld_5 : decode cX4_lastHeld 5 = .ok (.iconst 1, 1) := by decide +kernel
theorem dX4_lastHeld_6 : decode cX4_lastHeld 6 = .ok (.isub, 1) := by decide +kernel
theorem dX4_lastHeld_7 : decode cX4_lastHeld 7 = .ok (.invokevirtual 54, 3) := by decide +kernel
theorem dX4_lastHeld_10 : decode cX4_lastHeld 10 = .ok (.ireturn, 1) := by decide +kernel
theorem dX4_hold_0 : decode cX4_hold 0 = .ok (.aload_n 0, 1) := by decide +kernel
theorem dX4_hold_1 : decode cX4_hold 1 = .ok (.getfield 31, 3) := by decide +kernel
theorem dX4_hold_4 : decode cX4_hold 4 = .ok (.iconst 4, 1) := by decide +kernel
theorem dX4_hold_5 : decode cX4_hold 5 = .ok (.if_icmp .ge 33, 3) := by decide +kernel
theorem dX4_hold_8 : decode cX4_hold 8 = .ok (.aload_n 0, 1) := by decide +kernel
theorem dX4_hold_9 : decode cX4_hold 9 = .ok (.getfield 34, 3) := by decide +kernel
theorem dX4_hold_12 : decode cX4_hold 12 = .ok (.aload_n 0, 1) := by decide +kernel
theorem dX4_hold_13 : decode cX4_hold 13 = .ok (.getfield 31, 3) := by decide +kernel
theorem dX4_hold_16 : decode cX4_hold 16 = .ok (.iload_n 1, 1) := by decide +kernel
theorem dX4_hold_17 : decode cX4_hold 17 = .ok (.iastore, 1) := by decide +kernel
theorem dX4_hold_18 : decode cX4_hold 18 = .ok (.aload_n 0, 1) := by decide +kernel
theorem dX4_hold_19 : decode cX4_hold 19 = .ok (.getfield 38, 3) := by decide +kernel
theorem dX4_hold_22 : decode cX4_hold 22 = .ok (.aload_n 0, 1) := by decide +kernel
theorem dX4_hold_23 : decode cX4_hold 23 = .ok (.getfield 31, 3) := by decide +kernel
theorem dX4_hold_26 : decode cX4_hold 26 = .ok (.iload_n 2, 1) := by decide +kernel
theorem dX4_hold_27 : decode cX4_hold 27 = .ok (.bastore, 1) := by decide +kernel
theorem dX4_hold_28 : decode cX4_hold 28 = .ok (.aload_n 0, 1) := by decide +kernel
theorem dX4_hold_29 : decode cX4_hold 29 = .ok (.dup, 1) := by decide +kernel
theorem dX4_hold_30 : decode cX4_hold 30 = .ok (.getfield 31, 3) := by decide +kernel
theorem dX4_hold_33 : decode cX4_hold 33 = .ok (.iconst 1, 1) := by decide +kernel
theorem dX4_hold_34 : decode cX4_hold 34 = .ok (.iadd, 1) := by decide +kernel
theorem dX4_hold_35 : decode cX4_hold 35 = .ok (.putfield 31, 3) := by decide +kernel
theorem dX4_hold_38 : decode cX4_hold 38 = .ok (.return_, 1) := by decide +kernel
theorem dX4_release_0 : decode cX4_release 0 = .ok (.aload_n 0, 1) := by decide +kernel
theorem dX4_release_1 : decode cX4_release 1 = .ok (.iconst 0, 1) := by decide +kernel
theorem dX4_release_2 : decode cX4_release 2 = .ok (.putfield 31, 3) := by decide +kernel
theorem dX4_release_5 : decode cX4_release 5 = .ok (.return_, 1) := by decide +kernel
theorem dX5_init_0 : decode cX5_init 0 = .ok (.aload_n 0, 1) := by decide +kernel
theorem dX5_init_1 : decode cX5_init 1 = .ok (.invokespecial 1, 3) := by decide +kernel
theorem dX5_init_4 : decode cX5_init 4 = .ok (.aload_n 0, 1) := by decide +kernel
theorem dX5_init_5 : decode cX5_init 5 = .ok (.new 7, 3) := by decide +kernel
theorem dX5_init_8 : decode cX5_init 8 = .ok (.dup, 1) := by decide +kernel
theorem dX5_init_9 : decode cX5_init 9 = .ok (.invokespecial 9, 3) := by decide +kernel
theorem dX5_init_12 : decode cX5_init 12 = .ok (.putfield 10, 3) := by decide +kernel
theorem dX5_init_15 : decode cX5_init 15 = .ok (.aload_n 0, 1) := by decide +kernel
theorem dX5_init_16 : decode cX5_init 16 = .ok (.new 16, 3) := by decide +kernel
theorem dX5_init_19 : decode cX5_init 19 = .ok (.dup, 1) := by decide +kernel
theorem dX5_init_20 : decode cX5_init 20 = .ok (.aload_n 0, 1) := by decide +kernel
theorem dX5_init_21 : decode cX5_init 21 = .ok (.getfield 10, 3) := by decide +kernel
theorem dX5_init_24 : decode cX5_init 24 = .ok (.invokespecial 18, 3) := by decide +kernel
theorem dX5_init_27 : decode cX5_init 27 = .ok (.putfield 21, 3) := by decide +kernel
theorem dX5_init_30 : decode cX5_init 30 = .ok (.aload_n 0, 1) := by decide +kernel
theorem dX5_init_31 : decode cX5_init 31 = .ok (.new 25, 3) := by decide +kernel
theorem dX5_init_34 : decode cX5_init 34 = .ok (.dup, 1) := by decide +kernel
theorem dX5_init_35 : decode cX5_init 35 = .ok (.invokespecial 27, 3) := by decide +kernel
theorem dX5_init_38 : decode cX5_init 38 = .ok (.putfield 28, 3) := by decide +kernel
theorem dX5_init_41 : decode cX5_init 41 = .ok (.aload_n 0, 1) := by decide +kernel
theorem dX5_init_42 : decode cX5_init 42 = .ok (.new 32, 3) := by decide +kernel
theorem dX5_init_45 : decode cX5_init 45 = .ok (.dup, 1) := by decide +kernel
theorem dX5_init_46 : decode cX5_init 46 = .ok (.invokespecial 34, 3) := by decide +kernel
theorem dX5_init_49 : decode cX5_init 49 = .ok (.putfield 35, 3) := by decide +kernel
theorem dX5_init_52 : decode cX5_init 52 = .ok (.aload_n 0, 1) := by decide +kernel
theorem dX5_init_53 : decode cX5_init 53 = .ok (.iconst 4, 1) := by decide +kernel
theorem dX5_init_54 : decode cX5_init 54 = .ok (.anewarray 39, 3) := by decide +kernel
theorem dX5_init_57 : decode cX5_init 57 = .ok (.putfield 41, 3) := by decide +kernel
theorem dX5_init_60 : decode cX5_init 60 = .ok (.aload_n 0, 1) := by decide +kernel
theorem dX5_init_61 : decode cX5_init 61 = .ok (.bipush 12, 2) := by decide +kernel
theorem dX5_init_63 : decode cX5_init 63 = .ok (.newarray .int, 2) := by decide +kernel
theorem dX5_init_65 : decode cX5_init 65 = .ok (.putfield 45, 3) := by decide +kernel
theorem dX5_init_68 : decode cX5_init 68 = .ok (.iconst 0, 1) := by decide +kernel
theorem dX5_init_69 : decode cX5_init 69 = .ok (.istore_n 1, 1) := by decide +kernel
theorem dX5_init_70 : decode cX5_init 70 = .ok (.iload_n 1, 1) := by decide +kernel
theorem dX5_init_71 : decode cX5_init 71 = .ok (.aload_n 0, 1) := by decide +kernel
theorem dX5_init_72 : decode cX5_init 72 = .ok (.getfield 41, 3) := by decide +kernel
theorem dX5_init_75 : decode cX5_init 75 = .ok (.arraylength, 1) := by decide +kernel
theorem dX5_init_76 : decode cX5_init 76 = .ok (.if_icmp .ge 22, 3) := by decide +kernel
theorem dX5_init_79 : decode cX5_init 79 = .ok (.aload_n 0, 1) := by decide +kernel
theorem dX5_init_80 : decode cX5_init 80 = .ok (.getfield 41, 3) := by decide +kernel
theorem dX5_init_83 : decode cX5_init 83 = .ok (.iload_n 1, 1) := by decide +kernel
theorem dX5_init_84 : decode cX5_init 84 = .ok (.new 39, 3) := by decide +kernel
theorem dX5_init_87 : decode cX5_init 87 = .ok (.dup, 1) := by decide +kernel
theorem dX5_init_88 : decode cX5_init 88 = .ok (.invokespecial 49, 3) := by decide +kernel
theorem dX5_init_91 : decode cX5_init 91 = .ok (.aastore, 1) := by decide +kernel
theorem dX5_init_92 : decode cX5_init 92 = .ok (.iinc 1 1, 3) := by decide +kernel
theorem dX5_init_95 : decode cX5_init 95 = .ok (.goto (-25), 3) := by decide +kernel
theorem dX5_init_98 : decode cX5_init 98 = .ok (.return_, 1) := by decide +kernel
theorem dX5_type_0 : decode cX5_type 0 = .ok (.iload_n 1, 1) := by decide +kernel
theorem dX5_type_1 : decode cX5_type 1 = .ok (.iconst 3, 1) := by decide +kernel
theorem dX5_type_2 : decode cX5_type 2 = .ok (.invokestatic 50, 3) := by decide +kernel
theorem dX5_type_5 : decode cX5_type 5 = .ok (.ifCond .eq 23, 3) := by decide +kernel
theorem dX5_type_8 : decode cX5_type 8 = .ok (.iload_n 2, 1) := by decide +kernel
theorem dX5_type_9 : decode cX5_type 9 = .ok (.iconst (-1), 1) := by decide +kernel
theorem dX5_type_10 : decode cX5_type 10 = .ok (.if_icmp .eq 14, 3) := by decide +kernel
theorem dX5_type_13 : decode cX5_type 13 = .ok (.aload_n 0, 1) := by decide +kernel
theorem dX5_type_14 : decode cX5_type 14 = .ok (.getfield 10, 3) := by decide +kernel
theorem dX5_type_17 : decode cX5_type 17 = .ok (.iload_n 2, 1) := by decide +kernel
theorem dX5_type_18 : decode cX5_type 18 = .ok (.invokevirtual 54, 3) := by decide +kernel
theorem dX5_type_21 : decode cX5_type 21 = .ok (.ifCond .eq 7, 3) := by decide +kernel
theorem dX5_type_24 : decode cX5_type 24 = .ok (.iconst 1, 1) := by decide +kernel
theorem dX5_type_25 : decode cX5_type 25 = .ok (.goto 4, 3) := by decide +kernel
theorem dX5_type_28 : decode cX5_type 28 = .ok (.iconst 0, 1) := by decide +kernel
theorem dX5_type_29 : decode cX5_type 29 = .ok (.invokestatic 58, 3) := by decide +kernel
theorem dX5_type_32 : decode cX5_type 32 = .ok (.iload_n 2, 1) := by decide +kernel
theorem dX5_type_33 : decode cX5_type 33 = .ok (.iconst (-1), 1) := by decide +kernel
theorem dX5_type_34 : decode cX5_type 34 = .ok (.if_icmp .eq 15, 3) := by decide +kernel
theorem dX5_type_37 : decode cX5_type 37 = .ok (.aload_n 0, 1) := by decide +kernel
theorem dX5_type_38 : decode cX5_type 38 = .ok (.getfield 10, 3) := by decide +kernel
theorem dX5_type_41 : decode cX5_type 41 = .ok (.iload_n 2, 1) := by decide +kernel
theorem dX5_type_42 : decode cX5_type 42 = .ok (.invokevirtual 62, 3) := by decide +kernel
theorem dX5_type_45 : decode cX5_type 45 = .ok (.iload_n 1, 1) := by decide +kernel
theorem dX5_type_46 : decode cX5_type 46 = .ok (.if_icmp .ne 7, 3) := by decide +kernel
theorem dX5_type_49 : decode cX5_type 49 = .ok (.iconst 1, 1) := by decide +kernel
theorem dX5_type_50 : decode cX5_type 50 = .ok (.goto 4, 3) := by decide +kernel
theorem dX5_type_53 : decode cX5_type 53 = .ok (.iconst 0, 1) := by decide +kernel
theorem dX5_type_54 : decode cX5_type 54 = .ok (.invokestatic 66, 3) := by decide +kernel
theorem dX5_type_57 : decode cX5_type 57 = .ok (.iload_n 3, 1) := by decide +kernel
theorem dX5_type_58 : decode cX5_type 58 = .ok (.iconst 3, 1) := by decide +kernel
theorem dX5_type_59 : decode cX5_type 59 = .ok (.invokestatic 50, 3) := by decide +kernel
theorem dX5_type_62 : decode cX5_type 62 = .ok (.ifCond .eq 16, 3) := by decide +kernel
theorem dX5_type_65 : decode cX5_type 65 = .ok (.iload 4, 2) := by decide +kernel
theorem dX5_type_67 : decode cX5_type 67 = .ok (.iconst 3, 1) := by decide +kernel
theorem dX5_type_68 : decode cX5_type 68 = .ok (.invokestatic 50, 3) := by decide +kernel
theorem dX5_type_71 : decode cX5_type 71 = .ok (.ifCond .eq 7, 3) := by decide +kernel
theorem dX5_type_74 : decode cX5_type 74 = .ok (.iconst 1, 1) := by decide +kernel
theorem dX5_type_75 : decode cX5_type 75 = .ok (.goto 4, 3) := by decide +kernel
theorem dX5_type_78 : decode cX5_type 78 = .ok (.iconst 0, 1) := by decide +kernel
theorem dX5_type_79 : decode cX5_type 79 = .ok (.invokestatic 66, 3) := by decide +kernel
theorem dX5_type_82 : decode cX5_type 82 = .ok (.iload_n 2, 1) := by decide +kernel
theorem dX5_type_83 : decode cX5_type 83 = .ok (.iconst (-1), 1) := by decide +kernel
theorem dX5_type_84 : decode cX5_type 84 = .ok (.if_icmp .ne 7, 3) := by decide +kernel
theorem dX5_type_87 : decode cX5_type 87 = .ok (.iload_n 3, 1) := by decide +kernel
theorem dX5_type_88 : decode cX5_type 88 = .ok (.ifCond .ne 7, 3) := by decide +kernel
theorem dX5_type_91 : decode cX5_type 91 = .ok (.iconst 1, 1) := by decide +kernel
theorem dX5_type_92 : decode cX5_type 92 = .ok (.goto 4, 3) := by decide +kernel
theorem dX5_type_95 : decode cX5_type 95 = .ok (.iconst 0, 1) := by decide +kernel
theorem dX5_type_96 : decode cX5_type 96 = .ok (.invokestatic 66, 3) := by decide +kernel
theorem dX5_type_99 : decode cX5_type 99 = .ok (.aload_n 0, 1) := by decide +kernel
theorem dX5_type_100 : decode cX5_type 100 = .ok (.getfield 21, 3) := by decide +kernel
theorem dX5_type_103 : decode cX5_type 103 = .ok (.iload_n 1, 1) := by decide +kernel
theorem dX5_type_104 : decode cX5_type 104 = .ok (.invokevirtual 69, 3) := by decide +kernel
theorem dX5_type_107 : decode cX5_type 107 = .ok (.ifCond .ne 7, 3) := by decide +kernel
theorem dX5_type_110 : decode cX5_type 110 = .ok (.iconst 1, 1) := by decide +kernel
theorem dX5_type_111 : decode cX5_type 111 = .ok (.goto 4, 3) := by decide +kernel
theorem dX5_type_114 : decode cX5_type 114 = .ok (.iconst 0, 1) := by decide +kernel
theorem dX5_type_115 : decode cX5_type 115 = .ok (.invokestatic 72, 3) := by decide +kernel
theorem dX5_type_118 : decode cX5_type 118 = .ok (.iload_n 2, 1) := by decide +kernel
theorem dX5_type_119 : decode cX5_type 119 = .ok (.iconst (-1), 1) := by decide +kernel
theorem dX5_type_120 : decode cX5_type 120 = .ok (.if_icmp .ne 14, 3) := by decide +kernel
theorem dX5_type_123 : decode cX5_type 123 = .ok (.aload_n 0, 1) := by decide +kernel
theorem dX5_type_124 : decode cX5_type 124 = .ok (.getfield 10, 3) := by decide +kernel
theorem dX5_type_127 : decode cX5_type 127 = .ok (.iload_n 1, 1) := by decide +kernel
theorem dX5_type_128 : decode cX5_type 128 = .ok (.invokevirtual 75, 3) := by decide +kernel
theorem dX5_type_131 : decode cX5_type 131 = .ok (.ifCond .ne 7, 3) := by decide +kernel
theorem dX5_type_134 : decode cX5_type 134 = .ok (.iconst 1, 1) := by decide +kernel
theorem dX5_type_135 : decode cX5_type 135 = .ok (.goto 4, 3) := by decide +kernel
theorem dX5_type_138 : decode cX5_type 138 = .ok (.iconst 0, 1) := by decide +kernel
theorem dX5_type_139 : decode cX5_type 139 = .ok (.invokestatic 72, 3) := by decide +kernel
theorem dX5_type_142 : decode cX5_type 142 = .ok (.aload_n 0, 1) := by decide +kernel
theorem dX5_type_143 : decode cX5_type 143 = .ok (.getfield 10, 3) := by decide +kernel
theorem dX5_type_146 : decode cX5_type 146 = .ok (.iload_n 2, 1) := by decide +kernel
theorem dX5_type_147 : decode cX5_type 147 = .ok (.invokevirtual 78, 3) := by decide +kernel
theorem dX5_type_150 : decode cX5_type 150 = .ok (.iconst 4, 1) := by decide +kernel
theorem dX5_type_151 : decode cX5_type 151 = .ok (.if_icmp .gt 19, 3) := by decide +kernel
theorem dX5_type_154 : decode cX5_type 154 = .ok (.aload_n 0, 1) := by decide +kernel
theorem dX5_type_155 : decode cX5_type 155 = .ok (.getfield 10, 3) := by decide +kernel
theorem dX5_type_158 : decode cX5_type 158 = .ok (.invokevirtual 81, 3) := by decide +kernel
theorem dX5_type_161 : decode cX5_type 161 = .ok (.bipush 12, 2) := by decide +kernel
theorem dX5_type_163 : decode cX5_type 163 = .ok (.if_icmp .ge 7, 3) := by decide +kernel
theorem dX5_type_166 : decode cX5_type 166 = .ok (.iconst 1, 1) := by decide +kernel
theorem dX5_type_167 : decode cX5_type 167 = .ok (.goto 4, 3) := by decide +kernel
theorem dX5_type_170 : decode cX5_type 170 = .ok (.iconst 0, 1) := by decide +kernel
theorem dX5_type_171 : decode cX5_type 171 = .ok (.invokestatic 72, 3) := by decide +kernel
theorem dX5_type_174 : decode cX5_type 174 = .ok (.aload_n 0, 1) := by decide +kernel
theorem dX5_type_175 : decode cX5_type 175 = .ok (.getfield 10, 3) := by decide +kernel
theorem dX5_type_178 : decode cX5_type 178 = .ok (.iload_n 1, 1) := by decide +kernel
theorem dX5_type_179 : decode cX5_type 179 = .ok (.iload_n 2, 1) := by decide +kernel
theorem dX5_type_180 : decode cX5_type 180 = .ok (.iload_n 3, 1) := by decide +kernel
theorem dX5_type_181 : decode cX5_type 181 = .ok (.iload 4, 2) := by decide +kernel
theorem dX5_type_183 : decode cX5_type 183 = .ok (.invokevirtual 85, 3) := by decide +kernel
theorem dX5_type_186 : decode cX5_type 186 = .ok (.ireturn, 1) := by decide +kernel
theorem dX5_tie_0 : decode cX5_tie 0 = .ok (.aload_n 0, 1) := by decide +kernel
theorem dX5_tie_1 : decode cX5_tie 1 = .ok (.getfield 10, 3) := by decide +kernel
theorem dX5_tie_4 : decode cX5_tie 4 = .ok (.iload_n 1, 1) := by decide +kernel
theorem dX5_tie_5 : decode cX5_tie 5 = .ok (.invokevirtual 54, 3) := by decide +kernel
theorem dX5_tie_8 : decode cX5_tie 8 = .ok (.ifCond .eq 18, 3) := by decide +kernel
theorem dX5_tie_11 : decode cX5_tie 11 = .ok (.aload_n 0, 1) := by decide +kernel
theorem dX5_tie_12 : decode cX5_tie 12 = .ok (.getfield 10, 3) := by decide +kernel
theorem dX5_tie_15 : decode cX5_tie 15 = .ok (.iload_n 2, 1) := by decide +kernel
theorem dX5_tie_16 : decode cX5_tie 16 = .ok (.invokevirtual 54, 3) := by decide +kernel
theorem dX5_tie_19 : decode cX5_tie 19 = .ok (.ifCond .eq 7, 3) := by decide +kernel
theorem dX5_tie_22 : decode cX5_tie 22 = .ok (.iconst 1, 1) := by decide +kernel
theorem dX5_tie_23 : decode cX5_tie 23 = .ok (.goto 4, 3) := by decide +kernel
theorem dX5_tie_26 : decode cX5_tie 26 = .ok (.iconst 0, 1) := by decide +kernel
theorem dX5_tie_27 : decode cX5_tie 27 = .ok (.invokestatic 58, 3) := by decide +kernel
theorem dX5_tie_30 : decode cX5_tie 30 = .ok (.aload_n 0, 1) := by decide +kernel
theorem dX5_tie_31 : decode cX5_tie 31 = .ok (.getfield 10, 3) := by decide +kernel
theorem dX5_tie_34 : decode cX5_tie 34 = .ok (.iload_n 1, 1) := by decide +kernel
theorem dX5_tie_35 : decode cX5_tie 35 = .ok (.invokevirtual 89, 3) := by decide +kernel
theorem dX5_tie_38 : decode cX5_tie 38 = .ok (.ifCond .ne 18, 3) := by decide +kernel
theorem dX5_tie_41 : decode cX5_tie 41 = .ok (.aload_n 0, 1) := by decide +kernel
theorem dX5_tie_42 : decode cX5_tie 42 = .ok (.getfield 10, 3) := by decide +kernel
theorem dX5_tie_45 : decode cX5_tie 45 = .ok (.iload_n 2, 1) := by decide +kernel
theorem dX5_tie_46 : decode cX5_tie 46 = .ok (.invokevirtual 89, 3) := by decide +kernel
theorem dX5_tie_49 : decode cX5_tie 49 = .ok (.ifCond .eq 7, 3) := by decide +kernel
theorem dX5_tie_52 : decode cX5_tie 52 = .ok (.iconst 1, 1) := by decide +kernel
theorem dX5_tie_53 : decode cX5_tie 53 = .ok (.goto 4, 3) := by decide +kernel
theorem dX5_tie_56 : decode cX5_tie 56 = .ok (.iconst 0, 1) := by decide +kernel
theorem dX5_tie_57 : decode cX5_tie 57 = .ok (.invokestatic 66, 3) := by decide +kernel
theorem dX5_tie_60 : decode cX5_tie 60 = .ok (.iload_n 3, 1) := by decide +kernel
theorem dX5_tie_61 : decode cX5_tie 61 = .ok (.iconst 2, 1) := by decide +kernel
theorem dX5_tie_62 : decode cX5_tie 62 = .ok (.invokestatic 50, 3) := by decide +kernel
theorem dX5_tie_65 : decode cX5_tie 65 = .ok (.ifCond .eq 16, 3) := by decide +kernel
theorem dX5_tie_68 : decode cX5_tie 68 = .ok (.iload 4, 2) := by decide +kernel
theorem dX5_tie_70 : decode cX5_tie 70 = .ok (.iconst 3, 1) := by decide +kernel
theorem dX5_tie_71 : decode cX5_tie 71 = .ok (.invokestatic 50, 3) := by decide +kernel
theorem dX5_tie_74 : decode cX5_tie 74 = .ok (.ifCond .eq 7, 3) := by decide +kernel
theorem dX5_tie_77 : decode cX5_tie 77 = .ok (.iconst 1, 1) := by decide +kernel
theorem dX5_tie_78 : decode cX5_tie 78 = .ok (.goto 4, 3) := by decide +kernel
theorem dX5_tie_81 : decode cX5_tie 81 = .ok (.iconst 0, 1) := by decide +kernel
theorem dX5_tie_82 : decode cX5_tie 82 = .ok (.invokestatic 66, 3) := by decide +kernel
theorem dX5_tie_85 : decode cX5_tie 85 = .ok (.aload_n 0, 1) := by decide +kernel
theorem dX5_tie_86 : decode cX5_tie 86 = .ok (.getfield 21, 3) := by decide +kernel
theorem dX5_tie_89 : decode cX5_tie 89 = .ok (.aload_n 0, 1) := by decide +kernel
theorem dX5_tie_90 : decode cX5_tie 90 = .ok (.getfield 10, 3) := by decide +kernel
theorem dX5_tie_93 : decode cX5_tie 93 = .ok (.iload_n 1, 1) := by decide +kernel
theorem dX5_tie_94 : decode cX5_tie 94 = .ok (.invokevirtual 62, 3) := by decide +kernel
theorem dX5_tie_97 : decode cX5_tie 97 = .ok (.invokevirtual 69, 3) := by decide +kernel
theorem dX5_tie_100 : decode cX5_tie 100 = .ok (.ifCond .ne 7, 3) := by decide +kernel
theorem dX5_tie_103 : decode cX5_tie 103 = .ok (.iconst 1, 1) := by decide +kernel
theorem dX5_tie_104 : decode cX5_tie 104 = .ok (.goto 4, 3) := by decide +kernel
theorem dX5_tie_107 : decode cX5_tie 107 = .ok (.iconst 0, 1) := by decide +kernel
theorem dX5_tie_108 : decode cX5_tie 108 = .ok (.invokestatic 72, 3) := by decide +kernel
theorem dX5_tie_111 : decode cX5_tie 111 = .ok (.aload_n 0, 1) := by decide +kernel
theorem dX5_tie_112 : decode cX5_tie 112 = .ok (.getfield 10, 3) := by decide +kernel
theorem dX5_tie_115 : decode cX5_tie 115 = .ok (.iload_n 1, 1) := by decide +kernel
theorem dX5_tie_116 : decode cX5_tie 116 = .ok (.invokevirtual 92, 3) := by decide +kernel
theorem dX5_tie_119 : decode cX5_tie 119 = .ok (.iconst (-1), 1) := by decide +kernel
theorem dX5_tie_120 : decode cX5_tie 120 = .ok (.if_icmp .ne 7, 3) := by decide +kernel
theorem dX5_tie_123 : decode cX5_tie 123 = .ok (.iconst 1, 1) := by decide +kernel
theorem dX5_tie_124 : decode cX5_tie 124 = .ok (.goto 4, 3) := by decide +kernel
theorem dX5_tie_127 : decode cX5_tie 127 = .ok (.iconst 0, 1) := by decide +kernel
theorem dX5_tie_128 : decode cX5_tie 128 = .ok (.invokestatic 72, 3) := by decide +kernel
theorem dX5_tie_131 : decode cX5_tie 131 = .ok (.aload_n 0, 1) := by decide +kernel
theorem dX5_tie_132 : decode cX5_tie 132 = .ok (.getfield 10, 3) := by decide +kernel
theorem dX5_tie_135 : decode cX5_tie 135 = .ok (.iload_n 1, 1) := by decide +kernel
theorem dX5_tie_136 : decode cX5_tie 136 = .ok (.iload_n 2, 1) := by decide +kernel
theorem dX5_tie_137 : decode cX5_tie 137 = .ok (.iload_n 3, 1) := by decide +kernel
theorem dX5_tie_138 : decode cX5_tie 138 = .ok (.iload 4, 2) := by decide +kernel
theorem dX5_tie_140 : decode cX5_tie 140 = .ok (.invokevirtual 95, 3) := by decide +kernel
theorem dX5_tie_143 : decode cX5_tie 143 = .ok (.return_, 1) := by decide +kernel
theorem dX5_open_0 : decode cX5_open 0 = .ok (.aload_n 0, 1) := by decide +kernel
theorem dX5_open_1 : decode cX5_open 1 = .ok (.iload_n 1, 1) := by decide +kernel
theorem dX5_open_2 : decode cX5_open 2 = .ok (.invokevirtual 99, 3) := by decide +kernel
theorem dX5_open_5 : decode cX5_open 5 = .ok (.astore 4, 2) := by decide +kernel
theorem dX5_open_7 : decode cX5_open 7 = .ok (.iload_n 2, 1) := by decide +kernel
theorem dX5_open_8 : decode cX5_open 8 = .ok (.iconst 3, 1) := by decide +kernel
theorem dX5_open_9 : decode cX5_open 9 = .ok (.invokestatic 50, 3) := by decide +kernel
theorem dX5_open_12 : decode cX5_open 12 = .ok (.invokestatic 58, 3) := by decide +kernel
theorem dX5_open_15 : decode cX5_open 15 = .ok (.iload_n 3, 1) := by decide +kernel
theorem dX5_open_16 : decode cX5_open 16 = .ok (.sipush 4096, 3) := by decide +kernel
theorem dX5_open_19 : decode cX5_open 19 = .ok (.invokestatic 50, 3) := by decide +kernel
theorem dX5_open_22 : decode cX5_open 22 = .ok (.invokestatic 66, 3) := by decide +kernel
theorem dX5_open_25 : decode cX5_open 25 = .ok (.aload 4, 2) := by decide +kernel
theorem dX5_open_27 : decode cX5_open 27 = .ok (.iload_n 2, 1) := by decide +kernel
theorem dX5_open_28 : decode cX5_open 28 = .ok (.iload_n 3, 1) := by decide +kernel
theorem dX5_open_29 : decode cX5_open 29 = .ok (.invokevirtual 103, 3) := by decide +kernel
theorem dX5_open_32 : decode cX5_open 32 = .ok (.return_, 1) := by decide +kernel
theorem dX5_argument_0 : decode cX5_argument 0 = .ok (.aload_n 0, 1) := by decide +kernel
theorem dX5_argument_1 : decode cX5_argument 1 = .ok (.getfield 10, 3) := by decide +kernel
theorem dX5_argument_4 : decode cX5_argument 4 = .ok (.iload_n 1, 1) := by decide +kernel
theorem dX5_argument_5 : decode cX5_argument 5 = .ok (.invokevirtual 54, 3) := by decide +kernel
theorem dX5_argument_8 : decode cX5_argument 8 = .ok (.invokestatic 58, 3) := by decide +kernel
theorem dX5_argument_11 : decode cX5_argument 11 = .ok (.iload_n 2, 1) := by decide +kernel
theorem dX5_argument_12 : decode cX5_argument 12 = .ok (.bipush 64, 2) := by decide +kernel
theorem dX5_argument_14 : decode cX5_argument 14 = .ok (.invokestatic 50, 3) := by decide +kernel
theorem dX5_argument_17 : decode cX5_argument 17 = .ok (.invokestatic 66, 3) := by decide +kernel
theorem dX5_argument_20 : decode cX5_argument 20 = .ok (.aload_n 0, 1) := by decide +kernel
theorem dX5_argument_21 : decode cX5_argument 21 = .ok (.getfield 28, 3) := by decide +kernel
theorem dX5_argument_24 : decode cX5_argument 24 = .ok (.invokevirtual 107, 3) := by decide +kernel
theorem dX5_argument_27 : decode cX5_argument 27 = .ok (.iconst 4, 1) := by decide +kernel
theorem dX5_argument_28 : decode cX5_argument 28 = .ok (.if_icmp .ge 7, 3) := by decide +kernel
theorem dX5_argument_31 : decode cX5_argument 31 = .ok (.iconst 1, 1) := by decide +kernel
theorem dX5_argument_32 : decode cX5_argument 32 = .ok (.goto 4, 3) := by decide +kernel
theorem dX5_argument_35 : decode cX5_argument 35 = .ok (.iconst 0, 1) := by decide +kernel
theorem dX5_argument_36 : decode cX5_argument 36 = .ok (.invokestatic 72, 3) := by decide +kernel
theorem dX5_argument_39 : decode cX5_argument 39 = .ok (.aload_n 0, 1) := by decide +kernel
theorem dX5_argument_40 : decode cX5_argument 40 = .ok (.getfield 28, 3) := by decide +kernel
theorem dX5_argument_43 : decode cX5_argument 43 = .ok (.iload_n 1, 1) := by decide +kernel
theorem dX5_argument_44 : decode cX5_argument 44 = .ok (.iload_n 2, 1) := by decide +kernel
theorem dX5_argument_45 : decode cX5_argument 45 = .ok (.invokevirtual 108, 3) := by decide +kernel
theorem dX5_argument_48 : decode cX5_argument 48 = .ok (.ireturn, 1) := by decide +kernel
theorem dX5_condition_0 : decode cX5_condition 0 = .ok (.iload_n 2, 1) := by decide +kernel
theorem dX5_condition_1 : decode cX5_condition 1 = .ok (.iconst 3, 1) := by decide +kernel
theorem dX5_condition_2 : decode cX5_condition 2 = .ok (.invokestatic 50, 3) := by decide +kernel
theorem dX5_condition_5 : decode cX5_condition 5 = .ok (.invokestatic 58, 3) := by decide +kernel
theorem dX5_condition_8 : decode cX5_condition 8 = .ok (.iload_n 3, 1) := by decide +kernel
theorem dX5_condition_9 : decode cX5_condition 9 = .ok (.bipush 6, 2) := by decide +kernel
theorem dX5_condition_11 : decode cX5_condition 11 = .ok (.invokestatic 50, 3) := by decide +kernel
theorem dX5_condition_14 : decode cX5_condition 14 = .ok (.ifCond .eq 18, 3) := by decide +kernel
theorem dX5_condition_17 : decode cX5_condition 17 = .ok (.iload 4, 2) := by decide +kernel
theorem dX5_condition_19 : decode cX5_condition 19 = .ok (.sipush 1000, 3) := by decide +kernel
theorem dX5_condition_22 : decode cX5_condition 22 = .ok (.invokestatic 50, 3) := by decide +kernel
theorem dX5_condition_25 : decode cX5_condition 25 = .ok (.ifCond .eq 7, 3) := by decide +kernel
theorem dX5_condition_28 : decode cX5_condition 28 = .ok (.iconst 1, 1) := by decide +kernel
theorem dX5_condition_29 : decode cX5_condition 29 = .ok (.goto 4, 3) := by decide +kernel
theorem dX5_condition_32 : decode cX5_condition 32 = .ok (.iconst 0, 1) := by decide +kernel
theorem dX5_condition_33 : decode cX5_condition 33 = .ok (.invokestatic 66, 3) := by decide +kernel
theorem dX5_condition_36 : decode cX5_condition 36 = .ok (.aload_n 0, 1) := by decide +kernel
theorem dX5_condition_37 : decode cX5_condition 37 = .ok (.getfield 28, 3) := by decide +kernel
theorem dX5_condition_40 : decode cX5_condition 40 = .ok (.invokevirtual 107, 3) := by decide +kernel
theorem dX5_condition_43 : decode cX5_condition 43 = .ok (.iconst 1, 1) := by decide +kernel
theorem dX5_condition_44 : decode cX5_condition 44 = .ok (.isub, 1) := by decide +kernel
theorem dX5_condition_45 : decode cX5_condition 45 = .ok (.istore 5, 2) := by decide +kernel
theorem dX5_condition_47 : decode cX5_condition 47 = .ok (.iload 5, 2) := by decide +kernel
theorem dX5_condition_49 : decode cX5_condition 49 = .ok (.ifCond .lt 20, 3) := by decide +kernel
theorem dX5_condition_52 : decode cX5_condition 52 = .ok (.aload_n 0, 1) := by decide +kernel
theorem dX5_condition_53 : decode cX5_condition 53 = .ok (.getfield 28, 3) := by decide +kernel
theorem dX5_condition_56 : decode cX5_condition 56 = .ok (.iload 5, 2) := by decide +kernel
theorem dX5_condition_58 : decode cX5_condition 58 = .ok (.invokevirtual 112, 3) := by decide +kernel
theorem dX5_condition_61 : decode cX5_condition 61 = .ok (.iconst 3, 1) := by decide +kernel
theorem dX5_condition_62 : decode cX5_condition 62 = .ok (.if_icmp .ge 7, 3) := by decide +kernel
theorem dX5_condition_65 : decode cX5_condition 65 = .ok (.iconst 1, 1) := by decide +kernel
theorem dX5_condition_66 : decode cX5_condition 66 = .ok (.goto 4, 3) := by decide +kernel
theorem dX5_condition_69 : decode cX5_condition 69 = .ok (.iconst 0, 1) := by decide +kernel
theorem dX5_condition_70 : decode cX5_condition 70 = .ok (.invokestatic 72, 3) := by decide +kernel
theorem dX5_condition_73 : decode cX5_condition 73 = .ok (.aload_n 0, 1) := by decide +kernel
theorem dX5_condition_74 : decode cX5_condition 74 = .ok (.getfield 28, 3) := by decide +kernel
theorem dX5_condition_77 : decode cX5_condition 77 = .ok (.iload_n 1, 1) := by decide +kernel
theorem dX5_condition_78 : decode cX5_condition 78 = .ok (.iload_n 2, 1) := by decide +kernel
end
section
theorem dX5_condition_79 : decode cX5_condition 79 = .ok (.iload_n 3, 1) := by decide +kernel
theorem dX5_condition_80 : decode cX5_condition 80 = .ok (.iload 4, 2) := by decide +kernel
theorem dX5_condition_82 : decode cX5_condition 82 = .ok (.invokevirtual 115, 3) := by decide +kernel
theorem dX5_condition_85 : decode cX5_condition 85 = .ok (.ireturn, 1) := by decide +kernel
theorem dX5_clear_0 : decode cX5_clear 0 = .ok (.aload_n 0, 1) := by decide +kernel
theorem dX5_clear_1 : decode cX5_clear 1 = .ok (.getfield 28, 3) := by decide +kernel
theorem dX5_clear_4 : decode cX5_clear 4 = .ok (.invokevirtual 119, 3) := by decide +kernel
theorem dX5_clear_7 : decode cX5_clear 7 = .ok (.ireturn, 1) := by decide +kernel
theorem dX5_put_0 : decode cX5_put 0 = .ok (.iload_n 1, 1) := by decide +kernel
theorem dX5_put_1 : decode cX5_put 1 = .ok (.iconst 4, 1) := by decide +kernel
theorem dX5_put_2 : decode cX5_put 2 = .ok (.invokestatic 50, 3) := by decide +kernel
theorem dX5_put_5 : decode cX5_put 5 = .ok (.ifCond .eq 15, 3) := by decide +kernel
theorem dX5_put_8 : decode cX5_put 8 = .ok (.iload_n 2, 1) := by decide +kernel
theorem dX5_put_9 : decode cX5_put 9 = .ok (.iconst 3, 1) := by decide +kernel
theorem dX5_put_10 : decode cX5_put 10 = .ok (.invokestatic 50, 3) := by decide +kernel
theorem dX5_put_13 : decode cX5_put 13 = .ok (.ifCond .eq 7, 3) := by decide +kernel
theorem dX5_put_16 : decode cX5_put 16 = .ok (.iconst 1, 1) := by decide +kernel
theorem dX5_put_17 : decode cX5_put 17 = .ok (.goto 4, 3) := by decide +kernel
theorem dX5_put_20 : decode cX5_put 20 = .ok (.iconst 0, 1) := by decide +kernel
theorem dX5_put_21 : decode cX5_put 21 = .ok (.invokestatic 58, 3) := by decide +kernel
theorem dX5_put_24 : decode cX5_put 24 = .ok (.iload_n 3, 1) := by decide +kernel
theorem dX5_put_25 : decode cX5_put 25 = .ok (.sipush 1000, 3) := by decide +kernel
theorem dX5_put_28 : decode cX5_put 28 = .ok (.invokestatic 50, 3) := by decide +kernel
theorem dX5_put_31 : decode cX5_put 31 = .ok (.invokestatic 66, 3) := by decide +kernel
theorem dX5_put_34 : decode cX5_put 34 = .ok (.aload_n 0, 1) := by decide +kernel
theorem dX5_put_35 : decode cX5_put 35 = .ok (.iload_n 1, 1) := by decide +kernel
theorem dX5_put_36 : decode cX5_put 36 = .ok (.iload_n 2, 1) := by decide +kernel
theorem dX5_put_37 : decode cX5_put 37 = .ok (.invokevirtual 122, 3) := by decide +kernel
theorem dX5_put_40 : decode cX5_put 40 = .ok (.istore 4, 2) := by decide +kernel
theorem dX5_put_42 : decode cX5_put 42 = .ok (.aload_n 0, 1) := by decide +kernel
theorem dX5_put_43 : decode cX5_put 43 = .ok (.iload_n 1, 1) := by decide +kernel
theorem dX5_put_44 : decode cX5_put 44 = .ok (.iload_n 2, 1) := by decide +kernel
theorem dX5_put_45 : decode cX5_put 45 = .ok (.iload_n 3, 1) := by decide +kernel
theorem dX5_put_46 : decode cX5_put 46 = .ok (.invokevirtual 125, 3) := by decide +kernel
theorem dX5_put_49 : decode cX5_put 49 = .ok (.iload 4, 2) := by decide +kernel
theorem dX5_put_51 : decode cX5_put 51 = .ok (.ireturn, 1) := by decide +kernel
theorem dX5_area_0 : decode cX5_area 0 = .ok (.iload_n 1, 1) := by decide +kernel
theorem dX5_area_1 : decode cX5_area 1 = .ok (.iconst 4, 1) := by decide +kernel
theorem dX5_area_2 : decode cX5_area 2 = .ok (.invokestatic 50, 3) := by decide +kernel
theorem dX5_area_5 : decode cX5_area 5 = .ok (.ifCond .eq 15, 3) := by decide +kernel
theorem dX5_area_8 : decode cX5_area 8 = .ok (.iload_n 2, 1) := by decide +kernel
theorem dX5_area_9 : decode cX5_area 9 = .ok (.iconst 3, 1) := by decide +kernel
theorem dX5_area_10 : decode cX5_area 10 = .ok (.invokestatic 50, 3) := by decide +kernel
theorem dX5_area_13 : decode cX5_area 13 = .ok (.ifCond .eq 7, 3) := by decide +kernel
theorem dX5_area_16 : decode cX5_area 16 = .ok (.iconst 1, 1) := by decide +kernel
theorem dX5_area_17 : decode cX5_area 17 = .ok (.goto 4, 3) := by decide +kernel
theorem dX5_area_20 : decode cX5_area 20 = .ok (.iconst 0, 1) := by decide +kernel
theorem dX5_area_21 : decode cX5_area 21 = .ok (.invokestatic 58, 3) := by decide +kernel
theorem dX5_area_24 : decode cX5_area 24 = .ok (.aload_n 0, 1) := by decide +kernel
theorem dX5_area_25 : decode cX5_area 25 = .ok (.iload_n 1, 1) := by decide +kernel
theorem dX5_area_26 : decode cX5_area 26 = .ok (.iload_n 2, 1) := by decide +kernel
theorem dX5_area_27 : decode cX5_area 27 = .ok (.invokevirtual 122, 3) := by decide +kernel
theorem dX5_area_30 : decode cX5_area 30 = .ok (.ireturn, 1) := by decide +kernel
theorem dX5_get_0 : decode cX5_get 0 = .ok (.aload_n 0, 1) := by decide +kernel
theorem dX5_get_1 : decode cX5_get 1 = .ok (.iload_n 1, 1) := by decide +kernel
theorem dX5_get_2 : decode cX5_get 2 = .ok (.invokevirtual 99, 3) := by decide +kernel
theorem dX5_get_5 : decode cX5_get 5 = .ok (.astore 4, 2) := by decide +kernel
theorem dX5_get_7 : decode cX5_get 7 = .ok (.iload_n 2, 1) := by decide +kernel
theorem dX5_get_8 : decode cX5_get 8 = .ok (.iconst 3, 1) := by decide +kernel
theorem dX5_get_9 : decode cX5_get 9 = .ok (.invokestatic 50, 3) := by decide +kernel
theorem dX5_get_12 : decode cX5_get 12 = .ok (.invokestatic 66, 3) := by decide +kernel
theorem dX5_get_15 : decode cX5_get 15 = .ok (.aload 4, 2) := by decide +kernel
theorem dX5_get_17 : decode cX5_get 17 = .ok (.invokevirtual 129, 3) := by decide +kernel
theorem dX5_get_20 : decode cX5_get 20 = .ok (.aload_n 0, 1) := by decide +kernel
theorem dX5_get_21 : decode cX5_get 21 = .ok (.aload 4, 2) := by decide +kernel
theorem dX5_get_23 : decode cX5_get 23 = .ok (.iload_n 2, 1) := by decide +kernel
theorem dX5_get_24 : decode cX5_get 24 = .ok (.iload_n 3, 1) := by decide +kernel
theorem dX5_get_25 : decode cX5_get 25 = .ok (.invokevirtual 132, 3) := by decide +kernel
theorem dX5_get_28 : decode cX5_get 28 = .ok (.istore 5, 2) := by decide +kernel
theorem dX5_get_30 : decode cX5_get 30 = .ok (.aload_n 0, 1) := by decide +kernel
theorem dX5_get_31 : decode cX5_get 31 = .ok (.getfield 28, 3) := by decide +kernel
theorem dX5_get_34 : decode cX5_get 34 = .ok (.invokevirtual 119, 3) := by decide +kernel
theorem dX5_get_37 : decode cX5_get 37 = .ok (.pop, 1) := by decide +kernel
theorem dX5_get_38 : decode cX5_get 38 = .ok (.iload 5, 2) := by decide +kernel
theorem dX5_get_40 : decode cX5_get 40 = .ok (.ireturn, 1) := by decide +kernel
theorem dX5_insert_0 : decode cX5_insert 0 = .ok (.aload_n 0, 1) := by decide +kernel
theorem dX5_insert_1 : decode cX5_insert 1 = .ok (.iload_n 1, 1) := by decide +kernel
theorem dX5_insert_2 : decode cX5_insert 2 = .ok (.invokevirtual 99, 3) := by decide +kernel
theorem dX5_insert_5 : decode cX5_insert 5 = .ok (.astore_n 2, 1) := by decide +kernel
theorem dX5_insert_6 : decode cX5_insert 6 = .ok (.aload_n 2, 1) := by decide +kernel
theorem dX5_insert_7 : decode cX5_insert 7 = .ok (.invokevirtual 129, 3) := by decide +kernel
theorem dX5_insert_10 : decode cX5_insert 10 = .ok (.aload_n 0, 1) := by decide +kernel
theorem dX5_insert_11 : decode cX5_insert 11 = .ok (.aload_n 2, 1) := by decide +kernel
theorem dX5_insert_12 : decode cX5_insert 12 = .ok (.invokevirtual 136, 3) := by decide +kernel
theorem dX5_insert_15 : decode cX5_insert 15 = .ok (.istore_n 3, 1) := by decide +kernel
theorem dX5_insert_16 : decode cX5_insert 16 = .ok (.aload_n 0, 1) := by decide +kernel
theorem dX5_insert_17 : decode cX5_insert 17 = .ok (.getfield 28, 3) := by decide +kernel
theorem dX5_insert_20 : decode cX5_insert 20 = .ok (.invokevirtual 119, 3) := by decide +kernel
theorem dX5_insert_23 : decode cX5_insert 23 = .ok (.pop, 1) := by decide +kernel
theorem dX5_insert_24 : decode cX5_insert 24 = .ok (.iload_n 3, 1) := by decide +kernel
theorem dX5_insert_25 : decode cX5_insert 25 = .ok (.ireturn, 1) := by decide +kernel
theorem dX5_replace_0 : decode cX5_replace 0 = .ok (.aload_n 0, 1) := by decide +kernel
theorem dX5_replace_1 : decode cX5_replace 1 = .ok (.iload_n 1, 1) := by decide +kernel
theorem dX5_replace_2 : decode cX5_replace 2 = .ok (.invokevirtual 99, 3) := by decide +kernel
theorem dX5_replace_5 : decode cX5_replace 5 = .ok (.astore_n 2, 1) := by decide +kernel
theorem dX5_replace_6 : decode cX5_replace 6 = .ok (.aload_n 0, 1) := by decide +kernel
theorem dX5_replace_7 : decode cX5_replace 7 = .ok (.aload_n 2, 1) := by decide +kernel
theorem dX5_replace_8 : decode cX5_replace 8 = .ok (.invokevirtual 140, 3) := by decide +kernel
theorem dX5_replace_11 : decode cX5_replace 11 = .ok (.istore_n 3, 1) := by decide +kernel
theorem dX5_replace_12 : decode cX5_replace 12 = .ok (.aload_n 2, 1) := by decide +kernel
theorem dX5_replace_13 : decode cX5_replace 13 = .ok (.invokevirtual 129, 3) := by decide +kernel
theorem dX5_replace_16 : decode cX5_replace 16 = .ok (.aload_n 0, 1) := by decide +kernel
theorem dX5_replace_17 : decode cX5_replace 17 = .ok (.getfield 28, 3) := by decide +kernel
theorem dX5_replace_20 : decode cX5_replace 20 = .ok (.invokevirtual 119, 3) := by decide +kernel
theorem dX5_replace_23 : decode cX5_replace 23 = .ok (.pop, 1) := by decide +kernel
theorem dX5_replace_24 : decode cX5_replace 24 = .ok (.iload_n 3, 1) := by decide +kernel
theorem dX5_replace_25 : decode cX5_replace 25 = .ok (.ireturn, 1) := by decide +kernel
theorem dX5_delete_0 : decode cX5_delete 0 = .ok (.aload_n 0, 1) := by decide +kernel
theorem dX5_delete_1 : decode cX5_delete 1 = .ok (.iload_n 1, 1) := by decide +kernel
theorem dX5_delete_2 : decode cX5_delete 2 = .ok (.invokevirtual 99, 3) := by decide +kernel
theorem dX5_delete_5 : decode cX5_delete 5 = .ok (.astore_n 2, 1) := by decide +kernel
theorem dX5_delete_6 : decode cX5_delete 6 = .ok (.aload_n 2, 1) := by decide +kernel
theorem dX5_delete_7 : decode cX5_delete 7 = .ok (.invokevirtual 143, 3) := by decide +kernel
theorem dX5_delete_10 : decode cX5_delete 10 = .ok (.istore_n 3, 1) := by decide +kernel
theorem dX5_delete_11 : decode cX5_delete 11 = .ok (.aload_n 2, 1) := by decide +kernel
theorem dX5_delete_12 : decode cX5_delete 12 = .ok (.invokevirtual 129, 3) := by decide +kernel
theorem dX5_delete_15 : decode cX5_delete 15 = .ok (.iload_n 3, 1) := by decide +kernel
theorem dX5_delete_16 : decode cX5_delete 16 = .ok (.iconst (-1), 1) := by decide +kernel
theorem dX5_delete_17 : decode cX5_delete 17 = .ok (.if_icmp .ne 8, 3) := by decide +kernel
theorem dX5_delete_20 : decode cX5_delete 20 = .ok (.bipush 6, 2) := by decide +kernel
theorem dX5_delete_22 : decode cX5_delete 22 = .ok (.goto 8, 3) := by decide +kernel
theorem dX5_delete_25 : decode cX5_delete 25 = .ok (.aload_n 0, 1) := by decide +kernel
theorem dX5_delete_26 : decode cX5_delete 26 = .ok (.iload_n 3, 1) := by decide +kernel
theorem dX5_delete_27 : decode cX5_delete 27 = .ok (.invokevirtual 146, 3) := by decide +kernel
theorem dX5_delete_30 : decode cX5_delete 30 = .ok (.istore 4, 2) := by decide +kernel
theorem dX5_delete_32 : decode cX5_delete 32 = .ok (.aload_n 0, 1) := by decide +kernel
theorem dX5_delete_33 : decode cX5_delete 33 = .ok (.getfield 28, 3) := by decide +kernel
theorem dX5_delete_36 : decode cX5_delete 36 = .ok (.invokevirtual 119, 3) := by decide +kernel
theorem dX5_delete_39 : decode cX5_delete 39 = .ok (.pop, 1) := by decide +kernel
theorem dX5_delete_40 : decode cX5_delete 40 = .ok (.iload 4, 2) := by decide +kernel
theorem dX5_delete_42 : decode cX5_delete 42 = .ok (.ireturn, 1) := by decide +kernel
theorem dX5_types_0 : decode cX5_types 0 = .ok (.aload_n 0, 1) := by decide +kernel
theorem dX5_types_1 : decode cX5_types 1 = .ok (.getfield 10, 3) := by decide +kernel
theorem dX5_types_4 : decode cX5_types 4 = .ok (.invokevirtual 81, 3) := by decide +kernel
theorem dX5_types_7 : decode cX5_types 7 = .ok (.ireturn, 1) := by decide +kernel
theorem dX5_count_0 : decode cX5_count 0 = .ok (.iload_n 1, 1) := by decide +kernel
theorem dX5_count_1 : decode cX5_count 1 = .ok (.iconst 3, 1) := by decide +kernel
theorem dX5_count_2 : decode cX5_count 2 = .ok (.invokestatic 50, 3) := by decide +kernel
theorem dX5_count_5 : decode cX5_count 5 = .ok (.invokestatic 58, 3) := by decide +kernel
theorem dX5_count_8 : decode cX5_count 8 = .ok (.aload_n 0, 1) := by decide +kernel
theorem dX5_count_9 : decode cX5_count 9 = .ok (.getfield 21, 3) := by decide +kernel
theorem dX5_count_12 : decode cX5_count 12 = .ok (.iload_n 1, 1) := by decide +kernel
theorem dX5_count_13 : decode cX5_count 13 = .ok (.invokevirtual 69, 3) := by decide +kernel
theorem dX5_count_16 : decode cX5_count 16 = .ok (.ireturn, 1) := by decide +kernel
theorem dX5_rowAt_0 : decode cX5_rowAt 0 = .ok (.aload_n 0, 1) := by decide +kernel
theorem dX5_rowAt_1 : decode cX5_rowAt 1 = .ok (.iload_n 1, 1) := by decide +kernel
theorem dX5_rowAt_2 : decode cX5_rowAt 2 = .ok (.iload_n 2, 1) := by decide +kernel
theorem dX5_rowAt_3 : decode cX5_rowAt 3 = .ok (.invokevirtual 149, 3) := by decide +kernel
theorem dX5_rowAt_6 : decode cX5_rowAt 6 = .ok (.invokestatic 58, 3) := by decide +kernel
theorem dX5_rowAt_9 : decode cX5_rowAt 9 = .ok (.aload_n 0, 1) := by decide +kernel
theorem dX5_rowAt_10 : decode cX5_rowAt 10 = .ok (.getfield 21, 3) := by decide +kernel
theorem dX5_rowAt_13 : decode cX5_rowAt 13 = .ok (.aload_n 0, 1) := by decide +kernel
theorem dX5_rowAt_14 : decode cX5_rowAt 14 = .ok (.getfield 21, 3) := by decide +kernel
theorem dX5_rowAt_17 : decode cX5_rowAt 17 = .ok (.iload_n 1, 1) := by decide +kernel
theorem dX5_rowAt_18 : decode cX5_rowAt 18 = .ok (.iload_n 2, 1) := by decide +kernel
theorem dX5_rowAt_19 : decode cX5_rowAt 19 = .ok (.invokevirtual 152, 3) := by decide +kernel
theorem dX5_rowAt_22 : decode cX5_rowAt 22 = .ok (.invokevirtual 155, 3) := by decide +kernel
theorem dX5_rowAt_25 : decode cX5_rowAt 25 = .ok (.ireturn, 1) := by decide +kernel
theorem dX5_rowAnew_0 : decode cX5_rowAnew 0 = .ok (.aload_n 0, 1) := by decide +kernel
theorem dX5_rowAnew_1 : decode cX5_rowAnew 1 = .ok (.iload_n 1, 1) := by decide +kernel
theorem dX5_rowAnew_2 : decode cX5_rowAnew 2 = .ok (.iload_n 2, 1) := by decide +kernel
theorem dX5_rowAnew_3 : decode cX5_rowAnew 3 = .ok (.invokevirtual 149, 3) := by decide +kernel
theorem dX5_rowAnew_6 : decode cX5_rowAnew 6 = .ok (.invokestatic 58, 3) := by decide +kernel
theorem dX5_rowAnew_9 : decode cX5_rowAnew 9 = .ok (.iconst 0, 1) := by decide +kernel
theorem dX5_rowAnew_10 : decode cX5_rowAnew 10 = .ok (.istore_n 3, 1) := by decide +kernel
theorem dX5_rowAnew_11 : decode cX5_rowAnew 11 = .ok (.iload_n 3, 1) := by decide +kernel
theorem dX5_rowAnew_12 : decode cX5_rowAnew 12 = .ok (.bipush 60, 2) := by decide +kernel
theorem dX5_rowAnew_14 : decode cX5_rowAnew 14 = .ok (.if_icmp .ge 40, 3) := by decide +kernel
theorem dX5_rowAnew_17 : decode cX5_rowAnew 17 = .ok (.aload_n 0, 1) := by decide +kernel
theorem dX5_rowAnew_18 : decode cX5_rowAnew 18 = .ok (.getfield 21, 3) := by decide +kernel
theorem dX5_rowAnew_21 : decode cX5_rowAnew 21 = .ok (.iload_n 3, 1) := by decide +kernel
theorem dX5_rowAnew_22 : decode cX5_rowAnew 22 = .ok (.invokevirtual 158, 3) := by decide +kernel
theorem dX5_rowAnew_25 : decode cX5_rowAnew 25 = .ok (.iload_n 1, 1) := by decide +kernel
theorem dX5_rowAnew_26 : decode cX5_rowAnew 26 = .ok (.if_icmp .ne 22, 3) := by decide +kernel
theorem dX5_rowAnew_29 : decode cX5_rowAnew 29 = .ok (.aload_n 0, 1) := by decide +kernel
theorem dX5_rowAnew_30 : decode cX5_rowAnew 30 = .ok (.iload_n 1, 1) := by decide +kernel
theorem dX5_rowAnew_31 : decode cX5_rowAnew 31 = .ok (.iload_n 3, 1) := by decide +kernel
theorem dX5_rowAnew_32 : decode cX5_rowAnew 32 = .ok (.invokevirtual 159, 3) := by decide +kernel
theorem dX5_rowAnew_35 : decode cX5_rowAnew 35 = .ok (.iload_n 2, 1) := by decide +kernel
theorem dX5_rowAnew_36 : decode cX5_rowAnew 36 = .ok (.if_icmp .ne 12, 3) := by decide +kernel
theorem dX5_rowAnew_39 : decode cX5_rowAnew 39 = .ok (.aload_n 0, 1) := by decide +kernel
theorem dX5_rowAnew_40 : decode cX5_rowAnew 40 = .ok (.getfield 21, 3) := by decide +kernel
theorem dX5_rowAnew_43 : decode cX5_rowAnew 43 = .ok (.iload_n 3, 1) := by decide +kernel
theorem dX5_rowAnew_44 : decode cX5_rowAnew 44 = .ok (.invokevirtual 155, 3) := by decide +kernel
theorem dX5_rowAnew_47 : decode cX5_rowAnew 47 = .ok (.ireturn, 1) := by decide +kernel
theorem dX5_rowAnew_48 : decode cX5_rowAnew 48 = .ok (.iinc 3 1, 3) := by decide +kernel
theorem dX5_rowAnew_51 : decode cX5_rowAnew 51 = .ok (.goto (-40), 3) := by decide +kernel
theorem dX5_rowAnew_54 : decode cX5_rowAnew 54 = .ok (.iconst (-1), 1) := by decide +kernel
theorem dX5_rowAnew_55 : decode cX5_rowAnew 55 = .ok (.ireturn, 1) := by decide +kernel
theorem dX5_fieldAt_0 : decode cX5_fieldAt 0 = .ok (.aload_n 0, 1) := by decide +kernel
theorem dX5_fieldAt_1 : decode cX5_fieldAt 1 = .ok (.iload_n 1, 1) := by decide +kernel
theorem dX5_fieldAt_2 : decode cX5_fieldAt 2 = .ok (.iload_n 2, 1) := by decide +kernel
theorem dX5_fieldAt_3 : decode cX5_fieldAt 3 = .ok (.invokevirtual 149, 3) := by decide +kernel
theorem dX5_fieldAt_6 : decode cX5_fieldAt 6 = .ok (.ifCond .eq 15, 3) := by decide +kernel
theorem dX5_fieldAt_9 : decode cX5_fieldAt 9 = .ok (.iload_n 3, 1) := by decide +kernel
theorem dX5_fieldAt_10 : decode cX5_fieldAt 10 = .ok (.iconst 3, 1) := by decide +kernel
theorem dX5_fieldAt_11 : decode cX5_fieldAt 11 = .ok (.invokestatic 50, 3) := by decide +kernel
theorem dX5_fieldAt_14 : decode cX5_fieldAt 14 = .ok (.ifCond .eq 7, 3) := by decide +kernel
theorem dX5_fieldAt_17 : decode cX5_fieldAt 17 = .ok (.iconst 1, 1) := by decide +kernel
theorem dX5_fieldAt_18 : decode cX5_fieldAt 18 = .ok (.goto 4, 3) := by decide +kernel
theorem dX5_fieldAt_21 : decode cX5_fieldAt 21 = .ok (.iconst 0, 1) := by decide +kernel
theorem dX5_fieldAt_22 : decode cX5_fieldAt 22 = .ok (.invokestatic 58, 3) := by decide +kernel
theorem dX5_fieldAt_25 : decode cX5_fieldAt 25 = .ok (.aload_n 0, 1) := by decide +kernel
theorem dX5_fieldAt_26 : decode cX5_fieldAt 26 = .ok (.getfield 21, 3) := by decide +kernel
theorem dX5_fieldAt_29 : decode cX5_fieldAt 29 = .ok (.aload_n 0, 1) := by decide +kernel
theorem dX5_fieldAt_30 : decode cX5_fieldAt 30 = .ok (.getfield 21, 3) := by decide +kernel
theorem dX5_fieldAt_33 : decode cX5_fieldAt 33 = .ok (.iload_n 1, 1) := by decide +kernel
theorem dX5_fieldAt_34 : decode cX5_fieldAt 34 = .ok (.iload_n 2, 1) := by decide +kernel
theorem dX5_fieldAt_35 : decode cX5_fieldAt 35 = .ok (.invokevirtual 152, 3) := by decide +kernel
theorem dX5_fieldAt_38 : decode cX5_fieldAt 38 = .ok (.iload_n 3, 1) := by decide +kernel
theorem dX5_fieldAt_39 : decode cX5_fieldAt 39 = .ok (.invokevirtual 162, 3) := by decide +kernel
theorem dX5_fieldAt_42 : decode cX5_fieldAt 42 = .ok (.ireturn, 1) := by decide +kernel
theorem dX5_at_0 : decode cX5_at 0 = .ok (.aload_n 0, 1) := by decide +kernel
theorem dX5_at_1 : decode cX5_at 1 = .ok (.iload_n 1, 1) := by decide +kernel
theorem dX5_at_2 : decode cX5_at 2 = .ok (.invokevirtual 99, 3) := by decide +kernel
theorem dX5_at_5 : decode cX5_at 5 = .ok (.astore_n 2, 1) := by decide +kernel
theorem dX5_at_6 : decode cX5_at 6 = .ok (.aload_n 0, 1) := by decide +kernel
theorem dX5_at_7 : decode cX5_at 7 = .ok (.getfield 21, 3) := by decide +kernel
theorem dX5_at_10 : decode cX5_at 10 = .ok (.aload_n 2, 1) := by decide +kernel
theorem dX5_at_11 : decode cX5_at 11 = .ok (.invokevirtual 165, 3) := by decide +kernel
theorem dX5_at_14 : decode cX5_at 14 = .ok (.invokevirtual 167, 3) := by decide +kernel
theorem dX5_at_17 : decode cX5_at 17 = .ok (.ireturn, 1) := by decide +kernel
theorem dX5_ahead_0 : decode cX5_ahead 0 = .ok (.aload_n 0, 1) := by decide +kernel
theorem dX5_ahead_1 : decode cX5_ahead 1 = .ok (.aload_n 0, 1) := by decide +kernel
theorem dX5_ahead_2 : decode cX5_ahead 2 = .ok (.iload_n 1, 1) := by decide +kernel
theorem dX5_ahead_3 : decode cX5_ahead 3 = .ok (.invokevirtual 99, 3) := by decide +kernel
theorem dX5_ahead_6 : decode cX5_ahead 6 = .ok (.invokevirtual 170, 3) := by decide +kernel
theorem dX5_ahead_9 : decode cX5_ahead 9 = .ok (.ireturn, 1) := by decide +kernel
theorem dX5_parent_0 : decode cX5_parent 0 = .ok (.aload_n 0, 1) := by decide +kernel
theorem dX5_parent_1 : decode cX5_parent 1 = .ok (.iload_n 1, 1) := by decide +kernel
theorem dX5_parent_2 : decode cX5_parent 2 = .ok (.invokevirtual 99, 3) := by decide +kernel
theorem dX5_parent_5 : decode cX5_parent 5 = .ok (.astore_n 2, 1) := by decide +kernel
theorem dX5_parent_6 : decode cX5_parent 6 = .ok (.aload_n 0, 1) := by decide +kernel
theorem dX5_parent_7 : decode cX5_parent 7 = .ok (.getfield 21, 3) := by decide +kernel
theorem dX5_parent_10 : decode cX5_parent 10 = .ok (.aload_n 2, 1) := by decide +kernel
theorem dX5_parent_11 : decode cX5_parent 11 = .ok (.invokevirtual 173, 3) := by decide +kernel
theorem dX5_parent_14 : decode cX5_parent 14 = .ok (.invokevirtual 167, 3) := by decide +kernel
theorem dX5_parent_17 : decode cX5_parent 17 = .ok (.ireturn, 1) := by decide +kernel
theorem dX5_holds_0 : decode cX5_holds 0 = .ok (.aload_n 0, 1) := by decide +kernel
theorem dX5_holds_1 : decode cX5_holds 1 = .ok (.iload_n 1, 1) := by decide +kernel
theorem dX5_holds_2 : decode cX5_holds 2 = .ok (.invokevirtual 99, 3) := by decide +kernel
theorem dX5_holds_5 : decode cX5_holds 5 = .ok (.astore_n 2, 1) := by decide +kernel
theorem dX5_holds_6 : decode cX5_holds 6 = .ok (.aload_n 2, 1) := by decide +kernel
theorem dX5_holds_7 : decode cX5_holds 7 = .ok (.invokevirtual 176, 3) := by decide +kernel
theorem dX5_holds_10 : decode cX5_holds 10 = .ok (.ireturn, 1) := by decide +kernel
theorem dX5_keys_0 : decode cX5_keys 0 = .ok (.aload_n 0, 1) := by decide +kernel
theorem dX5_keys_1 : decode cX5_keys 1 = .ok (.iload_n 1, 1) := by decide +kernel
theorem dX5_keys_2 : decode cX5_keys 2 = .ok (.invokevirtual 99, 3) := by decide +kernel
theorem dX5_keys_5 : decode cX5_keys 5 = .ok (.astore_n 2, 1) := by decide +kernel
theorem dX5_keys_6 : decode cX5_keys 6 = .ok (.aload_n 2, 1) := by decide +kernel
theorem dX5_keys_7 : decode cX5_keys 7 = .ok (.invokevirtual 165, 3) := by decide +kernel
theorem dX5_keys_10 : decode cX5_keys 10 = .ok (.istore_n 3, 1) := by decide +kernel
theorem dX5_keys_11 : decode cX5_keys 11 = .ok (.iload_n 3, 1) := by decide +kernel
theorem dX5_keys_12 : decode cX5_keys 12 = .ok (.iconst (-1), 1) := by decide +kernel
theorem dX5_keys_13 : decode cX5_keys 13 = .ok (.if_icmp .ne 7, 3) := by decide +kernel
theorem dX5_keys_16 : decode cX5_keys 16 = .ok (.ldc2_w 179, 3) := by decide +kernel
theorem dX5_keys_19 : decode cX5_keys 19 = .ok (.lreturn, 1) := by decide +kernel
theorem dX5_keys_20 : decode cX5_keys 20 = .ok (.lconst 0, 1) := by decide +kernel
theorem dX5_keys_21 : decode cX5_keys 21 = .ok (.lstore 4, 2) := by decide +kernel
theorem dX5_keys_23 : decode cX5_keys 23 = .ok (.lconst 1, 1) := by decide +kernel
theorem dX5_keys_24 : decode cX5_keys 24 = .ok (.lstore 6, 2) := by decide +kernel
theorem dX5_keys_26 : decode cX5_keys 26 = .ok (.iconst 0, 1) := by decide +kernel
theorem dX5_keys_27 : decode cX5_keys 27 = .ok (.istore 8, 2) := by decide +kernel
theorem dX5_keys_29 : decode cX5_keys 29 = .ok (.iload 8, 2) := by decide +kernel
theorem dX5_keys_31 : decode cX5_keys 31 = .ok (.iconst 4, 1) := by decide +kernel
theorem dX5_keys_32 : decode cX5_keys 32 = .ok (.if_icmp .ge 49, 3) := by decide +kernel
theorem dX5_keys_35 : decode cX5_keys 35 = .ok (.iload_n 3, 1) := by decide +kernel
theorem dX5_keys_36 : decode cX5_keys 36 = .ok (.iconst (-1), 1) := by decide +kernel
theorem dX5_keys_37 : decode cX5_keys 37 = .ok (.if_icmp .eq 44, 3) := by decide +kernel
theorem dX5_keys_40 : decode cX5_keys 40 = .ok (.lload 4, 2) := by decide +kernel
theorem dX5_keys_42 : decode cX5_keys 42 = .ok (.lload 6, 2) := by decide +kernel
theorem dX5_keys_44 : decode cX5_keys 44 = .ok (.aload_n 0, 1) := by decide +kernel
theorem dX5_keys_45 : decode cX5_keys 45 = .ok (.getfield 21, 3) := by decide +kernel
theorem dX5_keys_48 : decode cX5_keys 48 = .ok (.iload_n 3, 1) := by decide +kernel
theorem dX5_keys_49 : decode cX5_keys 49 = .ok (.iconst 0, 1) := by decide +kernel
theorem dX5_keys_50 : decode cX5_keys 50 = .ok (.invokevirtual 162, 3) := by decide +kernel
theorem dX5_keys_53 : decode cX5_keys 53 = .ok (.i2l, 1) := by decide +kernel
theorem dX5_keys_54 : decode cX5_keys 54 = .ok (.lmul, 1) := by decide +kernel
theorem dX5_keys_55 : decode cX5_keys 55 = .ok (.ladd, 1) := by decide +kernel
theorem dX5_keys_56 : decode cX5_keys 56 = .ok (.lstore 4, 2) := by decide +kernel
theorem dX5_keys_58 : decode cX5_keys 58 = .ok (.lload 6, 2) := by decide +kernel
theorem dX5_keys_60 : decode cX5_keys 60 = .ok (.ldc2_w 181, 3) := by decide +kernel
theorem dX5_keys_63 : decode cX5_keys 63 = .ok (.lmul, 1) := by decide +kernel
theorem dX5_keys_64 : decode cX5_keys 64 = .ok (.lstore 6, 2) := by decide +kernel
theorem dX5_keys_66 : decode cX5_keys 66 = .ok (.aload_n 0, 1) := by decide +kernel
theorem dX5_keys_67 : decode cX5_keys 67 = .ok (.getfield 21, 3) := by decide +kernel
theorem dX5_keys_70 : decode cX5_keys 70 = .ok (.iload_n 3, 1) := by decide +kernel
theorem dX5_keys_71 : decode cX5_keys 71 = .ok (.invokevirtual 183, 3) := by decide +kernel
theorem dX5_keys_74 : decode cX5_keys 74 = .ok (.istore_n 3, 1) := by decide +kernel
theorem dX5_keys_75 : decode cX5_keys 75 = .ok (.iinc 8 1, 3) := by decide +kernel
theorem dX5_keys_78 : decode cX5_keys 78 = .ok (.goto (-49), 3) := by decide +kernel
theorem dX5_keys_81 : decode cX5_keys 81 = .ok (.lload 4, 2) := by decide +kernel
theorem dX5_keys_83 : decode cX5_keys 83 = .ok (.lreturn, 1) := by decide +kernel
theorem dX5_second_0 : decode cX5_second 0 = .ok (.aload_n 0, 1) := by decide +kernel
theorem dX5_second_1 : decode cX5_second 1 = .ok (.iload_n 1, 1) := by decide +kernel
theorem dX5_second_2 : decode cX5_second 2 = .ok (.invokevirtual 99, 3) := by decide +kernel
theorem dX5_second_5 : decode cX5_second 5 = .ok (.astore_n 2, 1) := by decide +kernel
theorem dX5_second_6 : decode cX5_second 6 = .ok (.aload_n 2, 1) := by decide +kernel
theorem dX5_second_7 : decode cX5_second 7 = .ok (.invokevirtual 165, 3) := by decide +kernel
theorem dX5_second_10 : decode cX5_second 10 = .ok (.istore_n 3, 1) := by decide +kernel
theorem dX5_second_11 : decode cX5_second 11 = .ok (.aload_n 0, 1) := by decide +kernel
theorem dX5_second_12 : decode cX5_second 12 = .ok (.getfield 10, 3) := by decide +kernel
theorem dX5_second_15 : decode cX5_second 15 = .ok (.aload_n 0, 1) := by decide +kernel
theorem dX5_second_16 : decode cX5_second 16 = .ok (.getfield 21, 3) := by decide +kernel
theorem dX5_second_19 : decode cX5_second 19 = .ok (.iload_n 3, 1) := by decide +kernel
theorem dX5_second_20 : decode cX5_second 20 = .ok (.invokevirtual 186, 3) := by decide +kernel
theorem dX5_second_23 : decode cX5_second 23 = .ok (.invokevirtual 92, 3) := by decide +kernel
theorem dX5_second_26 : decode cX5_second 26 = .ok (.istore 4, 2) := by decide +kernel
theorem dX5_second_28 : decode cX5_second 28 = .ok (.aload_n 0, 1) := by decide +kernel
theorem dX5_second_29 : decode cX5_second 29 = .ok (.getfield 21, 3) := by decide +kernel
theorem dX5_second_32 : decode cX5_second 32 = .ok (.aload_n 0, 1) := by decide +kernel
theorem dX5_second_33 : decode cX5_second 33 = .ok (.getfield 21, 3) := by decide +kernel
theorem dX5_second_36 : decode cX5_second 36 = .ok (.iload 4, 2) := by decide +kernel
theorem dX5_second_38 : decode cX5_second 38 = .ok (.aload_n 0, 1) := by decide +kernel
theorem dX5_second_39 : decode cX5_second 39 = .ok (.getfield 21, 3) := by decide +kernel
theorem dX5_second_42 : decode cX5_second 42 = .ok (.iload_n 3, 1) := by decide +kernel
theorem dX5_second_43 : decode cX5_second 43 = .ok (.iconst 2, 1) := by decide +kernel
theorem dX5_second_44 : decode cX5_second 44 = .ok (.invokevirtual 162, 3) := by decide +kernel
theorem dX5_second_47 : decode cX5_second 47 = .ok (.invokevirtual 189, 3) := by decide +kernel
theorem dX5_second_50 : decode cX5_second 50 = .ok (.invokevirtual 167, 3) := by decide +kernel
theorem dX5_second_53 : decode cX5_second 53 = .ok (.ireturn, 1) := by decide +kernel
theorem dX5_tied_0 : decode cX5_tied 0 = .ok (.aload_n 0, 1) := by decide +kernel
theorem dX5_tied_1 : decode cX5_tied 1 = .ok (.iload_n 1, 1) := by decide +kernel
theorem dX5_tied_2 : decode cX5_tied 2 = .ok (.invokevirtual 99, 3) := by decide +kernel
theorem dX5_tied_5 : decode cX5_tied 5 = .ok (.astore_n 2, 1) := by decide +kernel
theorem dX5_tied_6 : decode cX5_tied 6 = .ok (.aload_n 2, 1) := by decide +kernel
theorem dX5_tied_7 : decode cX5_tied 7 = .ok (.invokevirtual 165, 3) := by decide +kernel
theorem dX5_tied_10 : decode cX5_tied 10 = .ok (.istore_n 3, 1) := by decide +kernel
theorem dX5_tied_11 : decode cX5_tied 11 = .ok (.iconst 0, 1) := by decide +kernel
theorem dX5_tied_12 : decode cX5_tied 12 = .ok (.istore 4, 2) := by decide +kernel
theorem dX5_tied_14 : decode cX5_tied 14 = .ok (.iconst 0, 1) := by decide +kernel
theorem dX5_tied_15 : decode cX5_tied 15 = .ok (.istore 5, 2) := by decide +kernel
theorem dX5_tied_17 : decode cX5_tied 17 = .ok (.iload 5, 2) := by decide +kernel
theorem dX5_tied_19 : decode cX5_tied 19 = .ok (.bipush 60, 2) := by decide +kernel
theorem dX5_tied_21 : decode cX5_tied 21 = .ok (.if_icmp .ge 25, 3) := by decide +kernel
theorem dX5_tied_24 : decode cX5_tied 24 = .ok (.aload_n 0, 1) := by decide +kernel
theorem dX5_tied_25 : decode cX5_tied 25 = .ok (.getfield 21, 3) := by decide +kernel
theorem dX5_tied_28 : decode cX5_tied 28 = .ok (.iload 5, 2) := by decide +kernel
theorem dX5_tied_30 : decode cX5_tied 30 = .ok (.iload_n 3, 1) := by decide +kernel
theorem dX5_tied_31 : decode cX5_tied 31 = .ok (.invokevirtual 192, 3) := by decide +kernel
theorem dX5_tied_34 : decode cX5_tied 34 = .ok (.ifCond .eq 6, 3) := by decide +kernel
theorem dX5_tied_37 : decode cX5_tied 37 = .ok (.iinc 4 1, 3) := by decide +kernel
theorem dX5_tied_40 : decode cX5_tied 40 = .ok (.iinc 5 1, 3) := by decide +kernel
theorem dX5_tied_43 : decode cX5_tied 43 = .ok (.goto (-26), 3) := by decide +kernel
theorem dX5_tied_46 : decode cX5_tied 46 = .ok (.iload 4, 2) := by decide +kernel
theorem dX5_tied_48 : decode cX5_tied 48 = .ok (.ireturn, 1) := by decide +kernel
theorem dX5_isIn_0 : decode cX5_isIn 0 = .ok (.iload_n 0, 1) := by decide +kernel
theorem dX5_isIn_1 : decode cX5_isIn 1 = .ok (.ifCond .lt 12, 3) := by decide +kernel
theorem dX5_isIn_4 : decode cX5_isIn 4 = .ok (.iload_n 0, 1) := by decide +kernel
theorem dX5_isIn_5 : decode cX5_isIn 5 = .ok (.iload_n 1, 1) := by decide +kernel
theorem dX5_isIn_6 : decode cX5_isIn 6 = .ok (.if_icmp .ge 7, 3) := by decide +kernel
theorem dX5_isIn_9 : decode cX5_isIn 9 = .ok (.iconst 1, 1) := by decide +kernel
theorem dX5_isIn_10 : decode cX5_isIn 10 = .ok (.goto 4, 3) := by decide +kernel
theorem dX5_isIn_13 : decode cX5_isIn 13 = .ok (.iconst 0, 1) := by decide +kernel
theorem dX5_isIn_14 : decode cX5_isIn 14 = .ok (.ireturn, 1) := by decide +kernel
theorem dX5_isPlace_0 : decode cX5_isPlace 0 = .ok (.iload_n 1, 1) := by decide +kernel
theorem dX5_isPlace_1 : decode cX5_isPlace 1 = .ok (.iconst 3, 1) := by decide +kernel
theorem dX5_isPlace_2 : decode cX5_isPlace 2 = .ok (.invokestatic 50, 3) := by decide +kernel
theorem dX5_isPlace_5 : decode cX5_isPlace 5 = .ok (.ifCond .eq 22, 3) := by decide +kernel
theorem dX5_isPlace_8 : decode cX5_isPlace 8 = .ok (.iload_n 2, 1) := by decide +kernel
theorem dX5_isPlace_9 : decode cX5_isPlace 9 = .ok (.aload_n 0, 1) := by decide +kernel
theorem dX5_isPlace_10 : decode cX5_isPlace 10 = .ok (.getfield 21, 3) := by decide +kernel
theorem dX5_isPlace_13 : decode cX5_isPlace 13 = .ok (.iload_n 1, 1) := by decide +kernel
theorem dX5_isPlace_14 : decode cX5_isPlace 14 = .ok (.invokevirtual 69, 3) := by decide +kernel
theorem dX5_isPlace_17 : decode cX5_isPlace 17 = .ok (.invokestatic 50, 3) := by decide +kernel
theorem dX5_isPlace_20 : decode cX5_isPlace 20 = .ok (.ifCond .eq 7, 3) := by decide +kernel
theorem dX5_isPlace_23 : decode cX5_isPlace 23 = .ok (.iconst 1, 1) := by decide +kernel
theorem dX5_isPlace_24 : decode cX5_isPlace 24 = .ok (.goto 4, 3) := by decide +kernel
theorem dX5_isPlace_27 : decode cX5_isPlace 27 = .ok (.iconst 0, 1) := by decide +kernel
theorem dX5_isPlace_28 : decode cX5_isPlace 28 = .ok (.ireturn, 1) := by decide +kernel
theorem dX5_needIndex_0 : decode cX5_needIndex 0 = .ok (.iload_n 0, 1) := by decide +kernel
theorem dX5_needIndex_1 : decode cX5_needIndex 1 = .ok (.ifCond .ne 13, 3) := by decide +kernel
theorem dX5_needIndex_4 : decode cX5_needIndex 4 = .ok (.new 195, 3) := by decide +kernel
theorem dX5_needIndex_7 : decode cX5_needIndex 7 = .ok (.dup, 1) := by decide +kernel
theorem dX5_needIndex_8 : decode cX5_needIndex 8 = .ok (.ldc 197, 2) := by decide +kernel
theorem dX5_needIndex_10 : decode cX5_needIndex 10 = .ok (.invokespecial 199, 3) := by decide +kernel
theorem dX5_needIndex_13 : decode cX5_needIndex 13 = .ok (.athrow, 1) := by decide +kernel
theorem dX5_needIndex_14 : decode cX5_needIndex 14 = .ok (.return_, 1) := by decide +kernel
theorem dX5_needRange_0 : decode cX5_needRange 0 = .ok (.iload_n 0, 1) := by decide +kernel
theorem dX5_needRange_1 : decode cX5_needRange 1 = .ok (.ifCond .ne 13, 3) := by decide +kernel
theorem dX5_needRange_4 : decode cX5_needRange 4 = .ok (.new 202, 3) := by decide +kernel
theorem dX5_needRange_7 : decode cX5_needRange 7 = .ok (.dup, 1) := by decide +kernel
theorem dX5_needRange_8 : decode cX5_needRange 8 = .ok (.ldc 204, 2) := by decide +kernel
theorem dX5_needRange_10 : decode cX5_needRange 10 = .ok (.invokespecial 206, 3) := by decide +kernel
theorem dX5_needRange_13 : decode cX5_needRange 13 = .ok (.athrow, 1) := by decide +kernel
theorem dX5_needRange_14 : decode cX5_needRange 14 = .ok (.return_, 1) := by decide +kernel
theorem dX5_needState_0 : decode cX5_needState 0 = .ok (.iload_n 0, 1) := by decide +kernel
theorem dX5_needState_1 : decode cX5_needState 1 = .ok (.ifCond .ne 13, 3) := by decide +kernel
theorem dX5_needState_4 : decode cX5_needState 4 = .ok (.new 207, 3) := by decide +kernel
theorem dX5_needState_7 : decode cX5_needState 7 = .ok (.dup, 1) := by decide +kernel
theorem dX5_needState_8 : decode cX5_needState 8 = .ok (.ldc 209, 2) := by decide +kernel
theorem dX5_needState_10 : decode cX5_needState 10 = .ok (.invokespecial 211, 3) := by decide +kernel
theorem dX5_needState_13 : decode cX5_needState 13 = .ok (.athrow, 1) := by decide +kernel
theorem dX5_needState_14 : decode cX5_needState 14 = .ok (.return_, 1) := by decide +kernel
theorem dX5_viewOf_0 : decode cX5_viewOf 0 = .ok (.iload_n 1, 1) := by decide +kernel
theorem dX5_viewOf_1 : decode cX5_viewOf 1 = .ok (.ifCond .lt 21, 3) := by decide +kernel
theorem dX5_viewOf_4 : decode cX5_viewOf 4 = .ok (.iload_n 1, 1) := by decide +kernel
theorem dX5_viewOf_5 : decode cX5_viewOf 5 = .ok (.aload_n 0, 1) := by decide +kernel
theorem dX5_viewOf_6 : decode cX5_viewOf 6 = .ok (.getfield 41, 3) := by decide +kernel
theorem dX5_viewOf_9 : decode cX5_viewOf 9 = .ok (.arraylength, 1) := by decide +kernel
theorem dX5_viewOf_10 : decode cX5_viewOf 10 = .ok (.if_icmp .ge 12, 3) := by decide +kernel
theorem dX5_viewOf_13 : decode cX5_viewOf 13 = .ok (.aload_n 0, 1) := by decide +kernel
theorem dX5_viewOf_14 : decode cX5_viewOf 14 = .ok (.getfield 41, 3) := by decide +kernel
theorem dX5_viewOf_17 : decode cX5_viewOf 17 = .ok (.iload_n 1, 1) := by decide +kernel
theorem dX5_viewOf_18 : decode cX5_viewOf 18 = .ok (.aaload, 1) := by decide +kernel
theorem dX5_viewOf_19 : decode cX5_viewOf 19 = .ok (.ifnonnull 13, 3) := by decide +kernel
theorem dX5_viewOf_22 : decode cX5_viewOf 22 = .ok (.new 195, 3) := by decide +kernel
theorem dX5_viewOf_25 : decode cX5_viewOf 25 = .ok (.dup, 1) := by decide +kernel
theorem dX5_viewOf_26 : decode cX5_viewOf 26 = .ok (.ldc 212, 2) := by decide +kernel
theorem dX5_viewOf_28 : decode cX5_viewOf 28 = .ok (.invokespecial 199, 3) := by decide +kernel
theorem dX5_viewOf_31 : decode cX5_viewOf 31 = .ok (.athrow, 1) := by decide +kernel
theorem dX5_viewOf_32 : decode cX5_viewOf 32 = .ok (.aload_n 0, 1) := by decide +kernel
theorem dX5_viewOf_33 : decode cX5_viewOf 33 = .ok (.getfield 41, 3) := by decide +kernel
theorem dX5_viewOf_36 : decode cX5_viewOf 36 = .ok (.iload_n 1, 1) := by decide +kernel
theorem dX5_viewOf_37 : decode cX5_viewOf 37 = .ok (.aaload, 1) := by decide +kernel
theorem dX5_viewOf_38 : decode cX5_viewOf 38 = .ok (.areturn, 1) := by decide +kernel
theorem dX5_slotNumber_0 : decode cX5_slotNumber 0 = .ok (.iload_n 1, 1) := by decide +kernel
theorem dX5_slotNumber_1 : decode cX5_slotNumber 1 = .ok (.iconst 4, 1) := by decide +kernel
theorem dX5_slotNumber_2 : decode cX5_slotNumber 2 = .ok (.invokestatic 50, 3) := by decide +kernel
theorem dX5_slotNumber_5 : decode cX5_slotNumber 5 = .ok (.ifCond .eq 24, 3) := by decide +kernel
theorem dX5_slotNumber_8 : decode cX5_slotNumber 8 = .ok (.iload_n 2, 1) := by decide +kernel
theorem dX5_slotNumber_9 : decode cX5_slotNumber 9 = .ok (.iconst 3, 1) := by decide +kernel
theorem dX5_slotNumber_10 : decode cX5_slotNumber 10 = .ok (.invokestatic 50, 3) := by decide +kernel
theorem dX5_slotNumber_13 : decode cX5_slotNumber 13 = .ok (.ifCond .eq 16, 3) := by decide +kernel
theorem dX5_slotNumber_16 : decode cX5_slotNumber 16 = .ok (.aload_n 0, 1) := by decide +kernel
theorem dX5_slotNumber_17 : decode cX5_slotNumber 17 = .ok (.getfield 45, 3) := by decide +kernel
theorem dX5_slotNumber_20 : decode cX5_slotNumber 20 = .ok (.iload_n 1, 1) := by decide +kernel
theorem dX5_slotNumber_21 : decode cX5_slotNumber 21 = .ok (.iconst 3, 1) := by decide +kernel
theorem dX5_slotNumber_22 : decode cX5_slotNumber 22 = .ok (.imul, 1) := by decide +kernel
theorem dX5_slotNumber_23 : decode cX5_slotNumber 23 = .ok (.iload_n 2, 1) := by decide +kernel
theorem dX5_slotNumber_24 : decode cX5_slotNumber 24 = .ok (.iadd, 1) := by decide +kernel
theorem dX5_slotNumber_25 : decode cX5_slotNumber 25 = .ok (.iaload, 1) := by decide +kernel
theorem dX5_slotNumber_26 : decode cX5_slotNumber 26 = .ok (.goto 4, 3) := by decide +kernel
theorem dX5_slotNumber_29 : decode cX5_slotNumber 29 = .ok (.iconst 0, 1) := by decide +kernel
theorem dX5_slotNumber_30 : decode cX5_slotNumber 30 = .ok (.ireturn, 1) := by decide +kernel
theorem dX5_setSlotNumber_0 : decode cX5_setSlotNumber 0 = .ok (.iload_n 1, 1) := by decide +kernel
theorem dX5_setSlotNumber_1 : decode cX5_setSlotNumber 1 = .ok (.iconst 4, 1) := by decide +kernel
theorem dX5_setSlotNumber_2 : decode cX5_setSlotNumber 2 = .ok (.invokestatic 50, 3) := by decide +kernel
theorem dX5_setSlotNumber_5 : decode cX5_setSlotNumber 5 = .ok (.ifCond .eq 22, 3) := by decide +kernel
theorem dX5_setSlotNumber_8 : decode cX5_setSlotNumber 8 = .ok (.iload_n 2, 1) := by decide +kernel
theorem dX5_setSlotNumber_9 : decode cX5_setSlotNumber 9 = .ok (.iconst 3, 1) := by decide +kernel
theorem dX5_setSlotNumber_10 : decode cX5_setSlotNumber 10 = .ok (.invokestatic 50, 3) := by decide +kernel
theorem dX5_setSlotNumber_13 : decode cX5_setSlotNumber 13 = .ok (.ifCond .eq 14, 3) := by decide +kernel
theorem dX5_setSlotNumber_16 : decode cX5_setSlotNumber 16 = .ok (.aload_n 0, 1) := by decide +kernel
theorem dX5_setSlotNumber_17 : decode cX5_setSlotNumber 17 = .ok (.getfield 45, 3) := by decide +kernel
theorem dX5_setSlotNumber_20 : decode cX5_setSlotNumber 20 = .ok (.iload_n 1, 1) := by decide +kernel
theorem dX5_setSlotNumber_21 : decode cX5_setSlotNumber 21 = .ok (.iconst 3, 1) := by decide +kernel
theorem dX5_setSlotNumber_22 : decode cX5_setSlotNumber 22 = .ok (.imul, 1) := by decide +kernel
theorem dX5_setSlotNumber_23 : decode cX5_setSlotNumber 23 = .ok (.iload_n 2, 1) := by decide +kernel
theorem dX5_setSlotNumber_24 : decode cX5_setSlotNumber 24 = .ok (.iadd, 1) := by decide +kernel
theorem dX5_setSlotNumber_25 : decode cX5_setSlotNumber 25 = .ok (.iload_n 3, 1) := by decide +kernel
theorem dX5_setSlotNumber_26 : decode cX5_setSlotNumber 26 = .ok (.iastore, 1) := by decide +kernel
theorem dX5_setSlotNumber_27 : decode cX5_setSlotNumber 27 = .ok (.return_, 1) := by decide +kernel
theorem dX5_fillSlot_0 : decode cX5_fillSlot 0 = .ok (.iconst 0, 1) := by decide +kernel
theorem dX5_fillSlot_1 : decode cX5_fillSlot 1 = .ok (.istore_n 3, 1) := by decide +kernel
theorem dX5_fillSlot_2 : decode cX5_fillSlot 2 = .ok (.iload_n 3, 1) := by decide +kernel
theorem dX5_fillSlot_3 : decode cX5_fillSlot 3 = .ok (.iconst 3, 1) := by decide +kernel
theorem dX5_fillSlot_4 : decode cX5_fillSlot 4 = .ok (.if_icmp .ge 24, 3) := by decide +kernel
theorem dX5_fillSlot_7 : decode cX5_fillSlot 7 = .ok (.aload_n 0, 1) := by decide +kernel
theorem dX5_fillSlot_8 : decode cX5_fillSlot 8 = .ok (.iload_n 1, 1) := by decide +kernel
theorem dX5_fillSlot_9 : decode cX5_fillSlot 9 = .ok (.iload_n 3, 1) := by decide +kernel
theorem dX5_fillSlot_10 : decode cX5_fillSlot 10 = .ok (.aload_n 0, 1) := by decide +kernel
theorem dX5_fillSlot_11 : decode cX5_fillSlot 11 = .ok (.getfield 21, 3) := by decide +kernel
theorem dX5_fillSlot_14 : decode cX5_fillSlot 14 = .ok (.iload_n 2, 1) := by decide +kernel
theorem dX5_fillSlot_15 : decode cX5_fillSlot 15 = .ok (.iload_n 3, 1) := by decide +kernel
theorem dX5_fillSlot_16 : decode cX5_fillSlot 16 = .ok (.invokevirtual 162, 3) := by decide +kernel
theorem dX5_fillSlot_19 : decode cX5_fillSlot 19 = .ok (.invokevirtual 125, 3) := by decide +kernel
theorem dX5_fillSlot_22 : decode cX5_fillSlot 22 = .ok (.iinc 3 1, 3) := by decide +kernel
theorem dX5_fillSlot_25 : decode cX5_fillSlot 25 = .ok (.goto (-23), 3) := by decide +kernel
theorem dX5_fillSlot_28 : decode cX5_fillSlot 28 = .ok (.return_, 1) := by decide +kernel
theorem dX5_fillSegment_0 : decode cX5_fillSegment 0 = .ok (.iconst 0, 1) := by decide +kernel
theorem dX5_fillSegment_1 : decode cX5_fillSegment 1 = .ok (.istore_n 3, 1) := by decide +kernel
theorem dX5_fillSegment_2 : decode cX5_fillSegment 2 = .ok (.iload_n 3, 1) := by decide +kernel
theorem dX5_fillSegment_3 : decode cX5_fillSegment 3 = .ok (.iconst 3, 1) := by decide +kernel
theorem dX5_fillSegment_4 : decode cX5_fillSegment 4 = .ok (.if_icmp .ge 24, 3) := by decide +kernel
theorem dX5_fillSegment_7 : decode cX5_fillSegment 7 = .ok (.aload_n 0, 1) := by decide +kernel
theorem dX5_fillSegment_8 : decode cX5_fillSegment 8 = .ok (.getfield 21, 3) := by decide +kernel
theorem dX5_fillSegment_11 : decode cX5_fillSegment 11 = .ok (.iload_n 1, 1) := by decide +kernel
theorem dX5_fillSegment_12 : decode cX5_fillSegment 12 = .ok (.iload_n 3, 1) := by decide +kernel
theorem dX5_fillSegment_13 : decode cX5_fillSegment 13 = .ok (.aload_n 0, 1) := by decide +kernel
theorem dX5_fillSegment_14 : decode cX5_fillSegment 14 = .ok (.iload_n 2, 1) := by decide +kernel
theorem dX5_fillSegment_15 : decode cX5_fillSegment 15 = .ok (.iload_n 3, 1) := by decide +kernel
theorem dX5_fillSegment_16 : decode cX5_fillSegment 16 = .ok (.invokevirtual 122, 3) := by decide +kernel
theorem dX5_fillSegment_19 : decode cX5_fillSegment 19 = .ok (.invokevirtual 214, 3) := by decide +kernel
theorem dX5_fillSegment_22 : decode cX5_fillSegment 22 = .ok (.iinc 3 1, 3) := by decide +kernel
theorem dX5_fillSegment_25 : decode cX5_fillSegment 25 = .ok (.goto (-23), 3) := by decide +kernel
theorem dX5_fillSegment_28 : decode cX5_fillSegment 28 = .ok (.return_, 1) := by decide +kernel
theorem dX5_seek_0 : decode cX5_seek 0 = .ok (.aload_n 0, 1) := by decide +kernel
theorem dX5_seek_1 : decode cX5_seek 1 = .ok (.aload_n 1, 1) := by decide +kernel
theorem dX5_seek_2 : decode cX5_seek 2 = .ok (.invokevirtual 217, 3) := by decide +kernel
theorem dX5_seek_5 : decode cX5_seek 5 = .ok (.ifCond .ne 5, 3) := by decide +kernel
theorem dX5_seek_8 : decode cX5_seek 8 = .ok (.iconst 4, 1) := by decide +kernel
theorem dX5_seek_9 : decode cX5_seek 9 = .ok (.ireturn, 1) := by decide +kernel
theorem dX5_seek_10 : decode cX5_seek 10 = .ok (.iload_n 2, 1) := by decide +kernel
theorem dX5_seek_11 : decode cX5_seek 11 = .ok (.iconst 2, 1) := by decide +kernel
theorem dX5_seek_12 : decode cX5_seek 12 = .ok (.if_icmp .ne 10, 3) := by decide +kernel
theorem dX5_seek_15 : decode cX5_seek 15 = .ok (.aload_n 1, 1) := by decide +kernel
theorem dX5_seek_16 : decode cX5_seek 16 = .ok (.invokevirtual 173, 3) := by decide +kernel
theorem dX5_seek_19 : decode cX5_seek 19 = .ok (.goto 4, 3) := by decide +kernel
theorem dX5_seek_22 : decode cX5_seek 22 = .ok (.iconst (-1), 1) := by decide +kernel
theorem dX5_seek_23 : decode cX5_seek 23 = .ok (.istore 4, 2) := by decide +kernel
theorem dX5_seek_25 : decode cX5_seek 25 = .ok (.iload_n 2, 1) := by decide +kernel
theorem dX5_seek_26 : decode cX5_seek 26 = .ok (.iconst 2, 1) := by decide +kernel
theorem dX5_seek_27 : decode cX5_seek 27 = .ok (.if_icmp .ne 11, 3) := by decide +kernel
theorem dX5_seek_30 : decode cX5_seek 30 = .ok (.iload 4, 2) := by decide +kernel
theorem dX5_seek_32 : decode cX5_seek 32 = .ok (.iconst (-1), 1) := by decide +kernel
theorem dX5_seek_33 : decode cX5_seek 33 = .ok (.if_icmp .ne 5, 3) := by decide +kernel
theorem dX5_seek_36 : decode cX5_seek 36 = .ok (.iconst 5, 1) := by decide +kernel
theorem dX5_seek_37 : decode cX5_seek 37 = .ok (.ireturn, 1) := by decide +kernel
theorem dX5_seek_38 : decode cX5_seek 38 = .ok (.iload_n 2, 1) := by decide +kernel
theorem dX5_seek_39 : decode cX5_seek 39 = .ok (.ifCond .ne 7, 3) := by decide +kernel
theorem dX5_seek_42 : decode cX5_seek 42 = .ok (.iconst 0, 1) := by decide +kernel
theorem dX5_seek_43 : decode cX5_seek 43 = .ok (.goto 8, 3) := by decide +kernel
theorem dX5_seek_46 : decode cX5_seek 46 = .ok (.aload_n 0, 1) := by decide +kernel
theorem dX5_seek_47 : decode cX5_seek 47 = .ok (.aload_n 1, 1) := by decide +kernel
theorem dX5_seek_48 : decode cX5_seek 48 = .ok (.invokevirtual 221, 3) := by decide +kernel
theorem dX5_seek_51 : decode cX5_seek 51 = .ok (.istore 5, 2) := by decide +kernel
theorem dX5_seek_53 : decode cX5_seek 53 = .ok (.aload_n 0, 1) := by decide +kernel
theorem dX5_seek_54 : decode cX5_seek 54 = .ok (.aload_n 1, 1) := by decide +kernel
theorem dX5_seek_55 : decode cX5_seek 55 = .ok (.aload_n 0, 1) := by decide +kernel
theorem dX5_seek_56 : decode cX5_seek 56 = .ok (.getfield 28, 3) := by decide +kernel
theorem dX5_seek_59 : decode cX5_seek 59 = .ok (.invokevirtual 107, 3) := by decide +kernel
theorem dX5_seek_62 : decode cX5_seek 62 = .ok (.iload 5, 2) := by decide +kernel
theorem dX5_seek_64 : decode cX5_seek 64 = .ok (.iload 4, 2) := by decide +kernel
theorem dX5_seek_66 : decode cX5_seek 66 = .ok (.invokevirtual 224, 3) := by decide +kernel
theorem dX5_seek_69 : decode cX5_seek 69 = .ok (.istore 6, 2) := by decide +kernel
theorem dX5_seek_71 : decode cX5_seek 71 = .ok (.iload 6, 2) := by decide +kernel
theorem dX5_seek_73 : decode cX5_seek 73 = .ok (.iconst (-1), 1) := by decide +kernel
theorem dX5_seek_74 : decode cX5_seek 74 = .ok (.if_icmp .ne 10, 3) := by decide +kernel
theorem dX5_seek_77 : decode cX5_seek 77 = .ok (.aload_n 0, 1) := by decide +kernel
theorem dX5_seek_78 : decode cX5_seek 78 = .ok (.aload_n 1, 1) := by decide +kernel
theorem dX5_seek_79 : decode cX5_seek 79 = .ok (.iload_n 2, 1) := by decide +kernel
theorem dX5_seek_80 : decode cX5_seek 80 = .ok (.invokevirtual 228, 3) := by decide +kernel
theorem dX5_seek_83 : decode cX5_seek 83 = .ok (.ireturn, 1) := by decide +kernel
theorem dX5_seek_84 : decode cX5_seek 84 = .ok (.iload_n 2, 1) := by decide +kernel
theorem dX5_seek_85 : decode cX5_seek 85 = .ok (.ifCond .ne 7, 3) := by decide +kernel
theorem dX5_seek_88 : decode cX5_seek 88 = .ok (.iconst 0, 1) := by decide +kernel
theorem dX5_seek_89 : decode cX5_seek 89 = .ok (.goto 13, 3) := by decide +kernel
theorem dX5_seek_92 : decode cX5_seek 92 = .ok (.aload_n 0, 1) := by decide +kernel
theorem dX5_seek_93 : decode cX5_seek 93 = .ok (.aload_n 1, 1) := by decide +kernel
theorem dX5_seek_94 : decode cX5_seek 94 = .ok (.invokevirtual 165, 3) := by decide +kernel
theorem dX5_seek_97 : decode cX5_seek 97 = .ok (.iload 6, 2) := by decide +kernel
theorem dX5_seek_99 : decode cX5_seek 99 = .ok (.invokevirtual 232, 3) := by decide +kernel
theorem dX5_seek_102 : decode cX5_seek 102 = .ok (.istore 7, 2) := by decide +kernel
theorem dX5_seek_104 : decode cX5_seek 104 = .ok (.aload_n 0, 1) := by decide +kernel
theorem dX5_seek_105 : decode cX5_seek 105 = .ok (.aload_n 1, 1) := by decide +kernel
theorem dX5_seek_106 : decode cX5_seek 106 = .ok (.iload 6, 2) := by decide +kernel
theorem dX5_seek_108 : decode cX5_seek 108 = .ok (.iload_n 3, 1) := by decide +kernel
theorem dX5_seek_109 : decode cX5_seek 109 = .ok (.invokevirtual 235, 3) := by decide +kernel
theorem dX5_seek_112 : decode cX5_seek 112 = .ok (.iload_n 2, 1) := by decide +kernel
theorem dX5_seek_113 : decode cX5_seek 113 = .ok (.iconst 2, 1) := by decide +kernel
theorem dX5_seek_114 : decode cX5_seek 114 = .ok (.if_icmp .eq 13, 3) := by decide +kernel
theorem dX5_seek_117 : decode cX5_seek 117 = .ok (.aload_n 1, 1) := by decide +kernel
theorem dX5_seek_118 : decode cX5_seek 118 = .ok (.aload_n 0, 1) := by decide +kernel
theorem dX5_seek_119 : decode cX5_seek 119 = .ok (.iload 6, 2) := by decide +kernel
theorem dX5_seek_121 : decode cX5_seek 121 = .ok (.invokevirtual 239, 3) := by decide +kernel
theorem dX5_seek_124 : decode cX5_seek 124 = .ok (.invokevirtual 242, 3) := by decide +kernel
theorem dX5_seek_127 : decode cX5_seek 127 = .ok (.aload_n 1, 1) := by decide +kernel
theorem dX5_seek_128 : decode cX5_seek 128 = .ok (.iload 6, 2) := by decide +kernel
theorem dX5_seek_130 : decode cX5_seek 130 = .ok (.invokevirtual 246, 3) := by decide +kernel
theorem dX5_seek_133 : decode cX5_seek 133 = .ok (.iload 7, 2) := by decide +kernel
theorem dX5_seek_135 : decode cX5_seek 135 = .ok (.ireturn, 1) := by decide +kernel
theorem dX5_isListOrdered_0 : decode cX5_isListOrdered 0 = .ok (.iconst 0, 1) := by decide +kernel
theorem dX5_isListOrdered_1 : decode cX5_isListOrdered 1 = .ok (.istore_n 2, 1) := by decide +kernel
theorem dX5_isListOrdered_2 : decode cX5_isListOrdered 2 = .ok (.iload_n 2, 1) := by decide +kernel
theorem dX5_isListOrdered_3 : decode cX5_isListOrdered 3 = .ok (.aload_n 0, 1) := by decide +kernel
theorem dX5_isListOrdered_4 : decode cX5_isListOrdered 4 = .ok (.getfield 28, 3) := by decide +kernel
theorem dX5_isListOrdered_7 : decode cX5_isListOrdered 7 = .ok (.invokevirtual 107, 3) := by decide +kernel
theorem dX5_isListOrdered_10 : decode cX5_isListOrdered 10 = .ok (.if_icmp .ge 59, 3) := by decide +kernel
theorem dX5_isListOrdered_13 : decode cX5_isListOrdered 13 = .ok (.aload_n 0, 1) := by decide +kernel
theorem dX5_isListOrdered_14 : decode cX5_isListOrdered 14 = .ok (.getfield 28, 3) := by decide +kernel
theorem dX5_isListOrdered_17 : decode cX5_isListOrdered 17 = .ok (.iload_n 2, 1) := by decide +kernel
theorem dX5_isListOrdered_18 : decode cX5_isListOrdered 18 = .ok (.invokevirtual 249, 3) := by decide +kernel
theorem dX5_isListOrdered_21 : decode cX5_isListOrdered 21 = .ok (.istore_n 3, 1) := by decide +kernel
theorem dX5_isListOrdered_22 : decode cX5_isListOrdered 22 = .ok (.aload_n 1, 1) := by decide +kernel
theorem dX5_isListOrdered_23 : decode cX5_isListOrdered 23 = .ok (.aload_n 0, 1) := by decide +kernel
theorem dX5_isListOrdered_24 : decode cX5_isListOrdered 24 = .ok (.getfield 10, 3) := by decide +kernel
theorem dX5_isListOrdered_27 : decode cX5_isListOrdered 27 = .ok (.iload_n 3, 1) := by decide +kernel
theorem dX5_isListOrdered_28 : decode cX5_isListOrdered 28 = .ok (.invokevirtual 250, 3) := by decide +kernel
theorem dX5_isListOrdered_31 : decode cX5_isListOrdered 31 = .ok (.ifCond .ne 5, 3) := by decide +kernel
theorem dX5_isListOrdered_34 : decode cX5_isListOrdered 34 = .ok (.iconst 0, 1) := by decide +kernel
theorem dX5_isListOrdered_35 : decode cX5_isListOrdered 35 = .ok (.ireturn, 1) := by decide +kernel
theorem dX5_isListOrdered_36 : decode cX5_isListOrdered 36 = .ok (.iload_n 2, 1) := by decide +kernel
theorem dX5_isListOrdered_37 : decode cX5_isListOrdered 37 = .ok (.ifCond .le 26, 3) := by decide +kernel
theorem dX5_isListOrdered_40 : decode cX5_isListOrdered 40 = .ok (.aload_n 0, 1) := by decide +kernel
theorem dX5_isListOrdered_41 : decode cX5_isListOrdered 41 = .ok (.getfield 10, 3) := by decide +kernel
theorem dX5_isListOrdered_44 : decode cX5_isListOrdered 44 = .ok (.iload_n 3, 1) := by decide +kernel
theorem dX5_isListOrdered_45 : decode cX5_isListOrdered 45 = .ok (.aload_n 0, 1) := by decide +kernel
theorem dX5_isListOrdered_46 : decode cX5_isListOrdered 46 = .ok (.getfield 28, 3) := by decide +kernel
theorem dX5_isListOrdered_49 : decode cX5_isListOrdered 49 = .ok (.iload_n 2, 1) := by decide +kernel
theorem dX5_isListOrdered_50 : decode cX5_isListOrdered 50 = .ok (.iconst 1, 1) := by decide +kernel
theorem dX5_isListOrdered_51 : decode cX5_isListOrdered 51 = .ok (.isub, 1) := by decide +kernel
theorem dX5_isListOrdered_52 : decode cX5_isListOrdered 52 = .ok (.invokevirtual 249, 3) := by decide +kernel
theorem dX5_isListOrdered_55 : decode cX5_isListOrdered 55 = .ok (.invokevirtual 254, 3) := by decide +kernel
theorem dX5_isListOrdered_58 : decode cX5_isListOrdered 58 = .ok (.ifCond .ne 5, 3) := by decide +kernel
theorem dX5_isListOrdered_61 : decode cX5_isListOrdered 61 = .ok (.iconst 0, 1) := by decide +kernel
theorem dX5_isListOrdered_62 : decode cX5_isListOrdered 62 = .ok (.ireturn, 1) := by decide +kernel
theorem dX5_isListOrdered_63 : decode cX5_isListOrdered 63 = .ok (.iinc 2 1, 3) := by decide +kernel
theorem dX5_isListOrdered_66 : decode cX5_isListOrdered 66 = .ok (.goto (-64), 3) := by decide +kernel
theorem dX5_isListOrdered_69 : decode cX5_isListOrdered 69 = .ok (.iconst 1, 1) := by decide +kernel
theorem dX5_isListOrdered_70 : decode cX5_isListOrdered 70 = .ok (.ireturn, 1) := by decide +kernel
theorem dX5_miss_0 : decode cX5_miss 0 = .ok (.iload_n 2, 1) := by decide +kernel
theorem dX5_miss_1 : decode cX5_miss 1 = .ok (.iconst 1, 1) := by decide +kernel
theorem dX5_miss_2 : decode cX5_miss 2 = .ok (.if_icmp .ne 13, 3) := by decide +kernel
theorem dX5_miss_5 : decode cX5_miss 5 = .ok (.aload_n 0, 1) := by decide +kernel
theorem dX5_miss_6 : decode cX5_miss 6 = .ok (.getfield 28, 3) := by decide +kernel
theorem dX5_miss_9 : decode cX5_miss 9 = .ok (.invokevirtual 107, 3) := by decide +kernel
theorem dX5_miss_12 : decode cX5_miss 12 = .ok (.ifCond .le 6, 3) := by decide +kernel
theorem dX5_miss_15 : decode cX5_miss 15 = .ok (.bipush 7, 2) := by decide +kernel
theorem dX5_miss_17 : decode cX5_miss 17 = .ok (.ireturn, 1) := by decide +kernel
theorem dX5_miss_18 : decode cX5_miss 18 = .ok (.aload_n 1, 1) := by decide +kernel
theorem dX5_miss_19 : decode cX5_miss 19 = .ok (.invokevirtual 257, 3) := by decide +kernel
theorem dX5_miss_22 : decode cX5_miss 22 = .ok (.iconst 3, 1) := by decide +kernel
theorem dX5_miss_23 : decode cX5_miss 23 = .ok (.ireturn, 1) := by decide +kernel
theorem dX5_statusOfStep_0 : decode cX5_statusOfStep 0 = .ok (.aload_n 0, 1) := by decide +kernel
theorem dX5_statusOfStep_1 : decode cX5_statusOfStep 1 = .ok (.getfield 28, 3) := by decide +kernel
theorem dX5_statusOfStep_4 : decode cX5_statusOfStep 4 = .ok (.invokevirtual 107, 3) := by decide +kernel
theorem dX5_statusOfStep_7 : decode cX5_statusOfStep 7 = .ok (.ifCond .gt 8, 3) := by decide +kernel
theorem dX5_statusOfStep_10 : decode cX5_statusOfStep 10 = .ok (.iload_n 1, 1) := by decide +kernel
theorem dX5_statusOfStep_11 : decode cX5_statusOfStep 11 = .ok (.iconst (-1), 1) := by decide +kernel
theorem dX5_statusOfStep_12 : decode cX5_statusOfStep 12 = .ok (.if_icmp .ne 5, 3) := by decide +kernel
theorem dX5_statusOfStep_15 : decode cX5_statusOfStep 15 = .ok (.iconst 0, 1) := by decide +kernel
theorem dX5_statusOfStep_16 : decode cX5_statusOfStep 16 = .ok (.ireturn, 1) := by decide +kernel
theorem dX5_statusOfStep_17 : decode cX5_statusOfStep 17 = .ok (.aload_n 0, 1) := by decide +kernel
theorem dX5_statusOfStep_18 : decode cX5_statusOfStep 18 = .ok (.getfield 10, 3) := by decide +kernel
theorem dX5_statusOfStep_21 : decode cX5_statusOfStep 21 = .ok (.aload_n 0, 1) := by decide +kernel
theorem dX5_statusOfStep_22 : decode cX5_statusOfStep 22 = .ok (.getfield 21, 3) := by decide +kernel
theorem dX5_statusOfStep_25 : decode cX5_statusOfStep 25 = .ok (.iload_n 1, 1) := by decide +kernel
theorem dX5_statusOfStep_26 : decode cX5_statusOfStep 26 = .ok (.invokevirtual 186, 3) := by decide +kernel
theorem dX5_statusOfStep_29 : decode cX5_statusOfStep 29 = .ok (.invokevirtual 260, 3) := by decide +kernel
theorem dX5_statusOfStep_32 : decode cX5_statusOfStep 32 = .ok (.istore_n 3, 1) := by decide +kernel
theorem dX5_statusOfStep_33 : decode cX5_statusOfStep 33 = .ok (.aload_n 0, 1) := by decide +kernel
theorem dX5_statusOfStep_34 : decode cX5_statusOfStep 34 = .ok (.getfield 10, 3) := by decide +kernel
theorem dX5_statusOfStep_37 : decode cX5_statusOfStep 37 = .ok (.aload_n 0, 1) := by decide +kernel
theorem dX5_statusOfStep_38 : decode cX5_statusOfStep 38 = .ok (.getfield 21, 3) := by decide +kernel
theorem dX5_statusOfStep_41 : decode cX5_statusOfStep 41 = .ok (.iload_n 2, 1) := by decide +kernel
theorem dX5_statusOfStep_42 : decode cX5_statusOfStep 42 = .ok (.invokevirtual 186, 3) := by decide +kernel
theorem dX5_statusOfStep_45 : decode cX5_statusOfStep 45 = .ok (.invokevirtual 260, 3) := by decide +kernel
theorem dX5_statusOfStep_48 : decode cX5_statusOfStep 48 = .ok (.istore 4, 2) := by decide +kernel
theorem dX5_statusOfStep_50 : decode cX5_statusOfStep 50 = .ok (.iload 4, 2) := by decide +kernel
theorem dX5_statusOfStep_52 : decode cX5_statusOfStep 52 = .ok (.iload_n 3, 1) := by decide +kernel
theorem dX5_statusOfStep_53 : decode cX5_statusOfStep 53 = .ok (.if_icmp .ge 5, 3) := by decide +kernel
theorem dX5_statusOfStep_56 : decode cX5_statusOfStep 56 = .ok (.iconst 1, 1) := by decide +kernel
theorem dX5_statusOfStep_57 : decode cX5_statusOfStep 57 = .ok (.ireturn, 1) := by decide +kernel
theorem dX5_statusOfStep_58 : decode cX5_statusOfStep 58 = .ok (.iload 4, 2) := by decide +kernel
theorem dX5_statusOfStep_60 : decode cX5_statusOfStep 60 = .ok (.iload_n 3, 1) := by decide +kernel
theorem dX5_statusOfStep_61 : decode cX5_statusOfStep 61 = .ok (.if_icmp .ne 26, 3) := by decide +kernel
theorem dX5_statusOfStep_64 : decode cX5_statusOfStep 64 = .ok (.aload_n 0, 1) := by decide +kernel
theorem dX5_statusOfStep_65 : decode cX5_statusOfStep 65 = .ok (.getfield 21, 3) := by decide +kernel
theorem dX5_statusOfStep_68 : decode cX5_statusOfStep 68 = .ok (.iload_n 2, 1) := by decide +kernel
theorem dX5_statusOfStep_69 : decode cX5_statusOfStep 69 = .ok (.invokevirtual 186, 3) := by decide +kernel
theorem dX5_statusOfStep_72 : decode cX5_statusOfStep 72 = .ok (.aload_n 0, 1) := by decide +kernel
theorem dX5_statusOfStep_73 : decode cX5_statusOfStep 73 = .ok (.getfield 21, 3) := by decide +kernel
theorem dX5_statusOfStep_76 : decode cX5_statusOfStep 76 = .ok (.iload_n 1, 1) := by decide +kernel
theorem dX5_statusOfStep_77 : decode cX5_statusOfStep 77 = .ok (.invokevirtual 186, 3) := by decide +kernel
theorem dX5_statusOfStep_80 : decode cX5_statusOfStep 80 = .ok (.if_icmp .eq 7, 3) := by decide +kernel
theorem dX5_statusOfStep_83 : decode cX5_statusOfStep 83 = .ok (.iconst 2, 1) := by decide +kernel
theorem dX5_statusOfStep_84 : decode cX5_statusOfStep 84 = .ok (.goto 4, 3) := by decide +kernel
theorem dX5_statusOfStep_87 : decode cX5_statusOfStep 87 = .ok (.iconst 0, 1) := by decide +kernel
theorem dX5_statusOfStep_88 : decode cX5_statusOfStep 88 = .ok (.ireturn, 1) := by decide +kernel
theorem dX5_deliver_0 : decode cX5_deliver 0 = .ok (.iconst 0, 1) := by decide +kernel
theorem dX5_deliver_1 : decode cX5_deliver 1 = .ok (.istore 4, 2) := by decide +kernel
theorem dX5_deliver_3 : decode cX5_deliver 3 = .ok (.aload_n 0, 1) := by decide +kernel
theorem dX5_deliver_4 : decode cX5_deliver 4 = .ok (.getfield 28, 3) := by decide +kernel
theorem dX5_deliver_7 : decode cX5_deliver 7 = .ok (.invokevirtual 107, 3) := by decide +kernel
theorem dX5_deliver_10 : decode cX5_deliver 10 = .ok (.iconst 1, 1) := by decide +kernel
theorem dX5_deliver_11 : decode cX5_deliver 11 = .ok (.isub, 1) := by decide +kernel
theorem dX5_deliver_12 : decode cX5_deliver 12 = .ok (.istore 5, 2) := by decide +kernel
theorem dX5_deliver_14 : decode cX5_deliver 14 = .ok (.iconst 0, 1) := by decide +kernel
theorem dX5_deliver_15 : decode cX5_deliver 15 = .ok (.istore 6, 2) := by decide +kernel
theorem dX5_deliver_17 : decode cX5_deliver 17 = .ok (.iload 6, 2) := by decide +kernel
theorem dX5_deliver_19 : decode cX5_deliver 19 = .ok (.iload 5, 2) := by decide +kernel
theorem dX5_deliver_21 : decode cX5_deliver 21 = .ok (.if_icmp .ge 52, 3) := by decide +kernel
theorem dX5_deliver_24 : decode cX5_deliver 24 = .ok (.aload_n 0, 1) := by decide +kernel
theorem dX5_deliver_25 : decode cX5_deliver 25 = .ok (.getfield 28, 3) := by decide +kernel
theorem dX5_deliver_28 : decode cX5_deliver 28 = .ok (.iload 6, 2) := by decide +kernel
theorem dX5_deliver_30 : decode cX5_deliver 30 = .ok (.iconst 1, 1) := by decide +kernel
theorem dX5_deliver_31 : decode cX5_deliver 31 = .ok (.invokevirtual 263, 3) := by decide +kernel
theorem dX5_deliver_34 : decode cX5_deliver 34 = .ok (.ifCond .eq 33, 3) := by decide +kernel
theorem dX5_deliver_37 : decode cX5_deliver 37 = .ok (.aload_n 0, 1) := by decide +kernel
theorem dX5_deliver_38 : decode cX5_deliver 38 = .ok (.aload_n 1, 1) := by decide +kernel
theorem dX5_deliver_39 : decode cX5_deliver 39 = .ok (.aload_n 0, 1) := by decide +kernel
theorem dX5_deliver_40 : decode cX5_deliver 40 = .ok (.getfield 21, 3) := by decide +kernel
theorem dX5_deliver_43 : decode cX5_deliver 43 = .ok (.iload_n 2, 1) := by decide +kernel
theorem dX5_deliver_44 : decode cX5_deliver 44 = .ok (.aload_n 0, 1) := by decide +kernel
theorem dX5_deliver_45 : decode cX5_deliver 45 = .ok (.getfield 28, 3) := by decide +kernel
theorem dX5_deliver_48 : decode cX5_deliver 48 = .ok (.iload 6, 2) := by decide +kernel
theorem dX5_deliver_50 : decode cX5_deliver 50 = .ok (.invokevirtual 249, 3) := by decide +kernel
theorem dX5_deliver_53 : decode cX5_deliver 53 = .ok (.invokevirtual 266, 3) := by decide +kernel
theorem dX5_deliver_56 : decode cX5_deliver 56 = .ok (.iload 4, 2) := by decide +kernel
theorem dX5_deliver_58 : decode cX5_deliver 58 = .ok (.iload 6, 2) := by decide +kernel
theorem dX5_deliver_60 : decode cX5_deliver 60 = .ok (.iload_n 3, 1) := by decide +kernel
theorem dX5_deliver_61 : decode cX5_deliver 61 = .ok (.invokevirtual 269, 3) := by decide +kernel
theorem dX5_deliver_64 : decode cX5_deliver 64 = .ok (.iinc 4 1, 3) := by decide +kernel
theorem dX5_deliver_67 : decode cX5_deliver 67 = .ok (.iinc 6 1, 3) := by decide +kernel
theorem dX5_deliver_70 : decode cX5_deliver 70 = .ok (.goto (-53), 3) := by decide +kernel
theorem dX5_deliver_73 : decode cX5_deliver 73 = .ok (.aload_n 0, 1) := by decide +kernel
theorem dX5_deliver_74 : decode cX5_deliver 74 = .ok (.aload_n 1, 1) := by decide +kernel
theorem dX5_deliver_75 : decode cX5_deliver 75 = .ok (.iload_n 2, 1) := by decide +kernel
theorem dX5_deliver_76 : decode cX5_deliver 76 = .ok (.iload 4, 2) := by decide +kernel
theorem dX5_deliver_78 : decode cX5_deliver 78 = .ok (.iload 5, 2) := by decide +kernel
theorem dX5_deliver_80 : decode cX5_deliver 80 = .ok (.iload_n 3, 1) := by decide +kernel
theorem dX5_deliver_81 : decode cX5_deliver 81 = .ok (.invokevirtual 269, 3) := by decide +kernel
theorem dX5_deliver_84 : decode cX5_deliver 84 = .ok (.return_, 1) := by decide +kernel
theorem dX5_deliverOne_0 : decode cX5_deliverOne 0 = .ok (.aload_n 0, 1) := by decide +kernel
theorem dX5_deliverOne_1 : decode cX5_deliverOne 1 = .ok (.iload_n 3, 1) := by decide +kernel
theorem dX5_deliverOne_2 : decode cX5_deliverOne 2 = .ok (.iload_n 2, 1) := by decide +kernel
theorem dX5_deliverOne_3 : decode cX5_deliverOne 3 = .ok (.invokevirtual 273, 3) := by decide +kernel
theorem dX5_deliverOne_6 : decode cX5_deliverOne 6 = .ok (.iload 5, 2) := by decide +kernel
theorem dX5_deliverOne_8 : decode cX5_deliverOne 8 = .ok (.ifCond .eq 19, 3) := by decide +kernel
theorem dX5_deliverOne_11 : decode cX5_deliverOne 11 = .ok (.aload_n 1, 1) := by decide +kernel
theorem dX5_deliverOne_12 : decode cX5_deliverOne 12 = .ok (.iload_n 2, 1) := by decide +kernel
theorem dX5_deliverOne_13 : decode cX5_deliverOne 13 = .ok (.aload_n 0, 1) := by decide +kernel
theorem dX5_deliverOne_14 : decode cX5_deliverOne 14 = .ok (.getfield 28, 3) := by decide +kernel
theorem dX5_deliverOne_17 : decode cX5_deliverOne 17 = .ok (.iload 4, 2) := by decide +kernel
theorem dX5_deliverOne_19 : decode cX5_deliverOne 19 = .ok (.bipush 32, 2) := by decide +kernel
theorem dX5_deliverOne_21 : decode cX5_deliverOne 21 = .ok (.invokevirtual 263, 3) := by decide +kernel
theorem dX5_deliverOne_24 : decode cX5_deliverOne 24 = .ok (.invokevirtual 276, 3) := by decide +kernel
theorem dX5_deliverOne_27 : decode cX5_deliverOne 27 = .ok (.return_, 1) := by decide +kernel
theorem dX5_parentageOf_0 : decode cX5_parentageOf 0 = .ok (.aload_n 0, 1) := by decide +kernel
theorem dX5_parentageOf_1 : decode cX5_parentageOf 1 = .ok (.getfield 28, 3) := by decide +kernel
theorem dX5_parentageOf_4 : decode cX5_parentageOf 4 = .ok (.invokevirtual 107, 3) := by decide +kernel
theorem dX5_parentageOf_7 : decode cX5_parentageOf 7 = .ok (.iconst 1, 1) := by decide +kernel
theorem dX5_parentageOf_8 : decode cX5_parentageOf 8 = .ok (.isub, 1) := by decide +kernel
theorem dX5_parentageOf_9 : decode cX5_parentageOf 9 = .ok (.istore_n 2, 1) := by decide +kernel
theorem dX5_parentageOf_10 : decode cX5_parentageOf 10 = .ok (.iload_n 2, 1) := by decide +kernel
theorem dX5_parentageOf_11 : decode cX5_parentageOf 11 = .ok (.ifCond .lt 39, 3) := by decide +kernel
theorem dX5_parentageOf_14 : decode cX5_parentageOf 14 = .ok (.aload_n 0, 1) := by decide +kernel
theorem dX5_parentageOf_15 : decode cX5_parentageOf 15 = .ok (.getfield 28, 3) := by decide +kernel
theorem dX5_parentageOf_18 : decode cX5_parentageOf 18 = .ok (.iload_n 2, 1) := by decide +kernel
theorem dX5_parentageOf_19 : decode cX5_parentageOf 19 = .ok (.bipush 16, 2) := by decide +kernel
theorem dX5_parentageOf_21 : decode cX5_parentageOf 21 = .ok (.invokevirtual 263, 3) := by decide +kernel
theorem dX5_parentageOf_24 : decode cX5_parentageOf 24 = .ok (.ifCond .eq 20, 3) := by decide +kernel
theorem dX5_parentageOf_27 : decode cX5_parentageOf 27 = .ok (.aload_n 0, 1) := by decide +kernel
theorem dX5_parentageOf_28 : decode cX5_parentageOf 28 = .ok (.getfield 21, 3) := by decide +kernel
theorem dX5_parentageOf_31 : decode cX5_parentageOf 31 = .ok (.iload_n 1, 1) := by decide +kernel
theorem dX5_parentageOf_32 : decode cX5_parentageOf 32 = .ok (.aload_n 0, 1) := by decide +kernel
theorem dX5_parentageOf_33 : decode cX5_parentageOf 33 = .ok (.getfield 28, 3) := by decide +kernel
theorem dX5_parentageOf_36 : decode cX5_parentageOf 36 = .ok (.iload_n 2, 1) := by decide +kernel
theorem dX5_parentageOf_37 : decode cX5_parentageOf 37 = .ok (.invokevirtual 249, 3) := by decide +kernel
theorem dX5_parentageOf_40 : decode cX5_parentageOf 40 = .ok (.invokevirtual 266, 3) := by decide +kernel
theorem dX5_parentageOf_43 : decode cX5_parentageOf 43 = .ok (.ireturn, 1) := by decide +kernel
theorem dX5_parentageOf_44 : decode cX5_parentageOf 44 = .ok (.iinc 2 (-1), 3) := by decide +kernel
theorem dX5_parentageOf_47 : decode cX5_parentageOf 47 = .ok (.goto (-37), 3) := by decide +kernel
theorem dX5_parentageOf_50 : decode cX5_parentageOf 50 = .ok (.iload_n 1, 1) := by decide +kernel
theorem dX5_parentageOf_51 : decode cX5_parentageOf 51 = .ok (.ireturn, 1) := by decide +kernel
theorem dX5_countAhead_0 : decode cX5_countAhead 0 = .ok (.aload_n 1, 1) := by decide +kernel
theorem dX5_countAhead_1 : decode cX5_countAhead 1 = .ok (.invokevirtual 280, 3) := by decide +kernel
theorem dX5_countAhead_4 : decode cX5_countAhead 4 = .ok (.ifCond .eq 15, 3) := by decide +kernel
theorem dX5_countAhead_7 : decode cX5_countAhead 7 = .ok (.aload_n 0, 1) := by decide +kernel
theorem dX5_countAhead_8 : decode cX5_countAhead 8 = .ok (.getfield 21, 3) := by decide +kernel
theorem dX5_countAhead_11 : decode cX5_countAhead 11 = .ok (.aload_n 1, 1) := by decide +kernel
theorem dX5_countAhead_12 : decode cX5_countAhead 12 = .ok (.invokevirtual 284, 3) := by decide +kernel
theorem dX5_countAhead_15 : decode cX5_countAhead 15 = .ok (.invokevirtual 69, 3) := by decide +kernel
theorem dX5_countAhead_18 : decode cX5_countAhead 18 = .ok (.ireturn, 1) := by decide +kernel
theorem dX5_countAhead_19 : decode cX5_countAhead 19 = .ok (.aload_n 0, 1) := by decide +kernel
theorem dX5_countAhead_20 : decode cX5_countAhead 20 = .ok (.getfield 21, 3) := by decide +kernel
theorem dX5_countAhead_23 : decode cX5_countAhead 23 = .ok (.aload_n 1, 1) := by decide +kernel
theorem dX5_countAhead_24 : decode cX5_countAhead 24 = .ok (.invokevirtual 287, 3) := by decide +kernel
theorem dX5_countAhead_27 : decode cX5_countAhead 27 = .ok (.invokevirtual 167, 3) := by decide +kernel
theorem dX5_countAhead_30 : decode cX5_countAhead 30 = .ok (.istore_n 2, 1) := by decide +kernel
theorem dX5_countAhead_31 : decode cX5_countAhead 31 = .ok (.iload_n 2, 1) := by decide +kernel
theorem dX5_countAhead_32 : decode cX5_countAhead 32 = .ok (.iconst (-1), 1) := by decide +kernel
theorem dX5_countAhead_33 : decode cX5_countAhead 33 = .ok (.if_icmp .ne 7, 3) := by decide +kernel
theorem dX5_countAhead_36 : decode cX5_countAhead 36 = .ok (.iconst 0, 1) := by decide +kernel
theorem dX5_countAhead_37 : decode cX5_countAhead 37 = .ok (.goto 4, 3) := by decide +kernel
theorem dX5_countAhead_40 : decode cX5_countAhead 40 = .ok (.iload_n 2, 1) := by decide +kernel
theorem dX5_countAhead_41 : decode cX5_countAhead 41 = .ok (.ireturn, 1) := by decide +kernel
theorem dX5_placeBehind_0 : decode cX5_placeBehind 0 = .ok (.aload_n 0, 1) := by decide +kernel
theorem dX5_placeBehind_1 : decode cX5_placeBehind 1 = .ok (.aload_n 1, 1) := by decide +kernel
theorem dX5_placeBehind_2 : decode cX5_placeBehind 2 = .ok (.invokevirtual 170, 3) := by decide +kernel
theorem dX5_placeBehind_5 : decode cX5_placeBehind 5 = .ok (.istore_n 2, 1) := by decide +kernel
theorem dX5_placeBehind_6 : decode cX5_placeBehind 6 = .ok (.aload_n 1, 1) := by decide +kernel
theorem dX5_placeBehind_7 : decode cX5_placeBehind 7 = .ok (.invokevirtual 165, 3) := by decide +kernel
theorem dX5_placeBehind_10 : decode cX5_placeBehind 10 = .ok (.iconst (-1), 1) := by decide +kernel
theorem dX5_placeBehind_11 : decode cX5_placeBehind 11 = .ok (.if_icmp .ne 7, 3) := by decide +kernel
theorem dX5_placeBehind_14 : decode cX5_placeBehind 14 = .ok (.iload_n 2, 1) := by decide +kernel
theorem dX5_placeBehind_15 : decode cX5_placeBehind 15 = .ok (.goto 6, 3) := by decide +kernel
theorem dX5_placeBehind_18 : decode cX5_placeBehind 18 = .ok (.iload_n 2, 1) := by decide +kernel
theorem dX5_placeBehind_19 : decode cX5_placeBehind 19 = .ok (.iconst 1, 1) := by decide +kernel
theorem dX5_placeBehind_20 : decode cX5_placeBehind 20 = .ok (.iadd, 1) := by decide +kernel
theorem dX5_placeBehind_21 : decode cX5_placeBehind 21 = .ok (.ireturn, 1) := by decide +kernel
theorem dX5_firstRight_0 : decode cX5_firstRight 0 = .ok (.aload_n 1, 1) := by decide +kernel
theorem dX5_firstRight_1 : decode cX5_firstRight 1 = .ok (.invokevirtual 284, 3) := by decide +kernel
theorem dX5_firstRight_4 : decode cX5_firstRight 4 = .ok (.istore 5, 2) := by decide +kernel
theorem dX5_firstRight_6 : decode cX5_firstRight 6 = .ok (.iload_n 3, 1) := by decide +kernel
theorem dX5_firstRight_7 : decode cX5_firstRight 7 = .ok (.istore 6, 2) := by decide +kernel
theorem dX5_firstRight_9 : decode cX5_firstRight 9 = .ok (.iload 6, 2) := by decide +kernel
theorem dX5_firstRight_11 : decode cX5_firstRight 11 = .ok (.aload_n 0, 1) := by decide +kernel
theorem dX5_firstRight_12 : decode cX5_firstRight 12 = .ok (.getfield 21, 3) := by decide +kernel
theorem dX5_firstRight_15 : decode cX5_firstRight 15 = .ok (.iload 5, 2) := by decide +kernel
theorem dX5_firstRight_17 : decode cX5_firstRight 17 = .ok (.invokevirtual 69, 3) := by decide +kernel
theorem dX5_firstRight_20 : decode cX5_firstRight 20 = .ok (.if_icmp .ge 56, 3) := by decide +kernel
theorem dX5_firstRight_23 : decode cX5_firstRight 23 = .ok (.aload_n 0, 1) := by decide +kernel
theorem dX5_firstRight_24 : decode cX5_firstRight 24 = .ok (.getfield 21, 3) := by decide +kernel
theorem dX5_firstRight_27 : decode cX5_firstRight 27 = .ok (.iload 5, 2) := by decide +kernel
theorem dX5_firstRight_29 : decode cX5_firstRight 29 = .ok (.iload 6, 2) := by decide +kernel
theorem dX5_firstRight_31 : decode cX5_firstRight 31 = .ok (.invokevirtual 152, 3) := by decide +kernel
theorem dX5_firstRight_34 : decode cX5_firstRight 34 = .ok (.istore 7, 2) := by decide +kernel
theorem dX5_firstRight_36 : decode cX5_firstRight 36 = .ok (.iload 4, 2) := by decide +kernel
theorem dX5_firstRight_38 : decode cX5_firstRight 38 = .ok (.iconst (-1), 1) := by decide +kernel
theorem dX5_firstRight_39 : decode cX5_firstRight 39 = .ok (.if_icmp .eq 17, 3) := by decide +kernel
theorem dX5_firstRight_42 : decode cX5_firstRight 42 = .ok (.aload_n 0, 1) := by decide +kernel
theorem dX5_firstRight_43 : decode cX5_firstRight 43 = .ok (.getfield 21, 3) := by decide +kernel
theorem dX5_firstRight_46 : decode cX5_firstRight 46 = .ok (.iload 7, 2) := by decide +kernel
theorem dX5_firstRight_48 : decode cX5_firstRight 48 = .ok (.iload 4, 2) := by decide +kernel
theorem dX5_firstRight_50 : decode cX5_firstRight 50 = .ok (.invokevirtual 290, 3) := by decide +kernel
theorem dX5_firstRight_53 : decode cX5_firstRight 53 = .ok (.ifCond .eq 17, 3) := by decide +kernel
theorem dX5_firstRight_56 : decode cX5_firstRight 56 = .ok (.aload_n 0, 1) := by decide +kernel
theorem dX5_firstRight_57 : decode cX5_firstRight 57 = .ok (.aload_n 1, 1) := by decide +kernel
theorem dX5_firstRight_58 : decode cX5_firstRight 58 = .ok (.iload 7, 2) := by decide +kernel
theorem dX5_firstRight_60 : decode cX5_firstRight 60 = .ok (.iload_n 2, 1) := by decide +kernel
theorem dX5_firstRight_61 : decode cX5_firstRight 61 = .ok (.invokevirtual 291, 3) := by decide +kernel
theorem dX5_firstRight_64 : decode cX5_firstRight 64 = .ok (.ifCond .eq 6, 3) := by decide +kernel
theorem dX5_firstRight_67 : decode cX5_firstRight 67 = .ok (.iload 7, 2) := by decide +kernel
theorem dX5_firstRight_69 : decode cX5_firstRight 69 = .ok (.ireturn, 1) := by decide +kernel
theorem dX5_firstRight_70 : decode cX5_firstRight 70 = .ok (.iinc 6 1, 3) := by decide +kernel
theorem dX5_firstRight_73 : decode cX5_firstRight 73 = .ok (.goto (-64), 3) := by decide +kernel
theorem dX5_firstRight_76 : decode cX5_firstRight 76 = .ok (.iconst (-1), 1) := by decide +kernel
theorem dX5_firstRight_77 : decode cX5_firstRight 77 = .ok (.ireturn, 1) := by decide +kernel
theorem dX5_isRight_0 : decode cX5_isRight 0 = .ok (.aload_n 0, 1) := by decide +kernel
theorem dX5_isRight_1 : decode cX5_isRight 1 = .ok (.getfield 21, 3) := by decide +kernel
theorem dX5_isRight_4 : decode cX5_isRight 4 = .ok (.iload_n 2, 1) := by decide +kernel
theorem dX5_isRight_5 : decode cX5_isRight 5 = .ok (.invokevirtual 186, 3) := by decide +kernel
theorem dX5_isRight_8 : decode cX5_isRight 8 = .ok (.istore 4, 2) := by decide +kernel
theorem dX5_isRight_10 : decode cX5_isRight 10 = .ok (.aload_n 1, 1) := by decide +kernel
theorem dX5_isRight_11 : decode cX5_isRight 11 = .ok (.aload_n 0, 1) := by decide +kernel
theorem dX5_isRight_12 : decode cX5_isRight 12 = .ok (.getfield 10, 3) := by decide +kernel
theorem dX5_isRight_15 : decode cX5_isRight 15 = .ok (.iload 4, 2) := by decide +kernel
theorem dX5_isRight_17 : decode cX5_isRight 17 = .ok (.invokevirtual 250, 3) := by decide +kernel
theorem dX5_isRight_20 : decode cX5_isRight 20 = .ok (.ifCond .eq 22, 3) := by decide +kernel
theorem dX5_isRight_23 : decode cX5_isRight 23 = .ok (.iload_n 3, 1) := by decide +kernel
theorem dX5_isRight_24 : decode cX5_isRight 24 = .ok (.ifCond .le 20, 3) := by decide +kernel
theorem dX5_isRight_27 : decode cX5_isRight 27 = .ok (.iload 4, 2) := by decide +kernel
theorem dX5_isRight_29 : decode cX5_isRight 29 = .ok (.aload_n 0, 1) := by decide +kernel
theorem dX5_isRight_30 : decode cX5_isRight 30 = .ok (.getfield 28, 3) := by decide +kernel
theorem dX5_isRight_33 : decode cX5_isRight 33 = .ok (.iload_n 3, 1) := by decide +kernel
theorem dX5_isRight_34 : decode cX5_isRight 34 = .ok (.iconst 1, 1) := by decide +kernel
theorem dX5_isRight_35 : decode cX5_isRight 35 = .ok (.isub, 1) := by decide +kernel
theorem dX5_isRight_36 : decode cX5_isRight 36 = .ok (.invokevirtual 249, 3) := by decide +kernel
theorem dX5_isRight_39 : decode cX5_isRight 39 = .ok (.if_icmp .eq 5, 3) := by decide +kernel
theorem dX5_isRight_42 : decode cX5_isRight 42 = .ok (.iconst 0, 1) := by decide +kernel
theorem dX5_isRight_43 : decode cX5_isRight 43 = .ok (.ireturn, 1) := by decide +kernel
theorem dX5_isRight_44 : decode cX5_isRight 44 = .ok (.iconst 0, 1) := by decide +kernel
theorem dX5_isRight_45 : decode cX5_isRight 45 = .ok (.istore 5, 2) := by decide +kernel
theorem dX5_isRight_47 : decode cX5_isRight 47 = .ok (.iload 5, 2) := by decide +kernel
theorem dX5_isRight_49 : decode cX5_isRight 49 = .ok (.iload_n 3, 1) := by decide +kernel
theorem dX5_isRight_50 : decode cX5_isRight 50 = .ok (.if_icmp .ge 60, 3) := by decide +kernel
theorem dX5_isRight_53 : decode cX5_isRight 53 = .ok (.aload_n 0, 1) := by decide +kernel
theorem dX5_isRight_54 : decode cX5_isRight 54 = .ok (.getfield 21, 3) := by decide +kernel
theorem dX5_isRight_57 : decode cX5_isRight 57 = .ok (.iload_n 2, 1) := by decide +kernel
theorem dX5_isRight_58 : decode cX5_isRight 58 = .ok (.aload_n 0, 1) := by decide +kernel
theorem dX5_isRight_59 : decode cX5_isRight 59 = .ok (.getfield 28, 3) := by decide +kernel
theorem dX5_isRight_62 : decode cX5_isRight 62 = .ok (.iload 5, 2) := by decide +kernel
theorem dX5_isRight_64 : decode cX5_isRight 64 = .ok (.invokevirtual 249, 3) := by decide +kernel
theorem dX5_isRight_67 : decode cX5_isRight 67 = .ok (.invokevirtual 266, 3) := by decide +kernel
theorem dX5_isRight_70 : decode cX5_isRight 70 = .ok (.istore 6, 2) := by decide +kernel
theorem dX5_isRight_72 : decode cX5_isRight 72 = .ok (.aload_n 0, 1) := by decide +kernel
theorem dX5_isRight_73 : decode cX5_isRight 73 = .ok (.getfield 28, 3) := by decide +kernel
theorem dX5_isRight_76 : decode cX5_isRight 76 = .ok (.iload 5, 2) := by decide +kernel
theorem dX5_isRight_78 : decode cX5_isRight 78 = .ok (.aload_n 0, 1) := by decide +kernel
theorem dX5_isRight_79 : decode cX5_isRight 79 = .ok (.getfield 21, 3) := by decide +kernel
theorem dX5_isRight_82 : decode cX5_isRight 82 = .ok (.iload 6, 2) := by decide +kernel
theorem dX5_isRight_84 : decode cX5_isRight 84 = .ok (.invokevirtual 295, 3) := by decide +kernel
theorem dX5_isRight_87 : decode cX5_isRight 87 = .ok (.ifCond .eq 15, 3) := by decide +kernel
theorem dX5_isRight_90 : decode cX5_isRight 90 = .ok (.aload_n 0, 1) := by decide +kernel
theorem dX5_isRight_91 : decode cX5_isRight 91 = .ok (.aload_n 1, 1) := by decide +kernel
theorem dX5_isRight_92 : decode cX5_isRight 92 = .ok (.iload 6, 2) := by decide +kernel
theorem dX5_isRight_94 : decode cX5_isRight 94 = .ok (.iload 5, 2) := by decide +kernel
theorem dX5_isRight_96 : decode cX5_isRight 96 = .ok (.invokevirtual 299, 3) := by decide +kernel
theorem dX5_isRight_99 : decode cX5_isRight 99 = .ok (.ifCond .ne 5, 3) := by decide +kernel
theorem dX5_isRight_102 : decode cX5_isRight 102 = .ok (.iconst 0, 1) := by decide +kernel
theorem dX5_isRight_103 : decode cX5_isRight 103 = .ok (.ireturn, 1) := by decide +kernel
theorem dX5_isRight_104 : decode cX5_isRight 104 = .ok (.iinc 5 1, 3) := by decide +kernel
theorem dX5_isRight_107 : decode cX5_isRight 107 = .ok (.goto (-60), 3) := by decide +kernel
theorem dX5_isRight_110 : decode cX5_isRight 110 = .ok (.iconst 1, 1) := by decide +kernel
theorem dX5_isRight_111 : decode cX5_isRight 111 = .ok (.ireturn, 1) := by decide +kernel
theorem dX5_areCodesRight_0 : decode cX5_areCodesRight 0 = .ok (.aload_n 0, 1) := by decide +kernel
theorem dX5_areCodesRight_1 : decode cX5_areCodesRight 1 = .ok (.getfield 28, 3) := by decide +kernel
theorem dX5_areCodesRight_4 : decode cX5_areCodesRight 4 = .ok (.iload_n 3, 1) := by decide +kernel
theorem dX5_areCodesRight_5 : decode cX5_areCodesRight 5 = .ok (.iconst 2, 1) := by decide +kernel
theorem dX5_areCodesRight_6 : decode cX5_areCodesRight 6 = .ok (.invokevirtual 263, 3) := by decide +kernel
theorem dX5_areCodesRight_9 : decode cX5_areCodesRight 9 = .ok (.ifCond .eq 15, 3) := by decide +kernel
theorem dX5_areCodesRight_12 : decode cX5_areCodesRight 12 = .ok (.aload_n 0, 1) := by decide +kernel
theorem dX5_areCodesRight_13 : decode cX5_areCodesRight 13 = .ok (.iload_n 2, 1) := by decide +kernel
theorem dX5_areCodesRight_14 : decode cX5_areCodesRight 14 = .ok (.iload_n 3, 1) := by decide +kernel
theorem dX5_areCodesRight_15 : decode cX5_areCodesRight 15 = .ok (.iconst 1, 1) := by decide +kernel
theorem dX5_areCodesRight_16 : decode cX5_areCodesRight 16 = .ok (.invokevirtual 302, 3) := by decide +kernel
theorem dX5_areCodesRight_19 : decode cX5_areCodesRight 19 = .ok (.ifCond .eq 5, 3) := by decide +kernel
theorem dX5_areCodesRight_22 : decode cX5_areCodesRight 22 = .ok (.iconst 0, 1) := by decide +kernel
theorem dX5_areCodesRight_23 : decode cX5_areCodesRight 23 = .ok (.ireturn, 1) := by decide +kernel
theorem dX5_areCodesRight_24 : decode cX5_areCodesRight 24 = .ok (.aload_n 0, 1) := by decide +kernel
theorem dX5_areCodesRight_25 : decode cX5_areCodesRight 25 = .ok (.getfield 28, 3) := by decide +kernel
theorem dX5_areCodesRight_28 : decode cX5_areCodesRight 28 = .ok (.iload_n 3, 1) := by decide +kernel
theorem dX5_areCodesRight_29 : decode cX5_areCodesRight 29 = .ok (.iconst 4, 1) := by decide +kernel
theorem dX5_areCodesRight_30 : decode cX5_areCodesRight 30 = .ok (.invokevirtual 263, 3) := by decide +kernel
theorem dX5_areCodesRight_33 : decode cX5_areCodesRight 33 = .ok (.ifCond .eq 15, 3) := by decide +kernel
theorem dX5_areCodesRight_36 : decode cX5_areCodesRight 36 = .ok (.aload_n 0, 1) := by decide +kernel
theorem dX5_areCodesRight_37 : decode cX5_areCodesRight 37 = .ok (.iload_n 2, 1) := by decide +kernel
theorem dX5_areCodesRight_38 : decode cX5_areCodesRight 38 = .ok (.iload_n 3, 1) := by decide +kernel
theorem dX5_areCodesRight_39 : decode cX5_areCodesRight 39 = .ok (.iconst 0, 1) := by decide +kernel
theorem dX5_areCodesRight_40 : decode cX5_areCodesRight 40 = .ok (.invokevirtual 302, 3) := by decide +kernel
theorem dX5_areCodesRight_43 : decode cX5_areCodesRight 43 = .ok (.ifCond .eq 5, 3) := by decide +kernel
theorem dX5_areCodesRight_46 : decode cX5_areCodesRight 46 = .ok (.iconst 0, 1) := by decide +kernel
theorem dX5_areCodesRight_47 : decode cX5_areCodesRight 47 = .ok (.ireturn, 1) := by decide +kernel
theorem dX5_areCodesRight_48 : decode cX5_areCodesRight 48 = .ok (.aload_n 1, 1) := by decide +kernel
theorem dX5_areCodesRight_49 : decode cX5_areCodesRight 49 = .ok (.invokevirtual 165, 3) := by decide +kernel
theorem dX5_areCodesRight_52 : decode cX5_areCodesRight 52 = .ok (.istore 4, 2) := by decide +kernel
theorem dX5_areCodesRight_54 : decode cX5_areCodesRight 54 = .ok (.aload_n 0, 1) := by decide +kernel
theorem dX5_areCodesRight_55 : decode cX5_areCodesRight 55 = .ok (.getfield 28, 3) := by decide +kernel
theorem dX5_areCodesRight_58 : decode cX5_areCodesRight 58 = .ok (.iload_n 3, 1) := by decide +kernel
theorem dX5_areCodesRight_59 : decode cX5_areCodesRight 59 = .ok (.bipush 8, 2) := by decide +kernel
theorem dX5_areCodesRight_61 : decode cX5_areCodesRight 61 = .ok (.invokevirtual 263, 3) := by decide +kernel
theorem dX5_areCodesRight_64 : decode cX5_areCodesRight 64 = .ok (.ifCond .eq 22, 3) := by decide +kernel
theorem dX5_areCodesRight_67 : decode cX5_areCodesRight 67 = .ok (.iload 4, 2) := by decide +kernel
theorem dX5_areCodesRight_69 : decode cX5_areCodesRight 69 = .ok (.iload_n 2, 1) := by decide +kernel
theorem dX5_areCodesRight_70 : decode cX5_areCodesRight 70 = .ok (.if_icmp .eq 16, 3) := by decide +kernel
theorem dX5_areCodesRight_73 : decode cX5_areCodesRight 73 = .ok (.aload_n 0, 1) := by decide +kernel
theorem dX5_areCodesRight_74 : decode cX5_areCodesRight 74 = .ok (.getfield 21, 3) := by decide +kernel
theorem dX5_areCodesRight_77 : decode cX5_areCodesRight 77 = .ok (.iload 4, 2) := by decide +kernel
theorem dX5_areCodesRight_79 : decode cX5_areCodesRight 79 = .ok (.iload_n 2, 1) := by decide +kernel
theorem dX5_areCodesRight_80 : decode cX5_areCodesRight 80 = .ok (.invokevirtual 290, 3) := by decide +kernel
theorem dX5_areCodesRight_83 : decode cX5_areCodesRight 83 = .ok (.ifCond .eq 7, 3) := by decide +kernel
theorem dX5_areCodesRight_86 : decode cX5_areCodesRight 86 = .ok (.iconst 1, 1) := by decide +kernel
theorem dX5_areCodesRight_87 : decode cX5_areCodesRight 87 = .ok (.goto 4, 3) := by decide +kernel
theorem dX5_areCodesRight_90 : decode cX5_areCodesRight 90 = .ok (.iconst 0, 1) := by decide +kernel
theorem dX5_areCodesRight_91 : decode cX5_areCodesRight 91 = .ok (.ireturn, 1) := by decide +kernel
theorem dX5_isTwinFulfilling_0 : decode cX5_isTwinFulfilling 0 = .ok (.aload_n 0, 1) := by decide +kernel
theorem dX5_isTwinFulfilling_1 : decode cX5_isTwinFulfilling 1 = .ok (.getfield 21, 3) := by decide +kernel
theorem dX5_isTwinFulfilling_4 : decode cX5_isTwinFulfilling 4 = .ok (.iload_n 1, 1) := by decide +kernel
theorem dX5_isTwinFulfilling_5 : decode cX5_isTwinFulfilling 5 = .ok (.invokevirtual 186, 3) := by decide +kernel
theorem dX5_isTwinFulfilling_8 : decode cX5_isTwinFulfilling 8 = .ok (.istore 4, 2) := by decide +kernel
theorem dX5_isTwinFulfilling_10 : decode cX5_isTwinFulfilling 10 = .ok (.aload_n 0, 1) := by decide +kernel
theorem dX5_isTwinFulfilling_11 : decode cX5_isTwinFulfilling 11 = .ok (.getfield 21, 3) := by decide +kernel
theorem dX5_isTwinFulfilling_14 : decode cX5_isTwinFulfilling 14 = .ok (.iload_n 1, 1) := by decide +kernel
theorem dX5_isTwinFulfilling_15 : decode cX5_isTwinFulfilling 15 = .ok (.invokevirtual 183, 3) := by decide +kernel
theorem dX5_isTwinFulfilling_18 : decode cX5_isTwinFulfilling 18 = .ok (.istore 5, 2) := by decide +kernel
theorem dX5_isTwinFulfilling_20 : decode cX5_isTwinFulfilling 20 = .ok (.iconst 0, 1) := by decide +kernel
theorem dX5_isTwinFulfilling_21 : decode cX5_isTwinFulfilling 21 = .ok (.istore 6, 2) := by decide +kernel
theorem dX5_isTwinFulfilling_23 : decode cX5_isTwinFulfilling 23 = .ok (.iload 6, 2) := by decide +kernel
theorem dX5_isTwinFulfilling_25 : decode cX5_isTwinFulfilling 25 = .ok (.bipush 60, 2) := by decide +kernel
theorem dX5_isTwinFulfilling_27 : decode cX5_isTwinFulfilling 27 = .ok (.if_icmp .ge 91, 3) := by decide +kernel
theorem dX5_isTwinFulfilling_30 : decode cX5_isTwinFulfilling 30 = .ok (.iload 6, 2) := by decide +kernel
theorem dX5_isTwinFulfilling_32 : decode cX5_isTwinFulfilling 32 = .ok (.iload_n 1, 1) := by decide +kernel
theorem dX5_isTwinFulfilling_33 : decode cX5_isTwinFulfilling 33 = .ok (.if_icmp .eq 23, 3) := by decide +kernel
theorem dX5_isTwinFulfilling_36 : decode cX5_isTwinFulfilling 36 = .ok (.aload_n 0, 1) := by decide +kernel
theorem dX5_isTwinFulfilling_37 : decode cX5_isTwinFulfilling 37 = .ok (.getfield 21, 3) := by decide +kernel
theorem dX5_isTwinFulfilling_40 : decode cX5_isTwinFulfilling 40 = .ok (.iload 6, 2) := by decide +kernel
theorem dX5_isTwinFulfilling_42 : decode cX5_isTwinFulfilling 42 = .ok (.iload 4, 2) := by decide +kernel
theorem dX5_isTwinFulfilling_44 : decode cX5_isTwinFulfilling 44 = .ok (.iload 5, 2) := by decide +kernel
theorem dX5_isTwinFulfilling_46 : decode cX5_isTwinFulfilling 46 = .ok (.invokevirtual 306, 3) := by decide +kernel
theorem dX5_isTwinFulfilling_49 : decode cX5_isTwinFulfilling 49 = .ok (.ifCond .eq 7, 3) := by decide +kernel
theorem dX5_isTwinFulfilling_52 : decode cX5_isTwinFulfilling 52 = .ok (.iconst 1, 1) := by decide +kernel
theorem dX5_isTwinFulfilling_53 : decode cX5_isTwinFulfilling 53 = .ok (.goto 4, 3) := by decide +kernel
theorem dX5_isTwinFulfilling_56 : decode cX5_isTwinFulfilling 56 = .ok (.iconst 0, 1) := by decide +kernel
theorem dX5_isTwinFulfilling_57 : decode cX5_isTwinFulfilling 57 = .ok (.istore 7, 2) := by decide +kernel
theorem dX5_isTwinFulfilling_59 : decode cX5_isTwinFulfilling 59 = .ok (.iload 7, 2) := by decide +kernel
theorem dX5_isTwinFulfilling_61 : decode cX5_isTwinFulfilling 61 = .ok (.ifCond .eq 51, 3) := by decide +kernel
theorem dX5_isTwinFulfilling_64 : decode cX5_isTwinFulfilling 64 = .ok (.aload_n 0, 1) := by decide +kernel
theorem dX5_isTwinFulfilling_65 : decode cX5_isTwinFulfilling 65 = .ok (.getfield 21, 3) := by decide +kernel
theorem dX5_isTwinFulfilling_68 : decode cX5_isTwinFulfilling 68 = .ok (.iload 6, 2) := by decide +kernel
theorem dX5_isTwinFulfilling_70 : decode cX5_isTwinFulfilling 70 = .ok (.invokevirtual 167, 3) := by decide +kernel
theorem dX5_isTwinFulfilling_73 : decode cX5_isTwinFulfilling 73 = .ok (.aload_n 0, 1) := by decide +kernel
theorem dX5_isTwinFulfilling_74 : decode cX5_isTwinFulfilling 74 = .ok (.getfield 21, 3) := by decide +kernel
theorem dX5_isTwinFulfilling_77 : decode cX5_isTwinFulfilling 77 = .ok (.iload_n 1, 1) := by decide +kernel
theorem dX5_isTwinFulfilling_78 : decode cX5_isTwinFulfilling 78 = .ok (.invokevirtual 167, 3) := by decide +kernel
theorem dX5_isTwinFulfilling_81 : decode cX5_isTwinFulfilling 81 = .ok (.if_icmp .ge 7, 3) := by decide +kernel
theorem dX5_isTwinFulfilling_84 : decode cX5_isTwinFulfilling 84 = .ok (.iconst 1, 1) := by decide +kernel
theorem dX5_isTwinFulfilling_85 : decode cX5_isTwinFulfilling 85 = .ok (.goto 4, 3) := by decide +kernel
theorem dX5_isTwinFulfilling_88 : decode cX5_isTwinFulfilling 88 = .ok (.iconst 0, 1) := by decide +kernel
theorem dX5_isTwinFulfilling_89 : decode cX5_isTwinFulfilling 89 = .ok (.iload_n 3, 1) := by decide +kernel
theorem dX5_isTwinFulfilling_90 : decode cX5_isTwinFulfilling 90 = .ok (.if_icmp .ne 22, 3) := by decide +kernel
theorem dX5_isTwinFulfilling_93 : decode cX5_isTwinFulfilling 93 = .ok (.aload_n 0, 1) := by decide +kernel
theorem dX5_isTwinFulfilling_94 : decode cX5_isTwinFulfilling 94 = .ok (.getfield 28, 3) := by decide +kernel
theorem dX5_isTwinFulfilling_97 : decode cX5_isTwinFulfilling 97 = .ok (.iload_n 2, 1) := by decide +kernel
theorem dX5_isTwinFulfilling_98 : decode cX5_isTwinFulfilling 98 = .ok (.aload_n 0, 1) := by decide +kernel
theorem dX5_isTwinFulfilling_99 : decode cX5_isTwinFulfilling 99 = .ok (.getfield 21, 3) := by decide +kernel
theorem dX5_isTwinFulfilling_102 : decode cX5_isTwinFulfilling 102 = .ok (.iload 6, 2) := by decide +kernel
theorem dX5_isTwinFulfilling_104 : decode cX5_isTwinFulfilling 104 = .ok (.invokevirtual 295, 3) := by decide +kernel
theorem dX5_isTwinFulfilling_107 : decode cX5_isTwinFulfilling 107 = .ok (.ifCond .eq 5, 3) := by decide +kernel
theorem dX5_isTwinFulfilling_110 : decode cX5_isTwinFulfilling 110 = .ok (.iconst 1, 1) := by decide +kernel
theorem dX5_isTwinFulfilling_111 : decode cX5_isTwinFulfilling 111 = .ok (.ireturn, 1) := by decide +kernel
theorem dX5_isTwinFulfilling_112 : decode cX5_isTwinFulfilling 112 = .ok (.iinc 6 1, 3) := by decide +kernel
theorem dX5_isTwinFulfilling_115 : decode cX5_isTwinFulfilling 115 = .ok (.goto (-92), 3) := by decide +kernel
theorem dX5_isTwinFulfilling_118 : decode cX5_isTwinFulfilling 118 = .ok (.iconst 0, 1) := by decide +kernel
theorem dX5_isTwinFulfilling_119 : decode cX5_isTwinFulfilling 119 = .ok (.ireturn, 1) := by decide +kernel
theorem dX5_insertListed_0 : decode cX5_insertListed 0 = .ok (.aload_n 0, 1) := by decide +kernel
theorem dX5_insertListed_1 : decode cX5_insertListed 1 = .ok (.getfield 28, 3) := by decide +kernel
theorem dX5_insertListed_4 : decode cX5_insertListed 4 = .ok (.invokevirtual 310, 3) := by decide +kernel
theorem dX5_insertListed_7 : decode cX5_insertListed 7 = .ok (.istore_n 2, 1) := by decide +kernel
theorem dX5_insertListed_8 : decode cX5_insertListed 8 = .ok (.iload_n 2, 1) := by decide +kernel
theorem dX5_insertListed_9 : decode cX5_insertListed 9 = .ok (.iconst (-1), 1) := by decide +kernel
theorem dX5_insertListed_10 : decode cX5_insertListed 10 = .ok (.if_icmp .eq 19, 3) := by decide +kernel
theorem dX5_insertListed_13 : decode cX5_insertListed 13 = .ok (.aload_n 0, 1) := by decide +kernel
theorem dX5_insertListed_14 : decode cX5_insertListed 14 = .ok (.aload_n 1, 1) := by decide +kernel
theorem dX5_insertListed_15 : decode cX5_insertListed 15 = .ok (.invokevirtual 217, 3) := by decide +kernel
theorem dX5_insertListed_18 : decode cX5_insertListed 18 = .ok (.ifCond .eq 11, 3) := by decide +kernel
theorem dX5_insertListed_21 : decode cX5_insertListed 21 = .ok (.aload_n 0, 1) := by decide +kernel
theorem dX5_insertListed_22 : decode cX5_insertListed 22 = .ok (.iload_n 2, 1) := by decide +kernel
theorem dX5_insertListed_23 : decode cX5_insertListed 23 = .ok (.invokevirtual 313, 3) := by decide +kernel
theorem dX5_insertListed_26 : decode cX5_insertListed 26 = .ok (.ifCond .ne 5, 3) := by decide +kernel
theorem dX5_insertListed_29 : decode cX5_insertListed 29 = .ok (.iconst 4, 1) := by decide +kernel
theorem dX5_insertListed_30 : decode cX5_insertListed 30 = .ok (.ireturn, 1) := by decide +kernel
theorem dX5_insertListed_31 : decode cX5_insertListed 31 = .ok (.aload_n 0, 1) := by decide +kernel
theorem dX5_insertListed_32 : decode cX5_insertListed 32 = .ok (.getfield 28, 3) := by decide +kernel
theorem dX5_insertListed_35 : decode cX5_insertListed 35 = .ok (.iload_n 2, 1) := by decide +kernel
theorem dX5_insertListed_36 : decode cX5_insertListed 36 = .ok (.invokevirtual 249, 3) := by decide +kernel
theorem dX5_insertListed_39 : decode cX5_insertListed 39 = .ok (.istore_n 3, 1) := by decide +kernel
theorem dX5_insertListed_40 : decode cX5_insertListed 40 = .ok (.iload_n 2, 1) := by decide +kernel
theorem dX5_insertListed_41 : decode cX5_insertListed 41 = .ok (.ifCond .le 14, 3) := by decide +kernel
theorem dX5_insertListed_44 : decode cX5_insertListed 44 = .ok (.aload_n 0, 1) := by decide +kernel
theorem dX5_insertListed_45 : decode cX5_insertListed 45 = .ok (.aload_n 1, 1) := by decide +kernel
theorem dX5_insertListed_46 : decode cX5_insertListed 46 = .ok (.iload_n 2, 1) := by decide +kernel
theorem dX5_insertListed_47 : decode cX5_insertListed 47 = .ok (.iconst 0, 1) := by decide +kernel
theorem dX5_insertListed_48 : decode cX5_insertListed 48 = .ok (.iconst (-1), 1) := by decide +kernel
theorem dX5_insertListed_49 : decode cX5_insertListed 49 = .ok (.invokevirtual 224, 3) := by decide +kernel
theorem dX5_insertListed_52 : decode cX5_insertListed 52 = .ok (.goto 22, 3) := by decide +kernel
theorem dX5_insertListed_55 : decode cX5_insertListed 55 = .ok (.aload_n 0, 1) := by decide +kernel
theorem dX5_insertListed_56 : decode cX5_insertListed 56 = .ok (.getfield 21, 3) := by decide +kernel
theorem dX5_insertListed_59 : decode cX5_insertListed 59 = .ok (.aload_n 1, 1) := by decide +kernel
theorem dX5_insertListed_60 : decode cX5_insertListed 60 = .ok (.invokevirtual 165, 3) := by decide +kernel
theorem dX5_insertListed_63 : decode cX5_insertListed 63 = .ok (.aload_n 0, 1) := by decide +kernel
theorem dX5_insertListed_64 : decode cX5_insertListed 64 = .ok (.getfield 10, 3) := by decide +kernel
theorem dX5_insertListed_67 : decode cX5_insertListed 67 = .ok (.iload_n 3, 1) := by decide +kernel
theorem dX5_insertListed_68 : decode cX5_insertListed 68 = .ok (.invokevirtual 316, 3) := by decide +kernel
theorem dX5_insertListed_71 : decode cX5_insertListed 71 = .ok (.invokevirtual 266, 3) := by decide +kernel
theorem dX5_insertListed_74 : decode cX5_insertListed 74 = .ok (.istore 4, 2) := by decide +kernel
theorem dX5_insertListed_76 : decode cX5_insertListed 76 = .ok (.iload 4, 2) := by decide +kernel
theorem dX5_insertListed_78 : decode cX5_insertListed 78 = .ok (.iconst (-1), 1) := by decide +kernel
theorem dX5_insertListed_79 : decode cX5_insertListed 79 = .ok (.if_icmp .ne 17, 3) := by decide +kernel
theorem dX5_insertListed_82 : decode cX5_insertListed 82 = .ok (.aload_n 0, 1) := by decide +kernel
theorem dX5_insertListed_83 : decode cX5_insertListed 83 = .ok (.getfield 10, 3) := by decide +kernel
theorem dX5_insertListed_86 : decode cX5_insertListed 86 = .ok (.iload_n 3, 1) := by decide +kernel
theorem dX5_insertListed_87 : decode cX5_insertListed 87 = .ok (.invokevirtual 89, 3) := by decide +kernel
theorem dX5_insertListed_90 : decode cX5_insertListed 90 = .ok (.ifCond .ne 6, 3) := by decide +kernel
theorem dX5_insertListed_93 : decode cX5_insertListed 93 = .ok (.bipush 7, 2) := by decide +kernel
theorem dX5_insertListed_95 : decode cX5_insertListed 95 = .ok (.ireturn, 1) := by decide +kernel
theorem dX5_insertListed_96 : decode cX5_insertListed 96 = .ok (.aload_n 0, 1) := by decide +kernel
theorem dX5_insertListed_97 : decode cX5_insertListed 97 = .ok (.getfield 10, 3) := by decide +kernel
theorem dX5_insertListed_100 : decode cX5_insertListed 100 = .ok (.iload_n 3, 1) := by decide +kernel
theorem dX5_insertListed_101 : decode cX5_insertListed 101 = .ok (.invokevirtual 317, 3) := by decide +kernel
theorem dX5_insertListed_104 : decode cX5_insertListed 104 = .ok (.ifCond .ne 25, 3) := by decide +kernel
theorem dX5_insertListed_107 : decode cX5_insertListed 107 = .ok (.aload_n 0, 1) := by decide +kernel
theorem dX5_insertListed_108 : decode cX5_insertListed 108 = .ok (.getfield 21, 3) := by decide +kernel
theorem dX5_insertListed_111 : decode cX5_insertListed 111 = .ok (.iload_n 3, 1) := by decide +kernel
theorem dX5_insertListed_112 : decode cX5_insertListed 112 = .ok (.iload 4, 2) := by decide +kernel
theorem dX5_insertListed_114 : decode cX5_insertListed 114 = .ok (.aload_n 0, 1) := by decide +kernel
theorem dX5_insertListed_115 : decode cX5_insertListed 115 = .ok (.iconst 0, 1) := by decide +kernel
theorem dX5_insertListed_116 : decode cX5_insertListed 116 = .ok (.iconst 0, 1) := by decide +kernel
theorem dX5_insertListed_117 : decode cX5_insertListed 117 = .ok (.invokevirtual 122, 3) := by decide +kernel
theorem dX5_insertListed_120 : decode cX5_insertListed 120 = .ok (.invokevirtual 320, 3) := by decide +kernel
theorem dX5_insertListed_123 : decode cX5_insertListed 123 = .ok (.ifCond .eq 6, 3) := by decide +kernel
theorem dX5_insertListed_126 : decode cX5_insertListed 126 = .ok (.bipush 9, 2) := by decide +kernel
theorem dX5_insertListed_128 : decode cX5_insertListed 128 = .ok (.ireturn, 1) := by decide +kernel
theorem dX5_insertListed_129 : decode cX5_insertListed 129 = .ok (.aload_n 0, 1) := by decide +kernel
theorem dX5_insertListed_130 : decode cX5_insertListed 130 = .ok (.iload_n 2, 1) := by decide +kernel
theorem dX5_insertListed_131 : decode cX5_insertListed 131 = .ok (.invokevirtual 323, 3) := by decide +kernel
theorem dX5_insertListed_134 : decode cX5_insertListed 134 = .ok (.aload_n 0, 1) := by decide +kernel
theorem dX5_insertListed_135 : decode cX5_insertListed 135 = .ok (.aload_n 0, 1) := by decide +kernel
theorem dX5_insertListed_136 : decode cX5_insertListed 136 = .ok (.getfield 28, 3) := by decide +kernel
theorem dX5_insertListed_139 : decode cX5_insertListed 139 = .ok (.invokevirtual 107, 3) := by decide +kernel
theorem dX5_insertListed_142 : decode cX5_insertListed 142 = .ok (.iload_n 2, 1) := by decide +kernel
theorem dX5_insertListed_143 : decode cX5_insertListed 143 = .ok (.isub, 1) := by decide +kernel
theorem dX5_insertListed_144 : decode cX5_insertListed 144 = .ok (.invokevirtual 326, 3) := by decide +kernel
theorem dX5_insertListed_147 : decode cX5_insertListed 147 = .ok (.istore 5, 2) := by decide +kernel
theorem dX5_insertListed_149 : decode cX5_insertListed 149 = .ok (.iload 5, 2) := by decide +kernel
theorem dX5_insertListed_151 : decode cX5_insertListed 151 = .ok (.ifCond .ne 15, 3) := by decide +kernel
theorem dX5_insertListed_154 : decode cX5_insertListed 154 = .ok (.aload_n 0, 1) := by decide +kernel
theorem dX5_insertListed_155 : decode cX5_insertListed 155 = .ok (.invokevirtual 329, 3) := by decide +kernel
theorem dX5_insertListed_158 : decode cX5_insertListed 158 = .ok (.aload_n 0, 1) := by decide +kernel
theorem dX5_insertListed_159 : decode cX5_insertListed 159 = .ok (.aload_n 1, 1) := by decide +kernel
theorem dX5_insertListed_160 : decode cX5_insertListed 160 = .ok (.iload_n 2, 1) := by decide +kernel
theorem dX5_insertListed_161 : decode cX5_insertListed 161 = .ok (.iload 4, 2) := by decide +kernel
theorem dX5_insertListed_163 : decode cX5_insertListed 163 = .ok (.invokevirtual 332, 3) := by decide +kernel
theorem dX5_insertListed_166 : decode cX5_insertListed 166 = .ok (.iload 5, 2) := by decide +kernel
theorem dX5_insertListed_168 : decode cX5_insertListed 168 = .ok (.ireturn, 1) := by decide +kernel
theorem dX5_areNewOnesOrdered_0 : decode cX5_areNewOnesOrdered 0 = .ok (.iload_n 1, 1) := by decide +kernel
theorem dX5_areNewOnesOrdered_1 : decode cX5_areNewOnesOrdered 1 = .ok (.istore_n 2, 1) := by decide +kernel
theorem dX5_areNewOnesOrdered_2 : decode cX5_areNewOnesOrdered 2 = .ok (.iload_n 2, 1) := by decide +kernel
theorem dX5_areNewOnesOrdered_3 : decode cX5_areNewOnesOrdered 3 = .ok (.aload_n 0, 1) := by decide +kernel
theorem dX5_areNewOnesOrdered_4 : decode cX5_areNewOnesOrdered 4 = .ok (.getfield 28, 3) := by decide +kernel
theorem dX5_areNewOnesOrdered_7 : decode cX5_areNewOnesOrdered 7 = .ok (.invokevirtual 107, 3) := by decide +kernel
theorem dX5_areNewOnesOrdered_10 : decode cX5_areNewOnesOrdered 10 = .ok (.if_icmp .ge 56, 3) := by decide +kernel
theorem dX5_areNewOnesOrdered_13 : decode cX5_areNewOnesOrdered 13 = .ok (.aload_n 0, 1) := by decide +kernel
theorem dX5_areNewOnesOrdered_14 : decode cX5_areNewOnesOrdered 14 = .ok (.getfield 28, 3) := by decide +kernel
theorem dX5_areNewOnesOrdered_17 : decode cX5_areNewOnesOrdered 17 = .ok (.iload_n 2, 1) := by decide +kernel
theorem dX5_areNewOnesOrdered_18 : decode cX5_areNewOnesOrdered 18 = .ok (.invokevirtual 112, 3) := by decide +kernel
theorem dX5_areNewOnesOrdered_21 : decode cX5_areNewOnesOrdered 21 = .ok (.ifCond .le 5, 3) := by decide +kernel
theorem dX5_areNewOnesOrdered_24 : decode cX5_areNewOnesOrdered 24 = .ok (.iconst 0, 1) := by decide +kernel
theorem dX5_areNewOnesOrdered_25 : decode cX5_areNewOnesOrdered 25 = .ok (.ireturn, 1) := by decide +kernel
theorem dX5_areNewOnesOrdered_26 : decode cX5_areNewOnesOrdered 26 = .ok (.iload_n 2, 1) := by decide +kernel
theorem dX5_areNewOnesOrdered_27 : decode cX5_areNewOnesOrdered 27 = .ok (.ifCond .le 33, 3) := by decide +kernel
theorem dX5_areNewOnesOrdered_30 : decode cX5_areNewOnesOrdered 30 = .ok (.aload_n 0, 1) := by decide +kernel
theorem dX5_areNewOnesOrdered_31 : decode cX5_areNewOnesOrdered 31 = .ok (.getfield 10, 3) := by decide +kernel
theorem dX5_areNewOnesOrdered_34 : decode cX5_areNewOnesOrdered 34 = .ok (.aload_n 0, 1) := by decide +kernel
theorem dX5_areNewOnesOrdered_35 : decode cX5_areNewOnesOrdered 35 = .ok (.getfield 28, 3) := by decide +kernel
theorem dX5_areNewOnesOrdered_38 : decode cX5_areNewOnesOrdered 38 = .ok (.iload_n 2, 1) := by decide +kernel
theorem dX5_areNewOnesOrdered_39 : decode cX5_areNewOnesOrdered 39 = .ok (.invokevirtual 249, 3) := by decide +kernel
theorem dX5_areNewOnesOrdered_42 : decode cX5_areNewOnesOrdered 42 = .ok (.invokevirtual 316, 3) := by decide +kernel
theorem dX5_areNewOnesOrdered_45 : decode cX5_areNewOnesOrdered 45 = .ok (.aload_n 0, 1) := by decide +kernel
theorem dX5_areNewOnesOrdered_46 : decode cX5_areNewOnesOrdered 46 = .ok (.getfield 28, 3) := by decide +kernel
theorem dX5_areNewOnesOrdered_49 : decode cX5_areNewOnesOrdered 49 = .ok (.iload_n 2, 1) := by decide +kernel
theorem dX5_areNewOnesOrdered_50 : decode cX5_areNewOnesOrdered 50 = .ok (.iconst 1, 1) := by decide +kernel
theorem dX5_areNewOnesOrdered_51 : decode cX5_areNewOnesOrdered 51 = .ok (.isub, 1) := by decide +kernel
theorem dX5_areNewOnesOrdered_52 : decode cX5_areNewOnesOrdered 52 = .ok (.invokevirtual 249, 3) := by decide +kernel
theorem dX5_areNewOnesOrdered_55 : decode cX5_areNewOnesOrdered 55 = .ok (.if_icmp .eq 5, 3) := by decide +kernel
theorem dX5_areNewOnesOrdered_58 : decode cX5_areNewOnesOrdered 58 = .ok (.iconst 0, 1) := by decide +kernel
theorem dX5_areNewOnesOrdered_59 : decode cX5_areNewOnesOrdered 59 = .ok (.ireturn, 1) := by decide +kernel
theorem dX5_areNewOnesOrdered_60 : decode cX5_areNewOnesOrdered 60 = .ok (.iinc 2 1, 3) := by decide +kernel
theorem dX5_areNewOnesOrdered_63 : decode cX5_areNewOnesOrdered 63 = .ok (.goto (-61), 3) := by decide +kernel
theorem dX5_areNewOnesOrdered_66 : decode cX5_areNewOnesOrdered 66 = .ok (.iconst 1, 1) := by decide +kernel
theorem dX5_areNewOnesOrdered_67 : decode cX5_areNewOnesOrdered 67 = .ok (.ireturn, 1) := by decide +kernel
theorem dX5_gatherNeedsOfNew_0 : decode cX5_gatherNeedsOfNew 0 = .ok (.aload_n 0, 1) := by decide +kernel
theorem dX5_gatherNeedsOfNew_1 : decode cX5_gatherNeedsOfNew 1 = .ok (.getfield 35, 3) := by decide +kernel
theorem dX5_gatherNeedsOfNew_4 : decode cX5_gatherNeedsOfNew 4 = .ok (.invokevirtual 336, 3) := by decide +kernel
theorem dX5_gatherNeedsOfNew_7 : decode cX5_gatherNeedsOfNew 7 = .ok (.iload_n 1, 1) := by decide +kernel
theorem dX5_gatherNeedsOfNew_8 : decode cX5_gatherNeedsOfNew 8 = .ok (.istore_n 2, 1) := by decide +kernel
theorem dX5_gatherNeedsOfNew_9 : decode cX5_gatherNeedsOfNew 9 = .ok (.iload_n 2, 1) := by decide +kernel
theorem dX5_gatherNeedsOfNew_10 : decode cX5_gatherNeedsOfNew 10 = .ok (.aload_n 0, 1) := by decide +kernel
theorem dX5_gatherNeedsOfNew_11 : decode cX5_gatherNeedsOfNew 11 = .ok (.getfield 28, 3) := by decide +kernel
theorem dX5_gatherNeedsOfNew_14 : decode cX5_gatherNeedsOfNew 14 = .ok (.invokevirtual 107, 3) := by decide +kernel
theorem dX5_gatherNeedsOfNew_17 : decode cX5_gatherNeedsOfNew 17 = .ok (.if_icmp .ge 77, 3) := by decide +kernel
theorem dX5_gatherNeedsOfNew_20 : decode cX5_gatherNeedsOfNew 20 = .ok (.aload_n 0, 1) := by decide +kernel
theorem dX5_gatherNeedsOfNew_21 : decode cX5_gatherNeedsOfNew 21 = .ok (.getfield 28, 3) := by decide +kernel
theorem dX5_gatherNeedsOfNew_24 : decode cX5_gatherNeedsOfNew 24 = .ok (.iload_n 2, 1) := by decide +kernel
theorem dX5_gatherNeedsOfNew_25 : decode cX5_gatherNeedsOfNew 25 = .ok (.invokevirtual 249, 3) := by decide +kernel
theorem dX5_gatherNeedsOfNew_28 : decode cX5_gatherNeedsOfNew 28 = .ok (.istore_n 3, 1) := by decide +kernel
theorem dX5_gatherNeedsOfNew_29 : decode cX5_gatherNeedsOfNew 29 = .ok (.aload_n 0, 1) := by decide +kernel
theorem dX5_gatherNeedsOfNew_30 : decode cX5_gatherNeedsOfNew 30 = .ok (.iload_n 2, 1) := by decide +kernel
theorem dX5_gatherNeedsOfNew_31 : decode cX5_gatherNeedsOfNew 31 = .ok (.iload_n 1, 1) := by decide +kernel
theorem dX5_gatherNeedsOfNew_32 : decode cX5_gatherNeedsOfNew 32 = .ok (.isub, 1) := by decide +kernel
theorem dX5_gatherNeedsOfNew_33 : decode cX5_gatherNeedsOfNew 33 = .ok (.iconst 2, 1) := by decide +kernel
theorem dX5_gatherNeedsOfNew_34 : decode cX5_gatherNeedsOfNew 34 = .ok (.invokevirtual 122, 3) := by decide +kernel
theorem dX5_gatherNeedsOfNew_37 : decode cX5_gatherNeedsOfNew 37 = .ok (.istore 4, 2) := by decide +kernel
theorem dX5_gatherNeedsOfNew_39 : decode cX5_gatherNeedsOfNew 39 = .ok (.aload_n 0, 1) := by decide +kernel
theorem dX5_gatherNeedsOfNew_40 : decode cX5_gatherNeedsOfNew 40 = .ok (.getfield 10, 3) := by decide +kernel
theorem dX5_gatherNeedsOfNew_43 : decode cX5_gatherNeedsOfNew 43 = .ok (.iload_n 3, 1) := by decide +kernel
theorem dX5_gatherNeedsOfNew_44 : decode cX5_gatherNeedsOfNew 44 = .ok (.invokevirtual 92, 3) := by decide +kernel
theorem dX5_gatherNeedsOfNew_47 : decode cX5_gatherNeedsOfNew 47 = .ok (.aload_n 0, 1) := by decide +kernel
theorem dX5_gatherNeedsOfNew_48 : decode cX5_gatherNeedsOfNew 48 = .ok (.getfield 28, 3) := by decide +kernel
theorem dX5_gatherNeedsOfNew_51 : decode cX5_gatherNeedsOfNew 51 = .ok (.iload_n 1, 1) := by decide +kernel
theorem dX5_gatherNeedsOfNew_52 : decode cX5_gatherNeedsOfNew 52 = .ok (.invokevirtual 249, 3) := by decide +kernel
theorem dX5_gatherNeedsOfNew_55 : decode cX5_gatherNeedsOfNew 55 = .ok (.if_icmp .ne 18, 3) := by decide +kernel
theorem dX5_gatherNeedsOfNew_58 : decode cX5_gatherNeedsOfNew 58 = .ok (.iload 4, 2) := by decide +kernel
theorem dX5_gatherNeedsOfNew_60 : decode cX5_gatherNeedsOfNew 60 = .ok (.aload_n 0, 1) := by decide +kernel
theorem dX5_gatherNeedsOfNew_61 : decode cX5_gatherNeedsOfNew 61 = .ok (.iconst 0, 1) := by decide +kernel
theorem dX5_gatherNeedsOfNew_62 : decode cX5_gatherNeedsOfNew 62 = .ok (.iconst 0, 1) := by decide +kernel
theorem dX5_gatherNeedsOfNew_63 : decode cX5_gatherNeedsOfNew 63 = .ok (.invokevirtual 122, 3) := by decide +kernel
theorem dX5_gatherNeedsOfNew_66 : decode cX5_gatherNeedsOfNew 66 = .ok (.if_icmp .ne 7, 3) := by decide +kernel
theorem dX5_gatherNeedsOfNew_69 : decode cX5_gatherNeedsOfNew 69 = .ok (.iconst 1, 1) := by decide +kernel
theorem dX5_gatherNeedsOfNew_70 : decode cX5_gatherNeedsOfNew 70 = .ok (.goto 4, 3) := by decide +kernel
theorem dX5_gatherNeedsOfNew_73 : decode cX5_gatherNeedsOfNew 73 = .ok (.iconst 0, 1) := by decide +kernel
theorem dX5_gatherNeedsOfNew_74 : decode cX5_gatherNeedsOfNew 74 = .ok (.istore 5, 2) := by decide +kernel
theorem dX5_gatherNeedsOfNew_76 : decode cX5_gatherNeedsOfNew 76 = .ok (.iload 5, 2) := by decide +kernel
theorem dX5_gatherNeedsOfNew_78 : decode cX5_gatherNeedsOfNew 78 = .ok (.ifCond .ne 10, 3) := by decide +kernel
theorem dX5_gatherNeedsOfNew_81 : decode cX5_gatherNeedsOfNew 81 = .ok (.aload_n 0, 1) := by decide +kernel
theorem dX5_gatherNeedsOfNew_82 : decode cX5_gatherNeedsOfNew 82 = .ok (.iload_n 3, 1) := by decide +kernel
theorem dX5_gatherNeedsOfNew_83 : decode cX5_gatherNeedsOfNew 83 = .ok (.iload 4, 2) := by decide +kernel
theorem dX5_gatherNeedsOfNew_85 : decode cX5_gatherNeedsOfNew 85 = .ok (.invokevirtual 339, 3) := by decide +kernel
theorem dX5_gatherNeedsOfNew_88 : decode cX5_gatherNeedsOfNew 88 = .ok (.iinc 2 1, 3) := by decide +kernel
theorem dX5_gatherNeedsOfNew_91 : decode cX5_gatherNeedsOfNew 91 = .ok (.goto (-82), 3) := by decide +kernel
theorem dX5_gatherNeedsOfNew_94 : decode cX5_gatherNeedsOfNew 94 = .ok (.return_, 1) := by decide +kernel
theorem dX5_insertNew_0 : decode cX5_insertNew 0 = .ok (.iload_n 3, 1) := by decide +kernel
theorem dX5_insertNew_1 : decode cX5_insertNew 1 = .ok (.istore 4, 2) := by decide +kernel
theorem dX5_insertNew_3 : decode cX5_insertNew 3 = .ok (.iload_n 2, 1) := by decide +kernel
theorem dX5_insertNew_4 : decode cX5_insertNew 4 = .ok (.istore 5, 2) := by decide +kernel
theorem dX5_insertNew_6 : decode cX5_insertNew 6 = .ok (.iload 5, 2) := by decide +kernel
theorem dX5_insertNew_8 : decode cX5_insertNew 8 = .ok (.aload_n 0, 1) := by decide +kernel
theorem dX5_insertNew_9 : decode cX5_insertNew 9 = .ok (.getfield 28, 3) := by decide +kernel
theorem dX5_insertNew_12 : decode cX5_insertNew 12 = .ok (.invokevirtual 107, 3) := by decide +kernel
theorem dX5_insertNew_15 : decode cX5_insertNew 15 = .ok (.if_icmp .ge 53, 3) := by decide +kernel
theorem dX5_insertNew_18 : decode cX5_insertNew 18 = .ok (.aload_n 0, 1) := by decide +kernel
theorem dX5_insertNew_19 : decode cX5_insertNew 19 = .ok (.aload_n 0, 1) := by decide +kernel
theorem dX5_insertNew_20 : decode cX5_insertNew 20 = .ok (.getfield 28, 3) := by decide +kernel
theorem dX5_insertNew_23 : decode cX5_insertNew 23 = .ok (.iload 5, 2) := by decide +kernel
theorem dX5_insertNew_25 : decode cX5_insertNew 25 = .ok (.invokevirtual 249, 3) := by decide +kernel
theorem dX5_insertNew_28 : decode cX5_insertNew 28 = .ok (.iload 4, 2) := by decide +kernel
theorem dX5_insertNew_30 : decode cX5_insertNew 30 = .ok (.aload_n 0, 1) := by decide +kernel
theorem dX5_insertNew_31 : decode cX5_insertNew 31 = .ok (.iload 5, 2) := by decide +kernel
theorem dX5_insertNew_33 : decode cX5_insertNew 33 = .ok (.iload_n 2, 1) := by decide +kernel
theorem dX5_insertNew_34 : decode cX5_insertNew 34 = .ok (.isub, 1) := by decide +kernel
theorem dX5_insertNew_35 : decode cX5_insertNew 35 = .ok (.iconst 0, 1) := by decide +kernel
theorem dX5_insertNew_36 : decode cX5_insertNew 36 = .ok (.invokevirtual 122, 3) := by decide +kernel
theorem dX5_insertNew_39 : decode cX5_insertNew 39 = .ok (.aload_n 1, 1) := by decide +kernel
theorem dX5_insertNew_40 : decode cX5_insertNew 40 = .ok (.invokevirtual 165, 3) := by decide +kernel
theorem dX5_insertNew_43 : decode cX5_insertNew 43 = .ok (.invokevirtual 342, 3) := by decide +kernel
theorem dX5_insertNew_46 : decode cX5_insertNew 46 = .ok (.istore 6, 2) := by decide +kernel
theorem dX5_insertNew_48 : decode cX5_insertNew 48 = .ok (.aload_n 0, 1) := by decide +kernel
theorem dX5_insertNew_49 : decode cX5_insertNew 49 = .ok (.iload 6, 2) := by decide +kernel
theorem dX5_insertNew_51 : decode cX5_insertNew 51 = .ok (.iload 5, 2) := by decide +kernel
theorem dX5_insertNew_53 : decode cX5_insertNew 53 = .ok (.iload_n 2, 1) := by decide +kernel
theorem dX5_insertNew_54 : decode cX5_insertNew 54 = .ok (.isub, 1) := by decide +kernel
theorem dX5_insertNew_55 : decode cX5_insertNew 55 = .ok (.invokevirtual 345, 3) := by decide +kernel
theorem dX5_insertNew_58 : decode cX5_insertNew 58 = .ok (.iload 6, 2) := by decide +kernel
theorem dX5_insertNew_60 : decode cX5_insertNew 60 = .ok (.istore 4, 2) := by decide +kernel
theorem dX5_insertNew_62 : decode cX5_insertNew 62 = .ok (.iinc 5 1, 3) := by decide +kernel
theorem dX5_insertNew_65 : decode cX5_insertNew 65 = .ok (.goto (-59), 3) := by decide +kernel
theorem dX5_insertNew_68 : decode cX5_insertNew 68 = .ok (.aload_n 1, 1) := by decide +kernel
theorem dX5_insertNew_69 : decode cX5_insertNew 69 = .ok (.iload 4, 2) := by decide +kernel
theorem dX5_insertNew_71 : decode cX5_insertNew 71 = .ok (.invokevirtual 246, 3) := by decide +kernel
theorem dX5_insertNew_74 : decode cX5_insertNew 74 = .ok (.aload_n 1, 1) := by decide +kernel
theorem dX5_insertNew_75 : decode cX5_insertNew 75 = .ok (.iload 4, 2) := by decide +kernel
theorem dX5_insertNew_77 : decode cX5_insertNew 77 = .ok (.invokevirtual 242, 3) := by decide +kernel
theorem dX5_insertNew_80 : decode cX5_insertNew 80 = .ok (.return_, 1) := by decide +kernel
theorem dX5_addSegment_0 : decode cX5_addSegment 0 = .ok (.aload_n 0, 1) := by decide +kernel
theorem dX5_addSegment_1 : decode cX5_addSegment 1 = .ok (.getfield 21, 3) := by decide +kernel
theorem dX5_addSegment_4 : decode cX5_addSegment 4 = .ok (.iload_n 1, 1) := by decide +kernel
theorem dX5_addSegment_5 : decode cX5_addSegment 5 = .ok (.iload_n 2, 1) := by decide +kernel
theorem dX5_addSegment_6 : decode cX5_addSegment 6 = .ok (.aload_n 0, 1) := by decide +kernel
theorem dX5_addSegment_7 : decode cX5_addSegment 7 = .ok (.iload_n 1, 1) := by decide +kernel
theorem dX5_addSegment_8 : decode cX5_addSegment 8 = .ok (.iload_n 2, 1) := by decide +kernel
theorem dX5_addSegment_9 : decode cX5_addSegment 9 = .ok (.iload_n 3, 1) := by decide +kernel
theorem dX5_addSegment_10 : decode cX5_addSegment 10 = .ok (.iload 4, 2) := by decide +kernel
theorem dX5_addSegment_12 : decode cX5_addSegment 12 = .ok (.invokevirtual 348, 3) := by decide +kernel
theorem dX5_addSegment_15 : decode cX5_addSegment 15 = .ok (.invokevirtual 351, 3) := by decide +kernel
theorem dX5_addSegment_18 : decode cX5_addSegment 18 = .ok (.istore 5, 2) := by decide +kernel
theorem dX5_addSegment_20 : decode cX5_addSegment 20 = .ok (.aload_n 0, 1) := by decide +kernel
theorem dX5_addSegment_21 : decode cX5_addSegment 21 = .ok (.getfield 21, 3) := by decide +kernel
theorem dX5_addSegment_24 : decode cX5_addSegment 24 = .ok (.iload 5, 2) := by decide +kernel
theorem dX5_addSegment_26 : decode cX5_addSegment 26 = .ok (.iconst 0, 1) := by decide +kernel
theorem dX5_addSegment_27 : decode cX5_addSegment 27 = .ok (.iload_n 3, 1) := by decide +kernel
theorem dX5_addSegment_28 : decode cX5_addSegment 28 = .ok (.invokevirtual 214, 3) := by decide +kernel
theorem dX5_addSegment_31 : decode cX5_addSegment 31 = .ok (.iload 5, 2) := by decide +kernel
theorem dX5_addSegment_33 : decode cX5_addSegment 33 = .ok (.ireturn, 1) := by decide +kernel
theorem dX5_twinBehindNew_0 : decode cX5_twinBehindNew 0 = .ok (.aload_n 0, 1) := by decide +kernel
theorem dX5_twinBehindNew_1 : decode cX5_twinBehindNew 1 = .ok (.getfield 10, 3) := by decide +kernel
theorem dX5_twinBehindNew_4 : decode cX5_twinBehindNew 4 = .ok (.iload_n 1, 1) := by decide +kernel
theorem dX5_twinBehindNew_5 : decode cX5_twinBehindNew 5 = .ok (.invokevirtual 317, 3) := by decide +kernel
theorem dX5_twinBehindNew_8 : decode cX5_twinBehindNew 8 = .ok (.iconst 2, 1) := by decide +kernel
theorem dX5_twinBehindNew_9 : decode cX5_twinBehindNew 9 = .ok (.if_icmp .eq 7, 3) := by decide +kernel
theorem dX5_twinBehindNew_12 : decode cX5_twinBehindNew 12 = .ok (.iconst 1, 1) := by decide +kernel
theorem dX5_twinBehindNew_13 : decode cX5_twinBehindNew 13 = .ok (.goto 4, 3) := by decide +kernel
theorem dX5_twinBehindNew_16 : decode cX5_twinBehindNew 16 = .ok (.iconst 0, 1) := by decide +kernel
theorem dX5_twinBehindNew_17 : decode cX5_twinBehindNew 17 = .ok (.istore 5, 2) := by decide +kernel
theorem dX5_twinBehindNew_19 : decode cX5_twinBehindNew 19 = .ok (.aload_n 0, 1) := by decide +kernel
theorem dX5_twinBehindNew_20 : decode cX5_twinBehindNew 20 = .ok (.getfield 10, 3) := by decide +kernel
theorem dX5_twinBehindNew_23 : decode cX5_twinBehindNew 23 = .ok (.iload_n 1, 1) := by decide +kernel
theorem dX5_twinBehindNew_24 : decode cX5_twinBehindNew 24 = .ok (.invokevirtual 355, 3) := by decide +kernel
theorem dX5_twinBehindNew_27 : decode cX5_twinBehindNew 27 = .ok (.istore 6, 2) := by decide +kernel
theorem dX5_twinBehindNew_29 : decode cX5_twinBehindNew 29 = .ok (.iload 6, 2) := by decide +kernel
theorem dX5_twinBehindNew_31 : decode cX5_twinBehindNew 31 = .ok (.iconst 2, 1) := by decide +kernel
theorem dX5_twinBehindNew_32 : decode cX5_twinBehindNew 32 = .ok (.if_icmp .ne 39, 3) := by decide +kernel
theorem dX5_twinBehindNew_35 : decode cX5_twinBehindNew 35 = .ok (.aload_n 0, 1) := by decide +kernel
theorem dX5_twinBehindNew_36 : decode cX5_twinBehindNew 36 = .ok (.getfield 21, 3) := by decide +kernel
theorem dX5_twinBehindNew_39 : decode cX5_twinBehindNew 39 = .ok (.iload 4, 2) := by decide +kernel
theorem dX5_twinBehindNew_41 : decode cX5_twinBehindNew 41 = .ok (.iload_n 1, 1) := by decide +kernel
theorem dX5_twinBehindNew_42 : decode cX5_twinBehindNew 42 = .ok (.iload_n 2, 1) := by decide +kernel
theorem dX5_twinBehindNew_43 : decode cX5_twinBehindNew 43 = .ok (.invokevirtual 306, 3) := by decide +kernel
theorem dX5_twinBehindNew_46 : decode cX5_twinBehindNew 46 = .ok (.ifCond .eq 25, 3) := by decide +kernel
theorem dX5_twinBehindNew_49 : decode cX5_twinBehindNew 49 = .ok (.iload 5, 2) := by decide +kernel
theorem dX5_twinBehindNew_51 : decode cX5_twinBehindNew 51 = .ok (.ifCond .eq 17, 3) := by decide +kernel
theorem dX5_twinBehindNew_54 : decode cX5_twinBehindNew 54 = .ok (.aload_n 0, 1) := by decide +kernel
theorem dX5_twinBehindNew_55 : decode cX5_twinBehindNew 55 = .ok (.getfield 21, 3) := by decide +kernel
theorem dX5_twinBehindNew_58 : decode cX5_twinBehindNew 58 = .ok (.iload 4, 2) := by decide +kernel
theorem dX5_twinBehindNew_60 : decode cX5_twinBehindNew 60 = .ok (.iconst 0, 1) := by decide +kernel
theorem dX5_twinBehindNew_61 : decode cX5_twinBehindNew 61 = .ok (.invokevirtual 162, 3) := by decide +kernel
theorem dX5_twinBehindNew_64 : decode cX5_twinBehindNew 64 = .ok (.iload_n 3, 1) := by decide +kernel
theorem dX5_twinBehindNew_65 : decode cX5_twinBehindNew 65 = .ok (.if_icmp .ne 6, 3) := by decide +kernel
theorem dX5_twinBehindNew_68 : decode cX5_twinBehindNew 68 = .ok (.iload 4, 2) := by decide +kernel
theorem dX5_twinBehindNew_70 : decode cX5_twinBehindNew 70 = .ok (.ireturn, 1) := by decide +kernel
theorem dX5_twinBehindNew_71 : decode cX5_twinBehindNew 71 = .ok (.iload 6, 2) := by decide +kernel
theorem dX5_twinBehindNew_73 : decode cX5_twinBehindNew 73 = .ok (.iconst 1, 1) := by decide +kernel
theorem dX5_twinBehindNew_74 : decode cX5_twinBehindNew 74 = .ok (.if_icmp .ne 10, 3) := by decide +kernel
theorem dX5_twinBehindNew_77 : decode cX5_twinBehindNew 77 = .ok (.iload 5, 2) := by decide +kernel
theorem dX5_twinBehindNew_79 : decode cX5_twinBehindNew 79 = .ok (.ifCond .ne 5, 3) := by decide +kernel
theorem dX5_twinBehindNew_82 : decode cX5_twinBehindNew 82 = .ok (.iconst (-1), 1) := by decide +kernel
theorem dX5_twinBehindNew_83 : decode cX5_twinBehindNew 83 = .ok (.ireturn, 1) := by decide +kernel
theorem dX5_twinBehindNew_84 : decode cX5_twinBehindNew 84 = .ok (.iload 5, 2) := by decide +kernel
theorem dX5_twinBehindNew_86 : decode cX5_twinBehindNew 86 = .ok (.ifCond .ne 7, 3) := by decide +kernel
theorem dX5_twinBehindNew_89 : decode cX5_twinBehindNew 89 = .ok (.iconst 0, 1) := by decide +kernel
theorem dX5_twinBehindNew_90 : decode cX5_twinBehindNew 90 = .ok (.goto 16, 3) := by decide +kernel
theorem dX5_twinBehindNew_93 : decode cX5_twinBehindNew 93 = .ok (.iload 6, 2) := by decide +kernel
theorem dX5_twinBehindNew_95 : decode cX5_twinBehindNew 95 = .ok (.iconst 1, 1) := by decide +kernel
theorem dX5_twinBehindNew_96 : decode cX5_twinBehindNew 96 = .ok (.if_icmp .ne 9, 3) := by decide +kernel
theorem dX5_twinBehindNew_99 : decode cX5_twinBehindNew 99 = .ok (.iload_n 3, 1) := by decide +kernel
theorem dX5_twinBehindNew_100 : decode cX5_twinBehindNew 100 = .ok (.iconst 1, 1) := by decide +kernel
theorem dX5_twinBehindNew_101 : decode cX5_twinBehindNew 101 = .ok (.iadd, 1) := by decide +kernel
theorem dX5_twinBehindNew_102 : decode cX5_twinBehindNew 102 = .ok (.goto 4, 3) := by decide +kernel
theorem dX5_twinBehindNew_105 : decode cX5_twinBehindNew 105 = .ok (.iload_n 3, 1) := by decide +kernel
theorem dX5_twinBehindNew_106 : decode cX5_twinBehindNew 106 = .ok (.istore 7, 2) := by decide +kernel
theorem dX5_twinBehindNew_108 : decode cX5_twinBehindNew 108 = .ok (.aload_n 0, 1) := by decide +kernel
theorem dX5_twinBehindNew_109 : decode cX5_twinBehindNew 109 = .ok (.getfield 10, 3) := by decide +kernel
theorem dX5_twinBehindNew_112 : decode cX5_twinBehindNew 112 = .ok (.iload_n 1, 1) := by decide +kernel
theorem dX5_twinBehindNew_113 : decode cX5_twinBehindNew 113 = .ok (.invokevirtual 62, 3) := by decide +kernel
theorem dX5_twinBehindNew_116 : decode cX5_twinBehindNew 116 = .ok (.istore 8, 2) := by decide +kernel
theorem dX5_twinBehindNew_118 : decode cX5_twinBehindNew 118 = .ok (.iconst 0, 1) := by decide +kernel
theorem dX5_twinBehindNew_119 : decode cX5_twinBehindNew 119 = .ok (.istore 9, 2) := by decide +kernel
theorem dX5_twinBehindNew_121 : decode cX5_twinBehindNew 121 = .ok (.iload 9, 2) := by decide +kernel
theorem dX5_twinBehindNew_123 : decode cX5_twinBehindNew 123 = .ok (.aload_n 0, 1) := by decide +kernel
theorem dX5_twinBehindNew_124 : decode cX5_twinBehindNew 124 = .ok (.getfield 21, 3) := by decide +kernel
theorem dX5_twinBehindNew_127 : decode cX5_twinBehindNew 127 = .ok (.iload 8, 2) := by decide +kernel
theorem dX5_twinBehindNew_129 : decode cX5_twinBehindNew 129 = .ok (.invokevirtual 69, 3) := by decide +kernel
theorem dX5_twinBehindNew_132 : decode cX5_twinBehindNew 132 = .ok (.if_icmp .ge 54, 3) := by decide +kernel
theorem dX5_twinBehindNew_135 : decode cX5_twinBehindNew 135 = .ok (.aload_n 0, 1) := by decide +kernel
theorem dX5_twinBehindNew_136 : decode cX5_twinBehindNew 136 = .ok (.getfield 21, 3) := by decide +kernel
theorem dX5_twinBehindNew_139 : decode cX5_twinBehindNew 139 = .ok (.iload 8, 2) := by decide +kernel
theorem dX5_twinBehindNew_141 : decode cX5_twinBehindNew 141 = .ok (.iload 9, 2) := by decide +kernel
theorem dX5_twinBehindNew_143 : decode cX5_twinBehindNew 143 = .ok (.invokevirtual 152, 3) := by decide +kernel
theorem dX5_twinBehindNew_146 : decode cX5_twinBehindNew 146 = .ok (.istore 10, 2) := by decide +kernel
theorem dX5_twinBehindNew_148 : decode cX5_twinBehindNew 148 = .ok (.aload_n 0, 1) := by decide +kernel
theorem dX5_twinBehindNew_149 : decode cX5_twinBehindNew 149 = .ok (.getfield 21, 3) := by decide +kernel
theorem dX5_twinBehindNew_152 : decode cX5_twinBehindNew 152 = .ok (.iload 10, 2) := by decide +kernel
theorem dX5_twinBehindNew_154 : decode cX5_twinBehindNew 154 = .ok (.iload_n 1, 1) := by decide +kernel
theorem dX5_twinBehindNew_155 : decode cX5_twinBehindNew 155 = .ok (.iload_n 2, 1) := by decide +kernel
theorem dX5_twinBehindNew_156 : decode cX5_twinBehindNew 156 = .ok (.invokevirtual 306, 3) := by decide +kernel
theorem dX5_twinBehindNew_159 : decode cX5_twinBehindNew 159 = .ok (.ifCond .eq 21, 3) := by decide +kernel
theorem dX5_twinBehindNew_162 : decode cX5_twinBehindNew 162 = .ok (.aload_n 0, 1) := by decide +kernel
theorem dX5_twinBehindNew_163 : decode cX5_twinBehindNew 163 = .ok (.getfield 21, 3) := by decide +kernel
theorem dX5_twinBehindNew_166 : decode cX5_twinBehindNew 166 = .ok (.iload 10, 2) := by decide +kernel
theorem dX5_twinBehindNew_168 : decode cX5_twinBehindNew 168 = .ok (.iconst 0, 1) := by decide +kernel
theorem dX5_twinBehindNew_169 : decode cX5_twinBehindNew 169 = .ok (.invokevirtual 162, 3) := by decide +kernel
theorem dX5_twinBehindNew_172 : decode cX5_twinBehindNew 172 = .ok (.iload 7, 2) := by decide +kernel
theorem dX5_twinBehindNew_174 : decode cX5_twinBehindNew 174 = .ok (.if_icmp .lt 6, 3) := by decide +kernel
theorem dX5_twinBehindNew_177 : decode cX5_twinBehindNew 177 = .ok (.iload 10, 2) := by decide +kernel
theorem dX5_twinBehindNew_179 : decode cX5_twinBehindNew 179 = .ok (.ireturn, 1) := by decide +kernel
theorem dX5_twinBehindNew_180 : decode cX5_twinBehindNew 180 = .ok (.iinc 9 1, 3) := by decide +kernel
theorem dX5_twinBehindNew_183 : decode cX5_twinBehindNew 183 = .ok (.goto (-62), 3) := by decide +kernel
theorem dX5_twinBehindNew_186 : decode cX5_twinBehindNew 186 = .ok (.iconst (-1), 1) := by decide +kernel
theorem dX5_twinBehindNew_187 : decode cX5_twinBehindNew 187 = .ok (.ireturn, 1) := by decide +kernel
theorem dX5_needRoot_0 : decode cX5_needRoot 0 = .ok (.aload_n 0, 1) := by decide +kernel
theorem dX5_needRoot_1 : decode cX5_needRoot 1 = .ok (.getfield 10, 3) := by decide +kernel
theorem dX5_needRoot_4 : decode cX5_needRoot 4 = .ok (.iload_n 1, 1) := by decide +kernel
theorem dX5_needRoot_5 : decode cX5_needRoot 5 = .ok (.invokevirtual 92, 3) := by decide +kernel
theorem dX5_needRoot_8 : decode cX5_needRoot 8 = .ok (.istore_n 3, 1) := by decide +kernel
theorem dX5_needRoot_9 : decode cX5_needRoot 9 = .ok (.iload_n 3, 1) := by decide +kernel
theorem dX5_needRoot_10 : decode cX5_needRoot 10 = .ok (.iconst (-1), 1) := by decide +kernel
theorem dX5_needRoot_11 : decode cX5_needRoot 11 = .ok (.if_icmp .eq 16, 3) := by decide +kernel
theorem dX5_needRoot_14 : decode cX5_needRoot 14 = .ok (.aload_n 0, 1) := by decide +kernel
theorem dX5_needRoot_15 : decode cX5_needRoot 15 = .ok (.getfield 21, 3) := by decide +kernel
theorem dX5_needRoot_18 : decode cX5_needRoot 18 = .ok (.iload_n 3, 1) := by decide +kernel
theorem dX5_needRoot_19 : decode cX5_needRoot 19 = .ok (.iload_n 2, 1) := by decide +kernel
theorem dX5_needRoot_20 : decode cX5_needRoot 20 = .ok (.invokevirtual 189, 3) := by decide +kernel
theorem dX5_needRoot_23 : decode cX5_needRoot 23 = .ok (.iconst (-1), 1) := by decide +kernel
theorem dX5_needRoot_24 : decode cX5_needRoot 24 = .ok (.if_icmp .eq 4, 3) := by decide +kernel
theorem dX5_needRoot_27 : decode cX5_needRoot 27 = .ok (.return_, 1) := by decide +kernel
theorem dX5_needRoot_28 : decode cX5_needRoot 28 = .ok (.aload_n 0, 1) := by decide +kernel
theorem dX5_needRoot_29 : decode cX5_needRoot 29 = .ok (.getfield 10, 3) := by decide +kernel
theorem dX5_needRoot_32 : decode cX5_needRoot 32 = .ok (.iload_n 1, 1) := by decide +kernel
theorem dX5_needRoot_33 : decode cX5_needRoot 33 = .ok (.invokevirtual 358, 3) := by decide +kernel
theorem dX5_needRoot_36 : decode cX5_needRoot 36 = .ok (.ifCond .ne 13, 3) := by decide +kernel
theorem dX5_needRoot_39 : decode cX5_needRoot 39 = .ok (.aload_n 0, 1) := by decide +kernel
theorem dX5_needRoot_40 : decode cX5_needRoot 40 = .ok (.getfield 35, 3) := by decide +kernel
theorem dX5_needRoot_43 : decode cX5_needRoot 43 = .ok (.invokevirtual 361, 3) := by decide +kernel
theorem dX5_needRoot_46 : decode cX5_needRoot 46 = .ok (.goto 12, 3) := by decide +kernel
theorem dX5_needRoot_49 : decode cX5_needRoot 49 = .ok (.aload_n 0, 1) := by decide +kernel
theorem dX5_needRoot_50 : decode cX5_needRoot 50 = .ok (.getfield 35, 3) := by decide +kernel
theorem dX5_needRoot_53 : decode cX5_needRoot 53 = .ok (.iload_n 3, 1) := by decide +kernel
theorem dX5_needRoot_54 : decode cX5_needRoot 54 = .ok (.iload_n 2, 1) := by decide +kernel
theorem dX5_needRoot_55 : decode cX5_needRoot 55 = .ok (.invokevirtual 364, 3) := by decide +kernel
theorem dX5_needRoot_58 : decode cX5_needRoot 58 = .ok (.return_, 1) := by decide +kernel
theorem dX5_statusOfNeeds_0 : decode cX5_statusOfNeeds 0 = .ok (.aload_n 0, 1) := by decide +kernel
theorem dX5_statusOfNeeds_1 : decode cX5_statusOfNeeds 1 = .ok (.getfield 35, 3) := by decide +kernel
theorem dX5_statusOfNeeds_4 : decode cX5_statusOfNeeds 4 = .ok (.invokevirtual 366, 3) := by decide +kernel
theorem dX5_statusOfNeeds_7 : decode cX5_statusOfNeeds 7 = .ok (.ifCond .eq 6, 3) := by decide +kernel
theorem dX5_statusOfNeeds_10 : decode cX5_statusOfNeeds 10 = .ok (.bipush 10, 2) := by decide +kernel
theorem dX5_statusOfNeeds_12 : decode cX5_statusOfNeeds 12 = .ok (.ireturn, 1) := by decide +kernel
theorem dX5_statusOfNeeds_13 : decode cX5_statusOfNeeds 13 = .ok (.aload_n 0, 1) := by decide +kernel
theorem dX5_statusOfNeeds_14 : decode cX5_statusOfNeeds 14 = .ok (.getfield 21, 3) := by decide +kernel
theorem dX5_statusOfNeeds_17 : decode cX5_statusOfNeeds 17 = .ok (.invokevirtual 369, 3) := by decide +kernel
theorem dX5_statusOfNeeds_20 : decode cX5_statusOfNeeds 20 = .ok (.iload_n 1, 1) := by decide +kernel
theorem dX5_statusOfNeeds_21 : decode cX5_statusOfNeeds 21 = .ok (.iadd, 1) := by decide +kernel
theorem dX5_statusOfNeeds_22 : decode cX5_statusOfNeeds 22 = .ok (.aload_n 0, 1) := by decide +kernel
theorem dX5_statusOfNeeds_23 : decode cX5_statusOfNeeds 23 = .ok (.getfield 35, 3) := by decide +kernel
theorem dX5_statusOfNeeds_26 : decode cX5_statusOfNeeds 26 = .ok (.invokevirtual 370, 3) := by decide +kernel
theorem dX5_statusOfNeeds_29 : decode cX5_statusOfNeeds 29 = .ok (.iadd, 1) := by decide +kernel
theorem dX5_statusOfNeeds_30 : decode cX5_statusOfNeeds 30 = .ok (.bipush 60, 2) := by decide +kernel
theorem dX5_statusOfNeeds_32 : decode cX5_statusOfNeeds 32 = .ok (.if_icmp .le 8, 3) := by decide +kernel
theorem dX5_statusOfNeeds_35 : decode cX5_statusOfNeeds 35 = .ok (.bipush 11, 2) := by decide +kernel
theorem dX5_statusOfNeeds_37 : decode cX5_statusOfNeeds 37 = .ok (.goto 4, 3) := by decide +kernel
theorem dX5_statusOfNeeds_40 : decode cX5_statusOfNeeds 40 = .ok (.iconst 0, 1) := by decide +kernel
theorem dX5_statusOfNeeds_41 : decode cX5_statusOfNeeds 41 = .ok (.ireturn, 1) := by decide +kernel
theorem dX5_makeNeeded_0 : decode cX5_makeNeeded 0 = .ok (.iconst 0, 1) := by decide +kernel
theorem dX5_makeNeeded_1 : decode cX5_makeNeeded 1 = .ok (.istore_n 1, 1) := by decide +kernel
theorem dX5_makeNeeded_2 : decode cX5_makeNeeded 2 = .ok (.iload_n 1, 1) := by decide +kernel
theorem dX5_makeNeeded_3 : decode cX5_makeNeeded 3 = .ok (.aload_n 0, 1) := by decide +kernel
theorem dX5_makeNeeded_4 : decode cX5_makeNeeded 4 = .ok (.getfield 35, 3) := by decide +kernel
theorem dX5_makeNeeded_7 : decode cX5_makeNeeded 7 = .ok (.invokevirtual 370, 3) := by decide +kernel
theorem dX5_makeNeeded_10 : decode cX5_makeNeeded 10 = .ok (.if_icmp .ge 32, 3) := by decide +kernel
theorem dX5_makeNeeded_13 : decode cX5_makeNeeded 13 = .ok (.aload_n 0, 1) := by decide +kernel
theorem dX5_makeNeeded_14 : decode cX5_makeNeeded 14 = .ok (.aload_n 0, 1) := by decide +kernel
theorem dX5_makeNeeded_15 : decode cX5_makeNeeded 15 = .ok (.getfield 35, 3) := by decide +kernel
theorem dX5_makeNeeded_18 : decode cX5_makeNeeded 18 = .ok (.iload_n 1, 1) := by decide +kernel
theorem dX5_makeNeeded_19 : decode cX5_makeNeeded 19 = .ok (.invokevirtual 371, 3) := by decide +kernel
theorem dX5_makeNeeded_22 : decode cX5_makeNeeded 22 = .ok (.iconst (-1), 1) := by decide +kernel
theorem dX5_makeNeeded_23 : decode cX5_makeNeeded 23 = .ok (.aload_n 0, 1) := by decide +kernel
theorem dX5_makeNeeded_24 : decode cX5_makeNeeded 24 = .ok (.getfield 35, 3) := by decide +kernel
theorem dX5_makeNeeded_27 : decode cX5_makeNeeded 27 = .ok (.iload_n 1, 1) := by decide +kernel
theorem dX5_makeNeeded_28 : decode cX5_makeNeeded 28 = .ok (.invokevirtual 372, 3) := by decide +kernel
theorem dX5_makeNeeded_31 : decode cX5_makeNeeded 31 = .ok (.iconst (-1), 1) := by decide +kernel
theorem dX5_makeNeeded_32 : decode cX5_makeNeeded 32 = .ok (.invokevirtual 342, 3) := by decide +kernel
theorem dX5_makeNeeded_35 : decode cX5_makeNeeded 35 = .ok (.pop, 1) := by decide +kernel
theorem dX5_makeNeeded_36 : decode cX5_makeNeeded 36 = .ok (.iinc 1 1, 3) := by decide +kernel
theorem dX5_makeNeeded_39 : decode cX5_makeNeeded 39 = .ok (.goto (-37), 3) := by decide +kernel
theorem dX5_makeNeeded_42 : decode cX5_makeNeeded 42 = .ok (.return_, 1) := by decide +kernel
theorem dX5_replaceHeld_0 : decode cX5_replaceHeld 0 = .ok (.aload_n 1, 1) := by decide +kernel
theorem dX5_replaceHeld_1 : decode cX5_replaceHeld 1 = .ok (.invokevirtual 176, 3) := by decide +kernel
theorem dX5_replaceHeld_4 : decode cX5_replaceHeld 4 = .ok (.ifCond .ne 6, 3) := by decide +kernel
theorem dX5_replaceHeld_7 : decode cX5_replaceHeld 7 = .ok (.bipush 6, 2) := by decide +kernel
theorem dX5_replaceHeld_9 : decode cX5_replaceHeld 9 = .ok (.ireturn, 1) := by decide +kernel
theorem dX5_replaceHeld_10 : decode cX5_replaceHeld 10 = .ok (.aload_n 0, 1) := by decide +kernel
theorem dX5_replaceHeld_11 : decode cX5_replaceHeld 11 = .ok (.aload_n 1, 1) := by decide +kernel
theorem dX5_replaceHeld_12 : decode cX5_replaceHeld 12 = .ok (.invokevirtual 375, 3) := by decide +kernel
theorem dX5_replaceHeld_15 : decode cX5_replaceHeld 15 = .ok (.ifCond .eq 6, 3) := by decide +kernel
theorem dX5_replaceHeld_18 : decode cX5_replaceHeld 18 = .ok (.bipush 8, 2) := by decide +kernel
theorem dX5_replaceHeld_20 : decode cX5_replaceHeld 20 = .ok (.ireturn, 1) := by decide +kernel
theorem dX5_replaceHeld_21 : decode cX5_replaceHeld 21 = .ok (.aload_n 0, 1) := by decide +kernel
theorem dX5_replaceHeld_22 : decode cX5_replaceHeld 22 = .ok (.aload_n 1, 1) := by decide +kernel
theorem dX5_replaceHeld_23 : decode cX5_replaceHeld 23 = .ok (.invokevirtual 378, 3) := by decide +kernel
theorem dX5_replaceHeld_26 : decode cX5_replaceHeld 26 = .ok (.aload_n 0, 1) := by decide +kernel
theorem dX5_replaceHeld_27 : decode cX5_replaceHeld 27 = .ok (.iconst 0, 1) := by decide +kernel
theorem dX5_replaceHeld_28 : decode cX5_replaceHeld 28 = .ok (.invokevirtual 326, 3) := by decide +kernel
theorem dX5_replaceHeld_31 : decode cX5_replaceHeld 31 = .ok (.istore_n 2, 1) := by decide +kernel
theorem dX5_replaceHeld_32 : decode cX5_replaceHeld 32 = .ok (.iload_n 2, 1) := by decide +kernel
theorem dX5_replaceHeld_33 : decode cX5_replaceHeld 33 = .ok (.ifCond .ne 12, 3) := by decide +kernel
theorem dX5_replaceHeld_36 : decode cX5_replaceHeld 36 = .ok (.aload_n 0, 1) := by decide +kernel
theorem dX5_replaceHeld_37 : decode cX5_replaceHeld 37 = .ok (.invokevirtual 329, 3) := by decide +kernel
theorem dX5_replaceHeld_40 : decode cX5_replaceHeld 40 = .ok (.aload_n 0, 1) := by decide +kernel
theorem dX5_replaceHeld_41 : decode cX5_replaceHeld 41 = .ok (.aload_n 1, 1) := by decide +kernel
theorem dX5_replaceHeld_42 : decode cX5_replaceHeld 42 = .ok (.invokevirtual 382, 3) := by decide +kernel
theorem dX5_replaceHeld_45 : decode cX5_replaceHeld 45 = .ok (.iload_n 2, 1) := by decide +kernel
theorem dX5_replaceHeld_46 : decode cX5_replaceHeld 46 = .ok (.ireturn, 1) := by decide +kernel
theorem dX5_wouldChangeKey_0 : decode cX5_wouldChangeKey 0 = .ok (.iconst 0, 1) := by decide +kernel
theorem dX5_wouldChangeKey_1 : decode cX5_wouldChangeKey 1 = .ok (.istore_n 2, 1) := by decide +kernel
theorem dX5_wouldChangeKey_2 : decode cX5_wouldChangeKey 2 = .ok (.iload_n 2, 1) := by decide +kernel
theorem dX5_wouldChangeKey_3 : decode cX5_wouldChangeKey 3 = .ok (.aload_n 1, 1) := by decide +kernel
theorem dX5_wouldChangeKey_4 : decode cX5_wouldChangeKey 4 = .ok (.invokevirtual 176, 3) := by decide +kernel
theorem dX5_wouldChangeKey_7 : decode cX5_wouldChangeKey 7 = .ok (.if_icmp .ge 74, 3) := by decide +kernel
theorem dX5_wouldChangeKey_10 : decode cX5_wouldChangeKey 10 = .ok (.aload_n 1, 1) := by decide +kernel
theorem dX5_wouldChangeKey_11 : decode cX5_wouldChangeKey 11 = .ok (.iload_n 2, 1) := by decide +kernel
theorem dX5_wouldChangeKey_12 : decode cX5_wouldChangeKey 12 = .ok (.invokevirtual 385, 3) := by decide +kernel
theorem dX5_wouldChangeKey_15 : decode cX5_wouldChangeKey 15 = .ok (.istore_n 3, 1) := by decide +kernel
theorem dX5_wouldChangeKey_16 : decode cX5_wouldChangeKey 16 = .ok (.aload_n 0, 1) := by decide +kernel
theorem dX5_wouldChangeKey_17 : decode cX5_wouldChangeKey 17 = .ok (.getfield 10, 3) := by decide +kernel
theorem dX5_wouldChangeKey_20 : decode cX5_wouldChangeKey 20 = .ok (.aload_n 0, 1) := by decide +kernel
theorem dX5_wouldChangeKey_21 : decode cX5_wouldChangeKey 21 = .ok (.getfield 21, 3) := by decide +kernel
theorem dX5_wouldChangeKey_24 : decode cX5_wouldChangeKey 24 = .ok (.iload_n 3, 1) := by decide +kernel
theorem dX5_wouldChangeKey_25 : decode cX5_wouldChangeKey 25 = .ok (.invokevirtual 186, 3) := by decide +kernel
theorem dX5_wouldChangeKey_28 : decode cX5_wouldChangeKey 28 = .ok (.invokevirtual 317, 3) := by decide +kernel
theorem dX5_wouldChangeKey_31 : decode cX5_wouldChangeKey 31 = .ok (.iconst 2, 1) := by decide +kernel
theorem dX5_wouldChangeKey_32 : decode cX5_wouldChangeKey 32 = .ok (.if_icmp .eq 7, 3) := by decide +kernel
theorem dX5_wouldChangeKey_35 : decode cX5_wouldChangeKey 35 = .ok (.iconst 1, 1) := by decide +kernel
theorem dX5_wouldChangeKey_36 : decode cX5_wouldChangeKey 36 = .ok (.goto 4, 3) := by decide +kernel
theorem dX5_wouldChangeKey_39 : decode cX5_wouldChangeKey 39 = .ok (.iconst 0, 1) := by decide +kernel
theorem dX5_wouldChangeKey_40 : decode cX5_wouldChangeKey 40 = .ok (.istore 4, 2) := by decide +kernel
theorem dX5_wouldChangeKey_42 : decode cX5_wouldChangeKey 42 = .ok (.iload 4, 2) := by decide +kernel
theorem dX5_wouldChangeKey_44 : decode cX5_wouldChangeKey 44 = .ok (.ifCond .eq 31, 3) := by decide +kernel
theorem dX5_wouldChangeKey_47 : decode cX5_wouldChangeKey 47 = .ok (.aload_n 1, 1) := by decide +kernel
theorem dX5_wouldChangeKey_48 : decode cX5_wouldChangeKey 48 = .ok (.iload_n 2, 1) := by decide +kernel
theorem dX5_wouldChangeKey_49 : decode cX5_wouldChangeKey 49 = .ok (.invokevirtual 388, 3) := by decide +kernel
theorem dX5_wouldChangeKey_52 : decode cX5_wouldChangeKey 52 = .ok (.ifCond .ne 23, 3) := by decide +kernel
theorem dX5_wouldChangeKey_55 : decode cX5_wouldChangeKey 55 = .ok (.aload_n 0, 1) := by decide +kernel
theorem dX5_wouldChangeKey_56 : decode cX5_wouldChangeKey 56 = .ok (.getfield 21, 3) := by decide +kernel
theorem dX5_wouldChangeKey_59 : decode cX5_wouldChangeKey 59 = .ok (.iload_n 3, 1) := by decide +kernel
theorem dX5_wouldChangeKey_60 : decode cX5_wouldChangeKey 60 = .ok (.iconst 0, 1) := by decide +kernel
theorem dX5_wouldChangeKey_61 : decode cX5_wouldChangeKey 61 = .ok (.invokevirtual 162, 3) := by decide +kernel
theorem dX5_wouldChangeKey_64 : decode cX5_wouldChangeKey 64 = .ok (.aload_n 0, 1) := by decide +kernel
theorem dX5_wouldChangeKey_65 : decode cX5_wouldChangeKey 65 = .ok (.iload_n 2, 1) := by decide +kernel
theorem dX5_wouldChangeKey_66 : decode cX5_wouldChangeKey 66 = .ok (.iconst 0, 1) := by decide +kernel
theorem dX5_wouldChangeKey_67 : decode cX5_wouldChangeKey 67 = .ok (.invokevirtual 122, 3) := by decide +kernel
theorem dX5_wouldChangeKey_70 : decode cX5_wouldChangeKey 70 = .ok (.if_icmp .eq 5, 3) := by decide +kernel
theorem dX5_wouldChangeKey_73 : decode cX5_wouldChangeKey 73 = .ok (.iconst 1, 1) := by decide +kernel
theorem dX5_wouldChangeKey_74 : decode cX5_wouldChangeKey 74 = .ok (.ireturn, 1) := by decide +kernel
theorem dX5_wouldChangeKey_75 : decode cX5_wouldChangeKey 75 = .ok (.iinc 2 1, 3) := by decide +kernel
theorem dX5_wouldChangeKey_78 : decode cX5_wouldChangeKey 78 = .ok (.goto (-76), 3) := by decide +kernel
theorem dX5_wouldChangeKey_81 : decode cX5_wouldChangeKey 81 = .ok (.iconst 0, 1) := by decide +kernel
theorem dX5_wouldChangeKey_82 : decode cX5_wouldChangeKey 82 = .ok (.ireturn, 1) := by decide +kernel
theorem dX5_gatherNeedsOfHeld_0 : decode cX5_gatherNeedsOfHeld 0 = .ok (.aload_n 0, 1) := by decide +kernel
theorem dX5_gatherNeedsOfHeld_1 : decode cX5_gatherNeedsOfHeld 1 = .ok (.getfield 35, 3) := by decide +kernel
theorem dX5_gatherNeedsOfHeld_4 : decode cX5_gatherNeedsOfHeld 4 = .ok (.invokevirtual 336, 3) := by decide +kernel
theorem dX5_gatherNeedsOfHeld_7 : decode cX5_gatherNeedsOfHeld 7 = .ok (.iconst 0, 1) := by decide +kernel
theorem dX5_gatherNeedsOfHeld_8 : decode cX5_gatherNeedsOfHeld 8 = .ok (.istore_n 2, 1) := by decide +kernel
theorem dX5_gatherNeedsOfHeld_9 : decode cX5_gatherNeedsOfHeld 9 = .ok (.iload_n 2, 1) := by decide +kernel
theorem dX5_gatherNeedsOfHeld_10 : decode cX5_gatherNeedsOfHeld 10 = .ok (.aload_n 1, 1) := by decide +kernel
theorem dX5_gatherNeedsOfHeld_11 : decode cX5_gatherNeedsOfHeld 11 = .ok (.invokevirtual 176, 3) := by decide +kernel
theorem dX5_gatherNeedsOfHeld_14 : decode cX5_gatherNeedsOfHeld 14 = .ok (.if_icmp .ge 59, 3) := by decide +kernel
theorem dX5_gatherNeedsOfHeld_17 : decode cX5_gatherNeedsOfHeld 17 = .ok (.aload_n 1, 1) := by decide +kernel
theorem dX5_gatherNeedsOfHeld_18 : decode cX5_gatherNeedsOfHeld 18 = .ok (.iload_n 2, 1) := by decide +kernel
theorem dX5_gatherNeedsOfHeld_19 : decode cX5_gatherNeedsOfHeld 19 = .ok (.invokevirtual 385, 3) := by decide +kernel
theorem dX5_gatherNeedsOfHeld_22 : decode cX5_gatherNeedsOfHeld 22 = .ok (.istore_n 3, 1) := by decide +kernel
theorem dX5_gatherNeedsOfHeld_23 : decode cX5_gatherNeedsOfHeld 23 = .ok (.aload_n 0, 1) := by decide +kernel
theorem dX5_gatherNeedsOfHeld_24 : decode cX5_gatherNeedsOfHeld 24 = .ok (.iload_n 2, 1) := by decide +kernel
theorem dX5_gatherNeedsOfHeld_25 : decode cX5_gatherNeedsOfHeld 25 = .ok (.iconst 2, 1) := by decide +kernel
theorem dX5_gatherNeedsOfHeld_26 : decode cX5_gatherNeedsOfHeld 26 = .ok (.invokevirtual 122, 3) := by decide +kernel
theorem dX5_gatherNeedsOfHeld_29 : decode cX5_gatherNeedsOfHeld 29 = .ok (.istore 4, 2) := by decide +kernel
theorem dX5_gatherNeedsOfHeld_31 : decode cX5_gatherNeedsOfHeld 31 = .ok (.aload_n 1, 1) := by decide +kernel
theorem dX5_gatherNeedsOfHeld_32 : decode cX5_gatherNeedsOfHeld 32 = .ok (.iload_n 2, 1) := by decide +kernel
theorem dX5_gatherNeedsOfHeld_33 : decode cX5_gatherNeedsOfHeld 33 = .ok (.invokevirtual 388, 3) := by decide +kernel
theorem dX5_gatherNeedsOfHeld_36 : decode cX5_gatherNeedsOfHeld 36 = .ok (.ifCond .ne 31, 3) := by decide +kernel
theorem dX5_gatherNeedsOfHeld_39 : decode cX5_gatherNeedsOfHeld 39 = .ok (.aload_n 0, 1) := by decide +kernel
theorem dX5_gatherNeedsOfHeld_40 : decode cX5_gatherNeedsOfHeld 40 = .ok (.getfield 21, 3) := by decide +kernel
theorem dX5_gatherNeedsOfHeld_43 : decode cX5_gatherNeedsOfHeld 43 = .ok (.iload_n 3, 1) := by decide +kernel
theorem dX5_gatherNeedsOfHeld_44 : decode cX5_gatherNeedsOfHeld 44 = .ok (.iconst 2, 1) := by decide +kernel
theorem dX5_gatherNeedsOfHeld_45 : decode cX5_gatherNeedsOfHeld 45 = .ok (.invokevirtual 162, 3) := by decide +kernel
theorem dX5_gatherNeedsOfHeld_48 : decode cX5_gatherNeedsOfHeld 48 = .ok (.iload 4, 2) := by decide +kernel
theorem dX5_gatherNeedsOfHeld_50 : decode cX5_gatherNeedsOfHeld 50 = .ok (.if_icmp .eq 17, 3) := by decide +kernel
theorem dX5_gatherNeedsOfHeld_53 : decode cX5_gatherNeedsOfHeld 53 = .ok (.aload_n 0, 1) := by decide +kernel
theorem dX5_gatherNeedsOfHeld_54 : decode cX5_gatherNeedsOfHeld 54 = .ok (.aload_n 0, 1) := by decide +kernel
theorem dX5_gatherNeedsOfHeld_55 : decode cX5_gatherNeedsOfHeld 55 = .ok (.getfield 21, 3) := by decide +kernel
theorem dX5_gatherNeedsOfHeld_58 : decode cX5_gatherNeedsOfHeld 58 = .ok (.iload_n 3, 1) := by decide +kernel
theorem dX5_gatherNeedsOfHeld_59 : decode cX5_gatherNeedsOfHeld 59 = .ok (.invokevirtual 186, 3) := by decide +kernel
theorem dX5_gatherNeedsOfHeld_62 : decode cX5_gatherNeedsOfHeld 62 = .ok (.iload 4, 2) := by decide +kernel
theorem dX5_gatherNeedsOfHeld_64 : decode cX5_gatherNeedsOfHeld 64 = .ok (.invokevirtual 339, 3) := by decide +kernel
theorem dX5_gatherNeedsOfHeld_67 : decode cX5_gatherNeedsOfHeld 67 = .ok (.iinc 2 1, 3) := by decide +kernel
theorem dX5_gatherNeedsOfHeld_70 : decode cX5_gatherNeedsOfHeld 70 = .ok (.goto (-61), 3) := by decide +kernel
theorem dX5_gatherNeedsOfHeld_73 : decode cX5_gatherNeedsOfHeld 73 = .ok (.return_, 1) := by decide +kernel
theorem dX5_fillHeld_0 : decode cX5_fillHeld 0 = .ok (.iconst 0, 1) := by decide +kernel
theorem dX5_fillHeld_1 : decode cX5_fillHeld 1 = .ok (.istore_n 2, 1) := by decide +kernel
theorem dX5_fillHeld_2 : decode cX5_fillHeld 2 = .ok (.iload_n 2, 1) := by decide +kernel
theorem dX5_fillHeld_3 : decode cX5_fillHeld 3 = .ok (.aload_n 1, 1) := by decide +kernel
theorem dX5_fillHeld_4 : decode cX5_fillHeld 4 = .ok (.invokevirtual 176, 3) := by decide +kernel
theorem dX5_fillHeld_7 : decode cX5_fillHeld 7 = .ok (.if_icmp .ge 27, 3) := by decide +kernel
theorem dX5_fillHeld_10 : decode cX5_fillHeld 10 = .ok (.aload_n 1, 1) := by decide +kernel
theorem dX5_fillHeld_11 : decode cX5_fillHeld 11 = .ok (.iload_n 2, 1) := by decide +kernel
theorem dX5_fillHeld_12 : decode cX5_fillHeld 12 = .ok (.invokevirtual 388, 3) := by decide +kernel
theorem dX5_fillHeld_15 : decode cX5_fillHeld 15 = .ok (.ifCond .ne 13, 3) := by decide +kernel
theorem dX5_fillHeld_18 : decode cX5_fillHeld 18 = .ok (.aload_n 0, 1) := by decide +kernel
theorem dX5_fillHeld_19 : decode cX5_fillHeld 19 = .ok (.aload_n 1, 1) := by decide +kernel
theorem dX5_fillHeld_20 : decode cX5_fillHeld 20 = .ok (.iload_n 2, 1) := by decide +kernel
theorem dX5_fillHeld_21 : decode cX5_fillHeld 21 = .ok (.invokevirtual 385, 3) := by decide +kernel
theorem dX5_fillHeld_24 : decode cX5_fillHeld 24 = .ok (.iload_n 2, 1) := by decide +kernel
theorem dX5_fillHeld_25 : decode cX5_fillHeld 25 = .ok (.invokevirtual 345, 3) := by decide +kernel
theorem dX5_fillHeld_28 : decode cX5_fillHeld 28 = .ok (.iinc 2 1, 3) := by decide +kernel
theorem dX5_fillHeld_31 : decode cX5_fillHeld 31 = .ok (.goto (-29), 3) := by decide +kernel
theorem dX5_fillHeld_34 : decode cX5_fillHeld 34 = .ok (.return_, 1) := by decide +kernel
theorem dX5_deleteFrom_0 : decode cX5_deleteFrom 0 = .ok (.aload_n 0, 1) := by decide +kernel
theorem dX5_deleteFrom_1 : decode cX5_deleteFrom 1 = .ok (.getfield 21, 3) := by decide +kernel
theorem dX5_deleteFrom_4 : decode cX5_deleteFrom 4 = .ok (.invokevirtual 391, 3) := by decide +kernel
theorem dX5_deleteFrom_7 : decode cX5_deleteFrom 7 = .ok (.aload_n 0, 1) := by decide +kernel
theorem dX5_deleteFrom_8 : decode cX5_deleteFrom 8 = .ok (.getfield 21, 3) := by decide +kernel
theorem dX5_deleteFrom_11 : decode cX5_deleteFrom 11 = .ok (.iload_n 1, 1) := by decide +kernel
theorem dX5_deleteFrom_12 : decode cX5_deleteFrom 12 = .ok (.invokevirtual 394, 3) := by decide +kernel
theorem dX5_deleteFrom_15 : decode cX5_deleteFrom 15 = .ok (.iconst 0, 1) := by decide +kernel
theorem dX5_deleteFrom_16 : decode cX5_deleteFrom 16 = .ok (.istore_n 2, 1) := by decide +kernel
theorem dX5_deleteFrom_17 : decode cX5_deleteFrom 17 = .ok (.iload_n 2, 1) := by decide +kernel
theorem dX5_deleteFrom_18 : decode cX5_deleteFrom 18 = .ok (.bipush 60, 2) := by decide +kernel
theorem dX5_deleteFrom_20 : decode cX5_deleteFrom 20 = .ok (.if_icmp .ge 48, 3) := by decide +kernel
theorem dX5_deleteFrom_23 : decode cX5_deleteFrom 23 = .ok (.aload_n 0, 1) := by decide +kernel
theorem dX5_deleteFrom_24 : decode cX5_deleteFrom 24 = .ok (.getfield 21, 3) := by decide +kernel
theorem dX5_deleteFrom_27 : decode cX5_deleteFrom 27 = .ok (.iload_n 2, 1) := by decide +kernel
theorem dX5_deleteFrom_28 : decode cX5_deleteFrom 28 = .ok (.iload_n 1, 1) := by decide +kernel
theorem dX5_deleteFrom_29 : decode cX5_deleteFrom 29 = .ok (.invokevirtual 192, 3) := by decide +kernel
theorem dX5_deleteFrom_32 : decode cX5_deleteFrom 32 = .ok (.ifCond .eq 30, 3) := by decide +kernel
theorem dX5_deleteFrom_35 : decode cX5_deleteFrom 35 = .ok (.aload_n 0, 1) := by decide +kernel
theorem dX5_deleteFrom_36 : decode cX5_deleteFrom 36 = .ok (.getfield 10, 3) := by decide +kernel
theorem dX5_deleteFrom_39 : decode cX5_deleteFrom 39 = .ok (.aload_n 0, 1) := by decide +kernel
theorem dX5_deleteFrom_40 : decode cX5_deleteFrom 40 = .ok (.getfield 21, 3) := by decide +kernel
theorem dX5_deleteFrom_43 : decode cX5_deleteFrom 43 = .ok (.iload_n 2, 1) := by decide +kernel
theorem dX5_deleteFrom_44 : decode cX5_deleteFrom 44 = .ok (.invokevirtual 186, 3) := by decide +kernel
theorem dX5_deleteFrom_47 : decode cX5_deleteFrom 47 = .ok (.invokevirtual 397, 3) := by decide +kernel
theorem dX5_deleteFrom_50 : decode cX5_deleteFrom 50 = .ok (.iconst 2, 1) := by decide +kernel
theorem dX5_deleteFrom_51 : decode cX5_deleteFrom 51 = .ok (.if_icmp .ne 11, 3) := by decide +kernel
theorem dX5_deleteFrom_54 : decode cX5_deleteFrom 54 = .ok (.aload_n 0, 1) := by decide +kernel
theorem dX5_deleteFrom_55 : decode cX5_deleteFrom 55 = .ok (.getfield 21, 3) := by decide +kernel
theorem dX5_deleteFrom_58 : decode cX5_deleteFrom 58 = .ok (.iload_n 2, 1) := by decide +kernel
theorem dX5_deleteFrom_59 : decode cX5_deleteFrom 59 = .ok (.invokevirtual 394, 3) := by decide +kernel
theorem dX5_deleteFrom_62 : decode cX5_deleteFrom 62 = .ok (.iinc 2 1, 3) := by decide +kernel
theorem dX5_deleteFrom_65 : decode cX5_deleteFrom 65 = .ok (.goto (-48), 3) := by decide +kernel
theorem dX5_deleteFrom_68 : decode cX5_deleteFrom 68 = .ok (.aload_n 0, 1) := by decide +kernel
theorem dX5_deleteFrom_69 : decode cX5_deleteFrom 69 = .ok (.iload_n 1, 1) := by decide +kernel
theorem dX5_deleteFrom_70 : decode cX5_deleteFrom 70 = .ok (.invokevirtual 400, 3) := by decide +kernel
theorem dX5_deleteFrom_73 : decode cX5_deleteFrom 73 = .ok (.ifCond .eq 6, 3) := by decide +kernel
theorem dX5_deleteFrom_76 : decode cX5_deleteFrom 76 = .ok (.bipush 12, 2) := by decide +kernel
theorem dX5_deleteFrom_78 : decode cX5_deleteFrom 78 = .ok (.ireturn, 1) := by decide +kernel
theorem dX5_deleteFrom_79 : decode cX5_deleteFrom 79 = .ok (.iconst 0, 1) := by decide +kernel
theorem dX5_deleteFrom_80 : decode cX5_deleteFrom 80 = .ok (.istore_n 2, 1) := by decide +kernel
theorem dX5_deleteFrom_81 : decode cX5_deleteFrom 81 = .ok (.iload_n 2, 1) := by decide +kernel
theorem dX5_deleteFrom_82 : decode cX5_deleteFrom 82 = .ok (.aload_n 0, 1) := by decide +kernel
theorem dX5_deleteFrom_83 : decode cX5_deleteFrom 83 = .ok (.getfield 41, 3) := by decide +kernel
theorem dX5_deleteFrom_86 : decode cX5_deleteFrom 86 = .ok (.arraylength, 1) := by decide +kernel
theorem dX5_deleteFrom_87 : decode cX5_deleteFrom 87 = .ok (.if_icmp .ge 19, 3) := by decide +kernel
theorem dX5_deleteFrom_90 : decode cX5_deleteFrom 90 = .ok (.aload_n 0, 1) := by decide +kernel
theorem dX5_deleteFrom_91 : decode cX5_deleteFrom 91 = .ok (.aload_n 0, 1) := by decide +kernel
theorem dX5_deleteFrom_92 : decode cX5_deleteFrom 92 = .ok (.getfield 41, 3) := by decide +kernel
theorem dX5_deleteFrom_95 : decode cX5_deleteFrom 95 = .ok (.iload_n 2, 1) := by decide +kernel
theorem dX5_deleteFrom_96 : decode cX5_deleteFrom 96 = .ok (.aaload, 1) := by decide +kernel
theorem dX5_deleteFrom_97 : decode cX5_deleteFrom 97 = .ok (.invokevirtual 403, 3) := by decide +kernel
theorem dX5_deleteFrom_100 : decode cX5_deleteFrom 100 = .ok (.iinc 2 1, 3) := by decide +kernel
theorem dX5_deleteFrom_103 : decode cX5_deleteFrom 103 = .ok (.goto (-22), 3) := by decide +kernel
theorem dX5_deleteFrom_106 : decode cX5_deleteFrom 106 = .ok (.aload_n 0, 1) := by decide +kernel
theorem dX5_deleteFrom_107 : decode cX5_deleteFrom 107 = .ok (.getfield 21, 3) := by decide +kernel
theorem dX5_deleteFrom_110 : decode cX5_deleteFrom 110 = .ok (.invokevirtual 406, 3) := by decide +kernel
theorem dX5_deleteFrom_113 : decode cX5_deleteFrom 113 = .ok (.iconst 0, 1) := by decide +kernel
theorem dX5_deleteFrom_114 : decode cX5_deleteFrom 114 = .ok (.ireturn, 1) := by decide +kernel
theorem dX5_isBound_0 : decode cX5_isBound 0 = .ok (.iconst 0, 1) := by decide +kernel
theorem dX5_isBound_1 : decode cX5_isBound 1 = .ok (.istore_n 2, 1) := by decide +kernel
theorem dX5_isBound_2 : decode cX5_isBound 2 = .ok (.iload_n 2, 1) := by decide +kernel
theorem dX5_isBound_3 : decode cX5_isBound 3 = .ok (.bipush 60, 2) := by decide +kernel
theorem dX5_isBound_5 : decode cX5_isBound 5 = .ok (.if_icmp .ge 62, 3) := by decide +kernel
theorem dX5_isBound_8 : decode cX5_isBound 8 = .ok (.aload_n 0, 1) := by decide +kernel
theorem dX5_isBound_9 : decode cX5_isBound 9 = .ok (.getfield 21, 3) := by decide +kernel
theorem dX5_isBound_12 : decode cX5_isBound 12 = .ok (.iload_n 2, 1) := by decide +kernel
theorem dX5_isBound_13 : decode cX5_isBound 13 = .ok (.iload_n 1, 1) := by decide +kernel
theorem dX5_isBound_14 : decode cX5_isBound 14 = .ok (.invokevirtual 192, 3) := by decide +kernel
theorem dX5_isBound_17 : decode cX5_isBound 17 = .ok (.ifCond .eq 25, 3) := by decide +kernel
theorem dX5_isBound_20 : decode cX5_isBound 20 = .ok (.aload_n 0, 1) := by decide +kernel
theorem dX5_isBound_21 : decode cX5_isBound 21 = .ok (.getfield 10, 3) := by decide +kernel
theorem dX5_isBound_24 : decode cX5_isBound 24 = .ok (.aload_n 0, 1) := by decide +kernel
theorem dX5_isBound_25 : decode cX5_isBound 25 = .ok (.getfield 21, 3) := by decide +kernel
theorem dX5_isBound_28 : decode cX5_isBound 28 = .ok (.iload_n 2, 1) := by decide +kernel
theorem dX5_isBound_29 : decode cX5_isBound 29 = .ok (.invokevirtual 186, 3) := by decide +kernel
theorem dX5_isBound_32 : decode cX5_isBound 32 = .ok (.invokevirtual 397, 3) := by decide +kernel
theorem dX5_isBound_35 : decode cX5_isBound 35 = .ok (.ifCond .ne 7, 3) := by decide +kernel
theorem dX5_isBound_38 : decode cX5_isBound 38 = .ok (.iconst 1, 1) := by decide +kernel
theorem dX5_isBound_39 : decode cX5_isBound 39 = .ok (.goto 4, 3) := by decide +kernel
theorem dX5_isBound_42 : decode cX5_isBound 42 = .ok (.iconst 0, 1) := by decide +kernel
theorem dX5_isBound_43 : decode cX5_isBound 43 = .ok (.istore_n 3, 1) := by decide +kernel
theorem dX5_isBound_44 : decode cX5_isBound 44 = .ok (.iload_n 3, 1) := by decide +kernel
theorem dX5_isBound_45 : decode cX5_isBound 45 = .ok (.ifCond .eq 16, 3) := by decide +kernel
theorem dX5_isBound_48 : decode cX5_isBound 48 = .ok (.aload_n 0, 1) := by decide +kernel
theorem dX5_isBound_49 : decode cX5_isBound 49 = .ok (.getfield 21, 3) := by decide +kernel
theorem dX5_isBound_52 : decode cX5_isBound 52 = .ok (.iload_n 2, 1) := by decide +kernel
theorem dX5_isBound_53 : decode cX5_isBound 53 = .ok (.invokevirtual 409, 3) := by decide +kernel
theorem dX5_isBound_56 : decode cX5_isBound 56 = .ok (.ifCond .ne 5, 3) := by decide +kernel
theorem dX5_isBound_59 : decode cX5_isBound 59 = .ok (.iconst 1, 1) := by decide +kernel
theorem dX5_isBound_60 : decode cX5_isBound 60 = .ok (.ireturn, 1) := by decide +kernel
theorem dX5_isBound_61 : decode cX5_isBound 61 = .ok (.iinc 2 1, 3) := by decide +kernel
theorem dX5_isBound_64 : decode cX5_isBound 64 = .ok (.goto (-62), 3) := by decide +kernel
theorem dX5_isBound_67 : decode cX5_isBound 67 = .ok (.iconst 0, 1) := by decide +kernel
theorem dX5_isBound_68 : decode cX5_isBound 68 = .ok (.ireturn, 1) := by decide +kernel
theorem dX5_leaveDoomed_0 : decode cX5_leaveDoomed 0 = .ok (.aload_n 1, 1) := by decide +kernel
theorem dX5_leaveDoomed_1 : decode cX5_leaveDoomed 1 = .ok (.ifnonnull 4, 3) := by decide +kernel
theorem dX5_leaveDoomed_4 : decode cX5_leaveDoomed 4 = .ok (.return_, 1) := by decide +kernel
theorem dX5_leaveDoomed_5 : decode cX5_leaveDoomed 5 = .ok (.aload_n 0, 1) := by decide +kernel
theorem dX5_leaveDoomed_6 : decode cX5_leaveDoomed 6 = .ok (.getfield 21, 3) := by decide +kernel
theorem dX5_leaveDoomed_9 : decode cX5_leaveDoomed 9 = .ok (.aload_n 1, 1) := by decide +kernel
theorem dX5_leaveDoomed_10 : decode cX5_leaveDoomed 10 = .ok (.invokevirtual 287, 3) := by decide +kernel
theorem dX5_leaveDoomed_13 : decode cX5_leaveDoomed 13 = .ok (.invokevirtual 409, 3) := by decide +kernel
theorem dX5_leaveDoomed_16 : decode cX5_leaveDoomed 16 = .ok (.ifCond .eq 18, 3) := by decide +kernel
theorem dX5_leaveDoomed_19 : decode cX5_leaveDoomed 19 = .ok (.aload_n 1, 1) := by decide +kernel
theorem dX5_leaveDoomed_20 : decode cX5_leaveDoomed 20 = .ok (.aload_n 0, 1) := by decide +kernel
theorem dX5_leaveDoomed_21 : decode cX5_leaveDoomed 21 = .ok (.getfield 21, 3) := by decide +kernel
theorem dX5_leaveDoomed_24 : decode cX5_leaveDoomed 24 = .ok (.aload_n 1, 1) := by decide +kernel
theorem dX5_leaveDoomed_25 : decode cX5_leaveDoomed 25 = .ok (.invokevirtual 287, 3) := by decide +kernel
theorem dX5_leaveDoomed_28 : decode cX5_leaveDoomed 28 = .ok (.invokevirtual 412, 3) := by decide +kernel
theorem dX5_leaveDoomed_31 : decode cX5_leaveDoomed 31 = .ok (.invokevirtual 415, 3) := by decide +kernel
theorem dX5_leaveDoomed_34 : decode cX5_leaveDoomed 34 = .ok (.aload_n 0, 1) := by decide +kernel
theorem dX5_leaveDoomed_35 : decode cX5_leaveDoomed 35 = .ok (.getfield 21, 3) := by decide +kernel
theorem dX5_leaveDoomed_38 : decode cX5_leaveDoomed 38 = .ok (.aload_n 1, 1) := by decide +kernel
theorem dX5_leaveDoomed_39 : decode cX5_leaveDoomed 39 = .ok (.invokevirtual 173, 3) := by decide +kernel
theorem dX5_leaveDoomed_42 : decode cX5_leaveDoomed 42 = .ok (.invokevirtual 409, 3) := by decide +kernel
theorem dX5_leaveDoomed_45 : decode cX5_leaveDoomed 45 = .ok (.ifCond .eq 8, 3) := by decide +kernel
theorem dX5_leaveDoomed_48 : decode cX5_leaveDoomed 48 = .ok (.aload_n 1, 1) := by decide +kernel
theorem dX5_leaveDoomed_49 : decode cX5_leaveDoomed 49 = .ok (.iconst (-1), 1) := by decide +kernel
theorem dX5_leaveDoomed_50 : decode cX5_leaveDoomed 50 = .ok (.invokevirtual 242, 3) := by decide +kernel
theorem dX5_leaveDoomed_53 : decode cX5_leaveDoomed 53 = .ok (.iconst 0, 1) := by decide +kernel
theorem dX5_leaveDoomed_54 : decode cX5_leaveDoomed 54 = .ok (.istore_n 2, 1) := by decide +kernel
theorem dX5_leaveDoomed_55 : decode cX5_leaveDoomed 55 = .ok (.iload_n 2, 1) := by decide +kernel
theorem dX5_leaveDoomed_56 : decode cX5_leaveDoomed 56 = .ok (.aload_n 1, 1) := by decide +kernel
theorem dX5_leaveDoomed_57 : decode cX5_leaveDoomed 57 = .ok (.invokevirtual 176, 3) := by decide +kernel
theorem dX5_leaveDoomed_60 : decode cX5_leaveDoomed 60 = .ok (.if_icmp .ge 28, 3) := by decide +kernel
theorem dX5_leaveDoomed_63 : decode cX5_leaveDoomed 63 = .ok (.aload_n 0, 1) := by decide +kernel
theorem dX5_leaveDoomed_64 : decode cX5_leaveDoomed 64 = .ok (.getfield 21, 3) := by decide +kernel
theorem dX5_leaveDoomed_67 : decode cX5_leaveDoomed 67 = .ok (.aload_n 1, 1) := by decide +kernel
theorem dX5_leaveDoomed_68 : decode cX5_leaveDoomed 68 = .ok (.iload_n 2, 1) := by decide +kernel
theorem dX5_leaveDoomed_69 : decode cX5_leaveDoomed 69 = .ok (.invokevirtual 385, 3) := by decide +kernel
theorem dX5_leaveDoomed_72 : decode cX5_leaveDoomed 72 = .ok (.invokevirtual 409, 3) := by decide +kernel
theorem dX5_leaveDoomed_75 : decode cX5_leaveDoomed 75 = .ok (.ifCond .eq 7, 3) := by decide +kernel
theorem dX5_leaveDoomed_78 : decode cX5_leaveDoomed 78 = .ok (.aload_n 1, 1) := by decide +kernel
theorem dX5_leaveDoomed_79 : decode cX5_leaveDoomed 79 = .ok (.invokevirtual 129, 3) := by decide +kernel
theorem dX5_leaveDoomed_82 : decode cX5_leaveDoomed 82 = .ok (.iinc 2 1, 3) := by decide +kernel
theorem dX5_leaveDoomed_85 : decode cX5_leaveDoomed 85 = .ok (.goto (-30), 3) := by decide +kernel
theorem dX5_leaveDoomed_88 : decode cX5_leaveDoomed 88 = .ok (.return_, 1) := by decide +kernel
theorem dX5_comparedAhead_0 : decode cX5_comparedAhead 0 = .ok (.iconst 0, 1) := by decide +kernel
theorem dX5_comparedAhead_1 : decode cX5_comparedAhead 1 = .ok (.istore_n 3, 1) := by decide +kernel
theorem dX5_comparedAhead_2 : decode cX5_comparedAhead 2 = .ok (.iconst 0, 1) := by decide +kernel
theorem dX5_comparedAhead_3 : decode cX5_comparedAhead 3 = .ok (.istore 4, 2) := by decide +kernel
theorem dX5_comparedAhead_5 : decode cX5_comparedAhead 5 = .ok (.iload 4, 2) := by decide +kernel
theorem dX5_comparedAhead_7 : decode cX5_comparedAhead 7 = .ok (.bipush 60, 2) := by decide +kernel
theorem dX5_comparedAhead_9 : decode cX5_comparedAhead 9 = .ok (.if_icmp .ge 38, 3) := by decide +kernel
theorem dX5_comparedAhead_12 : decode cX5_comparedAhead 12 = .ok (.aload_n 0, 1) := by decide +kernel
theorem dX5_comparedAhead_13 : decode cX5_comparedAhead 13 = .ok (.getfield 21, 3) := by decide +kernel
theorem dX5_comparedAhead_16 : decode cX5_comparedAhead 16 = .ok (.iload 4, 2) := by decide +kernel
theorem dX5_comparedAhead_18 : decode cX5_comparedAhead 18 = .ok (.invokevirtual 158, 3) := by decide +kernel
theorem dX5_comparedAhead_21 : decode cX5_comparedAhead 21 = .ok (.iload_n 1, 1) := by decide +kernel
theorem dX5_comparedAhead_22 : decode cX5_comparedAhead 22 = .ok (.if_icmp .ne 19, 3) := by decide +kernel
theorem dX5_comparedAhead_25 : decode cX5_comparedAhead 25 = .ok (.aload_n 0, 1) := by decide +kernel
theorem dX5_comparedAhead_26 : decode cX5_comparedAhead 26 = .ok (.getfield 21, 3) := by decide +kernel
theorem dX5_comparedAhead_29 : decode cX5_comparedAhead 29 = .ok (.iload 4, 2) := by decide +kernel
theorem dX5_comparedAhead_31 : decode cX5_comparedAhead 31 = .ok (.iload_n 2, 1) := by decide +kernel
theorem dX5_comparedAhead_32 : decode cX5_comparedAhead 32 = .ok (.invokevirtual 418, 3) := by decide +kernel
theorem dX5_comparedAhead_35 : decode cX5_comparedAhead 35 = .ok (.ifCond .eq 6, 3) := by decide +kernel
theorem dX5_comparedAhead_38 : decode cX5_comparedAhead 38 = .ok (.iinc 3 1, 3) := by decide +kernel
theorem dX5_comparedAhead_41 : decode cX5_comparedAhead 41 = .ok (.iinc 4 1, 3) := by decide +kernel
theorem dX5_comparedAhead_44 : decode cX5_comparedAhead 44 = .ok (.goto (-39), 3) := by decide +kernel
theorem dX5_comparedAhead_47 : decode cX5_comparedAhead 47 = .ok (.iload_n 3, 1) := by decide +kernel
theorem dX5_comparedAhead_48 : decode cX5_comparedAhead 48 = .ok (.ireturn, 1) := by decide +kernel
theorem dX6_init_0 : decode cX6_init 0 = .ok (.aload_n 0, 1) := by decide +kernel
theorem dX6_init_1 : decode cX6_init 1 = .ok (.invokespecial 1, 3) := by decide +kernel
theorem dX6_init_4 : decode cX6_init 4 = .ok (.aload_n 0, 1) := by decide +kernel
theorem dX6_init_5 : decode cX6_init 5 = .ok (.bipush 12, 2) := by decide +kernel
theorem dX6_init_7 : decode cX6_init 7 = .ok (.newarray .int, 2) := by decide +kernel
theorem dX6_init_9 : decode cX6_init 9 = .ok (.putfield 7, 3) := by decide +kernel
theorem dX6_init_12 : decode cX6_init 12 = .ok (.aload_n 0, 1) := by decide +kernel
theorem dX6_init_13 : decode cX6_init 13 = .ok (.bipush 12, 2) := by decide +kernel
theorem dX6_init_15 : decode cX6_init 15 = .ok (.newarray .int, 2) := by decide +kernel
theorem dX6_init_17 : decode cX6_init 17 = .ok (.putfield 13, 3) := by decide +kernel
theorem dX6_init_20 : decode cX6_init 20 = .ok (.aload_n 0, 1) := by decide +kernel
theorem dX6_init_21 : decode cX6_init 21 = .ok (.bipush 12, 2) := by decide +kernel
theorem dX6_init_23 : decode cX6_init 23 = .ok (.newarray .int, 2) := by decide +kernel
theorem dX6_init_25 : decode cX6_init 25 = .ok (.putfield 16, 3) := by decide +kernel
theorem dX6_init_28 : decode cX6_init 28 = .ok (.aload_n 0, 1) := by decide +kernel
theorem dX6_init_29 : decode cX6_init 29 = .ok (.bipush 12, 2) := by decide +kernel
theorem dX6_init_31 : decode cX6_init 31 = .ok (.newarray .int, 2) := by decide +kernel
theorem dX6_init_33 : decode cX6_init 33 = .ok (.putfield 19, 3) := by decide +kernel
theorem dX6_init_36 : decode cX6_init 36 = .ok (.aload_n 0, 1) := by decide +kernel
theorem dX6_init_37 : decode cX6_init 37 = .ok (.bipush 12, 2) := by decide +kernel
theorem dX6_init_39 : decode cX6_init 39 = .ok (.newarray .int, 2) := by decide +kernel
theorem dX6_init_41 : decode cX6_init 41 = .ok (.putfield 22, 3) := by decide +kernel
theorem dX6_init_44 : decode cX6_init 44 = .ok (.aload_n 0, 1) := by decide +kernel
theorem dX6_init_45 : decode cX6_init 45 = .ok (.bipush 12, 2) := by decide +kernel
theorem dX6_init_47 : decode cX6_init 47 = .ok (.newarray .int, 2) := by decide +kernel
theorem dX6_init_49 : decode cX6_init 49 = .ok (.putfield 25, 3) := by decide +kernel
theorem dX6_init_52 : decode cX6_init 52 = .ok (.aload_n 0, 1) := by decide +kernel
theorem dX6_init_53 : decode cX6_init 53 = .ok (.bipush 12, 2) := by decide +kernel
theorem dX6_init_55 : decode cX6_init 55 = .ok (.newarray .int, 2) := by decide +kernel
theorem dX6_init_57 : decode cX6_init 57 = .ok (.putfield 28, 3) := by decide +kernel
theorem dX6_init_60 : decode cX6_init 60 = .ok (.aload_n 0, 1) := by decide +kernel
theorem dX6_init_61 : decode cX6_init 61 = .ok (.bipush 12, 2) := by decide +kernel
theorem dX6_init_63 : decode cX6_init 63 = .ok (.newarray .int, 2) := by decide +kernel
theorem dX6_init_65 : decode cX6_init 65 = .ok (.putfield 31, 3) := by decide +kernel
theorem dX6_init_68 : decode cX6_init 68 = .ok (.aload_n 0, 1) := by decide +kernel
theorem dX6_init_69 : decode cX6_init 69 = .ok (.bipush 60, 2) := by decide +kernel
theorem dX6_init_71 : decode cX6_init 71 = .ok (.newarray .int, 2) := by decide +kernel
theorem dX6_init_73 : decode cX6_init 73 = .ok (.putfield 34, 3) := by decide +kernel
theorem dX6_init_76 : decode cX6_init 76 = .ok (.aload_n 0, 1) := by decide +kernel
theorem dX6_init_77 : decode cX6_init 77 = .ok (.bipush 60, 2) := by decide +kernel
theorem dX6_init_79 : decode cX6_init 79 = .ok (.newarray .int, 2) := by decide +kernel
theorem dX6_init_81 : decode cX6_init 81 = .ok (.putfield 37, 3) := by decide +kernel
theorem dX6_init_84 : decode cX6_init 84 = .ok (.aload_n 0, 1) := by decide +kernel
theorem dX6_init_85 : decode cX6_init 85 = .ok (.sipush 180, 3) := by decide +kernel
theorem dX6_init_88 : decode cX6_init 88 = .ok (.newarray .int, 2) := by decide +kernel
theorem dX6_init_90 : decode cX6_init 90 = .ok (.putfield 40, 3) := by decide +kernel
theorem dX6_init_93 : decode cX6_init 93 = .ok (.aload_n 0, 1) := by decide +kernel
theorem dX6_init_94 : decode cX6_init 94 = .ok (.bipush 60, 2) := by decide +kernel
theorem dX6_init_96 : decode cX6_init 96 = .ok (.newarray .boolean, 2) := by decide +kernel
theorem dX6_init_98 : decode cX6_init 98 = .ok (.putfield 43, 3) := by decide +kernel
theorem dX6_init_101 : decode cX6_init 101 = .ok (.aload_n 0, 1) := by decide +kernel
theorem dX6_init_102 : decode cX6_init 102 = .ok (.iconst 3, 1) := by decide +kernel
theorem dX6_init_103 : decode cX6_init 103 = .ok (.newarray .int, 2) := by decide +kernel
theorem dX6_init_105 : decode cX6_init 105 = .ok (.putfield 47, 3) := by decide +kernel
theorem dX6_init_108 : decode cX6_init 108 = .ok (.aload_n 0, 1) := by decide +kernel
theorem dX6_init_109 : decode cX6_init 109 = .ok (.sipush 180, 3) := by decide +kernel
theorem dX6_init_112 : decode cX6_init 112 = .ok (.newarray .int, 2) := by decide +kernel
theorem dX6_init_114 : decode cX6_init 114 = .ok (.putfield 50, 3) := by decide +kernel
theorem dX6_init_117 : decode cX6_init 117 = .ok (.aload_n 0, 1) := by decide +kernel
theorem dX6_init_118 : decode cX6_init 118 = .ok (.iconst 4, 1) := by decide +kernel
theorem dX6_init_119 : decode cX6_init 119 = .ok (.newarray .int, 2) := by decide +kernel
theorem dX6_init_121 : decode cX6_init 121 = .ok (.putfield 53, 3) := by decide +kernel
theorem dX6_init_124 : decode cX6_init 124 = .ok (.aload_n 0, 1) := by decide +kernel
theorem dX6_init_125 : decode cX6_init 125 = .ok (.iconst 4, 1) := by decide +kernel
theorem dX6_init_126 : decode cX6_init 126 = .ok (.newarray .int, 2) := by decide +kernel
theorem dX6_init_128 : decode cX6_init 128 = .ok (.putfield 56, 3) := by decide +kernel
theorem dX6_init_131 : decode cX6_init 131 = .ok (.aload_n 0, 1) := by decide +kernel
theorem dX6_init_132 : decode cX6_init 132 = .ok (.iconst 4, 1) := by decide +kernel
theorem dX6_init_133 : decode cX6_init 133 = .ok (.newarray .int, 2) := by decide +kernel
theorem dX6_init_135 : decode cX6_init 135 = .ok (.putfield 59, 3) := by decide +kernel
theorem dX6_init_138 : decode cX6_init 138 = .ok (.aload_n 0, 1) := by decide +kernel
theorem dX6_init_139 : decode cX6_init 139 = .ok (.iconst 4, 1) := by decide +kernel
theorem dX6_init_140 : decode cX6_init 140 = .ok (.newarray .int, 2) := by decide +kernel
theorem dX6_init_142 : decode cX6_init 142 = .ok (.putfield 62, 3) := by decide +kernel
theorem dX6_init_145 : decode cX6_init 145 = .ok (.aload_n 0, 1) := by decide +kernel
theorem dX6_init_146 : decode cX6_init 146 = .ok (.iconst 4, 1) := by decide +kernel
theorem dX6_init_147 : decode cX6_init 147 = .ok (.newarray .int, 2) := by decide +kernel
theorem dX6_init_149 : decode cX6_init 149 = .ok (.putfield 65, 3) := by decide +kernel
theorem dX6_init_152 : decode cX6_init 152 = .ok (.aload_n 0, 1) := by decide +kernel
theorem dX6_init_153 : decode cX6_init 153 = .ok (.iconst 4, 1) := by decide +kernel
theorem dX6_init_154 : decode cX6_init 154 = .ok (.newarray .int, 2) := by decide +kernel
theorem dX6_init_156 : decode cX6_init 156 = .ok (.putfield 68, 3) := by decide +kernel
theorem dX6_init_159 : decode cX6_init 159 = .ok (.aload_n 0, 1) := by decide +kernel
theorem dX6_init_160 : decode cX6_init 160 = .ok (.bipush 16, 2) := by decide +kernel
theorem dX6_init_162 : decode cX6_init 162 = .ok (.newarray .int, 2) := by decide +kernel
theorem dX6_init_164 : decode cX6_init 164 = .ok (.putfield 71, 3) := by decide +kernel
theorem dX6_init_167 : decode cX6_init 167 = .ok (.aload_n 0, 1) := by decide +kernel
theorem dX6_init_168 : decode cX6_init 168 = .ok (.bipush 16, 2) := by decide +kernel
theorem dX6_init_170 : decode cX6_init 170 = .ok (.newarray .int, 2) := by decide +kernel
theorem dX6_init_172 : decode cX6_init 172 = .ok (.putfield 74, 3) := by decide +kernel
theorem dX6_init_175 : decode cX6_init 175 = .ok (.aload_n 0, 1) := by decide +kernel
theorem dX6_init_176 : decode cX6_init 176 = .ok (.iconst 4, 1) := by decide +kernel
theorem dX6_init_177 : decode cX6_init 177 = .ok (.newarray .int, 2) := by decide +kernel
theorem dX6_init_179 : decode cX6_init 179 = .ok (.putfield 77, 3) := by decide +kernel
theorem dX6_init_182 : decode cX6_init 182 = .ok (.aload_n 0, 1) := by decide +kernel
theorem dX6_init_183 : decode cX6_init 183 = .ok (.iconst 4, 1) := by decide +kernel
theorem dX6_init_184 : decode cX6_init 184 = .ok (.newarray .int, 2) := by decide +kernel
theorem dX6_init_186 : decode cX6_init 186 = .ok (.putfield 80, 3) := by decide +kernel
theorem dX6_init_189 : decode cX6_init 189 = .ok (.aload_n 0, 1) := by decide +kernel
theorem dX6_init_190 : decode cX6_init 190 = .ok (.iconst 4, 1) := by decide +kernel
theorem dX6_init_191 : decode cX6_init 191 = .ok (.newarray .int, 2) := by decide +kernel
theorem dX6_init_193 : decode cX6_init 193 = .ok (.putfield 83, 3) := by decide +kernel
theorem dX6_init_196 : decode cX6_init 196 = .ok (.aload_n 0, 1) := by decide +kernel
theorem dX6_init_197 : decode cX6_init 197 = .ok (.bipush 12, 2) := by decide +kernel
theorem dX6_init_199 : decode cX6_init 199 = .ok (.newarray .boolean, 2) := by decide +kernel
theorem dX6_init_201 : decode cX6_init 201 = .ok (.putfield 86, 3) := by decide +kernel
theorem dX6_init_204 : decode cX6_init 204 = .ok (.aload_n 0, 1) := by decide +kernel
theorem dX6_init_205 : decode cX6_init 205 = .ok (.bipush 12, 2) := by decide +kernel
theorem dX6_init_207 : decode cX6_init 207 = .ok (.newarray .int, 2) := by decide +kernel
theorem dX6_init_209 : decode cX6_init 209 = .ok (.putfield 89, 3) := by decide +kernel
theorem dX6_init_212 : decode cX6_init 212 = .ok (.aload_n 0, 1) := by decide +kernel
theorem dX6_init_213 : decode cX6_init 213 = .ok (.bipush 12, 2) := by decide +kernel
theorem dX6_init_215 : decode cX6_init 215 = .ok (.newarray .int, 2) := by decide +kernel
theorem dX6_init_217 : decode cX6_init 217 = .ok (.putfield 92, 3) := by decide +kernel
theorem dX6_init_220 : decode cX6_init 220 = .ok (.aload_n 0, 1) := by decide +kernel
theorem dX6_init_221 : decode cX6_init 221 = .ok (.bipush 12, 2) := by decide +kernel
theorem dX6_init_223 : decode cX6_init 223 = .ok (.newarray .int, 2) := by decide +kernel
theorem dX6_init_225 : decode cX6_init 225 = .ok (.putfield 95, 3) := by decide +kernel
theorem dX6_init_228 : decode cX6_init 228 = .ok (.aload_n 0, 1) := by decide +kernel
theorem dX6_init_229 : decode cX6_init 229 = .ok (.bipush 12, 2) := by decide +kernel
theorem dX6_init_231 : decode cX6_init 231 = .ok (.newarray .int, 2) := by decide +kernel
theorem dX6_init_233 : decode cX6_init 233 = .ok (.putfield 98, 3) := by decide +kernel
theorem dX6_init_236 : decode cX6_init 236 = .ok (.aload_n 0, 1) := by decide +kernel
theorem dX6_init_237 : decode cX6_init 237 = .ok (.iconst 4, 1) := by decide +kernel
theorem dX6_init_238 : decode cX6_init 238 = .ok (.newarray .int, 2) := by decide +kernel
theorem dX6_init_240 : decode cX6_init 240 = .ok (.putfield 101, 3) := by decide +kernel
theorem dX6_init_243 : decode cX6_init 243 = .ok (.aload_n 0, 1) := by decide +kernel
theorem dX6_init_244 : decode cX6_init 244 = .ok (.iconst 4, 1) := by decide +kernel
theorem dX6_init_245 : decode cX6_init 245 = .ok (.newarray .int, 2) := by decide +kernel
theorem dX6_init_247 : decode cX6_init 247 = .ok (.putfield 104, 3) := by decide +kernel
theorem dX6_init_250 : decode cX6_init 250 = .ok (.iconst 0, 1) := by decide +kernel
theorem dX6_init_251 : decode cX6_init 251 = .ok (.istore_n 1, 1) := by decide +kernel
theorem dX6_init_252 : decode cX6_init 252 = .ok (.iload_n 1, 1) := by decide +kernel
theorem dX6_init_253 : decode cX6_init 253 = .ok (.bipush 60, 2) := by decide +kernel
theorem dX6_init_255 : decode cX6_init 255 = .ok (.if_icmp .ge 16, 3) := by decide +kernel
theorem dX6_init_258 : decode cX6_init 258 = .ok (.aload_n 0, 1) := by decide +kernel
theorem dX6_init_259 : decode cX6_init 259 = .ok (.getfield 34, 3) := by decide +kernel
theorem dX6_init_262 : decode cX6_init 262 = .ok (.iload_n 1, 1) := by decide +kernel
theorem dX6_init_263 : decode cX6_init 263 = .ok (.iconst (-1), 1) := by decide +kernel
theorem dX6_init_264 : decode cX6_init 264 = .ok (.iastore, 1) := by decide +kernel
theorem dX6_init_265 : decode cX6_init 265 = .ok (.iinc 1 1, 3) := by decide +kernel
theorem dX6_init_268 : decode cX6_init 268 = .ok (.goto (-16), 3) := by decide +kernel
theorem dX6_init_271 : decode cX6_init 271 = .ok (.iconst 0, 1) := by decide +kernel
theorem dX6_init_272 : decode cX6_init 272 = .ok (.istore_n 1, 1) := by decide +kernel
theorem dX6_init_273 : decode cX6_init 273 = .ok (.iload_n 1, 1) := by decide +kernel
theorem dX6_init_274 : decode cX6_init 274 = .ok (.iconst 4, 1) := by decide +kernel
theorem dX6_init_275 : decode cX6_init 275 = .ok (.if_icmp .ge 16, 3) := by decide +kernel
theorem dX6_init_278 : decode cX6_init 278 = .ok (.aload_n 0, 1) := by decide +kernel
theorem dX6_init_279 : decode cX6_init 279 = .ok (.iload_n 1, 1) := by decide +kernel
theorem dX6_init_280 : decode cX6_init 280 = .ok (.iconst 0, 1) := by decide +kernel
theorem dX6_init_281 : decode cX6_init 281 = .ok (.iconst 0, 1) := by decide +kernel
theorem dX6_init_282 : decode cX6_init 282 = .ok (.invokevirtual 107, 3) := by decide +kernel
theorem dX6_init_285 : decode cX6_init 285 = .ok (.iinc 1 1, 3) := by decide +kernel
theorem dX6_init_288 : decode cX6_init 288 = .ok (.goto (-15), 3) := by decide +kernel
theorem dX6_init_291 : decode cX6_init 291 = .ok (.return_, 1) := by decide +kernel
theorem dX6_thrown_0 : decode cX6_thrown 0 = .ok (.aload_n 0, 1) := by decide +kernel
theorem dX6_thrown_1 : decode cX6_thrown 1 = .ok (.getfield 111, 3) := by decide +kernel
theorem dX6_thrown_4 : decode cX6_thrown 4 = .ok (.ireturn, 1) := by decide +kernel
theorem dX6_in_0 : decode cX6_in 0 = .ok (.iload_n 0, 1) := by decide +kernel
theorem dX6_in_1 : decode cX6_in 1 = .ok (.iload_n 1, 1) := by decide +kernel
theorem dX6_in_2 : decode cX6_in 2 = .ok (.if_icmp .lt 12, 3) := by decide +kernel
theorem dX6_in_5 : decode cX6_in 5 = .ok (.iload_n 0, 1) := by decide +kernel
theorem dX6_in_6 : decode cX6_in 6 = .ok (.iload_n 2, 1) := by decide +kernel
theorem dX6_in_7 : decode cX6_in 7 = .ok (.if_icmp .gt 7, 3) := by decide +kernel
theorem dX6_in_10 : decode cX6_in 10 = .ok (.iconst 1, 1) := by decide +kernel
theorem dX6_in_11 : decode cX6_in 11 = .ok (.goto 4, 3) := by decide +kernel
theorem dX6_in_14 : decode cX6_in 14 = .ok (.iconst 0, 1) := by decide +kernel
theorem dX6_in_15 : decode cX6_in 15 = .ok (.ireturn, 1) := by decide +kernel
theorem dX6_goes_0 : decode cX6_goes 0 = .ok (.aload_n 0, 1) := by decide +kernel
theorem dX6_goes_1 : decode cX6_goes 1 = .ok (.iload_n 1, 1) := by decide +kernel
theorem dX6_goes_2 : decode cX6_goes 2 = .ok (.ifCond .ne 7, 3) := by decide +kernel
theorem dX6_goes_5 : decode cX6_goes 5 = .ok (.iconst 1, 1) := by decide +kernel
theorem dX6_goes_6 : decode cX6_goes 6 = .ok (.goto 20, 3) := by decide +kernel
theorem dX6_goes_9 : decode cX6_goes 9 = .ok (.iload_n 2, 1) := by decide +kernel
theorem dX6_goes_10 : decode cX6_goes 10 = .ok (.ifCond .ne 7, 3) := by decide +kernel
theorem dX6_goes_13 : decode cX6_goes 13 = .ok (.iconst 2, 1) := by decide +kernel
theorem dX6_goes_14 : decode cX6_goes 14 = .ok (.goto 12, 3) := by decide +kernel
theorem dX6_goes_17 : decode cX6_goes 17 = .ok (.iload_n 3, 1) := by decide +kernel
theorem dX6_goes_18 : decode cX6_goes 18 = .ok (.ifCond .ne 7, 3) := by decide +kernel
theorem dX6_goes_21 : decode cX6_goes 21 = .ok (.iconst 3, 1) := by decide +kernel
theorem dX6_goes_22 : decode cX6_goes 22 = .ok (.goto 4, 3) := by decide +kernel
theorem dX6_goes_25 : decode cX6_goes 25 = .ok (.iconst 0, 1) := by decide +kernel
theorem dX6_goes_26 : decode cX6_goes 26 = .ok (.putfield 111, 3) := by decide +kernel
theorem dX6_goes_29 : decode cX6_goes 29 = .ok (.aload_n 0, 1) := by decide +kernel
theorem dX6_goes_30 : decode cX6_goes 30 = .ok (.getfield 111, 3) := by decide +kernel
theorem dX6_goes_33 : decode cX6_goes 33 = .ok (.ifCond .ne 7, 3) := by decide +kernel
theorem dX6_goes_36 : decode cX6_goes 36 = .ok (.iconst 1, 1) := by decide +kernel
theorem dX6_goes_37 : decode cX6_goes 37 = .ok (.goto 4, 3) := by decide +kernel
theorem dX6_goes_40 : decode cX6_goes 40 = .ok (.iconst 0, 1) := by decide +kernel
theorem dX6_goes_41 : decode cX6_goes 41 = .ok (.ireturn, 1) := by decide +kernel
theorem dX6_told_0 : decode cX6_told 0 = .ok (.aload_n 0, 1) := by decide +kernel
theorem dX6_told_1 : decode cX6_told 1 = .ok (.iconst 0, 1) := by decide +kernel
theorem dX6_told_2 : decode cX6_told 2 = .ok (.putfield 111, 3) := by decide +kernel
theorem dX6_told_5 : decode cX6_told 5 = .ok (.iload_n 1, 1) := by decide +kernel
theorem dX6_told_6 : decode cX6_told 6 = .ok (.ireturn, 1) := by decide +kernel
theorem dX6_isDatabase_0 : decode cX6_isDatabase 0 = .ok (.iload_n 0, 1) := by decide +kernel
theorem dX6_isDatabase_1 : decode cX6_isDatabase 1 = .ok (.iconst 0, 1) := by decide +kernel
theorem dX6_isDatabase_2 : decode cX6_isDatabase 2 = .ok (.iconst 2, 1) := by decide +kernel
theorem dX6_isDatabase_3 : decode cX6_isDatabase 3 = .ok (.invokestatic 115, 3) := by decide +kernel
theorem dX6_isDatabase_6 : decode cX6_isDatabase 6 = .ok (.ireturn, 1) := by decide +kernel
theorem dX6_isType_0 : decode cX6_isType 0 = .ok (.iload_n 1, 1) := by decide +kernel
theorem dX6_isType_1 : decode cX6_isType 1 = .ok (.iconst 0, 1) := by decide +kernel
theorem dX6_isType_2 : decode cX6_isType 2 = .ok (.aload_n 0, 1) := by decide +kernel
theorem dX6_isType_3 : decode cX6_isType 3 = .ok (.getfield 119, 3) := by decide +kernel
theorem dX6_isType_6 : decode cX6_isType 6 = .ok (.iconst 1, 1) := by decide +kernel
theorem dX6_isType_7 : decode cX6_isType 7 = .ok (.isub, 1) := by decide +kernel
theorem dX6_isType_8 : decode cX6_isType 8 = .ok (.invokestatic 115, 3) := by decide +kernel
theorem dX6_isType_11 : decode cX6_isType 11 = .ok (.ireturn, 1) := by decide +kernel
theorem dX6_isView_0 : decode cX6_isView 0 = .ok (.iload_n 0, 1) := by decide +kernel
theorem dX6_isView_1 : decode cX6_isView 1 = .ok (.iconst 0, 1) := by decide +kernel
theorem dX6_isView_2 : decode cX6_isView 2 = .ok (.iconst 3, 1) := by decide +kernel
theorem dX6_isView_3 : decode cX6_isView 3 = .ok (.invokestatic 115, 3) := by decide +kernel
theorem dX6_isView_6 : decode cX6_isView 6 = .ok (.ireturn, 1) := by decide +kernel
theorem dX6_isNumber_0 : decode cX6_isNumber 0 = .ok (.iload_n 0, 1) := by decide +kernel
theorem dX6_isNumber_1 : decode cX6_isNumber 1 = .ok (.iconst 0, 1) := by decide +kernel
theorem dX6_isNumber_2 : decode cX6_isNumber 2 = .ok (.sipush 999, 3) := by decide +kernel
theorem dX6_isNumber_5 : decode cX6_isNumber 5 = .ok (.invokestatic 115, 3) := by decide +kernel
theorem dX6_isNumber_8 : decode cX6_isNumber 8 = .ok (.ireturn, 1) := by decide +kernel
theorem dX6_all_0 : decode cX6_all 0 = .ok (.aload_n 0, 1) := by decide +kernel
theorem dX6_all_1 : decode cX6_all 1 = .ok (.getfield 47, 3) := by decide +kernel
theorem dX6_all_4 : decode cX6_all 4 = .ok (.iconst 0, 1) := by decide +kernel
theorem dX6_all_5 : decode cX6_all 5 = .ok (.iaload, 1) := by decide +kernel
theorem dX6_all_6 : decode cX6_all 6 = .ok (.aload_n 0, 1) := by decide +kernel
theorem dX6_all_7 : decode cX6_all 7 = .ok (.getfield 47, 3) := by decide +kernel
theorem dX6_all_10 : decode cX6_all 10 = .ok (.iconst 1, 1) := by decide +kernel
theorem dX6_all_11 : decode cX6_all 11 = .ok (.iaload, 1) := by decide +kernel
theorem dX6_all_12 : decode cX6_all 12 = .ok (.iadd, 1) := by decide +kernel
theorem dX6_all_13 : decode cX6_all 13 = .ok (.aload_n 0, 1) := by decide +kernel
theorem dX6_all_14 : decode cX6_all 14 = .ok (.getfield 47, 3) := by decide +kernel
theorem dX6_all_17 : decode cX6_all 17 = .ok (.iconst 2, 1) := by decide +kernel
theorem dX6_all_18 : decode cX6_all 18 = .ok (.iaload, 1) := by decide +kernel
theorem dX6_all_19 : decode cX6_all 19 = .ok (.iadd, 1) := by decide +kernel
theorem dX6_all_20 : decode cX6_all 20 = .ok (.ireturn, 1) := by decide +kernel
theorem dX6_hasRoot_0 : decode cX6_hasRoot 0 = .ok (.iconst 0, 1) := by decide +kernel
theorem dX6_hasRoot_1 : decode cX6_hasRoot 1 = .ok (.istore_n 2, 1) := by decide +kernel
theorem dX6_hasRoot_2 : decode cX6_hasRoot 2 = .ok (.iconst 0, 1) := by decide +kernel
theorem dX6_hasRoot_3 : decode cX6_hasRoot 3 = .ok (.istore_n 3, 1) := by decide +kernel
theorem dX6_hasRoot_4 : decode cX6_hasRoot 4 = .ok (.iload_n 3, 1) := by decide +kernel
theorem dX6_hasRoot_5 : decode cX6_hasRoot 5 = .ok (.aload_n 0, 1) := by decide +kernel
theorem dX6_hasRoot_6 : decode cX6_hasRoot 6 = .ok (.getfield 119, 3) := by decide +kernel
theorem dX6_hasRoot_9 : decode cX6_hasRoot 9 = .ok (.if_icmp .ge 39, 3) := by decide +kernel
theorem dX6_hasRoot_12 : decode cX6_hasRoot 12 = .ok (.iload_n 2, 1) := by decide +kernel
theorem dX6_hasRoot_13 : decode cX6_hasRoot 13 = .ok (.ifCond .ne 23, 3) := by decide +kernel
theorem dX6_hasRoot_16 : decode cX6_hasRoot 16 = .ok (.aload_n 0, 1) := by decide +kernel
theorem dX6_hasRoot_17 : decode cX6_hasRoot 17 = .ok (.getfield 7, 3) := by decide +kernel
theorem dX6_hasRoot_20 : decode cX6_hasRoot 20 = .ok (.iload_n 3, 1) := by decide +kernel
theorem dX6_hasRoot_21 : decode cX6_hasRoot 21 = .ok (.iaload, 1) := by decide +kernel
theorem dX6_hasRoot_22 : decode cX6_hasRoot 22 = .ok (.iload_n 1, 1) := by decide +kernel
theorem dX6_hasRoot_23 : decode cX6_hasRoot 23 = .ok (.if_icmp .ne 17, 3) := by decide +kernel
theorem dX6_hasRoot_26 : decode cX6_hasRoot 26 = .ok (.aload_n 0, 1) := by decide +kernel
theorem dX6_hasRoot_27 : decode cX6_hasRoot 27 = .ok (.getfield 13, 3) := by decide +kernel
theorem dX6_hasRoot_30 : decode cX6_hasRoot 30 = .ok (.iload_n 3, 1) := by decide +kernel
theorem dX6_hasRoot_31 : decode cX6_hasRoot 31 = .ok (.iaload, 1) := by decide +kernel
theorem dX6_hasRoot_32 : decode cX6_hasRoot 32 = .ok (.iconst (-1), 1) := by decide +kernel
theorem dX6_hasRoot_33 : decode cX6_hasRoot 33 = .ok (.if_icmp .ne 7, 3) := by decide +kernel
theorem dX6_hasRoot_36 : decode cX6_hasRoot 36 = .ok (.iconst 1, 1) := by decide +kernel
theorem dX6_hasRoot_37 : decode cX6_hasRoot 37 = .ok (.goto 4, 3) := by decide +kernel
theorem dX6_hasRoot_40 : decode cX6_hasRoot 40 = .ok (.iconst 0, 1) := by decide +kernel
theorem dX6_hasRoot_41 : decode cX6_hasRoot 41 = .ok (.istore_n 2, 1) := by decide +kernel
theorem dX6_hasRoot_42 : decode cX6_hasRoot 42 = .ok (.iinc 3 1, 3) := by decide +kernel
theorem dX6_hasRoot_45 : decode cX6_hasRoot 45 = .ok (.goto (-41), 3) := by decide +kernel
theorem dX6_hasRoot_48 : decode cX6_hasRoot 48 = .ok (.iload_n 2, 1) := by decide +kernel
theorem dX6_hasRoot_49 : decode cX6_hasRoot 49 = .ok (.ireturn, 1) := by decide +kernel
theorem dX6_type_0 : decode cX6_type 0 = .ok (.iload_n 1, 1) := by decide +kernel
theorem dX6_type_1 : decode cX6_type 1 = .ok (.invokestatic 122, 3) := by decide +kernel
theorem dX6_type_4 : decode cX6_type 4 = .ok (.ifCond .eq 20, 3) := by decide +kernel
theorem dX6_type_7 : decode cX6_type 7 = .ok (.iload_n 2, 1) := by decide +kernel
theorem dX6_type_8 : decode cX6_type 8 = .ok (.iconst (-1), 1) := by decide +kernel
theorem dX6_type_9 : decode cX6_type 9 = .ok (.if_icmp .eq 11, 3) := by decide +kernel
theorem dX6_type_12 : decode cX6_type 12 = .ok (.aload_n 0, 1) := by decide +kernel
theorem dX6_type_13 : decode cX6_type 13 = .ok (.iload_n 2, 1) := by decide +kernel
theorem dX6_type_14 : decode cX6_type 14 = .ok (.invokevirtual 126, 3) := by decide +kernel
theorem dX6_type_17 : decode cX6_type 17 = .ok (.ifCond .eq 7, 3) := by decide +kernel
theorem dX6_type_20 : decode cX6_type 20 = .ok (.iconst 1, 1) := by decide +kernel
theorem dX6_type_21 : decode cX6_type 21 = .ok (.goto 4, 3) := by decide +kernel
theorem dX6_type_24 : decode cX6_type 24 = .ok (.iconst 0, 1) := by decide +kernel
theorem dX6_type_25 : decode cX6_type 25 = .ok (.istore 5, 2) := by decide +kernel
theorem dX6_type_27 : decode cX6_type 27 = .ok (.iload 5, 2) := by decide +kernel
theorem dX6_type_29 : decode cX6_type 29 = .ok (.ifCond .eq 48, 3) := by decide +kernel
theorem dX6_type_32 : decode cX6_type 32 = .ok (.iload_n 2, 1) := by decide +kernel
theorem dX6_type_33 : decode cX6_type 33 = .ok (.iconst (-1), 1) := by decide +kernel
theorem dX6_type_34 : decode cX6_type 34 = .ok (.if_icmp .ne 10, 3) := by decide +kernel
theorem dX6_type_37 : decode cX6_type 37 = .ok (.iload_n 3, 1) := by decide +kernel
theorem dX6_type_38 : decode cX6_type 38 = .ok (.ifCond .ne 39, 3) := by decide +kernel
theorem dX6_type_41 : decode cX6_type 41 = .ok (.goto 13, 3) := by decide +kernel
theorem dX6_type_44 : decode cX6_type 44 = .ok (.aload_n 0, 1) := by decide +kernel
theorem dX6_type_45 : decode cX6_type 45 = .ok (.getfield 7, 3) := by decide +kernel
theorem dX6_type_48 : decode cX6_type 48 = .ok (.iload_n 2, 1) := by decide +kernel
theorem dX6_type_49 : decode cX6_type 49 = .ok (.iaload, 1) := by decide +kernel
theorem dX6_type_50 : decode cX6_type 50 = .ok (.iload_n 1, 1) := by decide +kernel
theorem dX6_type_51 : decode cX6_type 51 = .ok (.if_icmp .ne 26, 3) := by decide +kernel
theorem dX6_type_54 : decode cX6_type 54 = .ok (.iload_n 3, 1) := by decide +kernel
theorem dX6_type_55 : decode cX6_type 55 = .ok (.iconst 0, 1) := by decide +kernel
theorem dX6_type_56 : decode cX6_type 56 = .ok (.iconst 2, 1) := by decide +kernel
theorem dX6_type_57 : decode cX6_type 57 = .ok (.invokestatic 115, 3) := by decide +kernel
theorem dX6_type_60 : decode cX6_type 60 = .ok (.ifCond .eq 17, 3) := by decide +kernel
theorem dX6_type_63 : decode cX6_type 63 = .ok (.iload 4, 2) := by decide +kernel
theorem dX6_type_65 : decode cX6_type 65 = .ok (.iconst 0, 1) := by decide +kernel
theorem dX6_type_66 : decode cX6_type 66 = .ok (.iconst 2, 1) := by decide +kernel
theorem dX6_type_67 : decode cX6_type 67 = .ok (.invokestatic 115, 3) := by decide +kernel
theorem dX6_type_70 : decode cX6_type 70 = .ok (.ifCond .eq 7, 3) := by decide +kernel
theorem dX6_type_73 : decode cX6_type 73 = .ok (.iconst 1, 1) := by decide +kernel
theorem dX6_type_74 : decode cX6_type 74 = .ok (.goto 4, 3) := by decide +kernel
theorem dX6_type_77 : decode cX6_type 77 = .ok (.iconst 0, 1) := by decide +kernel
theorem dX6_type_78 : decode cX6_type 78 = .ok (.istore 6, 2) := by decide +kernel
theorem dX6_type_80 : decode cX6_type 80 = .ok (.iload 6, 2) := by decide +kernel
theorem dX6_type_82 : decode cX6_type 82 = .ok (.ifCond .eq 51, 3) := by decide +kernel
theorem dX6_type_85 : decode cX6_type 85 = .ok (.aload_n 0, 1) := by decide +kernel
theorem dX6_type_86 : decode cX6_type 86 = .ok (.getfield 47, 3) := by decide +kernel
theorem dX6_type_89 : decode cX6_type 89 = .ok (.iload_n 1, 1) := by decide +kernel
theorem dX6_type_90 : decode cX6_type 90 = .ok (.iaload, 1) := by decide +kernel
theorem dX6_type_91 : decode cX6_type 91 = .ok (.ifCond .ne 42, 3) := by decide +kernel
theorem dX6_type_94 : decode cX6_type 94 = .ok (.aload_n 0, 1) := by decide +kernel
theorem dX6_type_95 : decode cX6_type 95 = .ok (.getfield 119, 3) := by decide +kernel
theorem dX6_type_98 : decode cX6_type 98 = .ok (.bipush 12, 2) := by decide +kernel
theorem dX6_type_100 : decode cX6_type 100 = .ok (.if_icmp .ge 33, 3) := by decide +kernel
theorem dX6_type_103 : decode cX6_type 103 = .ok (.iload_n 2, 1) := by decide +kernel
theorem dX6_type_104 : decode cX6_type 104 = .ok (.iconst (-1), 1) := by decide +kernel
theorem dX6_type_105 : decode cX6_type 105 = .ok (.if_icmp .ne 14, 3) := by decide +kernel
theorem dX6_type_108 : decode cX6_type 108 = .ok (.aload_n 0, 1) := by decide +kernel
theorem dX6_type_109 : decode cX6_type 109 = .ok (.iload_n 1, 1) := by decide +kernel
theorem dX6_type_110 : decode cX6_type 110 = .ok (.invokevirtual 129, 3) := by decide +kernel
theorem dX6_type_113 : decode cX6_type 113 = .ok (.ifCond .ne 20, 3) := by decide +kernel
theorem dX6_type_116 : decode cX6_type 116 = .ok (.goto 13, 3) := by decide +kernel
theorem dX6_type_119 : decode cX6_type 119 = .ok (.aload_n 0, 1) := by decide +kernel
theorem dX6_type_120 : decode cX6_type 120 = .ok (.getfield 22, 3) := by decide +kernel
theorem dX6_type_123 : decode cX6_type 123 = .ok (.iload_n 2, 1) := by decide +kernel
theorem dX6_type_124 : decode cX6_type 124 = .ok (.iaload, 1) := by decide +kernel
theorem dX6_type_125 : decode cX6_type 125 = .ok (.iconst 4, 1) := by decide +kernel
theorem dX6_type_126 : decode cX6_type 126 = .ok (.if_icmp .ge 7, 3) := by decide +kernel
theorem dX6_type_129 : decode cX6_type 129 = .ok (.iconst 1, 1) := by decide +kernel
theorem dX6_type_130 : decode cX6_type 130 = .ok (.goto 4, 3) := by decide +kernel
theorem dX6_type_133 : decode cX6_type 133 = .ok (.iconst 0, 1) := by decide +kernel
theorem dX6_type_134 : decode cX6_type 134 = .ok (.istore 7, 2) := by decide +kernel
theorem dX6_type_136 : decode cX6_type 136 = .ok (.aload_n 0, 1) := by decide +kernel
theorem dX6_type_137 : decode cX6_type 137 = .ok (.iload 5, 2) := by decide +kernel
theorem dX6_type_139 : decode cX6_type 139 = .ok (.iload 6, 2) := by decide +kernel
theorem dX6_type_141 : decode cX6_type 141 = .ok (.iload 7, 2) := by decide +kernel
theorem dX6_type_143 : decode cX6_type 143 = .ok (.invokevirtual 132, 3) := by decide +kernel
theorem dX6_type_146 : decode cX6_type 146 = .ok (.ifCond .ne 5, 3) := by decide +kernel
theorem dX6_type_149 : decode cX6_type 149 = .ok (.iconst 0, 1) := by decide +kernel
theorem dX6_type_150 : decode cX6_type 150 = .ok (.ireturn, 1) := by decide +kernel
theorem dX6_type_151 : decode cX6_type 151 = .ok (.aload_n 0, 1) := by decide +kernel
theorem dX6_type_152 : decode cX6_type 152 = .ok (.getfield 7, 3) := by decide +kernel
theorem dX6_type_155 : decode cX6_type 155 = .ok (.aload_n 0, 1) := by decide +kernel
theorem dX6_type_156 : decode cX6_type 156 = .ok (.getfield 119, 3) := by decide +kernel
theorem dX6_type_159 : decode cX6_type 159 = .ok (.iload_n 1, 1) := by decide +kernel
theorem dX6_type_160 : decode cX6_type 160 = .ok (.iastore, 1) := by decide +kernel
theorem dX6_type_161 : decode cX6_type 161 = .ok (.aload_n 0, 1) := by decide +kernel
theorem dX6_type_162 : decode cX6_type 162 = .ok (.getfield 13, 3) := by decide +kernel
theorem dX6_type_165 : decode cX6_type 165 = .ok (.aload_n 0, 1) := by decide +kernel
theorem dX6_type_166 : decode cX6_type 166 = .ok (.getfield 119, 3) := by decide +kernel
theorem dX6_type_169 : decode cX6_type 169 = .ok (.iload_n 2, 1) := by decide +kernel
theorem dX6_type_170 : decode cX6_type 170 = .ok (.iastore, 1) := by decide +kernel
theorem dX6_type_171 : decode cX6_type 171 = .ok (.aload_n 0, 1) := by decide +kernel
theorem dX6_type_172 : decode cX6_type 172 = .ok (.getfield 16, 3) := by decide +kernel
theorem dX6_type_175 : decode cX6_type 175 = .ok (.aload_n 0, 1) := by decide +kernel
theorem dX6_type_176 : decode cX6_type 176 = .ok (.getfield 119, 3) := by decide +kernel
theorem dX6_type_179 : decode cX6_type 179 = .ok (.iload_n 3, 1) := by decide +kernel
theorem dX6_type_180 : decode cX6_type 180 = .ok (.iastore, 1) := by decide +kernel
theorem dX6_type_181 : decode cX6_type 181 = .ok (.aload_n 0, 1) := by decide +kernel
theorem dX6_type_182 : decode cX6_type 182 = .ok (.getfield 19, 3) := by decide +kernel
theorem dX6_type_185 : decode cX6_type 185 = .ok (.aload_n 0, 1) := by decide +kernel
theorem dX6_type_186 : decode cX6_type 186 = .ok (.getfield 119, 3) := by decide +kernel
theorem dX6_type_189 : decode cX6_type 189 = .ok (.iload 4, 2) := by decide +kernel
theorem dX6_type_191 : decode cX6_type 191 = .ok (.iastore, 1) := by decide +kernel
theorem dX6_type_192 : decode cX6_type 192 = .ok (.aload_n 0, 1) := by decide +kernel
theorem dX6_type_193 : decode cX6_type 193 = .ok (.getfield 22, 3) := by decide +kernel
theorem dX6_type_196 : decode cX6_type 196 = .ok (.aload_n 0, 1) := by decide +kernel
theorem dX6_type_197 : decode cX6_type 197 = .ok (.getfield 119, 3) := by decide +kernel
theorem dX6_type_200 : decode cX6_type 200 = .ok (.iload_n 2, 1) := by decide +kernel
theorem dX6_type_201 : decode cX6_type 201 = .ok (.iconst (-1), 1) := by decide +kernel
theorem dX6_type_202 : decode cX6_type 202 = .ok (.if_icmp .ne 7, 3) := by decide +kernel
theorem dX6_type_205 : decode cX6_type 205 = .ok (.iconst 1, 1) := by decide +kernel
theorem dX6_type_206 : decode cX6_type 206 = .ok (.goto 11, 3) := by decide +kernel
theorem dX6_type_209 : decode cX6_type 209 = .ok (.aload_n 0, 1) := by decide +kernel
theorem dX6_type_210 : decode cX6_type 210 = .ok (.getfield 22, 3) := by decide +kernel
theorem dX6_type_213 : decode cX6_type 213 = .ok (.iload_n 2, 1) := by decide +kernel
theorem dX6_type_214 : decode cX6_type 214 = .ok (.iaload, 1) := by decide +kernel
theorem dX6_type_215 : decode cX6_type 215 = .ok (.iconst 1, 1) := by decide +kernel
theorem dX6_type_216 : decode cX6_type 216 = .ok (.iadd, 1) := by decide +kernel
theorem dX6_type_217 : decode cX6_type 217 = .ok (.iastore, 1) := by decide +kernel
theorem dX6_type_218 : decode cX6_type 218 = .ok (.aload_n 0, 1) := by decide +kernel
theorem dX6_type_219 : decode cX6_type 219 = .ok (.getfield 25, 3) := by decide +kernel
theorem dX6_type_222 : decode cX6_type 222 = .ok (.aload_n 0, 1) := by decide +kernel
theorem dX6_type_223 : decode cX6_type 223 = .ok (.getfield 119, 3) := by decide +kernel
theorem dX6_type_226 : decode cX6_type 226 = .ok (.iconst (-1), 1) := by decide +kernel
theorem dX6_type_227 : decode cX6_type 227 = .ok (.iastore, 1) := by decide +kernel
theorem dX6_type_228 : decode cX6_type 228 = .ok (.aload_n 0, 1) := by decide +kernel
theorem dX6_type_229 : decode cX6_type 229 = .ok (.dup, 1) := by decide +kernel
theorem dX6_type_230 : decode cX6_type 230 = .ok (.getfield 119, 3) := by decide +kernel
theorem dX6_type_233 : decode cX6_type 233 = .ok (.iconst 1, 1) := by decide +kernel
theorem dX6_type_234 : decode cX6_type 234 = .ok (.iadd, 1) := by decide +kernel
theorem dX6_type_235 : decode cX6_type 235 = .ok (.putfield 119, 3) := by decide +kernel
theorem dX6_type_238 : decode cX6_type 238 = .ok (.aload_n 0, 1) := by decide +kernel
theorem dX6_type_239 : decode cX6_type 239 = .ok (.getfield 119, 3) := by decide +kernel
theorem dX6_type_242 : decode cX6_type 242 = .ok (.iconst 1, 1) := by decide +kernel
theorem dX6_type_243 : decode cX6_type 243 = .ok (.isub, 1) := by decide +kernel
theorem dX6_type_244 : decode cX6_type 244 = .ok (.ireturn, 1) := by decide +kernel
theorem dX6_tie_0 : decode cX6_tie 0 = .ok (.aload_n 0, 1) := by decide +kernel
theorem dX6_tie_1 : decode cX6_tie 1 = .ok (.iload_n 1, 1) := by decide +kernel
theorem dX6_tie_2 : decode cX6_tie 2 = .ok (.invokevirtual 126, 3) := by decide +kernel
theorem dX6_tie_5 : decode cX6_tie 5 = .ok (.ifCond .eq 15, 3) := by decide +kernel
theorem dX6_tie_8 : decode cX6_tie 8 = .ok (.aload_n 0, 1) := by decide +kernel
theorem dX6_tie_9 : decode cX6_tie 9 = .ok (.iload_n 2, 1) := by decide +kernel
theorem dX6_tie_10 : decode cX6_tie 10 = .ok (.invokevirtual 126, 3) := by decide +kernel
theorem dX6_tie_13 : decode cX6_tie 13 = .ok (.ifCond .eq 7, 3) := by decide +kernel
theorem dX6_tie_16 : decode cX6_tie 16 = .ok (.iconst 1, 1) := by decide +kernel
theorem dX6_tie_17 : decode cX6_tie 17 = .ok (.goto 4, 3) := by decide +kernel
theorem dX6_tie_20 : decode cX6_tie 20 = .ok (.iconst 0, 1) := by decide +kernel
theorem dX6_tie_21 : decode cX6_tie 21 = .ok (.istore 5, 2) := by decide +kernel
theorem dX6_tie_23 : decode cX6_tie 23 = .ok (.iload 5, 2) := by decide +kernel
theorem dX6_tie_25 : decode cX6_tie 25 = .ok (.ifCond .eq 46, 3) := by decide +kernel
theorem dX6_tie_28 : decode cX6_tie 28 = .ok (.aload_n 0, 1) := by decide +kernel
theorem dX6_tie_29 : decode cX6_tie 29 = .ok (.getfield 13, 3) := by decide +kernel
theorem dX6_tie_32 : decode cX6_tie 32 = .ok (.iload_n 1, 1) := by decide +kernel
theorem dX6_tie_33 : decode cX6_tie 33 = .ok (.iaload, 1) := by decide +kernel
theorem dX6_tie_34 : decode cX6_tie 34 = .ok (.iconst (-1), 1) := by decide +kernel
theorem dX6_tie_35 : decode cX6_tie 35 = .ok (.if_icmp .eq 36, 3) := by decide +kernel
theorem dX6_tie_38 : decode cX6_tie 38 = .ok (.aload_n 0, 1) := by decide +kernel
theorem dX6_tie_39 : decode cX6_tie 39 = .ok (.getfield 13, 3) := by decide +kernel
theorem dX6_tie_42 : decode cX6_tie 42 = .ok (.iload_n 2, 1) := by decide +kernel
theorem dX6_tie_43 : decode cX6_tie 43 = .ok (.iaload, 1) := by decide +kernel
theorem dX6_tie_44 : decode cX6_tie 44 = .ok (.iconst (-1), 1) := by decide +kernel
theorem dX6_tie_45 : decode cX6_tie 45 = .ok (.if_icmp .ne 26, 3) := by decide +kernel
theorem dX6_tie_48 : decode cX6_tie 48 = .ok (.iload_n 3, 1) := by decide +kernel
theorem dX6_tie_49 : decode cX6_tie 49 = .ok (.iconst 0, 1) := by decide +kernel
theorem dX6_tie_50 : decode cX6_tie 50 = .ok (.iconst 1, 1) := by decide +kernel
theorem dX6_tie_51 : decode cX6_tie 51 = .ok (.invokestatic 115, 3) := by decide +kernel
theorem dX6_tie_54 : decode cX6_tie 54 = .ok (.ifCond .eq 17, 3) := by decide +kernel
theorem dX6_tie_57 : decode cX6_tie 57 = .ok (.iload 4, 2) := by decide +kernel
theorem dX6_tie_59 : decode cX6_tie 59 = .ok (.iconst 0, 1) := by decide +kernel
theorem dX6_tie_60 : decode cX6_tie 60 = .ok (.iconst 2, 1) := by decide +kernel
theorem dX6_tie_61 : decode cX6_tie 61 = .ok (.invokestatic 115, 3) := by decide +kernel
theorem dX6_tie_64 : decode cX6_tie 64 = .ok (.ifCond .eq 7, 3) := by decide +kernel
theorem dX6_tie_67 : decode cX6_tie 67 = .ok (.iconst 1, 1) := by decide +kernel
theorem dX6_tie_68 : decode cX6_tie 68 = .ok (.goto 4, 3) := by decide +kernel
theorem dX6_tie_71 : decode cX6_tie 71 = .ok (.iconst 0, 1) := by decide +kernel
theorem dX6_tie_72 : decode cX6_tie 72 = .ok (.istore 6, 2) := by decide +kernel
theorem dX6_tie_74 : decode cX6_tie 74 = .ok (.aload_n 0, 1) := by decide +kernel
theorem dX6_tie_75 : decode cX6_tie 75 = .ok (.iload 5, 2) := by decide +kernel
theorem dX6_tie_77 : decode cX6_tie 77 = .ok (.iload 6, 2) := by decide +kernel
theorem dX6_tie_79 : decode cX6_tie 79 = .ok (.iload 6, 2) := by decide +kernel
theorem dX6_tie_81 : decode cX6_tie 81 = .ok (.ifCond .eq 31, 3) := by decide +kernel
theorem dX6_tie_84 : decode cX6_tie 84 = .ok (.aload_n 0, 1) := by decide +kernel
theorem dX6_tie_85 : decode cX6_tie 85 = .ok (.getfield 47, 3) := by decide +kernel
theorem dX6_tie_88 : decode cX6_tie 88 = .ok (.aload_n 0, 1) := by decide +kernel
theorem dX6_tie_89 : decode cX6_tie 89 = .ok (.getfield 7, 3) := by decide +kernel
theorem dX6_tie_92 : decode cX6_tie 92 = .ok (.iload_n 1, 1) := by decide +kernel
theorem dX6_tie_93 : decode cX6_tie 93 = .ok (.iaload, 1) := by decide +kernel
theorem dX6_tie_94 : decode cX6_tie 94 = .ok (.iaload, 1) := by decide +kernel
theorem dX6_tie_95 : decode cX6_tie 95 = .ok (.ifCond .ne 17, 3) := by decide +kernel
theorem dX6_tie_98 : decode cX6_tie 98 = .ok (.aload_n 0, 1) := by decide +kernel
theorem dX6_tie_99 : decode cX6_tie 99 = .ok (.getfield 25, 3) := by decide +kernel
theorem dX6_tie_102 : decode cX6_tie 102 = .ok (.iload_n 1, 1) := by decide +kernel
theorem dX6_tie_103 : decode cX6_tie 103 = .ok (.iaload, 1) := by decide +kernel
theorem dX6_tie_104 : decode cX6_tie 104 = .ok (.iconst (-1), 1) := by decide +kernel
theorem dX6_tie_105 : decode cX6_tie 105 = .ok (.if_icmp .ne 7, 3) := by decide +kernel
theorem dX6_tie_108 : decode cX6_tie 108 = .ok (.iconst 1, 1) := by decide +kernel
theorem dX6_tie_109 : decode cX6_tie 109 = .ok (.goto 4, 3) := by decide +kernel
theorem dX6_tie_112 : decode cX6_tie 112 = .ok (.iconst 0, 1) := by decide +kernel
theorem dX6_tie_113 : decode cX6_tie 113 = .ok (.invokevirtual 132, 3) := by decide +kernel
theorem dX6_tie_116 : decode cX6_tie 116 = .ok (.ifCond .eq 25, 3) := by decide +kernel
theorem dX6_tie_119 : decode cX6_tie 119 = .ok (.aload_n 0, 1) := by decide +kernel
theorem dX6_tie_120 : decode cX6_tie 120 = .ok (.getfield 25, 3) := by decide +kernel
theorem dX6_tie_123 : decode cX6_tie 123 = .ok (.iload_n 1, 1) := by decide +kernel
theorem dX6_tie_124 : decode cX6_tie 124 = .ok (.iload_n 2, 1) := by decide +kernel
theorem dX6_tie_125 : decode cX6_tie 125 = .ok (.iastore, 1) := by decide +kernel
theorem dX6_tie_126 : decode cX6_tie 126 = .ok (.aload_n 0, 1) := by decide +kernel
theorem dX6_tie_127 : decode cX6_tie 127 = .ok (.getfield 28, 3) := by decide +kernel
theorem dX6_tie_130 : decode cX6_tie 130 = .ok (.iload_n 1, 1) := by decide +kernel
theorem dX6_tie_131 : decode cX6_tie 131 = .ok (.iload_n 3, 1) := by decide +kernel
theorem dX6_tie_132 : decode cX6_tie 132 = .ok (.iastore, 1) := by decide +kernel
theorem dX6_tie_133 : decode cX6_tie 133 = .ok (.aload_n 0, 1) := by decide +kernel
theorem dX6_tie_134 : decode cX6_tie 134 = .ok (.getfield 31, 3) := by decide +kernel
end
section
theorem dX6_tie_137 : decode cX6_tie 137 = .ok (.iload_n 1, 1) := by decide +kernel
theorem dX6_tie_138 : decode cX6_tie 138 = .ok (.iload 4, 2) := by decide +kernel
theorem dX6_tie_140 : decode cX6_tie 140 = .ok (.iastore, 1) := by decide +kernel
theorem dX6_tie_141 : decode cX6_tie 141 = .ok (.return_, 1) := by decide +kernel
theorem dX6_opens_0 : decode cX6_opens 0 = .ok (.aload_n 0, 1) := by decide +kernel
theorem dX6_opens_1 : decode cX6_opens 1 = .ok (.getfield 53, 3) := by decide +kernel
theorem dX6_opens_4 : decode cX6_opens 4 = .ok (.iload_n 1, 1) := by decide +kernel
theorem dX6_opens_5 : decode cX6_opens 5 = .ok (.iload_n 2, 1) := by decide +kernel
theorem dX6_opens_6 : decode cX6_opens 6 = .ok (.iastore, 1) := by decide +kernel
theorem dX6_opens_7 : decode cX6_opens 7 = .ok (.aload_n 0, 1) := by decide +kernel
theorem dX6_opens_8 : decode cX6_opens 8 = .ok (.getfield 56, 3) := by decide +kernel
theorem dX6_opens_11 : decode cX6_opens 11 = .ok (.iload_n 1, 1) := by decide +kernel
theorem dX6_opens_12 : decode cX6_opens 12 = .ok (.iload_n 3, 1) := by decide +kernel
theorem dX6_opens_13 : decode cX6_opens 13 = .ok (.iastore, 1) := by decide +kernel
theorem dX6_opens_14 : decode cX6_opens 14 = .ok (.aload_n 0, 1) := by decide +kernel
theorem dX6_opens_15 : decode cX6_opens 15 = .ok (.getfield 59, 3) := by decide +kernel
theorem dX6_opens_18 : decode cX6_opens 18 = .ok (.iload_n 1, 1) := by decide +kernel
theorem dX6_opens_19 : decode cX6_opens 19 = .ok (.iconst 2, 1) := by decide +kernel
theorem dX6_opens_20 : decode cX6_opens 20 = .ok (.iastore, 1) := by decide +kernel
theorem dX6_opens_21 : decode cX6_opens 21 = .ok (.aload_n 0, 1) := by decide +kernel
theorem dX6_opens_22 : decode cX6_opens 22 = .ok (.getfield 62, 3) := by decide +kernel
theorem dX6_opens_25 : decode cX6_opens 25 = .ok (.iload_n 1, 1) := by decide +kernel
theorem dX6_opens_26 : decode cX6_opens 26 = .ok (.iconst (-1), 1) := by decide +kernel
theorem dX6_opens_27 : decode cX6_opens 27 = .ok (.iastore, 1) := by decide +kernel
theorem dX6_opens_28 : decode cX6_opens 28 = .ok (.aload_n 0, 1) := by decide +kernel
theorem dX6_opens_29 : decode cX6_opens 29 = .ok (.getfield 65, 3) := by decide +kernel
theorem dX6_opens_32 : decode cX6_opens 32 = .ok (.iload_n 1, 1) := by decide +kernel
theorem dX6_opens_33 : decode cX6_opens 33 = .ok (.iconst (-1), 1) := by decide +kernel
theorem dX6_opens_34 : decode cX6_opens 34 = .ok (.iastore, 1) := by decide +kernel
theorem dX6_opens_35 : decode cX6_opens 35 = .ok (.aload_n 0, 1) := by decide +kernel
theorem dX6_opens_36 : decode cX6_opens 36 = .ok (.getfield 68, 3) := by decide +kernel
theorem dX6_opens_39 : decode cX6_opens 39 = .ok (.iload_n 1, 1) := by decide +kernel
theorem dX6_opens_40 : decode cX6_opens 40 = .ok (.iconst 0, 1) := by decide +kernel
theorem dX6_opens_41 : decode cX6_opens 41 = .ok (.iastore, 1) := by decide +kernel
theorem dX6_opens_42 : decode cX6_opens 42 = .ok (.return_, 1) := by decide +kernel
theorem dX6_open_0 : decode cX6_open 0 = .ok (.aload_n 0, 1) := by decide +kernel
theorem dX6_open_1 : decode cX6_open 1 = .ok (.iload_n 1, 1) := by decide +kernel
theorem dX6_open_2 : decode cX6_open 2 = .ok (.invokestatic 136, 3) := by decide +kernel
theorem dX6_open_5 : decode cX6_open 5 = .ok (.ifCond .eq 14, 3) := by decide +kernel
theorem dX6_open_8 : decode cX6_open 8 = .ok (.iload_n 2, 1) := by decide +kernel
theorem dX6_open_9 : decode cX6_open 9 = .ok (.invokestatic 122, 3) := by decide +kernel
theorem dX6_open_12 : decode cX6_open 12 = .ok (.ifCond .eq 7, 3) := by decide +kernel
theorem dX6_open_15 : decode cX6_open 15 = .ok (.iconst 1, 1) := by decide +kernel
theorem dX6_open_16 : decode cX6_open 16 = .ok (.goto 4, 3) := by decide +kernel
theorem dX6_open_19 : decode cX6_open 19 = .ok (.iconst 0, 1) := by decide +kernel
theorem dX6_open_20 : decode cX6_open 20 = .ok (.iload_n 3, 1) := by decide +kernel
theorem dX6_open_21 : decode cX6_open 21 = .ok (.iconst 0, 1) := by decide +kernel
theorem dX6_open_22 : decode cX6_open 22 = .ok (.sipush 4095, 3) := by decide +kernel
theorem dX6_open_25 : decode cX6_open 25 = .ok (.invokestatic 115, 3) := by decide +kernel
theorem dX6_open_28 : decode cX6_open 28 = .ok (.iconst 1, 1) := by decide +kernel
theorem dX6_open_29 : decode cX6_open 29 = .ok (.invokevirtual 132, 3) := by decide +kernel
theorem dX6_open_32 : decode cX6_open 32 = .ok (.ifCond .eq 10, 3) := by decide +kernel
theorem dX6_open_35 : decode cX6_open 35 = .ok (.aload_n 0, 1) := by decide +kernel
theorem dX6_open_36 : decode cX6_open 36 = .ok (.iload_n 1, 1) := by decide +kernel
theorem dX6_open_37 : decode cX6_open 37 = .ok (.iload_n 2, 1) := by decide +kernel
theorem dX6_open_38 : decode cX6_open 38 = .ok (.iload_n 3, 1) := by decide +kernel
theorem dX6_open_39 : decode cX6_open 39 = .ok (.invokevirtual 107, 3) := by decide +kernel
theorem dX6_open_42 : decode cX6_open 42 = .ok (.return_, 1) := by decide +kernel
theorem dX6_sees_0 : decode cX6_sees 0 = .ok (.aload_n 0, 1) := by decide +kernel
theorem dX6_sees_1 : decode cX6_sees 1 = .ok (.getfield 7, 3) := by decide +kernel
theorem dX6_sees_4 : decode cX6_sees 4 = .ok (.iload_n 2, 1) := by decide +kernel
theorem dX6_sees_5 : decode cX6_sees 5 = .ok (.iaload, 1) := by decide +kernel
theorem dX6_sees_6 : decode cX6_sees 6 = .ok (.aload_n 0, 1) := by decide +kernel
theorem dX6_sees_7 : decode cX6_sees 7 = .ok (.getfield 53, 3) := by decide +kernel
theorem dX6_sees_10 : decode cX6_sees 10 = .ok (.iload_n 1, 1) := by decide +kernel
theorem dX6_sees_11 : decode cX6_sees 11 = .ok (.iaload, 1) := by decide +kernel
theorem dX6_sees_12 : decode cX6_sees 12 = .ok (.if_icmp .ne 7, 3) := by decide +kernel
theorem dX6_sees_15 : decode cX6_sees 15 = .ok (.iconst 1, 1) := by decide +kernel
theorem dX6_sees_16 : decode cX6_sees 16 = .ok (.goto 4, 3) := by decide +kernel
theorem dX6_sees_19 : decode cX6_sees 19 = .ok (.iconst 0, 1) := by decide +kernel
theorem dX6_sees_20 : decode cX6_sees 20 = .ok (.istore_n 3, 1) := by decide +kernel
theorem dX6_sees_21 : decode cX6_sees 21 = .ok (.iload_n 2, 1) := by decide +kernel
theorem dX6_sees_22 : decode cX6_sees 22 = .ok (.istore 4, 2) := by decide +kernel
theorem dX6_sees_24 : decode cX6_sees 24 = .ok (.iload 4, 2) := by decide +kernel
theorem dX6_sees_26 : decode cX6_sees 26 = .ok (.iconst (-1), 1) := by decide +kernel
theorem dX6_sees_27 : decode cX6_sees 27 = .ok (.if_icmp .eq 40, 3) := by decide +kernel
theorem dX6_sees_30 : decode cX6_sees 30 = .ok (.iload_n 3, 1) := by decide +kernel
theorem dX6_sees_31 : decode cX6_sees 31 = .ok (.ifCond .eq 22, 3) := by decide +kernel
theorem dX6_sees_34 : decode cX6_sees 34 = .ok (.aload_n 0, 1) := by decide +kernel
theorem dX6_sees_35 : decode cX6_sees 35 = .ok (.getfield 56, 3) := by decide +kernel
theorem dX6_sees_38 : decode cX6_sees 38 = .ok (.iload_n 1, 1) := by decide +kernel
theorem dX6_sees_39 : decode cX6_sees 39 = .ok (.iaload, 1) := by decide +kernel
theorem dX6_sees_40 : decode cX6_sees 40 = .ok (.iload 4, 2) := by decide +kernel
theorem dX6_sees_42 : decode cX6_sees 42 = .ok (.ishr, 1) := by decide +kernel
theorem dX6_sees_43 : decode cX6_sees 43 = .ok (.iconst 1, 1) := by decide +kernel
theorem dX6_sees_44 : decode cX6_sees 44 = .ok (.iand, 1) := by decide +kernel
theorem dX6_sees_45 : decode cX6_sees 45 = .ok (.iconst 1, 1) := by decide +kernel
theorem dX6_sees_46 : decode cX6_sees 46 = .ok (.if_icmp .ne 7, 3) := by decide +kernel
theorem dX6_sees_49 : decode cX6_sees 49 = .ok (.iconst 1, 1) := by decide +kernel
theorem dX6_sees_50 : decode cX6_sees 50 = .ok (.goto 4, 3) := by decide +kernel
theorem dX6_sees_53 : decode cX6_sees 53 = .ok (.iconst 0, 1) := by decide +kernel
theorem dX6_sees_54 : decode cX6_sees 54 = .ok (.istore_n 3, 1) := by decide +kernel
theorem dX6_sees_55 : decode cX6_sees 55 = .ok (.aload_n 0, 1) := by decide +kernel
theorem dX6_sees_56 : decode cX6_sees 56 = .ok (.getfield 13, 3) := by decide +kernel
theorem dX6_sees_59 : decode cX6_sees 59 = .ok (.iload 4, 2) := by decide +kernel
theorem dX6_sees_61 : decode cX6_sees 61 = .ok (.iaload, 1) := by decide +kernel
theorem dX6_sees_62 : decode cX6_sees 62 = .ok (.istore 4, 2) := by decide +kernel
theorem dX6_sees_64 : decode cX6_sees 64 = .ok (.goto (-40), 3) := by decide +kernel
theorem dX6_sees_67 : decode cX6_sees 67 = .ok (.iload_n 3, 1) := by decide +kernel
theorem dX6_sees_68 : decode cX6_sees 68 = .ok (.ireturn, 1) := by decide +kernel
theorem dX6_argument_0 : decode cX6_argument 0 = .ok (.aload_n 0, 1) := by decide +kernel
theorem dX6_argument_1 : decode cX6_argument 1 = .ok (.aload_n 0, 1) := by decide +kernel
theorem dX6_argument_2 : decode cX6_argument 2 = .ok (.iload_n 1, 1) := by decide +kernel
theorem dX6_argument_3 : decode cX6_argument 3 = .ok (.invokevirtual 126, 3) := by decide +kernel
theorem dX6_argument_6 : decode cX6_argument 6 = .ok (.iload_n 2, 1) := by decide +kernel
theorem dX6_argument_7 : decode cX6_argument 7 = .ok (.iconst 0, 1) := by decide +kernel
theorem dX6_argument_8 : decode cX6_argument 8 = .ok (.bipush 63, 2) := by decide +kernel
theorem dX6_argument_10 : decode cX6_argument 10 = .ok (.invokestatic 115, 3) := by decide +kernel
theorem dX6_argument_13 : decode cX6_argument 13 = .ok (.aload_n 0, 1) := by decide +kernel
theorem dX6_argument_14 : decode cX6_argument 14 = .ok (.getfield 139, 3) := by decide +kernel
theorem dX6_argument_17 : decode cX6_argument 17 = .ok (.iconst 4, 1) := by decide +kernel
theorem dX6_argument_18 : decode cX6_argument 18 = .ok (.if_icmp .ge 7, 3) := by decide +kernel
theorem dX6_argument_21 : decode cX6_argument 21 = .ok (.iconst 1, 1) := by decide +kernel
theorem dX6_argument_22 : decode cX6_argument 22 = .ok (.goto 4, 3) := by decide +kernel
theorem dX6_argument_25 : decode cX6_argument 25 = .ok (.iconst 0, 1) := by decide +kernel
theorem dX6_argument_26 : decode cX6_argument 26 = .ok (.invokevirtual 132, 3) := by decide +kernel
theorem dX6_argument_29 : decode cX6_argument 29 = .ok (.ifCond .ne 5, 3) := by decide +kernel
theorem dX6_argument_32 : decode cX6_argument 32 = .ok (.iconst 0, 1) := by decide +kernel
theorem dX6_argument_33 : decode cX6_argument 33 = .ok (.ireturn, 1) := by decide +kernel
theorem dX6_argument_34 : decode cX6_argument 34 = .ok (.aload_n 0, 1) := by decide +kernel
theorem dX6_argument_35 : decode cX6_argument 35 = .ok (.getfield 77, 3) := by decide +kernel
theorem dX6_argument_38 : decode cX6_argument 38 = .ok (.aload_n 0, 1) := by decide +kernel
theorem dX6_argument_39 : decode cX6_argument 39 = .ok (.getfield 139, 3) := by decide +kernel
theorem dX6_argument_42 : decode cX6_argument 42 = .ok (.iload_n 1, 1) := by decide +kernel
theorem dX6_argument_43 : decode cX6_argument 43 = .ok (.iastore, 1) := by decide +kernel
theorem dX6_argument_44 : decode cX6_argument 44 = .ok (.aload_n 0, 1) := by decide +kernel
theorem dX6_argument_45 : decode cX6_argument 45 = .ok (.getfield 80, 3) := by decide +kernel
theorem dX6_argument_48 : decode cX6_argument 48 = .ok (.aload_n 0, 1) := by decide +kernel
theorem dX6_argument_49 : decode cX6_argument 49 = .ok (.getfield 139, 3) := by decide +kernel
theorem dX6_argument_52 : decode cX6_argument 52 = .ok (.iload_n 2, 1) := by decide +kernel
theorem dX6_argument_53 : decode cX6_argument 53 = .ok (.iastore, 1) := by decide +kernel
theorem dX6_argument_54 : decode cX6_argument 54 = .ok (.aload_n 0, 1) := by decide +kernel
theorem dX6_argument_55 : decode cX6_argument 55 = .ok (.getfield 83, 3) := by decide +kernel
theorem dX6_argument_58 : decode cX6_argument 58 = .ok (.aload_n 0, 1) := by decide +kernel
theorem dX6_argument_59 : decode cX6_argument 59 = .ok (.getfield 139, 3) := by decide +kernel
theorem dX6_argument_62 : decode cX6_argument 62 = .ok (.iconst 0, 1) := by decide +kernel
theorem dX6_argument_63 : decode cX6_argument 63 = .ok (.iastore, 1) := by decide +kernel
theorem dX6_argument_64 : decode cX6_argument 64 = .ok (.aload_n 0, 1) := by decide +kernel
theorem dX6_argument_65 : decode cX6_argument 65 = .ok (.dup, 1) := by decide +kernel
theorem dX6_argument_66 : decode cX6_argument 66 = .ok (.getfield 139, 3) := by decide +kernel
theorem dX6_argument_69 : decode cX6_argument 69 = .ok (.iconst 1, 1) := by decide +kernel
theorem dX6_argument_70 : decode cX6_argument 70 = .ok (.iadd, 1) := by decide +kernel
theorem dX6_argument_71 : decode cX6_argument 71 = .ok (.putfield 139, 3) := by decide +kernel
theorem dX6_argument_74 : decode cX6_argument 74 = .ok (.aload_n 0, 1) := by decide +kernel
theorem dX6_argument_75 : decode cX6_argument 75 = .ok (.getfield 139, 3) := by decide +kernel
theorem dX6_argument_78 : decode cX6_argument 78 = .ok (.ireturn, 1) := by decide +kernel
theorem dX6_condition_0 : decode cX6_condition 0 = .ok (.iload_n 3, 1) := by decide +kernel
theorem dX6_condition_1 : decode cX6_condition 1 = .ok (.iconst 0, 1) := by decide +kernel
theorem dX6_condition_2 : decode cX6_condition 2 = .ok (.iconst 5, 1) := by decide +kernel
theorem dX6_condition_3 : decode cX6_condition 3 = .ok (.invokestatic 115, 3) := by decide +kernel
theorem dX6_condition_6 : decode cX6_condition 6 = .ok (.ifCond .eq 15, 3) := by decide +kernel
theorem dX6_condition_9 : decode cX6_condition 9 = .ok (.iload 4, 2) := by decide +kernel
theorem dX6_condition_11 : decode cX6_condition 11 = .ok (.invokestatic 142, 3) := by decide +kernel
theorem dX6_condition_14 : decode cX6_condition 14 = .ok (.ifCond .eq 7, 3) := by decide +kernel
theorem dX6_condition_17 : decode cX6_condition 17 = .ok (.iconst 1, 1) := by decide +kernel
theorem dX6_condition_18 : decode cX6_condition 18 = .ok (.goto 4, 3) := by decide +kernel
theorem dX6_condition_21 : decode cX6_condition 21 = .ok (.iconst 0, 1) := by decide +kernel
theorem dX6_condition_22 : decode cX6_condition 22 = .ok (.istore 5, 2) := by decide +kernel
theorem dX6_condition_24 : decode cX6_condition 24 = .ok (.aload_n 0, 1) := by decide +kernel
theorem dX6_condition_25 : decode cX6_condition 25 = .ok (.iload_n 2, 1) := by decide +kernel
theorem dX6_condition_26 : decode cX6_condition 26 = .ok (.iconst 0, 1) := by decide +kernel
theorem dX6_condition_27 : decode cX6_condition 27 = .ok (.iconst 2, 1) := by decide +kernel
theorem dX6_condition_28 : decode cX6_condition 28 = .ok (.invokestatic 115, 3) := by decide +kernel
theorem dX6_condition_31 : decode cX6_condition 31 = .ok (.iload 5, 2) := by decide +kernel
theorem dX6_condition_33 : decode cX6_condition 33 = .ok (.aload_n 0, 1) := by decide +kernel
theorem dX6_condition_34 : decode cX6_condition 34 = .ok (.getfield 139, 3) := by decide +kernel
theorem dX6_condition_37 : decode cX6_condition 37 = .ok (.ifCond .le 33, 3) := by decide +kernel
theorem dX6_condition_40 : decode cX6_condition 40 = .ok (.aload_n 0, 1) := by decide +kernel
theorem dX6_condition_41 : decode cX6_condition 41 = .ok (.getfield 83, 3) := by decide +kernel
theorem dX6_condition_44 : decode cX6_condition 44 = .ok (.aload_n 0, 1) := by decide +kernel
theorem dX6_condition_45 : decode cX6_condition 45 = .ok (.getfield 139, 3) := by decide +kernel
theorem dX6_condition_48 : decode cX6_condition 48 = .ok (.ifCond .le 12, 3) := by decide +kernel
theorem dX6_condition_51 : decode cX6_condition 51 = .ok (.aload_n 0, 1) := by decide +kernel
theorem dX6_condition_52 : decode cX6_condition 52 = .ok (.getfield 139, 3) := by decide +kernel
theorem dX6_condition_55 : decode cX6_condition 55 = .ok (.iconst 1, 1) := by decide +kernel
theorem dX6_condition_56 : decode cX6_condition 56 = .ok (.isub, 1) := by decide +kernel
theorem dX6_condition_57 : decode cX6_condition 57 = .ok (.goto 4, 3) := by decide +kernel
theorem dX6_condition_60 : decode cX6_condition 60 = .ok (.iconst 0, 1) := by decide +kernel
theorem dX6_condition_61 : decode cX6_condition 61 = .ok (.iaload, 1) := by decide +kernel
theorem dX6_condition_62 : decode cX6_condition 62 = .ok (.iconst 3, 1) := by decide +kernel
theorem dX6_condition_63 : decode cX6_condition 63 = .ok (.if_icmp .ge 7, 3) := by decide +kernel
theorem dX6_condition_66 : decode cX6_condition 66 = .ok (.iconst 1, 1) := by decide +kernel
theorem dX6_condition_67 : decode cX6_condition 67 = .ok (.goto 4, 3) := by decide +kernel
theorem dX6_condition_70 : decode cX6_condition 70 = .ok (.iconst 0, 1) := by decide +kernel
theorem dX6_condition_71 : decode cX6_condition 71 = .ok (.invokevirtual 132, 3) := by decide +kernel
theorem dX6_condition_74 : decode cX6_condition 74 = .ok (.ifCond .ne 5, 3) := by decide +kernel
theorem dX6_condition_77 : decode cX6_condition 77 = .ok (.iconst 0, 1) := by decide +kernel
theorem dX6_condition_78 : decode cX6_condition 78 = .ok (.ireturn, 1) := by decide +kernel
theorem dX6_condition_79 : decode cX6_condition 79 = .ok (.iconst 3, 1) := by decide +kernel
theorem dX6_condition_80 : decode cX6_condition 80 = .ok (.aload_n 0, 1) := by decide +kernel
theorem dX6_condition_81 : decode cX6_condition 81 = .ok (.getfield 139, 3) := by decide +kernel
theorem dX6_condition_84 : decode cX6_condition 84 = .ok (.iconst 1, 1) := by decide +kernel
theorem dX6_condition_85 : decode cX6_condition 85 = .ok (.isub, 1) := by decide +kernel
theorem dX6_condition_86 : decode cX6_condition 86 = .ok (.imul, 1) := by decide +kernel
theorem dX6_condition_87 : decode cX6_condition 87 = .ok (.aload_n 0, 1) := by decide +kernel
theorem dX6_condition_88 : decode cX6_condition 88 = .ok (.getfield 83, 3) := by decide +kernel
theorem dX6_condition_91 : decode cX6_condition 91 = .ok (.aload_n 0, 1) := by decide +kernel
theorem dX6_condition_92 : decode cX6_condition 92 = .ok (.getfield 139, 3) := by decide +kernel
theorem dX6_condition_95 : decode cX6_condition 95 = .ok (.iconst 1, 1) := by decide +kernel
theorem dX6_condition_96 : decode cX6_condition 96 = .ok (.isub, 1) := by decide +kernel
theorem dX6_condition_97 : decode cX6_condition 97 = .ok (.iaload, 1) := by decide +kernel
theorem dX6_condition_98 : decode cX6_condition 98 = .ok (.iadd, 1) := by decide +kernel
theorem dX6_condition_99 : decode cX6_condition 99 = .ok (.istore 6, 2) := by decide +kernel
theorem dX6_condition_101 : decode cX6_condition 101 = .ok (.aload_n 0, 1) := by decide +kernel
theorem dX6_condition_102 : decode cX6_condition 102 = .ok (.getfield 86, 3) := by decide +kernel
theorem dX6_condition_105 : decode cX6_condition 105 = .ok (.iload 6, 2) := by decide +kernel
theorem dX6_condition_107 : decode cX6_condition 107 = .ok (.iload_n 1, 1) := by decide +kernel
theorem dX6_condition_108 : decode cX6_condition 108 = .ok (.bastore, 1) := by decide +kernel
theorem dX6_condition_109 : decode cX6_condition 109 = .ok (.aload_n 0, 1) := by decide +kernel
theorem dX6_condition_110 : decode cX6_condition 110 = .ok (.getfield 89, 3) := by decide +kernel
theorem dX6_condition_113 : decode cX6_condition 113 = .ok (.iload 6, 2) := by decide +kernel
theorem dX6_condition_115 : decode cX6_condition 115 = .ok (.iload_n 2, 1) := by decide +kernel
theorem dX6_condition_116 : decode cX6_condition 116 = .ok (.iastore, 1) := by decide +kernel
theorem dX6_condition_117 : decode cX6_condition 117 = .ok (.aload_n 0, 1) := by decide +kernel
theorem dX6_condition_118 : decode cX6_condition 118 = .ok (.getfield 92, 3) := by decide +kernel
theorem dX6_condition_121 : decode cX6_condition 121 = .ok (.iload 6, 2) := by decide +kernel
theorem dX6_condition_123 : decode cX6_condition 123 = .ok (.iload_n 3, 1) := by decide +kernel
theorem dX6_condition_124 : decode cX6_condition 124 = .ok (.iastore, 1) := by decide +kernel
theorem dX6_condition_125 : decode cX6_condition 125 = .ok (.aload_n 0, 1) := by decide +kernel
theorem dX6_condition_126 : decode cX6_condition 126 = .ok (.getfield 95, 3) := by decide +kernel
theorem dX6_condition_129 : decode cX6_condition 129 = .ok (.iload 6, 2) := by decide +kernel
theorem dX6_condition_131 : decode cX6_condition 131 = .ok (.iload 4, 2) := by decide +kernel
theorem dX6_condition_133 : decode cX6_condition 133 = .ok (.iastore, 1) := by decide +kernel
theorem dX6_condition_134 : decode cX6_condition 134 = .ok (.aload_n 0, 1) := by decide +kernel
theorem dX6_condition_135 : decode cX6_condition 135 = .ok (.getfield 83, 3) := by decide +kernel
theorem dX6_condition_138 : decode cX6_condition 138 = .ok (.aload_n 0, 1) := by decide +kernel
theorem dX6_condition_139 : decode cX6_condition 139 = .ok (.getfield 139, 3) := by decide +kernel
theorem dX6_condition_142 : decode cX6_condition 142 = .ok (.iconst 1, 1) := by decide +kernel
theorem dX6_condition_143 : decode cX6_condition 143 = .ok (.isub, 1) := by decide +kernel
theorem dX6_condition_144 : decode cX6_condition 144 = .ok (.dup2, 1) := by decide +kernel
theorem dX6_condition_145 : decode cX6_condition 145 = .ok (.iaload, 1) := by decide +kernel
theorem dX6_condition_146 : decode cX6_condition 146 = .ok (.iconst 1, 1) := by decide +kernel
theorem dX6_condition_147 : decode cX6_condition 147 = .ok (.iadd, 1) := by decide +kernel
theorem dX6_condition_148 : decode cX6_condition 148 = .ok (.iastore, 1) := by decide +kernel
theorem dX6_condition_149 : decode cX6_condition 149 = .ok (.aload_n 0, 1) := by decide +kernel
theorem dX6_condition_150 : decode cX6_condition 150 = .ok (.getfield 83, 3) := by decide +kernel
theorem dX6_condition_153 : decode cX6_condition 153 = .ok (.aload_n 0, 1) := by decide +kernel
theorem dX6_condition_154 : decode cX6_condition 154 = .ok (.getfield 139, 3) := by decide +kernel
theorem dX6_condition_157 : decode cX6_condition 157 = .ok (.iconst 1, 1) := by decide +kernel
theorem dX6_condition_158 : decode cX6_condition 158 = .ok (.isub, 1) := by decide +kernel
theorem dX6_condition_159 : decode cX6_condition 159 = .ok (.iaload, 1) := by decide +kernel
theorem dX6_condition_160 : decode cX6_condition 160 = .ok (.ireturn, 1) := by decide +kernel
theorem dX6_clears_0 : decode cX6_clears 0 = .ok (.aload_n 0, 1) := by decide +kernel
theorem dX6_clears_1 : decode cX6_clears 1 = .ok (.getfield 139, 3) := by decide +kernel
theorem dX6_clears_4 : decode cX6_clears 4 = .ok (.istore_n 1, 1) := by decide +kernel
theorem dX6_clears_5 : decode cX6_clears 5 = .ok (.aload_n 0, 1) := by decide +kernel
theorem dX6_clears_6 : decode cX6_clears 6 = .ok (.iconst 0, 1) := by decide +kernel
theorem dX6_clears_7 : decode cX6_clears 7 = .ok (.putfield 139, 3) := by decide +kernel
theorem dX6_clears_10 : decode cX6_clears 10 = .ok (.iload_n 1, 1) := by decide +kernel
theorem dX6_clears_11 : decode cX6_clears 11 = .ok (.ireturn, 1) := by decide +kernel
theorem dX6_clear_0 : decode cX6_clear 0 = .ok (.aload_n 0, 1) := by decide +kernel
theorem dX6_clear_1 : decode cX6_clear 1 = .ok (.aload_n 0, 1) := by decide +kernel
theorem dX6_clear_2 : decode cX6_clear 2 = .ok (.invokevirtual 145, 3) := by decide +kernel
theorem dX6_clear_5 : decode cX6_clear 5 = .ok (.invokevirtual 149, 3) := by decide +kernel
theorem dX6_clear_8 : decode cX6_clear 8 = .ok (.ireturn, 1) := by decide +kernel
theorem dX6_isSlot_0 : decode cX6_isSlot 0 = .ok (.iload_n 0, 1) := by decide +kernel
theorem dX6_isSlot_1 : decode cX6_isSlot 1 = .ok (.iconst 0, 1) := by decide +kernel
theorem dX6_isSlot_2 : decode cX6_isSlot 2 = .ok (.iconst 3, 1) := by decide +kernel
theorem dX6_isSlot_3 : decode cX6_isSlot 3 = .ok (.invokestatic 115, 3) := by decide +kernel
theorem dX6_isSlot_6 : decode cX6_isSlot 6 = .ok (.ifCond .eq 16, 3) := by decide +kernel
theorem dX6_isSlot_9 : decode cX6_isSlot 9 = .ok (.iload_n 1, 1) := by decide +kernel
theorem dX6_isSlot_10 : decode cX6_isSlot 10 = .ok (.iconst 0, 1) := by decide +kernel
theorem dX6_isSlot_11 : decode cX6_isSlot 11 = .ok (.iconst 2, 1) := by decide +kernel
theorem dX6_isSlot_12 : decode cX6_isSlot 12 = .ok (.invokestatic 115, 3) := by decide +kernel
theorem dX6_isSlot_15 : decode cX6_isSlot 15 = .ok (.ifCond .eq 7, 3) := by decide +kernel
theorem dX6_isSlot_18 : decode cX6_isSlot 18 = .ok (.iconst 1, 1) := by decide +kernel
theorem dX6_isSlot_19 : decode cX6_isSlot 19 = .ok (.goto 4, 3) := by decide +kernel
theorem dX6_isSlot_22 : decode cX6_isSlot 22 = .ok (.iconst 0, 1) := by decide +kernel
theorem dX6_isSlot_23 : decode cX6_isSlot 23 = .ok (.ireturn, 1) := by decide +kernel
theorem dX6_put_0 : decode cX6_put 0 = .ok (.aload_n 0, 1) := by decide +kernel
theorem dX6_put_1 : decode cX6_put 1 = .ok (.iload_n 1, 1) := by decide +kernel
theorem dX6_put_2 : decode cX6_put 2 = .ok (.iload_n 2, 1) := by decide +kernel
theorem dX6_put_3 : decode cX6_put 3 = .ok (.invokestatic 153, 3) := by decide +kernel
theorem dX6_put_6 : decode cX6_put 6 = .ok (.iload_n 3, 1) := by decide +kernel
theorem dX6_put_7 : decode cX6_put 7 = .ok (.invokestatic 142, 3) := by decide +kernel
theorem dX6_put_10 : decode cX6_put 10 = .ok (.iconst 1, 1) := by decide +kernel
theorem dX6_put_11 : decode cX6_put 11 = .ok (.invokevirtual 132, 3) := by decide +kernel
theorem dX6_put_14 : decode cX6_put 14 = .ok (.ifCond .ne 5, 3) := by decide +kernel
theorem dX6_put_17 : decode cX6_put 17 = .ok (.iconst 0, 1) := by decide +kernel
theorem dX6_put_18 : decode cX6_put 18 = .ok (.ireturn, 1) := by decide +kernel
theorem dX6_put_19 : decode cX6_put 19 = .ok (.aload_n 0, 1) := by decide +kernel
theorem dX6_put_20 : decode cX6_put 20 = .ok (.getfield 98, 3) := by decide +kernel
theorem dX6_put_23 : decode cX6_put 23 = .ok (.iconst 3, 1) := by decide +kernel
theorem dX6_put_24 : decode cX6_put 24 = .ok (.iload_n 1, 1) := by decide +kernel
theorem dX6_put_25 : decode cX6_put 25 = .ok (.imul, 1) := by decide +kernel
theorem dX6_put_26 : decode cX6_put 26 = .ok (.iload_n 2, 1) := by decide +kernel
theorem dX6_put_27 : decode cX6_put 27 = .ok (.iadd, 1) := by decide +kernel
theorem dX6_put_28 : decode cX6_put 28 = .ok (.iaload, 1) := by decide +kernel
theorem dX6_put_29 : decode cX6_put 29 = .ok (.istore 4, 2) := by decide +kernel
theorem dX6_put_31 : decode cX6_put 31 = .ok (.aload_n 0, 1) := by decide +kernel
theorem dX6_put_32 : decode cX6_put 32 = .ok (.getfield 98, 3) := by decide +kernel
theorem dX6_put_35 : decode cX6_put 35 = .ok (.iconst 3, 1) := by decide +kernel
theorem dX6_put_36 : decode cX6_put 36 = .ok (.iload_n 1, 1) := by decide +kernel
theorem dX6_put_37 : decode cX6_put 37 = .ok (.imul, 1) := by decide +kernel
theorem dX6_put_38 : decode cX6_put 38 = .ok (.iload_n 2, 1) := by decide +kernel
theorem dX6_put_39 : decode cX6_put 39 = .ok (.iadd, 1) := by decide +kernel
theorem dX6_put_40 : decode cX6_put 40 = .ok (.iload_n 3, 1) := by decide +kernel
theorem dX6_put_41 : decode cX6_put 41 = .ok (.iastore, 1) := by decide +kernel
theorem dX6_put_42 : decode cX6_put 42 = .ok (.iload 4, 2) := by decide +kernel
theorem dX6_put_44 : decode cX6_put 44 = .ok (.ireturn, 1) := by decide +kernel
theorem dX6_area_0 : decode cX6_area 0 = .ok (.aload_n 0, 1) := by decide +kernel
theorem dX6_area_1 : decode cX6_area 1 = .ok (.iload_n 1, 1) := by decide +kernel
theorem dX6_area_2 : decode cX6_area 2 = .ok (.iload_n 2, 1) := by decide +kernel
theorem dX6_area_3 : decode cX6_area 3 = .ok (.invokestatic 153, 3) := by decide +kernel
theorem dX6_area_6 : decode cX6_area 6 = .ok (.iconst 1, 1) := by decide +kernel
theorem dX6_area_7 : decode cX6_area 7 = .ok (.iconst 1, 1) := by decide +kernel
theorem dX6_area_8 : decode cX6_area 8 = .ok (.invokevirtual 132, 3) := by decide +kernel
theorem dX6_area_11 : decode cX6_area 11 = .ok (.ifCond .eq 16, 3) := by decide +kernel
theorem dX6_area_14 : decode cX6_area 14 = .ok (.aload_n 0, 1) := by decide +kernel
theorem dX6_area_15 : decode cX6_area 15 = .ok (.getfield 98, 3) := by decide +kernel
theorem dX6_area_18 : decode cX6_area 18 = .ok (.iconst 3, 1) := by decide +kernel
theorem dX6_area_19 : decode cX6_area 19 = .ok (.iload_n 1, 1) := by decide +kernel
theorem dX6_area_20 : decode cX6_area 20 = .ok (.imul, 1) := by decide +kernel
theorem dX6_area_21 : decode cX6_area 21 = .ok (.iload_n 2, 1) := by decide +kernel
theorem dX6_area_22 : decode cX6_area 22 = .ok (.iadd, 1) := by decide +kernel
theorem dX6_area_23 : decode cX6_area 23 = .ok (.iaload, 1) := by decide +kernel
theorem dX6_area_24 : decode cX6_area 24 = .ok (.goto 4, 3) := by decide +kernel
theorem dX6_area_27 : decode cX6_area 27 = .ok (.iconst 0, 1) := by decide +kernel
theorem dX6_area_28 : decode cX6_area 28 = .ok (.ireturn, 1) := by decide +kernel
theorem dX6_segmentAt_0 : decode cX6_segmentAt 0 = .ok (.aload_n 0, 1) := by decide +kernel
theorem dX6_segmentAt_1 : decode cX6_segmentAt 1 = .ok (.getfield 50, 3) := by decide +kernel
theorem dX6_segmentAt_4 : decode cX6_segmentAt 4 = .ok (.bipush 60, 2) := by decide +kernel
theorem dX6_segmentAt_6 : decode cX6_segmentAt 6 = .ok (.iload_n 1, 1) := by decide +kernel
theorem dX6_segmentAt_7 : decode cX6_segmentAt 7 = .ok (.imul, 1) := by decide +kernel
theorem dX6_segmentAt_8 : decode cX6_segmentAt 8 = .ok (.iload_n 2, 1) := by decide +kernel
theorem dX6_segmentAt_9 : decode cX6_segmentAt 9 = .ok (.iadd, 1) := by decide +kernel
theorem dX6_segmentAt_10 : decode cX6_segmentAt 10 = .ok (.iaload, 1) := by decide +kernel
theorem dX6_segmentAt_11 : decode cX6_segmentAt 11 = .ok (.ireturn, 1) := by decide +kernel
theorem dX6_placeOf_0 : decode cX6_placeOf 0 = .ok (.aload_n 0, 1) := by decide +kernel
theorem dX6_placeOf_1 : decode cX6_placeOf 1 = .ok (.getfield 7, 3) := by decide +kernel
theorem dX6_placeOf_4 : decode cX6_placeOf 4 = .ok (.aload_n 0, 1) := by decide +kernel
theorem dX6_placeOf_5 : decode cX6_placeOf 5 = .ok (.getfield 34, 3) := by decide +kernel
theorem dX6_placeOf_8 : decode cX6_placeOf 8 = .ok (.iload_n 1, 1) := by decide +kernel
theorem dX6_placeOf_9 : decode cX6_placeOf 9 = .ok (.iaload, 1) := by decide +kernel
theorem dX6_placeOf_10 : decode cX6_placeOf 10 = .ok (.iaload, 1) := by decide +kernel
theorem dX6_placeOf_11 : decode cX6_placeOf 11 = .ok (.istore_n 2, 1) := by decide +kernel
theorem dX6_placeOf_12 : decode cX6_placeOf 12 = .ok (.iconst 0, 1) := by decide +kernel
theorem dX6_placeOf_13 : decode cX6_placeOf 13 = .ok (.istore_n 3, 1) := by decide +kernel
theorem dX6_placeOf_14 : decode cX6_placeOf 14 = .ok (.aload_n 0, 1) := by decide +kernel
theorem dX6_placeOf_15 : decode cX6_placeOf 15 = .ok (.iload_n 2, 1) := by decide +kernel
theorem dX6_placeOf_16 : decode cX6_placeOf 16 = .ok (.iload_n 3, 1) := by decide +kernel
theorem dX6_placeOf_17 : decode cX6_placeOf 17 = .ok (.invokevirtual 157, 3) := by decide +kernel
theorem dX6_placeOf_20 : decode cX6_placeOf 20 = .ok (.iload_n 1, 1) := by decide +kernel
theorem dX6_placeOf_21 : decode cX6_placeOf 21 = .ok (.if_icmp .eq 9, 3) := by decide +kernel
theorem dX6_placeOf_24 : decode cX6_placeOf 24 = .ok (.iinc 3 1, 3) := by decide +kernel
theorem dX6_placeOf_27 : decode cX6_placeOf 27 = .ok (.goto (-13), 3) := by decide +kernel
theorem dX6_placeOf_30 : decode cX6_placeOf 30 = .ok (.iload_n 3, 1) := by decide +kernel
theorem dX6_placeOf_31 : decode cX6_placeOf 31 = .ok (.ireturn, 1) := by decide +kernel
theorem dX6_key_0 : decode cX6_key 0 = .ok (.aload_n 0, 1) := by decide +kernel
theorem dX6_key_1 : decode cX6_key 1 = .ok (.getfield 40, 3) := by decide +kernel
theorem dX6_key_4 : decode cX6_key 4 = .ok (.iconst 3, 1) := by decide +kernel
theorem dX6_key_5 : decode cX6_key 5 = .ok (.iload_n 1, 1) := by decide +kernel
theorem dX6_key_6 : decode cX6_key 6 = .ok (.imul, 1) := by decide +kernel
theorem dX6_key_7 : decode cX6_key 7 = .ok (.iaload, 1) := by decide +kernel
theorem dX6_key_8 : decode cX6_key 8 = .ok (.ireturn, 1) := by decide +kernel
theorem dX6_among_0 : decode cX6_among 0 = .ok (.iload_n 1, 1) := by decide +kernel
theorem dX6_among_1 : decode cX6_among 1 = .ok (.istore_n 3, 1) := by decide +kernel
theorem dX6_among_2 : decode cX6_among 2 = .ok (.iload_n 3, 1) := by decide +kernel
theorem dX6_among_3 : decode cX6_among 3 = .ok (.iconst (-1), 1) := by decide +kernel
theorem dX6_among_4 : decode cX6_among 4 = .ok (.if_icmp .eq 23, 3) := by decide +kernel
theorem dX6_among_7 : decode cX6_among 7 = .ok (.aload_n 0, 1) := by decide +kernel
theorem dX6_among_8 : decode cX6_among 8 = .ok (.getfield 34, 3) := by decide +kernel
theorem dX6_among_11 : decode cX6_among 11 = .ok (.iload_n 3, 1) := by decide +kernel
theorem dX6_among_12 : decode cX6_among 12 = .ok (.iaload, 1) := by decide +kernel
theorem dX6_among_13 : decode cX6_among 13 = .ok (.iload_n 2, 1) := by decide +kernel
theorem dX6_among_14 : decode cX6_among 14 = .ok (.if_icmp .eq 13, 3) := by decide +kernel
theorem dX6_among_17 : decode cX6_among 17 = .ok (.aload_n 0, 1) := by decide +kernel
theorem dX6_among_18 : decode cX6_among 18 = .ok (.getfield 37, 3) := by decide +kernel
theorem dX6_among_21 : decode cX6_among 21 = .ok (.iload_n 3, 1) := by decide +kernel
theorem dX6_among_22 : decode cX6_among 22 = .ok (.iaload, 1) := by decide +kernel
theorem dX6_among_23 : decode cX6_among 23 = .ok (.istore_n 3, 1) := by decide +kernel
theorem dX6_among_24 : decode cX6_among 24 = .ok (.goto (-22), 3) := by decide +kernel
theorem dX6_among_27 : decode cX6_among 27 = .ok (.iload_n 3, 1) := by decide +kernel
theorem dX6_among_28 : decode cX6_among 28 = .ok (.ireturn, 1) := by decide +kernel
theorem dX6_isUnder_0 : decode cX6_isUnder 0 = .ok (.iload_n 1, 1) := by decide +kernel
theorem dX6_isUnder_1 : decode cX6_isUnder 1 = .ok (.istore_n 3, 1) := by decide +kernel
theorem dX6_isUnder_2 : decode cX6_isUnder 2 = .ok (.iload_n 3, 1) := by decide +kernel
theorem dX6_isUnder_3 : decode cX6_isUnder 3 = .ok (.iconst (-1), 1) := by decide +kernel
theorem dX6_isUnder_4 : decode cX6_isUnder 4 = .ok (.if_icmp .eq 18, 3) := by decide +kernel
theorem dX6_isUnder_7 : decode cX6_isUnder 7 = .ok (.iload_n 3, 1) := by decide +kernel
theorem dX6_isUnder_8 : decode cX6_isUnder 8 = .ok (.iload_n 2, 1) := by decide +kernel
theorem dX6_isUnder_9 : decode cX6_isUnder 9 = .ok (.if_icmp .eq 13, 3) := by decide +kernel
theorem dX6_isUnder_12 : decode cX6_isUnder 12 = .ok (.aload_n 0, 1) := by decide +kernel
theorem dX6_isUnder_13 : decode cX6_isUnder 13 = .ok (.getfield 37, 3) := by decide +kernel
theorem dX6_isUnder_16 : decode cX6_isUnder 16 = .ok (.iload_n 3, 1) := by decide +kernel
theorem dX6_isUnder_17 : decode cX6_isUnder 17 = .ok (.iaload, 1) := by decide +kernel
theorem dX6_isUnder_18 : decode cX6_isUnder 18 = .ok (.istore_n 3, 1) := by decide +kernel
theorem dX6_isUnder_19 : decode cX6_isUnder 19 = .ok (.goto (-17), 3) := by decide +kernel
theorem dX6_isUnder_22 : decode cX6_isUnder 22 = .ok (.iload_n 3, 1) := by decide +kernel
theorem dX6_isUnder_23 : decode cX6_isUnder 23 = .ok (.iload_n 2, 1) := by decide +kernel
theorem dX6_isUnder_24 : decode cX6_isUnder 24 = .ok (.if_icmp .ne 7, 3) := by decide +kernel
theorem dX6_isUnder_27 : decode cX6_isUnder 27 = .ok (.iconst 1, 1) := by decide +kernel
theorem dX6_isUnder_28 : decode cX6_isUnder 28 = .ok (.goto 4, 3) := by decide +kernel
theorem dX6_isUnder_31 : decode cX6_isUnder 31 = .ok (.iconst 0, 1) := by decide +kernel
theorem dX6_isUnder_32 : decode cX6_isUnder 32 = .ok (.ireturn, 1) := by decide +kernel
theorem dX6_areTwins_0 : decode cX6_areTwins 0 = .ok (.aload_n 0, 1) := by decide +kernel
theorem dX6_areTwins_1 : decode cX6_areTwins 1 = .ok (.getfield 34, 3) := by decide +kernel
theorem dX6_areTwins_4 : decode cX6_areTwins 4 = .ok (.iload_n 1, 1) := by decide +kernel
theorem dX6_areTwins_5 : decode cX6_areTwins 5 = .ok (.iaload, 1) := by decide +kernel
theorem dX6_areTwins_6 : decode cX6_areTwins 6 = .ok (.aload_n 0, 1) := by decide +kernel
theorem dX6_areTwins_7 : decode cX6_areTwins 7 = .ok (.getfield 34, 3) := by decide +kernel
theorem dX6_areTwins_10 : decode cX6_areTwins 10 = .ok (.iload_n 2, 1) := by decide +kernel
theorem dX6_areTwins_11 : decode cX6_areTwins 11 = .ok (.iaload, 1) := by decide +kernel
theorem dX6_areTwins_12 : decode cX6_areTwins 12 = .ok (.if_icmp .ne 22, 3) := by decide +kernel
theorem dX6_areTwins_15 : decode cX6_areTwins 15 = .ok (.aload_n 0, 1) := by decide +kernel
theorem dX6_areTwins_16 : decode cX6_areTwins 16 = .ok (.getfield 37, 3) := by decide +kernel
theorem dX6_areTwins_19 : decode cX6_areTwins 19 = .ok (.iload_n 1, 1) := by decide +kernel
theorem dX6_areTwins_20 : decode cX6_areTwins 20 = .ok (.iaload, 1) := by decide +kernel
theorem dX6_areTwins_21 : decode cX6_areTwins 21 = .ok (.aload_n 0, 1) := by decide +kernel
theorem dX6_areTwins_22 : decode cX6_areTwins 22 = .ok (.getfield 37, 3) := by decide +kernel
theorem dX6_areTwins_25 : decode cX6_areTwins 25 = .ok (.iload_n 2, 1) := by decide +kernel
theorem dX6_areTwins_26 : decode cX6_areTwins 26 = .ok (.iaload, 1) := by decide +kernel
theorem dX6_areTwins_27 : decode cX6_areTwins 27 = .ok (.if_icmp .ne 7, 3) := by decide +kernel
theorem dX6_areTwins_30 : decode cX6_areTwins 30 = .ok (.iconst 1, 1) := by decide +kernel
theorem dX6_areTwins_31 : decode cX6_areTwins 31 = .ok (.goto 4, 3) := by decide +kernel
theorem dX6_areTwins_34 : decode cX6_areTwins 34 = .ok (.iconst 0, 1) := by decide +kernel
theorem dX6_areTwins_35 : decode cX6_areTwins 35 = .ok (.ireturn, 1) := by decide +kernel
theorem dX6_liesAhead_0 : decode cX6_liesAhead 0 = .ok (.aload_n 0, 1) := by decide +kernel
theorem dX6_liesAhead_1 : decode cX6_liesAhead 1 = .ok (.getfield 16, 3) := by decide +kernel
theorem dX6_liesAhead_4 : decode cX6_liesAhead 4 = .ok (.iload_n 2, 1) := by decide +kernel
theorem dX6_liesAhead_5 : decode cX6_liesAhead 5 = .ok (.iaload, 1) := by decide +kernel
theorem dX6_liesAhead_6 : decode cX6_liesAhead 6 = .ok (.iconst 2, 1) := by decide +kernel
theorem dX6_liesAhead_7 : decode cX6_liesAhead 7 = .ok (.if_icmp .eq 27, 3) := by decide +kernel
theorem dX6_liesAhead_10 : decode cX6_liesAhead 10 = .ok (.aload_n 0, 1) := by decide +kernel
theorem dX6_liesAhead_11 : decode cX6_liesAhead 11 = .ok (.iload_n 1, 1) := by decide +kernel
theorem dX6_liesAhead_12 : decode cX6_liesAhead 12 = .ok (.invokevirtual 161, 3) := by decide +kernel
theorem dX6_liesAhead_15 : decode cX6_liesAhead 15 = .ok (.iload_n 3, 1) := by decide +kernel
theorem dX6_liesAhead_16 : decode cX6_liesAhead 16 = .ok (.if_icmp .eq 18, 3) := by decide +kernel
theorem dX6_liesAhead_19 : decode cX6_liesAhead 19 = .ok (.aload_n 0, 1) := by decide +kernel
theorem dX6_liesAhead_20 : decode cX6_liesAhead 20 = .ok (.iload_n 1, 1) := by decide +kernel
theorem dX6_liesAhead_21 : decode cX6_liesAhead 21 = .ok (.invokevirtual 161, 3) := by decide +kernel
theorem dX6_liesAhead_24 : decode cX6_liesAhead 24 = .ok (.iload_n 3, 1) := by decide +kernel
theorem dX6_liesAhead_25 : decode cX6_liesAhead 25 = .ok (.if_icmp .ge 7, 3) := by decide +kernel
theorem dX6_liesAhead_28 : decode cX6_liesAhead 28 = .ok (.iconst 1, 1) := by decide +kernel
theorem dX6_liesAhead_29 : decode cX6_liesAhead 29 = .ok (.goto 4, 3) := by decide +kernel
theorem dX6_liesAhead_32 : decode cX6_liesAhead 32 = .ok (.iconst 0, 1) := by decide +kernel
theorem dX6_liesAhead_33 : decode cX6_liesAhead 33 = .ok (.ireturn, 1) := by decide +kernel
theorem dX6_liesAhead_34 : decode cX6_liesAhead 34 = .ok (.aload_n 0, 1) := by decide +kernel
theorem dX6_liesAhead_35 : decode cX6_liesAhead 35 = .ok (.getfield 19, 3) := by decide +kernel
theorem dX6_liesAhead_38 : decode cX6_liesAhead 38 = .ok (.iload_n 2, 1) := by decide +kernel
theorem dX6_liesAhead_39 : decode cX6_liesAhead 39 = .ok (.iaload, 1) := by decide +kernel
theorem dX6_liesAhead_40 : decode cX6_liesAhead 40 = .ok (.iconst 2, 1) := by decide +kernel
theorem dX6_liesAhead_41 : decode cX6_liesAhead 41 = .ok (.if_icmp .eq 19, 3) := by decide +kernel
theorem dX6_liesAhead_44 : decode cX6_liesAhead 44 = .ok (.aload_n 0, 1) := by decide +kernel
theorem dX6_liesAhead_45 : decode cX6_liesAhead 45 = .ok (.getfield 19, 3) := by decide +kernel
theorem dX6_liesAhead_48 : decode cX6_liesAhead 48 = .ok (.iload_n 2, 1) := by decide +kernel
theorem dX6_liesAhead_49 : decode cX6_liesAhead 49 = .ok (.iaload, 1) := by decide +kernel
theorem dX6_liesAhead_50 : decode cX6_liesAhead 50 = .ok (.iconst 1, 1) := by decide +kernel
theorem dX6_liesAhead_51 : decode cX6_liesAhead 51 = .ok (.if_icmp .ne 7, 3) := by decide +kernel
theorem dX6_liesAhead_54 : decode cX6_liesAhead 54 = .ok (.iconst 1, 1) := by decide +kernel
theorem dX6_liesAhead_55 : decode cX6_liesAhead 55 = .ok (.goto 4, 3) := by decide +kernel
theorem dX6_liesAhead_58 : decode cX6_liesAhead 58 = .ok (.iconst 0, 1) := by decide +kernel
theorem dX6_liesAhead_59 : decode cX6_liesAhead 59 = .ok (.ireturn, 1) := by decide +kernel
theorem dX6_liesAhead_60 : decode cX6_liesAhead 60 = .ok (.iload 4, 2) := by decide +kernel
theorem dX6_liesAhead_62 : decode cX6_liesAhead 62 = .ok (.iconst (-1), 1) := by decide +kernel
theorem dX6_liesAhead_63 : decode cX6_liesAhead 63 = .ok (.if_icmp .eq 23, 3) := by decide +kernel
theorem dX6_liesAhead_66 : decode cX6_liesAhead 66 = .ok (.aload_n 0, 1) := by decide +kernel
theorem dX6_liesAhead_67 : decode cX6_liesAhead 67 = .ok (.getfield 59, 3) := by decide +kernel
theorem dX6_liesAhead_70 : decode cX6_liesAhead 70 = .ok (.iload 4, 2) := by decide +kernel
theorem dX6_liesAhead_72 : decode cX6_liesAhead 72 = .ok (.iaload, 1) := by decide +kernel
theorem dX6_liesAhead_73 : decode cX6_liesAhead 73 = .ok (.ifCond .ne 13, 3) := by decide +kernel
theorem dX6_liesAhead_76 : decode cX6_liesAhead 76 = .ok (.aload_n 0, 1) := by decide +kernel
theorem dX6_liesAhead_77 : decode cX6_liesAhead 77 = .ok (.getfield 62, 3) := by decide +kernel
theorem dX6_liesAhead_80 : decode cX6_liesAhead 80 = .ok (.iload 4, 2) := by decide +kernel
theorem dX6_liesAhead_82 : decode cX6_liesAhead 82 = .ok (.iaload, 1) := by decide +kernel
theorem dX6_liesAhead_83 : decode cX6_liesAhead 83 = .ok (.goto 4, 3) := by decide +kernel
theorem dX6_liesAhead_86 : decode cX6_liesAhead 86 = .ok (.iconst (-1), 1) := by decide +kernel
theorem dX6_liesAhead_87 : decode cX6_liesAhead 87 = .ok (.istore 5, 2) := by decide +kernel
theorem dX6_liesAhead_89 : decode cX6_liesAhead 89 = .ok (.iload 5, 2) := by decide +kernel
theorem dX6_liesAhead_91 : decode cX6_liesAhead 91 = .ok (.iconst (-1), 1) := by decide +kernel
theorem dX6_liesAhead_92 : decode cX6_liesAhead 92 = .ok (.if_icmp .eq 37, 3) := by decide +kernel
theorem dX6_liesAhead_95 : decode cX6_liesAhead 95 = .ok (.aload_n 0, 1) := by decide +kernel
theorem dX6_liesAhead_96 : decode cX6_liesAhead 96 = .ok (.iload 5, 2) := by decide +kernel
theorem dX6_liesAhead_98 : decode cX6_liesAhead 98 = .ok (.iload_n 1, 1) := by decide +kernel
theorem dX6_liesAhead_99 : decode cX6_liesAhead 99 = .ok (.invokevirtual 164, 3) := by decide +kernel
theorem dX6_liesAhead_102 : decode cX6_liesAhead 102 = .ok (.ifCond .eq 27, 3) := by decide +kernel
theorem dX6_liesAhead_105 : decode cX6_liesAhead 105 = .ok (.aload_n 0, 1) := by decide +kernel
theorem dX6_liesAhead_106 : decode cX6_liesAhead 106 = .ok (.getfield 16, 3) := by decide +kernel
theorem dX6_liesAhead_109 : decode cX6_liesAhead 109 = .ok (.iload_n 2, 1) := by decide +kernel
theorem dX6_liesAhead_110 : decode cX6_liesAhead 110 = .ok (.iaload, 1) := by decide +kernel
theorem dX6_liesAhead_111 : decode cX6_liesAhead 111 = .ok (.iconst 2, 1) := by decide +kernel
theorem dX6_liesAhead_112 : decode cX6_liesAhead 112 = .ok (.if_icmp .eq 13, 3) := by decide +kernel
theorem dX6_liesAhead_115 : decode cX6_liesAhead 115 = .ok (.aload_n 0, 1) := by decide +kernel
theorem dX6_liesAhead_116 : decode cX6_liesAhead 116 = .ok (.iload 5, 2) := by decide +kernel
theorem dX6_liesAhead_118 : decode cX6_liesAhead 118 = .ok (.invokevirtual 161, 3) := by decide +kernel
theorem dX6_liesAhead_121 : decode cX6_liesAhead 121 = .ok (.iload_n 3, 1) := by decide +kernel
theorem dX6_liesAhead_122 : decode cX6_liesAhead 122 = .ok (.if_icmp .ne 7, 3) := by decide +kernel
theorem dX6_liesAhead_125 : decode cX6_liesAhead 125 = .ok (.iconst 1, 1) := by decide +kernel
theorem dX6_liesAhead_126 : decode cX6_liesAhead 126 = .ok (.goto 4, 3) := by decide +kernel
theorem dX6_liesAhead_129 : decode cX6_liesAhead 129 = .ok (.iconst 0, 1) := by decide +kernel
theorem dX6_liesAhead_130 : decode cX6_liesAhead 130 = .ok (.istore 6, 2) := by decide +kernel
theorem dX6_liesAhead_132 : decode cX6_liesAhead 132 = .ok (.iload 6, 2) := by decide +kernel
theorem dX6_liesAhead_134 : decode cX6_liesAhead 134 = .ok (.ifCond .eq 21, 3) := by decide +kernel
theorem dX6_liesAhead_137 : decode cX6_liesAhead 137 = .ok (.aload_n 0, 1) := by decide +kernel
theorem dX6_liesAhead_138 : decode cX6_liesAhead 138 = .ok (.iload_n 1, 1) := by decide +kernel
theorem dX6_liesAhead_139 : decode cX6_liesAhead 139 = .ok (.invokevirtual 167, 3) := by decide +kernel
theorem dX6_liesAhead_142 : decode cX6_liesAhead 142 = .ok (.aload_n 0, 1) := by decide +kernel
theorem dX6_liesAhead_143 : decode cX6_liesAhead 143 = .ok (.iload 5, 2) := by decide +kernel
theorem dX6_liesAhead_145 : decode cX6_liesAhead 145 = .ok (.invokevirtual 167, 3) := by decide +kernel
theorem dX6_liesAhead_148 : decode cX6_liesAhead 148 = .ok (.if_icmp .ge 7, 3) := by decide +kernel
theorem dX6_liesAhead_151 : decode cX6_liesAhead 151 = .ok (.iconst 1, 1) := by decide +kernel
theorem dX6_liesAhead_152 : decode cX6_liesAhead 152 = .ok (.goto 4, 3) := by decide +kernel
theorem dX6_liesAhead_155 : decode cX6_liesAhead 155 = .ok (.iconst 0, 1) := by decide +kernel
theorem dX6_liesAhead_156 : decode cX6_liesAhead 156 = .ok (.ireturn, 1) := by decide +kernel
theorem dX6_isBehind_0 : decode cX6_isBehind 0 = .ok (.iload_n 3, 1) := by decide +kernel
theorem dX6_isBehind_1 : decode cX6_isBehind 1 = .ok (.iconst (-1), 1) := by decide +kernel
theorem dX6_isBehind_2 : decode cX6_isBehind 2 = .ok (.if_icmp .eq 31, 3) := by decide +kernel
theorem dX6_isBehind_5 : decode cX6_isBehind 5 = .ok (.aload_n 0, 1) := by decide +kernel
theorem dX6_isBehind_6 : decode cX6_isBehind 6 = .ok (.iload_n 1, 1) := by decide +kernel
theorem dX6_isBehind_7 : decode cX6_isBehind 7 = .ok (.iload_n 3, 1) := by decide +kernel
theorem dX6_isBehind_8 : decode cX6_isBehind 8 = .ok (.invokevirtual 170, 3) := by decide +kernel
theorem dX6_isBehind_11 : decode cX6_isBehind 11 = .ok (.ifCond .ne 22, 3) := by decide +kernel
theorem dX6_isBehind_14 : decode cX6_isBehind 14 = .ok (.aload_n 0, 1) := by decide +kernel
theorem dX6_isBehind_15 : decode cX6_isBehind 15 = .ok (.iload_n 1, 1) := by decide +kernel
theorem dX6_isBehind_16 : decode cX6_isBehind 16 = .ok (.invokevirtual 167, 3) := by decide +kernel
theorem dX6_isBehind_19 : decode cX6_isBehind 19 = .ok (.aload_n 0, 1) := by decide +kernel
theorem dX6_isBehind_20 : decode cX6_isBehind 20 = .ok (.iload_n 3, 1) := by decide +kernel
theorem dX6_isBehind_21 : decode cX6_isBehind 21 = .ok (.invokevirtual 167, 3) := by decide +kernel
theorem dX6_isBehind_24 : decode cX6_isBehind 24 = .ok (.if_icmp .ge 7, 3) := by decide +kernel
theorem dX6_isBehind_27 : decode cX6_isBehind 27 = .ok (.iconst 1, 1) := by decide +kernel
theorem dX6_isBehind_28 : decode cX6_isBehind 28 = .ok (.goto 4, 3) := by decide +kernel
theorem dX6_isBehind_31 : decode cX6_isBehind 31 = .ok (.iconst 0, 1) := by decide +kernel
theorem dX6_isBehind_32 : decode cX6_isBehind 32 = .ok (.ireturn, 1) := by decide +kernel
theorem dX6_isBehind_33 : decode cX6_isBehind 33 = .ok (.iload_n 1, 1) := by decide +kernel
theorem dX6_isBehind_34 : decode cX6_isBehind 34 = .ok (.iload_n 3, 1) := by decide +kernel
theorem dX6_isBehind_35 : decode cX6_isBehind 35 = .ok (.if_icmp .ne 5, 3) := by decide +kernel
theorem dX6_isBehind_38 : decode cX6_isBehind 38 = .ok (.iconst 1, 1) := by decide +kernel
theorem dX6_isBehind_39 : decode cX6_isBehind 39 = .ok (.ireturn, 1) := by decide +kernel
theorem dX6_isBehind_40 : decode cX6_isBehind 40 = .ok (.iload_n 1, 1) := by decide +kernel
theorem dX6_isBehind_41 : decode cX6_isBehind 41 = .ok (.istore 6, 2) := by decide +kernel
theorem dX6_isBehind_43 : decode cX6_isBehind 43 = .ok (.aload_n 0, 1) := by decide +kernel
theorem dX6_isBehind_44 : decode cX6_isBehind 44 = .ok (.getfield 37, 3) := by decide +kernel
theorem dX6_isBehind_47 : decode cX6_isBehind 47 = .ok (.iload 6, 2) := by decide +kernel
theorem dX6_isBehind_49 : decode cX6_isBehind 49 = .ok (.iaload, 1) := by decide +kernel
theorem dX6_isBehind_50 : decode cX6_isBehind 50 = .ok (.iload_n 3, 1) := by decide +kernel
theorem dX6_isBehind_51 : decode cX6_isBehind 51 = .ok (.if_icmp .eq 15, 3) := by decide +kernel
theorem dX6_isBehind_54 : decode cX6_isBehind 54 = .ok (.aload_n 0, 1) := by decide +kernel
theorem dX6_isBehind_55 : decode cX6_isBehind 55 = .ok (.getfield 37, 3) := by decide +kernel
theorem dX6_isBehind_58 : decode cX6_isBehind 58 = .ok (.iload 6, 2) := by decide +kernel
theorem dX6_isBehind_60 : decode cX6_isBehind 60 = .ok (.iaload, 1) := by decide +kernel
theorem dX6_isBehind_61 : decode cX6_isBehind 61 = .ok (.istore 6, 2) := by decide +kernel
theorem dX6_isBehind_63 : decode cX6_isBehind 63 = .ok (.goto (-20), 3) := by decide +kernel
theorem dX6_isBehind_66 : decode cX6_isBehind 66 = .ok (.aload_n 0, 1) := by decide +kernel
theorem dX6_isBehind_67 : decode cX6_isBehind 67 = .ok (.getfield 34, 3) := by decide +kernel
theorem dX6_isBehind_70 : decode cX6_isBehind 70 = .ok (.iload 6, 2) := by decide +kernel
theorem dX6_isBehind_72 : decode cX6_isBehind 72 = .ok (.iaload, 1) := by decide +kernel
theorem dX6_isBehind_73 : decode cX6_isBehind 73 = .ok (.iload_n 2, 1) := by decide +kernel
theorem dX6_isBehind_74 : decode cX6_isBehind 74 = .ok (.if_icmp .ne 17, 3) := by decide +kernel
theorem dX6_isBehind_77 : decode cX6_isBehind 77 = .ok (.aload_n 0, 1) := by decide +kernel
theorem dX6_isBehind_78 : decode cX6_isBehind 78 = .ok (.iload 6, 2) := by decide +kernel
theorem dX6_isBehind_80 : decode cX6_isBehind 80 = .ok (.iload_n 2, 1) := by decide +kernel
theorem dX6_isBehind_81 : decode cX6_isBehind 81 = .ok (.iload 4, 2) := by decide +kernel
theorem dX6_isBehind_83 : decode cX6_isBehind 83 = .ok (.iload 5, 2) := by decide +kernel
theorem dX6_isBehind_85 : decode cX6_isBehind 85 = .ok (.invokevirtual 173, 3) := by decide +kernel
theorem dX6_isBehind_88 : decode cX6_isBehind 88 = .ok (.goto 19, 3) := by decide +kernel
theorem dX6_isBehind_91 : decode cX6_isBehind 91 = .ok (.aload_n 0, 1) := by decide +kernel
theorem dX6_isBehind_92 : decode cX6_isBehind 92 = .ok (.getfield 34, 3) := by decide +kernel
theorem dX6_isBehind_95 : decode cX6_isBehind 95 = .ok (.iload 6, 2) := by decide +kernel
theorem dX6_isBehind_97 : decode cX6_isBehind 97 = .ok (.iaload, 1) := by decide +kernel
theorem dX6_isBehind_98 : decode cX6_isBehind 98 = .ok (.iload_n 2, 1) := by decide +kernel
theorem dX6_isBehind_99 : decode cX6_isBehind 99 = .ok (.if_icmp .ge 7, 3) := by decide +kernel
theorem dX6_isBehind_102 : decode cX6_isBehind 102 = .ok (.iconst 1, 1) := by decide +kernel
theorem dX6_isBehind_103 : decode cX6_isBehind 103 = .ok (.goto 4, 3) := by decide +kernel
theorem dX6_isBehind_106 : decode cX6_isBehind 106 = .ok (.iconst 0, 1) := by decide +kernel
theorem dX6_isBehind_107 : decode cX6_isBehind 107 = .ok (.ireturn, 1) := by decide +kernel
theorem dX6_inserts_0 : decode cX6_inserts 0 = .ok (.aload_n 0, 1) := by decide +kernel
theorem dX6_inserts_1 : decode cX6_inserts 1 = .ok (.getfield 7, 3) := by decide +kernel
theorem dX6_inserts_4 : decode cX6_inserts 4 = .ok (.iload_n 1, 1) := by decide +kernel
theorem dX6_inserts_5 : decode cX6_inserts 5 = .ok (.iaload, 1) := by decide +kernel
theorem dX6_inserts_6 : decode cX6_inserts 6 = .ok (.istore 5, 2) := by decide +kernel
theorem dX6_inserts_8 : decode cX6_inserts 8 = .ok (.iconst 0, 1) := by decide +kernel
theorem dX6_inserts_9 : decode cX6_inserts 9 = .ok (.istore 6, 2) := by decide +kernel
theorem dX6_inserts_11 : decode cX6_inserts 11 = .ok (.iconst 0, 1) := by decide +kernel
theorem dX6_inserts_12 : decode cX6_inserts 12 = .ok (.istore 7, 2) := by decide +kernel
theorem dX6_inserts_14 : decode cX6_inserts 14 = .ok (.iload 7, 2) := by decide +kernel
theorem dX6_inserts_16 : decode cX6_inserts 16 = .ok (.aload_n 0, 1) := by decide +kernel
theorem dX6_inserts_17 : decode cX6_inserts 17 = .ok (.getfield 47, 3) := by decide +kernel
theorem dX6_inserts_20 : decode cX6_inserts 20 = .ok (.iload 5, 2) := by decide +kernel
theorem dX6_inserts_22 : decode cX6_inserts 22 = .ok (.iaload, 1) := by decide +kernel
theorem dX6_inserts_23 : decode cX6_inserts 23 = .ok (.if_icmp .ge 39, 3) := by decide +kernel
theorem dX6_inserts_26 : decode cX6_inserts 26 = .ok (.iload 6, 2) := by decide +kernel
theorem dX6_inserts_28 : decode cX6_inserts 28 = .ok (.aload_n 0, 1) := by decide +kernel
theorem dX6_inserts_29 : decode cX6_inserts 29 = .ok (.aload_n 0, 1) := by decide +kernel
theorem dX6_inserts_30 : decode cX6_inserts 30 = .ok (.iload 5, 2) := by decide +kernel
theorem dX6_inserts_32 : decode cX6_inserts 32 = .ok (.iload 7, 2) := by decide +kernel
theorem dX6_inserts_34 : decode cX6_inserts 34 = .ok (.invokevirtual 157, 3) := by decide +kernel
theorem dX6_inserts_37 : decode cX6_inserts 37 = .ok (.iload_n 1, 1) := by decide +kernel
theorem dX6_inserts_38 : decode cX6_inserts 38 = .ok (.iload_n 2, 1) := by decide +kernel
theorem dX6_inserts_39 : decode cX6_inserts 39 = .ok (.iload_n 3, 1) := by decide +kernel
theorem dX6_inserts_40 : decode cX6_inserts 40 = .ok (.iload 4, 2) := by decide +kernel
theorem dX6_inserts_42 : decode cX6_inserts 42 = .ok (.invokevirtual 177, 3) := by decide +kernel
theorem dX6_inserts_45 : decode cX6_inserts 45 = .ok (.ifCond .eq 7, 3) := by decide +kernel
theorem dX6_inserts_48 : decode cX6_inserts 48 = .ok (.iconst 1, 1) := by decide +kernel
theorem dX6_inserts_49 : decode cX6_inserts 49 = .ok (.goto 4, 3) := by decide +kernel
theorem dX6_inserts_52 : decode cX6_inserts 52 = .ok (.iconst 0, 1) := by decide +kernel
theorem dX6_inserts_53 : decode cX6_inserts 53 = .ok (.iadd, 1) := by decide +kernel
theorem dX6_inserts_54 : decode cX6_inserts 54 = .ok (.istore 6, 2) := by decide +kernel
theorem dX6_inserts_56 : decode cX6_inserts 56 = .ok (.iinc 7 1, 3) := by decide +kernel
theorem dX6_inserts_59 : decode cX6_inserts 59 = .ok (.goto (-45), 3) := by decide +kernel
theorem dX6_inserts_62 : decode cX6_inserts 62 = .ok (.iconst 0, 1) := by decide +kernel
theorem dX6_inserts_63 : decode cX6_inserts 63 = .ok (.istore 7, 2) := by decide +kernel
theorem dX6_inserts_65 : decode cX6_inserts 65 = .ok (.aload_n 0, 1) := by decide +kernel
theorem dX6_inserts_66 : decode cX6_inserts 66 = .ok (.getfield 34, 3) := by decide +kernel
theorem dX6_inserts_69 : decode cX6_inserts 69 = .ok (.iload 7, 2) := by decide +kernel
theorem dX6_inserts_71 : decode cX6_inserts 71 = .ok (.iaload, 1) := by decide +kernel
theorem dX6_inserts_72 : decode cX6_inserts 72 = .ok (.iconst (-1), 1) := by decide +kernel
theorem dX6_inserts_73 : decode cX6_inserts 73 = .ok (.if_icmp .eq 9, 3) := by decide +kernel
theorem dX6_inserts_76 : decode cX6_inserts 76 = .ok (.iinc 7 1, 3) := by decide +kernel
theorem dX6_inserts_79 : decode cX6_inserts 79 = .ok (.goto (-14), 3) := by decide +kernel
theorem dX6_inserts_82 : decode cX6_inserts 82 = .ok (.aload_n 0, 1) := by decide +kernel
theorem dX6_inserts_83 : decode cX6_inserts 83 = .ok (.getfield 47, 3) := by decide +kernel
theorem dX6_inserts_86 : decode cX6_inserts 86 = .ok (.iload 5, 2) := by decide +kernel
theorem dX6_inserts_88 : decode cX6_inserts 88 = .ok (.iaload, 1) := by decide +kernel
theorem dX6_inserts_89 : decode cX6_inserts 89 = .ok (.istore 8, 2) := by decide +kernel
theorem dX6_inserts_91 : decode cX6_inserts 91 = .ok (.iload 8, 2) := by decide +kernel
theorem dX6_inserts_93 : decode cX6_inserts 93 = .ok (.iload 6, 2) := by decide +kernel
theorem dX6_inserts_95 : decode cX6_inserts 95 = .ok (.if_icmp .le 37, 3) := by decide +kernel
theorem dX6_inserts_98 : decode cX6_inserts 98 = .ok (.aload_n 0, 1) := by decide +kernel
theorem dX6_inserts_99 : decode cX6_inserts 99 = .ok (.getfield 50, 3) := by decide +kernel
theorem dX6_inserts_102 : decode cX6_inserts 102 = .ok (.bipush 60, 2) := by decide +kernel
theorem dX6_inserts_104 : decode cX6_inserts 104 = .ok (.iload 5, 2) := by decide +kernel
theorem dX6_inserts_106 : decode cX6_inserts 106 = .ok (.imul, 1) := by decide +kernel
theorem dX6_inserts_107 : decode cX6_inserts 107 = .ok (.iload 8, 2) := by decide +kernel
theorem dX6_inserts_109 : decode cX6_inserts 109 = .ok (.iadd, 1) := by decide +kernel
theorem dX6_inserts_110 : decode cX6_inserts 110 = .ok (.aload_n 0, 1) := by decide +kernel
theorem dX6_inserts_111 : decode cX6_inserts 111 = .ok (.getfield 50, 3) := by decide +kernel
theorem dX6_inserts_114 : decode cX6_inserts 114 = .ok (.bipush 60, 2) := by decide +kernel
theorem dX6_inserts_116 : decode cX6_inserts 116 = .ok (.iload 5, 2) := by decide +kernel
theorem dX6_inserts_118 : decode cX6_inserts 118 = .ok (.imul, 1) := by decide +kernel
theorem dX6_inserts_119 : decode cX6_inserts 119 = .ok (.iload 8, 2) := by decide +kernel
theorem dX6_inserts_121 : decode cX6_inserts 121 = .ok (.iadd, 1) := by decide +kernel
theorem dX6_inserts_122 : decode cX6_inserts 122 = .ok (.iconst 1, 1) := by decide +kernel
theorem dX6_inserts_123 : decode cX6_inserts 123 = .ok (.isub, 1) := by decide +kernel
theorem dX6_inserts_124 : decode cX6_inserts 124 = .ok (.iaload, 1) := by decide +kernel
theorem dX6_inserts_125 : decode cX6_inserts 125 = .ok (.iastore, 1) := by decide +kernel
theorem dX6_inserts_126 : decode cX6_inserts 126 = .ok (.iinc 8 (-1), 3) := by decide +kernel
theorem dX6_inserts_129 : decode cX6_inserts 129 = .ok (.goto (-38), 3) := by decide +kernel
theorem dX6_inserts_132 : decode cX6_inserts 132 = .ok (.aload_n 0, 1) := by decide +kernel
theorem dX6_inserts_133 : decode cX6_inserts 133 = .ok (.getfield 50, 3) := by decide +kernel
theorem dX6_inserts_136 : decode cX6_inserts 136 = .ok (.bipush 60, 2) := by decide +kernel
theorem dX6_inserts_138 : decode cX6_inserts 138 = .ok (.iload 5, 2) := by decide +kernel
theorem dX6_inserts_140 : decode cX6_inserts 140 = .ok (.imul, 1) := by decide +kernel
theorem dX6_inserts_141 : decode cX6_inserts 141 = .ok (.iload 6, 2) := by decide +kernel
theorem dX6_inserts_143 : decode cX6_inserts 143 = .ok (.iadd, 1) := by decide +kernel
theorem dX6_inserts_144 : decode cX6_inserts 144 = .ok (.iload 7, 2) := by decide +kernel
theorem dX6_inserts_146 : decode cX6_inserts 146 = .ok (.iastore, 1) := by decide +kernel
theorem dX6_inserts_147 : decode cX6_inserts 147 = .ok (.aload_n 0, 1) := by decide +kernel
theorem dX6_inserts_148 : decode cX6_inserts 148 = .ok (.getfield 47, 3) := by decide +kernel
theorem dX6_inserts_151 : decode cX6_inserts 151 = .ok (.iload 5, 2) := by decide +kernel
theorem dX6_inserts_153 : decode cX6_inserts 153 = .ok (.dup2, 1) := by decide +kernel
theorem dX6_inserts_154 : decode cX6_inserts 154 = .ok (.iaload, 1) := by decide +kernel
theorem dX6_inserts_155 : decode cX6_inserts 155 = .ok (.iconst 1, 1) := by decide +kernel
theorem dX6_inserts_156 : decode cX6_inserts 156 = .ok (.iadd, 1) := by decide +kernel
theorem dX6_inserts_157 : decode cX6_inserts 157 = .ok (.iastore, 1) := by decide +kernel
theorem dX6_inserts_158 : decode cX6_inserts 158 = .ok (.aload_n 0, 1) := by decide +kernel
theorem dX6_inserts_159 : decode cX6_inserts 159 = .ok (.getfield 34, 3) := by decide +kernel
theorem dX6_inserts_162 : decode cX6_inserts 162 = .ok (.iload 7, 2) := by decide +kernel
theorem dX6_inserts_164 : decode cX6_inserts 164 = .ok (.iload_n 1, 1) := by decide +kernel
theorem dX6_inserts_165 : decode cX6_inserts 165 = .ok (.iastore, 1) := by decide +kernel
theorem dX6_inserts_166 : decode cX6_inserts 166 = .ok (.aload_n 0, 1) := by decide +kernel
theorem dX6_inserts_167 : decode cX6_inserts 167 = .ok (.getfield 37, 3) := by decide +kernel
theorem dX6_inserts_170 : decode cX6_inserts 170 = .ok (.iload 7, 2) := by decide +kernel
theorem dX6_inserts_172 : decode cX6_inserts 172 = .ok (.iload_n 2, 1) := by decide +kernel
theorem dX6_inserts_173 : decode cX6_inserts 173 = .ok (.iastore, 1) := by decide +kernel
theorem dX6_inserts_174 : decode cX6_inserts 174 = .ok (.aload_n 0, 1) := by decide +kernel
theorem dX6_inserts_175 : decode cX6_inserts 175 = .ok (.getfield 40, 3) := by decide +kernel
theorem dX6_inserts_178 : decode cX6_inserts 178 = .ok (.iconst 3, 1) := by decide +kernel
theorem dX6_inserts_179 : decode cX6_inserts 179 = .ok (.iload 7, 2) := by decide +kernel
theorem dX6_inserts_181 : decode cX6_inserts 181 = .ok (.imul, 1) := by decide +kernel
theorem dX6_inserts_182 : decode cX6_inserts 182 = .ok (.iload_n 3, 1) := by decide +kernel
theorem dX6_inserts_183 : decode cX6_inserts 183 = .ok (.iastore, 1) := by decide +kernel
theorem dX6_inserts_184 : decode cX6_inserts 184 = .ok (.aload_n 0, 1) := by decide +kernel
theorem dX6_inserts_185 : decode cX6_inserts 185 = .ok (.getfield 40, 3) := by decide +kernel
theorem dX6_inserts_188 : decode cX6_inserts 188 = .ok (.iconst 3, 1) := by decide +kernel
theorem dX6_inserts_189 : decode cX6_inserts 189 = .ok (.iload 7, 2) := by decide +kernel
theorem dX6_inserts_191 : decode cX6_inserts 191 = .ok (.imul, 1) := by decide +kernel
theorem dX6_inserts_192 : decode cX6_inserts 192 = .ok (.iconst 1, 1) := by decide +kernel
theorem dX6_inserts_193 : decode cX6_inserts 193 = .ok (.iadd, 1) := by decide +kernel
theorem dX6_inserts_194 : decode cX6_inserts 194 = .ok (.iconst 0, 1) := by decide +kernel
theorem dX6_inserts_195 : decode cX6_inserts 195 = .ok (.iastore, 1) := by decide +kernel
theorem dX6_inserts_196 : decode cX6_inserts 196 = .ok (.aload_n 0, 1) := by decide +kernel
theorem dX6_inserts_197 : decode cX6_inserts 197 = .ok (.getfield 40, 3) := by decide +kernel
theorem dX6_inserts_200 : decode cX6_inserts 200 = .ok (.iconst 3, 1) := by decide +kernel
theorem dX6_inserts_201 : decode cX6_inserts 201 = .ok (.iload 7, 2) := by decide +kernel
theorem dX6_inserts_203 : decode cX6_inserts 203 = .ok (.imul, 1) := by decide +kernel
theorem dX6_inserts_204 : decode cX6_inserts 204 = .ok (.iconst 2, 1) := by decide +kernel
theorem dX6_inserts_205 : decode cX6_inserts 205 = .ok (.iadd, 1) := by decide +kernel
theorem dX6_inserts_206 : decode cX6_inserts 206 = .ok (.iconst 0, 1) := by decide +kernel
theorem dX6_inserts_207 : decode cX6_inserts 207 = .ok (.iastore, 1) := by decide +kernel
theorem dX6_inserts_208 : decode cX6_inserts 208 = .ok (.iload 7, 2) := by decide +kernel
theorem dX6_inserts_210 : decode cX6_inserts 210 = .ok (.ireturn, 1) := by decide +kernel
theorem dX6_rootOf_0 : decode cX6_rootOf 0 = .ok (.iconst (-1), 1) := by decide +kernel
theorem dX6_rootOf_1 : decode cX6_rootOf 1 = .ok (.istore_n 3, 1) := by decide +kernel
theorem dX6_rootOf_2 : decode cX6_rootOf 2 = .ok (.iconst 0, 1) := by decide +kernel
theorem dX6_rootOf_3 : decode cX6_rootOf 3 = .ok (.istore 4, 2) := by decide +kernel
theorem dX6_rootOf_5 : decode cX6_rootOf 5 = .ok (.iload 4, 2) := by decide +kernel
theorem dX6_rootOf_7 : decode cX6_rootOf 7 = .ok (.bipush 60, 2) := by decide +kernel
theorem dX6_rootOf_9 : decode cX6_rootOf 9 = .ok (.if_icmp .ge 37, 3) := by decide +kernel
theorem dX6_rootOf_12 : decode cX6_rootOf 12 = .ok (.aload_n 0, 1) := by decide +kernel
theorem dX6_rootOf_13 : decode cX6_rootOf 13 = .ok (.getfield 34, 3) := by decide +kernel
theorem dX6_rootOf_16 : decode cX6_rootOf 16 = .ok (.iload 4, 2) := by decide +kernel
theorem dX6_rootOf_18 : decode cX6_rootOf 18 = .ok (.iaload, 1) := by decide +kernel
theorem dX6_rootOf_19 : decode cX6_rootOf 19 = .ok (.iload_n 1, 1) := by decide +kernel
theorem dX6_rootOf_20 : decode cX6_rootOf 20 = .ok (.if_icmp .ne 18, 3) := by decide +kernel
theorem dX6_rootOf_23 : decode cX6_rootOf 23 = .ok (.aload_n 0, 1) := by decide +kernel
theorem dX6_rootOf_24 : decode cX6_rootOf 24 = .ok (.iload 4, 2) := by decide +kernel
theorem dX6_rootOf_26 : decode cX6_rootOf 26 = .ok (.invokevirtual 161, 3) := by decide +kernel
theorem dX6_rootOf_29 : decode cX6_rootOf 29 = .ok (.iload_n 2, 1) := by decide +kernel
theorem dX6_rootOf_30 : decode cX6_rootOf 30 = .ok (.if_icmp .ne 8, 3) := by decide +kernel
theorem dX6_rootOf_33 : decode cX6_rootOf 33 = .ok (.iload 4, 2) := by decide +kernel
theorem dX6_rootOf_35 : decode cX6_rootOf 35 = .ok (.goto 4, 3) := by decide +kernel
theorem dX6_rootOf_38 : decode cX6_rootOf 38 = .ok (.iload_n 3, 1) := by decide +kernel
theorem dX6_rootOf_39 : decode cX6_rootOf 39 = .ok (.istore_n 3, 1) := by decide +kernel
theorem dX6_rootOf_40 : decode cX6_rootOf 40 = .ok (.iinc 4 1, 3) := by decide +kernel
theorem dX6_rootOf_43 : decode cX6_rootOf 43 = .ok (.goto (-38), 3) := by decide +kernel
theorem dX6_rootOf_46 : decode cX6_rootOf 46 = .ok (.iload_n 3, 1) := by decide +kernel
theorem dX6_rootOf_47 : decode cX6_rootOf 47 = .ok (.ireturn, 1) := by decide +kernel
theorem dX6_secondOf_0 : decode cX6_secondOf 0 = .ok (.aload_n 0, 1) := by decide +kernel
theorem dX6_secondOf_1 : decode cX6_secondOf 1 = .ok (.getfield 25, 3) := by decide +kernel
theorem dX6_secondOf_4 : decode cX6_secondOf 4 = .ok (.aload_n 0, 1) := by decide +kernel
theorem dX6_secondOf_5 : decode cX6_secondOf 5 = .ok (.getfield 34, 3) := by decide +kernel
theorem dX6_secondOf_8 : decode cX6_secondOf 8 = .ok (.iload_n 1, 1) := by decide +kernel
theorem dX6_secondOf_9 : decode cX6_secondOf 9 = .ok (.iaload, 1) := by decide +kernel
theorem dX6_secondOf_10 : decode cX6_secondOf 10 = .ok (.iaload, 1) := by decide +kernel
theorem dX6_secondOf_11 : decode cX6_secondOf 11 = .ok (.istore_n 2, 1) := by decide +kernel
theorem dX6_secondOf_12 : decode cX6_secondOf 12 = .ok (.iload_n 2, 1) := by decide +kernel
theorem dX6_secondOf_13 : decode cX6_secondOf 13 = .ok (.iconst (-1), 1) := by decide +kernel
theorem dX6_secondOf_14 : decode cX6_secondOf 14 = .ok (.if_icmp .ne 7, 3) := by decide +kernel
theorem dX6_secondOf_17 : decode cX6_secondOf 17 = .ok (.iconst (-1), 1) := by decide +kernel
theorem dX6_secondOf_18 : decode cX6_secondOf 18 = .ok (.goto 18, 3) := by decide +kernel
theorem dX6_secondOf_21 : decode cX6_secondOf 21 = .ok (.aload_n 0, 1) := by decide +kernel
theorem dX6_secondOf_22 : decode cX6_secondOf 22 = .ok (.iload_n 2, 1) := by decide +kernel
theorem dX6_secondOf_23 : decode cX6_secondOf 23 = .ok (.aload_n 0, 1) := by decide +kernel
theorem dX6_secondOf_24 : decode cX6_secondOf 24 = .ok (.getfield 40, 3) := by decide +kernel
theorem dX6_secondOf_27 : decode cX6_secondOf 27 = .ok (.iconst 3, 1) := by decide +kernel
theorem dX6_secondOf_28 : decode cX6_secondOf 28 = .ok (.iload_n 1, 1) := by decide +kernel
theorem dX6_secondOf_29 : decode cX6_secondOf 29 = .ok (.imul, 1) := by decide +kernel
theorem dX6_secondOf_30 : decode cX6_secondOf 30 = .ok (.iconst 2, 1) := by decide +kernel
theorem dX6_secondOf_31 : decode cX6_secondOf 31 = .ok (.iadd, 1) := by decide +kernel
theorem dX6_secondOf_32 : decode cX6_secondOf 32 = .ok (.iaload, 1) := by decide +kernel
theorem dX6_secondOf_33 : decode cX6_secondOf 33 = .ok (.invokevirtual 181, 3) := by decide +kernel
theorem dX6_secondOf_36 : decode cX6_secondOf 36 = .ok (.ireturn, 1) := by decide +kernel
theorem dX6_compares_0 : decode cX6_compares 0 = .ok (.iload_n 1, 1) := by decide +kernel
theorem dX6_compares_1 : decode cX6_compares 1 = .ok (.tableswitch 90 0 4 #[35, 46, 57, 68, 79], 35) := by decide +kernel
theorem dX6_compares_36 : decode cX6_compares 36 = .ok (.iload_n 0, 1) := by decide +kernel
theorem dX6_compares_37 : decode cX6_compares 37 = .ok (.iload_n 2, 1) := by decide +kernel
theorem dX6_compares_38 : decode cX6_compares 38 = .ok (.if_icmp .ne 7, 3) := by decide +kernel
theorem dX6_compares_41 : decode cX6_compares 41 = .ok (.iconst 1, 1) := by decide +kernel
theorem dX6_compares_42 : decode cX6_compares 42 = .ok (.goto 4, 3) := by decide +kernel
theorem dX6_compares_45 : decode cX6_compares 45 = .ok (.iconst 0, 1) := by decide +kernel
theorem dX6_compares_46 : decode cX6_compares 46 = .ok (.ireturn, 1) := by decide +kernel
theorem dX6_compares_47 : decode cX6_compares 47 = .ok (.iload_n 0, 1) := by decide +kernel
theorem dX6_compares_48 : decode cX6_compares 48 = .ok (.iload_n 2, 1) := by decide +kernel
theorem dX6_compares_49 : decode cX6_compares 49 = .ok (.if_icmp .eq 7, 3) := by decide +kernel
theorem dX6_compares_52 : decode cX6_compares 52 = .ok (.iconst 1, 1) := by decide +kernel
theorem dX6_compares_53 : decode cX6_compares 53 = .ok (.goto 4, 3) := by decide +kernel
theorem dX6_compares_56 : decode cX6_compares 56 = .ok (.iconst 0, 1) := by decide +kernel
theorem dX6_compares_57 : decode cX6_compares 57 = .ok (.ireturn, 1) := by decide +kernel
theorem dX6_compares_58 : decode cX6_compares 58 = .ok (.iload_n 0, 1) := by decide +kernel
theorem dX6_compares_59 : decode cX6_compares 59 = .ok (.iload_n 2, 1) := by decide +kernel
theorem dX6_compares_60 : decode cX6_compares 60 = .ok (.if_icmp .ge 7, 3) := by decide +kernel
theorem dX6_compares_63 : decode cX6_compares 63 = .ok (.iconst 1, 1) := by decide +kernel
theorem dX6_compares_64 : decode cX6_compares 64 = .ok (.goto 4, 3) := by decide +kernel
theorem dX6_compares_67 : decode cX6_compares 67 = .ok (.iconst 0, 1) := by decide +kernel
theorem dX6_compares_68 : decode cX6_compares 68 = .ok (.ireturn, 1) := by decide +kernel
theorem dX6_compares_69 : decode cX6_compares 69 = .ok (.iload_n 0, 1) := by decide +kernel
theorem dX6_compares_70 : decode cX6_compares 70 = .ok (.iload_n 2, 1) := by decide +kernel
theorem dX6_compares_71 : decode cX6_compares 71 = .ok (.if_icmp .gt 7, 3) := by decide +kernel
theorem dX6_compares_74 : decode cX6_compares 74 = .ok (.iconst 1, 1) := by decide +kernel
theorem dX6_compares_75 : decode cX6_compares 75 = .ok (.goto 4, 3) := by decide +kernel
theorem dX6_compares_78 : decode cX6_compares 78 = .ok (.iconst 0, 1) := by decide +kernel
theorem dX6_compares_79 : decode cX6_compares 79 = .ok (.ireturn, 1) := by decide +kernel
theorem dX6_compares_80 : decode cX6_compares 80 = .ok (.iload_n 0, 1) := by decide +kernel
theorem dX6_compares_81 : decode cX6_compares 81 = .ok (.iload_n 2, 1) := by decide +kernel
theorem dX6_compares_82 : decode cX6_compares 82 = .ok (.if_icmp .le 7, 3) := by decide +kernel
theorem dX6_compares_85 : decode cX6_compares 85 = .ok (.iconst 1, 1) := by decide +kernel
theorem dX6_compares_86 : decode cX6_compares 86 = .ok (.goto 4, 3) := by decide +kernel
theorem dX6_compares_89 : decode cX6_compares 89 = .ok (.iconst 0, 1) := by decide +kernel
theorem dX6_compares_90 : decode cX6_compares 90 = .ok (.ireturn, 1) := by decide +kernel
theorem dX6_compares_91 : decode cX6_compares 91 = .ok (.iload_n 0, 1) := by decide +kernel
theorem dX6_compares_92 : decode cX6_compares 92 = .ok (.iload_n 2, 1) := by decide +kernel
theorem dX6_compares_93 : decode cX6_compares 93 = .ok (.if_icmp .lt 7, 3) := by decide +kernel
theorem dX6_compares_96 : decode cX6_compares 96 = .ok (.iconst 1, 1) := by decide +kernel
theorem dX6_compares_97 : decode cX6_compares 97 = .ok (.goto 4, 3) := by decide +kernel
theorem dX6_compares_100 : decode cX6_compares 100 = .ok (.iconst 0, 1) := by decide +kernel
theorem dX6_compares_101 : decode cX6_compares 101 = .ok (.ireturn, 1) := by decide +kernel
theorem dX6_fulfils_0 : decode cX6_fulfils 0 = .ok (.iconst 0, 1) := by decide +kernel
theorem dX6_fulfils_1 : decode cX6_fulfils 1 = .ok (.istore_n 3, 1) := by decide +kernel
theorem dX6_fulfils_2 : decode cX6_fulfils 2 = .ok (.iconst 1, 1) := by decide +kernel
theorem dX6_fulfils_3 : decode cX6_fulfils 3 = .ok (.istore 4, 2) := by decide +kernel
theorem dX6_fulfils_5 : decode cX6_fulfils 5 = .ok (.iconst 0, 1) := by decide +kernel
theorem dX6_fulfils_6 : decode cX6_fulfils 6 = .ok (.istore 5, 2) := by decide +kernel
theorem dX6_fulfils_8 : decode cX6_fulfils 8 = .ok (.iload 5, 2) := by decide +kernel
theorem dX6_fulfils_10 : decode cX6_fulfils 10 = .ok (.aload_n 0, 1) := by decide +kernel
theorem dX6_fulfils_11 : decode cX6_fulfils 11 = .ok (.getfield 83, 3) := by decide +kernel
theorem dX6_fulfils_14 : decode cX6_fulfils 14 = .ok (.iload_n 2, 1) := by decide +kernel
theorem dX6_fulfils_15 : decode cX6_fulfils 15 = .ok (.iaload, 1) := by decide +kernel
theorem dX6_fulfils_16 : decode cX6_fulfils 16 = .ok (.if_icmp .ge 98, 3) := by decide +kernel
theorem dX6_fulfils_19 : decode cX6_fulfils 19 = .ok (.iconst 3, 1) := by decide +kernel
theorem dX6_fulfils_20 : decode cX6_fulfils 20 = .ok (.iload_n 2, 1) := by decide +kernel
theorem dX6_fulfils_21 : decode cX6_fulfils 21 = .ok (.imul, 1) := by decide +kernel
theorem dX6_fulfils_22 : decode cX6_fulfils 22 = .ok (.iload 5, 2) := by decide +kernel
theorem dX6_fulfils_24 : decode cX6_fulfils 24 = .ok (.iadd, 1) := by decide +kernel
theorem dX6_fulfils_25 : decode cX6_fulfils 25 = .ok (.istore 6, 2) := by decide +kernel
theorem dX6_fulfils_27 : decode cX6_fulfils 27 = .ok (.iload 5, 2) := by decide +kernel
theorem dX6_fulfils_29 : decode cX6_fulfils 29 = .ok (.ifCond .le 31, 3) := by decide +kernel
theorem dX6_fulfils_32 : decode cX6_fulfils 32 = .ok (.aload_n 0, 1) := by decide +kernel
theorem dX6_fulfils_33 : decode cX6_fulfils 33 = .ok (.getfield 86, 3) := by decide +kernel
theorem dX6_fulfils_36 : decode cX6_fulfils 36 = .ok (.iload 6, 2) := by decide +kernel
theorem dX6_fulfils_38 : decode cX6_fulfils 38 = .ok (.baload, 1) := by decide +kernel
theorem dX6_fulfils_39 : decode cX6_fulfils 39 = .ok (.ifCond .eq 21, 3) := by decide +kernel
theorem dX6_fulfils_42 : decode cX6_fulfils 42 = .ok (.iload_n 3, 1) := by decide +kernel
theorem dX6_fulfils_43 : decode cX6_fulfils 43 = .ok (.ifCond .ne 8, 3) := by decide +kernel
theorem dX6_fulfils_46 : decode cX6_fulfils 46 = .ok (.iload 4, 2) := by decide +kernel
theorem dX6_fulfils_48 : decode cX6_fulfils 48 = .ok (.ifCond .eq 7, 3) := by decide +kernel
theorem dX6_fulfils_51 : decode cX6_fulfils 51 = .ok (.iconst 1, 1) := by decide +kernel
theorem dX6_fulfils_52 : decode cX6_fulfils 52 = .ok (.goto 4, 3) := by decide +kernel
theorem dX6_fulfils_55 : decode cX6_fulfils 55 = .ok (.iconst 0, 1) := by decide +kernel
theorem dX6_fulfils_56 : decode cX6_fulfils 56 = .ok (.istore_n 3, 1) := by decide +kernel
theorem dX6_fulfils_57 : decode cX6_fulfils 57 = .ok (.iconst 1, 1) := by decide +kernel
theorem dX6_fulfils_58 : decode cX6_fulfils 58 = .ok (.istore 4, 2) := by decide +kernel
theorem dX6_fulfils_60 : decode cX6_fulfils 60 = .ok (.iload 4, 2) := by decide +kernel
theorem dX6_fulfils_62 : decode cX6_fulfils 62 = .ok (.ifCond .eq 43, 3) := by decide +kernel
theorem dX6_fulfils_65 : decode cX6_fulfils 65 = .ok (.aload_n 0, 1) := by decide +kernel
theorem dX6_fulfils_66 : decode cX6_fulfils 66 = .ok (.getfield 40, 3) := by decide +kernel
theorem dX6_fulfils_69 : decode cX6_fulfils 69 = .ok (.iconst 3, 1) := by decide +kernel
theorem dX6_fulfils_70 : decode cX6_fulfils 70 = .ok (.iload_n 1, 1) := by decide +kernel
theorem dX6_fulfils_71 : decode cX6_fulfils 71 = .ok (.imul, 1) := by decide +kernel
theorem dX6_fulfils_72 : decode cX6_fulfils 72 = .ok (.aload_n 0, 1) := by decide +kernel
theorem dX6_fulfils_73 : decode cX6_fulfils 73 = .ok (.getfield 89, 3) := by decide +kernel
theorem dX6_fulfils_76 : decode cX6_fulfils 76 = .ok (.iload 6, 2) := by decide +kernel
theorem dX6_fulfils_78 : decode cX6_fulfils 78 = .ok (.iaload, 1) := by decide +kernel
theorem dX6_fulfils_79 : decode cX6_fulfils 79 = .ok (.iadd, 1) := by decide +kernel
theorem dX6_fulfils_80 : decode cX6_fulfils 80 = .ok (.iaload, 1) := by decide +kernel
theorem dX6_fulfils_81 : decode cX6_fulfils 81 = .ok (.aload_n 0, 1) := by decide +kernel
theorem dX6_fulfils_82 : decode cX6_fulfils 82 = .ok (.getfield 92, 3) := by decide +kernel
theorem dX6_fulfils_85 : decode cX6_fulfils 85 = .ok (.iload 6, 2) := by decide +kernel
theorem dX6_fulfils_87 : decode cX6_fulfils 87 = .ok (.iaload, 1) := by decide +kernel
theorem dX6_fulfils_88 : decode cX6_fulfils 88 = .ok (.aload_n 0, 1) := by decide +kernel
theorem dX6_fulfils_89 : decode cX6_fulfils 89 = .ok (.getfield 95, 3) := by decide +kernel
theorem dX6_fulfils_92 : decode cX6_fulfils 92 = .ok (.iload 6, 2) := by decide +kernel
theorem dX6_fulfils_94 : decode cX6_fulfils 94 = .ok (.iaload, 1) := by decide +kernel
theorem dX6_fulfils_95 : decode cX6_fulfils 95 = .ok (.invokestatic 184, 3) := by decide +kernel
theorem dX6_fulfils_98 : decode cX6_fulfils 98 = .ok (.ifCond .eq 7, 3) := by decide +kernel
theorem dX6_fulfils_101 : decode cX6_fulfils 101 = .ok (.iconst 1, 1) := by decide +kernel
theorem dX6_fulfils_102 : decode cX6_fulfils 102 = .ok (.goto 4, 3) := by decide +kernel
theorem dX6_fulfils_105 : decode cX6_fulfils 105 = .ok (.iconst 0, 1) := by decide +kernel
theorem dX6_fulfils_106 : decode cX6_fulfils 106 = .ok (.istore 4, 2) := by decide +kernel
theorem dX6_fulfils_108 : decode cX6_fulfils 108 = .ok (.iinc 5 1, 3) := by decide +kernel
theorem dX6_fulfils_111 : decode cX6_fulfils 111 = .ok (.goto (-103), 3) := by decide +kernel
theorem dX6_fulfils_114 : decode cX6_fulfils 114 = .ok (.iload_n 3, 1) := by decide +kernel
theorem dX6_fulfils_115 : decode cX6_fulfils 115 = .ok (.ifCond .ne 8, 3) := by decide +kernel
theorem dX6_fulfils_118 : decode cX6_fulfils 118 = .ok (.iload 4, 2) := by decide +kernel
theorem dX6_fulfils_120 : decode cX6_fulfils 120 = .ok (.ifCond .eq 7, 3) := by decide +kernel
theorem dX6_fulfils_123 : decode cX6_fulfils 123 = .ok (.iconst 1, 1) := by decide +kernel
theorem dX6_fulfils_124 : decode cX6_fulfils 124 = .ok (.goto 4, 3) := by decide +kernel
theorem dX6_fulfils_127 : decode cX6_fulfils 127 = .ok (.iconst 0, 1) := by decide +kernel
theorem dX6_fulfils_128 : decode cX6_fulfils 128 = .ok (.ireturn, 1) := by decide +kernel
theorem dX6_hasCode_0 : decode cX6_hasCode 0 = .ok (.aload_n 0, 1) := by decide +kernel
theorem dX6_hasCode_1 : decode cX6_hasCode 1 = .ok (.getfield 80, 3) := by decide +kernel
theorem dX6_hasCode_4 : decode cX6_hasCode 4 = .ok (.iload_n 1, 1) := by decide +kernel
theorem dX6_hasCode_5 : decode cX6_hasCode 5 = .ok (.iaload, 1) := by decide +kernel
theorem dX6_hasCode_6 : decode cX6_hasCode 6 = .ok (.iload_n 2, 1) := by decide +kernel
theorem dX6_hasCode_7 : decode cX6_hasCode 7 = .ok (.iand, 1) := by decide +kernel
theorem dX6_hasCode_8 : decode cX6_hasCode 8 = .ok (.ifCond .eq 7, 3) := by decide +kernel
theorem dX6_hasCode_11 : decode cX6_hasCode 11 = .ok (.iconst 1, 1) := by decide +kernel
theorem dX6_hasCode_12 : decode cX6_hasCode 12 = .ok (.goto 4, 3) := by decide +kernel
theorem dX6_hasCode_15 : decode cX6_hasCode 15 = .ok (.iconst 0, 1) := by decide +kernel
theorem dX6_hasCode_16 : decode cX6_hasCode 16 = .ok (.ireturn, 1) := by decide +kernel
theorem dX6_hasTwin_0 : decode cX6_hasTwin 0 = .ok (.iconst 0, 1) := by decide +kernel
theorem dX6_hasTwin_1 : decode cX6_hasTwin 1 = .ok (.istore 4, 2) := by decide +kernel
theorem dX6_hasTwin_3 : decode cX6_hasTwin 3 = .ok (.iconst 0, 1) := by decide +kernel
theorem dX6_hasTwin_4 : decode cX6_hasTwin 4 = .ok (.istore 5, 2) := by decide +kernel
theorem dX6_hasTwin_6 : decode cX6_hasTwin 6 = .ok (.iload 5, 2) := by decide +kernel
theorem dX6_hasTwin_8 : decode cX6_hasTwin 8 = .ok (.bipush 60, 2) := by decide +kernel
theorem dX6_hasTwin_10 : decode cX6_hasTwin 10 = .ok (.if_icmp .ge 93, 3) := by decide +kernel
theorem dX6_hasTwin_13 : decode cX6_hasTwin 13 = .ok (.aload_n 0, 1) := by decide +kernel
theorem dX6_hasTwin_14 : decode cX6_hasTwin 14 = .ok (.getfield 34, 3) := by decide +kernel
theorem dX6_hasTwin_17 : decode cX6_hasTwin 17 = .ok (.iload 5, 2) := by decide +kernel
theorem dX6_hasTwin_19 : decode cX6_hasTwin 19 = .ok (.iaload, 1) := by decide +kernel
theorem dX6_hasTwin_20 : decode cX6_hasTwin 20 = .ok (.iconst (-1), 1) := by decide +kernel
theorem dX6_hasTwin_21 : decode cX6_hasTwin 21 = .ok (.if_icmp .eq 23, 3) := by decide +kernel
theorem dX6_hasTwin_24 : decode cX6_hasTwin 24 = .ok (.iload 5, 2) := by decide +kernel
theorem dX6_hasTwin_26 : decode cX6_hasTwin 26 = .ok (.iload_n 1, 1) := by decide +kernel
theorem dX6_hasTwin_27 : decode cX6_hasTwin 27 = .ok (.if_icmp .eq 17, 3) := by decide +kernel
theorem dX6_hasTwin_30 : decode cX6_hasTwin 30 = .ok (.aload_n 0, 1) := by decide +kernel
theorem dX6_hasTwin_31 : decode cX6_hasTwin 31 = .ok (.iload 5, 2) := by decide +kernel
theorem dX6_hasTwin_33 : decode cX6_hasTwin 33 = .ok (.iload_n 1, 1) := by decide +kernel
theorem dX6_hasTwin_34 : decode cX6_hasTwin 34 = .ok (.invokevirtual 164, 3) := by decide +kernel
theorem dX6_hasTwin_37 : decode cX6_hasTwin 37 = .ok (.ifCond .eq 7, 3) := by decide +kernel
theorem dX6_hasTwin_40 : decode cX6_hasTwin 40 = .ok (.iconst 1, 1) := by decide +kernel
theorem dX6_hasTwin_41 : decode cX6_hasTwin 41 = .ok (.goto 4, 3) := by decide +kernel
theorem dX6_hasTwin_44 : decode cX6_hasTwin 44 = .ok (.iconst 0, 1) := by decide +kernel
theorem dX6_hasTwin_45 : decode cX6_hasTwin 45 = .ok (.istore 6, 2) := by decide +kernel
theorem dX6_hasTwin_47 : decode cX6_hasTwin 47 = .ok (.iload 4, 2) := by decide +kernel
theorem dX6_hasTwin_49 : decode cX6_hasTwin 49 = .ok (.ifCond .ne 41, 3) := by decide +kernel
theorem dX6_hasTwin_52 : decode cX6_hasTwin 52 = .ok (.iload 6, 2) := by decide +kernel
theorem dX6_hasTwin_54 : decode cX6_hasTwin 54 = .ok (.ifCond .eq 40, 3) := by decide +kernel
theorem dX6_hasTwin_57 : decode cX6_hasTwin 57 = .ok (.aload_n 0, 1) := by decide +kernel
theorem dX6_hasTwin_58 : decode cX6_hasTwin 58 = .ok (.iload 5, 2) := by decide +kernel
theorem dX6_hasTwin_60 : decode cX6_hasTwin 60 = .ok (.iload_n 2, 1) := by decide +kernel
theorem dX6_hasTwin_61 : decode cX6_hasTwin 61 = .ok (.invokevirtual 187, 3) := by decide +kernel
theorem dX6_hasTwin_64 : decode cX6_hasTwin 64 = .ok (.ifCond .eq 30, 3) := by decide +kernel
theorem dX6_hasTwin_67 : decode cX6_hasTwin 67 = .ok (.aload_n 0, 1) := by decide +kernel
theorem dX6_hasTwin_68 : decode cX6_hasTwin 68 = .ok (.iload 5, 2) := by decide +kernel
theorem dX6_hasTwin_70 : decode cX6_hasTwin 70 = .ok (.invokevirtual 167, 3) := by decide +kernel
theorem dX6_hasTwin_73 : decode cX6_hasTwin 73 = .ok (.aload_n 0, 1) := by decide +kernel
theorem dX6_hasTwin_74 : decode cX6_hasTwin 74 = .ok (.iload_n 1, 1) := by decide +kernel
theorem dX6_hasTwin_75 : decode cX6_hasTwin 75 = .ok (.invokevirtual 167, 3) := by decide +kernel
theorem dX6_hasTwin_78 : decode cX6_hasTwin 78 = .ok (.if_icmp .ge 7, 3) := by decide +kernel
theorem dX6_hasTwin_81 : decode cX6_hasTwin 81 = .ok (.iconst 1, 1) := by decide +kernel
theorem dX6_hasTwin_82 : decode cX6_hasTwin 82 = .ok (.goto 4, 3) := by decide +kernel
theorem dX6_hasTwin_85 : decode cX6_hasTwin 85 = .ok (.iconst 0, 1) := by decide +kernel
theorem dX6_hasTwin_86 : decode cX6_hasTwin 86 = .ok (.iload_n 3, 1) := by decide +kernel
theorem dX6_hasTwin_87 : decode cX6_hasTwin 87 = .ok (.if_icmp .ne 7, 3) := by decide +kernel
theorem dX6_hasTwin_90 : decode cX6_hasTwin 90 = .ok (.iconst 1, 1) := by decide +kernel
theorem dX6_hasTwin_91 : decode cX6_hasTwin 91 = .ok (.goto 4, 3) := by decide +kernel
theorem dX6_hasTwin_94 : decode cX6_hasTwin 94 = .ok (.iconst 0, 1) := by decide +kernel
theorem dX6_hasTwin_95 : decode cX6_hasTwin 95 = .ok (.istore 4, 2) := by decide +kernel
theorem dX6_hasTwin_97 : decode cX6_hasTwin 97 = .ok (.iinc 5 1, 3) := by decide +kernel
theorem dX6_hasTwin_100 : decode cX6_hasTwin 100 = .ok (.goto (-94), 3) := by decide +kernel
theorem dX6_hasTwin_103 : decode cX6_hasTwin 103 = .ok (.iload 4, 2) := by decide +kernel
theorem dX6_hasTwin_105 : decode cX6_hasTwin 105 = .ok (.ireturn, 1) := by decide +kernel
theorem dX6_isRightFor_0 : decode cX6_isRightFor 0 = .ok (.iload_n 2, 1) := by decide +kernel
theorem dX6_isRightFor_1 : decode cX6_isRightFor 1 = .ok (.iconst (-1), 1) := by decide +kernel
theorem dX6_isRightFor_2 : decode cX6_isRightFor 2 = .ok (.if_icmp .eq 16, 3) := by decide +kernel
theorem dX6_isRightFor_5 : decode cX6_isRightFor 5 = .ok (.aload_n 0, 1) := by decide +kernel
theorem dX6_isRightFor_6 : decode cX6_isRightFor 6 = .ok (.iload_n 2, 1) := by decide +kernel
theorem dX6_isRightFor_7 : decode cX6_isRightFor 7 = .ok (.iload_n 3, 1) := by decide +kernel
theorem dX6_isRightFor_8 : decode cX6_isRightFor 8 = .ok (.invokevirtual 187, 3) := by decide +kernel
theorem dX6_isRightFor_11 : decode cX6_isRightFor 11 = .ok (.ifCond .eq 7, 3) := by decide +kernel
theorem dX6_isRightFor_14 : decode cX6_isRightFor 14 = .ok (.iconst 1, 1) := by decide +kernel
theorem dX6_isRightFor_15 : decode cX6_isRightFor 15 = .ok (.goto 4, 3) := by decide +kernel
theorem dX6_isRightFor_18 : decode cX6_isRightFor 18 = .ok (.iconst 0, 1) := by decide +kernel
theorem dX6_isRightFor_19 : decode cX6_isRightFor 19 = .ok (.istore 4, 2) := by decide +kernel
theorem dX6_isRightFor_21 : decode cX6_isRightFor 21 = .ok (.iload 4, 2) := by decide +kernel
theorem dX6_isRightFor_23 : decode cX6_isRightFor 23 = .ok (.ifCond .eq 26, 3) := by decide +kernel
theorem dX6_isRightFor_26 : decode cX6_isRightFor 26 = .ok (.aload_n 0, 1) := by decide +kernel
theorem dX6_isRightFor_27 : decode cX6_isRightFor 27 = .ok (.iload_n 3, 1) := by decide +kernel
theorem dX6_isRightFor_28 : decode cX6_isRightFor 28 = .ok (.iconst 2, 1) := by decide +kernel
theorem dX6_isRightFor_29 : decode cX6_isRightFor 29 = .ok (.invokevirtual 190, 3) := by decide +kernel
theorem dX6_isRightFor_32 : decode cX6_isRightFor 32 = .ok (.ifCond .eq 13, 3) := by decide +kernel
theorem dX6_isRightFor_35 : decode cX6_isRightFor 35 = .ok (.aload_n 0, 1) := by decide +kernel
theorem dX6_isRightFor_36 : decode cX6_isRightFor 36 = .ok (.iload_n 2, 1) := by decide +kernel
theorem dX6_isRightFor_37 : decode cX6_isRightFor 37 = .ok (.iload_n 3, 1) := by decide +kernel
theorem dX6_isRightFor_38 : decode cX6_isRightFor 38 = .ok (.iconst 1, 1) := by decide +kernel
theorem dX6_isRightFor_39 : decode cX6_isRightFor 39 = .ok (.invokevirtual 193, 3) := by decide +kernel
theorem dX6_isRightFor_42 : decode cX6_isRightFor 42 = .ok (.ifCond .ne 7, 3) := by decide +kernel
theorem dX6_isRightFor_45 : decode cX6_isRightFor 45 = .ok (.iconst 1, 1) := by decide +kernel
theorem dX6_isRightFor_46 : decode cX6_isRightFor 46 = .ok (.goto 4, 3) := by decide +kernel
theorem dX6_isRightFor_49 : decode cX6_isRightFor 49 = .ok (.iconst 0, 1) := by decide +kernel
theorem dX6_isRightFor_50 : decode cX6_isRightFor 50 = .ok (.istore 4, 2) := by decide +kernel
theorem dX6_isRightFor_52 : decode cX6_isRightFor 52 = .ok (.iload 4, 2) := by decide +kernel
theorem dX6_isRightFor_54 : decode cX6_isRightFor 54 = .ok (.ifCond .eq 26, 3) := by decide +kernel
theorem dX6_isRightFor_57 : decode cX6_isRightFor 57 = .ok (.aload_n 0, 1) := by decide +kernel
theorem dX6_isRightFor_58 : decode cX6_isRightFor 58 = .ok (.iload_n 3, 1) := by decide +kernel
theorem dX6_isRightFor_59 : decode cX6_isRightFor 59 = .ok (.iconst 4, 1) := by decide +kernel
theorem dX6_isRightFor_60 : decode cX6_isRightFor 60 = .ok (.invokevirtual 190, 3) := by decide +kernel
theorem dX6_isRightFor_63 : decode cX6_isRightFor 63 = .ok (.ifCond .eq 13, 3) := by decide +kernel
theorem dX6_isRightFor_66 : decode cX6_isRightFor 66 = .ok (.aload_n 0, 1) := by decide +kernel
theorem dX6_isRightFor_67 : decode cX6_isRightFor 67 = .ok (.iload_n 2, 1) := by decide +kernel
theorem dX6_isRightFor_68 : decode cX6_isRightFor 68 = .ok (.iload_n 3, 1) := by decide +kernel
theorem dX6_isRightFor_69 : decode cX6_isRightFor 69 = .ok (.iconst 0, 1) := by decide +kernel
theorem dX6_isRightFor_70 : decode cX6_isRightFor 70 = .ok (.invokevirtual 193, 3) := by decide +kernel
theorem dX6_isRightFor_73 : decode cX6_isRightFor 73 = .ok (.ifCond .ne 7, 3) := by decide +kernel
theorem dX6_isRightFor_76 : decode cX6_isRightFor 76 = .ok (.iconst 1, 1) := by decide +kernel
theorem dX6_isRightFor_77 : decode cX6_isRightFor 77 = .ok (.goto 4, 3) := by decide +kernel
theorem dX6_isRightFor_80 : decode cX6_isRightFor 80 = .ok (.iconst 0, 1) := by decide +kernel
theorem dX6_isRightFor_81 : decode cX6_isRightFor 81 = .ok (.istore 4, 2) := by decide +kernel
theorem dX6_isRightFor_83 : decode cX6_isRightFor 83 = .ok (.iload 4, 2) := by decide +kernel
theorem dX6_isRightFor_85 : decode cX6_isRightFor 85 = .ok (.ifCond .eq 40, 3) := by decide +kernel
theorem dX6_isRightFor_88 : decode cX6_isRightFor 88 = .ok (.aload_n 0, 1) := by decide +kernel
theorem dX6_isRightFor_89 : decode cX6_isRightFor 89 = .ok (.iload_n 3, 1) := by decide +kernel
theorem dX6_isRightFor_90 : decode cX6_isRightFor 90 = .ok (.bipush 8, 2) := by decide +kernel
theorem dX6_isRightFor_92 : decode cX6_isRightFor 92 = .ok (.invokevirtual 190, 3) := by decide +kernel
theorem dX6_isRightFor_95 : decode cX6_isRightFor 95 = .ok (.ifCond .eq 26, 3) := by decide +kernel
theorem dX6_isRightFor_98 : decode cX6_isRightFor 98 = .ok (.aload_n 0, 1) := by decide +kernel
theorem dX6_isRightFor_99 : decode cX6_isRightFor 99 = .ok (.getfield 59, 3) := by decide +kernel
theorem dX6_isRightFor_102 : decode cX6_isRightFor 102 = .ok (.iload_n 1, 1) := by decide +kernel
theorem dX6_isRightFor_103 : decode cX6_isRightFor 103 = .ok (.iaload, 1) := by decide +kernel
theorem dX6_isRightFor_104 : decode cX6_isRightFor 104 = .ok (.ifCond .ne 21, 3) := by decide +kernel
theorem dX6_isRightFor_107 : decode cX6_isRightFor 107 = .ok (.aload_n 0, 1) := by decide +kernel
theorem dX6_isRightFor_108 : decode cX6_isRightFor 108 = .ok (.aload_n 0, 1) := by decide +kernel
theorem dX6_isRightFor_109 : decode cX6_isRightFor 109 = .ok (.getfield 62, 3) := by decide +kernel
theorem dX6_isRightFor_112 : decode cX6_isRightFor 112 = .ok (.iload_n 1, 1) := by decide +kernel
theorem dX6_isRightFor_113 : decode cX6_isRightFor 113 = .ok (.iaload, 1) := by decide +kernel
theorem dX6_isRightFor_114 : decode cX6_isRightFor 114 = .ok (.iload_n 2, 1) := by decide +kernel
theorem dX6_isRightFor_115 : decode cX6_isRightFor 115 = .ok (.invokevirtual 170, 3) := by decide +kernel
theorem dX6_isRightFor_118 : decode cX6_isRightFor 118 = .ok (.ifCond .eq 7, 3) := by decide +kernel
theorem dX6_isRightFor_121 : decode cX6_isRightFor 121 = .ok (.iconst 1, 1) := by decide +kernel
theorem dX6_isRightFor_122 : decode cX6_isRightFor 122 = .ok (.goto 4, 3) := by decide +kernel
theorem dX6_isRightFor_125 : decode cX6_isRightFor 125 = .ok (.iconst 0, 1) := by decide +kernel
theorem dX6_isRightFor_126 : decode cX6_isRightFor 126 = .ok (.ireturn, 1) := by decide +kernel
theorem dX6_isRight_0 : decode cX6_isRight 0 = .ok (.aload_n 0, 1) := by decide +kernel
theorem dX6_isRight_1 : decode cX6_isRight 1 = .ok (.iload_n 1, 1) := by decide +kernel
theorem dX6_isRight_2 : decode cX6_isRight 2 = .ok (.aload_n 0, 1) := by decide +kernel
theorem dX6_isRight_3 : decode cX6_isRight 3 = .ok (.getfield 34, 3) := by decide +kernel
theorem dX6_isRight_6 : decode cX6_isRight 6 = .ok (.iload_n 2, 1) := by decide +kernel
theorem dX6_isRight_7 : decode cX6_isRight 7 = .ok (.iaload, 1) := by decide +kernel
theorem dX6_isRight_8 : decode cX6_isRight 8 = .ok (.invokevirtual 197, 3) := by decide +kernel
theorem dX6_isRight_11 : decode cX6_isRight 11 = .ok (.ifCond .eq 28, 3) := by decide +kernel
theorem dX6_isRight_14 : decode cX6_isRight 14 = .ok (.iload_n 3, 1) := by decide +kernel
theorem dX6_isRight_15 : decode cX6_isRight 15 = .ok (.ifCond .eq 20, 3) := by decide +kernel
theorem dX6_isRight_18 : decode cX6_isRight 18 = .ok (.aload_n 0, 1) := by decide +kernel
theorem dX6_isRight_19 : decode cX6_isRight 19 = .ok (.getfield 34, 3) := by decide +kernel
theorem dX6_isRight_22 : decode cX6_isRight 22 = .ok (.iload_n 2, 1) := by decide +kernel
theorem dX6_isRight_23 : decode cX6_isRight 23 = .ok (.iaload, 1) := by decide +kernel
theorem dX6_isRight_24 : decode cX6_isRight 24 = .ok (.aload_n 0, 1) := by decide +kernel
theorem dX6_isRight_25 : decode cX6_isRight 25 = .ok (.getfield 77, 3) := by decide +kernel
theorem dX6_isRight_28 : decode cX6_isRight 28 = .ok (.iload_n 3, 1) := by decide +kernel
theorem dX6_isRight_29 : decode cX6_isRight 29 = .ok (.iconst 1, 1) := by decide +kernel
theorem dX6_isRight_30 : decode cX6_isRight 30 = .ok (.isub, 1) := by decide +kernel
theorem dX6_isRight_31 : decode cX6_isRight 31 = .ok (.iaload, 1) := by decide +kernel
theorem dX6_isRight_32 : decode cX6_isRight 32 = .ok (.if_icmp .ne 7, 3) := by decide +kernel
theorem dX6_isRight_35 : decode cX6_isRight 35 = .ok (.iconst 1, 1) := by decide +kernel
theorem dX6_isRight_36 : decode cX6_isRight 36 = .ok (.goto 4, 3) := by decide +kernel
theorem dX6_isRight_39 : decode cX6_isRight 39 = .ok (.iconst 0, 1) := by decide +kernel
theorem dX6_isRight_40 : decode cX6_isRight 40 = .ok (.istore 4, 2) := by decide +kernel
theorem dX6_isRight_42 : decode cX6_isRight 42 = .ok (.iconst 0, 1) := by decide +kernel
theorem dX6_isRight_43 : decode cX6_isRight 43 = .ok (.istore 5, 2) := by decide +kernel
theorem dX6_isRight_45 : decode cX6_isRight 45 = .ok (.iload 5, 2) := by decide +kernel
theorem dX6_isRight_47 : decode cX6_isRight 47 = .ok (.iload_n 3, 1) := by decide +kernel
theorem dX6_isRight_48 : decode cX6_isRight 48 = .ok (.if_icmp .ge 35, 3) := by decide +kernel
theorem dX6_isRight_51 : decode cX6_isRight 51 = .ok (.iload 4, 2) := by decide +kernel
theorem dX6_isRight_53 : decode cX6_isRight 53 = .ok (.ifCond .eq 30, 3) := by decide +kernel
theorem dX6_isRight_56 : decode cX6_isRight 56 = .ok (.aload_n 0, 1) := by decide +kernel
theorem dX6_isRight_57 : decode cX6_isRight 57 = .ok (.iload_n 1, 1) := by decide +kernel
theorem dX6_isRight_58 : decode cX6_isRight 58 = .ok (.aload_n 0, 1) := by decide +kernel
theorem dX6_isRight_59 : decode cX6_isRight 59 = .ok (.iload_n 2, 1) := by decide +kernel
theorem dX6_isRight_60 : decode cX6_isRight 60 = .ok (.aload_n 0, 1) := by decide +kernel
theorem dX6_isRight_61 : decode cX6_isRight 61 = .ok (.getfield 77, 3) := by decide +kernel
theorem dX6_isRight_64 : decode cX6_isRight 64 = .ok (.iload 5, 2) := by decide +kernel
theorem dX6_isRight_66 : decode cX6_isRight 66 = .ok (.iaload, 1) := by decide +kernel
theorem dX6_isRight_67 : decode cX6_isRight 67 = .ok (.invokevirtual 200, 3) := by decide +kernel
theorem dX6_isRight_70 : decode cX6_isRight 70 = .ok (.iload 5, 2) := by decide +kernel
theorem dX6_isRight_72 : decode cX6_isRight 72 = .ok (.invokevirtual 203, 3) := by decide +kernel
theorem dX6_isRight_75 : decode cX6_isRight 75 = .ok (.istore 4, 2) := by decide +kernel
theorem dX6_isRight_77 : decode cX6_isRight 77 = .ok (.iinc 5 1, 3) := by decide +kernel
theorem dX6_isRight_80 : decode cX6_isRight 80 = .ok (.goto (-35), 3) := by decide +kernel
theorem dX6_isRight_83 : decode cX6_isRight 83 = .ok (.iload 4, 2) := by decide +kernel
theorem dX6_isRight_85 : decode cX6_isRight 85 = .ok (.ireturn, 1) := by decide +kernel
theorem dX6_isList_0 : decode cX6_isList 0 = .ok (.iconst 1, 1) := by decide +kernel
theorem dX6_isList_1 : decode cX6_isList 1 = .ok (.istore_n 2, 1) := by decide +kernel
theorem dX6_isList_2 : decode cX6_isList 2 = .ok (.iconst 0, 1) := by decide +kernel
theorem dX6_isList_3 : decode cX6_isList 3 = .ok (.istore_n 3, 1) := by decide +kernel
theorem dX6_isList_4 : decode cX6_isList 4 = .ok (.iload_n 3, 1) := by decide +kernel
theorem dX6_isList_5 : decode cX6_isList 5 = .ok (.aload_n 0, 1) := by decide +kernel
theorem dX6_isList_6 : decode cX6_isList 6 = .ok (.getfield 139, 3) := by decide +kernel
theorem dX6_isList_9 : decode cX6_isList 9 = .ok (.if_icmp .ge 58, 3) := by decide +kernel
theorem dX6_isList_12 : decode cX6_isList 12 = .ok (.iload_n 2, 1) := by decide +kernel
theorem dX6_isList_13 : decode cX6_isList 13 = .ok (.ifCond .eq 46, 3) := by decide +kernel
theorem dX6_isList_16 : decode cX6_isList 16 = .ok (.aload_n 0, 1) := by decide +kernel
theorem dX6_isList_17 : decode cX6_isList 17 = .ok (.iload_n 1, 1) := by decide +kernel
theorem dX6_isList_18 : decode cX6_isList 18 = .ok (.aload_n 0, 1) := by decide +kernel
theorem dX6_isList_19 : decode cX6_isList 19 = .ok (.getfield 77, 3) := by decide +kernel
theorem dX6_isList_22 : decode cX6_isList 22 = .ok (.iload_n 3, 1) := by decide +kernel
theorem dX6_isList_23 : decode cX6_isList 23 = .ok (.iaload, 1) := by decide +kernel
theorem dX6_isList_24 : decode cX6_isList 24 = .ok (.invokevirtual 197, 3) := by decide +kernel
theorem dX6_isList_27 : decode cX6_isList 27 = .ok (.ifCond .eq 32, 3) := by decide +kernel
theorem dX6_isList_30 : decode cX6_isList 30 = .ok (.iload_n 3, 1) := by decide +kernel
theorem dX6_isList_31 : decode cX6_isList 31 = .ok (.ifCond .eq 24, 3) := by decide +kernel
theorem dX6_isList_34 : decode cX6_isList 34 = .ok (.aload_n 0, 1) := by decide +kernel
theorem dX6_isList_35 : decode cX6_isList 35 = .ok (.aload_n 0, 1) := by decide +kernel
theorem dX6_isList_36 : decode cX6_isList 36 = .ok (.getfield 77, 3) := by decide +kernel
theorem dX6_isList_39 : decode cX6_isList 39 = .ok (.iload_n 3, 1) := by decide +kernel
theorem dX6_isList_40 : decode cX6_isList 40 = .ok (.iaload, 1) := by decide +kernel
theorem dX6_isList_41 : decode cX6_isList 41 = .ok (.aload_n 0, 1) := by decide +kernel
theorem dX6_isList_42 : decode cX6_isList 42 = .ok (.getfield 77, 3) := by decide +kernel
theorem dX6_isList_45 : decode cX6_isList 45 = .ok (.iload_n 3, 1) := by decide +kernel
theorem dX6_isList_46 : decode cX6_isList 46 = .ok (.iconst 1, 1) := by decide +kernel
theorem dX6_isList_47 : decode cX6_isList 47 = .ok (.isub, 1) := by decide +kernel
theorem dX6_isList_48 : decode cX6_isList 48 = .ok (.iaload, 1) := by decide +kernel
theorem dX6_isList_49 : decode cX6_isList 49 = .ok (.invokevirtual 206, 3) := by decide +kernel
theorem dX6_isList_52 : decode cX6_isList 52 = .ok (.ifCond .eq 7, 3) := by decide +kernel
theorem dX6_isList_55 : decode cX6_isList 55 = .ok (.iconst 1, 1) := by decide +kernel
theorem dX6_isList_56 : decode cX6_isList 56 = .ok (.goto 4, 3) := by decide +kernel
theorem dX6_isList_59 : decode cX6_isList 59 = .ok (.iconst 0, 1) := by decide +kernel
theorem dX6_isList_60 : decode cX6_isList 60 = .ok (.istore_n 2, 1) := by decide +kernel
theorem dX6_isList_61 : decode cX6_isList 61 = .ok (.iinc 3 1, 3) := by decide +kernel
theorem dX6_isList_64 : decode cX6_isList 64 = .ok (.goto (-60), 3) := by decide +kernel
theorem dX6_isList_67 : decode cX6_isList 67 = .ok (.iload_n 2, 1) := by decide +kernel
theorem dX6_isList_68 : decode cX6_isList 68 = .ok (.ireturn, 1) := by decide +kernel
theorem dX6_isBelow_0 : decode cX6_isBelow 0 = .ok (.aload_n 0, 1) := by decide +kernel
theorem dX6_isBelow_1 : decode cX6_isBelow 1 = .ok (.getfield 13, 3) := by decide +kernel
theorem dX6_isBelow_4 : decode cX6_isBelow 4 = .ok (.iload_n 1, 1) := by decide +kernel
theorem dX6_isBelow_5 : decode cX6_isBelow 5 = .ok (.iaload, 1) := by decide +kernel
theorem dX6_isBelow_6 : decode cX6_isBelow 6 = .ok (.istore_n 3, 1) := by decide +kernel
theorem dX6_isBelow_7 : decode cX6_isBelow 7 = .ok (.iload_n 3, 1) := by decide +kernel
theorem dX6_isBelow_8 : decode cX6_isBelow 8 = .ok (.iconst (-1), 1) := by decide +kernel
theorem dX6_isBelow_9 : decode cX6_isBelow 9 = .ok (.if_icmp .eq 18, 3) := by decide +kernel
theorem dX6_isBelow_12 : decode cX6_isBelow 12 = .ok (.iload_n 3, 1) := by decide +kernel
theorem dX6_isBelow_13 : decode cX6_isBelow 13 = .ok (.iload_n 2, 1) := by decide +kernel
theorem dX6_isBelow_14 : decode cX6_isBelow 14 = .ok (.if_icmp .eq 13, 3) := by decide +kernel
theorem dX6_isBelow_17 : decode cX6_isBelow 17 = .ok (.aload_n 0, 1) := by decide +kernel
theorem dX6_isBelow_18 : decode cX6_isBelow 18 = .ok (.getfield 13, 3) := by decide +kernel
theorem dX6_isBelow_21 : decode cX6_isBelow 21 = .ok (.iload_n 3, 1) := by decide +kernel
theorem dX6_isBelow_22 : decode cX6_isBelow 22 = .ok (.iaload, 1) := by decide +kernel
theorem dX6_isBelow_23 : decode cX6_isBelow 23 = .ok (.istore_n 3, 1) := by decide +kernel
theorem dX6_isBelow_24 : decode cX6_isBelow 24 = .ok (.goto (-17), 3) := by decide +kernel
theorem dX6_isBelow_27 : decode cX6_isBelow 27 = .ok (.iload_n 3, 1) := by decide +kernel
theorem dX6_isBelow_28 : decode cX6_isBelow 28 = .ok (.iload_n 2, 1) := by decide +kernel
theorem dX6_isBelow_29 : decode cX6_isBelow 29 = .ok (.if_icmp .ne 12, 3) := by decide +kernel
theorem dX6_isBelow_32 : decode cX6_isBelow 32 = .ok (.iload_n 3, 1) := by decide +kernel
theorem dX6_isBelow_33 : decode cX6_isBelow 33 = .ok (.iconst (-1), 1) := by decide +kernel
theorem dX6_isBelow_34 : decode cX6_isBelow 34 = .ok (.if_icmp .eq 7, 3) := by decide +kernel
theorem dX6_isBelow_37 : decode cX6_isBelow 37 = .ok (.iconst 1, 1) := by decide +kernel
theorem dX6_isBelow_38 : decode cX6_isBelow 38 = .ok (.goto 4, 3) := by decide +kernel
theorem dX6_isBelow_41 : decode cX6_isBelow 41 = .ok (.iconst 0, 1) := by decide +kernel
theorem dX6_isBelow_42 : decode cX6_isBelow 42 = .ok (.ireturn, 1) := by decide +kernel
theorem dX6_loses_0 : decode cX6_loses 0 = .ok (.aload_n 0, 1) := by decide +kernel
theorem dX6_loses_1 : decode cX6_loses 1 = .ok (.aload_n 0, 1) := by decide +kernel
theorem dX6_loses_2 : decode cX6_loses 2 = .ok (.getfield 68, 3) := by decide +kernel
theorem dX6_loses_5 : decode cX6_loses 5 = .ok (.iload_n 1, 1) := by decide +kernel
theorem dX6_loses_6 : decode cX6_loses 6 = .ok (.iaload, 1) := by decide +kernel
theorem dX6_loses_7 : decode cX6_loses 7 = .ok (.putfield 209, 3) := by decide +kernel
theorem dX6_loses_10 : decode cX6_loses 10 = .ok (.aload_n 0, 1) := by decide +kernel
theorem dX6_loses_11 : decode cX6_loses 11 = .ok (.getfield 68, 3) := by decide +kernel
theorem dX6_loses_14 : decode cX6_loses 14 = .ok (.iload_n 1, 1) := by decide +kernel
theorem dX6_loses_15 : decode cX6_loses 15 = .ok (.iconst 0, 1) := by decide +kernel
theorem dX6_loses_16 : decode cX6_loses 16 = .ok (.iastore, 1) := by decide +kernel
theorem dX6_loses_17 : decode cX6_loses 17 = .ok (.return_, 1) := by decide +kernel
theorem dX6_from_0 : decode cX6_from 0 = .ok (.aload_n 0, 1) := by decide +kernel
theorem dX6_from_1 : decode cX6_from 1 = .ok (.getfield 59, 3) := by decide +kernel
theorem dX6_from_4 : decode cX6_from 4 = .ok (.iload_n 1, 1) := by decide +kernel
theorem dX6_from_5 : decode cX6_from 5 = .ok (.iaload, 1) := by decide +kernel
theorem dX6_from_6 : decode cX6_from 6 = .ok (.ifCond .ne 18, 3) := by decide +kernel
theorem dX6_from_9 : decode cX6_from 9 = .ok (.aload_n 0, 1) := by decide +kernel
theorem dX6_from_10 : decode cX6_from 10 = .ok (.aload_n 0, 1) := by decide +kernel
theorem dX6_from_11 : decode cX6_from 11 = .ok (.getfield 62, 3) := by decide +kernel
theorem dX6_from_14 : decode cX6_from 14 = .ok (.iload_n 1, 1) := by decide +kernel
theorem dX6_from_15 : decode cX6_from 15 = .ok (.iaload, 1) := by decide +kernel
theorem dX6_from_16 : decode cX6_from 16 = .ok (.invokevirtual 167, 3) := by decide +kernel
theorem dX6_from_19 : decode cX6_from 19 = .ok (.iconst 1, 1) := by decide +kernel
theorem dX6_from_20 : decode cX6_from 20 = .ok (.iadd, 1) := by decide +kernel
theorem dX6_from_21 : decode cX6_from 21 = .ok (.goto 51, 3) := by decide +kernel
theorem dX6_from_24 : decode cX6_from 24 = .ok (.aload_n 0, 1) := by decide +kernel
theorem dX6_from_25 : decode cX6_from 25 = .ok (.getfield 59, 3) := by decide +kernel
theorem dX6_from_28 : decode cX6_from 28 = .ok (.iload_n 1, 1) := by decide +kernel
theorem dX6_from_29 : decode cX6_from 29 = .ok (.iaload, 1) := by decide +kernel
theorem dX6_from_30 : decode cX6_from 30 = .ok (.iconst 1, 1) := by decide +kernel
theorem dX6_from_31 : decode cX6_from 31 = .ok (.if_icmp .ne 16, 3) := by decide +kernel
theorem dX6_from_34 : decode cX6_from 34 = .ok (.aload_n 0, 1) := by decide +kernel
theorem dX6_from_35 : decode cX6_from 35 = .ok (.aload_n 0, 1) := by decide +kernel
theorem dX6_from_36 : decode cX6_from 36 = .ok (.getfield 62, 3) := by decide +kernel
theorem dX6_from_39 : decode cX6_from 39 = .ok (.iload_n 1, 1) := by decide +kernel
theorem dX6_from_40 : decode cX6_from 40 = .ok (.iaload, 1) := by decide +kernel
theorem dX6_from_41 : decode cX6_from 41 = .ok (.invokevirtual 167, 3) := by decide +kernel
theorem dX6_from_44 : decode cX6_from 44 = .ok (.goto 28, 3) := by decide +kernel
theorem dX6_from_47 : decode cX6_from 47 = .ok (.aload_n 0, 1) := by decide +kernel
theorem dX6_from_48 : decode cX6_from 48 = .ok (.getfield 59, 3) := by decide +kernel
theorem dX6_from_51 : decode cX6_from 51 = .ok (.iload_n 1, 1) := by decide +kernel
theorem dX6_from_52 : decode cX6_from 52 = .ok (.iaload, 1) := by decide +kernel
theorem dX6_from_53 : decode cX6_from 53 = .ok (.iconst 2, 1) := by decide +kernel
theorem dX6_from_54 : decode cX6_from 54 = .ok (.if_icmp .ne 7, 3) := by decide +kernel
theorem dX6_from_57 : decode cX6_from 57 = .ok (.iconst 0, 1) := by decide +kernel
theorem dX6_from_58 : decode cX6_from 58 = .ok (.goto 14, 3) := by decide +kernel
theorem dX6_from_61 : decode cX6_from 61 = .ok (.aload_n 0, 1) := by decide +kernel
theorem dX6_from_62 : decode cX6_from 62 = .ok (.getfield 47, 3) := by decide +kernel
theorem dX6_from_65 : decode cX6_from 65 = .ok (.aload_n 0, 1) := by decide +kernel
theorem dX6_from_66 : decode cX6_from 66 = .ok (.getfield 53, 3) := by decide +kernel
theorem dX6_from_69 : decode cX6_from 69 = .ok (.iload_n 1, 1) := by decide +kernel
theorem dX6_from_70 : decode cX6_from 70 = .ok (.iaload, 1) := by decide +kernel
theorem dX6_from_71 : decode cX6_from 71 = .ok (.iaload, 1) := by decide +kernel
theorem dX6_from_72 : decode cX6_from 72 = .ok (.ireturn, 1) := by decide +kernel
theorem dX6_finds_0 : decode cX6_finds 0 = .ok (.aload_n 0, 1) := by decide +kernel
theorem dX6_finds_1 : decode cX6_finds 1 = .ok (.getfield 53, 3) := by decide +kernel
theorem dX6_finds_4 : decode cX6_finds 4 = .ok (.iload_n 1, 1) := by decide +kernel
theorem dX6_finds_5 : decode cX6_finds 5 = .ok (.iaload, 1) := by decide +kernel
theorem dX6_finds_6 : decode cX6_finds 6 = .ok (.istore_n 3, 1) := by decide +kernel
theorem dX6_finds_7 : decode cX6_finds 7 = .ok (.iload_n 2, 1) := by decide +kernel
theorem dX6_finds_8 : decode cX6_finds 8 = .ok (.ifCond .ne 7, 3) := by decide +kernel
theorem dX6_finds_11 : decode cX6_finds 11 = .ok (.iconst 0, 1) := by decide +kernel
theorem dX6_finds_12 : decode cX6_finds 12 = .ok (.goto 8, 3) := by decide +kernel
theorem dX6_finds_15 : decode cX6_finds 15 = .ok (.aload_n 0, 1) := by decide +kernel
theorem dX6_finds_16 : decode cX6_finds 16 = .ok (.iload_n 1, 1) := by decide +kernel
theorem dX6_finds_17 : decode cX6_finds 17 = .ok (.invokevirtual 212, 3) := by decide +kernel
theorem dX6_finds_20 : decode cX6_finds 20 = .ok (.istore 4, 2) := by decide +kernel
theorem dX6_finds_22 : decode cX6_finds 22 = .ok (.iload 4, 2) := by decide +kernel
theorem dX6_finds_24 : decode cX6_finds 24 = .ok (.aload_n 0, 1) := by decide +kernel
theorem dX6_finds_25 : decode cX6_finds 25 = .ok (.getfield 47, 3) := by decide +kernel
theorem dX6_finds_28 : decode cX6_finds 28 = .ok (.iload_n 3, 1) := by decide +kernel
theorem dX6_finds_29 : decode cX6_finds 29 = .ok (.iaload, 1) := by decide +kernel
theorem dX6_finds_30 : decode cX6_finds 30 = .ok (.if_icmp .ge 89, 3) := by decide +kernel
theorem dX6_finds_33 : decode cX6_finds 33 = .ok (.iload_n 2, 1) := by decide +kernel
theorem dX6_finds_34 : decode cX6_finds 34 = .ok (.iconst 2, 1) := by decide +kernel
theorem dX6_finds_35 : decode cX6_finds 35 = .ok (.if_icmp .ne 39, 3) := by decide +kernel
theorem dX6_finds_38 : decode cX6_finds 38 = .ok (.aload_n 0, 1) := by decide +kernel
theorem dX6_finds_39 : decode cX6_finds 39 = .ok (.iload_n 3, 1) := by decide +kernel
theorem dX6_finds_40 : decode cX6_finds 40 = .ok (.iload 4, 2) := by decide +kernel
theorem dX6_finds_42 : decode cX6_finds 42 = .ok (.invokevirtual 157, 3) := by decide +kernel
theorem dX6_finds_45 : decode cX6_finds 45 = .ok (.aload_n 0, 1) := by decide +kernel
theorem dX6_finds_46 : decode cX6_finds 46 = .ok (.getfield 65, 3) := by decide +kernel
theorem dX6_finds_49 : decode cX6_finds 49 = .ok (.iload_n 1, 1) := by decide +kernel
theorem dX6_finds_50 : decode cX6_finds 50 = .ok (.iaload, 1) := by decide +kernel
theorem dX6_finds_51 : decode cX6_finds 51 = .ok (.if_icmp .eq 27, 3) := by decide +kernel
theorem dX6_finds_54 : decode cX6_finds 54 = .ok (.aload_n 0, 1) := by decide +kernel
theorem dX6_finds_55 : decode cX6_finds 55 = .ok (.aload_n 0, 1) := by decide +kernel
theorem dX6_finds_56 : decode cX6_finds 56 = .ok (.iload_n 3, 1) := by decide +kernel
theorem dX6_finds_57 : decode cX6_finds 57 = .ok (.iload 4, 2) := by decide +kernel
theorem dX6_finds_59 : decode cX6_finds 59 = .ok (.invokevirtual 157, 3) := by decide +kernel
theorem dX6_finds_62 : decode cX6_finds 62 = .ok (.aload_n 0, 1) := by decide +kernel
theorem dX6_finds_63 : decode cX6_finds 63 = .ok (.getfield 65, 3) := by decide +kernel
theorem dX6_finds_66 : decode cX6_finds 66 = .ok (.iload_n 1, 1) := by decide +kernel
theorem dX6_finds_67 : decode cX6_finds 67 = .ok (.iaload, 1) := by decide +kernel
theorem dX6_finds_68 : decode cX6_finds 68 = .ok (.invokevirtual 170, 3) := by decide +kernel
theorem dX6_finds_71 : decode cX6_finds 71 = .ok (.ifCond .eq 7, 3) := by decide +kernel
theorem dX6_finds_74 : decode cX6_finds 74 = .ok (.iconst 1, 1) := by decide +kernel
theorem dX6_finds_75 : decode cX6_finds 75 = .ok (.goto 4, 3) := by decide +kernel
theorem dX6_finds_78 : decode cX6_finds 78 = .ok (.iconst 0, 1) := by decide +kernel
theorem dX6_finds_79 : decode cX6_finds 79 = .ok (.istore 5, 2) := by decide +kernel
theorem dX6_finds_81 : decode cX6_finds 81 = .ok (.iload 5, 2) := by decide +kernel
theorem dX6_finds_83 : decode cX6_finds 83 = .ok (.ifCond .eq 30, 3) := by decide +kernel
theorem dX6_finds_86 : decode cX6_finds 86 = .ok (.aload_n 0, 1) := by decide +kernel
theorem dX6_finds_87 : decode cX6_finds 87 = .ok (.iload_n 1, 1) := by decide +kernel
theorem dX6_finds_88 : decode cX6_finds 88 = .ok (.aload_n 0, 1) := by decide +kernel
theorem dX6_finds_89 : decode cX6_finds 89 = .ok (.iload_n 3, 1) := by decide +kernel
theorem dX6_finds_90 : decode cX6_finds 90 = .ok (.iload 4, 2) := by decide +kernel
theorem dX6_finds_92 : decode cX6_finds 92 = .ok (.invokevirtual 157, 3) := by decide +kernel
theorem dX6_finds_95 : decode cX6_finds 95 = .ok (.aload_n 0, 1) := by decide +kernel
theorem dX6_finds_96 : decode cX6_finds 96 = .ok (.getfield 139, 3) := by decide +kernel
theorem dX6_finds_99 : decode cX6_finds 99 = .ok (.invokevirtual 215, 3) := by decide +kernel
theorem dX6_finds_102 : decode cX6_finds 102 = .ok (.ifCond .eq 11, 3) := by decide +kernel
theorem dX6_finds_105 : decode cX6_finds 105 = .ok (.aload_n 0, 1) := by decide +kernel
theorem dX6_finds_106 : decode cX6_finds 106 = .ok (.iload_n 3, 1) := by decide +kernel
theorem dX6_finds_107 : decode cX6_finds 107 = .ok (.iload 4, 2) := by decide +kernel
theorem dX6_finds_109 : decode cX6_finds 109 = .ok (.invokevirtual 157, 3) := by decide +kernel
theorem dX6_finds_112 : decode cX6_finds 112 = .ok (.ireturn, 1) := by decide +kernel
theorem dX6_finds_113 : decode cX6_finds 113 = .ok (.iinc 4 1, 3) := by decide +kernel
theorem dX6_finds_116 : decode cX6_finds 116 = .ok (.goto (-94), 3) := by decide +kernel
theorem dX6_finds_119 : decode cX6_finds 119 = .ok (.iconst (-1), 1) := by decide +kernel
theorem dX6_finds_120 : decode cX6_finds 120 = .ok (.ireturn, 1) := by decide +kernel
theorem dX6_fills_0 : decode cX6_fills 0 = .ok (.iconst 0, 1) := by decide +kernel
theorem dX6_fills_1 : decode cX6_fills 1 = .ok (.istore 6, 2) := by decide +kernel
theorem dX6_fills_3 : decode cX6_fills 3 = .ok (.iload 6, 2) := by decide +kernel
theorem dX6_fills_5 : decode cX6_fills 5 = .ok (.iconst 3, 1) := by decide +kernel
theorem dX6_fills_6 : decode cX6_fills 6 = .ok (.if_icmp .ge 31, 3) := by decide +kernel
theorem dX6_fills_9 : decode cX6_fills 9 = .ok (.aload_n 0, 1) := by decide +kernel
theorem dX6_fills_10 : decode cX6_fills 10 = .ok (.getfield 98, 3) := by decide +kernel
theorem dX6_fills_13 : decode cX6_fills 13 = .ok (.iconst 3, 1) := by decide +kernel
theorem dX6_fills_14 : decode cX6_fills 14 = .ok (.iload_n 2, 1) := by decide +kernel
theorem dX6_fills_15 : decode cX6_fills 15 = .ok (.imul, 1) := by decide +kernel
theorem dX6_fills_16 : decode cX6_fills 16 = .ok (.iload 6, 2) := by decide +kernel
theorem dX6_fills_18 : decode cX6_fills 18 = .ok (.iadd, 1) := by decide +kernel
theorem dX6_fills_19 : decode cX6_fills 19 = .ok (.aload_n 0, 1) := by decide +kernel
theorem dX6_fills_20 : decode cX6_fills 20 = .ok (.getfield 40, 3) := by decide +kernel
theorem dX6_fills_23 : decode cX6_fills 23 = .ok (.iconst 3, 1) := by decide +kernel
theorem dX6_fills_24 : decode cX6_fills 24 = .ok (.iload_n 3, 1) := by decide +kernel
theorem dX6_fills_25 : decode cX6_fills 25 = .ok (.imul, 1) := by decide +kernel
theorem dX6_fills_26 : decode cX6_fills 26 = .ok (.iload 6, 2) := by decide +kernel
theorem dX6_fills_28 : decode cX6_fills 28 = .ok (.iadd, 1) := by decide +kernel
theorem dX6_fills_29 : decode cX6_fills 29 = .ok (.iaload, 1) := by decide +kernel
theorem dX6_fills_30 : decode cX6_fills 30 = .ok (.iastore, 1) := by decide +kernel
theorem dX6_fills_31 : decode cX6_fills 31 = .ok (.iinc 6 1, 3) := by decide +kernel
theorem dX6_fills_34 : decode cX6_fills 34 = .ok (.goto (-31), 3) := by decide +kernel
theorem dX6_fills_37 : decode cX6_fills 37 = .ok (.iload 4, 2) := by decide +kernel
theorem dX6_fills_39 : decode cX6_fills 39 = .ok (.ifCond .eq 35, 3) := by decide +kernel
theorem dX6_fills_42 : decode cX6_fills 42 = .ok (.aload_n 0, 1) := by decide +kernel
theorem dX6_fills_43 : decode cX6_fills 43 = .ok (.getfield 71, 3) := by decide +kernel
theorem dX6_fills_46 : decode cX6_fills 46 = .ok (.iconst 4, 1) := by decide +kernel
theorem dX6_fills_47 : decode cX6_fills 47 = .ok (.iload_n 1, 1) := by decide +kernel
theorem dX6_fills_48 : decode cX6_fills 48 = .ok (.imul, 1) := by decide +kernel
theorem dX6_fills_49 : decode cX6_fills 49 = .ok (.iload_n 2, 1) := by decide +kernel
theorem dX6_fills_50 : decode cX6_fills 50 = .ok (.iadd, 1) := by decide +kernel
theorem dX6_fills_51 : decode cX6_fills 51 = .ok (.iload_n 3, 1) := by decide +kernel
theorem dX6_fills_52 : decode cX6_fills 52 = .ok (.iastore, 1) := by decide +kernel
theorem dX6_fills_53 : decode cX6_fills 53 = .ok (.aload_n 0, 1) := by decide +kernel
theorem dX6_fills_54 : decode cX6_fills 54 = .ok (.getfield 74, 3) := by decide +kernel
theorem dX6_fills_57 : decode cX6_fills 57 = .ok (.iconst 4, 1) := by decide +kernel
theorem dX6_fills_58 : decode cX6_fills 58 = .ok (.iload_n 1, 1) := by decide +kernel
theorem dX6_fills_59 : decode cX6_fills 59 = .ok (.imul, 1) := by decide +kernel
theorem dX6_fills_60 : decode cX6_fills 60 = .ok (.iload_n 2, 1) := by decide +kernel
theorem dX6_fills_61 : decode cX6_fills 61 = .ok (.iadd, 1) := by decide +kernel
theorem dX6_fills_62 : decode cX6_fills 62 = .ok (.iload 5, 2) := by decide +kernel
theorem dX6_fills_64 : decode cX6_fills 64 = .ok (.iastore, 1) := by decide +kernel
theorem dX6_fills_65 : decode cX6_fills 65 = .ok (.aload_n 0, 1) := by decide +kernel
theorem dX6_fills_66 : decode cX6_fills 66 = .ok (.getfield 68, 3) := by decide +kernel
theorem dX6_fills_69 : decode cX6_fills 69 = .ok (.iload_n 1, 1) := by decide +kernel
theorem dX6_fills_70 : decode cX6_fills 70 = .ok (.iload_n 2, 1) := by decide +kernel
theorem dX6_fills_71 : decode cX6_fills 71 = .ok (.iconst 1, 1) := by decide +kernel
theorem dX6_fills_72 : decode cX6_fills 72 = .ok (.iadd, 1) := by decide +kernel
theorem dX6_fills_73 : decode cX6_fills 73 = .ok (.iastore, 1) := by decide +kernel
theorem dX6_fills_74 : decode cX6_fills 74 = .ok (.return_, 1) := by decide +kernel
theorem dX6_comesTo_0 : decode cX6_comesTo 0 = .ok (.iconst 0, 1) := by decide +kernel
theorem dX6_comesTo_1 : decode cX6_comesTo 1 = .ok (.istore 5, 2) := by decide +kernel
theorem dX6_comesTo_3 : decode cX6_comesTo 3 = .ok (.aload_n 0, 1) := by decide +kernel
theorem dX6_comesTo_4 : decode cX6_comesTo 4 = .ok (.getfield 139, 3) := by decide +kernel
theorem dX6_comesTo_7 : decode cX6_comesTo 7 = .ok (.ifCond .ne 93, 3) := by decide +kernel
theorem dX6_comesTo_10 : decode cX6_comesTo 10 = .ok (.iload_n 3, 1) := by decide +kernel
theorem dX6_comesTo_11 : decode cX6_comesTo 11 = .ok (.ifCond .eq 89, 3) := by decide +kernel
theorem dX6_comesTo_14 : decode cX6_comesTo 14 = .ok (.aload_n 0, 1) := by decide +kernel
theorem dX6_comesTo_15 : decode cX6_comesTo 15 = .ok (.getfield 59, 3) := by decide +kernel
theorem dX6_comesTo_18 : decode cX6_comesTo 18 = .ok (.iload_n 1, 1) := by decide +kernel
theorem dX6_comesTo_19 : decode cX6_comesTo 19 = .ok (.iaload, 1) := by decide +kernel
theorem dX6_comesTo_20 : decode cX6_comesTo 20 = .ok (.ifCond .ne 80, 3) := by decide +kernel
theorem dX6_comesTo_23 : decode cX6_comesTo 23 = .ok (.aload_n 0, 1) := by decide +kernel
theorem dX6_comesTo_24 : decode cX6_comesTo 24 = .ok (.getfield 34, 3) := by decide +kernel
theorem dX6_comesTo_27 : decode cX6_comesTo 27 = .ok (.aload_n 0, 1) := by decide +kernel
theorem dX6_comesTo_28 : decode cX6_comesTo 28 = .ok (.getfield 62, 3) := by decide +kernel
theorem dX6_comesTo_31 : decode cX6_comesTo 31 = .ok (.iload_n 1, 1) := by decide +kernel
theorem dX6_comesTo_32 : decode cX6_comesTo 32 = .ok (.iaload, 1) := by decide +kernel
theorem dX6_comesTo_33 : decode cX6_comesTo 33 = .ok (.iaload, 1) := by decide +kernel
theorem dX6_comesTo_34 : decode cX6_comesTo 34 = .ok (.istore 6, 2) := by decide +kernel
theorem dX6_comesTo_36 : decode cX6_comesTo 36 = .ok (.aload_n 0, 1) := by decide +kernel
theorem dX6_comesTo_37 : decode cX6_comesTo 37 = .ok (.getfield 22, 3) := by decide +kernel
theorem dX6_comesTo_40 : decode cX6_comesTo 40 = .ok (.aload_n 0, 1) := by decide +kernel
theorem dX6_comesTo_41 : decode cX6_comesTo 41 = .ok (.getfield 34, 3) := by decide +kernel
theorem dX6_comesTo_44 : decode cX6_comesTo 44 = .ok (.iload_n 2, 1) := by decide +kernel
theorem dX6_comesTo_45 : decode cX6_comesTo 45 = .ok (.iaload, 1) := by decide +kernel
theorem dX6_comesTo_46 : decode cX6_comesTo 46 = .ok (.iaload, 1) := by decide +kernel
theorem dX6_comesTo_47 : decode cX6_comesTo 47 = .ok (.aload_n 0, 1) := by decide +kernel
theorem dX6_comesTo_48 : decode cX6_comesTo 48 = .ok (.getfield 22, 3) := by decide +kernel
theorem dX6_comesTo_51 : decode cX6_comesTo 51 = .ok (.iload 6, 2) := by decide +kernel
theorem dX6_comesTo_53 : decode cX6_comesTo 53 = .ok (.iaload, 1) := by decide +kernel
theorem dX6_comesTo_54 : decode cX6_comesTo 54 = .ok (.if_icmp .ge 7, 3) := by decide +kernel
theorem dX6_comesTo_57 : decode cX6_comesTo 57 = .ok (.iconst 1, 1) := by decide +kernel
theorem dX6_comesTo_58 : decode cX6_comesTo 58 = .ok (.goto 40, 3) := by decide +kernel
theorem dX6_comesTo_61 : decode cX6_comesTo 61 = .ok (.aload_n 0, 1) := by decide +kernel
theorem dX6_comesTo_62 : decode cX6_comesTo 62 = .ok (.getfield 22, 3) := by decide +kernel
theorem dX6_comesTo_65 : decode cX6_comesTo 65 = .ok (.aload_n 0, 1) := by decide +kernel
theorem dX6_comesTo_66 : decode cX6_comesTo 66 = .ok (.getfield 34, 3) := by decide +kernel
theorem dX6_comesTo_69 : decode cX6_comesTo 69 = .ok (.iload_n 2, 1) := by decide +kernel
theorem dX6_comesTo_70 : decode cX6_comesTo 70 = .ok (.iaload, 1) := by decide +kernel
theorem dX6_comesTo_71 : decode cX6_comesTo 71 = .ok (.iaload, 1) := by decide +kernel
theorem dX6_comesTo_72 : decode cX6_comesTo 72 = .ok (.aload_n 0, 1) := by decide +kernel
theorem dX6_comesTo_73 : decode cX6_comesTo 73 = .ok (.getfield 22, 3) := by decide +kernel
theorem dX6_comesTo_76 : decode cX6_comesTo 76 = .ok (.iload 6, 2) := by decide +kernel
theorem dX6_comesTo_78 : decode cX6_comesTo 78 = .ok (.iaload, 1) := by decide +kernel
theorem dX6_comesTo_79 : decode cX6_comesTo 79 = .ok (.if_icmp .ne 18, 3) := by decide +kernel
theorem dX6_comesTo_82 : decode cX6_comesTo 82 = .ok (.aload_n 0, 1) := by decide +kernel
theorem dX6_comesTo_83 : decode cX6_comesTo 83 = .ok (.getfield 34, 3) := by decide +kernel
theorem dX6_comesTo_86 : decode cX6_comesTo 86 = .ok (.iload_n 2, 1) := by decide +kernel
theorem dX6_comesTo_87 : decode cX6_comesTo 87 = .ok (.iaload, 1) := by decide +kernel
theorem dX6_comesTo_88 : decode cX6_comesTo 88 = .ok (.iload 6, 2) := by decide +kernel
theorem dX6_comesTo_90 : decode cX6_comesTo 90 = .ok (.if_icmp .eq 7, 3) := by decide +kernel
theorem dX6_comesTo_93 : decode cX6_comesTo 93 = .ok (.iconst 2, 1) := by decide +kernel
theorem dX6_comesTo_94 : decode cX6_comesTo 94 = .ok (.goto 4, 3) := by decide +kernel
theorem dX6_comesTo_97 : decode cX6_comesTo 97 = .ok (.iconst 0, 1) := by decide +kernel
theorem dX6_comesTo_98 : decode cX6_comesTo 98 = .ok (.istore 5, 2) := by decide +kernel
theorem dX6_comesTo_100 : decode cX6_comesTo 100 = .ok (.iconst 0, 1) := by decide +kernel
theorem dX6_comesTo_101 : decode cX6_comesTo 101 = .ok (.istore 6, 2) := by decide +kernel
theorem dX6_comesTo_103 : decode cX6_comesTo 103 = .ok (.iload_n 2, 1) := by decide +kernel
theorem dX6_comesTo_104 : decode cX6_comesTo 104 = .ok (.istore 7, 2) := by decide +kernel
theorem dX6_comesTo_106 : decode cX6_comesTo 106 = .ok (.iconst 0, 1) := by decide +kernel
theorem dX6_comesTo_107 : decode cX6_comesTo 107 = .ok (.istore 8, 2) := by decide +kernel
theorem dX6_comesTo_109 : decode cX6_comesTo 109 = .ok (.iload 8, 2) := by decide +kernel
theorem dX6_comesTo_111 : decode cX6_comesTo 111 = .ok (.aload_n 0, 1) := by decide +kernel
theorem dX6_comesTo_112 : decode cX6_comesTo 112 = .ok (.getfield 139, 3) := by decide +kernel
theorem dX6_comesTo_115 : decode cX6_comesTo 115 = .ok (.if_icmp .ge 94, 3) := by decide +kernel
theorem dX6_comesTo_118 : decode cX6_comesTo 118 = .ok (.aload_n 0, 1) := by decide +kernel
theorem dX6_comesTo_119 : decode cX6_comesTo 119 = .ok (.iload_n 2, 1) := by decide +kernel
theorem dX6_comesTo_120 : decode cX6_comesTo 120 = .ok (.aload_n 0, 1) := by decide +kernel
theorem dX6_comesTo_121 : decode cX6_comesTo 121 = .ok (.getfield 77, 3) := by decide +kernel
theorem dX6_comesTo_124 : decode cX6_comesTo 124 = .ok (.iload 8, 2) := by decide +kernel
theorem dX6_comesTo_126 : decode cX6_comesTo 126 = .ok (.iaload, 1) := by decide +kernel
theorem dX6_comesTo_127 : decode cX6_comesTo 127 = .ok (.invokevirtual 200, 3) := by decide +kernel
theorem dX6_comesTo_130 : decode cX6_comesTo 130 = .ok (.istore 9, 2) := by decide +kernel
theorem dX6_comesTo_132 : decode cX6_comesTo 132 = .ok (.aload_n 0, 1) := by decide +kernel
theorem dX6_comesTo_133 : decode cX6_comesTo 133 = .ok (.iload 8, 2) := by decide +kernel
theorem dX6_comesTo_135 : decode cX6_comesTo 135 = .ok (.iconst 1, 1) := by decide +kernel
theorem dX6_comesTo_136 : decode cX6_comesTo 136 = .ok (.invokevirtual 190, 3) := by decide +kernel
theorem dX6_comesTo_139 : decode cX6_comesTo 139 = .ok (.ifCond .ne 14, 3) := by decide +kernel
theorem dX6_comesTo_142 : decode cX6_comesTo 142 = .ok (.iload 8, 2) := by decide +kernel
theorem dX6_comesTo_144 : decode cX6_comesTo 144 = .ok (.aload_n 0, 1) := by decide +kernel
theorem dX6_comesTo_145 : decode cX6_comesTo 145 = .ok (.getfield 139, 3) := by decide +kernel
theorem dX6_comesTo_148 : decode cX6_comesTo 148 = .ok (.iconst 1, 1) := by decide +kernel
theorem dX6_comesTo_149 : decode cX6_comesTo 149 = .ok (.isub, 1) := by decide +kernel
theorem dX6_comesTo_150 : decode cX6_comesTo 150 = .ok (.if_icmp .ne 33, 3) := by decide +kernel
theorem dX6_comesTo_153 : decode cX6_comesTo 153 = .ok (.aload_n 0, 1) := by decide +kernel
theorem dX6_comesTo_154 : decode cX6_comesTo 154 = .ok (.iload_n 1, 1) := by decide +kernel
theorem dX6_comesTo_155 : decode cX6_comesTo 155 = .ok (.iload 6, 2) := by decide +kernel
theorem dX6_comesTo_157 : decode cX6_comesTo 157 = .ok (.iload 9, 2) := by decide +kernel
theorem dX6_comesTo_159 : decode cX6_comesTo 159 = .ok (.iload 4, 2) := by decide +kernel
theorem dX6_comesTo_161 : decode cX6_comesTo 161 = .ok (.aload_n 0, 1) := by decide +kernel
theorem dX6_comesTo_162 : decode cX6_comesTo 162 = .ok (.iload 8, 2) := by decide +kernel
theorem dX6_comesTo_164 : decode cX6_comesTo 164 = .ok (.bipush 32, 2) := by decide +kernel
theorem dX6_comesTo_166 : decode cX6_comesTo 166 = .ok (.invokevirtual 190, 3) := by decide +kernel
theorem dX6_comesTo_169 : decode cX6_comesTo 169 = .ok (.ifCond .eq 7, 3) := by decide +kernel
theorem dX6_comesTo_172 : decode cX6_comesTo 172 = .ok (.iconst 1, 1) := by decide +kernel
theorem dX6_comesTo_173 : decode cX6_comesTo 173 = .ok (.goto 4, 3) := by decide +kernel
theorem dX6_comesTo_176 : decode cX6_comesTo 176 = .ok (.iconst 0, 1) := by decide +kernel
theorem dX6_comesTo_177 : decode cX6_comesTo 177 = .ok (.invokevirtual 218, 3) := by decide +kernel
theorem dX6_comesTo_180 : decode cX6_comesTo 180 = .ok (.iinc 6 1, 3) := by decide +kernel
theorem dX6_comesTo_183 : decode cX6_comesTo 183 = .ok (.aload_n 0, 1) := by decide +kernel
theorem dX6_comesTo_184 : decode cX6_comesTo 184 = .ok (.iload 8, 2) := by decide +kernel
theorem dX6_comesTo_186 : decode cX6_comesTo 186 = .ok (.bipush 16, 2) := by decide +kernel
theorem dX6_comesTo_188 : decode cX6_comesTo 188 = .ok (.invokevirtual 190, 3) := by decide +kernel
theorem dX6_comesTo_191 : decode cX6_comesTo 191 = .ok (.ifCond .eq 8, 3) := by decide +kernel
theorem dX6_comesTo_194 : decode cX6_comesTo 194 = .ok (.iload 9, 2) := by decide +kernel
theorem dX6_comesTo_196 : decode cX6_comesTo 196 = .ok (.goto 5, 3) := by decide +kernel
theorem dX6_comesTo_199 : decode cX6_comesTo 199 = .ok (.iload 7, 2) := by decide +kernel
theorem dX6_comesTo_201 : decode cX6_comesTo 201 = .ok (.istore 7, 2) := by decide +kernel
theorem dX6_comesTo_203 : decode cX6_comesTo 203 = .ok (.iinc 8 1, 3) := by decide +kernel
theorem dX6_comesTo_206 : decode cX6_comesTo 206 = .ok (.goto (-97), 3) := by decide +kernel
theorem dX6_comesTo_209 : decode cX6_comesTo 209 = .ok (.aload_n 0, 1) := by decide +kernel
theorem dX6_comesTo_210 : decode cX6_comesTo 210 = .ok (.getfield 139, 3) := by decide +kernel
theorem dX6_comesTo_213 : decode cX6_comesTo 213 = .ok (.ifCond .ne 13, 3) := by decide +kernel
theorem dX6_comesTo_216 : decode cX6_comesTo 216 = .ok (.aload_n 0, 1) := by decide +kernel
theorem dX6_comesTo_217 : decode cX6_comesTo 217 = .ok (.iload_n 1, 1) := by decide +kernel
theorem dX6_comesTo_218 : decode cX6_comesTo 218 = .ok (.iconst 0, 1) := by decide +kernel
theorem dX6_comesTo_219 : decode cX6_comesTo 219 = .ok (.iload_n 2, 1) := by decide +kernel
theorem dX6_comesTo_220 : decode cX6_comesTo 220 = .ok (.iload 4, 2) := by decide +kernel
theorem dX6_comesTo_222 : decode cX6_comesTo 222 = .ok (.iconst 0, 1) := by decide +kernel
theorem dX6_comesTo_223 : decode cX6_comesTo 223 = .ok (.invokevirtual 218, 3) := by decide +kernel
theorem dX6_comesTo_226 : decode cX6_comesTo 226 = .ok (.aload_n 0, 1) := by decide +kernel
theorem dX6_comesTo_227 : decode cX6_comesTo 227 = .ok (.getfield 65, 3) := by decide +kernel
theorem dX6_comesTo_230 : decode cX6_comesTo 230 = .ok (.iload_n 1, 1) := by decide +kernel
theorem dX6_comesTo_231 : decode cX6_comesTo 231 = .ok (.iload_n 3, 1) := by decide +kernel
theorem dX6_comesTo_232 : decode cX6_comesTo 232 = .ok (.iconst 2, 1) := by decide +kernel
theorem dX6_comesTo_233 : decode cX6_comesTo 233 = .ok (.if_icmp .ne 12, 3) := by decide +kernel
theorem dX6_comesTo_236 : decode cX6_comesTo 236 = .ok (.aload_n 0, 1) := by decide +kernel
theorem dX6_comesTo_237 : decode cX6_comesTo 237 = .ok (.getfield 65, 3) := by decide +kernel
theorem dX6_comesTo_240 : decode cX6_comesTo 240 = .ok (.iload_n 1, 1) := by decide +kernel
theorem dX6_comesTo_241 : decode cX6_comesTo 241 = .ok (.iaload, 1) := by decide +kernel
theorem dX6_comesTo_242 : decode cX6_comesTo 242 = .ok (.goto 5, 3) := by decide +kernel
theorem dX6_comesTo_245 : decode cX6_comesTo 245 = .ok (.iload 7, 2) := by decide +kernel
theorem dX6_comesTo_247 : decode cX6_comesTo 247 = .ok (.iastore, 1) := by decide +kernel
theorem dX6_comesTo_248 : decode cX6_comesTo 248 = .ok (.aload_n 0, 1) := by decide +kernel
theorem dX6_comesTo_249 : decode cX6_comesTo 249 = .ok (.getfield 59, 3) := by decide +kernel
theorem dX6_comesTo_252 : decode cX6_comesTo 252 = .ok (.iload_n 1, 1) := by decide +kernel
theorem dX6_comesTo_253 : decode cX6_comesTo 253 = .ok (.iconst 0, 1) := by decide +kernel
theorem dX6_comesTo_254 : decode cX6_comesTo 254 = .ok (.iastore, 1) := by decide +kernel
theorem dX6_comesTo_255 : decode cX6_comesTo 255 = .ok (.aload_n 0, 1) := by decide +kernel
theorem dX6_comesTo_256 : decode cX6_comesTo 256 = .ok (.getfield 62, 3) := by decide +kernel
theorem dX6_comesTo_259 : decode cX6_comesTo 259 = .ok (.iload_n 1, 1) := by decide +kernel
theorem dX6_comesTo_260 : decode cX6_comesTo 260 = .ok (.iload_n 2, 1) := by decide +kernel
theorem dX6_comesTo_261 : decode cX6_comesTo 261 = .ok (.iastore, 1) := by decide +kernel
theorem dX6_comesTo_262 : decode cX6_comesTo 262 = .ok (.iload 5, 2) := by decide +kernel
theorem dX6_comesTo_264 : decode cX6_comesTo 264 = .ok (.ireturn, 1) := by decide +kernel
theorem dX6_gets_0 : decode cX6_gets 0 = .ok (.aload_n 0, 1) := by decide +kernel
theorem dX6_gets_1 : decode cX6_gets 1 = .ok (.iload_n 1, 1) := by decide +kernel
theorem dX6_gets_2 : decode cX6_gets 2 = .ok (.invokevirtual 222, 3) := by decide +kernel
theorem dX6_gets_5 : decode cX6_gets 5 = .ok (.ifCond .ne 5, 3) := by decide +kernel
theorem dX6_gets_8 : decode cX6_gets 8 = .ok (.iconst 4, 1) := by decide +kernel
theorem dX6_gets_9 : decode cX6_gets 9 = .ok (.ireturn, 1) := by decide +kernel
theorem dX6_gets_10 : decode cX6_gets 10 = .ok (.iload_n 2, 1) := by decide +kernel
theorem dX6_gets_11 : decode cX6_gets 11 = .ok (.iconst 2, 1) := by decide +kernel
theorem dX6_gets_12 : decode cX6_gets 12 = .ok (.if_icmp .ne 15, 3) := by decide +kernel
theorem dX6_gets_15 : decode cX6_gets 15 = .ok (.aload_n 0, 1) := by decide +kernel
theorem dX6_gets_16 : decode cX6_gets 16 = .ok (.getfield 65, 3) := by decide +kernel
theorem dX6_gets_19 : decode cX6_gets 19 = .ok (.iload_n 1, 1) := by decide +kernel
theorem dX6_gets_20 : decode cX6_gets 20 = .ok (.iaload, 1) := by decide +kernel
theorem dX6_gets_21 : decode cX6_gets 21 = .ok (.iconst (-1), 1) := by decide +kernel
theorem dX6_gets_22 : decode cX6_gets 22 = .ok (.if_icmp .ne 5, 3) := by decide +kernel
theorem dX6_gets_25 : decode cX6_gets 25 = .ok (.iconst 5, 1) := by decide +kernel
theorem dX6_gets_26 : decode cX6_gets 26 = .ok (.ireturn, 1) := by decide +kernel
theorem dX6_gets_27 : decode cX6_gets 27 = .ok (.aload_n 0, 1) := by decide +kernel
theorem dX6_gets_28 : decode cX6_gets 28 = .ok (.iload_n 1, 1) := by decide +kernel
theorem dX6_gets_29 : decode cX6_gets 29 = .ok (.iload_n 2, 1) := by decide +kernel
theorem dX6_gets_30 : decode cX6_gets 30 = .ok (.invokevirtual 225, 3) := by decide +kernel
theorem dX6_gets_33 : decode cX6_gets 33 = .ok (.istore 4, 2) := by decide +kernel
theorem dX6_gets_35 : decode cX6_gets 35 = .ok (.iload 4, 2) := by decide +kernel
theorem dX6_gets_37 : decode cX6_gets 37 = .ok (.iconst (-1), 1) := by decide +kernel
theorem dX6_gets_38 : decode cX6_gets 38 = .ok (.if_icmp .eq 13, 3) := by decide +kernel
theorem dX6_gets_41 : decode cX6_gets 41 = .ok (.aload_n 0, 1) := by decide +kernel
theorem dX6_gets_42 : decode cX6_gets 42 = .ok (.iload_n 1, 1) := by decide +kernel
theorem dX6_gets_43 : decode cX6_gets 43 = .ok (.iload 4, 2) := by decide +kernel
theorem dX6_gets_45 : decode cX6_gets 45 = .ok (.iload_n 2, 1) := by decide +kernel
theorem dX6_gets_46 : decode cX6_gets 46 = .ok (.iload_n 3, 1) := by decide +kernel
theorem dX6_gets_47 : decode cX6_gets 47 = .ok (.invokevirtual 228, 3) := by decide +kernel
theorem dX6_gets_50 : decode cX6_gets 50 = .ok (.ireturn, 1) := by decide +kernel
theorem dX6_gets_51 : decode cX6_gets 51 = .ok (.iload_n 2, 1) := by decide +kernel
theorem dX6_gets_52 : decode cX6_gets 52 = .ok (.iconst 1, 1) := by decide +kernel
theorem dX6_gets_53 : decode cX6_gets 53 = .ok (.if_icmp .ne 10, 3) := by decide +kernel
theorem dX6_gets_56 : decode cX6_gets 56 = .ok (.aload_n 0, 1) := by decide +kernel
theorem dX6_gets_57 : decode cX6_gets 57 = .ok (.getfield 139, 3) := by decide +kernel
theorem dX6_gets_60 : decode cX6_gets 60 = .ok (.ifCond .le 6, 3) := by decide +kernel
theorem dX6_gets_63 : decode cX6_gets 63 = .ok (.bipush 7, 2) := by decide +kernel
theorem dX6_gets_65 : decode cX6_gets 65 = .ok (.ireturn, 1) := by decide +kernel
theorem dX6_gets_66 : decode cX6_gets 66 = .ok (.aload_n 0, 1) := by decide +kernel
theorem dX6_gets_67 : decode cX6_gets 67 = .ok (.getfield 59, 3) := by decide +kernel
theorem dX6_gets_70 : decode cX6_gets 70 = .ok (.iload_n 1, 1) := by decide +kernel
theorem dX6_gets_71 : decode cX6_gets 71 = .ok (.iconst 2, 1) := by decide +kernel
theorem dX6_gets_72 : decode cX6_gets 72 = .ok (.iastore, 1) := by decide +kernel
theorem dX6_gets_73 : decode cX6_gets 73 = .ok (.aload_n 0, 1) := by decide +kernel
theorem dX6_gets_74 : decode cX6_gets 74 = .ok (.getfield 62, 3) := by decide +kernel
theorem dX6_gets_77 : decode cX6_gets 77 = .ok (.iload_n 1, 1) := by decide +kernel
theorem dX6_gets_78 : decode cX6_gets 78 = .ok (.iconst (-1), 1) := by decide +kernel
theorem dX6_gets_79 : decode cX6_gets 79 = .ok (.iastore, 1) := by decide +kernel
theorem dX6_gets_80 : decode cX6_gets 80 = .ok (.iconst 3, 1) := by decide +kernel
theorem dX6_gets_81 : decode cX6_gets 81 = .ok (.ireturn, 1) := by decide +kernel
theorem dX6_get_0 : decode cX6_get 0 = .ok (.aload_n 0, 1) := by decide +kernel
theorem dX6_get_1 : decode cX6_get 1 = .ok (.iload_n 1, 1) := by decide +kernel
theorem dX6_get_2 : decode cX6_get 2 = .ok (.invokestatic 136, 3) := by decide +kernel
theorem dX6_get_5 : decode cX6_get 5 = .ok (.iload_n 2, 1) := by decide +kernel
theorem dX6_get_6 : decode cX6_get 6 = .ok (.iconst 0, 1) := by decide +kernel
theorem dX6_get_7 : decode cX6_get 7 = .ok (.iconst 2, 1) := by decide +kernel
theorem dX6_get_8 : decode cX6_get 8 = .ok (.invokestatic 115, 3) := by decide +kernel
theorem dX6_get_11 : decode cX6_get 11 = .ok (.iconst 1, 1) := by decide +kernel
theorem dX6_get_12 : decode cX6_get 12 = .ok (.invokevirtual 132, 3) := by decide +kernel
theorem dX6_get_15 : decode cX6_get 15 = .ok (.ifCond .ne 5, 3) := by decide +kernel
theorem dX6_get_18 : decode cX6_get 18 = .ok (.iconst 0, 1) := by decide +kernel
theorem dX6_get_19 : decode cX6_get 19 = .ok (.ireturn, 1) := by decide +kernel
theorem dX6_get_20 : decode cX6_get 20 = .ok (.aload_n 0, 1) := by decide +kernel
theorem dX6_get_21 : decode cX6_get 21 = .ok (.iload_n 1, 1) := by decide +kernel
theorem dX6_get_22 : decode cX6_get 22 = .ok (.invokevirtual 232, 3) := by decide +kernel
theorem dX6_get_25 : decode cX6_get 25 = .ok (.aload_n 0, 1) := by decide +kernel
theorem dX6_get_26 : decode cX6_get 26 = .ok (.iload_n 1, 1) := by decide +kernel
theorem dX6_get_27 : decode cX6_get 27 = .ok (.iload_n 2, 1) := by decide +kernel
theorem dX6_get_28 : decode cX6_get 28 = .ok (.iload_n 3, 1) := by decide +kernel
theorem dX6_get_29 : decode cX6_get 29 = .ok (.invokevirtual 236, 3) := by decide +kernel
theorem dX6_get_32 : decode cX6_get 32 = .ok (.istore 4, 2) := by decide +kernel
theorem dX6_get_34 : decode cX6_get 34 = .ok (.aload_n 0, 1) := by decide +kernel
theorem dX6_get_35 : decode cX6_get 35 = .ok (.invokevirtual 145, 3) := by decide +kernel
theorem dX6_get_38 : decode cX6_get 38 = .ok (.istore 5, 2) := by decide +kernel
theorem dX6_get_40 : decode cX6_get 40 = .ok (.iload 4, 2) := by decide +kernel
theorem dX6_get_42 : decode cX6_get 42 = .ok (.ireturn, 1) := by decide +kernel
theorem dX6_firstNew_0 : decode cX6_firstNew 0 = .ok (.aload_n 0, 1) := by decide +kernel
theorem dX6_firstNew_1 : decode cX6_firstNew 1 = .ok (.getfield 139, 3) := by decide +kernel
theorem dX6_firstNew_4 : decode cX6_firstNew 4 = .ok (.iconst 1, 1) := by decide +kernel
theorem dX6_firstNew_5 : decode cX6_firstNew 5 = .ok (.isub, 1) := by decide +kernel
theorem dX6_firstNew_6 : decode cX6_firstNew 6 = .ok (.istore_n 1, 1) := by decide +kernel
theorem dX6_firstNew_7 : decode cX6_firstNew 7 = .ok (.aload_n 0, 1) := by decide +kernel
theorem dX6_firstNew_8 : decode cX6_firstNew 8 = .ok (.getfield 139, 3) := by decide +kernel
theorem dX6_firstNew_11 : decode cX6_firstNew 11 = .ok (.iconst 1, 1) := by decide +kernel
theorem dX6_firstNew_12 : decode cX6_firstNew 12 = .ok (.isub, 1) := by decide +kernel
theorem dX6_firstNew_13 : decode cX6_firstNew 13 = .ok (.istore_n 2, 1) := by decide +kernel
theorem dX6_firstNew_14 : decode cX6_firstNew 14 = .ok (.iload_n 2, 1) := by decide +kernel
theorem dX6_firstNew_15 : decode cX6_firstNew 15 = .ok (.ifCond .lt 24, 3) := by decide +kernel
theorem dX6_firstNew_18 : decode cX6_firstNew 18 = .ok (.aload_n 0, 1) := by decide +kernel
theorem dX6_firstNew_19 : decode cX6_firstNew 19 = .ok (.iload_n 2, 1) := by decide +kernel
theorem dX6_firstNew_20 : decode cX6_firstNew 20 = .ok (.iconst 1, 1) := by decide +kernel
theorem dX6_firstNew_21 : decode cX6_firstNew 21 = .ok (.invokevirtual 190, 3) := by decide +kernel
theorem dX6_firstNew_24 : decode cX6_firstNew 24 = .ok (.ifCond .eq 7, 3) := by decide +kernel
theorem dX6_firstNew_27 : decode cX6_firstNew 27 = .ok (.iload_n 2, 1) := by decide +kernel
theorem dX6_firstNew_28 : decode cX6_firstNew 28 = .ok (.goto 4, 3) := by decide +kernel
theorem dX6_firstNew_31 : decode cX6_firstNew 31 = .ok (.iload_n 1, 1) := by decide +kernel
theorem dX6_firstNew_32 : decode cX6_firstNew 32 = .ok (.istore_n 1, 1) := by decide +kernel
theorem dX6_firstNew_33 : decode cX6_firstNew 33 = .ok (.iinc 2 (-1), 3) := by decide +kernel
theorem dX6_firstNew_36 : decode cX6_firstNew 36 = .ok (.goto (-22), 3) := by decide +kernel
theorem dX6_firstNew_39 : decode cX6_firstNew 39 = .ok (.iload_n 1, 1) := by decide +kernel
theorem dX6_firstNew_40 : decode cX6_firstNew 40 = .ok (.ireturn, 1) := by decide +kernel
theorem dX6_areNew_0 : decode cX6_areNew 0 = .ok (.iload_n 1, 1) := by decide +kernel
theorem dX6_areNew_1 : decode cX6_areNew 1 = .ok (.ifCond .eq 25, 3) := by decide +kernel
theorem dX6_areNew_4 : decode cX6_areNew 4 = .ok (.aload_n 0, 1) := by decide +kernel
theorem dX6_areNew_5 : decode cX6_areNew 5 = .ok (.getfield 13, 3) := by decide +kernel
theorem dX6_areNew_8 : decode cX6_areNew 8 = .ok (.aload_n 0, 1) := by decide +kernel
theorem dX6_areNew_9 : decode cX6_areNew 9 = .ok (.getfield 77, 3) := by decide +kernel
theorem dX6_areNew_12 : decode cX6_areNew 12 = .ok (.iload_n 1, 1) := by decide +kernel
theorem dX6_areNew_13 : decode cX6_areNew 13 = .ok (.iaload, 1) := by decide +kernel
theorem dX6_areNew_14 : decode cX6_areNew 14 = .ok (.iaload, 1) := by decide +kernel
theorem dX6_areNew_15 : decode cX6_areNew 15 = .ok (.aload_n 0, 1) := by decide +kernel
theorem dX6_areNew_16 : decode cX6_areNew 16 = .ok (.getfield 77, 3) := by decide +kernel
theorem dX6_areNew_19 : decode cX6_areNew 19 = .ok (.iload_n 1, 1) := by decide +kernel
theorem dX6_areNew_20 : decode cX6_areNew 20 = .ok (.iconst 1, 1) := by decide +kernel
theorem dX6_areNew_21 : decode cX6_areNew 21 = .ok (.isub, 1) := by decide +kernel
theorem dX6_areNew_22 : decode cX6_areNew 22 = .ok (.iaload, 1) := by decide +kernel
theorem dX6_areNew_23 : decode cX6_areNew 23 = .ok (.if_icmp .ne 7, 3) := by decide +kernel
theorem dX6_areNew_26 : decode cX6_areNew 26 = .ok (.iconst 1, 1) := by decide +kernel
theorem dX6_areNew_27 : decode cX6_areNew 27 = .ok (.goto 4, 3) := by decide +kernel
theorem dX6_areNew_30 : decode cX6_areNew 30 = .ok (.iconst 0, 1) := by decide +kernel
theorem dX6_areNew_31 : decode cX6_areNew 31 = .ok (.istore_n 2, 1) := by decide +kernel
theorem dX6_areNew_32 : decode cX6_areNew 32 = .ok (.iload_n 1, 1) := by decide +kernel
theorem dX6_areNew_33 : decode cX6_areNew 33 = .ok (.istore_n 3, 1) := by decide +kernel
theorem dX6_areNew_34 : decode cX6_areNew 34 = .ok (.iload_n 3, 1) := by decide +kernel
theorem dX6_areNew_35 : decode cX6_areNew 35 = .ok (.aload_n 0, 1) := by decide +kernel
theorem dX6_areNew_36 : decode cX6_areNew 36 = .ok (.getfield 139, 3) := by decide +kernel
theorem dX6_areNew_39 : decode cX6_areNew 39 = .ok (.if_icmp .ge 55, 3) := by decide +kernel
theorem dX6_areNew_42 : decode cX6_areNew 42 = .ok (.iload_n 2, 1) := by decide +kernel
theorem dX6_areNew_43 : decode cX6_areNew 43 = .ok (.ifCond .eq 43, 3) := by decide +kernel
theorem dX6_areNew_46 : decode cX6_areNew 46 = .ok (.aload_n 0, 1) := by decide +kernel
theorem dX6_areNew_47 : decode cX6_areNew 47 = .ok (.getfield 83, 3) := by decide +kernel
theorem dX6_areNew_50 : decode cX6_areNew 50 = .ok (.iload_n 3, 1) := by decide +kernel
theorem dX6_areNew_51 : decode cX6_areNew 51 = .ok (.iaload, 1) := by decide +kernel
theorem dX6_areNew_52 : decode cX6_areNew 52 = .ok (.ifCond .ne 34, 3) := by decide +kernel
theorem dX6_areNew_55 : decode cX6_areNew 55 = .ok (.iload_n 3, 1) := by decide +kernel
theorem dX6_areNew_56 : decode cX6_areNew 56 = .ok (.iload_n 1, 1) := by decide +kernel
theorem dX6_areNew_57 : decode cX6_areNew 57 = .ok (.if_icmp .eq 25, 3) := by decide +kernel
theorem dX6_areNew_60 : decode cX6_areNew 60 = .ok (.aload_n 0, 1) := by decide +kernel
theorem dX6_areNew_61 : decode cX6_areNew 61 = .ok (.getfield 13, 3) := by decide +kernel
theorem dX6_areNew_64 : decode cX6_areNew 64 = .ok (.aload_n 0, 1) := by decide +kernel
theorem dX6_areNew_65 : decode cX6_areNew 65 = .ok (.getfield 77, 3) := by decide +kernel
theorem dX6_areNew_68 : decode cX6_areNew 68 = .ok (.iload_n 3, 1) := by decide +kernel
theorem dX6_areNew_69 : decode cX6_areNew 69 = .ok (.iaload, 1) := by decide +kernel
theorem dX6_areNew_70 : decode cX6_areNew 70 = .ok (.iaload, 1) := by decide +kernel
theorem dX6_areNew_71 : decode cX6_areNew 71 = .ok (.aload_n 0, 1) := by decide +kernel
theorem dX6_areNew_72 : decode cX6_areNew 72 = .ok (.getfield 77, 3) := by decide +kernel
theorem dX6_areNew_75 : decode cX6_areNew 75 = .ok (.iload_n 3, 1) := by decide +kernel
theorem dX6_areNew_76 : decode cX6_areNew 76 = .ok (.iconst 1, 1) := by decide +kernel
theorem dX6_areNew_77 : decode cX6_areNew 77 = .ok (.isub, 1) := by decide +kernel
theorem dX6_areNew_78 : decode cX6_areNew 78 = .ok (.iaload, 1) := by decide +kernel
theorem dX6_areNew_79 : decode cX6_areNew 79 = .ok (.if_icmp .ne 7, 3) := by decide +kernel
theorem dX6_areNew_82 : decode cX6_areNew 82 = .ok (.iconst 1, 1) := by decide +kernel
theorem dX6_areNew_83 : decode cX6_areNew 83 = .ok (.goto 4, 3) := by decide +kernel
theorem dX6_areNew_86 : decode cX6_areNew 86 = .ok (.iconst 0, 1) := by decide +kernel
theorem dX6_areNew_87 : decode cX6_areNew 87 = .ok (.istore_n 2, 1) := by decide +kernel
theorem dX6_areNew_88 : decode cX6_areNew 88 = .ok (.iinc 3 1, 3) := by decide +kernel
theorem dX6_areNew_91 : decode cX6_areNew 91 = .ok (.goto (-57), 3) := by decide +kernel
theorem dX6_areNew_94 : decode cX6_areNew 94 = .ok (.iload_n 2, 1) := by decide +kernel
theorem dX6_areNew_95 : decode cX6_areNew 95 = .ok (.ireturn, 1) := by decide +kernel
theorem dX6_parentFor_0 : decode cX6_parentFor 0 = .ok (.aload_n 0, 1) := by decide +kernel
theorem dX6_parentFor_1 : decode cX6_parentFor 1 = .ok (.getfield 53, 3) := by decide +kernel
theorem dX6_parentFor_4 : decode cX6_parentFor 4 = .ok (.iload_n 1, 1) := by decide +kernel
theorem dX6_parentFor_5 : decode cX6_parentFor 5 = .ok (.iaload, 1) := by decide +kernel
theorem dX6_parentFor_6 : decode cX6_parentFor 6 = .ok (.istore_n 3, 1) := by decide +kernel
theorem dX6_parentFor_7 : decode cX6_parentFor 7 = .ok (.iconst 0, 1) := by decide +kernel
theorem dX6_parentFor_8 : decode cX6_parentFor 8 = .ok (.istore 4, 2) := by decide +kernel
theorem dX6_parentFor_10 : decode cX6_parentFor 10 = .ok (.iload 4, 2) := by decide +kernel
theorem dX6_parentFor_12 : decode cX6_parentFor 12 = .ok (.aload_n 0, 1) := by decide +kernel
theorem dX6_parentFor_13 : decode cX6_parentFor 13 = .ok (.getfield 47, 3) := by decide +kernel
theorem dX6_parentFor_16 : decode cX6_parentFor 16 = .ok (.iload_n 3, 1) := by decide +kernel
theorem dX6_parentFor_17 : decode cX6_parentFor 17 = .ok (.iaload, 1) := by decide +kernel
theorem dX6_parentFor_18 : decode cX6_parentFor 18 = .ok (.if_icmp .ge 37, 3) := by decide +kernel
theorem dX6_parentFor_21 : decode cX6_parentFor 21 = .ok (.iload_n 2, 1) := by decide +kernel
theorem dX6_parentFor_22 : decode cX6_parentFor 22 = .ok (.ifCond .le 33, 3) := by decide +kernel
theorem dX6_parentFor_25 : decode cX6_parentFor 25 = .ok (.aload_n 0, 1) := by decide +kernel
theorem dX6_parentFor_26 : decode cX6_parentFor 26 = .ok (.iload_n 1, 1) := by decide +kernel
theorem dX6_parentFor_27 : decode cX6_parentFor 27 = .ok (.aload_n 0, 1) := by decide +kernel
theorem dX6_parentFor_28 : decode cX6_parentFor 28 = .ok (.iload_n 3, 1) := by decide +kernel
theorem dX6_parentFor_29 : decode cX6_parentFor 29 = .ok (.iload 4, 2) := by decide +kernel
theorem dX6_parentFor_31 : decode cX6_parentFor 31 = .ok (.invokevirtual 157, 3) := by decide +kernel
theorem dX6_parentFor_34 : decode cX6_parentFor 34 = .ok (.iload_n 2, 1) := by decide +kernel
theorem dX6_parentFor_35 : decode cX6_parentFor 35 = .ok (.invokevirtual 215, 3) := by decide +kernel
theorem dX6_parentFor_38 : decode cX6_parentFor 38 = .ok (.ifCond .eq 11, 3) := by decide +kernel
theorem dX6_parentFor_41 : decode cX6_parentFor 41 = .ok (.aload_n 0, 1) := by decide +kernel
theorem dX6_parentFor_42 : decode cX6_parentFor 42 = .ok (.iload_n 3, 1) := by decide +kernel
theorem dX6_parentFor_43 : decode cX6_parentFor 43 = .ok (.iload 4, 2) := by decide +kernel
theorem dX6_parentFor_45 : decode cX6_parentFor 45 = .ok (.invokevirtual 157, 3) := by decide +kernel
theorem dX6_parentFor_48 : decode cX6_parentFor 48 = .ok (.ireturn, 1) := by decide +kernel
theorem dX6_parentFor_49 : decode cX6_parentFor 49 = .ok (.iinc 4 1, 3) := by decide +kernel
theorem dX6_parentFor_52 : decode cX6_parentFor 52 = .ok (.goto (-42), 3) := by decide +kernel
theorem dX6_parentFor_55 : decode cX6_parentFor 55 = .ok (.iload_n 2, 1) := by decide +kernel
theorem dX6_parentFor_56 : decode cX6_parentFor 56 = .ok (.ifCond .gt 12, 3) := by decide +kernel
theorem dX6_parentFor_59 : decode cX6_parentFor 59 = .ok (.aload_n 0, 1) := by decide +kernel
theorem dX6_parentFor_60 : decode cX6_parentFor 60 = .ok (.getfield 59, 3) := by decide +kernel
theorem dX6_parentFor_63 : decode cX6_parentFor 63 = .ok (.iload_n 1, 1) := by decide +kernel
theorem dX6_parentFor_64 : decode cX6_parentFor 64 = .ok (.iaload, 1) := by decide +kernel
theorem dX6_parentFor_65 : decode cX6_parentFor 65 = .ok (.ifCond .eq 7, 3) := by decide +kernel
theorem dX6_parentFor_68 : decode cX6_parentFor 68 = .ok (.iconst (-1), 1) := by decide +kernel
theorem dX6_parentFor_69 : decode cX6_parentFor 69 = .ok (.goto 24, 3) := by decide +kernel
theorem dX6_parentFor_72 : decode cX6_parentFor 72 = .ok (.aload_n 0, 1) := by decide +kernel
theorem dX6_parentFor_73 : decode cX6_parentFor 73 = .ok (.aload_n 0, 1) := by decide +kernel
theorem dX6_parentFor_74 : decode cX6_parentFor 74 = .ok (.getfield 62, 3) := by decide +kernel
theorem dX6_parentFor_77 : decode cX6_parentFor 77 = .ok (.iload_n 1, 1) := by decide +kernel
theorem dX6_parentFor_78 : decode cX6_parentFor 78 = .ok (.iaload, 1) := by decide +kernel
theorem dX6_parentFor_79 : decode cX6_parentFor 79 = .ok (.aload_n 0, 1) := by decide +kernel
theorem dX6_parentFor_80 : decode cX6_parentFor 80 = .ok (.getfield 13, 3) := by decide +kernel
theorem dX6_parentFor_83 : decode cX6_parentFor 83 = .ok (.aload_n 0, 1) := by decide +kernel
theorem dX6_parentFor_84 : decode cX6_parentFor 84 = .ok (.getfield 77, 3) := by decide +kernel
theorem dX6_parentFor_87 : decode cX6_parentFor 87 = .ok (.iload_n 2, 1) := by decide +kernel
theorem dX6_parentFor_88 : decode cX6_parentFor 88 = .ok (.iaload, 1) := by decide +kernel
theorem dX6_parentFor_89 : decode cX6_parentFor 89 = .ok (.iaload, 1) := by decide +kernel
theorem dX6_parentFor_90 : decode cX6_parentFor 90 = .ok (.invokevirtual 200, 3) := by decide +kernel
theorem dX6_parentFor_93 : decode cX6_parentFor 93 = .ok (.ireturn, 1) := by decide +kernel
theorem dX6_isDouble_0 : decode cX6_isDouble 0 = .ok (.iconst 0, 1) := by decide +kernel
theorem dX6_isDouble_1 : decode cX6_isDouble 1 = .ok (.istore 4, 2) := by decide +kernel
theorem dX6_isDouble_3 : decode cX6_isDouble 3 = .ok (.iconst 0, 1) := by decide +kernel
theorem dX6_isDouble_4 : decode cX6_isDouble 4 = .ok (.istore 5, 2) := by decide +kernel
theorem dX6_isDouble_6 : decode cX6_isDouble 6 = .ok (.iload 5, 2) := by decide +kernel
theorem dX6_isDouble_8 : decode cX6_isDouble 8 = .ok (.bipush 60, 2) := by decide +kernel
theorem dX6_isDouble_10 : decode cX6_isDouble 10 = .ok (.if_icmp .ge 53, 3) := by decide +kernel
theorem dX6_isDouble_13 : decode cX6_isDouble 13 = .ok (.iload 4, 2) := by decide +kernel
theorem dX6_isDouble_15 : decode cX6_isDouble 15 = .ok (.ifCond .ne 35, 3) := by decide +kernel
theorem dX6_isDouble_18 : decode cX6_isDouble 18 = .ok (.aload_n 0, 1) := by decide +kernel
theorem dX6_isDouble_19 : decode cX6_isDouble 19 = .ok (.getfield 34, 3) := by decide +kernel
theorem dX6_isDouble_22 : decode cX6_isDouble 22 = .ok (.iload 5, 2) := by decide +kernel
theorem dX6_isDouble_24 : decode cX6_isDouble 24 = .ok (.iaload, 1) := by decide +kernel
theorem dX6_isDouble_25 : decode cX6_isDouble 25 = .ok (.iload_n 1, 1) := by decide +kernel
theorem dX6_isDouble_26 : decode cX6_isDouble 26 = .ok (.if_icmp .ne 28, 3) := by decide +kernel
theorem dX6_isDouble_29 : decode cX6_isDouble 29 = .ok (.aload_n 0, 1) := by decide +kernel
theorem dX6_isDouble_30 : decode cX6_isDouble 30 = .ok (.getfield 37, 3) := by decide +kernel
theorem dX6_isDouble_33 : decode cX6_isDouble 33 = .ok (.iload 5, 2) := by decide +kernel
theorem dX6_isDouble_35 : decode cX6_isDouble 35 = .ok (.iaload, 1) := by decide +kernel
theorem dX6_isDouble_36 : decode cX6_isDouble 36 = .ok (.iload_n 2, 1) := by decide +kernel
theorem dX6_isDouble_37 : decode cX6_isDouble 37 = .ok (.if_icmp .ne 17, 3) := by decide +kernel
theorem dX6_isDouble_40 : decode cX6_isDouble 40 = .ok (.aload_n 0, 1) := by decide +kernel
theorem dX6_isDouble_41 : decode cX6_isDouble 41 = .ok (.iload 5, 2) := by decide +kernel
theorem dX6_isDouble_43 : decode cX6_isDouble 43 = .ok (.invokevirtual 161, 3) := by decide +kernel
theorem dX6_isDouble_46 : decode cX6_isDouble 46 = .ok (.iload_n 3, 1) := by decide +kernel
theorem dX6_isDouble_47 : decode cX6_isDouble 47 = .ok (.if_icmp .ne 7, 3) := by decide +kernel
theorem dX6_isDouble_50 : decode cX6_isDouble 50 = .ok (.iconst 1, 1) := by decide +kernel
theorem dX6_isDouble_51 : decode cX6_isDouble 51 = .ok (.goto 4, 3) := by decide +kernel
theorem dX6_isDouble_54 : decode cX6_isDouble 54 = .ok (.iconst 0, 1) := by decide +kernel
theorem dX6_isDouble_55 : decode cX6_isDouble 55 = .ok (.istore 4, 2) := by decide +kernel
theorem dX6_isDouble_57 : decode cX6_isDouble 57 = .ok (.iinc 5 1, 3) := by decide +kernel
theorem dX6_isDouble_60 : decode cX6_isDouble 60 = .ok (.goto (-54), 3) := by decide +kernel
theorem dX6_isDouble_63 : decode cX6_isDouble 63 = .ok (.iload 4, 2) := by decide +kernel
theorem dX6_isDouble_65 : decode cX6_isDouble 65 = .ok (.ifCond .eq 16, 3) := by decide +kernel
theorem dX6_isDouble_68 : decode cX6_isDouble 68 = .ok (.aload_n 0, 1) := by decide +kernel
theorem dX6_isDouble_69 : decode cX6_isDouble 69 = .ok (.getfield 16, 3) := by decide +kernel
theorem dX6_isDouble_72 : decode cX6_isDouble 72 = .ok (.iload_n 1, 1) := by decide +kernel
theorem dX6_isDouble_73 : decode cX6_isDouble 73 = .ok (.iaload, 1) := by decide +kernel
theorem dX6_isDouble_74 : decode cX6_isDouble 74 = .ok (.ifCond .ne 7, 3) := by decide +kernel
theorem dX6_isDouble_77 : decode cX6_isDouble 77 = .ok (.iconst 1, 1) := by decide +kernel
theorem dX6_isDouble_78 : decode cX6_isDouble 78 = .ok (.goto 4, 3) := by decide +kernel
theorem dX6_isDouble_81 : decode cX6_isDouble 81 = .ok (.iconst 0, 1) := by decide +kernel
theorem dX6_isDouble_82 : decode cX6_isDouble 82 = .ok (.ireturn, 1) := by decide +kernel
theorem dX6_needs_0 : decode cX6_needs 0 = .ok (.aload_n 0, 1) := by decide +kernel
theorem dX6_needs_1 : decode cX6_needs 1 = .ok (.getfield 25, 3) := by decide +kernel
theorem dX6_needs_4 : decode cX6_needs 4 = .ok (.iload_n 1, 1) := by decide +kernel
theorem dX6_needs_5 : decode cX6_needs 5 = .ok (.iaload, 1) := by decide +kernel
theorem dX6_needs_6 : decode cX6_needs 6 = .ok (.istore_n 3, 1) := by decide +kernel
theorem dX6_needs_7 : decode cX6_needs 7 = .ok (.iload_n 3, 1) := by decide +kernel
theorem dX6_needs_8 : decode cX6_needs 8 = .ok (.iconst (-1), 1) := by decide +kernel
theorem dX6_needs_9 : decode cX6_needs 9 = .ok (.if_icmp .eq 13, 3) := by decide +kernel
theorem dX6_needs_12 : decode cX6_needs 12 = .ok (.aload_n 0, 1) := by decide +kernel
theorem dX6_needs_13 : decode cX6_needs 13 = .ok (.iload_n 3, 1) := by decide +kernel
theorem dX6_needs_14 : decode cX6_needs 14 = .ok (.iload_n 2, 1) := by decide +kernel
theorem dX6_needs_15 : decode cX6_needs 15 = .ok (.invokevirtual 181, 3) := by decide +kernel
theorem dX6_needs_18 : decode cX6_needs 18 = .ok (.iconst (-1), 1) := by decide +kernel
theorem dX6_needs_19 : decode cX6_needs 19 = .ok (.if_icmp .eq 5, 3) := by decide +kernel
theorem dX6_needs_22 : decode cX6_needs 22 = .ok (.iconst 1, 1) := by decide +kernel
theorem dX6_needs_23 : decode cX6_needs 23 = .ok (.ireturn, 1) := by decide +kernel
theorem dX6_needs_24 : decode cX6_needs 24 = .ok (.aload_n 0, 1) := by decide +kernel
theorem dX6_needs_25 : decode cX6_needs 25 = .ok (.getfield 28, 3) := by decide +kernel
theorem dX6_needs_28 : decode cX6_needs 28 = .ok (.iload_n 1, 1) := by decide +kernel
theorem dX6_needs_29 : decode cX6_needs 29 = .ok (.iaload, 1) := by decide +kernel
theorem dX6_needs_30 : decode cX6_needs 30 = .ok (.ifCond .ne 5, 3) := by decide +kernel
theorem dX6_needs_33 : decode cX6_needs 33 = .ok (.iconst 0, 1) := by decide +kernel
theorem dX6_needs_34 : decode cX6_needs 34 = .ok (.ireturn, 1) := by decide +kernel
theorem dX6_needs_35 : decode cX6_needs 35 = .ok (.iconst 0, 1) := by decide +kernel
theorem dX6_needs_36 : decode cX6_needs 36 = .ok (.istore 4, 2) := by decide +kernel
theorem dX6_needs_38 : decode cX6_needs 38 = .ok (.iload 4, 2) := by decide +kernel
theorem dX6_needs_40 : decode cX6_needs 40 = .ok (.aload_n 0, 1) := by decide +kernel
theorem dX6_needs_41 : decode cX6_needs 41 = .ok (.getfield 240, 3) := by decide +kernel
theorem dX6_needs_44 : decode cX6_needs 44 = .ok (.if_icmp .ge 33, 3) := by decide +kernel
theorem dX6_needs_47 : decode cX6_needs 47 = .ok (.aload_n 0, 1) := by decide +kernel
theorem dX6_needs_48 : decode cX6_needs 48 = .ok (.getfield 101, 3) := by decide +kernel
theorem dX6_needs_51 : decode cX6_needs 51 = .ok (.iload 4, 2) := by decide +kernel
theorem dX6_needs_53 : decode cX6_needs 53 = .ok (.iaload, 1) := by decide +kernel
theorem dX6_needs_54 : decode cX6_needs 54 = .ok (.iload_n 3, 1) := by decide +kernel
theorem dX6_needs_55 : decode cX6_needs 55 = .ok (.if_icmp .ne 16, 3) := by decide +kernel
theorem dX6_needs_58 : decode cX6_needs 58 = .ok (.aload_n 0, 1) := by decide +kernel
theorem dX6_needs_59 : decode cX6_needs 59 = .ok (.getfield 104, 3) := by decide +kernel
theorem dX6_needs_62 : decode cX6_needs 62 = .ok (.iload 4, 2) := by decide +kernel
theorem dX6_needs_64 : decode cX6_needs 64 = .ok (.iaload, 1) := by decide +kernel
theorem dX6_needs_65 : decode cX6_needs 65 = .ok (.iload_n 2, 1) := by decide +kernel
theorem dX6_needs_66 : decode cX6_needs 66 = .ok (.if_icmp .ne 5, 3) := by decide +kernel
theorem dX6_needs_69 : decode cX6_needs 69 = .ok (.iconst 1, 1) := by decide +kernel
theorem dX6_needs_70 : decode cX6_needs 70 = .ok (.ireturn, 1) := by decide +kernel
theorem dX6_needs_71 : decode cX6_needs 71 = .ok (.iinc 4 1, 3) := by decide +kernel
theorem dX6_needs_74 : decode cX6_needs 74 = .ok (.goto (-36), 3) := by decide +kernel
theorem dX6_needs_77 : decode cX6_needs 77 = .ok (.aload_n 0, 1) := by decide +kernel
theorem dX6_needs_78 : decode cX6_needs 78 = .ok (.getfield 101, 3) := by decide +kernel
theorem dX6_needs_81 : decode cX6_needs 81 = .ok (.aload_n 0, 1) := by decide +kernel
theorem dX6_needs_82 : decode cX6_needs 82 = .ok (.getfield 240, 3) := by decide +kernel
theorem dX6_needs_85 : decode cX6_needs 85 = .ok (.iload_n 3, 1) := by decide +kernel
theorem dX6_needs_86 : decode cX6_needs 86 = .ok (.iastore, 1) := by decide +kernel
theorem dX6_needs_87 : decode cX6_needs 87 = .ok (.aload_n 0, 1) := by decide +kernel
theorem dX6_needs_88 : decode cX6_needs 88 = .ok (.getfield 104, 3) := by decide +kernel
theorem dX6_needs_91 : decode cX6_needs 91 = .ok (.aload_n 0, 1) := by decide +kernel
theorem dX6_needs_92 : decode cX6_needs 92 = .ok (.getfield 240, 3) := by decide +kernel
theorem dX6_needs_95 : decode cX6_needs 95 = .ok (.iload_n 2, 1) := by decide +kernel
theorem dX6_needs_96 : decode cX6_needs 96 = .ok (.iastore, 1) := by decide +kernel
theorem dX6_needs_97 : decode cX6_needs 97 = .ok (.aload_n 0, 1) := by decide +kernel
theorem dX6_needs_98 : decode cX6_needs 98 = .ok (.dup, 1) := by decide +kernel
theorem dX6_needs_99 : decode cX6_needs 99 = .ok (.getfield 240, 3) := by decide +kernel
theorem dX6_needs_102 : decode cX6_needs 102 = .ok (.iconst 1, 1) := by decide +kernel
theorem dX6_needs_103 : decode cX6_needs 103 = .ok (.iadd, 1) := by decide +kernel
theorem dX6_needs_104 : decode cX6_needs 104 = .ok (.putfield 240, 3) := by decide +kernel
theorem dX6_needs_107 : decode cX6_needs 107 = .ok (.iconst 1, 1) := by decide +kernel
theorem dX6_needs_108 : decode cX6_needs 108 = .ok (.ireturn, 1) := by decide +kernel
theorem dX6_makes_0 : decode cX6_makes 0 = .ok (.iconst 0, 1) := by decide +kernel
theorem dX6_makes_1 : decode cX6_makes 1 = .ok (.istore_n 1, 1) := by decide +kernel
theorem dX6_makes_2 : decode cX6_makes 2 = .ok (.iload_n 1, 1) := by decide +kernel
theorem dX6_makes_3 : decode cX6_makes 3 = .ok (.aload_n 0, 1) := by decide +kernel
theorem dX6_makes_4 : decode cX6_makes 4 = .ok (.getfield 240, 3) := by decide +kernel
theorem dX6_makes_7 : decode cX6_makes 7 = .ok (.if_icmp .ge 28, 3) := by decide +kernel
theorem dX6_makes_10 : decode cX6_makes 10 = .ok (.aload_n 0, 1) := by decide +kernel
theorem dX6_makes_11 : decode cX6_makes 11 = .ok (.aload_n 0, 1) := by decide +kernel
theorem dX6_makes_12 : decode cX6_makes 12 = .ok (.getfield 101, 3) := by decide +kernel
theorem dX6_makes_15 : decode cX6_makes 15 = .ok (.iload_n 1, 1) := by decide +kernel
theorem dX6_makes_16 : decode cX6_makes 16 = .ok (.iaload, 1) := by decide +kernel
theorem dX6_makes_17 : decode cX6_makes 17 = .ok (.iconst (-1), 1) := by decide +kernel
theorem dX6_makes_18 : decode cX6_makes 18 = .ok (.aload_n 0, 1) := by decide +kernel
theorem dX6_makes_19 : decode cX6_makes 19 = .ok (.getfield 104, 3) := by decide +kernel
theorem dX6_makes_22 : decode cX6_makes 22 = .ok (.iload_n 1, 1) := by decide +kernel
theorem dX6_makes_23 : decode cX6_makes 23 = .ok (.iaload, 1) := by decide +kernel
theorem dX6_makes_24 : decode cX6_makes 24 = .ok (.iconst (-1), 1) := by decide +kernel
theorem dX6_makes_25 : decode cX6_makes 25 = .ok (.invokevirtual 243, 3) := by decide +kernel
theorem dX6_makes_28 : decode cX6_makes 28 = .ok (.istore_n 2, 1) := by decide +kernel
theorem dX6_makes_29 : decode cX6_makes 29 = .ok (.iinc 1 1, 3) := by decide +kernel
theorem dX6_makes_32 : decode cX6_makes 32 = .ok (.goto (-30), 3) := by decide +kernel
theorem dX6_makes_35 : decode cX6_makes 35 = .ok (.return_, 1) := by decide +kernel
theorem dX6_needsAll_0 : decode cX6_needsAll 0 = .ok (.aload_n 0, 1) := by decide +kernel
theorem dX6_needsAll_1 : decode cX6_needsAll 1 = .ok (.iconst 0, 1) := by decide +kernel
theorem dX6_needsAll_2 : decode cX6_needsAll 2 = .ok (.putfield 240, 3) := by decide +kernel
theorem dX6_needsAll_5 : decode cX6_needsAll 5 = .ok (.iconst 1, 1) := by decide +kernel
theorem dX6_needsAll_6 : decode cX6_needsAll 6 = .ok (.istore_n 2, 1) := by decide +kernel
theorem dX6_needsAll_7 : decode cX6_needsAll 7 = .ok (.iload_n 1, 1) := by decide +kernel
theorem dX6_needsAll_8 : decode cX6_needsAll 8 = .ok (.istore_n 3, 1) := by decide +kernel
theorem dX6_needsAll_9 : decode cX6_needsAll 9 = .ok (.iload_n 3, 1) := by decide +kernel
theorem dX6_needsAll_10 : decode cX6_needsAll 10 = .ok (.aload_n 0, 1) := by decide +kernel
theorem dX6_needsAll_11 : decode cX6_needsAll 11 = .ok (.getfield 139, 3) := by decide +kernel
theorem dX6_needsAll_14 : decode cX6_needsAll 14 = .ok (.if_icmp .ge 107, 3) := by decide +kernel
theorem dX6_needsAll_17 : decode cX6_needsAll 17 = .ok (.aload_n 0, 1) := by decide +kernel
theorem dX6_needsAll_18 : decode cX6_needsAll 18 = .ok (.getfield 25, 3) := by decide +kernel
theorem dX6_needsAll_21 : decode cX6_needsAll 21 = .ok (.aload_n 0, 1) := by decide +kernel
theorem dX6_needsAll_22 : decode cX6_needsAll 22 = .ok (.getfield 77, 3) := by decide +kernel
theorem dX6_needsAll_25 : decode cX6_needsAll 25 = .ok (.iload_n 3, 1) := by decide +kernel
theorem dX6_needsAll_26 : decode cX6_needsAll 26 = .ok (.iaload, 1) := by decide +kernel
theorem dX6_needsAll_27 : decode cX6_needsAll 27 = .ok (.iaload, 1) := by decide +kernel
theorem dX6_needsAll_28 : decode cX6_needsAll 28 = .ok (.istore 4, 2) := by decide +kernel
theorem dX6_needsAll_30 : decode cX6_needsAll 30 = .ok (.iload 4, 2) := by decide +kernel
theorem dX6_needsAll_32 : decode cX6_needsAll 32 = .ok (.iconst (-1), 1) := by decide +kernel
theorem dX6_needsAll_33 : decode cX6_needsAll 33 = .ok (.if_icmp .eq 39, 3) := by decide +kernel
theorem dX6_needsAll_36 : decode cX6_needsAll 36 = .ok (.iload 4, 2) := by decide +kernel
theorem dX6_needsAll_38 : decode cX6_needsAll 38 = .ok (.aload_n 0, 1) := by decide +kernel
theorem dX6_needsAll_39 : decode cX6_needsAll 39 = .ok (.getfield 77, 3) := by decide +kernel
theorem dX6_needsAll_42 : decode cX6_needsAll 42 = .ok (.iload_n 1, 1) := by decide +kernel
theorem dX6_needsAll_43 : decode cX6_needsAll 43 = .ok (.iaload, 1) := by decide +kernel
theorem dX6_needsAll_44 : decode cX6_needsAll 44 = .ok (.if_icmp .ne 28, 3) := by decide +kernel
theorem dX6_needsAll_47 : decode cX6_needsAll 47 = .ok (.aload_n 0, 1) := by decide +kernel
theorem dX6_needsAll_48 : decode cX6_needsAll 48 = .ok (.getfield 98, 3) := by decide +kernel
theorem dX6_needsAll_51 : decode cX6_needsAll 51 = .ok (.iconst 0, 1) := by decide +kernel
theorem dX6_needsAll_52 : decode cX6_needsAll 52 = .ok (.iaload, 1) := by decide +kernel
theorem dX6_needsAll_53 : decode cX6_needsAll 53 = .ok (.aload_n 0, 1) := by decide +kernel
theorem dX6_needsAll_54 : decode cX6_needsAll 54 = .ok (.getfield 98, 3) := by decide +kernel
theorem dX6_needsAll_57 : decode cX6_needsAll 57 = .ok (.iconst 3, 1) := by decide +kernel
theorem dX6_needsAll_58 : decode cX6_needsAll 58 = .ok (.iload_n 3, 1) := by decide +kernel
theorem dX6_needsAll_59 : decode cX6_needsAll 59 = .ok (.iload_n 1, 1) := by decide +kernel
theorem dX6_needsAll_60 : decode cX6_needsAll 60 = .ok (.isub, 1) := by decide +kernel
theorem dX6_needsAll_61 : decode cX6_needsAll 61 = .ok (.imul, 1) := by decide +kernel
theorem dX6_needsAll_62 : decode cX6_needsAll 62 = .ok (.iconst 2, 1) := by decide +kernel
theorem dX6_needsAll_63 : decode cX6_needsAll 63 = .ok (.iadd, 1) := by decide +kernel
theorem dX6_needsAll_64 : decode cX6_needsAll 64 = .ok (.iaload, 1) := by decide +kernel
theorem dX6_needsAll_65 : decode cX6_needsAll 65 = .ok (.if_icmp .ne 7, 3) := by decide +kernel
theorem dX6_needsAll_68 : decode cX6_needsAll 68 = .ok (.iconst 1, 1) := by decide +kernel
theorem dX6_needsAll_69 : decode cX6_needsAll 69 = .ok (.goto 4, 3) := by decide +kernel
theorem dX6_needsAll_72 : decode cX6_needsAll 72 = .ok (.iconst 0, 1) := by decide +kernel
theorem dX6_needsAll_73 : decode cX6_needsAll 73 = .ok (.istore 5, 2) := by decide +kernel
theorem dX6_needsAll_75 : decode cX6_needsAll 75 = .ok (.iload 5, 2) := by decide +kernel
theorem dX6_needsAll_77 : decode cX6_needsAll 77 = .ok (.ifCond .ne 28, 3) := by decide +kernel
theorem dX6_needsAll_80 : decode cX6_needsAll 80 = .ok (.aload_n 0, 1) := by decide +kernel
theorem dX6_needsAll_81 : decode cX6_needsAll 81 = .ok (.aload_n 0, 1) := by decide +kernel
theorem dX6_needsAll_82 : decode cX6_needsAll 82 = .ok (.getfield 77, 3) := by decide +kernel
theorem dX6_needsAll_85 : decode cX6_needsAll 85 = .ok (.iload_n 3, 1) := by decide +kernel
theorem dX6_needsAll_86 : decode cX6_needsAll 86 = .ok (.iaload, 1) := by decide +kernel
theorem dX6_needsAll_87 : decode cX6_needsAll 87 = .ok (.aload_n 0, 1) := by decide +kernel
theorem dX6_needsAll_88 : decode cX6_needsAll 88 = .ok (.getfield 98, 3) := by decide +kernel
theorem dX6_needsAll_91 : decode cX6_needsAll 91 = .ok (.iconst 3, 1) := by decide +kernel
theorem dX6_needsAll_92 : decode cX6_needsAll 92 = .ok (.iload_n 3, 1) := by decide +kernel
theorem dX6_needsAll_93 : decode cX6_needsAll 93 = .ok (.iload_n 1, 1) := by decide +kernel
theorem dX6_needsAll_94 : decode cX6_needsAll 94 = .ok (.isub, 1) := by decide +kernel
theorem dX6_needsAll_95 : decode cX6_needsAll 95 = .ok (.imul, 1) := by decide +kernel
theorem dX6_needsAll_96 : decode cX6_needsAll 96 = .ok (.iconst 2, 1) := by decide +kernel
theorem dX6_needsAll_97 : decode cX6_needsAll 97 = .ok (.iadd, 1) := by decide +kernel
theorem dX6_needsAll_98 : decode cX6_needsAll 98 = .ok (.iaload, 1) := by decide +kernel
theorem dX6_needsAll_99 : decode cX6_needsAll 99 = .ok (.invokevirtual 247, 3) := by decide +kernel
theorem dX6_needsAll_102 : decode cX6_needsAll 102 = .ok (.ifCond .eq 11, 3) := by decide +kernel
theorem dX6_needsAll_105 : decode cX6_needsAll 105 = .ok (.iload_n 2, 1) := by decide +kernel
theorem dX6_needsAll_106 : decode cX6_needsAll 106 = .ok (.ifCond .eq 7, 3) := by decide +kernel
theorem dX6_needsAll_109 : decode cX6_needsAll 109 = .ok (.iconst 1, 1) := by decide +kernel
theorem dX6_needsAll_110 : decode cX6_needsAll 110 = .ok (.goto 4, 3) := by decide +kernel
theorem dX6_needsAll_113 : decode cX6_needsAll 113 = .ok (.iconst 0, 1) := by decide +kernel
theorem dX6_needsAll_114 : decode cX6_needsAll 114 = .ok (.istore_n 2, 1) := by decide +kernel
theorem dX6_needsAll_115 : decode cX6_needsAll 115 = .ok (.iinc 3 1, 3) := by decide +kernel
theorem dX6_needsAll_118 : decode cX6_needsAll 118 = .ok (.goto (-109), 3) := by decide +kernel
theorem dX6_needsAll_121 : decode cX6_needsAll 121 = .ok (.iload_n 2, 1) := by decide +kernel
theorem dX6_needsAll_122 : decode cX6_needsAll 122 = .ok (.ireturn, 1) := by decide +kernel
theorem dX6_insertsAll_0 : decode cX6_insertsAll 0 = .ok (.aload_n 0, 1) := by decide +kernel
theorem dX6_insertsAll_1 : decode cX6_insertsAll 1 = .ok (.iload_n 1, 1) := by decide +kernel
theorem dX6_insertsAll_2 : decode cX6_insertsAll 2 = .ok (.invokevirtual 222, 3) := by decide +kernel
theorem dX6_insertsAll_5 : decode cX6_insertsAll 5 = .ok (.ifCond .eq 10, 3) := by decide +kernel
theorem dX6_insertsAll_8 : decode cX6_insertsAll 8 = .ok (.aload_n 0, 1) := by decide +kernel
theorem dX6_insertsAll_9 : decode cX6_insertsAll 9 = .ok (.getfield 139, 3) := by decide +kernel
theorem dX6_insertsAll_12 : decode cX6_insertsAll 12 = .ok (.ifCond .ne 5, 3) := by decide +kernel
theorem dX6_insertsAll_15 : decode cX6_insertsAll 15 = .ok (.iconst 4, 1) := by decide +kernel
theorem dX6_insertsAll_16 : decode cX6_insertsAll 16 = .ok (.ireturn, 1) := by decide +kernel
theorem dX6_insertsAll_17 : decode cX6_insertsAll 17 = .ok (.aload_n 0, 1) := by decide +kernel
theorem dX6_insertsAll_18 : decode cX6_insertsAll 18 = .ok (.invokevirtual 250, 3) := by decide +kernel
theorem dX6_insertsAll_21 : decode cX6_insertsAll 21 = .ok (.istore_n 2, 1) := by decide +kernel
theorem dX6_insertsAll_22 : decode cX6_insertsAll 22 = .ok (.aload_n 0, 1) := by decide +kernel
theorem dX6_insertsAll_23 : decode cX6_insertsAll 23 = .ok (.iload_n 2, 1) := by decide +kernel
theorem dX6_insertsAll_24 : decode cX6_insertsAll 24 = .ok (.invokevirtual 253, 3) := by decide +kernel
theorem dX6_insertsAll_27 : decode cX6_insertsAll 27 = .ok (.ifCond .ne 5, 3) := by decide +kernel
theorem dX6_insertsAll_30 : decode cX6_insertsAll 30 = .ok (.iconst 4, 1) := by decide +kernel
theorem dX6_insertsAll_31 : decode cX6_insertsAll 31 = .ok (.ireturn, 1) := by decide +kernel
theorem dX6_insertsAll_32 : decode cX6_insertsAll 32 = .ok (.aload_n 0, 1) := by decide +kernel
theorem dX6_insertsAll_33 : decode cX6_insertsAll 33 = .ok (.getfield 13, 3) := by decide +kernel
theorem dX6_insertsAll_36 : decode cX6_insertsAll 36 = .ok (.aload_n 0, 1) := by decide +kernel
theorem dX6_insertsAll_37 : decode cX6_insertsAll 37 = .ok (.getfield 77, 3) := by decide +kernel
theorem dX6_insertsAll_40 : decode cX6_insertsAll 40 = .ok (.iload_n 2, 1) := by decide +kernel
theorem dX6_insertsAll_41 : decode cX6_insertsAll 41 = .ok (.iaload, 1) := by decide +kernel
theorem dX6_insertsAll_42 : decode cX6_insertsAll 42 = .ok (.iaload, 1) := by decide +kernel
theorem dX6_insertsAll_43 : decode cX6_insertsAll 43 = .ok (.iconst (-1), 1) := by decide +kernel
theorem dX6_insertsAll_44 : decode cX6_insertsAll 44 = .ok (.if_icmp .ne 7, 3) := by decide +kernel
theorem dX6_insertsAll_47 : decode cX6_insertsAll 47 = .ok (.iconst 1, 1) := by decide +kernel
theorem dX6_insertsAll_48 : decode cX6_insertsAll 48 = .ok (.goto 4, 3) := by decide +kernel
theorem dX6_insertsAll_51 : decode cX6_insertsAll 51 = .ok (.iconst 0, 1) := by decide +kernel
theorem dX6_insertsAll_52 : decode cX6_insertsAll 52 = .ok (.istore_n 3, 1) := by decide +kernel
theorem dX6_insertsAll_53 : decode cX6_insertsAll 53 = .ok (.iload_n 3, 1) := by decide +kernel
theorem dX6_insertsAll_54 : decode cX6_insertsAll 54 = .ok (.ifCond .eq 7, 3) := by decide +kernel
theorem dX6_insertsAll_57 : decode cX6_insertsAll 57 = .ok (.iconst (-1), 1) := by decide +kernel
theorem dX6_insertsAll_58 : decode cX6_insertsAll 58 = .ok (.goto 9, 3) := by decide +kernel
theorem dX6_insertsAll_61 : decode cX6_insertsAll 61 = .ok (.aload_n 0, 1) := by decide +kernel
theorem dX6_insertsAll_62 : decode cX6_insertsAll 62 = .ok (.iload_n 1, 1) := by decide +kernel
theorem dX6_insertsAll_63 : decode cX6_insertsAll 63 = .ok (.iload_n 2, 1) := by decide +kernel
theorem dX6_insertsAll_64 : decode cX6_insertsAll 64 = .ok (.invokevirtual 256, 3) := by decide +kernel
theorem dX6_insertsAll_67 : decode cX6_insertsAll 67 = .ok (.istore 4, 2) := by decide +kernel
theorem dX6_insertsAll_69 : decode cX6_insertsAll 69 = .ok (.iload_n 3, 1) := by decide +kernel
theorem dX6_insertsAll_70 : decode cX6_insertsAll 70 = .ok (.ifCond .ne 12, 3) := by decide +kernel
theorem dX6_insertsAll_73 : decode cX6_insertsAll 73 = .ok (.iload 4, 2) := by decide +kernel
theorem dX6_insertsAll_75 : decode cX6_insertsAll 75 = .ok (.iconst (-1), 1) := by decide +kernel
theorem dX6_insertsAll_76 : decode cX6_insertsAll 76 = .ok (.if_icmp .ne 6, 3) := by decide +kernel
theorem dX6_insertsAll_79 : decode cX6_insertsAll 79 = .ok (.bipush 7, 2) := by decide +kernel
theorem dX6_insertsAll_81 : decode cX6_insertsAll 81 = .ok (.ireturn, 1) := by decide +kernel
theorem dX6_insertsAll_82 : decode cX6_insertsAll 82 = .ok (.aload_n 0, 1) := by decide +kernel
theorem dX6_insertsAll_83 : decode cX6_insertsAll 83 = .ok (.aload_n 0, 1) := by decide +kernel
theorem dX6_insertsAll_84 : decode cX6_insertsAll 84 = .ok (.getfield 77, 3) := by decide +kernel
theorem dX6_insertsAll_87 : decode cX6_insertsAll 87 = .ok (.iload_n 2, 1) := by decide +kernel
theorem dX6_insertsAll_88 : decode cX6_insertsAll 88 = .ok (.iaload, 1) := by decide +kernel
theorem dX6_insertsAll_89 : decode cX6_insertsAll 89 = .ok (.iload 4, 2) := by decide +kernel
theorem dX6_insertsAll_91 : decode cX6_insertsAll 91 = .ok (.aload_n 0, 1) := by decide +kernel
theorem dX6_insertsAll_92 : decode cX6_insertsAll 92 = .ok (.getfield 98, 3) := by decide +kernel
theorem dX6_insertsAll_95 : decode cX6_insertsAll 95 = .ok (.iconst 0, 1) := by decide +kernel
theorem dX6_insertsAll_96 : decode cX6_insertsAll 96 = .ok (.iaload, 1) := by decide +kernel
theorem dX6_insertsAll_97 : decode cX6_insertsAll 97 = .ok (.invokevirtual 259, 3) := by decide +kernel
theorem dX6_insertsAll_100 : decode cX6_insertsAll 100 = .ok (.ifCond .eq 6, 3) := by decide +kernel
theorem dX6_insertsAll_103 : decode cX6_insertsAll 103 = .ok (.bipush 9, 2) := by decide +kernel
theorem dX6_insertsAll_105 : decode cX6_insertsAll 105 = .ok (.ireturn, 1) := by decide +kernel
theorem dX6_insertsAll_106 : decode cX6_insertsAll 106 = .ok (.aload_n 0, 1) := by decide +kernel
theorem dX6_insertsAll_107 : decode cX6_insertsAll 107 = .ok (.iload_n 2, 1) := by decide +kernel
theorem dX6_insertsAll_108 : decode cX6_insertsAll 108 = .ok (.invokevirtual 262, 3) := by decide +kernel
theorem dX6_insertsAll_111 : decode cX6_insertsAll 111 = .ok (.ifCond .ne 6, 3) := by decide +kernel
theorem dX6_insertsAll_114 : decode cX6_insertsAll 114 = .ok (.bipush 10, 2) := by decide +kernel
theorem dX6_insertsAll_116 : decode cX6_insertsAll 116 = .ok (.ireturn, 1) := by decide +kernel
theorem dX6_insertsAll_117 : decode cX6_insertsAll 117 = .ok (.aload_n 0, 1) := by decide +kernel
theorem dX6_insertsAll_118 : decode cX6_insertsAll 118 = .ok (.invokevirtual 265, 3) := by decide +kernel
theorem dX6_insertsAll_121 : decode cX6_insertsAll 121 = .ok (.aload_n 0, 1) := by decide +kernel
theorem dX6_insertsAll_122 : decode cX6_insertsAll 122 = .ok (.getfield 240, 3) := by decide +kernel
theorem dX6_insertsAll_125 : decode cX6_insertsAll 125 = .ok (.iadd, 1) := by decide +kernel
theorem dX6_insertsAll_126 : decode cX6_insertsAll 126 = .ok (.aload_n 0, 1) := by decide +kernel
theorem dX6_insertsAll_127 : decode cX6_insertsAll 127 = .ok (.getfield 139, 3) := by decide +kernel
theorem dX6_insertsAll_130 : decode cX6_insertsAll 130 = .ok (.iadd, 1) := by decide +kernel
theorem dX6_insertsAll_131 : decode cX6_insertsAll 131 = .ok (.iload_n 2, 1) := by decide +kernel
theorem dX6_insertsAll_132 : decode cX6_insertsAll 132 = .ok (.isub, 1) := by decide +kernel
theorem dX6_insertsAll_133 : decode cX6_insertsAll 133 = .ok (.bipush 60, 2) := by decide +kernel
theorem dX6_insertsAll_135 : decode cX6_insertsAll 135 = .ok (.if_icmp .le 6, 3) := by decide +kernel
theorem dX6_insertsAll_138 : decode cX6_insertsAll 138 = .ok (.bipush 11, 2) := by decide +kernel
theorem dX6_insertsAll_140 : decode cX6_insertsAll 140 = .ok (.ireturn, 1) := by decide +kernel
theorem dX6_insertsAll_141 : decode cX6_insertsAll 141 = .ok (.aload_n 0, 1) := by decide +kernel
theorem dX6_insertsAll_142 : decode cX6_insertsAll 142 = .ok (.invokevirtual 268, 3) := by decide +kernel
theorem dX6_insertsAll_145 : decode cX6_insertsAll 145 = .ok (.iload_n 2, 1) := by decide +kernel
theorem dX6_insertsAll_146 : decode cX6_insertsAll 146 = .ok (.istore 5, 2) := by decide +kernel
theorem dX6_insertsAll_148 : decode cX6_insertsAll 148 = .ok (.iload 5, 2) := by decide +kernel
theorem dX6_insertsAll_150 : decode cX6_insertsAll 150 = .ok (.aload_n 0, 1) := by decide +kernel
theorem dX6_insertsAll_151 : decode cX6_insertsAll 151 = .ok (.getfield 139, 3) := by decide +kernel
theorem dX6_insertsAll_154 : decode cX6_insertsAll 154 = .ok (.if_icmp .ge 84, 3) := by decide +kernel
theorem dX6_insertsAll_157 : decode cX6_insertsAll 157 = .ok (.iload 5, 2) := by decide +kernel
theorem dX6_insertsAll_159 : decode cX6_insertsAll 159 = .ok (.iload_n 2, 1) := by decide +kernel
theorem dX6_insertsAll_160 : decode cX6_insertsAll 160 = .ok (.isub, 1) := by decide +kernel
theorem dX6_insertsAll_161 : decode cX6_insertsAll 161 = .ok (.istore 6, 2) := by decide +kernel
theorem dX6_insertsAll_163 : decode cX6_insertsAll 163 = .ok (.aload_n 0, 1) := by decide +kernel
theorem dX6_insertsAll_164 : decode cX6_insertsAll 164 = .ok (.aload_n 0, 1) := by decide +kernel
theorem dX6_insertsAll_165 : decode cX6_insertsAll 165 = .ok (.getfield 77, 3) := by decide +kernel
theorem dX6_insertsAll_168 : decode cX6_insertsAll 168 = .ok (.iload 5, 2) := by decide +kernel
theorem dX6_insertsAll_170 : decode cX6_insertsAll 170 = .ok (.iaload, 1) := by decide +kernel
theorem dX6_insertsAll_171 : decode cX6_insertsAll 171 = .ok (.iload 4, 2) := by decide +kernel
theorem dX6_insertsAll_173 : decode cX6_insertsAll 173 = .ok (.aload_n 0, 1) := by decide +kernel
theorem dX6_insertsAll_174 : decode cX6_insertsAll 174 = .ok (.getfield 98, 3) := by decide +kernel
theorem dX6_insertsAll_177 : decode cX6_insertsAll 177 = .ok (.iconst 3, 1) := by decide +kernel
theorem dX6_insertsAll_178 : decode cX6_insertsAll 178 = .ok (.iload 6, 2) := by decide +kernel
theorem dX6_insertsAll_180 : decode cX6_insertsAll 180 = .ok (.imul, 1) := by decide +kernel
theorem dX6_insertsAll_181 : decode cX6_insertsAll 181 = .ok (.iaload, 1) := by decide +kernel
theorem dX6_insertsAll_182 : decode cX6_insertsAll 182 = .ok (.iload_n 1, 1) := by decide +kernel
theorem dX6_insertsAll_183 : decode cX6_insertsAll 183 = .ok (.invokevirtual 243, 3) := by decide +kernel
theorem dX6_insertsAll_186 : decode cX6_insertsAll 186 = .ok (.istore 4, 2) := by decide +kernel
theorem dX6_insertsAll_188 : decode cX6_insertsAll 188 = .ok (.aload_n 0, 1) := by decide +kernel
theorem dX6_insertsAll_189 : decode cX6_insertsAll 189 = .ok (.getfield 40, 3) := by decide +kernel
theorem dX6_insertsAll_192 : decode cX6_insertsAll 192 = .ok (.iconst 3, 1) := by decide +kernel
theorem dX6_insertsAll_193 : decode cX6_insertsAll 193 = .ok (.iload 4, 2) := by decide +kernel
theorem dX6_insertsAll_195 : decode cX6_insertsAll 195 = .ok (.imul, 1) := by decide +kernel
theorem dX6_insertsAll_196 : decode cX6_insertsAll 196 = .ok (.iconst 1, 1) := by decide +kernel
theorem dX6_insertsAll_197 : decode cX6_insertsAll 197 = .ok (.iadd, 1) := by decide +kernel
theorem dX6_insertsAll_198 : decode cX6_insertsAll 198 = .ok (.aload_n 0, 1) := by decide +kernel
theorem dX6_insertsAll_199 : decode cX6_insertsAll 199 = .ok (.getfield 98, 3) := by decide +kernel
theorem dX6_insertsAll_202 : decode cX6_insertsAll 202 = .ok (.iconst 3, 1) := by decide +kernel
theorem dX6_insertsAll_203 : decode cX6_insertsAll 203 = .ok (.iload 6, 2) := by decide +kernel
theorem dX6_insertsAll_205 : decode cX6_insertsAll 205 = .ok (.imul, 1) := by decide +kernel
theorem dX6_insertsAll_206 : decode cX6_insertsAll 206 = .ok (.iconst 1, 1) := by decide +kernel
theorem dX6_insertsAll_207 : decode cX6_insertsAll 207 = .ok (.iadd, 1) := by decide +kernel
theorem dX6_insertsAll_208 : decode cX6_insertsAll 208 = .ok (.iaload, 1) := by decide +kernel
theorem dX6_insertsAll_209 : decode cX6_insertsAll 209 = .ok (.iastore, 1) := by decide +kernel
theorem dX6_insertsAll_210 : decode cX6_insertsAll 210 = .ok (.aload_n 0, 1) := by decide +kernel
theorem dX6_insertsAll_211 : decode cX6_insertsAll 211 = .ok (.getfield 40, 3) := by decide +kernel
theorem dX6_insertsAll_214 : decode cX6_insertsAll 214 = .ok (.iconst 3, 1) := by decide +kernel
theorem dX6_insertsAll_215 : decode cX6_insertsAll 215 = .ok (.iload 4, 2) := by decide +kernel
theorem dX6_insertsAll_217 : decode cX6_insertsAll 217 = .ok (.imul, 1) := by decide +kernel
theorem dX6_insertsAll_218 : decode cX6_insertsAll 218 = .ok (.iconst 2, 1) := by decide +kernel
theorem dX6_insertsAll_219 : decode cX6_insertsAll 219 = .ok (.iadd, 1) := by decide +kernel
theorem dX6_insertsAll_220 : decode cX6_insertsAll 220 = .ok (.aload_n 0, 1) := by decide +kernel
theorem dX6_insertsAll_221 : decode cX6_insertsAll 221 = .ok (.getfield 98, 3) := by decide +kernel
theorem dX6_insertsAll_224 : decode cX6_insertsAll 224 = .ok (.iconst 3, 1) := by decide +kernel
theorem dX6_insertsAll_225 : decode cX6_insertsAll 225 = .ok (.iload 6, 2) := by decide +kernel
theorem dX6_insertsAll_227 : decode cX6_insertsAll 227 = .ok (.imul, 1) := by decide +kernel
theorem dX6_insertsAll_228 : decode cX6_insertsAll 228 = .ok (.iconst 2, 1) := by decide +kernel
theorem dX6_insertsAll_229 : decode cX6_insertsAll 229 = .ok (.iadd, 1) := by decide +kernel
theorem dX6_insertsAll_230 : decode cX6_insertsAll 230 = .ok (.iaload, 1) := by decide +kernel
theorem dX6_insertsAll_231 : decode cX6_insertsAll 231 = .ok (.iastore, 1) := by decide +kernel
theorem dX6_insertsAll_232 : decode cX6_insertsAll 232 = .ok (.iinc 5 1, 3) := by decide +kernel
theorem dX6_insertsAll_235 : decode cX6_insertsAll 235 = .ok (.goto (-87), 3) := by decide +kernel
theorem dX6_insertsAll_238 : decode cX6_insertsAll 238 = .ok (.aload_n 0, 1) := by decide +kernel
theorem dX6_insertsAll_239 : decode cX6_insertsAll 239 = .ok (.getfield 59, 3) := by decide +kernel
theorem dX6_insertsAll_242 : decode cX6_insertsAll 242 = .ok (.iload_n 1, 1) := by decide +kernel
theorem dX6_insertsAll_243 : decode cX6_insertsAll 243 = .ok (.iconst 0, 1) := by decide +kernel
theorem dX6_insertsAll_244 : decode cX6_insertsAll 244 = .ok (.iastore, 1) := by decide +kernel
theorem dX6_insertsAll_245 : decode cX6_insertsAll 245 = .ok (.aload_n 0, 1) := by decide +kernel
theorem dX6_insertsAll_246 : decode cX6_insertsAll 246 = .ok (.getfield 62, 3) := by decide +kernel
theorem dX6_insertsAll_249 : decode cX6_insertsAll 249 = .ok (.iload_n 1, 1) := by decide +kernel
theorem dX6_insertsAll_250 : decode cX6_insertsAll 250 = .ok (.iload 4, 2) := by decide +kernel
theorem dX6_insertsAll_252 : decode cX6_insertsAll 252 = .ok (.iastore, 1) := by decide +kernel
theorem dX6_insertsAll_253 : decode cX6_insertsAll 253 = .ok (.aload_n 0, 1) := by decide +kernel
theorem dX6_insertsAll_254 : decode cX6_insertsAll 254 = .ok (.getfield 65, 3) := by decide +kernel
theorem dX6_insertsAll_257 : decode cX6_insertsAll 257 = .ok (.iload_n 1, 1) := by decide +kernel
theorem dX6_insertsAll_258 : decode cX6_insertsAll 258 = .ok (.iload 4, 2) := by decide +kernel
theorem dX6_insertsAll_260 : decode cX6_insertsAll 260 = .ok (.iastore, 1) := by decide +kernel
theorem dX6_insertsAll_261 : decode cX6_insertsAll 261 = .ok (.iconst 0, 1) := by decide +kernel
theorem dX6_insertsAll_262 : decode cX6_insertsAll 262 = .ok (.ireturn, 1) := by decide +kernel
theorem dX6_insert_0 : decode cX6_insert 0 = .ok (.aload_n 0, 1) := by decide +kernel
theorem dX6_insert_1 : decode cX6_insert 1 = .ok (.iload_n 1, 1) := by decide +kernel
theorem dX6_insert_2 : decode cX6_insert 2 = .ok (.invokestatic 136, 3) := by decide +kernel
theorem dX6_insert_5 : decode cX6_insert 5 = .ok (.iconst 1, 1) := by decide +kernel
theorem dX6_insert_6 : decode cX6_insert 6 = .ok (.iconst 1, 1) := by decide +kernel
theorem dX6_insert_7 : decode cX6_insert 7 = .ok (.invokevirtual 132, 3) := by decide +kernel
theorem dX6_insert_10 : decode cX6_insert 10 = .ok (.ifCond .ne 5, 3) := by decide +kernel
theorem dX6_insert_13 : decode cX6_insert 13 = .ok (.iconst 0, 1) := by decide +kernel
theorem dX6_insert_14 : decode cX6_insert 14 = .ok (.ireturn, 1) := by decide +kernel
theorem dX6_insert_15 : decode cX6_insert 15 = .ok (.aload_n 0, 1) := by decide +kernel
theorem dX6_insert_16 : decode cX6_insert 16 = .ok (.iload_n 1, 1) := by decide +kernel
theorem dX6_insert_17 : decode cX6_insert 17 = .ok (.invokevirtual 232, 3) := by decide +kernel
theorem dX6_insert_20 : decode cX6_insert 20 = .ok (.aload_n 0, 1) := by decide +kernel
theorem dX6_insert_21 : decode cX6_insert 21 = .ok (.iload_n 1, 1) := by decide +kernel
theorem dX6_insert_22 : decode cX6_insert 22 = .ok (.invokevirtual 271, 3) := by decide +kernel
theorem dX6_insert_25 : decode cX6_insert 25 = .ok (.istore_n 2, 1) := by decide +kernel
theorem dX6_insert_26 : decode cX6_insert 26 = .ok (.aload_n 0, 1) := by decide +kernel
theorem dX6_insert_27 : decode cX6_insert 27 = .ok (.invokevirtual 145, 3) := by decide +kernel
theorem dX6_insert_30 : decode cX6_insert 30 = .ok (.istore_n 3, 1) := by decide +kernel
theorem dX6_insert_31 : decode cX6_insert 31 = .ok (.iload_n 2, 1) := by decide +kernel
theorem dX6_insert_32 : decode cX6_insert 32 = .ok (.ireturn, 1) := by decide +kernel
theorem dX6_replaces_0 : decode cX6_replaces 0 = .ok (.aload_n 0, 1) := by decide +kernel
theorem dX6_replaces_1 : decode cX6_replaces 1 = .ok (.getfield 209, 3) := by decide +kernel
theorem dX6_replaces_4 : decode cX6_replaces 4 = .ok (.ifCond .ne 6, 3) := by decide +kernel
theorem dX6_replaces_7 : decode cX6_replaces 7 = .ok (.bipush 6, 2) := by decide +kernel
theorem dX6_replaces_9 : decode cX6_replaces 9 = .ok (.ireturn, 1) := by decide +kernel
theorem dX6_replaces_10 : decode cX6_replaces 10 = .ok (.aload_n 0, 1) := by decide +kernel
theorem dX6_replaces_11 : decode cX6_replaces 11 = .ok (.iconst 0, 1) := by decide +kernel
theorem dX6_replaces_12 : decode cX6_replaces 12 = .ok (.putfield 240, 3) := by decide +kernel
theorem dX6_replaces_15 : decode cX6_replaces 15 = .ok (.iconst 1, 1) := by decide +kernel
theorem dX6_replaces_16 : decode cX6_replaces 16 = .ok (.istore_n 2, 1) := by decide +kernel
theorem dX6_replaces_17 : decode cX6_replaces 17 = .ok (.iconst 1, 1) := by decide +kernel
theorem dX6_replaces_18 : decode cX6_replaces 18 = .ok (.istore_n 3, 1) := by decide +kernel
theorem dX6_replaces_19 : decode cX6_replaces 19 = .ok (.iconst 0, 1) := by decide +kernel
theorem dX6_replaces_20 : decode cX6_replaces 20 = .ok (.istore 4, 2) := by decide +kernel
theorem dX6_replaces_22 : decode cX6_replaces 22 = .ok (.iload 4, 2) := by decide +kernel
theorem dX6_replaces_24 : decode cX6_replaces 24 = .ok (.aload_n 0, 1) := by decide +kernel
theorem dX6_replaces_25 : decode cX6_replaces 25 = .ok (.getfield 209, 3) := by decide +kernel
theorem dX6_replaces_28 : decode cX6_replaces 28 = .ok (.if_icmp .ge 135, 3) := by decide +kernel
theorem dX6_replaces_31 : decode cX6_replaces 31 = .ok (.aload_n 0, 1) := by decide +kernel
theorem dX6_replaces_32 : decode cX6_replaces 32 = .ok (.getfield 71, 3) := by decide +kernel
theorem dX6_replaces_35 : decode cX6_replaces 35 = .ok (.iconst 4, 1) := by decide +kernel
theorem dX6_replaces_36 : decode cX6_replaces 36 = .ok (.iload_n 1, 1) := by decide +kernel
theorem dX6_replaces_37 : decode cX6_replaces 37 = .ok (.imul, 1) := by decide +kernel
theorem dX6_replaces_38 : decode cX6_replaces 38 = .ok (.iload 4, 2) := by decide +kernel
theorem dX6_replaces_40 : decode cX6_replaces 40 = .ok (.iadd, 1) := by decide +kernel
theorem dX6_replaces_41 : decode cX6_replaces 41 = .ok (.iaload, 1) := by decide +kernel
theorem dX6_replaces_42 : decode cX6_replaces 42 = .ok (.istore 5, 2) := by decide +kernel
theorem dX6_replaces_44 : decode cX6_replaces 44 = .ok (.aload_n 0, 1) := by decide +kernel
theorem dX6_replaces_45 : decode cX6_replaces 45 = .ok (.getfield 74, 3) := by decide +kernel
theorem dX6_replaces_48 : decode cX6_replaces 48 = .ok (.iconst 4, 1) := by decide +kernel
theorem dX6_replaces_49 : decode cX6_replaces 49 = .ok (.iload_n 1, 1) := by decide +kernel
theorem dX6_replaces_50 : decode cX6_replaces 50 = .ok (.imul, 1) := by decide +kernel
theorem dX6_replaces_51 : decode cX6_replaces 51 = .ok (.iload 4, 2) := by decide +kernel
theorem dX6_replaces_53 : decode cX6_replaces 53 = .ok (.iadd, 1) := by decide +kernel
theorem dX6_replaces_54 : decode cX6_replaces 54 = .ok (.iaload, 1) := by decide +kernel
theorem dX6_replaces_55 : decode cX6_replaces 55 = .ok (.ifCond .ne 102, 3) := by decide +kernel
theorem dX6_replaces_58 : decode cX6_replaces 58 = .ok (.aload_n 0, 1) := by decide +kernel
theorem dX6_replaces_59 : decode cX6_replaces 59 = .ok (.getfield 98, 3) := by decide +kernel
theorem dX6_replaces_62 : decode cX6_replaces 62 = .ok (.iconst 3, 1) := by decide +kernel
theorem dX6_replaces_63 : decode cX6_replaces 63 = .ok (.iload 4, 2) := by decide +kernel
theorem dX6_replaces_65 : decode cX6_replaces 65 = .ok (.imul, 1) := by decide +kernel
theorem dX6_replaces_66 : decode cX6_replaces 66 = .ok (.iconst 2, 1) := by decide +kernel
theorem dX6_replaces_67 : decode cX6_replaces 67 = .ok (.iadd, 1) := by decide +kernel
theorem dX6_replaces_68 : decode cX6_replaces 68 = .ok (.iaload, 1) := by decide +kernel
theorem dX6_replaces_69 : decode cX6_replaces 69 = .ok (.istore 6, 2) := by decide +kernel
theorem dX6_replaces_71 : decode cX6_replaces 71 = .ok (.iload_n 2, 1) := by decide +kernel
theorem dX6_replaces_72 : decode cX6_replaces 72 = .ok (.ifCond .eq 41, 3) := by decide +kernel
theorem dX6_replaces_75 : decode cX6_replaces 75 = .ok (.aload_n 0, 1) := by decide +kernel
theorem dX6_replaces_76 : decode cX6_replaces 76 = .ok (.getfield 16, 3) := by decide +kernel
theorem dX6_replaces_79 : decode cX6_replaces 79 = .ok (.aload_n 0, 1) := by decide +kernel
theorem dX6_replaces_80 : decode cX6_replaces 80 = .ok (.getfield 34, 3) := by decide +kernel
theorem dX6_replaces_83 : decode cX6_replaces 83 = .ok (.iload 5, 2) := by decide +kernel
theorem dX6_replaces_85 : decode cX6_replaces 85 = .ok (.iaload, 1) := by decide +kernel
theorem dX6_replaces_86 : decode cX6_replaces 86 = .ok (.iaload, 1) := by decide +kernel
theorem dX6_replaces_87 : decode cX6_replaces 87 = .ok (.iconst 2, 1) := by decide +kernel
theorem dX6_replaces_88 : decode cX6_replaces 88 = .ok (.if_icmp .eq 21, 3) := by decide +kernel
theorem dX6_replaces_91 : decode cX6_replaces 91 = .ok (.aload_n 0, 1) := by decide +kernel
theorem dX6_replaces_92 : decode cX6_replaces 92 = .ok (.iload 5, 2) := by decide +kernel
theorem dX6_replaces_94 : decode cX6_replaces 94 = .ok (.invokevirtual 161, 3) := by decide +kernel
theorem dX6_replaces_97 : decode cX6_replaces 97 = .ok (.aload_n 0, 1) := by decide +kernel
theorem dX6_replaces_98 : decode cX6_replaces 98 = .ok (.getfield 98, 3) := by decide +kernel
theorem dX6_replaces_101 : decode cX6_replaces 101 = .ok (.iconst 3, 1) := by decide +kernel
theorem dX6_replaces_102 : decode cX6_replaces 102 = .ok (.iload 4, 2) := by decide +kernel
theorem dX6_replaces_104 : decode cX6_replaces 104 = .ok (.imul, 1) := by decide +kernel
theorem dX6_replaces_105 : decode cX6_replaces 105 = .ok (.iaload, 1) := by decide +kernel
theorem dX6_replaces_106 : decode cX6_replaces 106 = .ok (.if_icmp .ne 7, 3) := by decide +kernel
theorem dX6_replaces_109 : decode cX6_replaces 109 = .ok (.iconst 1, 1) := by decide +kernel
theorem dX6_replaces_110 : decode cX6_replaces 110 = .ok (.goto 4, 3) := by decide +kernel
theorem dX6_replaces_113 : decode cX6_replaces 113 = .ok (.iconst 0, 1) := by decide +kernel
theorem dX6_replaces_114 : decode cX6_replaces 114 = .ok (.istore_n 2, 1) := by decide +kernel
theorem dX6_replaces_115 : decode cX6_replaces 115 = .ok (.iload 6, 2) := by decide +kernel
theorem dX6_replaces_117 : decode cX6_replaces 117 = .ok (.aload_n 0, 1) := by decide +kernel
theorem dX6_replaces_118 : decode cX6_replaces 118 = .ok (.getfield 40, 3) := by decide +kernel
theorem dX6_replaces_121 : decode cX6_replaces 121 = .ok (.iconst 3, 1) := by decide +kernel
theorem dX6_replaces_122 : decode cX6_replaces 122 = .ok (.iload 5, 2) := by decide +kernel
theorem dX6_replaces_124 : decode cX6_replaces 124 = .ok (.imul, 1) := by decide +kernel
theorem dX6_replaces_125 : decode cX6_replaces 125 = .ok (.iconst 2, 1) := by decide +kernel
theorem dX6_replaces_126 : decode cX6_replaces 126 = .ok (.iadd, 1) := by decide +kernel
theorem dX6_replaces_127 : decode cX6_replaces 127 = .ok (.iaload, 1) := by decide +kernel
theorem dX6_replaces_128 : decode cX6_replaces 128 = .ok (.if_icmp .eq 19, 3) := by decide +kernel
theorem dX6_replaces_131 : decode cX6_replaces 131 = .ok (.aload_n 0, 1) := by decide +kernel
theorem dX6_replaces_132 : decode cX6_replaces 132 = .ok (.aload_n 0, 1) := by decide +kernel
theorem dX6_replaces_133 : decode cX6_replaces 133 = .ok (.getfield 34, 3) := by decide +kernel
theorem dX6_replaces_136 : decode cX6_replaces 136 = .ok (.iload 5, 2) := by decide +kernel
theorem dX6_replaces_138 : decode cX6_replaces 138 = .ok (.iaload, 1) := by decide +kernel
theorem dX6_replaces_139 : decode cX6_replaces 139 = .ok (.iload 6, 2) := by decide +kernel
theorem dX6_replaces_141 : decode cX6_replaces 141 = .ok (.invokevirtual 247, 3) := by decide +kernel
theorem dX6_replaces_144 : decode cX6_replaces 144 = .ok (.ifCond .eq 11, 3) := by decide +kernel
theorem dX6_replaces_147 : decode cX6_replaces 147 = .ok (.iload_n 3, 1) := by decide +kernel
theorem dX6_replaces_148 : decode cX6_replaces 148 = .ok (.ifCond .eq 7, 3) := by decide +kernel
theorem dX6_replaces_151 : decode cX6_replaces 151 = .ok (.iconst 1, 1) := by decide +kernel
theorem dX6_replaces_152 : decode cX6_replaces 152 = .ok (.goto 4, 3) := by decide +kernel
theorem dX6_replaces_155 : decode cX6_replaces 155 = .ok (.iconst 0, 1) := by decide +kernel
theorem dX6_replaces_156 : decode cX6_replaces 156 = .ok (.istore_n 3, 1) := by decide +kernel
theorem dX6_replaces_157 : decode cX6_replaces 157 = .ok (.iinc 4 1, 3) := by decide +kernel
theorem dX6_replaces_160 : decode cX6_replaces 160 = .ok (.goto (-138), 3) := by decide +kernel
theorem dX6_replaces_163 : decode cX6_replaces 163 = .ok (.iload_n 2, 1) := by decide +kernel
theorem dX6_replaces_164 : decode cX6_replaces 164 = .ok (.ifCond .eq 7, 3) := by decide +kernel
theorem dX6_replaces_167 : decode cX6_replaces 167 = .ok (.iload_n 3, 1) := by decide +kernel
theorem dX6_replaces_168 : decode cX6_replaces 168 = .ok (.ifCond .ne 15, 3) := by decide +kernel
theorem dX6_replaces_171 : decode cX6_replaces 171 = .ok (.iload_n 2, 1) := by decide +kernel
theorem dX6_replaces_172 : decode cX6_replaces 172 = .ok (.ifCond .eq 8, 3) := by decide +kernel
theorem dX6_replaces_175 : decode cX6_replaces 175 = .ok (.bipush 10, 2) := by decide +kernel
theorem dX6_replaces_177 : decode cX6_replaces 177 = .ok (.goto 5, 3) := by decide +kernel
theorem dX6_replaces_180 : decode cX6_replaces 180 = .ok (.bipush 8, 2) := by decide +kernel
theorem dX6_replaces_182 : decode cX6_replaces 182 = .ok (.ireturn, 1) := by decide +kernel
theorem dX6_replaces_183 : decode cX6_replaces 183 = .ok (.aload_n 0, 1) := by decide +kernel
theorem dX6_replaces_184 : decode cX6_replaces 184 = .ok (.invokevirtual 265, 3) := by decide +kernel
theorem dX6_replaces_187 : decode cX6_replaces 187 = .ok (.aload_n 0, 1) := by decide +kernel
theorem dX6_replaces_188 : decode cX6_replaces 188 = .ok (.getfield 240, 3) := by decide +kernel
theorem dX6_replaces_191 : decode cX6_replaces 191 = .ok (.iadd, 1) := by decide +kernel
theorem dX6_replaces_192 : decode cX6_replaces 192 = .ok (.bipush 60, 2) := by decide +kernel
theorem dX6_replaces_194 : decode cX6_replaces 194 = .ok (.if_icmp .le 6, 3) := by decide +kernel
theorem dX6_replaces_197 : decode cX6_replaces 197 = .ok (.bipush 11, 2) := by decide +kernel
theorem dX6_replaces_199 : decode cX6_replaces 199 = .ok (.ireturn, 1) := by decide +kernel
theorem dX6_replaces_200 : decode cX6_replaces 200 = .ok (.aload_n 0, 1) := by decide +kernel
theorem dX6_replaces_201 : decode cX6_replaces 201 = .ok (.invokevirtual 268, 3) := by decide +kernel
theorem dX6_replaces_204 : decode cX6_replaces 204 = .ok (.iconst 0, 1) := by decide +kernel
theorem dX6_replaces_205 : decode cX6_replaces 205 = .ok (.istore 4, 2) := by decide +kernel
theorem dX6_replaces_207 : decode cX6_replaces 207 = .ok (.iload 4, 2) := by decide +kernel
theorem dX6_replaces_209 : decode cX6_replaces 209 = .ok (.iconst 3, 1) := by decide +kernel
theorem dX6_replaces_210 : decode cX6_replaces 210 = .ok (.aload_n 0, 1) := by decide +kernel
theorem dX6_replaces_211 : decode cX6_replaces 211 = .ok (.getfield 209, 3) := by decide +kernel
theorem dX6_replaces_214 : decode cX6_replaces 214 = .ok (.imul, 1) := by decide +kernel
theorem dX6_replaces_215 : decode cX6_replaces 215 = .ok (.if_icmp .ge 57, 3) := by decide +kernel
theorem dX6_replaces_218 : decode cX6_replaces 218 = .ok (.aload_n 0, 1) := by decide +kernel
theorem dX6_replaces_219 : decode cX6_replaces 219 = .ok (.getfield 74, 3) := by decide +kernel
theorem dX6_replaces_222 : decode cX6_replaces 222 = .ok (.iconst 4, 1) := by decide +kernel
theorem dX6_replaces_223 : decode cX6_replaces 223 = .ok (.iload_n 1, 1) := by decide +kernel
theorem dX6_replaces_224 : decode cX6_replaces 224 = .ok (.imul, 1) := by decide +kernel
theorem dX6_replaces_225 : decode cX6_replaces 225 = .ok (.iload 4, 2) := by decide +kernel
theorem dX6_replaces_227 : decode cX6_replaces 227 = .ok (.iconst 3, 1) := by decide +kernel
end
section
theorem dX6_replaces_228 : decode cX6_replaces 228 = .ok (.idiv, 1) := by decide +kernel
theorem dX6_replaces_229 : decode cX6_replaces 229 = .ok (.iadd, 1) := by decide +kernel
theorem dX6_replaces_230 : decode cX6_replaces 230 = .ok (.iaload, 1) := by decide +kernel
theorem dX6_replaces_231 : decode cX6_replaces 231 = .ok (.ifCond .ne 35, 3) := by decide +kernel
theorem dX6_replaces_234 : decode cX6_replaces 234 = .ok (.aload_n 0, 1) := by decide +kernel
theorem dX6_replaces_235 : decode cX6_replaces 235 = .ok (.getfield 40, 3) := by decide +kernel
theorem dX6_replaces_238 : decode cX6_replaces 238 = .ok (.iconst 3, 1) := by decide +kernel
theorem dX6_replaces_239 : decode cX6_replaces 239 = .ok (.aload_n 0, 1) := by decide +kernel
theorem dX6_replaces_240 : decode cX6_replaces 240 = .ok (.getfield 71, 3) := by decide +kernel
theorem dX6_replaces_243 : decode cX6_replaces 243 = .ok (.iconst 4, 1) := by decide +kernel
theorem dX6_replaces_244 : decode cX6_replaces 244 = .ok (.iload_n 1, 1) := by decide +kernel
theorem dX6_replaces_245 : decode cX6_replaces 245 = .ok (.imul, 1) := by decide +kernel
theorem dX6_replaces_246 : decode cX6_replaces 246 = .ok (.iload 4, 2) := by decide +kernel
theorem dX6_replaces_248 : decode cX6_replaces 248 = .ok (.iconst 3, 1) := by decide +kernel
theorem dX6_replaces_249 : decode cX6_replaces 249 = .ok (.idiv, 1) := by decide +kernel
theorem dX6_replaces_250 : decode cX6_replaces 250 = .ok (.iadd, 1) := by decide +kernel
theorem dX6_replaces_251 : decode cX6_replaces 251 = .ok (.iaload, 1) := by decide +kernel
theorem dX6_replaces_252 : decode cX6_replaces 252 = .ok (.imul, 1) := by decide +kernel
theorem dX6_replaces_253 : decode cX6_replaces 253 = .ok (.iload 4, 2) := by decide +kernel
theorem dX6_replaces_255 : decode cX6_replaces 255 = .ok (.iconst 3, 1) := by decide +kernel
theorem dX6_replaces_256 : decode cX6_replaces 256 = .ok (.irem, 1) := by decide +kernel
theorem dX6_replaces_257 : decode cX6_replaces 257 = .ok (.iadd, 1) := by decide +kernel
theorem dX6_replaces_258 : decode cX6_replaces 258 = .ok (.aload_n 0, 1) := by decide +kernel
theorem dX6_replaces_259 : decode cX6_replaces 259 = .ok (.getfield 98, 3) := by decide +kernel
theorem dX6_replaces_262 : decode cX6_replaces 262 = .ok (.iload 4, 2) := by decide +kernel
theorem dX6_replaces_264 : decode cX6_replaces 264 = .ok (.iaload, 1) := by decide +kernel
theorem dX6_replaces_265 : decode cX6_replaces 265 = .ok (.iastore, 1) := by decide +kernel
theorem dX6_replaces_266 : decode cX6_replaces 266 = .ok (.iinc 4 1, 3) := by decide +kernel
theorem dX6_replaces_269 : decode cX6_replaces 269 = .ok (.goto (-62), 3) := by decide +kernel
theorem dX6_replaces_272 : decode cX6_replaces 272 = .ok (.iconst 0, 1) := by decide +kernel
theorem dX6_replaces_273 : decode cX6_replaces 273 = .ok (.ireturn, 1) := by decide +kernel
theorem dX6_replace_0 : decode cX6_replace 0 = .ok (.aload_n 0, 1) := by decide +kernel
theorem dX6_replace_1 : decode cX6_replace 1 = .ok (.iload_n 1, 1) := by decide +kernel
theorem dX6_replace_2 : decode cX6_replace 2 = .ok (.invokestatic 136, 3) := by decide +kernel
theorem dX6_replace_5 : decode cX6_replace 5 = .ok (.iconst 1, 1) := by decide +kernel
theorem dX6_replace_6 : decode cX6_replace 6 = .ok (.iconst 1, 1) := by decide +kernel
theorem dX6_replace_7 : decode cX6_replace 7 = .ok (.invokevirtual 132, 3) := by decide +kernel
theorem dX6_replace_10 : decode cX6_replace 10 = .ok (.ifCond .ne 5, 3) := by decide +kernel
theorem dX6_replace_13 : decode cX6_replace 13 = .ok (.iconst 0, 1) := by decide +kernel
theorem dX6_replace_14 : decode cX6_replace 14 = .ok (.ireturn, 1) := by decide +kernel
theorem dX6_replace_15 : decode cX6_replace 15 = .ok (.aload_n 0, 1) := by decide +kernel
theorem dX6_replace_16 : decode cX6_replace 16 = .ok (.iload_n 1, 1) := by decide +kernel
theorem dX6_replace_17 : decode cX6_replace 17 = .ok (.invokevirtual 232, 3) := by decide +kernel
theorem dX6_replace_20 : decode cX6_replace 20 = .ok (.aload_n 0, 1) := by decide +kernel
theorem dX6_replace_21 : decode cX6_replace 21 = .ok (.iload_n 1, 1) := by decide +kernel
theorem dX6_replace_22 : decode cX6_replace 22 = .ok (.invokevirtual 274, 3) := by decide +kernel
theorem dX6_replace_25 : decode cX6_replace 25 = .ok (.istore_n 2, 1) := by decide +kernel
theorem dX6_replace_26 : decode cX6_replace 26 = .ok (.aload_n 0, 1) := by decide +kernel
theorem dX6_replace_27 : decode cX6_replace 27 = .ok (.invokevirtual 145, 3) := by decide +kernel
theorem dX6_replace_30 : decode cX6_replace 30 = .ok (.istore_n 3, 1) := by decide +kernel
theorem dX6_replace_31 : decode cX6_replace 31 = .ok (.iload_n 2, 1) := by decide +kernel
theorem dX6_replace_32 : decode cX6_replace 32 = .ok (.ireturn, 1) := by decide +kernel
theorem dX6_marks_0 : decode cX6_marks 0 = .ok (.iconst 0, 1) := by decide +kernel
theorem dX6_marks_1 : decode cX6_marks 1 = .ok (.istore_n 2, 1) := by decide +kernel
theorem dX6_marks_2 : decode cX6_marks 2 = .ok (.iload_n 2, 1) := by decide +kernel
theorem dX6_marks_3 : decode cX6_marks 3 = .ok (.bipush 60, 2) := by decide +kernel
theorem dX6_marks_5 : decode cX6_marks 5 = .ok (.if_icmp .ge 48, 3) := by decide +kernel
theorem dX6_marks_8 : decode cX6_marks 8 = .ok (.aload_n 0, 1) := by decide +kernel
theorem dX6_marks_9 : decode cX6_marks 9 = .ok (.getfield 43, 3) := by decide +kernel
theorem dX6_marks_12 : decode cX6_marks 12 = .ok (.iload_n 2, 1) := by decide +kernel
theorem dX6_marks_13 : decode cX6_marks 13 = .ok (.aload_n 0, 1) := by decide +kernel
theorem dX6_marks_14 : decode cX6_marks 14 = .ok (.getfield 43, 3) := by decide +kernel
theorem dX6_marks_17 : decode cX6_marks 17 = .ok (.iload_n 2, 1) := by decide +kernel
theorem dX6_marks_18 : decode cX6_marks 18 = .ok (.baload, 1) := by decide +kernel
theorem dX6_marks_19 : decode cX6_marks 19 = .ok (.ifCond .ne 22, 3) := by decide +kernel
theorem dX6_marks_22 : decode cX6_marks 22 = .ok (.aload_n 0, 1) := by decide +kernel
theorem dX6_marks_23 : decode cX6_marks 23 = .ok (.getfield 34, 3) := by decide +kernel
theorem dX6_marks_26 : decode cX6_marks 26 = .ok (.iload_n 2, 1) := by decide +kernel
theorem dX6_marks_27 : decode cX6_marks 27 = .ok (.iaload, 1) := by decide +kernel
theorem dX6_marks_28 : decode cX6_marks 28 = .ok (.iconst (-1), 1) := by decide +kernel
theorem dX6_marks_29 : decode cX6_marks 29 = .ok (.if_icmp .eq 16, 3) := by decide +kernel
theorem dX6_marks_32 : decode cX6_marks 32 = .ok (.aload_n 0, 1) := by decide +kernel
theorem dX6_marks_33 : decode cX6_marks 33 = .ok (.iload_n 2, 1) := by decide +kernel
theorem dX6_marks_34 : decode cX6_marks 34 = .ok (.iload_n 1, 1) := by decide +kernel
theorem dX6_marks_35 : decode cX6_marks 35 = .ok (.invokevirtual 170, 3) := by decide +kernel
theorem dX6_marks_38 : decode cX6_marks 38 = .ok (.ifCond .eq 7, 3) := by decide +kernel
theorem dX6_marks_41 : decode cX6_marks 41 = .ok (.iconst 1, 1) := by decide +kernel
theorem dX6_marks_42 : decode cX6_marks 42 = .ok (.goto 4, 3) := by decide +kernel
theorem dX6_marks_45 : decode cX6_marks 45 = .ok (.iconst 0, 1) := by decide +kernel
theorem dX6_marks_46 : decode cX6_marks 46 = .ok (.bastore, 1) := by decide +kernel
theorem dX6_marks_47 : decode cX6_marks 47 = .ok (.iinc 2 1, 3) := by decide +kernel
theorem dX6_marks_50 : decode cX6_marks 50 = .ok (.goto (-48), 3) := by decide +kernel
theorem dX6_marks_53 : decode cX6_marks 53 = .ok (.return_, 1) := by decide +kernel
theorem dX6_marksAll_0 : decode cX6_marksAll 0 = .ok (.iconst 0, 1) := by decide +kernel
theorem dX6_marksAll_1 : decode cX6_marksAll 1 = .ok (.istore_n 2, 1) := by decide +kernel
theorem dX6_marksAll_2 : decode cX6_marksAll 2 = .ok (.iload_n 2, 1) := by decide +kernel
theorem dX6_marksAll_3 : decode cX6_marksAll 3 = .ok (.bipush 60, 2) := by decide +kernel
theorem dX6_marksAll_5 : decode cX6_marksAll 5 = .ok (.if_icmp .ge 16, 3) := by decide +kernel
theorem dX6_marksAll_8 : decode cX6_marksAll 8 = .ok (.aload_n 0, 1) := by decide +kernel
theorem dX6_marksAll_9 : decode cX6_marksAll 9 = .ok (.getfield 43, 3) := by decide +kernel
theorem dX6_marksAll_12 : decode cX6_marksAll 12 = .ok (.iload_n 2, 1) := by decide +kernel
theorem dX6_marksAll_13 : decode cX6_marksAll 13 = .ok (.iconst 0, 1) := by decide +kernel
theorem dX6_marksAll_14 : decode cX6_marksAll 14 = .ok (.bastore, 1) := by decide +kernel
theorem dX6_marksAll_15 : decode cX6_marksAll 15 = .ok (.iinc 2 1, 3) := by decide +kernel
theorem dX6_marksAll_18 : decode cX6_marksAll 18 = .ok (.goto (-16), 3) := by decide +kernel
theorem dX6_marksAll_21 : decode cX6_marksAll 21 = .ok (.aload_n 0, 1) := by decide +kernel
theorem dX6_marksAll_22 : decode cX6_marksAll 22 = .ok (.iload_n 1, 1) := by decide +kernel
theorem dX6_marksAll_23 : decode cX6_marksAll 23 = .ok (.invokevirtual 277, 3) := by decide +kernel
theorem dX6_marksAll_26 : decode cX6_marksAll 26 = .ok (.iconst 0, 1) := by decide +kernel
theorem dX6_marksAll_27 : decode cX6_marksAll 27 = .ok (.istore_n 2, 1) := by decide +kernel
theorem dX6_marksAll_28 : decode cX6_marksAll 28 = .ok (.iload_n 2, 1) := by decide +kernel
theorem dX6_marksAll_29 : decode cX6_marksAll 29 = .ok (.bipush 60, 2) := by decide +kernel
theorem dX6_marksAll_31 : decode cX6_marksAll 31 = .ok (.if_icmp .ge 63, 3) := by decide +kernel
theorem dX6_marksAll_34 : decode cX6_marksAll 34 = .ok (.aload_n 0, 1) := by decide +kernel
theorem dX6_marksAll_35 : decode cX6_marksAll 35 = .ok (.getfield 34, 3) := by decide +kernel
theorem dX6_marksAll_38 : decode cX6_marksAll 38 = .ok (.iload_n 2, 1) := by decide +kernel
theorem dX6_marksAll_39 : decode cX6_marksAll 39 = .ok (.iaload, 1) := by decide +kernel
theorem dX6_marksAll_40 : decode cX6_marksAll 40 = .ok (.iconst (-1), 1) := by decide +kernel
theorem dX6_marksAll_41 : decode cX6_marksAll 41 = .ok (.if_icmp .eq 47, 3) := by decide +kernel
theorem dX6_marksAll_44 : decode cX6_marksAll 44 = .ok (.aload_n 0, 1) := by decide +kernel
theorem dX6_marksAll_45 : decode cX6_marksAll 45 = .ok (.getfield 25, 3) := by decide +kernel
theorem dX6_marksAll_48 : decode cX6_marksAll 48 = .ok (.aload_n 0, 1) := by decide +kernel
theorem dX6_marksAll_49 : decode cX6_marksAll 49 = .ok (.getfield 34, 3) := by decide +kernel
theorem dX6_marksAll_52 : decode cX6_marksAll 52 = .ok (.iload_n 2, 1) := by decide +kernel
theorem dX6_marksAll_53 : decode cX6_marksAll 53 = .ok (.iaload, 1) := by decide +kernel
theorem dX6_marksAll_54 : decode cX6_marksAll 54 = .ok (.iaload, 1) := by decide +kernel
theorem dX6_marksAll_55 : decode cX6_marksAll 55 = .ok (.iconst (-1), 1) := by decide +kernel
theorem dX6_marksAll_56 : decode cX6_marksAll 56 = .ok (.if_icmp .eq 32, 3) := by decide +kernel
theorem dX6_marksAll_59 : decode cX6_marksAll 59 = .ok (.aload_n 0, 1) := by decide +kernel
theorem dX6_marksAll_60 : decode cX6_marksAll 60 = .ok (.iload_n 2, 1) := by decide +kernel
theorem dX6_marksAll_61 : decode cX6_marksAll 61 = .ok (.invokevirtual 280, 3) := by decide +kernel
theorem dX6_marksAll_64 : decode cX6_marksAll 64 = .ok (.iload_n 1, 1) := by decide +kernel
theorem dX6_marksAll_65 : decode cX6_marksAll 65 = .ok (.if_icmp .ne 23, 3) := by decide +kernel
theorem dX6_marksAll_68 : decode cX6_marksAll 68 = .ok (.aload_n 0, 1) := by decide +kernel
theorem dX6_marksAll_69 : decode cX6_marksAll 69 = .ok (.getfield 31, 3) := by decide +kernel
theorem dX6_marksAll_72 : decode cX6_marksAll 72 = .ok (.aload_n 0, 1) := by decide +kernel
theorem dX6_marksAll_73 : decode cX6_marksAll 73 = .ok (.getfield 34, 3) := by decide +kernel
theorem dX6_marksAll_76 : decode cX6_marksAll 76 = .ok (.iload_n 2, 1) := by decide +kernel
theorem dX6_marksAll_77 : decode cX6_marksAll 77 = .ok (.iaload, 1) := by decide +kernel
theorem dX6_marksAll_78 : decode cX6_marksAll 78 = .ok (.iaload, 1) := by decide +kernel
theorem dX6_marksAll_79 : decode cX6_marksAll 79 = .ok (.iconst 2, 1) := by decide +kernel
theorem dX6_marksAll_80 : decode cX6_marksAll 80 = .ok (.if_icmp .ne 8, 3) := by decide +kernel
theorem dX6_marksAll_83 : decode cX6_marksAll 83 = .ok (.aload_n 0, 1) := by decide +kernel
theorem dX6_marksAll_84 : decode cX6_marksAll 84 = .ok (.iload_n 2, 1) := by decide +kernel
theorem dX6_marksAll_85 : decode cX6_marksAll 85 = .ok (.invokevirtual 277, 3) := by decide +kernel
theorem dX6_marksAll_88 : decode cX6_marksAll 88 = .ok (.iinc 2 1, 3) := by decide +kernel
theorem dX6_marksAll_91 : decode cX6_marksAll 91 = .ok (.goto (-63), 3) := by decide +kernel
theorem dX6_marksAll_94 : decode cX6_marksAll 94 = .ok (.iconst 1, 1) := by decide +kernel
theorem dX6_marksAll_95 : decode cX6_marksAll 95 = .ok (.istore_n 2, 1) := by decide +kernel
theorem dX6_marksAll_96 : decode cX6_marksAll 96 = .ok (.iconst 0, 1) := by decide +kernel
theorem dX6_marksAll_97 : decode cX6_marksAll 97 = .ok (.istore_n 3, 1) := by decide +kernel
theorem dX6_marksAll_98 : decode cX6_marksAll 98 = .ok (.iload_n 3, 1) := by decide +kernel
theorem dX6_marksAll_99 : decode cX6_marksAll 99 = .ok (.bipush 60, 2) := by decide +kernel
theorem dX6_marksAll_101 : decode cX6_marksAll 101 = .ok (.if_icmp .ge 88, 3) := by decide +kernel
theorem dX6_marksAll_104 : decode cX6_marksAll 104 = .ok (.aload_n 0, 1) := by decide +kernel
theorem dX6_marksAll_105 : decode cX6_marksAll 105 = .ok (.getfield 34, 3) := by decide +kernel
theorem dX6_marksAll_108 : decode cX6_marksAll 108 = .ok (.iload_n 3, 1) := by decide +kernel
theorem dX6_marksAll_109 : decode cX6_marksAll 109 = .ok (.iaload, 1) := by decide +kernel
theorem dX6_marksAll_110 : decode cX6_marksAll 110 = .ok (.iconst (-1), 1) := by decide +kernel
theorem dX6_marksAll_111 : decode cX6_marksAll 111 = .ok (.if_icmp .eq 45, 3) := by decide +kernel
theorem dX6_marksAll_114 : decode cX6_marksAll 114 = .ok (.aload_n 0, 1) := by decide +kernel
theorem dX6_marksAll_115 : decode cX6_marksAll 115 = .ok (.getfield 25, 3) := by decide +kernel
theorem dX6_marksAll_118 : decode cX6_marksAll 118 = .ok (.aload_n 0, 1) := by decide +kernel
theorem dX6_marksAll_119 : decode cX6_marksAll 119 = .ok (.getfield 34, 3) := by decide +kernel
theorem dX6_marksAll_122 : decode cX6_marksAll 122 = .ok (.iload_n 3, 1) := by decide +kernel
theorem dX6_marksAll_123 : decode cX6_marksAll 123 = .ok (.iaload, 1) := by decide +kernel
theorem dX6_marksAll_124 : decode cX6_marksAll 124 = .ok (.iaload, 1) := by decide +kernel
theorem dX6_marksAll_125 : decode cX6_marksAll 125 = .ok (.iconst (-1), 1) := by decide +kernel
theorem dX6_marksAll_126 : decode cX6_marksAll 126 = .ok (.if_icmp .eq 30, 3) := by decide +kernel
theorem dX6_marksAll_129 : decode cX6_marksAll 129 = .ok (.aload_n 0, 1) := by decide +kernel
theorem dX6_marksAll_130 : decode cX6_marksAll 130 = .ok (.iload_n 3, 1) := by decide +kernel
theorem dX6_marksAll_131 : decode cX6_marksAll 131 = .ok (.invokevirtual 280, 3) := by decide +kernel
theorem dX6_marksAll_134 : decode cX6_marksAll 134 = .ok (.iload_n 1, 1) := by decide +kernel
theorem dX6_marksAll_135 : decode cX6_marksAll 135 = .ok (.if_icmp .ne 21, 3) := by decide +kernel
theorem dX6_marksAll_138 : decode cX6_marksAll 138 = .ok (.aload_n 0, 1) := by decide +kernel
theorem dX6_marksAll_139 : decode cX6_marksAll 139 = .ok (.getfield 31, 3) := by decide +kernel
theorem dX6_marksAll_142 : decode cX6_marksAll 142 = .ok (.aload_n 0, 1) := by decide +kernel
theorem dX6_marksAll_143 : decode cX6_marksAll 143 = .ok (.getfield 34, 3) := by decide +kernel
theorem dX6_marksAll_146 : decode cX6_marksAll 146 = .ok (.iload_n 3, 1) := by decide +kernel
theorem dX6_marksAll_147 : decode cX6_marksAll 147 = .ok (.iaload, 1) := by decide +kernel
theorem dX6_marksAll_148 : decode cX6_marksAll 148 = .ok (.iaload, 1) := by decide +kernel
theorem dX6_marksAll_149 : decode cX6_marksAll 149 = .ok (.ifCond .ne 7, 3) := by decide +kernel
theorem dX6_marksAll_152 : decode cX6_marksAll 152 = .ok (.iconst 1, 1) := by decide +kernel
theorem dX6_marksAll_153 : decode cX6_marksAll 153 = .ok (.goto 4, 3) := by decide +kernel
theorem dX6_marksAll_156 : decode cX6_marksAll 156 = .ok (.iconst 0, 1) := by decide +kernel
theorem dX6_marksAll_157 : decode cX6_marksAll 157 = .ok (.istore 4, 2) := by decide +kernel
theorem dX6_marksAll_159 : decode cX6_marksAll 159 = .ok (.iload_n 2, 1) := by decide +kernel
theorem dX6_marksAll_160 : decode cX6_marksAll 160 = .ok (.ifCond .eq 21, 3) := by decide +kernel
theorem dX6_marksAll_163 : decode cX6_marksAll 163 = .ok (.iload 4, 2) := by decide +kernel
theorem dX6_marksAll_165 : decode cX6_marksAll 165 = .ok (.ifCond .eq 12, 3) := by decide +kernel
theorem dX6_marksAll_168 : decode cX6_marksAll 168 = .ok (.aload_n 0, 1) := by decide +kernel
theorem dX6_marksAll_169 : decode cX6_marksAll 169 = .ok (.getfield 43, 3) := by decide +kernel
theorem dX6_marksAll_172 : decode cX6_marksAll 172 = .ok (.iload_n 3, 1) := by decide +kernel
theorem dX6_marksAll_173 : decode cX6_marksAll 173 = .ok (.baload, 1) := by decide +kernel
theorem dX6_marksAll_174 : decode cX6_marksAll 174 = .ok (.ifCond .eq 7, 3) := by decide +kernel
theorem dX6_marksAll_177 : decode cX6_marksAll 177 = .ok (.iconst 1, 1) := by decide +kernel
theorem dX6_marksAll_178 : decode cX6_marksAll 178 = .ok (.goto 4, 3) := by decide +kernel
theorem dX6_marksAll_181 : decode cX6_marksAll 181 = .ok (.iconst 0, 1) := by decide +kernel
theorem dX6_marksAll_182 : decode cX6_marksAll 182 = .ok (.istore_n 2, 1) := by decide +kernel
theorem dX6_marksAll_183 : decode cX6_marksAll 183 = .ok (.iinc 3 1, 3) := by decide +kernel
theorem dX6_marksAll_186 : decode cX6_marksAll 186 = .ok (.goto (-88), 3) := by decide +kernel
theorem dX6_marksAll_189 : decode cX6_marksAll 189 = .ok (.iload_n 2, 1) := by decide +kernel
theorem dX6_marksAll_190 : decode cX6_marksAll 190 = .ok (.ireturn, 1) := by decide +kernel
theorem dX6_leaves_0 : decode cX6_leaves 0 = .ok (.aload_n 0, 1) := by decide +kernel
theorem dX6_leaves_1 : decode cX6_leaves 1 = .ok (.getfield 59, 3) := by decide +kernel
theorem dX6_leaves_4 : decode cX6_leaves 4 = .ok (.iload_n 1, 1) := by decide +kernel
theorem dX6_leaves_5 : decode cX6_leaves 5 = .ok (.iaload, 1) := by decide +kernel
theorem dX6_leaves_6 : decode cX6_leaves 6 = .ok (.iconst 1, 1) := by decide +kernel
theorem dX6_leaves_7 : decode cX6_leaves 7 = .ok (.if_icmp .gt 130, 3) := by decide +kernel
theorem dX6_leaves_10 : decode cX6_leaves 10 = .ok (.aload_n 0, 1) := by decide +kernel
theorem dX6_leaves_11 : decode cX6_leaves 11 = .ok (.getfield 43, 3) := by decide +kernel
theorem dX6_leaves_14 : decode cX6_leaves 14 = .ok (.aload_n 0, 1) := by decide +kernel
theorem dX6_leaves_15 : decode cX6_leaves 15 = .ok (.getfield 62, 3) := by decide +kernel
theorem dX6_leaves_18 : decode cX6_leaves 18 = .ok (.iload_n 1, 1) := by decide +kernel
theorem dX6_leaves_19 : decode cX6_leaves 19 = .ok (.iaload, 1) := by decide +kernel
theorem dX6_leaves_20 : decode cX6_leaves 20 = .ok (.baload, 1) := by decide +kernel
theorem dX6_leaves_21 : decode cX6_leaves 21 = .ok (.ifCond .eq 116, 3) := by decide +kernel
theorem dX6_leaves_24 : decode cX6_leaves 24 = .ok (.aload_n 0, 1) := by decide +kernel
theorem dX6_leaves_25 : decode cX6_leaves 25 = .ok (.aload_n 0, 1) := by decide +kernel
theorem dX6_leaves_26 : decode cX6_leaves 26 = .ok (.getfield 62, 3) := by decide +kernel
theorem dX6_leaves_29 : decode cX6_leaves 29 = .ok (.iload_n 1, 1) := by decide +kernel
theorem dX6_leaves_30 : decode cX6_leaves 30 = .ok (.iaload, 1) := by decide +kernel
theorem dX6_leaves_31 : decode cX6_leaves 31 = .ok (.invokevirtual 167, 3) := by decide +kernel
theorem dX6_leaves_34 : decode cX6_leaves 34 = .ok (.istore_n 2, 1) := by decide +kernel
theorem dX6_leaves_35 : decode cX6_leaves 35 = .ok (.iload_n 2, 1) := by decide +kernel
theorem dX6_leaves_36 : decode cX6_leaves 36 = .ok (.aload_n 0, 1) := by decide +kernel
theorem dX6_leaves_37 : decode cX6_leaves 37 = .ok (.getfield 47, 3) := by decide +kernel
theorem dX6_leaves_40 : decode cX6_leaves 40 = .ok (.aload_n 0, 1) := by decide +kernel
theorem dX6_leaves_41 : decode cX6_leaves 41 = .ok (.getfield 53, 3) := by decide +kernel
theorem dX6_leaves_44 : decode cX6_leaves 44 = .ok (.iload_n 1, 1) := by decide +kernel
theorem dX6_leaves_45 : decode cX6_leaves 45 = .ok (.iaload, 1) := by decide +kernel
theorem dX6_leaves_46 : decode cX6_leaves 46 = .ok (.iaload, 1) := by decide +kernel
theorem dX6_leaves_47 : decode cX6_leaves 47 = .ok (.if_icmp .ge 28, 3) := by decide +kernel
theorem dX6_leaves_50 : decode cX6_leaves 50 = .ok (.aload_n 0, 1) := by decide +kernel
theorem dX6_leaves_51 : decode cX6_leaves 51 = .ok (.getfield 43, 3) := by decide +kernel
theorem dX6_leaves_54 : decode cX6_leaves 54 = .ok (.aload_n 0, 1) := by decide +kernel
theorem dX6_leaves_55 : decode cX6_leaves 55 = .ok (.aload_n 0, 1) := by decide +kernel
theorem dX6_leaves_56 : decode cX6_leaves 56 = .ok (.getfield 53, 3) := by decide +kernel
theorem dX6_leaves_59 : decode cX6_leaves 59 = .ok (.iload_n 1, 1) := by decide +kernel
theorem dX6_leaves_60 : decode cX6_leaves 60 = .ok (.iaload, 1) := by decide +kernel
theorem dX6_leaves_61 : decode cX6_leaves 61 = .ok (.iload_n 2, 1) := by decide +kernel
theorem dX6_leaves_62 : decode cX6_leaves 62 = .ok (.invokevirtual 157, 3) := by decide +kernel
theorem dX6_leaves_65 : decode cX6_leaves 65 = .ok (.baload, 1) := by decide +kernel
theorem dX6_leaves_66 : decode cX6_leaves 66 = .ok (.ifCond .eq 9, 3) := by decide +kernel
theorem dX6_leaves_69 : decode cX6_leaves 69 = .ok (.iinc 2 1, 3) := by decide +kernel
theorem dX6_leaves_72 : decode cX6_leaves 72 = .ok (.goto (-37), 3) := by decide +kernel
theorem dX6_leaves_75 : decode cX6_leaves 75 = .ok (.aload_n 0, 1) := by decide +kernel
theorem dX6_leaves_76 : decode cX6_leaves 76 = .ok (.getfield 59, 3) := by decide +kernel
theorem dX6_leaves_79 : decode cX6_leaves 79 = .ok (.iload_n 1, 1) := by decide +kernel
theorem dX6_leaves_80 : decode cX6_leaves 80 = .ok (.iload_n 2, 1) := by decide +kernel
theorem dX6_leaves_81 : decode cX6_leaves 81 = .ok (.aload_n 0, 1) := by decide +kernel
theorem dX6_leaves_82 : decode cX6_leaves 82 = .ok (.getfield 47, 3) := by decide +kernel
theorem dX6_leaves_85 : decode cX6_leaves 85 = .ok (.aload_n 0, 1) := by decide +kernel
theorem dX6_leaves_86 : decode cX6_leaves 86 = .ok (.getfield 53, 3) := by decide +kernel
theorem dX6_leaves_89 : decode cX6_leaves 89 = .ok (.iload_n 1, 1) := by decide +kernel
theorem dX6_leaves_90 : decode cX6_leaves 90 = .ok (.iaload, 1) := by decide +kernel
theorem dX6_leaves_91 : decode cX6_leaves 91 = .ok (.iaload, 1) := by decide +kernel
theorem dX6_leaves_92 : decode cX6_leaves 92 = .ok (.if_icmp .ge 7, 3) := by decide +kernel
theorem dX6_leaves_95 : decode cX6_leaves 95 = .ok (.iconst 1, 1) := by decide +kernel
theorem dX6_leaves_96 : decode cX6_leaves 96 = .ok (.goto 4, 3) := by decide +kernel
theorem dX6_leaves_99 : decode cX6_leaves 99 = .ok (.iconst 3, 1) := by decide +kernel
theorem dX6_leaves_100 : decode cX6_leaves 100 = .ok (.iastore, 1) := by decide +kernel
theorem dX6_leaves_101 : decode cX6_leaves 101 = .ok (.aload_n 0, 1) := by decide +kernel
theorem dX6_leaves_102 : decode cX6_leaves 102 = .ok (.getfield 62, 3) := by decide +kernel
theorem dX6_leaves_105 : decode cX6_leaves 105 = .ok (.iload_n 1, 1) := by decide +kernel
theorem dX6_leaves_106 : decode cX6_leaves 106 = .ok (.iload_n 2, 1) := by decide +kernel
theorem dX6_leaves_107 : decode cX6_leaves 107 = .ok (.aload_n 0, 1) := by decide +kernel
theorem dX6_leaves_108 : decode cX6_leaves 108 = .ok (.getfield 47, 3) := by decide +kernel
theorem dX6_leaves_111 : decode cX6_leaves 111 = .ok (.aload_n 0, 1) := by decide +kernel
theorem dX6_leaves_112 : decode cX6_leaves 112 = .ok (.getfield 53, 3) := by decide +kernel
theorem dX6_leaves_115 : decode cX6_leaves 115 = .ok (.iload_n 1, 1) := by decide +kernel
theorem dX6_leaves_116 : decode cX6_leaves 116 = .ok (.iaload, 1) := by decide +kernel
theorem dX6_leaves_117 : decode cX6_leaves 117 = .ok (.iaload, 1) := by decide +kernel
theorem dX6_leaves_118 : decode cX6_leaves 118 = .ok (.if_icmp .ge 17, 3) := by decide +kernel
theorem dX6_leaves_121 : decode cX6_leaves 121 = .ok (.aload_n 0, 1) := by decide +kernel
theorem dX6_leaves_122 : decode cX6_leaves 122 = .ok (.aload_n 0, 1) := by decide +kernel
theorem dX6_leaves_123 : decode cX6_leaves 123 = .ok (.getfield 53, 3) := by decide +kernel
theorem dX6_leaves_126 : decode cX6_leaves 126 = .ok (.iload_n 1, 1) := by decide +kernel
theorem dX6_leaves_127 : decode cX6_leaves 127 = .ok (.iaload, 1) := by decide +kernel
theorem dX6_leaves_128 : decode cX6_leaves 128 = .ok (.iload_n 2, 1) := by decide +kernel
theorem dX6_leaves_129 : decode cX6_leaves 129 = .ok (.invokevirtual 157, 3) := by decide +kernel
theorem dX6_leaves_132 : decode cX6_leaves 132 = .ok (.goto 4, 3) := by decide +kernel
theorem dX6_leaves_135 : decode cX6_leaves 135 = .ok (.iconst (-1), 1) := by decide +kernel
theorem dX6_leaves_136 : decode cX6_leaves 136 = .ok (.iastore, 1) := by decide +kernel
theorem dX6_leaves_137 : decode cX6_leaves 137 = .ok (.aload_n 0, 1) := by decide +kernel
theorem dX6_leaves_138 : decode cX6_leaves 138 = .ok (.getfield 65, 3) := by decide +kernel
theorem dX6_leaves_141 : decode cX6_leaves 141 = .ok (.iload_n 1, 1) := by decide +kernel
theorem dX6_leaves_142 : decode cX6_leaves 142 = .ok (.aload_n 0, 1) := by decide +kernel
theorem dX6_leaves_143 : decode cX6_leaves 143 = .ok (.getfield 65, 3) := by decide +kernel
theorem dX6_leaves_146 : decode cX6_leaves 146 = .ok (.iload_n 1, 1) := by decide +kernel
theorem dX6_leaves_147 : decode cX6_leaves 147 = .ok (.iaload, 1) := by decide +kernel
theorem dX6_leaves_148 : decode cX6_leaves 148 = .ok (.iconst (-1), 1) := by decide +kernel
theorem dX6_leaves_149 : decode cX6_leaves 149 = .ok (.if_icmp .eq 21, 3) := by decide +kernel
theorem dX6_leaves_152 : decode cX6_leaves 152 = .ok (.aload_n 0, 1) := by decide +kernel
theorem dX6_leaves_153 : decode cX6_leaves 153 = .ok (.getfield 43, 3) := by decide +kernel
theorem dX6_leaves_156 : decode cX6_leaves 156 = .ok (.aload_n 0, 1) := by decide +kernel
theorem dX6_leaves_157 : decode cX6_leaves 157 = .ok (.getfield 65, 3) := by decide +kernel
theorem dX6_leaves_160 : decode cX6_leaves 160 = .ok (.iload_n 1, 1) := by decide +kernel
theorem dX6_leaves_161 : decode cX6_leaves 161 = .ok (.iaload, 1) := by decide +kernel
theorem dX6_leaves_162 : decode cX6_leaves 162 = .ok (.baload, 1) := by decide +kernel
theorem dX6_leaves_163 : decode cX6_leaves 163 = .ok (.ifCond .eq 7, 3) := by decide +kernel
theorem dX6_leaves_166 : decode cX6_leaves 166 = .ok (.iconst (-1), 1) := by decide +kernel
theorem dX6_leaves_167 : decode cX6_leaves 167 = .ok (.goto 9, 3) := by decide +kernel
theorem dX6_leaves_170 : decode cX6_leaves 170 = .ok (.aload_n 0, 1) := by decide +kernel
theorem dX6_leaves_171 : decode cX6_leaves 171 = .ok (.getfield 65, 3) := by decide +kernel
theorem dX6_leaves_174 : decode cX6_leaves 174 = .ok (.iload_n 1, 1) := by decide +kernel
theorem dX6_leaves_175 : decode cX6_leaves 175 = .ok (.iaload, 1) := by decide +kernel
theorem dX6_leaves_176 : decode cX6_leaves 176 = .ok (.iastore, 1) := by decide +kernel
theorem dX6_leaves_177 : decode cX6_leaves 177 = .ok (.iconst 0, 1) := by decide +kernel
theorem dX6_leaves_178 : decode cX6_leaves 178 = .ok (.istore_n 2, 1) := by decide +kernel
theorem dX6_leaves_179 : decode cX6_leaves 179 = .ok (.iload_n 2, 1) := by decide +kernel
theorem dX6_leaves_180 : decode cX6_leaves 180 = .ok (.aload_n 0, 1) := by decide +kernel
theorem dX6_leaves_181 : decode cX6_leaves 181 = .ok (.getfield 68, 3) := by decide +kernel
theorem dX6_leaves_184 : decode cX6_leaves 184 = .ok (.iload_n 1, 1) := by decide +kernel
theorem dX6_leaves_185 : decode cX6_leaves 185 = .ok (.iaload, 1) := by decide +kernel
theorem dX6_leaves_186 : decode cX6_leaves 186 = .ok (.if_icmp .ge 34, 3) := by decide +kernel
theorem dX6_leaves_189 : decode cX6_leaves 189 = .ok (.aload_n 0, 1) := by decide +kernel
theorem dX6_leaves_190 : decode cX6_leaves 190 = .ok (.getfield 43, 3) := by decide +kernel
theorem dX6_leaves_193 : decode cX6_leaves 193 = .ok (.aload_n 0, 1) := by decide +kernel
theorem dX6_leaves_194 : decode cX6_leaves 194 = .ok (.getfield 71, 3) := by decide +kernel
theorem dX6_leaves_197 : decode cX6_leaves 197 = .ok (.iconst 4, 1) := by decide +kernel
theorem dX6_leaves_198 : decode cX6_leaves 198 = .ok (.iload_n 1, 1) := by decide +kernel
theorem dX6_leaves_199 : decode cX6_leaves 199 = .ok (.imul, 1) := by decide +kernel
theorem dX6_leaves_200 : decode cX6_leaves 200 = .ok (.iload_n 2, 1) := by decide +kernel
theorem dX6_leaves_201 : decode cX6_leaves 201 = .ok (.iadd, 1) := by decide +kernel
theorem dX6_leaves_202 : decode cX6_leaves 202 = .ok (.iaload, 1) := by decide +kernel
theorem dX6_leaves_203 : decode cX6_leaves 203 = .ok (.baload, 1) := by decide +kernel
theorem dX6_leaves_204 : decode cX6_leaves 204 = .ok (.ifCond .eq 10, 3) := by decide +kernel
theorem dX6_leaves_207 : decode cX6_leaves 207 = .ok (.aload_n 0, 1) := by decide +kernel
theorem dX6_leaves_208 : decode cX6_leaves 208 = .ok (.getfield 68, 3) := by decide +kernel
theorem dX6_leaves_211 : decode cX6_leaves 211 = .ok (.iload_n 1, 1) := by decide +kernel
theorem dX6_leaves_212 : decode cX6_leaves 212 = .ok (.iconst 0, 1) := by decide +kernel
theorem dX6_leaves_213 : decode cX6_leaves 213 = .ok (.iastore, 1) := by decide +kernel
theorem dX6_leaves_214 : decode cX6_leaves 214 = .ok (.iinc 2 1, 3) := by decide +kernel
theorem dX6_leaves_217 : decode cX6_leaves 217 = .ok (.goto (-38), 3) := by decide +kernel
theorem dX6_leaves_220 : decode cX6_leaves 220 = .ok (.return_, 1) := by decide +kernel
theorem dX6_removes_0 : decode cX6_removes 0 = .ok (.iconst 0, 1) := by decide +kernel
theorem dX6_removes_1 : decode cX6_removes 1 = .ok (.istore_n 1, 1) := by decide +kernel
theorem dX6_removes_2 : decode cX6_removes 2 = .ok (.iload_n 1, 1) := by decide +kernel
theorem dX6_removes_3 : decode cX6_removes 3 = .ok (.iconst 3, 1) := by decide +kernel
theorem dX6_removes_4 : decode cX6_removes 4 = .ok (.if_icmp .ge 70, 3) := by decide +kernel
theorem dX6_removes_7 : decode cX6_removes 7 = .ok (.iconst 0, 1) := by decide +kernel
theorem dX6_removes_8 : decode cX6_removes 8 = .ok (.istore_n 2, 1) := by decide +kernel
theorem dX6_removes_9 : decode cX6_removes 9 = .ok (.iconst 0, 1) := by decide +kernel
theorem dX6_removes_10 : decode cX6_removes 10 = .ok (.istore_n 3, 1) := by decide +kernel
theorem dX6_removes_11 : decode cX6_removes 11 = .ok (.iload_n 3, 1) := by decide +kernel
theorem dX6_removes_12 : decode cX6_removes 12 = .ok (.aload_n 0, 1) := by decide +kernel
theorem dX6_removes_13 : decode cX6_removes 13 = .ok (.getfield 47, 3) := by decide +kernel
theorem dX6_removes_16 : decode cX6_removes 16 = .ok (.iload_n 1, 1) := by decide +kernel
theorem dX6_removes_17 : decode cX6_removes 17 = .ok (.iaload, 1) := by decide +kernel
theorem dX6_removes_18 : decode cX6_removes 18 = .ok (.if_icmp .ge 43, 3) := by decide +kernel
theorem dX6_removes_21 : decode cX6_removes 21 = .ok (.aload_n 0, 1) := by decide +kernel
theorem dX6_removes_22 : decode cX6_removes 22 = .ok (.iload_n 1, 1) := by decide +kernel
theorem dX6_removes_23 : decode cX6_removes 23 = .ok (.iload_n 3, 1) := by decide +kernel
theorem dX6_removes_24 : decode cX6_removes 24 = .ok (.invokevirtual 157, 3) := by decide +kernel
theorem dX6_removes_27 : decode cX6_removes 27 = .ok (.istore 4, 2) := by decide +kernel
theorem dX6_removes_29 : decode cX6_removes 29 = .ok (.aload_n 0, 1) := by decide +kernel
theorem dX6_removes_30 : decode cX6_removes 30 = .ok (.getfield 43, 3) := by decide +kernel
theorem dX6_removes_33 : decode cX6_removes 33 = .ok (.iload 4, 2) := by decide +kernel
theorem dX6_removes_35 : decode cX6_removes 35 = .ok (.baload, 1) := by decide +kernel
theorem dX6_removes_36 : decode cX6_removes 36 = .ok (.ifCond .ne 19, 3) := by decide +kernel
theorem dX6_removes_39 : decode cX6_removes 39 = .ok (.aload_n 0, 1) := by decide +kernel
theorem dX6_removes_40 : decode cX6_removes 40 = .ok (.getfield 50, 3) := by decide +kernel
theorem dX6_removes_43 : decode cX6_removes 43 = .ok (.bipush 60, 2) := by decide +kernel
theorem dX6_removes_45 : decode cX6_removes 45 = .ok (.iload_n 1, 1) := by decide +kernel
theorem dX6_removes_46 : decode cX6_removes 46 = .ok (.imul, 1) := by decide +kernel
theorem dX6_removes_47 : decode cX6_removes 47 = .ok (.iload_n 2, 1) := by decide +kernel
theorem dX6_removes_48 : decode cX6_removes 48 = .ok (.iadd, 1) := by decide +kernel
theorem dX6_removes_49 : decode cX6_removes 49 = .ok (.iload 4, 2) := by decide +kernel
theorem dX6_removes_51 : decode cX6_removes 51 = .ok (.iastore, 1) := by decide +kernel
theorem dX6_removes_52 : decode cX6_removes 52 = .ok (.iinc 2 1, 3) := by decide +kernel
theorem dX6_removes_55 : decode cX6_removes 55 = .ok (.iinc 3 1, 3) := by decide +kernel
theorem dX6_removes_58 : decode cX6_removes 58 = .ok (.goto (-47), 3) := by decide +kernel
theorem dX6_removes_61 : decode cX6_removes 61 = .ok (.aload_n 0, 1) := by decide +kernel
theorem dX6_removes_62 : decode cX6_removes 62 = .ok (.getfield 47, 3) := by decide +kernel
theorem dX6_removes_65 : decode cX6_removes 65 = .ok (.iload_n 1, 1) := by decide +kernel
theorem dX6_removes_66 : decode cX6_removes 66 = .ok (.iload_n 2, 1) := by decide +kernel
theorem dX6_removes_67 : decode cX6_removes 67 = .ok (.iastore, 1) := by decide +kernel
theorem dX6_removes_68 : decode cX6_removes 68 = .ok (.iinc 1 1, 3) := by decide +kernel
theorem dX6_removes_71 : decode cX6_removes 71 = .ok (.goto (-69), 3) := by decide +kernel
theorem dX6_removes_74 : decode cX6_removes 74 = .ok (.iconst 0, 1) := by decide +kernel
theorem dX6_removes_75 : decode cX6_removes 75 = .ok (.istore_n 1, 1) := by decide +kernel
theorem dX6_removes_76 : decode cX6_removes 76 = .ok (.iload_n 1, 1) := by decide +kernel
theorem dX6_removes_77 : decode cX6_removes 77 = .ok (.bipush 60, 2) := by decide +kernel
theorem dX6_removes_79 : decode cX6_removes 79 = .ok (.if_icmp .ge 34, 3) := by decide +kernel
theorem dX6_removes_82 : decode cX6_removes 82 = .ok (.aload_n 0, 1) := by decide +kernel
theorem dX6_removes_83 : decode cX6_removes 83 = .ok (.getfield 34, 3) := by decide +kernel
theorem dX6_removes_86 : decode cX6_removes 86 = .ok (.iload_n 1, 1) := by decide +kernel
theorem dX6_removes_87 : decode cX6_removes 87 = .ok (.aload_n 0, 1) := by decide +kernel
theorem dX6_removes_88 : decode cX6_removes 88 = .ok (.getfield 43, 3) := by decide +kernel
theorem dX6_removes_91 : decode cX6_removes 91 = .ok (.iload_n 1, 1) := by decide +kernel
theorem dX6_removes_92 : decode cX6_removes 92 = .ok (.baload, 1) := by decide +kernel
theorem dX6_removes_93 : decode cX6_removes 93 = .ok (.ifCond .eq 7, 3) := by decide +kernel
theorem dX6_removes_96 : decode cX6_removes 96 = .ok (.iconst (-1), 1) := by decide +kernel
theorem dX6_removes_97 : decode cX6_removes 97 = .ok (.goto 9, 3) := by decide +kernel
theorem dX6_removes_100 : decode cX6_removes 100 = .ok (.aload_n 0, 1) := by decide +kernel
theorem dX6_removes_101 : decode cX6_removes 101 = .ok (.getfield 34, 3) := by decide +kernel
theorem dX6_removes_104 : decode cX6_removes 104 = .ok (.iload_n 1, 1) := by decide +kernel
theorem dX6_removes_105 : decode cX6_removes 105 = .ok (.iaload, 1) := by decide +kernel
theorem dX6_removes_106 : decode cX6_removes 106 = .ok (.iastore, 1) := by decide +kernel
theorem dX6_removes_107 : decode cX6_removes 107 = .ok (.iinc 1 1, 3) := by decide +kernel
theorem dX6_removes_110 : decode cX6_removes 110 = .ok (.goto (-34), 3) := by decide +kernel
theorem dX6_removes_113 : decode cX6_removes 113 = .ok (.return_, 1) := by decide +kernel
theorem dX6_deletes_0 : decode cX6_deletes 0 = .ok (.aload_n 0, 1) := by decide +kernel
theorem dX6_deletes_1 : decode cX6_deletes 1 = .ok (.getfield 209, 3) := by decide +kernel
theorem dX6_deletes_4 : decode cX6_deletes 4 = .ok (.ifCond .ne 6, 3) := by decide +kernel
theorem dX6_deletes_7 : decode cX6_deletes 7 = .ok (.bipush 6, 2) := by decide +kernel
theorem dX6_deletes_9 : decode cX6_deletes 9 = .ok (.ireturn, 1) := by decide +kernel
theorem dX6_deletes_10 : decode cX6_deletes 10 = .ok (.aload_n 0, 1) := by decide +kernel
theorem dX6_deletes_11 : decode cX6_deletes 11 = .ok (.aload_n 0, 1) := by decide +kernel
theorem dX6_deletes_12 : decode cX6_deletes 12 = .ok (.getfield 71, 3) := by decide +kernel
theorem dX6_deletes_15 : decode cX6_deletes 15 = .ok (.iconst 4, 1) := by decide +kernel
theorem dX6_deletes_16 : decode cX6_deletes 16 = .ok (.iload_n 1, 1) := by decide +kernel
theorem dX6_deletes_17 : decode cX6_deletes 17 = .ok (.imul, 1) := by decide +kernel
theorem dX6_deletes_18 : decode cX6_deletes 18 = .ok (.aload_n 0, 1) := by decide +kernel
theorem dX6_deletes_19 : decode cX6_deletes 19 = .ok (.getfield 209, 3) := by decide +kernel
theorem dX6_deletes_22 : decode cX6_deletes 22 = .ok (.iadd, 1) := by decide +kernel
theorem dX6_deletes_23 : decode cX6_deletes 23 = .ok (.iconst 1, 1) := by decide +kernel
theorem dX6_deletes_24 : decode cX6_deletes 24 = .ok (.isub, 1) := by decide +kernel
theorem dX6_deletes_25 : decode cX6_deletes 25 = .ok (.iaload, 1) := by decide +kernel
theorem dX6_deletes_26 : decode cX6_deletes 26 = .ok (.invokevirtual 283, 3) := by decide +kernel
theorem dX6_deletes_29 : decode cX6_deletes 29 = .ok (.ifCond .ne 6, 3) := by decide +kernel
theorem dX6_deletes_32 : decode cX6_deletes 32 = .ok (.bipush 12, 2) := by decide +kernel
theorem dX6_deletes_34 : decode cX6_deletes 34 = .ok (.ireturn, 1) := by decide +kernel
theorem dX6_deletes_35 : decode cX6_deletes 35 = .ok (.iconst 0, 1) := by decide +kernel
theorem dX6_deletes_36 : decode cX6_deletes 36 = .ok (.istore_n 2, 1) := by decide +kernel
theorem dX6_deletes_37 : decode cX6_deletes 37 = .ok (.iload_n 2, 1) := by decide +kernel
theorem dX6_deletes_38 : decode cX6_deletes 38 = .ok (.iconst 4, 1) := by decide +kernel
theorem dX6_deletes_39 : decode cX6_deletes 39 = .ok (.if_icmp .ge 14, 3) := by decide +kernel
theorem dX6_deletes_42 : decode cX6_deletes 42 = .ok (.aload_n 0, 1) := by decide +kernel
theorem dX6_deletes_43 : decode cX6_deletes 43 = .ok (.iload_n 2, 1) := by decide +kernel
theorem dX6_deletes_44 : decode cX6_deletes 44 = .ok (.invokevirtual 286, 3) := by decide +kernel
theorem dX6_deletes_47 : decode cX6_deletes 47 = .ok (.iinc 2 1, 3) := by decide +kernel
theorem dX6_deletes_50 : decode cX6_deletes 50 = .ok (.goto (-13), 3) := by decide +kernel
theorem dX6_deletes_53 : decode cX6_deletes 53 = .ok (.aload_n 0, 1) := by decide +kernel
theorem dX6_deletes_54 : decode cX6_deletes 54 = .ok (.invokevirtual 289, 3) := by decide +kernel
theorem dX6_deletes_57 : decode cX6_deletes 57 = .ok (.iconst 0, 1) := by decide +kernel
theorem dX6_deletes_58 : decode cX6_deletes 58 = .ok (.ireturn, 1) := by decide +kernel
theorem dX6_delete_0 : decode cX6_delete 0 = .ok (.aload_n 0, 1) := by decide +kernel
theorem dX6_delete_1 : decode cX6_delete 1 = .ok (.iload_n 1, 1) := by decide +kernel
theorem dX6_delete_2 : decode cX6_delete 2 = .ok (.invokestatic 136, 3) := by decide +kernel
theorem dX6_delete_5 : decode cX6_delete 5 = .ok (.iconst 1, 1) := by decide +kernel
theorem dX6_delete_6 : decode cX6_delete 6 = .ok (.iconst 1, 1) := by decide +kernel
theorem dX6_delete_7 : decode cX6_delete 7 = .ok (.invokevirtual 132, 3) := by decide +kernel
theorem dX6_delete_10 : decode cX6_delete 10 = .ok (.ifCond .ne 5, 3) := by decide +kernel
theorem dX6_delete_13 : decode cX6_delete 13 = .ok (.iconst 0, 1) := by decide +kernel
theorem dX6_delete_14 : decode cX6_delete 14 = .ok (.ireturn, 1) := by decide +kernel
theorem dX6_delete_15 : decode cX6_delete 15 = .ok (.aload_n 0, 1) := by decide +kernel
theorem dX6_delete_16 : decode cX6_delete 16 = .ok (.iload_n 1, 1) := by decide +kernel
theorem dX6_delete_17 : decode cX6_delete 17 = .ok (.invokevirtual 232, 3) := by decide +kernel
theorem dX6_delete_20 : decode cX6_delete 20 = .ok (.aload_n 0, 1) := by decide +kernel
theorem dX6_delete_21 : decode cX6_delete 21 = .ok (.iload_n 1, 1) := by decide +kernel
theorem dX6_delete_22 : decode cX6_delete 22 = .ok (.invokevirtual 292, 3) := by decide +kernel
theorem dX6_delete_25 : decode cX6_delete 25 = .ok (.istore_n 2, 1) := by decide +kernel
theorem dX6_delete_26 : decode cX6_delete 26 = .ok (.aload_n 0, 1) := by decide +kernel
theorem dX6_delete_27 : decode cX6_delete 27 = .ok (.invokevirtual 145, 3) := by decide +kernel
theorem dX6_delete_30 : decode cX6_delete 30 = .ok (.istore_n 3, 1) := by decide +kernel
theorem dX6_delete_31 : decode cX6_delete 31 = .ok (.iload_n 2, 1) := by decide +kernel
theorem dX6_delete_32 : decode cX6_delete 32 = .ok (.ireturn, 1) := by decide +kernel
theorem dX6_types_0 : decode cX6_types 0 = .ok (.aload_n 0, 1) := by decide +kernel
theorem dX6_types_1 : decode cX6_types 1 = .ok (.aload_n 0, 1) := by decide +kernel
theorem dX6_types_2 : decode cX6_types 2 = .ok (.getfield 119, 3) := by decide +kernel
theorem dX6_types_5 : decode cX6_types 5 = .ok (.invokevirtual 149, 3) := by decide +kernel
theorem dX6_types_8 : decode cX6_types 8 = .ok (.ireturn, 1) := by decide +kernel
theorem dX6_count_0 : decode cX6_count 0 = .ok (.aload_n 0, 1) := by decide +kernel
theorem dX6_count_1 : decode cX6_count 1 = .ok (.iload_n 1, 1) := by decide +kernel
theorem dX6_count_2 : decode cX6_count 2 = .ok (.invokestatic 122, 3) := by decide +kernel
theorem dX6_count_5 : decode cX6_count 5 = .ok (.iconst 1, 1) := by decide +kernel
theorem dX6_count_6 : decode cX6_count 6 = .ok (.iconst 1, 1) := by decide +kernel
theorem dX6_count_7 : decode cX6_count 7 = .ok (.invokevirtual 132, 3) := by decide +kernel
theorem dX6_count_10 : decode cX6_count 10 = .ok (.ifCond .eq 12, 3) := by decide +kernel
theorem dX6_count_13 : decode cX6_count 13 = .ok (.aload_n 0, 1) := by decide +kernel
theorem dX6_count_14 : decode cX6_count 14 = .ok (.getfield 47, 3) := by decide +kernel
theorem dX6_count_17 : decode cX6_count 17 = .ok (.iload_n 1, 1) := by decide +kernel
theorem dX6_count_18 : decode cX6_count 18 = .ok (.iaload, 1) := by decide +kernel
theorem dX6_count_19 : decode cX6_count 19 = .ok (.goto 4, 3) := by decide +kernel
theorem dX6_count_22 : decode cX6_count 22 = .ok (.iconst 0, 1) := by decide +kernel
theorem dX6_count_23 : decode cX6_count 23 = .ok (.ireturn, 1) := by decide +kernel
theorem dX6_isPlace_0 : decode cX6_isPlace 0 = .ok (.iload_n 1, 1) := by decide +kernel
theorem dX6_isPlace_1 : decode cX6_isPlace 1 = .ok (.invokestatic 122, 3) := by decide +kernel
theorem dX6_isPlace_4 : decode cX6_isPlace 4 = .ok (.ifCond .eq 23, 3) := by decide +kernel
theorem dX6_isPlace_7 : decode cX6_isPlace 7 = .ok (.iload_n 2, 1) := by decide +kernel
theorem dX6_isPlace_8 : decode cX6_isPlace 8 = .ok (.iconst 0, 1) := by decide +kernel
theorem dX6_isPlace_9 : decode cX6_isPlace 9 = .ok (.aload_n 0, 1) := by decide +kernel
theorem dX6_isPlace_10 : decode cX6_isPlace 10 = .ok (.getfield 47, 3) := by decide +kernel
theorem dX6_isPlace_13 : decode cX6_isPlace 13 = .ok (.iload_n 1, 1) := by decide +kernel
theorem dX6_isPlace_14 : decode cX6_isPlace 14 = .ok (.iaload, 1) := by decide +kernel
theorem dX6_isPlace_15 : decode cX6_isPlace 15 = .ok (.iconst 1, 1) := by decide +kernel
theorem dX6_isPlace_16 : decode cX6_isPlace 16 = .ok (.isub, 1) := by decide +kernel
theorem dX6_isPlace_17 : decode cX6_isPlace 17 = .ok (.invokestatic 115, 3) := by decide +kernel
theorem dX6_isPlace_20 : decode cX6_isPlace 20 = .ok (.ifCond .eq 7, 3) := by decide +kernel
theorem dX6_isPlace_23 : decode cX6_isPlace 23 = .ok (.iconst 1, 1) := by decide +kernel
theorem dX6_isPlace_24 : decode cX6_isPlace 24 = .ok (.goto 4, 3) := by decide +kernel
theorem dX6_isPlace_27 : decode cX6_isPlace 27 = .ok (.iconst 0, 1) := by decide +kernel
theorem dX6_isPlace_28 : decode cX6_isPlace 28 = .ok (.ireturn, 1) := by decide +kernel
theorem dX6_rowAt_0 : decode cX6_rowAt 0 = .ok (.aload_n 0, 1) := by decide +kernel
theorem dX6_rowAt_1 : decode cX6_rowAt 1 = .ok (.aload_n 0, 1) := by decide +kernel
theorem dX6_rowAt_2 : decode cX6_rowAt 2 = .ok (.iload_n 1, 1) := by decide +kernel
theorem dX6_rowAt_3 : decode cX6_rowAt 3 = .ok (.iload_n 2, 1) := by decide +kernel
theorem dX6_rowAt_4 : decode cX6_rowAt 4 = .ok (.invokevirtual 295, 3) := by decide +kernel
theorem dX6_rowAt_7 : decode cX6_rowAt 7 = .ok (.iconst 1, 1) := by decide +kernel
theorem dX6_rowAt_8 : decode cX6_rowAt 8 = .ok (.iconst 1, 1) := by decide +kernel
theorem dX6_rowAt_9 : decode cX6_rowAt 9 = .ok (.invokevirtual 132, 3) := by decide +kernel
theorem dX6_rowAt_12 : decode cX6_rowAt 12 = .ok (.ifCond .eq 32, 3) := by decide +kernel
theorem dX6_rowAt_15 : decode cX6_rowAt 15 = .ok (.sipush 1000, 3) := by decide +kernel
theorem dX6_rowAt_18 : decode cX6_rowAt 18 = .ok (.aload_n 0, 1) := by decide +kernel
theorem dX6_rowAt_19 : decode cX6_rowAt 19 = .ok (.getfield 34, 3) := by decide +kernel
theorem dX6_rowAt_22 : decode cX6_rowAt 22 = .ok (.aload_n 0, 1) := by decide +kernel
theorem dX6_rowAt_23 : decode cX6_rowAt 23 = .ok (.iload_n 1, 1) := by decide +kernel
theorem dX6_rowAt_24 : decode cX6_rowAt 24 = .ok (.iload_n 2, 1) := by decide +kernel
theorem dX6_rowAt_25 : decode cX6_rowAt 25 = .ok (.invokevirtual 157, 3) := by decide +kernel
theorem dX6_rowAt_28 : decode cX6_rowAt 28 = .ok (.iaload, 1) := by decide +kernel
theorem dX6_rowAt_29 : decode cX6_rowAt 29 = .ok (.imul, 1) := by decide +kernel
theorem dX6_rowAt_30 : decode cX6_rowAt 30 = .ok (.aload_n 0, 1) := by decide +kernel
theorem dX6_rowAt_31 : decode cX6_rowAt 31 = .ok (.aload_n 0, 1) := by decide +kernel
theorem dX6_rowAt_32 : decode cX6_rowAt 32 = .ok (.iload_n 1, 1) := by decide +kernel
theorem dX6_rowAt_33 : decode cX6_rowAt 33 = .ok (.iload_n 2, 1) := by decide +kernel
theorem dX6_rowAt_34 : decode cX6_rowAt 34 = .ok (.invokevirtual 157, 3) := by decide +kernel
theorem dX6_rowAt_37 : decode cX6_rowAt 37 = .ok (.invokevirtual 161, 3) := by decide +kernel
theorem dX6_rowAt_40 : decode cX6_rowAt 40 = .ok (.iadd, 1) := by decide +kernel
theorem dX6_rowAt_41 : decode cX6_rowAt 41 = .ok (.goto 4, 3) := by decide +kernel
theorem dX6_rowAt_44 : decode cX6_rowAt 44 = .ok (.iconst 0, 1) := by decide +kernel
theorem dX6_rowAt_45 : decode cX6_rowAt 45 = .ok (.ireturn, 1) := by decide +kernel
theorem dX6_rowAnew_0 : decode cX6_rowAnew 0 = .ok (.aload_n 0, 1) := by decide +kernel
theorem dX6_rowAnew_1 : decode cX6_rowAnew 1 = .ok (.iload_n 1, 1) := by decide +kernel
theorem dX6_rowAnew_2 : decode cX6_rowAnew 2 = .ok (.iload_n 2, 1) := by decide +kernel
theorem dX6_rowAnew_3 : decode cX6_rowAnew 3 = .ok (.invokevirtual 298, 3) := by decide +kernel
theorem dX6_rowAnew_6 : decode cX6_rowAnew 6 = .ok (.ireturn, 1) := by decide +kernel
theorem dX6_fieldAt_0 : decode cX6_fieldAt 0 = .ok (.aload_n 0, 1) := by decide +kernel
theorem dX6_fieldAt_1 : decode cX6_fieldAt 1 = .ok (.aload_n 0, 1) := by decide +kernel
theorem dX6_fieldAt_2 : decode cX6_fieldAt 2 = .ok (.iload_n 1, 1) := by decide +kernel
theorem dX6_fieldAt_3 : decode cX6_fieldAt 3 = .ok (.iload_n 2, 1) := by decide +kernel
theorem dX6_fieldAt_4 : decode cX6_fieldAt 4 = .ok (.invokevirtual 295, 3) := by decide +kernel
theorem dX6_fieldAt_7 : decode cX6_fieldAt 7 = .ok (.ifCond .eq 16, 3) := by decide +kernel
theorem dX6_fieldAt_10 : decode cX6_fieldAt 10 = .ok (.iload_n 3, 1) := by decide +kernel
theorem dX6_fieldAt_11 : decode cX6_fieldAt 11 = .ok (.iconst 0, 1) := by decide +kernel
theorem dX6_fieldAt_12 : decode cX6_fieldAt 12 = .ok (.iconst 2, 1) := by decide +kernel
theorem dX6_fieldAt_13 : decode cX6_fieldAt 13 = .ok (.invokestatic 115, 3) := by decide +kernel
theorem dX6_fieldAt_16 : decode cX6_fieldAt 16 = .ok (.ifCond .eq 7, 3) := by decide +kernel
theorem dX6_fieldAt_19 : decode cX6_fieldAt 19 = .ok (.iconst 1, 1) := by decide +kernel
theorem dX6_fieldAt_20 : decode cX6_fieldAt 20 = .ok (.goto 4, 3) := by decide +kernel
theorem dX6_fieldAt_23 : decode cX6_fieldAt 23 = .ok (.iconst 0, 1) := by decide +kernel
theorem dX6_fieldAt_24 : decode cX6_fieldAt 24 = .ok (.iconst 1, 1) := by decide +kernel
theorem dX6_fieldAt_25 : decode cX6_fieldAt 25 = .ok (.iconst 1, 1) := by decide +kernel
theorem dX6_fieldAt_26 : decode cX6_fieldAt 26 = .ok (.invokevirtual 132, 3) := by decide +kernel
theorem dX6_fieldAt_29 : decode cX6_fieldAt 29 = .ok (.ifCond .eq 21, 3) := by decide +kernel
theorem dX6_fieldAt_32 : decode cX6_fieldAt 32 = .ok (.aload_n 0, 1) := by decide +kernel
theorem dX6_fieldAt_33 : decode cX6_fieldAt 33 = .ok (.getfield 40, 3) := by decide +kernel
theorem dX6_fieldAt_36 : decode cX6_fieldAt 36 = .ok (.iconst 3, 1) := by decide +kernel
theorem dX6_fieldAt_37 : decode cX6_fieldAt 37 = .ok (.aload_n 0, 1) := by decide +kernel
theorem dX6_fieldAt_38 : decode cX6_fieldAt 38 = .ok (.iload_n 1, 1) := by decide +kernel
theorem dX6_fieldAt_39 : decode cX6_fieldAt 39 = .ok (.iload_n 2, 1) := by decide +kernel
theorem dX6_fieldAt_40 : decode cX6_fieldAt 40 = .ok (.invokevirtual 157, 3) := by decide +kernel
theorem dX6_fieldAt_43 : decode cX6_fieldAt 43 = .ok (.imul, 1) := by decide +kernel
theorem dX6_fieldAt_44 : decode cX6_fieldAt 44 = .ok (.iload_n 3, 1) := by decide +kernel
theorem dX6_fieldAt_45 : decode cX6_fieldAt 45 = .ok (.iadd, 1) := by decide +kernel
theorem dX6_fieldAt_46 : decode cX6_fieldAt 46 = .ok (.iaload, 1) := by decide +kernel
theorem dX6_fieldAt_47 : decode cX6_fieldAt 47 = .ok (.goto 4, 3) := by decide +kernel
theorem dX6_fieldAt_50 : decode cX6_fieldAt 50 = .ok (.iconst 0, 1) := by decide +kernel
theorem dX6_fieldAt_51 : decode cX6_fieldAt 51 = .ok (.ireturn, 1) := by decide +kernel
theorem dX6_at_0 : decode cX6_at 0 = .ok (.aload_n 0, 1) := by decide +kernel
theorem dX6_at_1 : decode cX6_at 1 = .ok (.iload_n 1, 1) := by decide +kernel
theorem dX6_at_2 : decode cX6_at 2 = .ok (.invokestatic 136, 3) := by decide +kernel
theorem dX6_at_5 : decode cX6_at 5 = .ok (.iconst 1, 1) := by decide +kernel
theorem dX6_at_6 : decode cX6_at 6 = .ok (.iconst 1, 1) := by decide +kernel
theorem dX6_at_7 : decode cX6_at 7 = .ok (.invokevirtual 132, 3) := by decide +kernel
theorem dX6_at_10 : decode cX6_at 10 = .ok (.ifCond .ne 5, 3) := by decide +kernel
theorem dX6_at_13 : decode cX6_at 13 = .ok (.iconst 0, 1) := by decide +kernel
theorem dX6_at_14 : decode cX6_at 14 = .ok (.ireturn, 1) := by decide +kernel
theorem dX6_at_15 : decode cX6_at 15 = .ok (.aload_n 0, 1) := by decide +kernel
theorem dX6_at_16 : decode cX6_at 16 = .ok (.getfield 59, 3) := by decide +kernel
theorem dX6_at_19 : decode cX6_at 19 = .ok (.iload_n 1, 1) := by decide +kernel
theorem dX6_at_20 : decode cX6_at 20 = .ok (.iaload, 1) := by decide +kernel
theorem dX6_at_21 : decode cX6_at 21 = .ok (.ifCond .ne 16, 3) := by decide +kernel
theorem dX6_at_24 : decode cX6_at 24 = .ok (.aload_n 0, 1) := by decide +kernel
theorem dX6_at_25 : decode cX6_at 25 = .ok (.aload_n 0, 1) := by decide +kernel
theorem dX6_at_26 : decode cX6_at 26 = .ok (.getfield 62, 3) := by decide +kernel
theorem dX6_at_29 : decode cX6_at 29 = .ok (.iload_n 1, 1) := by decide +kernel
theorem dX6_at_30 : decode cX6_at 30 = .ok (.iaload, 1) := by decide +kernel
theorem dX6_at_31 : decode cX6_at 31 = .ok (.invokevirtual 167, 3) := by decide +kernel
theorem dX6_at_34 : decode cX6_at 34 = .ok (.goto 4, 3) := by decide +kernel
theorem dX6_at_37 : decode cX6_at 37 = .ok (.iconst (-1), 1) := by decide +kernel
theorem dX6_at_38 : decode cX6_at 38 = .ok (.ireturn, 1) := by decide +kernel
theorem dX6_ahead_0 : decode cX6_ahead 0 = .ok (.aload_n 0, 1) := by decide +kernel
theorem dX6_ahead_1 : decode cX6_ahead 1 = .ok (.iload_n 1, 1) := by decide +kernel
theorem dX6_ahead_2 : decode cX6_ahead 2 = .ok (.invokestatic 136, 3) := by decide +kernel
theorem dX6_ahead_5 : decode cX6_ahead 5 = .ok (.iconst 1, 1) := by decide +kernel
theorem dX6_ahead_6 : decode cX6_ahead 6 = .ok (.iconst 1, 1) := by decide +kernel
theorem dX6_ahead_7 : decode cX6_ahead 7 = .ok (.invokevirtual 132, 3) := by decide +kernel
theorem dX6_ahead_10 : decode cX6_ahead 10 = .ok (.ifCond .ne 5, 3) := by decide +kernel
theorem dX6_ahead_13 : decode cX6_ahead 13 = .ok (.iconst 0, 1) := by decide +kernel
theorem dX6_ahead_14 : decode cX6_ahead 14 = .ok (.ireturn, 1) := by decide +kernel
theorem dX6_ahead_15 : decode cX6_ahead 15 = .ok (.aload_n 0, 1) := by decide +kernel
theorem dX6_ahead_16 : decode cX6_ahead 16 = .ok (.getfield 59, 3) := by decide +kernel
theorem dX6_ahead_19 : decode cX6_ahead 19 = .ok (.iload_n 1, 1) := by decide +kernel
theorem dX6_ahead_20 : decode cX6_ahead 20 = .ok (.iaload, 1) := by decide +kernel
theorem dX6_ahead_21 : decode cX6_ahead 21 = .ok (.iconst 1, 1) := by decide +kernel
theorem dX6_ahead_22 : decode cX6_ahead 22 = .ok (.if_icmp .gt 16, 3) := by decide +kernel
theorem dX6_ahead_25 : decode cX6_ahead 25 = .ok (.aload_n 0, 1) := by decide +kernel
theorem dX6_ahead_26 : decode cX6_ahead 26 = .ok (.aload_n 0, 1) := by decide +kernel
theorem dX6_ahead_27 : decode cX6_ahead 27 = .ok (.getfield 62, 3) := by decide +kernel
theorem dX6_ahead_30 : decode cX6_ahead 30 = .ok (.iload_n 1, 1) := by decide +kernel
theorem dX6_ahead_31 : decode cX6_ahead 31 = .ok (.iaload, 1) := by decide +kernel
theorem dX6_ahead_32 : decode cX6_ahead 32 = .ok (.invokevirtual 167, 3) := by decide +kernel
theorem dX6_ahead_35 : decode cX6_ahead 35 = .ok (.goto 28, 3) := by decide +kernel
theorem dX6_ahead_38 : decode cX6_ahead 38 = .ok (.aload_n 0, 1) := by decide +kernel
theorem dX6_ahead_39 : decode cX6_ahead 39 = .ok (.getfield 59, 3) := by decide +kernel
theorem dX6_ahead_42 : decode cX6_ahead 42 = .ok (.iload_n 1, 1) := by decide +kernel
theorem dX6_ahead_43 : decode cX6_ahead 43 = .ok (.iaload, 1) := by decide +kernel
theorem dX6_ahead_44 : decode cX6_ahead 44 = .ok (.iconst 2, 1) := by decide +kernel
theorem dX6_ahead_45 : decode cX6_ahead 45 = .ok (.if_icmp .ne 7, 3) := by decide +kernel
theorem dX6_ahead_48 : decode cX6_ahead 48 = .ok (.iconst 0, 1) := by decide +kernel
theorem dX6_ahead_49 : decode cX6_ahead 49 = .ok (.goto 14, 3) := by decide +kernel
theorem dX6_ahead_52 : decode cX6_ahead 52 = .ok (.aload_n 0, 1) := by decide +kernel
theorem dX6_ahead_53 : decode cX6_ahead 53 = .ok (.getfield 47, 3) := by decide +kernel
theorem dX6_ahead_56 : decode cX6_ahead 56 = .ok (.aload_n 0, 1) := by decide +kernel
theorem dX6_ahead_57 : decode cX6_ahead 57 = .ok (.getfield 53, 3) := by decide +kernel
theorem dX6_ahead_60 : decode cX6_ahead 60 = .ok (.iload_n 1, 1) := by decide +kernel
theorem dX6_ahead_61 : decode cX6_ahead 61 = .ok (.iaload, 1) := by decide +kernel
theorem dX6_ahead_62 : decode cX6_ahead 62 = .ok (.iaload, 1) := by decide +kernel
theorem dX6_ahead_63 : decode cX6_ahead 63 = .ok (.ireturn, 1) := by decide +kernel
theorem dX6_parent_0 : decode cX6_parent 0 = .ok (.aload_n 0, 1) := by decide +kernel
theorem dX6_parent_1 : decode cX6_parent 1 = .ok (.iload_n 1, 1) := by decide +kernel
theorem dX6_parent_2 : decode cX6_parent 2 = .ok (.invokestatic 136, 3) := by decide +kernel
theorem dX6_parent_5 : decode cX6_parent 5 = .ok (.iconst 1, 1) := by decide +kernel
theorem dX6_parent_6 : decode cX6_parent 6 = .ok (.iconst 1, 1) := by decide +kernel
theorem dX6_parent_7 : decode cX6_parent 7 = .ok (.invokevirtual 132, 3) := by decide +kernel
theorem dX6_parent_10 : decode cX6_parent 10 = .ok (.ifCond .ne 5, 3) := by decide +kernel
theorem dX6_parent_13 : decode cX6_parent 13 = .ok (.iconst 0, 1) := by decide +kernel
theorem dX6_parent_14 : decode cX6_parent 14 = .ok (.ireturn, 1) := by decide +kernel
theorem dX6_parent_15 : decode cX6_parent 15 = .ok (.aload_n 0, 1) := by decide +kernel
theorem dX6_parent_16 : decode cX6_parent 16 = .ok (.getfield 65, 3) := by decide +kernel
theorem dX6_parent_19 : decode cX6_parent 19 = .ok (.iload_n 1, 1) := by decide +kernel
theorem dX6_parent_20 : decode cX6_parent 20 = .ok (.iaload, 1) := by decide +kernel
theorem dX6_parent_21 : decode cX6_parent 21 = .ok (.iconst (-1), 1) := by decide +kernel
theorem dX6_parent_22 : decode cX6_parent 22 = .ok (.if_icmp .ne 7, 3) := by decide +kernel
theorem dX6_parent_25 : decode cX6_parent 25 = .ok (.iconst (-1), 1) := by decide +kernel
theorem dX6_parent_26 : decode cX6_parent 26 = .ok (.goto 13, 3) := by decide +kernel
theorem dX6_parent_29 : decode cX6_parent 29 = .ok (.aload_n 0, 1) := by decide +kernel
theorem dX6_parent_30 : decode cX6_parent 30 = .ok (.aload_n 0, 1) := by decide +kernel
theorem dX6_parent_31 : decode cX6_parent 31 = .ok (.getfield 65, 3) := by decide +kernel
theorem dX6_parent_34 : decode cX6_parent 34 = .ok (.iload_n 1, 1) := by decide +kernel
theorem dX6_parent_35 : decode cX6_parent 35 = .ok (.iaload, 1) := by decide +kernel
theorem dX6_parent_36 : decode cX6_parent 36 = .ok (.invokevirtual 167, 3) := by decide +kernel
theorem dX6_parent_39 : decode cX6_parent 39 = .ok (.ireturn, 1) := by decide +kernel
theorem dX6_holds_0 : decode cX6_holds 0 = .ok (.aload_n 0, 1) := by decide +kernel
theorem dX6_holds_1 : decode cX6_holds 1 = .ok (.iload_n 1, 1) := by decide +kernel
theorem dX6_holds_2 : decode cX6_holds 2 = .ok (.invokestatic 136, 3) := by decide +kernel
theorem dX6_holds_5 : decode cX6_holds 5 = .ok (.iconst 1, 1) := by decide +kernel
theorem dX6_holds_6 : decode cX6_holds 6 = .ok (.iconst 1, 1) := by decide +kernel
theorem dX6_holds_7 : decode cX6_holds 7 = .ok (.invokevirtual 132, 3) := by decide +kernel
theorem dX6_holds_10 : decode cX6_holds 10 = .ok (.ifCond .eq 12, 3) := by decide +kernel
theorem dX6_holds_13 : decode cX6_holds 13 = .ok (.aload_n 0, 1) := by decide +kernel
theorem dX6_holds_14 : decode cX6_holds 14 = .ok (.getfield 68, 3) := by decide +kernel
theorem dX6_holds_17 : decode cX6_holds 17 = .ok (.iload_n 1, 1) := by decide +kernel
theorem dX6_holds_18 : decode cX6_holds 18 = .ok (.iaload, 1) := by decide +kernel
theorem dX6_holds_19 : decode cX6_holds 19 = .ok (.goto 4, 3) := by decide +kernel
theorem dX6_holds_22 : decode cX6_holds 22 = .ok (.iconst 0, 1) := by decide +kernel
theorem dX6_holds_23 : decode cX6_holds 23 = .ok (.ireturn, 1) := by decide +kernel
theorem dX6_keys_0 : decode cX6_keys 0 = .ok (.aload_n 0, 1) := by decide +kernel
theorem dX6_keys_1 : decode cX6_keys 1 = .ok (.iload_n 1, 1) := by decide +kernel
theorem dX6_keys_2 : decode cX6_keys 2 = .ok (.invokestatic 136, 3) := by decide +kernel
theorem dX6_keys_5 : decode cX6_keys 5 = .ok (.iconst 1, 1) := by decide +kernel
theorem dX6_keys_6 : decode cX6_keys 6 = .ok (.iconst 1, 1) := by decide +kernel
theorem dX6_keys_7 : decode cX6_keys 7 = .ok (.invokevirtual 132, 3) := by decide +kernel
theorem dX6_keys_10 : decode cX6_keys 10 = .ok (.ifCond .eq 12, 3) := by decide +kernel
theorem dX6_keys_13 : decode cX6_keys 13 = .ok (.aload_n 0, 1) := by decide +kernel
theorem dX6_keys_14 : decode cX6_keys 14 = .ok (.getfield 59, 3) := by decide +kernel
theorem dX6_keys_17 : decode cX6_keys 17 = .ok (.iload_n 1, 1) := by decide +kernel
theorem dX6_keys_18 : decode cX6_keys 18 = .ok (.iaload, 1) := by decide +kernel
theorem dX6_keys_19 : decode cX6_keys 19 = .ok (.ifCond .eq 18, 3) := by decide +kernel
theorem dX6_keys_22 : decode cX6_keys 22 = .ok (.aload_n 0, 1) := by decide +kernel
theorem dX6_keys_23 : decode cX6_keys 23 = .ok (.getfield 111, 3) := by decide +kernel
theorem dX6_keys_26 : decode cX6_keys 26 = .ok (.ifCond .ne 9, 3) := by decide +kernel
theorem dX6_keys_29 : decode cX6_keys 29 = .ok (.ldc2_w 301, 3) := by decide +kernel
theorem dX6_keys_32 : decode cX6_keys 32 = .ok (.goto 4, 3) := by decide +kernel
theorem dX6_keys_35 : decode cX6_keys 35 = .ok (.lconst 0, 1) := by decide +kernel
theorem dX6_keys_36 : decode cX6_keys 36 = .ok (.lreturn, 1) := by decide +kernel
theorem dX6_keys_37 : decode cX6_keys 37 = .ok (.lconst 0, 1) := by decide +kernel
theorem dX6_keys_38 : decode cX6_keys 38 = .ok (.lstore_n 2, 1) := by decide +kernel
theorem dX6_keys_39 : decode cX6_keys 39 = .ok (.iconst 1, 1) := by decide +kernel
theorem dX6_keys_40 : decode cX6_keys 40 = .ok (.istore 4, 2) := by decide +kernel
theorem dX6_keys_42 : decode cX6_keys 42 = .ok (.iload 4, 2) := by decide +kernel
theorem dX6_keys_44 : decode cX6_keys 44 = .ok (.aload_n 0, 1) := by decide +kernel
theorem dX6_keys_45 : decode cX6_keys 45 = .ok (.getfield 22, 3) := by decide +kernel
theorem dX6_keys_48 : decode cX6_keys 48 = .ok (.aload_n 0, 1) := by decide +kernel
theorem dX6_keys_49 : decode cX6_keys 49 = .ok (.getfield 34, 3) := by decide +kernel
theorem dX6_keys_52 : decode cX6_keys 52 = .ok (.aload_n 0, 1) := by decide +kernel
theorem dX6_keys_53 : decode cX6_keys 53 = .ok (.getfield 62, 3) := by decide +kernel
theorem dX6_keys_56 : decode cX6_keys 56 = .ok (.iload_n 1, 1) := by decide +kernel
theorem dX6_keys_57 : decode cX6_keys 57 = .ok (.iaload, 1) := by decide +kernel
theorem dX6_keys_58 : decode cX6_keys 58 = .ok (.iaload, 1) := by decide +kernel
theorem dX6_keys_59 : decode cX6_keys 59 = .ok (.iaload, 1) := by decide +kernel
theorem dX6_keys_60 : decode cX6_keys 60 = .ok (.if_icmp .gt 60, 3) := by decide +kernel
theorem dX6_keys_63 : decode cX6_keys 63 = .ok (.aload_n 0, 1) := by decide +kernel
theorem dX6_keys_64 : decode cX6_keys 64 = .ok (.getfield 62, 3) := by decide +kernel
theorem dX6_keys_67 : decode cX6_keys 67 = .ok (.iload_n 1, 1) := by decide +kernel
theorem dX6_keys_68 : decode cX6_keys 68 = .ok (.iaload, 1) := by decide +kernel
theorem dX6_keys_69 : decode cX6_keys 69 = .ok (.istore 5, 2) := by decide +kernel
theorem dX6_keys_71 : decode cX6_keys 71 = .ok (.aload_n 0, 1) := by decide +kernel
theorem dX6_keys_72 : decode cX6_keys 72 = .ok (.getfield 22, 3) := by decide +kernel
theorem dX6_keys_75 : decode cX6_keys 75 = .ok (.aload_n 0, 1) := by decide +kernel
theorem dX6_keys_76 : decode cX6_keys 76 = .ok (.getfield 34, 3) := by decide +kernel
theorem dX6_keys_79 : decode cX6_keys 79 = .ok (.iload 5, 2) := by decide +kernel
theorem dX6_keys_81 : decode cX6_keys 81 = .ok (.iaload, 1) := by decide +kernel
theorem dX6_keys_82 : decode cX6_keys 82 = .ok (.iaload, 1) := by decide +kernel
theorem dX6_keys_83 : decode cX6_keys 83 = .ok (.iload 4, 2) := by decide +kernel
theorem dX6_keys_85 : decode cX6_keys 85 = .ok (.if_icmp .le 15, 3) := by decide +kernel
theorem dX6_keys_88 : decode cX6_keys 88 = .ok (.aload_n 0, 1) := by decide +kernel
theorem dX6_keys_89 : decode cX6_keys 89 = .ok (.getfield 37, 3) := by decide +kernel
theorem dX6_keys_92 : decode cX6_keys 92 = .ok (.iload 5, 2) := by decide +kernel
theorem dX6_keys_94 : decode cX6_keys 94 = .ok (.iaload, 1) := by decide +kernel
theorem dX6_keys_95 : decode cX6_keys 95 = .ok (.istore 5, 2) := by decide +kernel
theorem dX6_keys_97 : decode cX6_keys 97 = .ok (.goto (-26), 3) := by decide +kernel
theorem dX6_keys_100 : decode cX6_keys 100 = .ok (.ldc2_w 303, 3) := by decide +kernel
theorem dX6_keys_103 : decode cX6_keys 103 = .ok (.lload_n 2, 1) := by decide +kernel
theorem dX6_keys_104 : decode cX6_keys 104 = .ok (.lmul, 1) := by decide +kernel
theorem dX6_keys_105 : decode cX6_keys 105 = .ok (.aload_n 0, 1) := by decide +kernel
theorem dX6_keys_106 : decode cX6_keys 106 = .ok (.iload 5, 2) := by decide +kernel
theorem dX6_keys_108 : decode cX6_keys 108 = .ok (.invokevirtual 161, 3) := by decide +kernel
theorem dX6_keys_111 : decode cX6_keys 111 = .ok (.i2l, 1) := by decide +kernel
theorem dX6_keys_112 : decode cX6_keys 112 = .ok (.ladd, 1) := by decide +kernel
theorem dX6_keys_113 : decode cX6_keys 113 = .ok (.lstore_n 2, 1) := by decide +kernel
theorem dX6_keys_114 : decode cX6_keys 114 = .ok (.iinc 4 1, 3) := by decide +kernel
theorem dX6_keys_117 : decode cX6_keys 117 = .ok (.goto (-75), 3) := by decide +kernel
theorem dX6_keys_120 : decode cX6_keys 120 = .ok (.lload_n 2, 1) := by decide +kernel
theorem dX6_keys_121 : decode cX6_keys 121 = .ok (.lreturn, 1) := by decide +kernel
theorem dX6_second_0 : decode cX6_second 0 = .ok (.aload_n 0, 1) := by decide +kernel
theorem dX6_second_1 : decode cX6_second 1 = .ok (.iload_n 1, 1) := by decide +kernel
theorem dX6_second_2 : decode cX6_second 2 = .ok (.invokestatic 136, 3) := by decide +kernel
theorem dX6_second_5 : decode cX6_second 5 = .ok (.iconst 1, 1) := by decide +kernel
theorem dX6_second_6 : decode cX6_second 6 = .ok (.iconst 1, 1) := by decide +kernel
theorem dX6_second_7 : decode cX6_second 7 = .ok (.invokevirtual 132, 3) := by decide +kernel
theorem dX6_second_10 : decode cX6_second 10 = .ok (.ifCond .eq 12, 3) := by decide +kernel
theorem dX6_second_13 : decode cX6_second 13 = .ok (.aload_n 0, 1) := by decide +kernel
theorem dX6_second_14 : decode cX6_second 14 = .ok (.getfield 59, 3) := by decide +kernel
theorem dX6_second_17 : decode cX6_second 17 = .ok (.iload_n 1, 1) := by decide +kernel
theorem dX6_second_18 : decode cX6_second 18 = .ok (.iaload, 1) := by decide +kernel
theorem dX6_second_19 : decode cX6_second 19 = .ok (.ifCond .eq 16, 3) := by decide +kernel
theorem dX6_second_22 : decode cX6_second 22 = .ok (.aload_n 0, 1) := by decide +kernel
theorem dX6_second_23 : decode cX6_second 23 = .ok (.getfield 111, 3) := by decide +kernel
theorem dX6_second_26 : decode cX6_second 26 = .ok (.ifCond .ne 7, 3) := by decide +kernel
theorem dX6_second_29 : decode cX6_second 29 = .ok (.iconst (-1), 1) := by decide +kernel
theorem dX6_second_30 : decode cX6_second 30 = .ok (.goto 4, 3) := by decide +kernel
theorem dX6_second_33 : decode cX6_second 33 = .ok (.iconst 0, 1) := by decide +kernel
theorem dX6_second_34 : decode cX6_second 34 = .ok (.ireturn, 1) := by decide +kernel
theorem dX6_second_35 : decode cX6_second 35 = .ok (.aload_n 0, 1) := by decide +kernel
theorem dX6_second_36 : decode cX6_second 36 = .ok (.aload_n 0, 1) := by decide +kernel
theorem dX6_second_37 : decode cX6_second 37 = .ok (.getfield 62, 3) := by decide +kernel
theorem dX6_second_40 : decode cX6_second 40 = .ok (.iload_n 1, 1) := by decide +kernel
theorem dX6_second_41 : decode cX6_second 41 = .ok (.iaload, 1) := by decide +kernel
theorem dX6_second_42 : decode cX6_second 42 = .ok (.invokevirtual 280, 3) := by decide +kernel
theorem dX6_second_45 : decode cX6_second 45 = .ok (.istore_n 2, 1) := by decide +kernel
theorem dX6_second_46 : decode cX6_second 46 = .ok (.iload_n 2, 1) := by decide +kernel
theorem dX6_second_47 : decode cX6_second 47 = .ok (.iconst (-1), 1) := by decide +kernel
theorem dX6_second_48 : decode cX6_second 48 = .ok (.if_icmp .ne 7, 3) := by decide +kernel
theorem dX6_second_51 : decode cX6_second 51 = .ok (.iconst (-1), 1) := by decide +kernel
theorem dX6_second_52 : decode cX6_second 52 = .ok (.goto 8, 3) := by decide +kernel
theorem dX6_second_55 : decode cX6_second 55 = .ok (.aload_n 0, 1) := by decide +kernel
theorem dX6_second_56 : decode cX6_second 56 = .ok (.iload_n 2, 1) := by decide +kernel
theorem dX6_second_57 : decode cX6_second 57 = .ok (.invokevirtual 167, 3) := by decide +kernel
theorem dX6_second_60 : decode cX6_second 60 = .ok (.ireturn, 1) := by decide +kernel
theorem dX6_tied_0 : decode cX6_tied 0 = .ok (.iconst 0, 1) := by decide +kernel
theorem dX6_tied_1 : decode cX6_tied 1 = .ok (.istore_n 2, 1) := by decide +kernel
theorem dX6_tied_2 : decode cX6_tied 2 = .ok (.aload_n 0, 1) := by decide +kernel
theorem dX6_tied_3 : decode cX6_tied 3 = .ok (.iload_n 1, 1) := by decide +kernel
theorem dX6_tied_4 : decode cX6_tied 4 = .ok (.invokestatic 136, 3) := by decide +kernel
theorem dX6_tied_7 : decode cX6_tied 7 = .ok (.iconst 1, 1) := by decide +kernel
theorem dX6_tied_8 : decode cX6_tied 8 = .ok (.iconst 1, 1) := by decide +kernel
theorem dX6_tied_9 : decode cX6_tied 9 = .ok (.invokevirtual 132, 3) := by decide +kernel
theorem dX6_tied_12 : decode cX6_tied 12 = .ok (.ifCond .eq 16, 3) := by decide +kernel
theorem dX6_tied_15 : decode cX6_tied 15 = .ok (.aload_n 0, 1) := by decide +kernel
theorem dX6_tied_16 : decode cX6_tied 16 = .ok (.getfield 59, 3) := by decide +kernel
theorem dX6_tied_19 : decode cX6_tied 19 = .ok (.iload_n 1, 1) := by decide +kernel
theorem dX6_tied_20 : decode cX6_tied 20 = .ok (.iaload, 1) := by decide +kernel
theorem dX6_tied_21 : decode cX6_tied 21 = .ok (.ifCond .ne 7, 3) := by decide +kernel
theorem dX6_tied_24 : decode cX6_tied 24 = .ok (.iconst 1, 1) := by decide +kernel
theorem dX6_tied_25 : decode cX6_tied 25 = .ok (.goto 4, 3) := by decide +kernel
theorem dX6_tied_28 : decode cX6_tied 28 = .ok (.iconst 0, 1) := by decide +kernel
theorem dX6_tied_29 : decode cX6_tied 29 = .ok (.istore_n 3, 1) := by decide +kernel
theorem dX6_tied_30 : decode cX6_tied 30 = .ok (.iconst 0, 1) := by decide +kernel
theorem dX6_tied_31 : decode cX6_tied 31 = .ok (.istore 4, 2) := by decide +kernel
theorem dX6_tied_33 : decode cX6_tied 33 = .ok (.iload 4, 2) := by decide +kernel
theorem dX6_tied_35 : decode cX6_tied 35 = .ok (.bipush 60, 2) := by decide +kernel
theorem dX6_tied_37 : decode cX6_tied 37 = .ok (.if_icmp .ge 63, 3) := by decide +kernel
theorem dX6_tied_40 : decode cX6_tied 40 = .ok (.iload_n 3, 1) := by decide +kernel
theorem dX6_tied_41 : decode cX6_tied 41 = .ok (.ifCond .eq 59, 3) := by decide +kernel
theorem dX6_tied_44 : decode cX6_tied 44 = .ok (.iload_n 2, 1) := by decide +kernel
theorem dX6_tied_45 : decode cX6_tied 45 = .ok (.aload_n 0, 1) := by decide +kernel
theorem dX6_tied_46 : decode cX6_tied 46 = .ok (.getfield 34, 3) := by decide +kernel
theorem dX6_tied_49 : decode cX6_tied 49 = .ok (.iload 4, 2) := by decide +kernel
theorem dX6_tied_51 : decode cX6_tied 51 = .ok (.iaload, 1) := by decide +kernel
theorem dX6_tied_52 : decode cX6_tied 52 = .ok (.iconst (-1), 1) := by decide +kernel
theorem dX6_tied_53 : decode cX6_tied 53 = .ok (.if_icmp .eq 38, 3) := by decide +kernel
theorem dX6_tied_56 : decode cX6_tied 56 = .ok (.aload_n 0, 1) := by decide +kernel
theorem dX6_tied_57 : decode cX6_tied 57 = .ok (.getfield 25, 3) := by decide +kernel
theorem dX6_tied_60 : decode cX6_tied 60 = .ok (.aload_n 0, 1) := by decide +kernel
theorem dX6_tied_61 : decode cX6_tied 61 = .ok (.getfield 34, 3) := by decide +kernel
theorem dX6_tied_64 : decode cX6_tied 64 = .ok (.iload 4, 2) := by decide +kernel
theorem dX6_tied_66 : decode cX6_tied 66 = .ok (.iaload, 1) := by decide +kernel
theorem dX6_tied_67 : decode cX6_tied 67 = .ok (.iaload, 1) := by decide +kernel
theorem dX6_tied_68 : decode cX6_tied 68 = .ok (.iconst (-1), 1) := by decide +kernel
theorem dX6_tied_69 : decode cX6_tied 69 = .ok (.if_icmp .eq 22, 3) := by decide +kernel
theorem dX6_tied_72 : decode cX6_tied 72 = .ok (.aload_n 0, 1) := by decide +kernel
theorem dX6_tied_73 : decode cX6_tied 73 = .ok (.iload 4, 2) := by decide +kernel
theorem dX6_tied_75 : decode cX6_tied 75 = .ok (.invokevirtual 280, 3) := by decide +kernel
theorem dX6_tied_78 : decode cX6_tied 78 = .ok (.aload_n 0, 1) := by decide +kernel
theorem dX6_tied_79 : decode cX6_tied 79 = .ok (.getfield 62, 3) := by decide +kernel
theorem dX6_tied_82 : decode cX6_tied 82 = .ok (.iload_n 1, 1) := by decide +kernel
theorem dX6_tied_83 : decode cX6_tied 83 = .ok (.iaload, 1) := by decide +kernel
theorem dX6_tied_84 : decode cX6_tied 84 = .ok (.if_icmp .ne 7, 3) := by decide +kernel
theorem dX6_tied_87 : decode cX6_tied 87 = .ok (.iconst 1, 1) := by decide +kernel
theorem dX6_tied_88 : decode cX6_tied 88 = .ok (.goto 4, 3) := by decide +kernel
theorem dX6_tied_91 : decode cX6_tied 91 = .ok (.iconst 0, 1) := by decide +kernel
theorem dX6_tied_92 : decode cX6_tied 92 = .ok (.iadd, 1) := by decide +kernel
theorem dX6_tied_93 : decode cX6_tied 93 = .ok (.istore_n 2, 1) := by decide +kernel
theorem dX6_tied_94 : decode cX6_tied 94 = .ok (.iinc 4 1, 3) := by decide +kernel
theorem dX6_tied_97 : decode cX6_tied 97 = .ok (.goto (-64), 3) := by decide +kernel
theorem dX6_tied_100 : decode cX6_tied 100 = .ok (.iload_n 2, 1) := by decide +kernel
theorem dX6_tied_101 : decode cX6_tied 101 = .ok (.ireturn, 1) := by decide +kernel
theorem dJ9_max_7cf53_0 : decode cJ9_max_7cf53 0 = .ok (.iload_n 0, 1) := by decide +kernel
theorem dJ9_max_7cf53_1 : decode cJ9_max_7cf53 1 = .ok (.iload_n 1, 1) := by decide +kernel
theorem dJ9_max_7cf53_2 : decode cJ9_max_7cf53 2 = .ok (.if_icmp .lt 7, 3) := by decide +kernel
theorem dJ9_max_7cf53_5 : decode cJ9_max_7cf53 5 = .ok (.iload_n 0, 1) := by decide +kernel
theorem dJ9_max_7cf53_6 : decode cJ9_max_7cf53 6 = .ok (.goto 4, 3) := by decide +kernel
theorem dJ9_max_7cf53_9 : decode cJ9_max_7cf53 9 = .ok (.iload_n 1, 1) := by decide +kernel
theorem dJ9_max_7cf53_10 : decode cJ9_max_7cf53 10 = .ok (.ireturn, 1) := by decide +kernel
theorem dL_type_0 : decode cL_type 0 = .ok (.aload 5, 2) := by decide +kernel
theorem dL_type_2 : decode cL_type 2 = .ok (.iconst 0, 1) := by decide +kernel
theorem dL_type_3 : decode cL_type 3 = .ok (.aload_n 0, 1) := by decide +kernel
theorem dL_type_4 : decode cL_type 4 = .ok (.iload_n 1, 1) := by decide +kernel
theorem dL_type_5 : decode cL_type 5 = .ok (.iload_n 2, 1) := by decide +kernel
theorem dL_type_6 : decode cL_type 6 = .ok (.iload_n 3, 1) := by decide +kernel
theorem dL_type_7 : decode cL_type 7 = .ok (.iload 4, 2) := by decide +kernel
theorem dL_type_9 : decode cL_type 9 = .ok (.invokevirtual 7, 3) := by decide +kernel
theorem dL_type_12 : decode cL_type 12 = .ok (.i2l, 1) := by decide +kernel
theorem dL_type_13 : decode cL_type 13 = .ok (.lastore, 1) := by decide +kernel
theorem dL_type_14 : decode cL_type 14 = .ok (.goto 15, 3) := by decide +kernel
theorem dL_type_17 : decode cL_type 17 = .ok (.astore 6, 2) := by decide +kernel
theorem dL_type_19 : decode cL_type 19 = .ok (.iconst 1, 1) := by decide +kernel
theorem dL_type_20 : decode cL_type 20 = .ok (.ireturn, 1) := by decide +kernel
theorem dL_type_21 : decode cL_type 21 = .ok (.astore 6, 2) := by decide +kernel
theorem dL_type_23 : decode cL_type 23 = .ok (.iconst 2, 1) := by decide +kernel
theorem dL_type_24 : decode cL_type 24 = .ok (.ireturn, 1) := by decide +kernel
theorem dL_type_25 : decode cL_type 25 = .ok (.astore 6, 2) := by decide +kernel
theorem dL_type_27 : decode cL_type 27 = .ok (.iconst 3, 1) := by decide +kernel
theorem dL_type_28 : decode cL_type 28 = .ok (.ireturn, 1) := by decide +kernel
theorem dL_type_29 : decode cL_type 29 = .ok (.iconst 0, 1) := by decide +kernel
theorem dL_type_30 : decode cL_type 30 = .ok (.ireturn, 1) := by decide +kernel
theorem dL_tie_0 : decode cL_tie 0 = .ok (.aload_n 0, 1) := by decide +kernel
theorem dL_tie_1 : decode cL_tie 1 = .ok (.iload_n 1, 1) := by decide +kernel
theorem dL_tie_2 : decode cL_tie 2 = .ok (.iload_n 2, 1) := by decide +kernel
theorem dL_tie_3 : decode cL_tie 3 = .ok (.iload_n 3, 1) := by decide +kernel
theorem dL_tie_4 : decode cL_tie 4 = .ok (.iload 4, 2) := by decide +kernel
theorem dL_tie_6 : decode cL_tie 6 = .ok (.invokevirtual 19, 3) := by decide +kernel
theorem dL_tie_9 : decode cL_tie 9 = .ok (.goto 15, 3) := by decide +kernel
theorem dL_tie_12 : decode cL_tie 12 = .ok (.astore 5, 2) := by decide +kernel
theorem dL_tie_14 : decode cL_tie 14 = .ok (.iconst 1, 1) := by decide +kernel
theorem dL_tie_15 : decode cL_tie 15 = .ok (.ireturn, 1) := by decide +kernel
theorem dL_tie_16 : decode cL_tie 16 = .ok (.astore 5, 2) := by decide +kernel
theorem dL_tie_18 : decode cL_tie 18 = .ok (.iconst 2, 1) := by decide +kernel
theorem dL_tie_19 : decode cL_tie 19 = .ok (.ireturn, 1) := by decide +kernel
theorem dL_tie_20 : decode cL_tie 20 = .ok (.astore 5, 2) := by decide +kernel
theorem dL_tie_22 : decode cL_tie 22 = .ok (.iconst 3, 1) := by decide +kernel
theorem dL_tie_23 : decode cL_tie 23 = .ok (.ireturn, 1) := by decide +kernel
theorem dL_tie_24 : decode cL_tie 24 = .ok (.iconst 0, 1) := by decide +kernel
theorem dL_tie_25 : decode cL_tie 25 = .ok (.ireturn, 1) := by decide +kernel
theorem dL_open_0 : decode cL_open 0 = .ok (.aload_n 0, 1) := by decide +kernel
theorem dL_open_1 : decode cL_open 1 = .ok (.iload_n 1, 1) := by decide +kernel
theorem dL_open_2 : decode cL_open 2 = .ok (.iload_n 2, 1) := by decide +kernel
theorem dL_open_3 : decode cL_open 3 = .ok (.iload_n 3, 1) := by decide +kernel
theorem dL_open_4 : decode cL_open 4 = .ok (.invokevirtual 23, 3) := by decide +kernel
theorem dL_open_7 : decode cL_open 7 = .ok (.goto 11, 3) := by decide +kernel
theorem dL_open_10 : decode cL_open 10 = .ok (.astore 4, 2) := by decide +kernel
theorem dL_open_12 : decode cL_open 12 = .ok (.iconst 1, 1) := by decide +kernel
theorem dL_open_13 : decode cL_open 13 = .ok (.ireturn, 1) := by decide +kernel
theorem dL_open_14 : decode cL_open 14 = .ok (.astore 4, 2) := by decide +kernel
theorem dL_open_16 : decode cL_open 16 = .ok (.iconst 2, 1) := by decide +kernel
theorem dL_open_17 : decode cL_open 17 = .ok (.ireturn, 1) := by decide +kernel
theorem dL_open_18 : decode cL_open 18 = .ok (.iconst 0, 1) := by decide +kernel
theorem dL_open_19 : decode cL_open 19 = .ok (.ireturn, 1) := by decide +kernel
theorem dL_argument_0 : decode cL_argument 0 = .ok (.aload_n 3, 1) := by decide +kernel
theorem dL_argument_1 : decode cL_argument 1 = .ok (.iconst 0, 1) := by decide +kernel
theorem dL_argument_2 : decode cL_argument 2 = .ok (.aload_n 0, 1) := by decide +kernel
theorem dL_argument_3 : decode cL_argument 3 = .ok (.iload_n 1, 1) := by decide +kernel
theorem dL_argument_4 : decode cL_argument 4 = .ok (.iload_n 2, 1) := by decide +kernel
theorem dL_argument_5 : decode cL_argument 5 = .ok (.invokevirtual 27, 3) := by decide +kernel
theorem dL_argument_8 : decode cL_argument 8 = .ok (.i2l, 1) := by decide +kernel
theorem dL_argument_9 : decode cL_argument 9 = .ok (.lastore, 1) := by decide +kernel
theorem dL_argument_10 : decode cL_argument 10 = .ok (.goto 15, 3) := by decide +kernel
theorem dL_argument_13 : decode cL_argument 13 = .ok (.astore 4, 2) := by decide +kernel
theorem dL_argument_15 : decode cL_argument 15 = .ok (.iconst 1, 1) := by decide +kernel
theorem dL_argument_16 : decode cL_argument 16 = .ok (.ireturn, 1) := by decide +kernel
theorem dL_argument_17 : decode cL_argument 17 = .ok (.astore 4, 2) := by decide +kernel
theorem dL_argument_19 : decode cL_argument 19 = .ok (.iconst 2, 1) := by decide +kernel
theorem dL_argument_20 : decode cL_argument 20 = .ok (.ireturn, 1) := by decide +kernel
theorem dL_argument_21 : decode cL_argument 21 = .ok (.astore 4, 2) := by decide +kernel
theorem dL_argument_23 : decode cL_argument 23 = .ok (.iconst 3, 1) := by decide +kernel
theorem dL_argument_24 : decode cL_argument 24 = .ok (.ireturn, 1) := by decide +kernel
theorem dL_argument_25 : decode cL_argument 25 = .ok (.iconst 0, 1) := by decide +kernel
theorem dL_argument_26 : decode cL_argument 26 = .ok (.ireturn, 1) := by decide +kernel
theorem dL_condition_0 : decode cL_condition 0 = .ok (.aload 5, 2) := by decide +kernel
theorem dL_condition_2 : decode cL_condition 2 = .ok (.iconst 0, 1) := by decide +kernel
theorem dL_condition_3 : decode cL_condition 3 = .ok (.aload_n 0, 1) := by decide +kernel
theorem dL_condition_4 : decode cL_condition 4 = .ok (.iload_n 1, 1) := by decide +kernel
theorem dL_condition_5 : decode cL_condition 5 = .ok (.iload_n 2, 1) := by decide +kernel
theorem dL_condition_6 : decode cL_condition 6 = .ok (.iload_n 3, 1) := by decide +kernel
theorem dL_condition_7 : decode cL_condition 7 = .ok (.iload 4, 2) := by decide +kernel
theorem dL_condition_9 : decode cL_condition 9 = .ok (.invokevirtual 31, 3) := by decide +kernel
theorem dL_condition_12 : decode cL_condition 12 = .ok (.i2l, 1) := by decide +kernel
theorem dL_condition_13 : decode cL_condition 13 = .ok (.lastore, 1) := by decide +kernel
theorem dL_condition_14 : decode cL_condition 14 = .ok (.goto 15, 3) := by decide +kernel
theorem dL_condition_17 : decode cL_condition 17 = .ok (.astore 6, 2) := by decide +kernel
theorem dL_condition_19 : decode cL_condition 19 = .ok (.iconst 1, 1) := by decide +kernel
theorem dL_condition_20 : decode cL_condition 20 = .ok (.ireturn, 1) := by decide +kernel
theorem dL_condition_21 : decode cL_condition 21 = .ok (.astore 6, 2) := by decide +kernel
theorem dL_condition_23 : decode cL_condition 23 = .ok (.iconst 2, 1) := by decide +kernel
theorem dL_condition_24 : decode cL_condition 24 = .ok (.ireturn, 1) := by decide +kernel
theorem dL_condition_25 : decode cL_condition 25 = .ok (.astore 6, 2) := by decide +kernel
theorem dL_condition_27 : decode cL_condition 27 = .ok (.iconst 3, 1) := by decide +kernel
theorem dL_condition_28 : decode cL_condition 28 = .ok (.ireturn, 1) := by decide +kernel
theorem dL_condition_29 : decode cL_condition 29 = .ok (.iconst 0, 1) := by decide +kernel
theorem dL_condition_30 : decode cL_condition 30 = .ok (.ireturn, 1) := by decide +kernel
theorem dL_put_0 : decode cL_put 0 = .ok (.aload 4, 2) := by decide +kernel
theorem dL_put_2 : decode cL_put 2 = .ok (.iconst 0, 1) := by decide +kernel
theorem dL_put_3 : decode cL_put 3 = .ok (.aload_n 0, 1) := by decide +kernel
theorem dL_put_4 : decode cL_put 4 = .ok (.iload_n 1, 1) := by decide +kernel
theorem dL_put_5 : decode cL_put 5 = .ok (.iload_n 2, 1) := by decide +kernel
theorem dL_put_6 : decode cL_put 6 = .ok (.iload_n 3, 1) := by decide +kernel
theorem dL_put_7 : decode cL_put 7 = .ok (.invokevirtual 35, 3) := by decide +kernel
theorem dL_put_10 : decode cL_put 10 = .ok (.i2l, 1) := by decide +kernel
theorem dL_put_11 : decode cL_put 11 = .ok (.lastore, 1) := by decide +kernel
theorem dL_put_12 : decode cL_put 12 = .ok (.goto 11, 3) := by decide +kernel
theorem dL_put_15 : decode cL_put 15 = .ok (.astore 5, 2) := by decide +kernel
theorem dL_put_17 : decode cL_put 17 = .ok (.iconst 1, 1) := by decide +kernel
theorem dL_put_18 : decode cL_put 18 = .ok (.ireturn, 1) := by decide +kernel
theorem dL_put_19 : decode cL_put 19 = .ok (.astore 5, 2) := by decide +kernel
theorem dL_put_21 : decode cL_put 21 = .ok (.iconst 2, 1) := by decide +kernel
theorem dL_put_22 : decode cL_put 22 = .ok (.ireturn, 1) := by decide +kernel
theorem dL_put_23 : decode cL_put 23 = .ok (.iconst 0, 1) := by decide +kernel
theorem dL_put_24 : decode cL_put 24 = .ok (.ireturn, 1) := by decide +kernel
theorem dL_area_0 : decode cL_area 0 = .ok (.aload_n 3, 1) := by decide +kernel
theorem dL_area_1 : decode cL_area 1 = .ok (.iconst 0, 1) := by decide +kernel
theorem dL_area_2 : decode cL_area 2 = .ok (.aload_n 0, 1) := by decide +kernel
theorem dL_area_3 : decode cL_area 3 = .ok (.iload_n 1, 1) := by decide +kernel
theorem dL_area_4 : decode cL_area 4 = .ok (.iload_n 2, 1) := by decide +kernel
theorem dL_area_5 : decode cL_area 5 = .ok (.invokevirtual 39, 3) := by decide +kernel
theorem dL_area_8 : decode cL_area 8 = .ok (.i2l, 1) := by decide +kernel
theorem dL_area_9 : decode cL_area 9 = .ok (.lastore, 1) := by decide +kernel
theorem dL_area_10 : decode cL_area 10 = .ok (.goto 7, 3) := by decide +kernel
theorem dL_area_13 : decode cL_area 13 = .ok (.astore 4, 2) := by decide +kernel
theorem dL_area_15 : decode cL_area 15 = .ok (.iconst 1, 1) := by decide +kernel
theorem dL_area_16 : decode cL_area 16 = .ok (.ireturn, 1) := by decide +kernel
theorem dL_area_17 : decode cL_area 17 = .ok (.iconst 0, 1) := by decide +kernel
theorem dL_area_18 : decode cL_area 18 = .ok (.ireturn, 1) := by decide +kernel
theorem dL_get_0 : decode cL_get 0 = .ok (.aload 4, 2) := by decide +kernel
theorem dL_get_2 : decode cL_get 2 = .ok (.iconst 0, 1) := by decide +kernel
theorem dL_get_3 : decode cL_get 3 = .ok (.aload_n 0, 1) := by decide +kernel
theorem dL_get_4 : decode cL_get 4 = .ok (.iload_n 1, 1) := by decide +kernel
theorem dL_get_5 : decode cL_get 5 = .ok (.iload_n 2, 1) := by decide +kernel
theorem dL_get_6 : decode cL_get 6 = .ok (.iload_n 3, 1) := by decide +kernel
theorem dL_get_7 : decode cL_get 7 = .ok (.invokevirtual 42, 3) := by decide +kernel
theorem dL_get_10 : decode cL_get 10 = .ok (.i2l, 1) := by decide +kernel
theorem dL_get_11 : decode cL_get 11 = .ok (.lastore, 1) := by decide +kernel
theorem dL_get_12 : decode cL_get 12 = .ok (.goto 11, 3) := by decide +kernel
theorem dL_get_15 : decode cL_get 15 = .ok (.astore 5, 2) := by decide +kernel
theorem dL_get_17 : decode cL_get 17 = .ok (.iconst 1, 1) := by decide +kernel
theorem dL_get_18 : decode cL_get 18 = .ok (.ireturn, 1) := by decide +kernel
theorem dL_get_19 : decode cL_get 19 = .ok (.astore 5, 2) := by decide +kernel
theorem dL_get_21 : decode cL_get 21 = .ok (.iconst 2, 1) := by decide +kernel
theorem dL_get_22 : decode cL_get 22 = .ok (.ireturn, 1) := by decide +kernel
theorem dL_get_23 : decode cL_get 23 = .ok (.iconst 0, 1) := by decide +kernel
theorem dL_get_24 : decode cL_get 24 = .ok (.ireturn, 1) := by decide +kernel
theorem dL_insert_0 : decode cL_insert 0 = .ok (.aload_n 2, 1) := by decide +kernel
theorem dL_insert_1 : decode cL_insert 1 = .ok (.iconst 0, 1) := by decide +kernel
theorem dL_insert_2 : decode cL_insert 2 = .ok (.aload_n 0, 1) := by decide +kernel
theorem dL_insert_3 : decode cL_insert 3 = .ok (.iload_n 1, 1) := by decide +kernel
theorem dL_insert_4 : decode cL_insert 4 = .ok (.invokevirtual 46, 3) := by decide +kernel
theorem dL_insert_7 : decode cL_insert 7 = .ok (.i2l, 1) := by decide +kernel
theorem dL_insert_8 : decode cL_insert 8 = .ok (.lastore, 1) := by decide +kernel
theorem dL_insert_9 : decode cL_insert 9 = .ok (.goto 6, 3) := by decide +kernel
theorem dL_insert_12 : decode cL_insert 12 = .ok (.astore_n 3, 1) := by decide +kernel
theorem dL_insert_13 : decode cL_insert 13 = .ok (.iconst 1, 1) := by decide +kernel
theorem dL_insert_14 : decode cL_insert 14 = .ok (.ireturn, 1) := by decide +kernel
theorem dL_insert_15 : decode cL_insert 15 = .ok (.iconst 0, 1) := by decide +kernel
theorem dL_insert_16 : decode cL_insert 16 = .ok (.ireturn, 1) := by decide +kernel
theorem dL_replace_0 : decode cL_replace 0 = .ok (.aload_n 2, 1) := by decide +kernel
theorem dL_replace_1 : decode cL_replace 1 = .ok (.iconst 0, 1) := by decide +kernel
theorem dL_replace_2 : decode cL_replace 2 = .ok (.aload_n 0, 1) := by decide +kernel
theorem dL_replace_3 : decode cL_replace 3 = .ok (.iload_n 1, 1) := by decide +kernel
theorem dL_replace_4 : decode cL_replace 4 = .ok (.invokevirtual 50, 3) := by decide +kernel
theorem dL_replace_7 : decode cL_replace 7 = .ok (.i2l, 1) := by decide +kernel
theorem dL_replace_8 : decode cL_replace 8 = .ok (.lastore, 1) := by decide +kernel
theorem dL_replace_9 : decode cL_replace 9 = .ok (.goto 6, 3) := by decide +kernel
theorem dL_replace_12 : decode cL_replace 12 = .ok (.astore_n 3, 1) := by decide +kernel
theorem dL_replace_13 : decode cL_replace 13 = .ok (.iconst 1, 1) := by decide +kernel
theorem dL_replace_14 : decode cL_replace 14 = .ok (.ireturn, 1) := by decide +kernel
theorem dL_replace_15 : decode cL_replace 15 = .ok (.iconst 0, 1) := by decide +kernel
theorem dL_replace_16 : decode cL_replace 16 = .ok (.ireturn, 1) := by decide +kernel
theorem dL_delete_0 : decode cL_delete 0 = .ok (.aload_n 2, 1) := by decide +kernel
theorem dL_delete_1 : decode cL_delete 1 = .ok (.iconst 0, 1) := by decide +kernel
theorem dL_delete_2 : decode cL_delete 2 = .ok (.aload_n 0, 1) := by decide +kernel
theorem dL_delete_3 : decode cL_delete 3 = .ok (.iload_n 1, 1) := by decide +kernel
theorem dL_delete_4 : decode cL_delete 4 = .ok (.invokevirtual 53, 3) := by decide +kernel
theorem dL_delete_7 : decode cL_delete 7 = .ok (.i2l, 1) := by decide +kernel
theorem dL_delete_8 : decode cL_delete 8 = .ok (.lastore, 1) := by decide +kernel
theorem dL_delete_9 : decode cL_delete 9 = .ok (.goto 6, 3) := by decide +kernel
theorem dL_delete_12 : decode cL_delete 12 = .ok (.astore_n 3, 1) := by decide +kernel
theorem dL_delete_13 : decode cL_delete 13 = .ok (.iconst 1, 1) := by decide +kernel
theorem dL_delete_14 : decode cL_delete 14 = .ok (.ireturn, 1) := by decide +kernel
theorem dL_delete_15 : decode cL_delete 15 = .ok (.iconst 0, 1) := by decide +kernel
theorem dL_delete_16 : decode cL_delete 16 = .ok (.ireturn, 1) := by decide +kernel
theorem dL_count_0 : decode cL_count 0 = .ok (.aload_n 2, 1) := by decide +kernel
theorem dL_count_1 : decode cL_count 1 = .ok (.iconst 0, 1) := by decide +kernel
theorem dL_count_2 : decode cL_count 2 = .ok (.aload_n 0, 1) := by decide +kernel
theorem dL_count_3 : decode cL_count 3 = .ok (.iload_n 1, 1) := by decide +kernel
theorem dL_count_4 : decode cL_count 4 = .ok (.invokevirtual 56, 3) := by decide +kernel
theorem dL_count_7 : decode cL_count 7 = .ok (.i2l, 1) := by decide +kernel
theorem dL_count_8 : decode cL_count 8 = .ok (.lastore, 1) := by decide +kernel
theorem dL_count_9 : decode cL_count 9 = .ok (.goto 6, 3) := by decide +kernel
theorem dL_count_12 : decode cL_count 12 = .ok (.astore_n 3, 1) := by decide +kernel
theorem dL_count_13 : decode cL_count 13 = .ok (.iconst 1, 1) := by decide +kernel
theorem dL_count_14 : decode cL_count 14 = .ok (.ireturn, 1) := by decide +kernel
theorem dL_count_15 : decode cL_count 15 = .ok (.iconst 0, 1) := by decide +kernel
theorem dL_count_16 : decode cL_count 16 = .ok (.ireturn, 1) := by decide +kernel
theorem dL_rowAt_0 : decode cL_rowAt 0 = .ok (.aload_n 3, 1) := by decide +kernel
theorem dL_rowAt_1 : decode cL_rowAt 1 = .ok (.iconst 0, 1) := by decide +kernel
theorem dL_rowAt_2 : decode cL_rowAt 2 = .ok (.aload_n 0, 1) := by decide +kernel
theorem dL_rowAt_3 : decode cL_rowAt 3 = .ok (.iload_n 1, 1) := by decide +kernel
theorem dL_rowAt_4 : decode cL_rowAt 4 = .ok (.iload_n 2, 1) := by decide +kernel
theorem dL_rowAt_5 : decode cL_rowAt 5 = .ok (.invokevirtual 59, 3) := by decide +kernel
theorem dL_rowAt_8 : decode cL_rowAt 8 = .ok (.i2l, 1) := by decide +kernel
theorem dL_rowAt_9 : decode cL_rowAt 9 = .ok (.lastore, 1) := by decide +kernel
theorem dL_rowAt_10 : decode cL_rowAt 10 = .ok (.goto 7, 3) := by decide +kernel
theorem dL_rowAt_13 : decode cL_rowAt 13 = .ok (.astore 4, 2) := by decide +kernel
theorem dL_rowAt_15 : decode cL_rowAt 15 = .ok (.iconst 1, 1) := by decide +kernel
theorem dL_rowAt_16 : decode cL_rowAt 16 = .ok (.ireturn, 1) := by decide +kernel
theorem dL_rowAt_17 : decode cL_rowAt 17 = .ok (.iconst 0, 1) := by decide +kernel
theorem dL_rowAt_18 : decode cL_rowAt 18 = .ok (.ireturn, 1) := by decide +kernel
theorem dL_rowAnew_0 : decode cL_rowAnew 0 = .ok (.aload_n 3, 1) := by decide +kernel
theorem dL_rowAnew_1 : decode cL_rowAnew 1 = .ok (.iconst 0, 1) := by decide +kernel
theorem dL_rowAnew_2 : decode cL_rowAnew 2 = .ok (.aload_n 0, 1) := by decide +kernel
theorem dL_rowAnew_3 : decode cL_rowAnew 3 = .ok (.iload_n 1, 1) := by decide +kernel
theorem dL_rowAnew_4 : decode cL_rowAnew 4 = .ok (.iload_n 2, 1) := by decide +kernel
theorem dL_rowAnew_5 : decode cL_rowAnew 5 = .ok (.invokevirtual 62, 3) := by decide +kernel
theorem dL_rowAnew_8 : decode cL_rowAnew 8 = .ok (.i2l, 1) := by decide +kernel
theorem dL_rowAnew_9 : decode cL_rowAnew 9 = .ok (.lastore, 1) := by decide +kernel
theorem dL_rowAnew_10 : decode cL_rowAnew 10 = .ok (.goto 7, 3) := by decide +kernel
theorem dL_rowAnew_13 : decode cL_rowAnew 13 = .ok (.astore 4, 2) := by decide +kernel
theorem dL_rowAnew_15 : decode cL_rowAnew 15 = .ok (.iconst 1, 1) := by decide +kernel
theorem dL_rowAnew_16 : decode cL_rowAnew 16 = .ok (.ireturn, 1) := by decide +kernel
theorem dL_rowAnew_17 : decode cL_rowAnew 17 = .ok (.iconst 0, 1) := by decide +kernel
theorem dL_rowAnew_18 : decode cL_rowAnew 18 = .ok (.ireturn, 1) := by decide +kernel
theorem dL_fieldAt_0 : decode cL_fieldAt 0 = .ok (.aload 4, 2) := by decide +kernel
theorem dL_fieldAt_2 : decode cL_fieldAt 2 = .ok (.iconst 0, 1) := by decide +kernel
theorem dL_fieldAt_3 : decode cL_fieldAt 3 = .ok (.aload_n 0, 1) := by decide +kernel
theorem dL_fieldAt_4 : decode cL_fieldAt 4 = .ok (.iload_n 1, 1) := by decide +kernel
theorem dL_fieldAt_5 : decode cL_fieldAt 5 = .ok (.iload_n 2, 1) := by decide +kernel
theorem dL_fieldAt_6 : decode cL_fieldAt 6 = .ok (.iload_n 3, 1) := by decide +kernel
theorem dL_fieldAt_7 : decode cL_fieldAt 7 = .ok (.invokevirtual 65, 3) := by decide +kernel
theorem dL_fieldAt_10 : decode cL_fieldAt 10 = .ok (.i2l, 1) := by decide +kernel
theorem dL_fieldAt_11 : decode cL_fieldAt 11 = .ok (.lastore, 1) := by decide +kernel
theorem dL_fieldAt_12 : decode cL_fieldAt 12 = .ok (.goto 7, 3) := by decide +kernel
theorem dL_fieldAt_15 : decode cL_fieldAt 15 = .ok (.astore 5, 2) := by decide +kernel
theorem dL_fieldAt_17 : decode cL_fieldAt 17 = .ok (.iconst 1, 1) := by decide +kernel
theorem dL_fieldAt_18 : decode cL_fieldAt 18 = .ok (.ireturn, 1) := by decide +kernel
theorem dL_fieldAt_19 : decode cL_fieldAt 19 = .ok (.iconst 0, 1) := by decide +kernel
theorem dL_fieldAt_20 : decode cL_fieldAt 20 = .ok (.ireturn, 1) := by decide +kernel
theorem dL_at_0 : decode cL_at 0 = .ok (.aload_n 2, 1) := by decide +kernel
theorem dL_at_1 : decode cL_at 1 = .ok (.iconst 0, 1) := by decide +kernel
theorem dL_at_2 : decode cL_at 2 = .ok (.aload_n 0, 1) := by decide +kernel
theorem dL_at_3 : decode cL_at 3 = .ok (.iload_n 1, 1) := by decide +kernel
theorem dL_at_4 : decode cL_at 4 = .ok (.invokevirtual 68, 3) := by decide +kernel
theorem dL_at_7 : decode cL_at 7 = .ok (.i2l, 1) := by decide +kernel
theorem dL_at_8 : decode cL_at 8 = .ok (.lastore, 1) := by decide +kernel
theorem dL_at_9 : decode cL_at 9 = .ok (.goto 6, 3) := by decide +kernel
theorem dL_at_12 : decode cL_at 12 = .ok (.astore_n 3, 1) := by decide +kernel
theorem dL_at_13 : decode cL_at 13 = .ok (.iconst 1, 1) := by decide +kernel
theorem dL_at_14 : decode cL_at 14 = .ok (.ireturn, 1) := by decide +kernel
theorem dL_at_15 : decode cL_at 15 = .ok (.iconst 0, 1) := by decide +kernel
theorem dL_at_16 : decode cL_at 16 = .ok (.ireturn, 1) := by decide +kernel
theorem dL_ahead_0 : decode cL_ahead 0 = .ok (.aload_n 2, 1) := by decide +kernel
theorem dL_ahead_1 : decode cL_ahead 1 = .ok (.iconst 0, 1) := by decide +kernel
theorem dL_ahead_2 : decode cL_ahead 2 = .ok (.aload_n 0, 1) := by decide +kernel
theorem dL_ahead_3 : decode cL_ahead 3 = .ok (.iload_n 1, 1) := by decide +kernel
theorem dL_ahead_4 : decode cL_ahead 4 = .ok (.invokevirtual 71, 3) := by decide +kernel
theorem dL_ahead_7 : decode cL_ahead 7 = .ok (.i2l, 1) := by decide +kernel
theorem dL_ahead_8 : decode cL_ahead 8 = .ok (.lastore, 1) := by decide +kernel
theorem dL_ahead_9 : decode cL_ahead 9 = .ok (.goto 6, 3) := by decide +kernel
theorem dL_ahead_12 : decode cL_ahead 12 = .ok (.astore_n 3, 1) := by decide +kernel
theorem dL_ahead_13 : decode cL_ahead 13 = .ok (.iconst 1, 1) := by decide +kernel
theorem dL_ahead_14 : decode cL_ahead 14 = .ok (.ireturn, 1) := by decide +kernel
theorem dL_ahead_15 : decode cL_ahead 15 = .ok (.iconst 0, 1) := by decide +kernel
theorem dL_ahead_16 : decode cL_ahead 16 = .ok (.ireturn, 1) := by decide +kernel
theorem dL_parent_0 : decode cL_parent 0 = .ok (.aload_n 2, 1) := by decide +kernel
theorem dL_parent_1 : decode cL_parent 1 = .ok (.iconst 0, 1) := by decide +kernel
theorem dL_parent_2 : decode cL_parent 2 = .ok (.aload_n 0, 1) := by decide +kernel
theorem dL_parent_3 : decode cL_parent 3 = .ok (.iload_n 1, 1) := by decide +kernel
theorem dL_parent_4 : decode cL_parent 4 = .ok (.invokevirtual 74, 3) := by decide +kernel
theorem dL_parent_7 : decode cL_parent 7 = .ok (.i2l, 1) := by decide +kernel
theorem dL_parent_8 : decode cL_parent 8 = .ok (.lastore, 1) := by decide +kernel
theorem dL_parent_9 : decode cL_parent 9 = .ok (.goto 6, 3) := by decide +kernel
theorem dL_parent_12 : decode cL_parent 12 = .ok (.astore_n 3, 1) := by decide +kernel
theorem dL_parent_13 : decode cL_parent 13 = .ok (.iconst 1, 1) := by decide +kernel
theorem dL_parent_14 : decode cL_parent 14 = .ok (.ireturn, 1) := by decide +kernel
theorem dL_parent_15 : decode cL_parent 15 = .ok (.iconst 0, 1) := by decide +kernel
theorem dL_parent_16 : decode cL_parent 16 = .ok (.ireturn, 1) := by decide +kernel
theorem dL_holds_0 : decode cL_holds 0 = .ok (.aload_n 2, 1) := by decide +kernel
theorem dL_holds_1 : decode cL_holds 1 = .ok (.iconst 0, 1) := by decide +kernel
theorem dL_holds_2 : decode cL_holds 2 = .ok (.aload_n 0, 1) := by decide +kernel
theorem dL_holds_3 : decode cL_holds 3 = .ok (.iload_n 1, 1) := by decide +kernel
theorem dL_holds_4 : decode cL_holds 4 = .ok (.invokevirtual 77, 3) := by decide +kernel
theorem dL_holds_7 : decode cL_holds 7 = .ok (.i2l, 1) := by decide +kernel
theorem dL_holds_8 : decode cL_holds 8 = .ok (.lastore, 1) := by decide +kernel
theorem dL_holds_9 : decode cL_holds 9 = .ok (.goto 6, 3) := by decide +kernel
theorem dL_holds_12 : decode cL_holds 12 = .ok (.astore_n 3, 1) := by decide +kernel
theorem dL_holds_13 : decode cL_holds 13 = .ok (.iconst 1, 1) := by decide +kernel
theorem dL_holds_14 : decode cL_holds 14 = .ok (.ireturn, 1) := by decide +kernel
theorem dL_holds_15 : decode cL_holds 15 = .ok (.iconst 0, 1) := by decide +kernel
theorem dL_holds_16 : decode cL_holds 16 = .ok (.ireturn, 1) := by decide +kernel
theorem dL_keys_0 : decode cL_keys 0 = .ok (.aload_n 2, 1) := by decide +kernel
theorem dL_keys_1 : decode cL_keys 1 = .ok (.iconst 0, 1) := by decide +kernel
theorem dL_keys_2 : decode cL_keys 2 = .ok (.aload_n 0, 1) := by decide +kernel
theorem dL_keys_3 : decode cL_keys 3 = .ok (.iload_n 1, 1) := by decide +kernel
theorem dL_keys_4 : decode cL_keys 4 = .ok (.invokevirtual 80, 3) := by decide +kernel
theorem dL_keys_7 : decode cL_keys 7 = .ok (.lastore, 1) := by decide +kernel
theorem dL_keys_8 : decode cL_keys 8 = .ok (.goto 6, 3) := by decide +kernel
theorem dL_keys_11 : decode cL_keys 11 = .ok (.astore_n 3, 1) := by decide +kernel
theorem dL_keys_12 : decode cL_keys 12 = .ok (.iconst 1, 1) := by decide +kernel
theorem dL_keys_13 : decode cL_keys 13 = .ok (.ireturn, 1) := by decide +kernel
theorem dL_keys_14 : decode cL_keys 14 = .ok (.iconst 0, 1) := by decide +kernel
theorem dL_keys_15 : decode cL_keys 15 = .ok (.ireturn, 1) := by decide +kernel
theorem dL_second_0 : decode cL_second 0 = .ok (.aload_n 2, 1) := by decide +kernel
theorem dL_second_1 : decode cL_second 1 = .ok (.iconst 0, 1) := by decide +kernel
theorem dL_second_2 : decode cL_second 2 = .ok (.aload_n 0, 1) := by decide +kernel
theorem dL_second_3 : decode cL_second 3 = .ok (.iload_n 1, 1) := by decide +kernel
theorem dL_second_4 : decode cL_second 4 = .ok (.invokevirtual 84, 3) := by decide +kernel
theorem dL_second_7 : decode cL_second 7 = .ok (.i2l, 1) := by decide +kernel
theorem dL_second_8 : decode cL_second 8 = .ok (.lastore, 1) := by decide +kernel
theorem dL_second_9 : decode cL_second 9 = .ok (.goto 6, 3) := by decide +kernel
theorem dL_second_12 : decode cL_second 12 = .ok (.astore_n 3, 1) := by decide +kernel
theorem dL_second_13 : decode cL_second 13 = .ok (.iconst 1, 1) := by decide +kernel
theorem dL_second_14 : decode cL_second 14 = .ok (.ireturn, 1) := by decide +kernel
theorem dL_second_15 : decode cL_second 15 = .ok (.iconst 0, 1) := by decide +kernel
theorem dL_second_16 : decode cL_second 16 = .ok (.ireturn, 1) := by decide +kernel
theorem dL_tied_0 : decode cL_tied 0 = .ok (.aload_n 2, 1) := by decide +kernel
theorem dL_tied_1 : decode cL_tied 1 = .ok (.iconst 0, 1) := by decide +kernel
theorem dL_tied_2 : decode cL_tied 2 = .ok (.aload_n 0, 1) := by decide +kernel
theorem dL_tied_3 : decode cL_tied 3 = .ok (.iload_n 1, 1) := by decide +kernel
theorem dL_tied_4 : decode cL_tied 4 = .ok (.invokevirtual 87, 3) := by decide +kernel
theorem dL_tied_7 : decode cL_tied 7 = .ok (.i2l, 1) := by decide +kernel
theorem dL_tied_8 : decode cL_tied 8 = .ok (.lastore, 1) := by decide +kernel
theorem dL_tied_9 : decode cL_tied 9 = .ok (.goto 6, 3) := by decide +kernel
theorem dL_tied_12 : decode cL_tied 12 = .ok (.astore_n 3, 1) := by decide +kernel
theorem dL_tied_13 : decode cL_tied 13 = .ok (.iconst 1, 1) := by decide +kernel
theorem dL_tied_14 : decode cL_tied 14 = .ok (.ireturn, 1) := by decide +kernel
theorem dL_tied_15 : decode cL_tied 15 = .ok (.iconst 0, 1) := by decide +kernel
theorem dL_tied_16 : decode cL_tied 16 = .ok (.ireturn, 1) := by decide +kernel
theorem dL_law_0 : decode cL_law 0 = .ok (.new 8, 3) := by decide +kernel
theorem dL_law_3 : decode cL_law 3 = .ok (.dup, 1) := by decide +kernel
theorem dL_law_4 : decode cL_law 4 = .ok (.invokespecial 90, 3) := by decide +kernel
theorem dL_law_7 : decode cL_law 7 = .ok (.astore_n 1, 1) := by decide +kernel
theorem dL_law_8 : decode cL_law 8 = .ok (.new 91, 3) := by decide +kernel
theorem dL_law_11 : decode cL_law 11 = .ok (.dup, 1) := by decide +kernel
theorem dL_law_12 : decode cL_law 12 = .ok (.invokespecial 93, 3) := by decide +kernel
theorem dL_law_15 : decode cL_law 15 = .ok (.astore_n 2, 1) := by decide +kernel
theorem dL_law_16 : decode cL_law 16 = .ok (.iconst 1, 1) := by decide +kernel
theorem dL_law_17 : decode cL_law 17 = .ok (.newarray .long, 2) := by decide +kernel
theorem dL_law_19 : decode cL_law 19 = .ok (.astore_n 3, 1) := by decide +kernel
theorem dL_law_20 : decode cL_law 20 = .ok (.iconst 0, 1) := by decide +kernel
theorem dL_law_21 : decode cL_law 21 = .ok (.istore 4, 2) := by decide +kernel
theorem dL_law_23 : decode cL_law 23 = .ok (.iload 4, 2) := by decide +kernel
theorem dL_law_25 : decode cL_law 25 = .ok (.aload_n 0, 1) := by decide +kernel
theorem dL_law_26 : decode cL_law 26 = .ok (.arraylength, 1) := by decide +kernel
theorem dL_law_27 : decode cL_law 27 = .ok (.iconst 5, 1) := by decide +kernel
theorem dL_law_28 : decode cL_law 28 = .ok (.isub, 1) := by decide +kernel
theorem dL_law_29 : decode cL_law 29 = .ok (.if_icmp .gt 1626, 3) := by decide +kernel
theorem dL_law_32 : decode cL_law 32 = .ok (.aload_n 0, 1) := by decide +kernel
theorem dL_law_33 : decode cL_law 33 = .ok (.iload 4, 2) := by decide +kernel
theorem dL_law_35 : decode cL_law 35 = .ok (.iaload, 1) := by decide +kernel
theorem dL_law_36 : decode cL_law 36 = .ok (.bipush 31, 2) := by decide +kernel
theorem dL_law_38 : decode cL_law 38 = .ok (.iand, 1) := by decide +kernel
theorem dL_law_39 : decode cL_law 39 = .ok (.tableswitch 1610 0 23 #[109, 201, 273, 333, 401, 509, 522, 602, 670, 766, 822, 878, 934, 947, 1003, 1071, 1139, 1219, 1275, 1331, 1387, 1443, 1498, 1554], 109) := by decide +kernel
theorem dL_law_148 : decode cL_law 148 = .ok (.aload_n 1, 1) := by decide +kernel
theorem dL_law_149 : decode cL_law 149 = .ok (.aload_n 0, 1) := by decide +kernel
theorem dL_law_150 : decode cL_law 150 = .ok (.iload 4, 2) := by decide +kernel
theorem dL_law_152 : decode cL_law 152 = .ok (.iconst 1, 1) := by decide +kernel
theorem dL_law_153 : decode cL_law 153 = .ok (.iadd, 1) := by decide +kernel
theorem dL_law_154 : decode cL_law 154 = .ok (.iaload, 1) := by decide +kernel
theorem dL_law_155 : decode cL_law 155 = .ok (.aload_n 0, 1) := by decide +kernel
theorem dL_law_156 : decode cL_law 156 = .ok (.iload 4, 2) := by decide +kernel
theorem dL_law_158 : decode cL_law 158 = .ok (.iconst 2, 1) := by decide +kernel
theorem dL_law_159 : decode cL_law 159 = .ok (.iadd, 1) := by decide +kernel
theorem dL_law_160 : decode cL_law 160 = .ok (.iaload, 1) := by decide +kernel
theorem dL_law_161 : decode cL_law 161 = .ok (.aload_n 0, 1) := by decide +kernel
theorem dL_law_162 : decode cL_law 162 = .ok (.iload 4, 2) := by decide +kernel
theorem dL_law_164 : decode cL_law 164 = .ok (.iconst 3, 1) := by decide +kernel
theorem dL_law_165 : decode cL_law 165 = .ok (.iadd, 1) := by decide +kernel
theorem dL_law_166 : decode cL_law 166 = .ok (.iaload, 1) := by decide +kernel
theorem dL_law_167 : decode cL_law 167 = .ok (.aload_n 0, 1) := by decide +kernel
theorem dL_law_168 : decode cL_law 168 = .ok (.iload 4, 2) := by decide +kernel
theorem dL_law_170 : decode cL_law 170 = .ok (.iconst 4, 1) := by decide +kernel
theorem dL_law_171 : decode cL_law 171 = .ok (.iadd, 1) := by decide +kernel
theorem dL_law_172 : decode cL_law 172 = .ok (.iaload, 1) := by decide +kernel
theorem dL_law_173 : decode cL_law 173 = .ok (.aload_n 3, 1) := by decide +kernel
theorem dL_law_174 : decode cL_law 174 = .ok (.invokestatic 94, 3) := by decide +kernel
theorem dL_law_177 : decode cL_law 177 = .ok (.istore 5, 2) := by decide +kernel
theorem dL_law_179 : decode cL_law 179 = .ok (.aload_n 2, 1) := by decide +kernel
theorem dL_law_180 : decode cL_law 180 = .ok (.aload_n 0, 1) := by decide +kernel
theorem dL_law_181 : decode cL_law 181 = .ok (.iload 4, 2) := by decide +kernel
theorem dL_law_183 : decode cL_law 183 = .ok (.iconst 1, 1) := by decide +kernel
theorem dL_law_184 : decode cL_law 184 = .ok (.iadd, 1) := by decide +kernel
theorem dL_law_185 : decode cL_law 185 = .ok (.iaload, 1) := by decide +kernel
theorem dL_law_186 : decode cL_law 186 = .ok (.aload_n 0, 1) := by decide +kernel
theorem dL_law_187 : decode cL_law 187 = .ok (.iload 4, 2) := by decide +kernel
theorem dL_law_189 : decode cL_law 189 = .ok (.iconst 2, 1) := by decide +kernel
theorem dL_law_190 : decode cL_law 190 = .ok (.iadd, 1) := by decide +kernel
theorem dL_law_191 : decode cL_law 191 = .ok (.iaload, 1) := by decide +kernel
theorem dL_law_192 : decode cL_law 192 = .ok (.aload_n 0, 1) := by decide +kernel
theorem dL_law_193 : decode cL_law 193 = .ok (.iload 4, 2) := by decide +kernel
theorem dL_law_195 : decode cL_law 195 = .ok (.iconst 3, 1) := by decide +kernel
theorem dL_law_196 : decode cL_law 196 = .ok (.iadd, 1) := by decide +kernel
theorem dL_law_197 : decode cL_law 197 = .ok (.iaload, 1) := by decide +kernel
theorem dL_law_198 : decode cL_law 198 = .ok (.aload_n 0, 1) := by decide +kernel
theorem dL_law_199 : decode cL_law 199 = .ok (.iload 4, 2) := by decide +kernel
theorem dL_law_201 : decode cL_law 201 = .ok (.iconst 4, 1) := by decide +kernel
theorem dL_law_202 : decode cL_law 202 = .ok (.iadd, 1) := by decide +kernel
theorem dL_law_203 : decode cL_law 203 = .ok (.iaload, 1) := by decide +kernel
theorem dL_law_204 : decode cL_law 204 = .ok (.invokevirtual 99, 3) := by decide +kernel
theorem dL_law_207 : decode cL_law 207 = .ok (.istore 6, 2) := by decide +kernel
theorem dL_law_209 : decode cL_law 209 = .ok (.aload_n 2, 1) := by decide +kernel
theorem dL_law_210 : decode cL_law 210 = .ok (.invokevirtual 100, 3) := by decide +kernel
theorem dL_law_213 : decode cL_law 213 = .ok (.iload 5, 2) := by decide +kernel
theorem dL_law_215 : decode cL_law 215 = .ok (.if_icmp .eq 5, 3) := by decide +kernel
theorem dL_law_218 : decode cL_law 218 = .ok (.iconst 0, 1) := by decide +kernel
theorem dL_law_219 : decode cL_law 219 = .ok (.ireturn, 1) := by decide +kernel
theorem dL_law_220 : decode cL_law 220 = .ok (.iload 5, 2) := by decide +kernel
theorem dL_law_222 : decode cL_law 222 = .ok (.ifCond .ne 15, 3) := by decide +kernel
theorem dL_law_225 : decode cL_law 225 = .ok (.aload_n 3, 1) := by decide +kernel
theorem dL_law_226 : decode cL_law 226 = .ok (.iconst 0, 1) := by decide +kernel
theorem dL_law_227 : decode cL_law 227 = .ok (.laload, 1) := by decide +kernel
theorem dL_law_228 : decode cL_law 228 = .ok (.iload 6, 2) := by decide +kernel
theorem dL_law_230 : decode cL_law 230 = .ok (.i2l, 1) := by decide +kernel
theorem dL_law_231 : decode cL_law 231 = .ok (.lcmp, 1) := by decide +kernel
theorem dL_law_232 : decode cL_law 232 = .ok (.ifCond .eq 5, 3) := by decide +kernel
theorem dL_law_235 : decode cL_law 235 = .ok (.iconst 0, 1) := by decide +kernel
theorem dL_law_236 : decode cL_law 236 = .ok (.ireturn, 1) := by decide +kernel
theorem dL_law_237 : decode cL_law 237 = .ok (.goto 1412, 3) := by decide +kernel
theorem dL_law_240 : decode cL_law 240 = .ok (.aload_n 1, 1) := by decide +kernel
theorem dL_law_241 : decode cL_law 241 = .ok (.aload_n 0, 1) := by decide +kernel
theorem dL_law_242 : decode cL_law 242 = .ok (.iload 4, 2) := by decide +kernel
theorem dL_law_244 : decode cL_law 244 = .ok (.iconst 1, 1) := by decide +kernel
theorem dL_law_245 : decode cL_law 245 = .ok (.iadd, 1) := by decide +kernel
theorem dL_law_246 : decode cL_law 246 = .ok (.iaload, 1) := by decide +kernel
theorem dL_law_247 : decode cL_law 247 = .ok (.aload_n 0, 1) := by decide +kernel
theorem dL_law_248 : decode cL_law 248 = .ok (.iload 4, 2) := by decide +kernel
theorem dL_law_250 : decode cL_law 250 = .ok (.iconst 2, 1) := by decide +kernel
theorem dL_law_251 : decode cL_law 251 = .ok (.iadd, 1) := by decide +kernel
theorem dL_law_252 : decode cL_law 252 = .ok (.iaload, 1) := by decide +kernel
theorem dL_law_253 : decode cL_law 253 = .ok (.aload_n 0, 1) := by decide +kernel
theorem dL_law_254 : decode cL_law 254 = .ok (.iload 4, 2) := by decide +kernel
theorem dL_law_256 : decode cL_law 256 = .ok (.iconst 3, 1) := by decide +kernel
theorem dL_law_257 : decode cL_law 257 = .ok (.iadd, 1) := by decide +kernel
theorem dL_law_258 : decode cL_law 258 = .ok (.iaload, 1) := by decide +kernel
theorem dL_law_259 : decode cL_law 259 = .ok (.aload_n 0, 1) := by decide +kernel
theorem dL_law_260 : decode cL_law 260 = .ok (.iload 4, 2) := by decide +kernel
theorem dL_law_262 : decode cL_law 262 = .ok (.iconst 4, 1) := by decide +kernel
theorem dL_law_263 : decode cL_law 263 = .ok (.iadd, 1) := by decide +kernel
theorem dL_law_264 : decode cL_law 264 = .ok (.iaload, 1) := by decide +kernel
theorem dL_law_265 : decode cL_law 265 = .ok (.invokestatic 104, 3) := by decide +kernel
theorem dL_law_268 : decode cL_law 268 = .ok (.istore 5, 2) := by decide +kernel
theorem dL_law_270 : decode cL_law 270 = .ok (.aload_n 2, 1) := by decide +kernel
theorem dL_law_271 : decode cL_law 271 = .ok (.aload_n 0, 1) := by decide +kernel
theorem dL_law_272 : decode cL_law 272 = .ok (.iload 4, 2) := by decide +kernel
theorem dL_law_274 : decode cL_law 274 = .ok (.iconst 1, 1) := by decide +kernel
theorem dL_law_275 : decode cL_law 275 = .ok (.iadd, 1) := by decide +kernel
theorem dL_law_276 : decode cL_law 276 = .ok (.iaload, 1) := by decide +kernel
theorem dL_law_277 : decode cL_law 277 = .ok (.aload_n 0, 1) := by decide +kernel
theorem dL_law_278 : decode cL_law 278 = .ok (.iload 4, 2) := by decide +kernel
theorem dL_law_280 : decode cL_law 280 = .ok (.iconst 2, 1) := by decide +kernel
theorem dL_law_281 : decode cL_law 281 = .ok (.iadd, 1) := by decide +kernel
theorem dL_law_282 : decode cL_law 282 = .ok (.iaload, 1) := by decide +kernel
theorem dL_law_283 : decode cL_law 283 = .ok (.aload_n 0, 1) := by decide +kernel
theorem dL_law_284 : decode cL_law 284 = .ok (.iload 4, 2) := by decide +kernel
theorem dL_law_286 : decode cL_law 286 = .ok (.iconst 3, 1) := by decide +kernel
theorem dL_law_287 : decode cL_law 287 = .ok (.iadd, 1) := by decide +kernel
theorem dL_law_288 : decode cL_law 288 = .ok (.iaload, 1) := by decide +kernel
theorem dL_law_289 : decode cL_law 289 = .ok (.aload_n 0, 1) := by decide +kernel
theorem dL_law_290 : decode cL_law 290 = .ok (.iload 4, 2) := by decide +kernel
theorem dL_law_292 : decode cL_law 292 = .ok (.iconst 4, 1) := by decide +kernel
theorem dL_law_293 : decode cL_law 293 = .ok (.iadd, 1) := by decide +kernel
theorem dL_law_294 : decode cL_law 294 = .ok (.iaload, 1) := by decide +kernel
theorem dL_law_295 : decode cL_law 295 = .ok (.invokevirtual 107, 3) := by decide +kernel
theorem dL_law_298 : decode cL_law 298 = .ok (.aload_n 2, 1) := by decide +kernel
theorem dL_law_299 : decode cL_law 299 = .ok (.invokevirtual 100, 3) := by decide +kernel
theorem dL_law_302 : decode cL_law 302 = .ok (.iload 5, 2) := by decide +kernel
theorem dL_law_304 : decode cL_law 304 = .ok (.if_icmp .eq 5, 3) := by decide +kernel
theorem dL_law_307 : decode cL_law 307 = .ok (.iconst 0, 1) := by decide +kernel
theorem dL_law_308 : decode cL_law 308 = .ok (.ireturn, 1) := by decide +kernel
theorem dL_law_309 : decode cL_law 309 = .ok (.goto 1340, 3) := by decide +kernel
theorem dL_law_312 : decode cL_law 312 = .ok (.aload_n 1, 1) := by decide +kernel
theorem dL_law_313 : decode cL_law 313 = .ok (.aload_n 0, 1) := by decide +kernel
theorem dL_law_314 : decode cL_law 314 = .ok (.iload 4, 2) := by decide +kernel
theorem dL_law_316 : decode cL_law 316 = .ok (.iconst 1, 1) := by decide +kernel
theorem dL_law_317 : decode cL_law 317 = .ok (.iadd, 1) := by decide +kernel
theorem dL_law_318 : decode cL_law 318 = .ok (.iaload, 1) := by decide +kernel
theorem dL_law_319 : decode cL_law 319 = .ok (.aload_n 0, 1) := by decide +kernel
theorem dL_law_320 : decode cL_law 320 = .ok (.iload 4, 2) := by decide +kernel
theorem dL_law_322 : decode cL_law 322 = .ok (.iconst 2, 1) := by decide +kernel
theorem dL_law_323 : decode cL_law 323 = .ok (.iadd, 1) := by decide +kernel
theorem dL_law_324 : decode cL_law 324 = .ok (.iaload, 1) := by decide +kernel
theorem dL_law_325 : decode cL_law 325 = .ok (.aload_n 0, 1) := by decide +kernel
theorem dL_law_326 : decode cL_law 326 = .ok (.iload 4, 2) := by decide +kernel
theorem dL_law_328 : decode cL_law 328 = .ok (.iconst 3, 1) := by decide +kernel
theorem dL_law_329 : decode cL_law 329 = .ok (.iadd, 1) := by decide +kernel
theorem dL_law_330 : decode cL_law 330 = .ok (.iaload, 1) := by decide +kernel
theorem dL_law_331 : decode cL_law 331 = .ok (.invokestatic 108, 3) := by decide +kernel
theorem dL_law_334 : decode cL_law 334 = .ok (.istore 5, 2) := by decide +kernel
theorem dL_law_336 : decode cL_law 336 = .ok (.aload_n 2, 1) := by decide +kernel
theorem dL_law_337 : decode cL_law 337 = .ok (.aload_n 0, 1) := by decide +kernel
theorem dL_law_338 : decode cL_law 338 = .ok (.iload 4, 2) := by decide +kernel
theorem dL_law_340 : decode cL_law 340 = .ok (.iconst 1, 1) := by decide +kernel
theorem dL_law_341 : decode cL_law 341 = .ok (.iadd, 1) := by decide +kernel
theorem dL_law_342 : decode cL_law 342 = .ok (.iaload, 1) := by decide +kernel
theorem dL_law_343 : decode cL_law 343 = .ok (.aload_n 0, 1) := by decide +kernel
theorem dL_law_344 : decode cL_law 344 = .ok (.iload 4, 2) := by decide +kernel
theorem dL_law_346 : decode cL_law 346 = .ok (.iconst 2, 1) := by decide +kernel
theorem dL_law_347 : decode cL_law 347 = .ok (.iadd, 1) := by decide +kernel
theorem dL_law_348 : decode cL_law 348 = .ok (.iaload, 1) := by decide +kernel
theorem dL_law_349 : decode cL_law 349 = .ok (.aload_n 0, 1) := by decide +kernel
theorem dL_law_350 : decode cL_law 350 = .ok (.iload 4, 2) := by decide +kernel
theorem dL_law_352 : decode cL_law 352 = .ok (.iconst 3, 1) := by decide +kernel
theorem dL_law_353 : decode cL_law 353 = .ok (.iadd, 1) := by decide +kernel
theorem dL_law_354 : decode cL_law 354 = .ok (.iaload, 1) := by decide +kernel
theorem dL_law_355 : decode cL_law 355 = .ok (.invokevirtual 111, 3) := by decide +kernel
theorem dL_law_358 : decode cL_law 358 = .ok (.aload_n 2, 1) := by decide +kernel
theorem dL_law_359 : decode cL_law 359 = .ok (.invokevirtual 100, 3) := by decide +kernel
theorem dL_law_362 : decode cL_law 362 = .ok (.iload 5, 2) := by decide +kernel
theorem dL_law_364 : decode cL_law 364 = .ok (.if_icmp .eq 5, 3) := by decide +kernel
theorem dL_law_367 : decode cL_law 367 = .ok (.iconst 0, 1) := by decide +kernel
theorem dL_law_368 : decode cL_law 368 = .ok (.ireturn, 1) := by decide +kernel
theorem dL_law_369 : decode cL_law 369 = .ok (.goto 1280, 3) := by decide +kernel
theorem dL_law_372 : decode cL_law 372 = .ok (.aload_n 1, 1) := by decide +kernel
theorem dL_law_373 : decode cL_law 373 = .ok (.aload_n 0, 1) := by decide +kernel
theorem dL_law_374 : decode cL_law 374 = .ok (.iload 4, 2) := by decide +kernel
theorem dL_law_376 : decode cL_law 376 = .ok (.iconst 1, 1) := by decide +kernel
theorem dL_law_377 : decode cL_law 377 = .ok (.iadd, 1) := by decide +kernel
theorem dL_law_378 : decode cL_law 378 = .ok (.iaload, 1) := by decide +kernel
theorem dL_law_379 : decode cL_law 379 = .ok (.aload_n 0, 1) := by decide +kernel
theorem dL_law_380 : decode cL_law 380 = .ok (.iload 4, 2) := by decide +kernel
theorem dL_law_382 : decode cL_law 382 = .ok (.iconst 2, 1) := by decide +kernel
theorem dL_law_383 : decode cL_law 383 = .ok (.iadd, 1) := by decide +kernel
theorem dL_law_384 : decode cL_law 384 = .ok (.iaload, 1) := by decide +kernel
theorem dL_law_385 : decode cL_law 385 = .ok (.aload_n 3, 1) := by decide +kernel
theorem dL_law_386 : decode cL_law 386 = .ok (.invokestatic 112, 3) := by decide +kernel
theorem dL_law_389 : decode cL_law 389 = .ok (.istore 5, 2) := by decide +kernel
theorem dL_law_391 : decode cL_law 391 = .ok (.aload_n 2, 1) := by decide +kernel
theorem dL_law_392 : decode cL_law 392 = .ok (.aload_n 0, 1) := by decide +kernel
theorem dL_law_393 : decode cL_law 393 = .ok (.iload 4, 2) := by decide +kernel
theorem dL_law_395 : decode cL_law 395 = .ok (.iconst 1, 1) := by decide +kernel
theorem dL_law_396 : decode cL_law 396 = .ok (.iadd, 1) := by decide +kernel
theorem dL_law_397 : decode cL_law 397 = .ok (.iaload, 1) := by decide +kernel
theorem dL_law_398 : decode cL_law 398 = .ok (.aload_n 0, 1) := by decide +kernel
theorem dL_law_399 : decode cL_law 399 = .ok (.iload 4, 2) := by decide +kernel
theorem dL_law_401 : decode cL_law 401 = .ok (.iconst 2, 1) := by decide +kernel
theorem dL_law_402 : decode cL_law 402 = .ok (.iadd, 1) := by decide +kernel
theorem dL_law_403 : decode cL_law 403 = .ok (.iaload, 1) := by decide +kernel
theorem dL_law_404 : decode cL_law 404 = .ok (.invokevirtual 115, 3) := by decide +kernel
theorem dL_law_407 : decode cL_law 407 = .ok (.istore 6, 2) := by decide +kernel
theorem dL_law_409 : decode cL_law 409 = .ok (.aload_n 2, 1) := by decide +kernel
theorem dL_law_410 : decode cL_law 410 = .ok (.invokevirtual 100, 3) := by decide +kernel
theorem dL_law_413 : decode cL_law 413 = .ok (.iload 5, 2) := by decide +kernel
theorem dL_law_415 : decode cL_law 415 = .ok (.if_icmp .eq 5, 3) := by decide +kernel
theorem dL_law_418 : decode cL_law 418 = .ok (.iconst 0, 1) := by decide +kernel
theorem dL_law_419 : decode cL_law 419 = .ok (.ireturn, 1) := by decide +kernel
theorem dL_law_420 : decode cL_law 420 = .ok (.iload 5, 2) := by decide +kernel
theorem dL_law_422 : decode cL_law 422 = .ok (.ifCond .ne 15, 3) := by decide +kernel
theorem dL_law_425 : decode cL_law 425 = .ok (.aload_n 3, 1) := by decide +kernel
theorem dL_law_426 : decode cL_law 426 = .ok (.iconst 0, 1) := by decide +kernel
theorem dL_law_427 : decode cL_law 427 = .ok (.laload, 1) := by decide +kernel
theorem dL_law_428 : decode cL_law 428 = .ok (.iload 6, 2) := by decide +kernel
theorem dL_law_430 : decode cL_law 430 = .ok (.i2l, 1) := by decide +kernel
theorem dL_law_431 : decode cL_law 431 = .ok (.lcmp, 1) := by decide +kernel
theorem dL_law_432 : decode cL_law 432 = .ok (.ifCond .eq 5, 3) := by decide +kernel
theorem dL_law_435 : decode cL_law 435 = .ok (.iconst 0, 1) := by decide +kernel
theorem dL_law_436 : decode cL_law 436 = .ok (.ireturn, 1) := by decide +kernel
theorem dL_law_437 : decode cL_law 437 = .ok (.goto 1212, 3) := by decide +kernel
theorem dL_law_440 : decode cL_law 440 = .ok (.aload_n 1, 1) := by decide +kernel
theorem dL_law_441 : decode cL_law 441 = .ok (.aload_n 0, 1) := by decide +kernel
theorem dL_law_442 : decode cL_law 442 = .ok (.iload 4, 2) := by decide +kernel
theorem dL_law_444 : decode cL_law 444 = .ok (.iconst 1, 1) := by decide +kernel
theorem dL_law_445 : decode cL_law 445 = .ok (.iadd, 1) := by decide +kernel
theorem dL_law_446 : decode cL_law 446 = .ok (.iaload, 1) := by decide +kernel
theorem dL_law_447 : decode cL_law 447 = .ok (.ifCond .eq 7, 3) := by decide +kernel
theorem dL_law_450 : decode cL_law 450 = .ok (.iconst 1, 1) := by decide +kernel
theorem dL_law_451 : decode cL_law 451 = .ok (.goto 4, 3) := by decide +kernel
theorem dL_law_454 : decode cL_law 454 = .ok (.iconst 0, 1) := by decide +kernel
theorem dL_law_455 : decode cL_law 455 = .ok (.aload_n 0, 1) := by decide +kernel
theorem dL_law_456 : decode cL_law 456 = .ok (.iload 4, 2) := by decide +kernel
theorem dL_law_458 : decode cL_law 458 = .ok (.iconst 2, 1) := by decide +kernel
theorem dL_law_459 : decode cL_law 459 = .ok (.iadd, 1) := by decide +kernel
theorem dL_law_460 : decode cL_law 460 = .ok (.iaload, 1) := by decide +kernel
theorem dL_law_461 : decode cL_law 461 = .ok (.aload_n 0, 1) := by decide +kernel
theorem dL_law_462 : decode cL_law 462 = .ok (.iload 4, 2) := by decide +kernel
theorem dL_law_464 : decode cL_law 464 = .ok (.iconst 3, 1) := by decide +kernel
theorem dL_law_465 : decode cL_law 465 = .ok (.iadd, 1) := by decide +kernel
theorem dL_law_466 : decode cL_law 466 = .ok (.iaload, 1) := by decide +kernel
theorem dL_law_467 : decode cL_law 467 = .ok (.aload_n 0, 1) := by decide +kernel
theorem dL_law_468 : decode cL_law 468 = .ok (.iload 4, 2) := by decide +kernel
theorem dL_law_470 : decode cL_law 470 = .ok (.iconst 4, 1) := by decide +kernel
theorem dL_law_471 : decode cL_law 471 = .ok (.iadd, 1) := by decide +kernel
theorem dL_law_472 : decode cL_law 472 = .ok (.iaload, 1) := by decide +kernel
theorem dL_law_473 : decode cL_law 473 = .ok (.aload_n 3, 1) := by decide +kernel
theorem dL_law_474 : decode cL_law 474 = .ok (.invokestatic 116, 3) := by decide +kernel
theorem dL_law_477 : decode cL_law 477 = .ok (.istore 5, 2) := by decide +kernel
theorem dL_law_479 : decode cL_law 479 = .ok (.aload_n 2, 1) := by decide +kernel
theorem dL_law_480 : decode cL_law 480 = .ok (.aload_n 0, 1) := by decide +kernel
theorem dL_law_481 : decode cL_law 481 = .ok (.iload 4, 2) := by decide +kernel
theorem dL_law_483 : decode cL_law 483 = .ok (.iconst 1, 1) := by decide +kernel
theorem dL_law_484 : decode cL_law 484 = .ok (.iadd, 1) := by decide +kernel
theorem dL_law_485 : decode cL_law 485 = .ok (.iaload, 1) := by decide +kernel
theorem dL_law_486 : decode cL_law 486 = .ok (.ifCond .eq 7, 3) := by decide +kernel
theorem dL_law_489 : decode cL_law 489 = .ok (.iconst 1, 1) := by decide +kernel
theorem dL_law_490 : decode cL_law 490 = .ok (.goto 4, 3) := by decide +kernel
theorem dL_law_493 : decode cL_law 493 = .ok (.iconst 0, 1) := by decide +kernel
theorem dL_law_494 : decode cL_law 494 = .ok (.aload_n 0, 1) := by decide +kernel
theorem dL_law_495 : decode cL_law 495 = .ok (.iload 4, 2) := by decide +kernel
theorem dL_law_497 : decode cL_law 497 = .ok (.iconst 2, 1) := by decide +kernel
theorem dL_law_498 : decode cL_law 498 = .ok (.iadd, 1) := by decide +kernel
theorem dL_law_499 : decode cL_law 499 = .ok (.iaload, 1) := by decide +kernel
theorem dL_law_500 : decode cL_law 500 = .ok (.aload_n 0, 1) := by decide +kernel
theorem dL_law_501 : decode cL_law 501 = .ok (.iload 4, 2) := by decide +kernel
theorem dL_law_503 : decode cL_law 503 = .ok (.iconst 3, 1) := by decide +kernel
theorem dL_law_504 : decode cL_law 504 = .ok (.iadd, 1) := by decide +kernel
theorem dL_law_505 : decode cL_law 505 = .ok (.iaload, 1) := by decide +kernel
theorem dL_law_506 : decode cL_law 506 = .ok (.aload_n 0, 1) := by decide +kernel
theorem dL_law_507 : decode cL_law 507 = .ok (.iload 4, 2) := by decide +kernel
theorem dL_law_509 : decode cL_law 509 = .ok (.iconst 4, 1) := by decide +kernel
theorem dL_law_510 : decode cL_law 510 = .ok (.iadd, 1) := by decide +kernel
theorem dL_law_511 : decode cL_law 511 = .ok (.iaload, 1) := by decide +kernel
theorem dL_law_512 : decode cL_law 512 = .ok (.invokevirtual 119, 3) := by decide +kernel
theorem dL_law_515 : decode cL_law 515 = .ok (.istore 6, 2) := by decide +kernel
theorem dL_law_517 : decode cL_law 517 = .ok (.aload_n 2, 1) := by decide +kernel
theorem dL_law_518 : decode cL_law 518 = .ok (.invokevirtual 100, 3) := by decide +kernel
theorem dL_law_521 : decode cL_law 521 = .ok (.iload 5, 2) := by decide +kernel
theorem dL_law_523 : decode cL_law 523 = .ok (.if_icmp .eq 5, 3) := by decide +kernel
theorem dL_law_526 : decode cL_law 526 = .ok (.iconst 0, 1) := by decide +kernel
theorem dL_law_527 : decode cL_law 527 = .ok (.ireturn, 1) := by decide +kernel
theorem dL_law_528 : decode cL_law 528 = .ok (.iload 5, 2) := by decide +kernel
theorem dL_law_530 : decode cL_law 530 = .ok (.ifCond .ne 15, 3) := by decide +kernel
theorem dL_law_533 : decode cL_law 533 = .ok (.aload_n 3, 1) := by decide +kernel
theorem dL_law_534 : decode cL_law 534 = .ok (.iconst 0, 1) := by decide +kernel
theorem dL_law_535 : decode cL_law 535 = .ok (.laload, 1) := by decide +kernel
theorem dL_law_536 : decode cL_law 536 = .ok (.iload 6, 2) := by decide +kernel
theorem dL_law_538 : decode cL_law 538 = .ok (.i2l, 1) := by decide +kernel
theorem dL_law_539 : decode cL_law 539 = .ok (.lcmp, 1) := by decide +kernel
theorem dL_law_540 : decode cL_law 540 = .ok (.ifCond .eq 5, 3) := by decide +kernel
theorem dL_law_543 : decode cL_law 543 = .ok (.iconst 0, 1) := by decide +kernel
theorem dL_law_544 : decode cL_law 544 = .ok (.ireturn, 1) := by decide +kernel
theorem dL_law_545 : decode cL_law 545 = .ok (.goto 1104, 3) := by decide +kernel
theorem dL_law_548 : decode cL_law 548 = .ok (.aload_n 1, 1) := by decide +kernel
theorem dL_law_549 : decode cL_law 549 = .ok (.invokevirtual 120, 3) := by decide +kernel
theorem dL_law_552 : decode cL_law 552 = .ok (.aload_n 2, 1) := by decide +kernel
theorem dL_law_553 : decode cL_law 553 = .ok (.invokevirtual 123, 3) := by decide +kernel
theorem dL_law_556 : decode cL_law 556 = .ok (.if_icmp .eq 1093, 3) := by decide +kernel
theorem dL_law_559 : decode cL_law 559 = .ok (.iconst 0, 1) := by decide +kernel
theorem dL_law_560 : decode cL_law 560 = .ok (.ireturn, 1) := by decide +kernel
theorem dL_law_561 : decode cL_law 561 = .ok (.aload_n 1, 1) := by decide +kernel
theorem dL_law_562 : decode cL_law 562 = .ok (.aload_n 0, 1) := by decide +kernel
theorem dL_law_563 : decode cL_law 563 = .ok (.iload 4, 2) := by decide +kernel
theorem dL_law_565 : decode cL_law 565 = .ok (.iconst 1, 1) := by decide +kernel
theorem dL_law_566 : decode cL_law 566 = .ok (.iadd, 1) := by decide +kernel
theorem dL_law_567 : decode cL_law 567 = .ok (.iaload, 1) := by decide +kernel
theorem dL_law_568 : decode cL_law 568 = .ok (.aload_n 0, 1) := by decide +kernel
theorem dL_law_569 : decode cL_law 569 = .ok (.iload 4, 2) := by decide +kernel
theorem dL_law_571 : decode cL_law 571 = .ok (.iconst 2, 1) := by decide +kernel
theorem dL_law_572 : decode cL_law 572 = .ok (.iadd, 1) := by decide +kernel
theorem dL_law_573 : decode cL_law 573 = .ok (.iaload, 1) := by decide +kernel
theorem dL_law_574 : decode cL_law 574 = .ok (.aload_n 0, 1) := by decide +kernel
theorem dL_law_575 : decode cL_law 575 = .ok (.iload 4, 2) := by decide +kernel
theorem dL_law_577 : decode cL_law 577 = .ok (.iconst 3, 1) := by decide +kernel
theorem dL_law_578 : decode cL_law 578 = .ok (.iadd, 1) := by decide +kernel
theorem dL_law_579 : decode cL_law 579 = .ok (.iaload, 1) := by decide +kernel
theorem dL_law_580 : decode cL_law 580 = .ok (.aload_n 3, 1) := by decide +kernel
theorem dL_law_581 : decode cL_law 581 = .ok (.invokestatic 124, 3) := by decide +kernel
theorem dL_law_584 : decode cL_law 584 = .ok (.istore 5, 2) := by decide +kernel
theorem dL_law_586 : decode cL_law 586 = .ok (.aload_n 2, 1) := by decide +kernel
theorem dL_law_587 : decode cL_law 587 = .ok (.aload_n 0, 1) := by decide +kernel
theorem dL_law_588 : decode cL_law 588 = .ok (.iload 4, 2) := by decide +kernel
theorem dL_law_590 : decode cL_law 590 = .ok (.iconst 1, 1) := by decide +kernel
theorem dL_law_591 : decode cL_law 591 = .ok (.iadd, 1) := by decide +kernel
theorem dL_law_592 : decode cL_law 592 = .ok (.iaload, 1) := by decide +kernel
theorem dL_law_593 : decode cL_law 593 = .ok (.aload_n 0, 1) := by decide +kernel
theorem dL_law_594 : decode cL_law 594 = .ok (.iload 4, 2) := by decide +kernel
theorem dL_law_596 : decode cL_law 596 = .ok (.iconst 2, 1) := by decide +kernel
theorem dL_law_597 : decode cL_law 597 = .ok (.iadd, 1) := by decide +kernel
theorem dL_law_598 : decode cL_law 598 = .ok (.iaload, 1) := by decide +kernel
theorem dL_law_599 : decode cL_law 599 = .ok (.aload_n 0, 1) := by decide +kernel
theorem dL_law_600 : decode cL_law 600 = .ok (.iload 4, 2) := by decide +kernel
theorem dL_law_602 : decode cL_law 602 = .ok (.iconst 3, 1) := by decide +kernel
theorem dL_law_603 : decode cL_law 603 = .ok (.iadd, 1) := by decide +kernel
theorem dL_law_604 : decode cL_law 604 = .ok (.iaload, 1) := by decide +kernel
theorem dL_law_605 : decode cL_law 605 = .ok (.invokevirtual 127, 3) := by decide +kernel
theorem dL_law_608 : decode cL_law 608 = .ok (.istore 6, 2) := by decide +kernel
theorem dL_law_610 : decode cL_law 610 = .ok (.aload_n 2, 1) := by decide +kernel
theorem dL_law_611 : decode cL_law 611 = .ok (.invokevirtual 100, 3) := by decide +kernel
theorem dL_law_614 : decode cL_law 614 = .ok (.iload 5, 2) := by decide +kernel
theorem dL_law_616 : decode cL_law 616 = .ok (.if_icmp .eq 5, 3) := by decide +kernel
theorem dL_law_619 : decode cL_law 619 = .ok (.iconst 0, 1) := by decide +kernel
theorem dL_law_620 : decode cL_law 620 = .ok (.ireturn, 1) := by decide +kernel
theorem dL_law_621 : decode cL_law 621 = .ok (.iload 5, 2) := by decide +kernel
theorem dL_law_623 : decode cL_law 623 = .ok (.ifCond .ne 15, 3) := by decide +kernel
theorem dL_law_626 : decode cL_law 626 = .ok (.aload_n 3, 1) := by decide +kernel
theorem dL_law_627 : decode cL_law 627 = .ok (.iconst 0, 1) := by decide +kernel
theorem dL_law_628 : decode cL_law 628 = .ok (.laload, 1) := by decide +kernel
theorem dL_law_629 : decode cL_law 629 = .ok (.iload 6, 2) := by decide +kernel
theorem dL_law_631 : decode cL_law 631 = .ok (.i2l, 1) := by decide +kernel
theorem dL_law_632 : decode cL_law 632 = .ok (.lcmp, 1) := by decide +kernel
theorem dL_law_633 : decode cL_law 633 = .ok (.ifCond .eq 5, 3) := by decide +kernel
theorem dL_law_636 : decode cL_law 636 = .ok (.iconst 0, 1) := by decide +kernel
theorem dL_law_637 : decode cL_law 637 = .ok (.ireturn, 1) := by decide +kernel
theorem dL_law_638 : decode cL_law 638 = .ok (.goto 1011, 3) := by decide +kernel
theorem dL_law_641 : decode cL_law 641 = .ok (.aload_n 1, 1) := by decide +kernel
theorem dL_law_642 : decode cL_law 642 = .ok (.aload_n 0, 1) := by decide +kernel
theorem dL_law_643 : decode cL_law 643 = .ok (.iload 4, 2) := by decide +kernel
theorem dL_law_645 : decode cL_law 645 = .ok (.iconst 1, 1) := by decide +kernel
theorem dL_law_646 : decode cL_law 646 = .ok (.iadd, 1) := by decide +kernel
theorem dL_law_647 : decode cL_law 647 = .ok (.iaload, 1) := by decide +kernel
theorem dL_law_648 : decode cL_law 648 = .ok (.aload_n 0, 1) := by decide +kernel
theorem dL_law_649 : decode cL_law 649 = .ok (.iload 4, 2) := by decide +kernel
theorem dL_law_651 : decode cL_law 651 = .ok (.iconst 2, 1) := by decide +kernel
theorem dL_law_652 : decode cL_law 652 = .ok (.iadd, 1) := by decide +kernel
theorem dL_law_653 : decode cL_law 653 = .ok (.iaload, 1) := by decide +kernel
theorem dL_law_654 : decode cL_law 654 = .ok (.aload_n 3, 1) := by decide +kernel
theorem dL_law_655 : decode cL_law 655 = .ok (.invokestatic 128, 3) := by decide +kernel
theorem dL_law_658 : decode cL_law 658 = .ok (.istore 5, 2) := by decide +kernel
theorem dL_law_660 : decode cL_law 660 = .ok (.aload_n 2, 1) := by decide +kernel
theorem dL_law_661 : decode cL_law 661 = .ok (.aload_n 0, 1) := by decide +kernel
theorem dL_law_662 : decode cL_law 662 = .ok (.iload 4, 2) := by decide +kernel
theorem dL_law_664 : decode cL_law 664 = .ok (.iconst 1, 1) := by decide +kernel
theorem dL_law_665 : decode cL_law 665 = .ok (.iadd, 1) := by decide +kernel
theorem dL_law_666 : decode cL_law 666 = .ok (.iaload, 1) := by decide +kernel
theorem dL_law_667 : decode cL_law 667 = .ok (.aload_n 0, 1) := by decide +kernel
theorem dL_law_668 : decode cL_law 668 = .ok (.iload 4, 2) := by decide +kernel
theorem dL_law_670 : decode cL_law 670 = .ok (.iconst 2, 1) := by decide +kernel
theorem dL_law_671 : decode cL_law 671 = .ok (.iadd, 1) := by decide +kernel
theorem dL_law_672 : decode cL_law 672 = .ok (.iaload, 1) := by decide +kernel
theorem dL_law_673 : decode cL_law 673 = .ok (.invokevirtual 130, 3) := by decide +kernel
theorem dL_law_676 : decode cL_law 676 = .ok (.istore 6, 2) := by decide +kernel
theorem dL_law_678 : decode cL_law 678 = .ok (.aload_n 2, 1) := by decide +kernel
theorem dL_law_679 : decode cL_law 679 = .ok (.invokevirtual 100, 3) := by decide +kernel
theorem dL_law_682 : decode cL_law 682 = .ok (.iload 5, 2) := by decide +kernel
theorem dL_law_684 : decode cL_law 684 = .ok (.if_icmp .eq 5, 3) := by decide +kernel
theorem dL_law_687 : decode cL_law 687 = .ok (.iconst 0, 1) := by decide +kernel
theorem dL_law_688 : decode cL_law 688 = .ok (.ireturn, 1) := by decide +kernel
theorem dL_law_689 : decode cL_law 689 = .ok (.iload 5, 2) := by decide +kernel
theorem dL_law_691 : decode cL_law 691 = .ok (.ifCond .ne 15, 3) := by decide +kernel
theorem dL_law_694 : decode cL_law 694 = .ok (.aload_n 3, 1) := by decide +kernel
theorem dL_law_695 : decode cL_law 695 = .ok (.iconst 0, 1) := by decide +kernel
theorem dL_law_696 : decode cL_law 696 = .ok (.laload, 1) := by decide +kernel
theorem dL_law_697 : decode cL_law 697 = .ok (.iload 6, 2) := by decide +kernel
theorem dL_law_699 : decode cL_law 699 = .ok (.i2l, 1) := by decide +kernel
theorem dL_law_700 : decode cL_law 700 = .ok (.lcmp, 1) := by decide +kernel
theorem dL_law_701 : decode cL_law 701 = .ok (.ifCond .eq 5, 3) := by decide +kernel
theorem dL_law_704 : decode cL_law 704 = .ok (.iconst 0, 1) := by decide +kernel
theorem dL_law_705 : decode cL_law 705 = .ok (.ireturn, 1) := by decide +kernel
theorem dL_law_706 : decode cL_law 706 = .ok (.goto 943, 3) := by decide +kernel
theorem dL_law_709 : decode cL_law 709 = .ok (.aload_n 1, 1) := by decide +kernel
theorem dL_law_710 : decode cL_law 710 = .ok (.aload_n 0, 1) := by decide +kernel
theorem dL_law_711 : decode cL_law 711 = .ok (.iload 4, 2) := by decide +kernel
theorem dL_law_713 : decode cL_law 713 = .ok (.iconst 1, 1) := by decide +kernel
theorem dL_law_714 : decode cL_law 714 = .ok (.iadd, 1) := by decide +kernel
theorem dL_law_715 : decode cL_law 715 = .ok (.iaload, 1) := by decide +kernel
theorem dL_law_716 : decode cL_law 716 = .ok (.aload_n 0, 1) := by decide +kernel
theorem dL_law_717 : decode cL_law 717 = .ok (.iload 4, 2) := by decide +kernel
theorem dL_law_719 : decode cL_law 719 = .ok (.iconst 2, 1) := by decide +kernel
theorem dL_law_720 : decode cL_law 720 = .ok (.iadd, 1) := by decide +kernel
theorem dL_law_721 : decode cL_law 721 = .ok (.iaload, 1) := by decide +kernel
theorem dL_law_722 : decode cL_law 722 = .ok (.aload_n 0, 1) := by decide +kernel
theorem dL_law_723 : decode cL_law 723 = .ok (.iload 4, 2) := by decide +kernel
theorem dL_law_725 : decode cL_law 725 = .ok (.iconst 3, 1) := by decide +kernel
theorem dL_law_726 : decode cL_law 726 = .ok (.iadd, 1) := by decide +kernel
theorem dL_law_727 : decode cL_law 727 = .ok (.iaload, 1) := by decide +kernel
theorem dL_law_728 : decode cL_law 728 = .ok (.ifCond .eq 7, 3) := by decide +kernel
theorem dL_law_731 : decode cL_law 731 = .ok (.iconst 1, 1) := by decide +kernel
theorem dL_law_732 : decode cL_law 732 = .ok (.goto 4, 3) := by decide +kernel
theorem dL_law_735 : decode cL_law 735 = .ok (.iconst 0, 1) := by decide +kernel
theorem dL_law_736 : decode cL_law 736 = .ok (.aload_n 3, 1) := by decide +kernel
theorem dL_law_737 : decode cL_law 737 = .ok (.invokestatic 131, 3) := by decide +kernel
theorem dL_law_740 : decode cL_law 740 = .ok (.istore 5, 2) := by decide +kernel
theorem dL_law_742 : decode cL_law 742 = .ok (.aload_n 2, 1) := by decide +kernel
theorem dL_law_743 : decode cL_law 743 = .ok (.aload_n 0, 1) := by decide +kernel
theorem dL_law_744 : decode cL_law 744 = .ok (.iload 4, 2) := by decide +kernel
theorem dL_law_746 : decode cL_law 746 = .ok (.iconst 1, 1) := by decide +kernel
theorem dL_law_747 : decode cL_law 747 = .ok (.iadd, 1) := by decide +kernel
theorem dL_law_748 : decode cL_law 748 = .ok (.iaload, 1) := by decide +kernel
theorem dL_law_749 : decode cL_law 749 = .ok (.aload_n 0, 1) := by decide +kernel
theorem dL_law_750 : decode cL_law 750 = .ok (.iload 4, 2) := by decide +kernel
theorem dL_law_752 : decode cL_law 752 = .ok (.iconst 2, 1) := by decide +kernel
theorem dL_law_753 : decode cL_law 753 = .ok (.iadd, 1) := by decide +kernel
theorem dL_law_754 : decode cL_law 754 = .ok (.iaload, 1) := by decide +kernel
theorem dL_law_755 : decode cL_law 755 = .ok (.aload_n 0, 1) := by decide +kernel
theorem dL_law_756 : decode cL_law 756 = .ok (.iload 4, 2) := by decide +kernel
theorem dL_law_758 : decode cL_law 758 = .ok (.iconst 3, 1) := by decide +kernel
theorem dL_law_759 : decode cL_law 759 = .ok (.iadd, 1) := by decide +kernel
theorem dL_law_760 : decode cL_law 760 = .ok (.iaload, 1) := by decide +kernel
theorem dL_law_761 : decode cL_law 761 = .ok (.ifCond .eq 7, 3) := by decide +kernel
theorem dL_law_764 : decode cL_law 764 = .ok (.iconst 1, 1) := by decide +kernel
theorem dL_law_765 : decode cL_law 765 = .ok (.goto 4, 3) := by decide +kernel
theorem dL_law_768 : decode cL_law 768 = .ok (.iconst 0, 1) := by decide +kernel
theorem dL_law_769 : decode cL_law 769 = .ok (.invokevirtual 134, 3) := by decide +kernel
theorem dL_law_772 : decode cL_law 772 = .ok (.istore 6, 2) := by decide +kernel
theorem dL_law_774 : decode cL_law 774 = .ok (.aload_n 2, 1) := by decide +kernel
theorem dL_law_775 : decode cL_law 775 = .ok (.invokevirtual 100, 3) := by decide +kernel
theorem dL_law_778 : decode cL_law 778 = .ok (.iload 5, 2) := by decide +kernel
theorem dL_law_780 : decode cL_law 780 = .ok (.if_icmp .eq 5, 3) := by decide +kernel
theorem dL_law_783 : decode cL_law 783 = .ok (.iconst 0, 1) := by decide +kernel
theorem dL_law_784 : decode cL_law 784 = .ok (.ireturn, 1) := by decide +kernel
theorem dL_law_785 : decode cL_law 785 = .ok (.iload 5, 2) := by decide +kernel
theorem dL_law_787 : decode cL_law 787 = .ok (.ifCond .ne 15, 3) := by decide +kernel
theorem dL_law_790 : decode cL_law 790 = .ok (.aload_n 3, 1) := by decide +kernel
theorem dL_law_791 : decode cL_law 791 = .ok (.iconst 0, 1) := by decide +kernel
theorem dL_law_792 : decode cL_law 792 = .ok (.laload, 1) := by decide +kernel
theorem dL_law_793 : decode cL_law 793 = .ok (.iload 6, 2) := by decide +kernel
theorem dL_law_795 : decode cL_law 795 = .ok (.i2l, 1) := by decide +kernel
theorem dL_law_796 : decode cL_law 796 = .ok (.lcmp, 1) := by decide +kernel
theorem dL_law_797 : decode cL_law 797 = .ok (.ifCond .eq 5, 3) := by decide +kernel
theorem dL_law_800 : decode cL_law 800 = .ok (.iconst 0, 1) := by decide +kernel
theorem dL_law_801 : decode cL_law 801 = .ok (.ireturn, 1) := by decide +kernel
theorem dL_law_802 : decode cL_law 802 = .ok (.goto 847, 3) := by decide +kernel
theorem dL_law_805 : decode cL_law 805 = .ok (.aload_n 1, 1) := by decide +kernel
theorem dL_law_806 : decode cL_law 806 = .ok (.aload_n 0, 1) := by decide +kernel
theorem dL_law_807 : decode cL_law 807 = .ok (.iload 4, 2) := by decide +kernel
theorem dL_law_809 : decode cL_law 809 = .ok (.iconst 1, 1) := by decide +kernel
theorem dL_law_810 : decode cL_law 810 = .ok (.iadd, 1) := by decide +kernel
theorem dL_law_811 : decode cL_law 811 = .ok (.iaload, 1) := by decide +kernel
theorem dL_law_812 : decode cL_law 812 = .ok (.aload_n 3, 1) := by decide +kernel
theorem dL_law_813 : decode cL_law 813 = .ok (.invokestatic 135, 3) := by decide +kernel
theorem dL_law_816 : decode cL_law 816 = .ok (.istore 5, 2) := by decide +kernel
theorem dL_law_818 : decode cL_law 818 = .ok (.aload_n 2, 1) := by decide +kernel
theorem dL_law_819 : decode cL_law 819 = .ok (.aload_n 0, 1) := by decide +kernel
theorem dL_law_820 : decode cL_law 820 = .ok (.iload 4, 2) := by decide +kernel
theorem dL_law_822 : decode cL_law 822 = .ok (.iconst 1, 1) := by decide +kernel
theorem dL_law_823 : decode cL_law 823 = .ok (.iadd, 1) := by decide +kernel
theorem dL_law_824 : decode cL_law 824 = .ok (.iaload, 1) := by decide +kernel
theorem dL_law_825 : decode cL_law 825 = .ok (.invokevirtual 138, 3) := by decide +kernel
theorem dL_law_828 : decode cL_law 828 = .ok (.istore 6, 2) := by decide +kernel
theorem dL_law_830 : decode cL_law 830 = .ok (.aload_n 2, 1) := by decide +kernel
theorem dL_law_831 : decode cL_law 831 = .ok (.invokevirtual 100, 3) := by decide +kernel
theorem dL_law_834 : decode cL_law 834 = .ok (.iload 5, 2) := by decide +kernel
theorem dL_law_836 : decode cL_law 836 = .ok (.if_icmp .eq 5, 3) := by decide +kernel
theorem dL_law_839 : decode cL_law 839 = .ok (.iconst 0, 1) := by decide +kernel
theorem dL_law_840 : decode cL_law 840 = .ok (.ireturn, 1) := by decide +kernel
theorem dL_law_841 : decode cL_law 841 = .ok (.iload 5, 2) := by decide +kernel
theorem dL_law_843 : decode cL_law 843 = .ok (.ifCond .ne 15, 3) := by decide +kernel
theorem dL_law_846 : decode cL_law 846 = .ok (.aload_n 3, 1) := by decide +kernel
theorem dL_law_847 : decode cL_law 847 = .ok (.iconst 0, 1) := by decide +kernel
theorem dL_law_848 : decode cL_law 848 = .ok (.laload, 1) := by decide +kernel
theorem dL_law_849 : decode cL_law 849 = .ok (.iload 6, 2) := by decide +kernel
theorem dL_law_851 : decode cL_law 851 = .ok (.i2l, 1) := by decide +kernel
theorem dL_law_852 : decode cL_law 852 = .ok (.lcmp, 1) := by decide +kernel
theorem dL_law_853 : decode cL_law 853 = .ok (.ifCond .eq 5, 3) := by decide +kernel
theorem dL_law_856 : decode cL_law 856 = .ok (.iconst 0, 1) := by decide +kernel
theorem dL_law_857 : decode cL_law 857 = .ok (.ireturn, 1) := by decide +kernel
theorem dL_law_858 : decode cL_law 858 = .ok (.goto 791, 3) := by decide +kernel
theorem dL_law_861 : decode cL_law 861 = .ok (.aload_n 1, 1) := by decide +kernel
theorem dL_law_862 : decode cL_law 862 = .ok (.aload_n 0, 1) := by decide +kernel
theorem dL_law_863 : decode cL_law 863 = .ok (.iload 4, 2) := by decide +kernel
theorem dL_law_865 : decode cL_law 865 = .ok (.iconst 1, 1) := by decide +kernel
theorem dL_law_866 : decode cL_law 866 = .ok (.iadd, 1) := by decide +kernel
theorem dL_law_867 : decode cL_law 867 = .ok (.iaload, 1) := by decide +kernel
theorem dL_law_868 : decode cL_law 868 = .ok (.aload_n 3, 1) := by decide +kernel
theorem dL_law_869 : decode cL_law 869 = .ok (.invokestatic 139, 3) := by decide +kernel
theorem dL_law_872 : decode cL_law 872 = .ok (.istore 5, 2) := by decide +kernel
theorem dL_law_874 : decode cL_law 874 = .ok (.aload_n 2, 1) := by decide +kernel
theorem dL_law_875 : decode cL_law 875 = .ok (.aload_n 0, 1) := by decide +kernel
theorem dL_law_876 : decode cL_law 876 = .ok (.iload 4, 2) := by decide +kernel
theorem dL_law_878 : decode cL_law 878 = .ok (.iconst 1, 1) := by decide +kernel
theorem dL_law_879 : decode cL_law 879 = .ok (.iadd, 1) := by decide +kernel
theorem dL_law_880 : decode cL_law 880 = .ok (.iaload, 1) := by decide +kernel
theorem dL_law_881 : decode cL_law 881 = .ok (.invokevirtual 141, 3) := by decide +kernel
theorem dL_law_884 : decode cL_law 884 = .ok (.istore 6, 2) := by decide +kernel
theorem dL_law_886 : decode cL_law 886 = .ok (.aload_n 2, 1) := by decide +kernel
theorem dL_law_887 : decode cL_law 887 = .ok (.invokevirtual 100, 3) := by decide +kernel
theorem dL_law_890 : decode cL_law 890 = .ok (.iload 5, 2) := by decide +kernel
theorem dL_law_892 : decode cL_law 892 = .ok (.if_icmp .eq 5, 3) := by decide +kernel
theorem dL_law_895 : decode cL_law 895 = .ok (.iconst 0, 1) := by decide +kernel
theorem dL_law_896 : decode cL_law 896 = .ok (.ireturn, 1) := by decide +kernel
theorem dL_law_897 : decode cL_law 897 = .ok (.iload 5, 2) := by decide +kernel
theorem dL_law_899 : decode cL_law 899 = .ok (.ifCond .ne 15, 3) := by decide +kernel
theorem dL_law_902 : decode cL_law 902 = .ok (.aload_n 3, 1) := by decide +kernel
theorem dL_law_903 : decode cL_law 903 = .ok (.iconst 0, 1) := by decide +kernel
theorem dL_law_904 : decode cL_law 904 = .ok (.laload, 1) := by decide +kernel
theorem dL_law_905 : decode cL_law 905 = .ok (.iload 6, 2) := by decide +kernel
theorem dL_law_907 : decode cL_law 907 = .ok (.i2l, 1) := by decide +kernel
theorem dL_law_908 : decode cL_law 908 = .ok (.lcmp, 1) := by decide +kernel
theorem dL_law_909 : decode cL_law 909 = .ok (.ifCond .eq 5, 3) := by decide +kernel
theorem dL_law_912 : decode cL_law 912 = .ok (.iconst 0, 1) := by decide +kernel
theorem dL_law_913 : decode cL_law 913 = .ok (.ireturn, 1) := by decide +kernel
theorem dL_law_914 : decode cL_law 914 = .ok (.goto 735, 3) := by decide +kernel
theorem dL_law_917 : decode cL_law 917 = .ok (.aload_n 1, 1) := by decide +kernel
theorem dL_law_918 : decode cL_law 918 = .ok (.aload_n 0, 1) := by decide +kernel
theorem dL_law_919 : decode cL_law 919 = .ok (.iload 4, 2) := by decide +kernel
theorem dL_law_921 : decode cL_law 921 = .ok (.iconst 1, 1) := by decide +kernel
theorem dL_law_922 : decode cL_law 922 = .ok (.iadd, 1) := by decide +kernel
theorem dL_law_923 : decode cL_law 923 = .ok (.iaload, 1) := by decide +kernel
theorem dL_law_924 : decode cL_law 924 = .ok (.aload_n 3, 1) := by decide +kernel
theorem dL_law_925 : decode cL_law 925 = .ok (.invokestatic 142, 3) := by decide +kernel
theorem dL_law_928 : decode cL_law 928 = .ok (.istore 5, 2) := by decide +kernel
theorem dL_law_930 : decode cL_law 930 = .ok (.aload_n 2, 1) := by decide +kernel
theorem dL_law_931 : decode cL_law 931 = .ok (.aload_n 0, 1) := by decide +kernel
theorem dL_law_932 : decode cL_law 932 = .ok (.iload 4, 2) := by decide +kernel
theorem dL_law_934 : decode cL_law 934 = .ok (.iconst 1, 1) := by decide +kernel
theorem dL_law_935 : decode cL_law 935 = .ok (.iadd, 1) := by decide +kernel
theorem dL_law_936 : decode cL_law 936 = .ok (.iaload, 1) := by decide +kernel
theorem dL_law_937 : decode cL_law 937 = .ok (.invokevirtual 144, 3) := by decide +kernel
theorem dL_law_940 : decode cL_law 940 = .ok (.istore 6, 2) := by decide +kernel
theorem dL_law_942 : decode cL_law 942 = .ok (.aload_n 2, 1) := by decide +kernel
theorem dL_law_943 : decode cL_law 943 = .ok (.invokevirtual 100, 3) := by decide +kernel
theorem dL_law_946 : decode cL_law 946 = .ok (.iload 5, 2) := by decide +kernel
theorem dL_law_948 : decode cL_law 948 = .ok (.if_icmp .eq 5, 3) := by decide +kernel
theorem dL_law_951 : decode cL_law 951 = .ok (.iconst 0, 1) := by decide +kernel
theorem dL_law_952 : decode cL_law 952 = .ok (.ireturn, 1) := by decide +kernel
theorem dL_law_953 : decode cL_law 953 = .ok (.iload 5, 2) := by decide +kernel
theorem dL_law_955 : decode cL_law 955 = .ok (.ifCond .ne 15, 3) := by decide +kernel
theorem dL_law_958 : decode cL_law 958 = .ok (.aload_n 3, 1) := by decide +kernel
theorem dL_law_959 : decode cL_law 959 = .ok (.iconst 0, 1) := by decide +kernel
theorem dL_law_960 : decode cL_law 960 = .ok (.laload, 1) := by decide +kernel
theorem dL_law_961 : decode cL_law 961 = .ok (.iload 6, 2) := by decide +kernel
theorem dL_law_963 : decode cL_law 963 = .ok (.i2l, 1) := by decide +kernel
theorem dL_law_964 : decode cL_law 964 = .ok (.lcmp, 1) := by decide +kernel
theorem dL_law_965 : decode cL_law 965 = .ok (.ifCond .eq 5, 3) := by decide +kernel
theorem dL_law_968 : decode cL_law 968 = .ok (.iconst 0, 1) := by decide +kernel
theorem dL_law_969 : decode cL_law 969 = .ok (.ireturn, 1) := by decide +kernel
theorem dL_law_970 : decode cL_law 970 = .ok (.goto 679, 3) := by decide +kernel
theorem dL_law_973 : decode cL_law 973 = .ok (.aload_n 1, 1) := by decide +kernel
theorem dL_law_974 : decode cL_law 974 = .ok (.invokevirtual 145, 3) := by decide +kernel
theorem dL_law_977 : decode cL_law 977 = .ok (.aload_n 2, 1) := by decide +kernel
theorem dL_law_978 : decode cL_law 978 = .ok (.invokevirtual 148, 3) := by decide +kernel
theorem dL_law_981 : decode cL_law 981 = .ok (.if_icmp .eq 668, 3) := by decide +kernel
theorem dL_law_984 : decode cL_law 984 = .ok (.iconst 0, 1) := by decide +kernel
theorem dL_law_985 : decode cL_law 985 = .ok (.ireturn, 1) := by decide +kernel
theorem dL_law_986 : decode cL_law 986 = .ok (.aload_n 1, 1) := by decide +kernel
theorem dL_law_987 : decode cL_law 987 = .ok (.aload_n 0, 1) := by decide +kernel
theorem dL_law_988 : decode cL_law 988 = .ok (.iload 4, 2) := by decide +kernel
theorem dL_law_990 : decode cL_law 990 = .ok (.iconst 1, 1) := by decide +kernel
theorem dL_law_991 : decode cL_law 991 = .ok (.iadd, 1) := by decide +kernel
theorem dL_law_992 : decode cL_law 992 = .ok (.iaload, 1) := by decide +kernel
theorem dL_law_993 : decode cL_law 993 = .ok (.aload_n 3, 1) := by decide +kernel
theorem dL_law_994 : decode cL_law 994 = .ok (.invokestatic 149, 3) := by decide +kernel
theorem dL_law_997 : decode cL_law 997 = .ok (.istore 5, 2) := by decide +kernel
theorem dL_law_999 : decode cL_law 999 = .ok (.aload_n 2, 1) := by decide +kernel
theorem dL_law_1000 : decode cL_law 1000 = .ok (.aload_n 0, 1) := by decide +kernel
theorem dL_law_1001 : decode cL_law 1001 = .ok (.iload 4, 2) := by decide +kernel
theorem dL_law_1003 : decode cL_law 1003 = .ok (.iconst 1, 1) := by decide +kernel
theorem dL_law_1004 : decode cL_law 1004 = .ok (.iadd, 1) := by decide +kernel
theorem dL_law_1005 : decode cL_law 1005 = .ok (.iaload, 1) := by decide +kernel
theorem dL_law_1006 : decode cL_law 1006 = .ok (.invokevirtual 151, 3) := by decide +kernel
theorem dL_law_1009 : decode cL_law 1009 = .ok (.istore 6, 2) := by decide +kernel
theorem dL_law_1011 : decode cL_law 1011 = .ok (.aload_n 2, 1) := by decide +kernel
theorem dL_law_1012 : decode cL_law 1012 = .ok (.invokevirtual 100, 3) := by decide +kernel
theorem dL_law_1015 : decode cL_law 1015 = .ok (.iload 5, 2) := by decide +kernel
theorem dL_law_1017 : decode cL_law 1017 = .ok (.if_icmp .eq 5, 3) := by decide +kernel
theorem dL_law_1020 : decode cL_law 1020 = .ok (.iconst 0, 1) := by decide +kernel
theorem dL_law_1021 : decode cL_law 1021 = .ok (.ireturn, 1) := by decide +kernel
theorem dL_law_1022 : decode cL_law 1022 = .ok (.iload 5, 2) := by decide +kernel
theorem dL_law_1024 : decode cL_law 1024 = .ok (.ifCond .ne 15, 3) := by decide +kernel
theorem dL_law_1027 : decode cL_law 1027 = .ok (.aload_n 3, 1) := by decide +kernel
theorem dL_law_1028 : decode cL_law 1028 = .ok (.iconst 0, 1) := by decide +kernel
theorem dL_law_1029 : decode cL_law 1029 = .ok (.laload, 1) := by decide +kernel
theorem dL_law_1030 : decode cL_law 1030 = .ok (.iload 6, 2) := by decide +kernel
theorem dL_law_1032 : decode cL_law 1032 = .ok (.i2l, 1) := by decide +kernel
theorem dL_law_1033 : decode cL_law 1033 = .ok (.lcmp, 1) := by decide +kernel
theorem dL_law_1034 : decode cL_law 1034 = .ok (.ifCond .eq 5, 3) := by decide +kernel
theorem dL_law_1037 : decode cL_law 1037 = .ok (.iconst 0, 1) := by decide +kernel
theorem dL_law_1038 : decode cL_law 1038 = .ok (.ireturn, 1) := by decide +kernel
theorem dL_law_1039 : decode cL_law 1039 = .ok (.goto 610, 3) := by decide +kernel
theorem dL_law_1042 : decode cL_law 1042 = .ok (.aload_n 1, 1) := by decide +kernel
theorem dL_law_1043 : decode cL_law 1043 = .ok (.aload_n 0, 1) := by decide +kernel
theorem dL_law_1044 : decode cL_law 1044 = .ok (.iload 4, 2) := by decide +kernel
theorem dL_law_1046 : decode cL_law 1046 = .ok (.iconst 1, 1) := by decide +kernel
theorem dL_law_1047 : decode cL_law 1047 = .ok (.iadd, 1) := by decide +kernel
theorem dL_law_1048 : decode cL_law 1048 = .ok (.iaload, 1) := by decide +kernel
theorem dL_law_1049 : decode cL_law 1049 = .ok (.aload_n 0, 1) := by decide +kernel
theorem dL_law_1050 : decode cL_law 1050 = .ok (.iload 4, 2) := by decide +kernel
theorem dL_law_1052 : decode cL_law 1052 = .ok (.iconst 2, 1) := by decide +kernel
theorem dL_law_1053 : decode cL_law 1053 = .ok (.iadd, 1) := by decide +kernel
theorem dL_law_1054 : decode cL_law 1054 = .ok (.iaload, 1) := by decide +kernel
theorem dL_law_1055 : decode cL_law 1055 = .ok (.aload_n 3, 1) := by decide +kernel
theorem dL_law_1056 : decode cL_law 1056 = .ok (.invokestatic 152, 3) := by decide +kernel
theorem dL_law_1059 : decode cL_law 1059 = .ok (.istore 5, 2) := by decide +kernel
theorem dL_law_1061 : decode cL_law 1061 = .ok (.aload_n 2, 1) := by decide +kernel
theorem dL_law_1062 : decode cL_law 1062 = .ok (.aload_n 0, 1) := by decide +kernel
theorem dL_law_1063 : decode cL_law 1063 = .ok (.iload 4, 2) := by decide +kernel
theorem dL_law_1065 : decode cL_law 1065 = .ok (.iconst 1, 1) := by decide +kernel
theorem dL_law_1066 : decode cL_law 1066 = .ok (.iadd, 1) := by decide +kernel
theorem dL_law_1067 : decode cL_law 1067 = .ok (.iaload, 1) := by decide +kernel
theorem dL_law_1068 : decode cL_law 1068 = .ok (.aload_n 0, 1) := by decide +kernel
theorem dL_law_1069 : decode cL_law 1069 = .ok (.iload 4, 2) := by decide +kernel
theorem dL_law_1071 : decode cL_law 1071 = .ok (.iconst 2, 1) := by decide +kernel
theorem dL_law_1072 : decode cL_law 1072 = .ok (.iadd, 1) := by decide +kernel
theorem dL_law_1073 : decode cL_law 1073 = .ok (.iaload, 1) := by decide +kernel
theorem dL_law_1074 : decode cL_law 1074 = .ok (.invokevirtual 154, 3) := by decide +kernel
theorem dL_law_1077 : decode cL_law 1077 = .ok (.istore 6, 2) := by decide +kernel
theorem dL_law_1079 : decode cL_law 1079 = .ok (.aload_n 2, 1) := by decide +kernel
theorem dL_law_1080 : decode cL_law 1080 = .ok (.invokevirtual 100, 3) := by decide +kernel
theorem dL_law_1083 : decode cL_law 1083 = .ok (.iload 5, 2) := by decide +kernel
theorem dL_law_1085 : decode cL_law 1085 = .ok (.if_icmp .eq 5, 3) := by decide +kernel
theorem dL_law_1088 : decode cL_law 1088 = .ok (.iconst 0, 1) := by decide +kernel
theorem dL_law_1089 : decode cL_law 1089 = .ok (.ireturn, 1) := by decide +kernel
theorem dL_law_1090 : decode cL_law 1090 = .ok (.iload 5, 2) := by decide +kernel
theorem dL_law_1092 : decode cL_law 1092 = .ok (.ifCond .ne 15, 3) := by decide +kernel
theorem dL_law_1095 : decode cL_law 1095 = .ok (.aload_n 3, 1) := by decide +kernel
theorem dL_law_1096 : decode cL_law 1096 = .ok (.iconst 0, 1) := by decide +kernel
theorem dL_law_1097 : decode cL_law 1097 = .ok (.laload, 1) := by decide +kernel
theorem dL_law_1098 : decode cL_law 1098 = .ok (.iload 6, 2) := by decide +kernel
theorem dL_law_1100 : decode cL_law 1100 = .ok (.i2l, 1) := by decide +kernel
theorem dL_law_1101 : decode cL_law 1101 = .ok (.lcmp, 1) := by decide +kernel
theorem dL_law_1102 : decode cL_law 1102 = .ok (.ifCond .eq 5, 3) := by decide +kernel
theorem dL_law_1105 : decode cL_law 1105 = .ok (.iconst 0, 1) := by decide +kernel
theorem dL_law_1106 : decode cL_law 1106 = .ok (.ireturn, 1) := by decide +kernel
theorem dL_law_1107 : decode cL_law 1107 = .ok (.goto 542, 3) := by decide +kernel
theorem dL_law_1110 : decode cL_law 1110 = .ok (.aload_n 1, 1) := by decide +kernel
theorem dL_law_1111 : decode cL_law 1111 = .ok (.aload_n 0, 1) := by decide +kernel
theorem dL_law_1112 : decode cL_law 1112 = .ok (.iload 4, 2) := by decide +kernel
theorem dL_law_1114 : decode cL_law 1114 = .ok (.iconst 1, 1) := by decide +kernel
theorem dL_law_1115 : decode cL_law 1115 = .ok (.iadd, 1) := by decide +kernel
theorem dL_law_1116 : decode cL_law 1116 = .ok (.iaload, 1) := by decide +kernel
theorem dL_law_1117 : decode cL_law 1117 = .ok (.aload_n 0, 1) := by decide +kernel
theorem dL_law_1118 : decode cL_law 1118 = .ok (.iload 4, 2) := by decide +kernel
theorem dL_law_1120 : decode cL_law 1120 = .ok (.iconst 2, 1) := by decide +kernel
theorem dL_law_1121 : decode cL_law 1121 = .ok (.iadd, 1) := by decide +kernel
theorem dL_law_1122 : decode cL_law 1122 = .ok (.iaload, 1) := by decide +kernel
theorem dL_law_1123 : decode cL_law 1123 = .ok (.aload_n 3, 1) := by decide +kernel
theorem dL_law_1124 : decode cL_law 1124 = .ok (.invokestatic 155, 3) := by decide +kernel
theorem dL_law_1127 : decode cL_law 1127 = .ok (.istore 5, 2) := by decide +kernel
theorem dL_law_1129 : decode cL_law 1129 = .ok (.aload_n 2, 1) := by decide +kernel
theorem dL_law_1130 : decode cL_law 1130 = .ok (.aload_n 0, 1) := by decide +kernel
theorem dL_law_1131 : decode cL_law 1131 = .ok (.iload 4, 2) := by decide +kernel
theorem dL_law_1133 : decode cL_law 1133 = .ok (.iconst 1, 1) := by decide +kernel
theorem dL_law_1134 : decode cL_law 1134 = .ok (.iadd, 1) := by decide +kernel
theorem dL_law_1135 : decode cL_law 1135 = .ok (.iaload, 1) := by decide +kernel
theorem dL_law_1136 : decode cL_law 1136 = .ok (.aload_n 0, 1) := by decide +kernel
theorem dL_law_1137 : decode cL_law 1137 = .ok (.iload 4, 2) := by decide +kernel
theorem dL_law_1139 : decode cL_law 1139 = .ok (.iconst 2, 1) := by decide +kernel
theorem dL_law_1140 : decode cL_law 1140 = .ok (.iadd, 1) := by decide +kernel
theorem dL_law_1141 : decode cL_law 1141 = .ok (.iaload, 1) := by decide +kernel
theorem dL_law_1142 : decode cL_law 1142 = .ok (.invokevirtual 157, 3) := by decide +kernel
theorem dL_law_1145 : decode cL_law 1145 = .ok (.istore 6, 2) := by decide +kernel
theorem dL_law_1147 : decode cL_law 1147 = .ok (.aload_n 2, 1) := by decide +kernel
theorem dL_law_1148 : decode cL_law 1148 = .ok (.invokevirtual 100, 3) := by decide +kernel
theorem dL_law_1151 : decode cL_law 1151 = .ok (.iload 5, 2) := by decide +kernel
theorem dL_law_1153 : decode cL_law 1153 = .ok (.if_icmp .eq 5, 3) := by decide +kernel
theorem dL_law_1156 : decode cL_law 1156 = .ok (.iconst 0, 1) := by decide +kernel
theorem dL_law_1157 : decode cL_law 1157 = .ok (.ireturn, 1) := by decide +kernel
theorem dL_law_1158 : decode cL_law 1158 = .ok (.iload 5, 2) := by decide +kernel
theorem dL_law_1160 : decode cL_law 1160 = .ok (.ifCond .ne 15, 3) := by decide +kernel
theorem dL_law_1163 : decode cL_law 1163 = .ok (.aload_n 3, 1) := by decide +kernel
theorem dL_law_1164 : decode cL_law 1164 = .ok (.iconst 0, 1) := by decide +kernel
theorem dL_law_1165 : decode cL_law 1165 = .ok (.laload, 1) := by decide +kernel
theorem dL_law_1166 : decode cL_law 1166 = .ok (.iload 6, 2) := by decide +kernel
theorem dL_law_1168 : decode cL_law 1168 = .ok (.i2l, 1) := by decide +kernel
theorem dL_law_1169 : decode cL_law 1169 = .ok (.lcmp, 1) := by decide +kernel
theorem dL_law_1170 : decode cL_law 1170 = .ok (.ifCond .eq 5, 3) := by decide +kernel
theorem dL_law_1173 : decode cL_law 1173 = .ok (.iconst 0, 1) := by decide +kernel
theorem dL_law_1174 : decode cL_law 1174 = .ok (.ireturn, 1) := by decide +kernel
theorem dL_law_1175 : decode cL_law 1175 = .ok (.goto 474, 3) := by decide +kernel
theorem dL_law_1178 : decode cL_law 1178 = .ok (.aload_n 1, 1) := by decide +kernel
theorem dL_law_1179 : decode cL_law 1179 = .ok (.aload_n 0, 1) := by decide +kernel
theorem dL_law_1180 : decode cL_law 1180 = .ok (.iload 4, 2) := by decide +kernel
theorem dL_law_1182 : decode cL_law 1182 = .ok (.iconst 1, 1) := by decide +kernel
theorem dL_law_1183 : decode cL_law 1183 = .ok (.iadd, 1) := by decide +kernel
theorem dL_law_1184 : decode cL_law 1184 = .ok (.iaload, 1) := by decide +kernel
theorem dL_law_1185 : decode cL_law 1185 = .ok (.aload_n 0, 1) := by decide +kernel
theorem dL_law_1186 : decode cL_law 1186 = .ok (.iload 4, 2) := by decide +kernel
theorem dL_law_1188 : decode cL_law 1188 = .ok (.iconst 2, 1) := by decide +kernel
theorem dL_law_1189 : decode cL_law 1189 = .ok (.iadd, 1) := by decide +kernel
theorem dL_law_1190 : decode cL_law 1190 = .ok (.iaload, 1) := by decide +kernel
theorem dL_law_1191 : decode cL_law 1191 = .ok (.aload_n 0, 1) := by decide +kernel
theorem dL_law_1192 : decode cL_law 1192 = .ok (.iload 4, 2) := by decide +kernel
theorem dL_law_1194 : decode cL_law 1194 = .ok (.iconst 3, 1) := by decide +kernel
theorem dL_law_1195 : decode cL_law 1195 = .ok (.iadd, 1) := by decide +kernel
theorem dL_law_1196 : decode cL_law 1196 = .ok (.iaload, 1) := by decide +kernel
theorem dL_law_1197 : decode cL_law 1197 = .ok (.aload_n 3, 1) := by decide +kernel
theorem dL_law_1198 : decode cL_law 1198 = .ok (.invokestatic 158, 3) := by decide +kernel
theorem dL_law_1201 : decode cL_law 1201 = .ok (.istore 5, 2) := by decide +kernel
theorem dL_law_1203 : decode cL_law 1203 = .ok (.aload_n 2, 1) := by decide +kernel
theorem dL_law_1204 : decode cL_law 1204 = .ok (.aload_n 0, 1) := by decide +kernel
theorem dL_law_1205 : decode cL_law 1205 = .ok (.iload 4, 2) := by decide +kernel
theorem dL_law_1207 : decode cL_law 1207 = .ok (.iconst 1, 1) := by decide +kernel
theorem dL_law_1208 : decode cL_law 1208 = .ok (.iadd, 1) := by decide +kernel
theorem dL_law_1209 : decode cL_law 1209 = .ok (.iaload, 1) := by decide +kernel
theorem dL_law_1210 : decode cL_law 1210 = .ok (.aload_n 0, 1) := by decide +kernel
theorem dL_law_1211 : decode cL_law 1211 = .ok (.iload 4, 2) := by decide +kernel
theorem dL_law_1213 : decode cL_law 1213 = .ok (.iconst 2, 1) := by decide +kernel
theorem dL_law_1214 : decode cL_law 1214 = .ok (.iadd, 1) := by decide +kernel
theorem dL_law_1215 : decode cL_law 1215 = .ok (.iaload, 1) := by decide +kernel
theorem dL_law_1216 : decode cL_law 1216 = .ok (.aload_n 0, 1) := by decide +kernel
theorem dL_law_1217 : decode cL_law 1217 = .ok (.iload 4, 2) := by decide +kernel
theorem dL_law_1219 : decode cL_law 1219 = .ok (.iconst 3, 1) := by decide +kernel
theorem dL_law_1220 : decode cL_law 1220 = .ok (.iadd, 1) := by decide +kernel
theorem dL_law_1221 : decode cL_law 1221 = .ok (.iaload, 1) := by decide +kernel
theorem dL_law_1222 : decode cL_law 1222 = .ok (.invokevirtual 160, 3) := by decide +kernel
theorem dL_law_1225 : decode cL_law 1225 = .ok (.istore 6, 2) := by decide +kernel
theorem dL_law_1227 : decode cL_law 1227 = .ok (.aload_n 2, 1) := by decide +kernel
theorem dL_law_1228 : decode cL_law 1228 = .ok (.invokevirtual 100, 3) := by decide +kernel
theorem dL_law_1231 : decode cL_law 1231 = .ok (.iload 5, 2) := by decide +kernel
theorem dL_law_1233 : decode cL_law 1233 = .ok (.if_icmp .eq 5, 3) := by decide +kernel
theorem dL_law_1236 : decode cL_law 1236 = .ok (.iconst 0, 1) := by decide +kernel
theorem dL_law_1237 : decode cL_law 1237 = .ok (.ireturn, 1) := by decide +kernel
theorem dL_law_1238 : decode cL_law 1238 = .ok (.iload 5, 2) := by decide +kernel
theorem dL_law_1240 : decode cL_law 1240 = .ok (.ifCond .ne 15, 3) := by decide +kernel
theorem dL_law_1243 : decode cL_law 1243 = .ok (.aload_n 3, 1) := by decide +kernel
theorem dL_law_1244 : decode cL_law 1244 = .ok (.iconst 0, 1) := by decide +kernel
theorem dL_law_1245 : decode cL_law 1245 = .ok (.laload, 1) := by decide +kernel
theorem dL_law_1246 : decode cL_law 1246 = .ok (.iload 6, 2) := by decide +kernel
theorem dL_law_1248 : decode cL_law 1248 = .ok (.i2l, 1) := by decide +kernel
theorem dL_law_1249 : decode cL_law 1249 = .ok (.lcmp, 1) := by decide +kernel
theorem dL_law_1250 : decode cL_law 1250 = .ok (.ifCond .eq 5, 3) := by decide +kernel
theorem dL_law_1253 : decode cL_law 1253 = .ok (.iconst 0, 1) := by decide +kernel
theorem dL_law_1254 : decode cL_law 1254 = .ok (.ireturn, 1) := by decide +kernel
theorem dL_law_1255 : decode cL_law 1255 = .ok (.goto 394, 3) := by decide +kernel
theorem dL_law_1258 : decode cL_law 1258 = .ok (.aload_n 1, 1) := by decide +kernel
theorem dL_law_1259 : decode cL_law 1259 = .ok (.aload_n 0, 1) := by decide +kernel
theorem dL_law_1260 : decode cL_law 1260 = .ok (.iload 4, 2) := by decide +kernel
theorem dL_law_1262 : decode cL_law 1262 = .ok (.iconst 1, 1) := by decide +kernel
theorem dL_law_1263 : decode cL_law 1263 = .ok (.iadd, 1) := by decide +kernel
theorem dL_law_1264 : decode cL_law 1264 = .ok (.iaload, 1) := by decide +kernel
theorem dL_law_1265 : decode cL_law 1265 = .ok (.aload_n 3, 1) := by decide +kernel
theorem dL_law_1266 : decode cL_law 1266 = .ok (.invokestatic 161, 3) := by decide +kernel
theorem dL_law_1269 : decode cL_law 1269 = .ok (.istore 5, 2) := by decide +kernel
theorem dL_law_1271 : decode cL_law 1271 = .ok (.aload_n 2, 1) := by decide +kernel
theorem dL_law_1272 : decode cL_law 1272 = .ok (.aload_n 0, 1) := by decide +kernel
theorem dL_law_1273 : decode cL_law 1273 = .ok (.iload 4, 2) := by decide +kernel
theorem dL_law_1275 : decode cL_law 1275 = .ok (.iconst 1, 1) := by decide +kernel
theorem dL_law_1276 : decode cL_law 1276 = .ok (.iadd, 1) := by decide +kernel
theorem dL_law_1277 : decode cL_law 1277 = .ok (.iaload, 1) := by decide +kernel
theorem dL_law_1278 : decode cL_law 1278 = .ok (.invokevirtual 163, 3) := by decide +kernel
theorem dL_law_1281 : decode cL_law 1281 = .ok (.istore 6, 2) := by decide +kernel
theorem dL_law_1283 : decode cL_law 1283 = .ok (.aload_n 2, 1) := by decide +kernel
theorem dL_law_1284 : decode cL_law 1284 = .ok (.invokevirtual 100, 3) := by decide +kernel
theorem dL_law_1287 : decode cL_law 1287 = .ok (.iload 5, 2) := by decide +kernel
theorem dL_law_1289 : decode cL_law 1289 = .ok (.if_icmp .eq 5, 3) := by decide +kernel
theorem dL_law_1292 : decode cL_law 1292 = .ok (.iconst 0, 1) := by decide +kernel
theorem dL_law_1293 : decode cL_law 1293 = .ok (.ireturn, 1) := by decide +kernel
theorem dL_law_1294 : decode cL_law 1294 = .ok (.iload 5, 2) := by decide +kernel
theorem dL_law_1296 : decode cL_law 1296 = .ok (.ifCond .ne 15, 3) := by decide +kernel
theorem dL_law_1299 : decode cL_law 1299 = .ok (.aload_n 3, 1) := by decide +kernel
theorem dL_law_1300 : decode cL_law 1300 = .ok (.iconst 0, 1) := by decide +kernel
theorem dL_law_1301 : decode cL_law 1301 = .ok (.laload, 1) := by decide +kernel
theorem dL_law_1302 : decode cL_law 1302 = .ok (.iload 6, 2) := by decide +kernel
theorem dL_law_1304 : decode cL_law 1304 = .ok (.i2l, 1) := by decide +kernel
theorem dL_law_1305 : decode cL_law 1305 = .ok (.lcmp, 1) := by decide +kernel
theorem dL_law_1306 : decode cL_law 1306 = .ok (.ifCond .eq 5, 3) := by decide +kernel
theorem dL_law_1309 : decode cL_law 1309 = .ok (.iconst 0, 1) := by decide +kernel
theorem dL_law_1310 : decode cL_law 1310 = .ok (.ireturn, 1) := by decide +kernel
theorem dL_law_1311 : decode cL_law 1311 = .ok (.goto 338, 3) := by decide +kernel
theorem dL_law_1314 : decode cL_law 1314 = .ok (.aload_n 1, 1) := by decide +kernel
theorem dL_law_1315 : decode cL_law 1315 = .ok (.aload_n 0, 1) := by decide +kernel
theorem dL_law_1316 : decode cL_law 1316 = .ok (.iload 4, 2) := by decide +kernel
theorem dL_law_1318 : decode cL_law 1318 = .ok (.iconst 1, 1) := by decide +kernel
theorem dL_law_1319 : decode cL_law 1319 = .ok (.iadd, 1) := by decide +kernel
theorem dL_law_1320 : decode cL_law 1320 = .ok (.iaload, 1) := by decide +kernel
theorem dL_law_1321 : decode cL_law 1321 = .ok (.aload_n 3, 1) := by decide +kernel
theorem dL_law_1322 : decode cL_law 1322 = .ok (.invokestatic 164, 3) := by decide +kernel
theorem dL_law_1325 : decode cL_law 1325 = .ok (.istore 5, 2) := by decide +kernel
theorem dL_law_1327 : decode cL_law 1327 = .ok (.aload_n 2, 1) := by decide +kernel
theorem dL_law_1328 : decode cL_law 1328 = .ok (.aload_n 0, 1) := by decide +kernel
theorem dL_law_1329 : decode cL_law 1329 = .ok (.iload 4, 2) := by decide +kernel
theorem dL_law_1331 : decode cL_law 1331 = .ok (.iconst 1, 1) := by decide +kernel
theorem dL_law_1332 : decode cL_law 1332 = .ok (.iadd, 1) := by decide +kernel
theorem dL_law_1333 : decode cL_law 1333 = .ok (.iaload, 1) := by decide +kernel
theorem dL_law_1334 : decode cL_law 1334 = .ok (.invokevirtual 166, 3) := by decide +kernel
theorem dL_law_1337 : decode cL_law 1337 = .ok (.istore 6, 2) := by decide +kernel
theorem dL_law_1339 : decode cL_law 1339 = .ok (.aload_n 2, 1) := by decide +kernel
theorem dL_law_1340 : decode cL_law 1340 = .ok (.invokevirtual 100, 3) := by decide +kernel
theorem dL_law_1343 : decode cL_law 1343 = .ok (.iload 5, 2) := by decide +kernel
theorem dL_law_1345 : decode cL_law 1345 = .ok (.if_icmp .eq 5, 3) := by decide +kernel
theorem dL_law_1348 : decode cL_law 1348 = .ok (.iconst 0, 1) := by decide +kernel
theorem dL_law_1349 : decode cL_law 1349 = .ok (.ireturn, 1) := by decide +kernel
theorem dL_law_1350 : decode cL_law 1350 = .ok (.iload 5, 2) := by decide +kernel
theorem dL_law_1352 : decode cL_law 1352 = .ok (.ifCond .ne 15, 3) := by decide +kernel
theorem dL_law_1355 : decode cL_law 1355 = .ok (.aload_n 3, 1) := by decide +kernel
theorem dL_law_1356 : decode cL_law 1356 = .ok (.iconst 0, 1) := by decide +kernel
theorem dL_law_1357 : decode cL_law 1357 = .ok (.laload, 1) := by decide +kernel
theorem dL_law_1358 : decode cL_law 1358 = .ok (.iload 6, 2) := by decide +kernel
theorem dL_law_1360 : decode cL_law 1360 = .ok (.i2l, 1) := by decide +kernel
theorem dL_law_1361 : decode cL_law 1361 = .ok (.lcmp, 1) := by decide +kernel
theorem dL_law_1362 : decode cL_law 1362 = .ok (.ifCond .eq 5, 3) := by decide +kernel
theorem dL_law_1365 : decode cL_law 1365 = .ok (.iconst 0, 1) := by decide +kernel
theorem dL_law_1366 : decode cL_law 1366 = .ok (.ireturn, 1) := by decide +kernel
theorem dL_law_1367 : decode cL_law 1367 = .ok (.goto 282, 3) := by decide +kernel
theorem dL_law_1370 : decode cL_law 1370 = .ok (.aload_n 1, 1) := by decide +kernel
theorem dL_law_1371 : decode cL_law 1371 = .ok (.aload_n 0, 1) := by decide +kernel
theorem dL_law_1372 : decode cL_law 1372 = .ok (.iload 4, 2) := by decide +kernel
theorem dL_law_1374 : decode cL_law 1374 = .ok (.iconst 1, 1) := by decide +kernel
theorem dL_law_1375 : decode cL_law 1375 = .ok (.iadd, 1) := by decide +kernel
theorem dL_law_1376 : decode cL_law 1376 = .ok (.iaload, 1) := by decide +kernel
theorem dL_law_1377 : decode cL_law 1377 = .ok (.aload_n 3, 1) := by decide +kernel
theorem dL_law_1378 : decode cL_law 1378 = .ok (.invokestatic 167, 3) := by decide +kernel
theorem dL_law_1381 : decode cL_law 1381 = .ok (.istore 5, 2) := by decide +kernel
theorem dL_law_1383 : decode cL_law 1383 = .ok (.aload_n 2, 1) := by decide +kernel
theorem dL_law_1384 : decode cL_law 1384 = .ok (.aload_n 0, 1) := by decide +kernel
theorem dL_law_1385 : decode cL_law 1385 = .ok (.iload 4, 2) := by decide +kernel
theorem dL_law_1387 : decode cL_law 1387 = .ok (.iconst 1, 1) := by decide +kernel
theorem dL_law_1388 : decode cL_law 1388 = .ok (.iadd, 1) := by decide +kernel
theorem dL_law_1389 : decode cL_law 1389 = .ok (.iaload, 1) := by decide +kernel
theorem dL_law_1390 : decode cL_law 1390 = .ok (.invokevirtual 169, 3) := by decide +kernel
theorem dL_law_1393 : decode cL_law 1393 = .ok (.istore 6, 2) := by decide +kernel
theorem dL_law_1395 : decode cL_law 1395 = .ok (.aload_n 2, 1) := by decide +kernel
theorem dL_law_1396 : decode cL_law 1396 = .ok (.invokevirtual 100, 3) := by decide +kernel
theorem dL_law_1399 : decode cL_law 1399 = .ok (.iload 5, 2) := by decide +kernel
theorem dL_law_1401 : decode cL_law 1401 = .ok (.if_icmp .eq 5, 3) := by decide +kernel
theorem dL_law_1404 : decode cL_law 1404 = .ok (.iconst 0, 1) := by decide +kernel
theorem dL_law_1405 : decode cL_law 1405 = .ok (.ireturn, 1) := by decide +kernel
theorem dL_law_1406 : decode cL_law 1406 = .ok (.iload 5, 2) := by decide +kernel
theorem dL_law_1408 : decode cL_law 1408 = .ok (.ifCond .ne 15, 3) := by decide +kernel
theorem dL_law_1411 : decode cL_law 1411 = .ok (.aload_n 3, 1) := by decide +kernel
theorem dL_law_1412 : decode cL_law 1412 = .ok (.iconst 0, 1) := by decide +kernel
theorem dL_law_1413 : decode cL_law 1413 = .ok (.laload, 1) := by decide +kernel
theorem dL_law_1414 : decode cL_law 1414 = .ok (.iload 6, 2) := by decide +kernel
theorem dL_law_1416 : decode cL_law 1416 = .ok (.i2l, 1) := by decide +kernel
theorem dL_law_1417 : decode cL_law 1417 = .ok (.lcmp, 1) := by decide +kernel
theorem dL_law_1418 : decode cL_law 1418 = .ok (.ifCond .eq 5, 3) := by decide +kernel
theorem dL_law_1421 : decode cL_law 1421 = .ok (.iconst 0, 1) := by decide +kernel
theorem dL_law_1422 : decode cL_law 1422 = .ok (.ireturn, 1) := by decide +kernel
theorem dL_law_1423 : decode cL_law 1423 = .ok (.goto 226, 3) := by decide +kernel
theorem dL_law_1426 : decode cL_law 1426 = .ok (.aload_n 1, 1) := by decide +kernel
theorem dL_law_1427 : decode cL_law 1427 = .ok (.aload_n 0, 1) := by decide +kernel
theorem dL_law_1428 : decode cL_law 1428 = .ok (.iload 4, 2) := by decide +kernel
theorem dL_law_1430 : decode cL_law 1430 = .ok (.iconst 1, 1) := by decide +kernel
theorem dL_law_1431 : decode cL_law 1431 = .ok (.iadd, 1) := by decide +kernel
theorem dL_law_1432 : decode cL_law 1432 = .ok (.iaload, 1) := by decide +kernel
theorem dL_law_1433 : decode cL_law 1433 = .ok (.aload_n 3, 1) := by decide +kernel
theorem dL_law_1434 : decode cL_law 1434 = .ok (.invokestatic 170, 3) := by decide +kernel
theorem dL_law_1437 : decode cL_law 1437 = .ok (.istore 5, 2) := by decide +kernel
theorem dL_law_1439 : decode cL_law 1439 = .ok (.aload_n 2, 1) := by decide +kernel
theorem dL_law_1440 : decode cL_law 1440 = .ok (.aload_n 0, 1) := by decide +kernel
theorem dL_law_1441 : decode cL_law 1441 = .ok (.iload 4, 2) := by decide +kernel
theorem dL_law_1443 : decode cL_law 1443 = .ok (.iconst 1, 1) := by decide +kernel
theorem dL_law_1444 : decode cL_law 1444 = .ok (.iadd, 1) := by decide +kernel
theorem dL_law_1445 : decode cL_law 1445 = .ok (.iaload, 1) := by decide +kernel
theorem dL_law_1446 : decode cL_law 1446 = .ok (.invokevirtual 172, 3) := by decide +kernel
theorem dL_law_1449 : decode cL_law 1449 = .ok (.istore 6, 2) := by decide +kernel
theorem dL_law_1451 : decode cL_law 1451 = .ok (.aload_n 2, 1) := by decide +kernel
theorem dL_law_1452 : decode cL_law 1452 = .ok (.invokevirtual 100, 3) := by decide +kernel
theorem dL_law_1455 : decode cL_law 1455 = .ok (.iload 5, 2) := by decide +kernel
theorem dL_law_1457 : decode cL_law 1457 = .ok (.if_icmp .eq 5, 3) := by decide +kernel
theorem dL_law_1460 : decode cL_law 1460 = .ok (.iconst 0, 1) := by decide +kernel
theorem dL_law_1461 : decode cL_law 1461 = .ok (.ireturn, 1) := by decide +kernel
theorem dL_law_1462 : decode cL_law 1462 = .ok (.iload 5, 2) := by decide +kernel
theorem dL_law_1464 : decode cL_law 1464 = .ok (.ifCond .ne 15, 3) := by decide +kernel
theorem dL_law_1467 : decode cL_law 1467 = .ok (.aload_n 3, 1) := by decide +kernel
theorem dL_law_1468 : decode cL_law 1468 = .ok (.iconst 0, 1) := by decide +kernel
theorem dL_law_1469 : decode cL_law 1469 = .ok (.laload, 1) := by decide +kernel
theorem dL_law_1470 : decode cL_law 1470 = .ok (.iload 6, 2) := by decide +kernel
theorem dL_law_1472 : decode cL_law 1472 = .ok (.i2l, 1) := by decide +kernel
theorem dL_law_1473 : decode cL_law 1473 = .ok (.lcmp, 1) := by decide +kernel
theorem dL_law_1474 : decode cL_law 1474 = .ok (.ifCond .eq 5, 3) := by decide +kernel
theorem dL_law_1477 : decode cL_law 1477 = .ok (.iconst 0, 1) := by decide +kernel
theorem dL_law_1478 : decode cL_law 1478 = .ok (.ireturn, 1) := by decide +kernel
theorem dL_law_1479 : decode cL_law 1479 = .ok (.goto 170, 3) := by decide +kernel
theorem dL_law_1482 : decode cL_law 1482 = .ok (.aload_n 1, 1) := by decide +kernel
theorem dL_law_1483 : decode cL_law 1483 = .ok (.aload_n 0, 1) := by decide +kernel
theorem dL_law_1484 : decode cL_law 1484 = .ok (.iload 4, 2) := by decide +kernel
theorem dL_law_1486 : decode cL_law 1486 = .ok (.iconst 1, 1) := by decide +kernel
theorem dL_law_1487 : decode cL_law 1487 = .ok (.iadd, 1) := by decide +kernel
theorem dL_law_1488 : decode cL_law 1488 = .ok (.iaload, 1) := by decide +kernel
theorem dL_law_1489 : decode cL_law 1489 = .ok (.aload_n 3, 1) := by decide +kernel
theorem dL_law_1490 : decode cL_law 1490 = .ok (.invokestatic 173, 3) := by decide +kernel
theorem dL_law_1493 : decode cL_law 1493 = .ok (.istore 5, 2) := by decide +kernel
theorem dL_law_1495 : decode cL_law 1495 = .ok (.aload_n 2, 1) := by decide +kernel
theorem dL_law_1496 : decode cL_law 1496 = .ok (.aload_n 0, 1) := by decide +kernel
theorem dL_law_1497 : decode cL_law 1497 = .ok (.iload 4, 2) := by decide +kernel
theorem dL_law_1499 : decode cL_law 1499 = .ok (.iconst 1, 1) := by decide +kernel
theorem dL_law_1500 : decode cL_law 1500 = .ok (.iadd, 1) := by decide +kernel
theorem dL_law_1501 : decode cL_law 1501 = .ok (.iaload, 1) := by decide +kernel
theorem dL_law_1502 : decode cL_law 1502 = .ok (.invokevirtual 175, 3) := by decide +kernel
theorem dL_law_1505 : decode cL_law 1505 = .ok (.lstore 6, 2) := by decide +kernel
theorem dL_law_1507 : decode cL_law 1507 = .ok (.aload_n 2, 1) := by decide +kernel
theorem dL_law_1508 : decode cL_law 1508 = .ok (.invokevirtual 100, 3) := by decide +kernel
theorem dL_law_1511 : decode cL_law 1511 = .ok (.iload 5, 2) := by decide +kernel
theorem dL_law_1513 : decode cL_law 1513 = .ok (.if_icmp .eq 5, 3) := by decide +kernel
theorem dL_law_1516 : decode cL_law 1516 = .ok (.iconst 0, 1) := by decide +kernel
theorem dL_law_1517 : decode cL_law 1517 = .ok (.ireturn, 1) := by decide +kernel
theorem dL_law_1518 : decode cL_law 1518 = .ok (.iload 5, 2) := by decide +kernel
theorem dL_law_1520 : decode cL_law 1520 = .ok (.ifCond .ne 14, 3) := by decide +kernel
theorem dL_law_1523 : decode cL_law 1523 = .ok (.aload_n 3, 1) := by decide +kernel
theorem dL_law_1524 : decode cL_law 1524 = .ok (.iconst 0, 1) := by decide +kernel
theorem dL_law_1525 : decode cL_law 1525 = .ok (.laload, 1) := by decide +kernel
theorem dL_law_1526 : decode cL_law 1526 = .ok (.lload 6, 2) := by decide +kernel
theorem dL_law_1528 : decode cL_law 1528 = .ok (.lcmp, 1) := by decide +kernel
theorem dL_law_1529 : decode cL_law 1529 = .ok (.ifCond .eq 5, 3) := by decide +kernel
theorem dL_law_1532 : decode cL_law 1532 = .ok (.iconst 0, 1) := by decide +kernel
theorem dL_law_1533 : decode cL_law 1533 = .ok (.ireturn, 1) := by decide +kernel
theorem dL_law_1534 : decode cL_law 1534 = .ok (.goto 115, 3) := by decide +kernel
theorem dL_law_1537 : decode cL_law 1537 = .ok (.aload_n 1, 1) := by decide +kernel
theorem dL_law_1538 : decode cL_law 1538 = .ok (.aload_n 0, 1) := by decide +kernel
theorem dL_law_1539 : decode cL_law 1539 = .ok (.iload 4, 2) := by decide +kernel
theorem dL_law_1541 : decode cL_law 1541 = .ok (.iconst 1, 1) := by decide +kernel
theorem dL_law_1542 : decode cL_law 1542 = .ok (.iadd, 1) := by decide +kernel
theorem dL_law_1543 : decode cL_law 1543 = .ok (.iaload, 1) := by decide +kernel
theorem dL_law_1544 : decode cL_law 1544 = .ok (.aload_n 3, 1) := by decide +kernel
theorem dL_law_1545 : decode cL_law 1545 = .ok (.invokestatic 176, 3) := by decide +kernel
theorem dL_law_1548 : decode cL_law 1548 = .ok (.istore 5, 2) := by decide +kernel
theorem dL_law_1550 : decode cL_law 1550 = .ok (.aload_n 2, 1) := by decide +kernel
theorem dL_law_1551 : decode cL_law 1551 = .ok (.aload_n 0, 1) := by decide +kernel
theorem dL_law_1552 : decode cL_law 1552 = .ok (.iload 4, 2) := by decide +kernel
theorem dL_law_1554 : decode cL_law 1554 = .ok (.iconst 1, 1) := by decide +kernel
theorem dL_law_1555 : decode cL_law 1555 = .ok (.iadd, 1) := by decide +kernel
theorem dL_law_1556 : decode cL_law 1556 = .ok (.iaload, 1) := by decide +kernel
theorem dL_law_1557 : decode cL_law 1557 = .ok (.invokevirtual 178, 3) := by decide +kernel
theorem dL_law_1560 : decode cL_law 1560 = .ok (.istore 6, 2) := by decide +kernel
theorem dL_law_1562 : decode cL_law 1562 = .ok (.aload_n 2, 1) := by decide +kernel
theorem dL_law_1563 : decode cL_law 1563 = .ok (.invokevirtual 100, 3) := by decide +kernel
theorem dL_law_1566 : decode cL_law 1566 = .ok (.iload 5, 2) := by decide +kernel
theorem dL_law_1568 : decode cL_law 1568 = .ok (.if_icmp .eq 5, 3) := by decide +kernel
theorem dL_law_1571 : decode cL_law 1571 = .ok (.iconst 0, 1) := by decide +kernel
theorem dL_law_1572 : decode cL_law 1572 = .ok (.ireturn, 1) := by decide +kernel
theorem dL_law_1573 : decode cL_law 1573 = .ok (.iload 5, 2) := by decide +kernel
theorem dL_law_1575 : decode cL_law 1575 = .ok (.ifCond .ne 15, 3) := by decide +kernel
theorem dL_law_1578 : decode cL_law 1578 = .ok (.aload_n 3, 1) := by decide +kernel
theorem dL_law_1579 : decode cL_law 1579 = .ok (.iconst 0, 1) := by decide +kernel
theorem dL_law_1580 : decode cL_law 1580 = .ok (.laload, 1) := by decide +kernel
theorem dL_law_1581 : decode cL_law 1581 = .ok (.iload 6, 2) := by decide +kernel
theorem dL_law_1583 : decode cL_law 1583 = .ok (.i2l, 1) := by decide +kernel
theorem dL_law_1584 : decode cL_law 1584 = .ok (.lcmp, 1) := by decide +kernel
theorem dL_law_1585 : decode cL_law 1585 = .ok (.ifCond .eq 5, 3) := by decide +kernel
theorem dL_law_1588 : decode cL_law 1588 = .ok (.iconst 0, 1) := by decide +kernel
theorem dL_law_1589 : decode cL_law 1589 = .ok (.ireturn, 1) := by decide +kernel
theorem dL_law_1590 : decode cL_law 1590 = .ok (.goto 59, 3) := by decide +kernel
theorem dL_law_1593 : decode cL_law 1593 = .ok (.aload_n 1, 1) := by decide +kernel
theorem dL_law_1594 : decode cL_law 1594 = .ok (.aload_n 0, 1) := by decide +kernel
theorem dL_law_1595 : decode cL_law 1595 = .ok (.iload 4, 2) := by decide +kernel
theorem dL_law_1597 : decode cL_law 1597 = .ok (.iconst 1, 1) := by decide +kernel
theorem dL_law_1598 : decode cL_law 1598 = .ok (.iadd, 1) := by decide +kernel
theorem dL_law_1599 : decode cL_law 1599 = .ok (.iaload, 1) := by decide +kernel
theorem dL_law_1600 : decode cL_law 1600 = .ok (.aload_n 3, 1) := by decide +kernel
theorem dL_law_1601 : decode cL_law 1601 = .ok (.invokestatic 179, 3) := by decide +kernel
theorem dL_law_1604 : decode cL_law 1604 = .ok (.istore 5, 2) := by decide +kernel
theorem dL_law_1606 : decode cL_law 1606 = .ok (.aload_n 2, 1) := by decide +kernel
theorem dL_law_1607 : decode cL_law 1607 = .ok (.aload_n 0, 1) := by decide +kernel
theorem dL_law_1608 : decode cL_law 1608 = .ok (.iload 4, 2) := by decide +kernel
theorem dL_law_1610 : decode cL_law 1610 = .ok (.iconst 1, 1) := by decide +kernel
theorem dL_law_1611 : decode cL_law 1611 = .ok (.iadd, 1) := by decide +kernel
theorem dL_law_1612 : decode cL_law 1612 = .ok (.iaload, 1) := by decide +kernel
theorem dL_law_1613 : decode cL_law 1613 = .ok (.invokevirtual 181, 3) := by decide +kernel
theorem dL_law_1616 : decode cL_law 1616 = .ok (.istore 6, 2) := by decide +kernel
theorem dL_law_1618 : decode cL_law 1618 = .ok (.aload_n 2, 1) := by decide +kernel
theorem dL_law_1619 : decode cL_law 1619 = .ok (.invokevirtual 100, 3) := by decide +kernel
theorem dL_law_1622 : decode cL_law 1622 = .ok (.iload 5, 2) := by decide +kernel
theorem dL_law_1624 : decode cL_law 1624 = .ok (.if_icmp .eq 5, 3) := by decide +kernel
theorem dL_law_1627 : decode cL_law 1627 = .ok (.iconst 0, 1) := by decide +kernel
theorem dL_law_1628 : decode cL_law 1628 = .ok (.ireturn, 1) := by decide +kernel
theorem dL_law_1629 : decode cL_law 1629 = .ok (.iload 5, 2) := by decide +kernel
theorem dL_law_1631 : decode cL_law 1631 = .ok (.ifCond .ne 15, 3) := by decide +kernel
theorem dL_law_1634 : decode cL_law 1634 = .ok (.aload_n 3, 1) := by decide +kernel
theorem dL_law_1635 : decode cL_law 1635 = .ok (.iconst 0, 1) := by decide +kernel
theorem dL_law_1636 : decode cL_law 1636 = .ok (.laload, 1) := by decide +kernel
theorem dL_law_1637 : decode cL_law 1637 = .ok (.iload 6, 2) := by decide +kernel
theorem dL_law_1639 : decode cL_law 1639 = .ok (.i2l, 1) := by decide +kernel
theorem dL_law_1640 : decode cL_law 1640 = .ok (.lcmp, 1) := by decide +kernel
theorem dL_law_1641 : decode cL_law 1641 = .ok (.ifCond .eq 5, 3) := by decide +kernel
theorem dL_law_1644 : decode cL_law 1644 = .ok (.iconst 0, 1) := by decide +kernel
theorem dL_law_1645 : decode cL_law 1645 = .ok (.ireturn, 1) := by decide +kernel
theorem dL_law_1646 : decode cL_law 1646 = .ok (.goto 3, 3) := by decide +kernel
theorem dL_law_1649 : decode cL_law 1649 = .ok (.iinc 4 5, 3) := by decide +kernel
theorem dL_law_1652 : decode cL_law 1652 = .ok (.goto (-1629), 3) := by decide +kernel
theorem dL_law_1655 : decode cL_law 1655 = .ok (.iconst 1, 1) := by decide +kernel
theorem dL_law_1656 : decode cL_law 1656 = .ok (.ireturn, 1) := by decide +kernel
end
section
/-! THE FRAME: a Java method of these two classes as a function over the mutable ints of the whole system; what it means that code computes such a function -/
section SYA
abbrev sy_Mem : Type := Nat → Nat → Int32
abbrev sy_MM (α : Type) : Type := sy_Mem → Option ((α ⊕ Nat) × sy_Mem)
def sy_ret {α : Type} (a : α) : sy_MM α := fun σ => some (.inl a, σ)
def sy_fail {α : Type} : sy_MM α := fun _ => none
def sy_bnd {α β : Type} (m : sy_MM α) (k : α → sy_MM β) : sy_MM β := fun σ => match m σ with
  | some (.inl a, t) => k a t
  | some (.inr e, t) => some (.inr e, t)
  | none => none
theorem sy_bnd_ret {α β : Type} (a : α) (k : α → sy_MM β) : sy_bnd (sy_ret a) k = k a := rfl
theorem sy_bnd_fail {α β : Type} (k : α → sy_MM β) : sy_bnd sy_fail k = sy_fail := rfl
theorem sy_bnd_bnd {α β γ : Type} (m : sy_MM α) (k : α → sy_MM β) (k2 : β → sy_MM γ) : sy_bnd (sy_bnd m k) k2 = sy_bnd m (fun a => sy_bnd (k a) k2) := by
  funext σ
  simp only [sy_bnd]
  cases m σ with
  | none => rfl
  | some r =>
    obtain ⟨r, t⟩ := r
    cases r <;> rfl
/-- the cells, in the order in which they are made: an object (its class, its fields: a cell that it points to, or an int), or a row (0 ints, 1 booleans, 2 views, 3 longs) -/
def sy_lay : Nat → (Nat × List (Option Nat)) ⊕ (Nat × Nat)
  | 0 => .inl (5, [some 1, some 10, some 19, some 27, some 30, some 31])
  | 1 => .inl (2, [none, some 2, some 3, some 4, some 5, some 6, some 7, some 8, some 9])
  | 2 => .inr (0, 12)
  | 3 => .inr (0, 12)
  | 4 => .inr (0, 12)
  | 5 => .inr (0, 12)
  | 6 => .inr (0, 12)
  | 7 => .inr (0, 12)
  | 8 => .inr (0, 12)
  | 9 => .inr (0, 12)
  | 10 => .inl (3, [some 1, some 11, some 12, some 13, some 14, some 15, some 16, some 17, some 18, none])
  | 11 => .inr (0, 60)
  | 12 => .inr (0, 60)
  | 13 => .inr (0, 60)
  | 14 => .inr (0, 180)
  | 15 => .inr (0, 180)
  | 16 => .inr (0, 3)
  | 17 => .inr (0, 60)
  | 18 => .inr (1, 60)
  | 19 => .inl (0, [none, some 20, some 21, some 22, some 23, some 24, some 25, some 26])
  | 20 => .inr (0, 4)
  | 21 => .inr (0, 4)
  | 22 => .inr (0, 4)
  | 23 => .inr (1, 12)
  | 24 => .inr (0, 12)
  | 25 => .inr (0, 12)
  | 26 => .inr (0, 12)
  | 27 => .inl (1, [none, none, some 28, some 29])
  | 28 => .inr (0, 4)
  | 29 => .inr (0, 4)
  | 30 => .inr (2, 4)
  | 31 => .inr (0, 12)
  | 32 => .inl (4, [none, none, none, none, none, none, none, some 33, some 34])
  | 33 => .inr (0, 4)
  | 34 => .inr (1, 4)
  | 35 => .inl (4, [none, none, none, none, none, none, none, some 36, some 37])
  | 36 => .inr (0, 4)
  | 37 => .inr (1, 4)
  | 38 => .inl (4, [none, none, none, none, none, none, none, some 39, some 40])
  | 39 => .inr (0, 4)
  | 40 => .inr (1, 4)
  | 41 => .inl (4, [none, none, none, none, none, none, none, some 42, some 43])
  | 42 => .inr (0, 4)
  | 43 => .inr (1, 4)
  | 44 => .inl (6, [none, some 45, some 46, some 47, some 48, some 49, some 50, some 51, some 52, some 53, some 54, some 55, some 56, some 57, some 58, some 59, some 60, some 61, some 62, some 63, some 64, some 65, some 66, none, none, some 67, some 68, some 69, some 70, some 71, some 72, some 73, some 74, none, some 75, some 76, none])
  | 45 => .inr (0, 12)
  | 46 => .inr (0, 12)
  | 47 => .inr (0, 12)
  | 48 => .inr (0, 12)
  | 49 => .inr (0, 12)
  | 50 => .inr (0, 12)
  | 51 => .inr (0, 12)
  | 52 => .inr (0, 12)
  | 53 => .inr (0, 60)
  | 54 => .inr (0, 60)
  | 55 => .inr (0, 180)
  | 56 => .inr (1, 60)
  | 57 => .inr (0, 3)
  | 58 => .inr (0, 180)
  | 59 => .inr (0, 4)
  | 60 => .inr (0, 4)
  | 61 => .inr (0, 4)
  | 62 => .inr (0, 4)
  | 63 => .inr (0, 4)
  | 64 => .inr (0, 4)
  | 65 => .inr (0, 16)
  | 66 => .inr (0, 16)
  | 67 => .inr (0, 4)
  | 68 => .inr (0, 4)
  | 69 => .inr (0, 4)
  | 70 => .inr (1, 12)
  | 71 => .inr (0, 12)
  | 72 => .inr (0, 12)
  | 73 => .inr (0, 12)
  | 74 => .inr (0, 12)
  | 75 => .inr (0, 4)
  | 76 => .inr (0, 4)
  | 77 => .inr (3, 1)
  | _ => .inr (9, 0)
def sy_N : Nat := 78
def sy_jn (a c : Int32) : Int64 := Int64.ofBitVec (a.toBitVec ++ c.toBitVec)
def sy_hi (x : Int64) : Int32 := Int32.ofBitVec (x.toBitVec.extractLsb' 32 32)
def sy_lo (x : Int64) : Int32 := Int32.ofBitVec (x.toBitVec.extractLsb' 0 32)
theorem sy_jn_hl (x : Int64) : sy_jn (sy_hi x) (sy_lo x) = x := by
  unfold sy_jn sy_hi sy_lo
  apply Int64.toBitVec_inj.mp
  show (x.toBitVec.extractLsb' 32 32 ++ x.toBitVec.extractLsb' 0 32 : BitVec 64) = x.toBitVec
  apply BitVec.eq_of_getLsbD_eq
  intro i hi
  rw [BitVec.getLsbD_append, BitVec.getLsbD_extractLsb', BitVec.getLsbD_extractLsb']
  by_cases h : i < 32
  · simp [h]
  · simp [h, show i - 32 < 32 by omega, show 32 + (i - 32) = i by omega]
def sy_vw (i : Nat) : Nat := 32 + 3 * i
def sy_cell (b : Nat) (cA : Nat → ClassId) (σ : sy_Mem) (k : Nat) : va_E := match sy_lay k with
  | .inl (ci, fs) => .inr (ci, fs.mapIdx (fun i f => match f with | some j => Value.ref (b + j) | none => Value.int (σ k i)))
  | .inr (0, n) => .inl (cA 0, n, .inl (σ k))
  | .inr (1, n) => .inl (cA 1, n, .inl (σ k))
  | .inr (2, n) => .inl (cA 2, n, .inr (.inr (.inr (.inr (fun i => some (b + sy_vw i))))))
  | .inr (_, n) => .inl (cA 3, n, .inr (.inl (fun _ => sy_jn (σ k 0) (σ k 1))))
def sy_wd (b : Nat) (cA : Nat → ClassId) (σ : sy_Mem) : va_W := (List.range sy_N).map (fun k => (b + k, sy_cell b cA σ k))
def sy_up (σ : sy_Mem) (k i : Nat) (v : Int32) : sy_Mem := fun j => if j = k then upd (σ k) i v else σ j
def sy_ab (b : Nat) : Nat → Prop := fun q => b ≤ q
theorem sy_wd_at {b : Nat} {cA : Nat → ClassId} {σ : sy_Mem} {k : Nat} (h : k < sy_N) : (sy_wd b cA σ)[k]? = some (b + k, sy_cell b cA σ k) := by
  simp [sy_wd, h]
theorem sy_wd_set {b : Nat} {cA : Nat → ClassId} {σ τ : sy_Mem} {k : Nat} {e : va_E} (he : e = sy_cell b cA τ k) (hc : ∀ j, j ≠ k → τ j = σ j) : (sy_wd b cA σ).set k (b + k, e) = sy_wd b cA τ := by
  subst he
  apply List.ext_getElem?
  intro i
  by_cases hi : i < sy_N
  · by_cases hk : i = k
    · subst hk
      rw [sy_wd_at hi, List.getElem?_set_self (by simp [sy_wd, hi])]
    · rw [List.getElem?_set_ne (fun h => hk h.symm), sy_wd_at hi, sy_wd_at hi]
      simp only [sy_cell, hc i hk]
  · rw [List.getElem?_eq_none (by simp [sy_wd]; omega), List.getElem?_eq_none (by simp [sy_wd]; omega)]
theorem sy_wd_D (b : Nat) (cA : Nat → ClassId) (σ : sy_Mem) : va_D (sy_ab b) (sy_wd b cA σ) := by
  have ha : ∀ (i : Nat) (p : Nat × va_E), (sy_wd b cA σ)[i]? = some p → p.1 = b + i := by
    intro i p h
    have hi : i < sy_N := by
      have := (List.getElem?_eq_some_iff.mp h).1
      simpa [sy_wd] using this
    rw [sy_wd_at hi] at h
    cases h
    rfl
  exact ⟨fun i j p q hp hq e => by have := ha i p hp; have := ha j q hq; omega, fun k q h => by show b ≤ q.1; have := ha k q h; omega⟩
theorem sy_lay_lt {k : Nat} {x : Nat × List (Option Nat)} (h : sy_lay k = .inl x) : k < sy_N := by
  rcases Nat.lt_or_ge k sy_N with q | q
  · exact q
  · exfalso
    have e : sy_lay k = .inr (9, 0) := by
      unfold sy_lay
      unfold sy_N at q
      split <;> first | rfl | omega
    rw [e] at h
    cases h
theorem sy_lay_ltA {k kd n : Nat} (h : sy_lay k = .inr (kd, n)) (hk : kd < 9) : k < sy_N := by
  rcases Nat.lt_or_ge k sy_N with q | q
  · exact q
  · exfalso
    have e : sy_lay k = .inr (9, 0) := by
      unfold sy_lay
      unfold sy_N at q
      split <;> first | rfl | omega
    rw [e] at h
    cases h
    omega
/-- values and addresses; the locals -/
def sy_sh (b : Nat) : Value → Value
  | .ref a => .ref (b + a)
  | v => v
theorem sy_sh_cat (b : Nat) (v : Value) : (sy_sh b v).category = v.category := by cases v <;> rfl
theorem sy_sh_sum (b : Nat) (st : List Value) : ((st.map (sy_sh b)).map fun v => v.category).sum = (st.map fun v => v.category).sum := by
  rw [List.map_map]
  congr 1
  exact List.map_congr_left fun v _ => sy_sh_cat b v
def sy_kl (v : Value) : Value := if v.category = 2 then .null else v
def sy_set : List Value → Nat → Value → List Value
  | [], 0, v => [v]
  | _ :: t, 0, v => v :: t
  | [], i + 1, v => .null :: sy_set [] i v
  | x :: t, i + 1, v => (if i = 0 then sy_kl x else x) :: sy_set t i v
theorem sy_set_get {w : Value} : ∀ {env : List Value} {i j : Nat} {v : Value}, (sy_set env i w)[j]? = some v → v ≠ .null → (j = i ∧ v = w) ∨ (j ≠ i ∧ env[j]? = some v ∧ ¬ (j + 1 = i ∧ v.category = 2))
  | [], 0, j, v, h, hv => by
    cases j with
    | zero => exact Or.inl ⟨rfl, by simpa [sy_set] using h.symm⟩
    | succ j => simp [sy_set] at h
  | x :: t, 0, j, v, h, hv => by
    cases j with
    | zero => exact Or.inl ⟨rfl, by simpa [sy_set] using h.symm⟩
    | succ j => exact Or.inr ⟨by omega, by simpa [sy_set] using h, by omega⟩
  | [], i + 1, j, v, h, hv => by
    cases j with
    | zero => simp [sy_set] at h; exact absurd h.symm hv
    | succ j =>
      have h : (sy_set [] i w)[j]? = some v := by simpa [sy_set] using h
      rcases sy_set_get h hv with ⟨a, c⟩ | ⟨a, c, d⟩
      · exact Or.inl ⟨by omega, c⟩
      · simp at c
  | x :: t, i + 1, j, v, h, hv => by
    cases j with
    | zero =>
      refine Or.inr ⟨by omega, ?_, ?_⟩
      · simp only [sy_set, List.getElem?_cons_zero, Option.some.injEq] at h ⊢
        by_cases hi : i = 0
        · rw [if_pos hi] at h
          unfold sy_kl at h
          by_cases hc : x.category = 2
          · rw [if_pos hc] at h; exact absurd h.symm hv
          · rw [if_neg hc] at h; exact h
        · rw [if_neg hi] at h; exact h
      · rintro ⟨h1, h2⟩
        have hi : i = 0 := by omega
        simp only [sy_set, List.getElem?_cons_zero, Option.some.injEq, if_pos hi] at h
        unfold sy_kl at h
        by_cases hc : x.category = 2
        · rw [if_pos hc] at h; exact hv h.symm
        · rw [if_neg hc] at h; rw [h] at hc; exact hc h2
    | succ j =>
      have h : (sy_set t i w)[j]? = some v := by simpa [sy_set] using h
      rcases sy_set_get h hv with ⟨a, c⟩ | ⟨a, c, d⟩
      · exact Or.inl ⟨by omega, c⟩
      · exact Or.inr ⟨by omega, by simpa using c, by omega⟩
def sy_eok (b : Nat) (ls : Array Slot) (nL : Nat) (env : List Value) : Prop := ls.size = nL ∧ lv_wf ls ∧ ∀ (i : Nat) (v : Value), env[i]? = some v → v ≠ .null → ls[i]? = some (.val (sy_sh b v))
def sy_lv (b : Nat) (env : List Value) : List (Nat × Value) := (List.range env.length).filterMap (fun j => if env.getD j .null = .null then none else some (j, sy_sh b (env.getD j .null)))
theorem sy_lv_mem {b : Nat} {env : List Value} {j : Nat} {v : Value} (h : env[j]? = some v) (hv : v ≠ .null) : (j, sy_sh b v) ∈ sy_lv b env := by
  have e : env.getD j .null = v := by simp [List.getD, h]
  refine List.mem_filterMap.mpr ⟨j, List.mem_range.mpr (List.getElem?_eq_some_iff.mp h).1, ?_⟩
  rw [e, if_neg hv]
theorem sy_lv_of {b : Nat} {env : List Value} {q : Nat × Value} (h : q ∈ sy_lv b env) : ∃ v, env[q.1]? = some v ∧ v ≠ .null ∧ q.2 = sy_sh b v := by
  obtain ⟨j, hj, e⟩ := List.mem_filterMap.mp h
  by_cases hn : env.getD j .null = .null
  · rw [if_pos hn] at e; cases e
  · rw [if_neg hn] at e
    cases e
    have hl := List.mem_range.mp hj
    refine ⟨env.getD j .null, ?_, hn, rfl⟩
    simp [List.getD, List.getElem?_eq_getElem hl]
theorem sy_eok.has {b : Nat} {ls : Array Slot} {nL : Nat} {env : List Value} (h : sy_eok b ls nL env) : lv_has ls nL (sy_lv b env) := by
  refine ⟨h.1, h.2.1, fun q hq => ?_⟩
  obtain ⟨v, h1, h2, h3⟩ := sy_lv_of hq
  rw [h3]
  exact h.2.2 _ _ h1 h2
theorem sy_eok.at {b : Nat} {ls : Array Slot} {nL i : Nat} {env : List Value} {v : Value} (h : sy_eok b ls nL env) (hv : env[i]? = some v) (hn : v ≠ .null) : ls[i]? = some (.val (sy_sh b v)) := h.2.2 i v hv hn
/-- behind a store of one slot -/
theorem sy_eok.st {b : Nat} {ls' : Array Slot} {nL i : Nat} {env : List Value} {w : Value} (h : lv_has ls' nL ((i, sy_sh b w) :: (sy_lv b env).filter (fun q => !(q.1 == i) && !(q.1 + 1 == i && q.2.category == 2)))) : sy_eok b ls' nL (sy_set env i w) := by
  refine ⟨h.1, h.2.1, fun j v hj hv => ?_⟩
  rcases sy_set_get hj hv with ⟨rfl, rfl⟩ | ⟨h1, h2, h3⟩
  · exact h.2.2 _ List.mem_cons_self
  · refine h.2.2 (j, sy_sh b v) (List.mem_cons_of_mem _ (List.mem_filter.mpr ⟨sy_lv_mem h2 hv, ?_⟩))
    simp only [sy_sh_cat, Bool.and_eq_true, Bool.not_eq_true', beq_eq_false_iff_ne, ne_eq, Bool.and_eq_false_imp, beq_iff_eq]
    exact ⟨h1, fun e => by simpa using fun q => h3 ⟨e, q⟩⟩
/-- behind a store of a long -/
theorem sy_eok.stL {b : Nat} {ls' : Array Slot} {nL i : Nat} {env : List Value} {x : Int64} (h : lv_has ls' nL ((i, Value.long x) :: (sy_lv b env).filter (fun q => !(q.1 == i) && (!(q.1 == i + 1) && !(q.1 + 1 == i && q.2.category == 2))))) : sy_eok b ls' nL (sy_set (sy_set env (i + 1) .null) i (.long x)) := by
  refine ⟨h.1, h.2.1, fun j v hj hv => ?_⟩
  rcases sy_set_get hj hv with ⟨rfl, rfl⟩ | ⟨h1, h2, h3⟩
  · exact h.2.2 _ List.mem_cons_self
  · rcases sy_set_get h2 hv with ⟨-, rfl⟩ | ⟨g1, g2, g3⟩
    · exact absurd rfl hv
    · refine h.2.2 (j, sy_sh b v) (List.mem_cons_of_mem _ (List.mem_filter.mpr ⟨sy_lv_mem g2 hv, ?_⟩))
      simp only [sy_sh_cat, Bool.and_eq_true, Bool.not_eq_true', beq_eq_false_iff_ne, ne_eq, Bool.and_eq_false_imp, beq_iff_eq]
      exact ⟨h1, g1, fun e => by simpa using fun q => h3 ⟨e, q⟩⟩
theorem sy_take_get {env : List Value} {m i : Nat} {v : Value} (h : (env.take m)[i]? = some v) : env[i]? = some v := by
  rw [List.getElem?_take] at h
  split at h
  · exact h
  · cases h
theorem sy_eok.take {b : Nat} {ls : Array Slot} {nL : Nat} {env : List Value} (m : Nat) (h : sy_eok b ls nL env) : sy_eok b ls nL (env.take m) := ⟨h.1, h.2.1, fun i v hv hn => h.2.2 i v (sy_take_get hv) hn⟩
end SYA
end
section
section SYB
abbrev vwCl : List vw_C := [(RX0, TX0, 8), (RX1, TX1, 4), (RX2, TX2, 9), (RX3, TX3, 10), (RX4, TX4, 9), (RX5, TX5, 6), (RX6, TX6, 37)]
def sy_AL : List Cond := lw_tbl.filter goodWord
theorem sy_in {w : Cond} (i : Nat) (h : lw_tbl[i]? = some w) (g : goodWord w = true) : w ∈ sy_AL := List.mem_filter.mpr ⟨List.mem_of_getElem? h, g⟩
theorem sy_good {w : Cond} (h : w ∈ sy_AL) : w ∈ sy_AL ∧ ((w.onTables && w.keeps) = true ∨ ∃ ty, w = .arrayClass ty) := ⟨h, good_of_word (List.mem_filter.mp h).2⟩
theorem sy_tbl {args : Array Value} {s : State} (h : ∀ w ∈ lw_tbl, w.before args s = true) : ∀ w ∈ sy_AL, w.before args s = true := fun w hw => h w (List.mem_filter.mp hw).1
def sy_tys (cA : Nat → ClassId) : List (ClassId × FieldType) := [(cA 0, .int), (cA 1, .boolean), (cA 2, .object "SegmentYard$View"), (cA 3, .long)]
abbrev sy_Rs : Type := Option Value ⊕ Nat
/-- what stands round a body: the machine, the invocation, what is to be reached, the world's names, the answer that is due, the cells spent at most -/
abbrev sy_Cx : Type := (Program × Launch × Env × Room × State × MethodId × Array Value × List Frame × Method × Code) × (State → Prop) × va_G × (Nat → ClassId) × Nat × (sy_Rs × sy_Mem) × Nat
abbrev sy_xp (X : sy_Cx) : Program := X.1.1
abbrev sy_xl (X : sy_Cx) : Launch := X.1.2.1
abbrev sy_xe (X : sy_Cx) : Env := X.1.2.2.1
abbrev sy_xR (X : sy_Cx) : Room := X.1.2.2.2.1
abbrev sy_xs (X : sy_Cx) : State := X.1.2.2.2.2.1
abbrev sy_xm (X : sy_Cx) : MethodId := X.1.2.2.2.2.2.1
abbrev sy_xa (X : sy_Cx) : Array Value := X.1.2.2.2.2.2.2.1
abbrev sy_xo (X : sy_Cx) : List Frame := X.1.2.2.2.2.2.2.2.1
abbrev sy_xM (X : sy_Cx) : Method := X.1.2.2.2.2.2.2.2.2.1
abbrev sy_xc (X : sy_Cx) : Code := X.1.2.2.2.2.2.2.2.2.2
abbrev sy_xQ (X : sy_Cx) : State → Prop := X.2.1
abbrev sy_xD (X : sy_Cx) : va_G := X.2.2.1
abbrev sy_xA (X : sy_Cx) : Nat → ClassId := X.2.2.2.1
abbrev sy_xb (X : sy_Cx) : Nat := X.2.2.2.2.1
abbrev sy_xg (X : sy_Cx) : sy_Rs × sy_Mem := X.2.2.2.2.2.1
abbrev sy_xn (X : sy_Cx) : Nat := X.2.2.2.2.2.2
abbrev sy_W (X : sy_Cx) (n : Nat) (H : Heap) (locs : List Loc) (g : JFrame) : Prop := W (sy_xp X) (sy_xl X) (sy_xe X) (sy_xR X) (sy_xs X) (sy_xm X) (sy_xa X) (sy_xo X) (sy_xM X) (sy_xc X) H locs n (6 * n) (sy_xQ X) g
abbrev sy_P (X : sy_Cx) (σ : sy_Mem) (H : Heap) : Prop := va_P (sy_xD X) vwCl (sy_wd (sy_xb X) (sy_xA X) σ) H
abbrev sy_Z (X : sy_Cx) (H : Heap) (locs : List Loc) : Prop := va_S (sy_ab (sy_xb X)) (sy_xs X).heap H locs
/-- from here on the code computes f -/
def sy_B (X : sy_Cx) (n : Nat) (pc : Nat) (env st : List Value) (f : sy_MM (Option Value)) : Prop :=
  ∀ σ : sy_Mem, n ≤ sy_xn X → f σ = some (sy_xg X) → ∀ (H : Heap) (locs : List Loc) (ls : Array Slot), sy_P X σ H → sy_Z X H locs → sy_eok (sy_xb X) ls (sy_xc X).maxLocals env → sy_W X n H locs (F0 (sy_xm X) pc ls (st.map (sy_sh (sy_xb X))))
def sy_mc : sy_Rs → Nat | .inl _ => 0 | .inr _ => 1
def sy_rm (h : Nat) (r : sy_Rs) : Room := { frames := h, cells := sy_mc r, slots := 6 * sy_mc r, locals := 42 * h }
def sy_ex : Nat → String | 1 => "java/lang/IndexOutOfBoundsException" | 2 => "java/lang/IllegalArgumentException" | _ => "java/lang/IllegalStateException"
def sy_T1 (b : Nat) (U : State) (H : Heap) : Prop := vx_Zq Bundle.tN "UNASSIGNED_STACK" Bundle.steD (sy_ab b) U H ∧ vx_Zq Bundle.tN "SUPPRESSED_SENTINEL" Bundle.listD (sy_ab b) U H
def sy_PW (D : va_G) (cA : Nat → ClassId) (b : Nat) (σ : sy_Mem) (U : State) : Prop := va_P D vwCl (sy_wd b cA σ) U.heap ∧ va_K D vwCl (sy_tys cA) U ∧ sy_T1 b U U.heap
def sy_Qc (D : va_G) (cA : Nat → ClassId) (b : Nat) (r : sy_Rs) (σ : sy_Mem) : Array Value → State → Outcome → State → Prop := fun _ st oc t => (∃ v, r = .inl v ∧ oc = .returned (v.map (sy_sh b)) ∧ va_P D vwCl (sy_wd b cA σ) t.heap) ∧ va_F (sy_ab b) st t
def sy_XC (D : va_G) (cA : Nat → ClassId) (b : Nat) (r : sy_Rs) (σ : sy_Mem) : String → State → State → Prop := fun E st t => (∃ k, r = .inr k ∧ E = sy_ex k ∧ va_P D vwCl (sy_wd b cA σ) t.heap) ∧ va_F (sy_ab b) st t
/-- a method's contract: it computes g -/
def sy_KM (y : MethodName) (cc : ByteArray) (nL : Nat) (ret : Option FieldType) (h : Nat) (g : List Value → sy_MM (Option Value)) : Prop :=
  ∀ (l : Launch) (D : va_G) (cA : Nat → ClassId) (b : Nat) (vs : List Value) (σ : sy_Mem) (r : sy_Rs) (τ : sy_Mem), l.stackTraces = false → g vs σ = some (r, τ) →
    vx_Met l y (Cond.code y cc nL ret :: sy_AL) (sy_rm h r) (va_Pc (vs.map (sy_sh b)) (sy_PW D cA b σ)) (sy_Qc D cA b r τ) (sy_XC D cA b r τ) (sy_mc r) (6 * sy_mc r) (sy_ab b)
/-- a body's constants: its class, its bytes, its answer's type, its height, its locals -/
abbrev sy_Mu : Type := String × ByteArray × Option FieldType × Nat × Nat
def sy_rok (μ : sy_Mu) (pc : Nat) : Option Value → Prop
  | none => μ.2.2.1 = none ∧ decode μ.2.1 pc = .ok (.return_, 1)
  | some (.int x) => decode μ.2.1 pc = .ok (.ireturn, 1) ∧ ((μ.2.2.1 = some .int) ∨ (μ.2.2.1 = some .boolean ∧ (x = 0 ∨ x = 1)))
  | some (.long _) => decode μ.2.1 pc = .ok (.lreturn, 1) ∧ μ.2.2.1 = some .long
  | some (.ref _) => decode μ.2.1 pc = .ok (.areturn, 1) ∧ ∃ C, μ.2.2.1 = some (.object C)
  | _ => False
def sy_RET (X : sy_Cx) (μ : sy_Mu) : Prop := ∀ (v : Option Value) (σ : sy_Mem), sy_xg X = (.inl v, σ) → ∀ (n : Nat) (H : Heap) (locs : List Loc) (ls : Array Slot) (pc : Nat), n ≤ sy_xn X → sy_P X σ H → sy_Z X H locs → sy_rok μ pc v → sy_W X n H locs (F0 (sy_xm X) pc ls ((v.map (sy_sh (sy_xb X))).toList))
def sy_OUT (X : sy_Cx) : Prop := ∀ (E : Nat) (σ : sy_Mem), sy_xg X = (.inr E, σ) → ∀ (n : Nat) (H : Heap) (locs : List Loc) (ls : Array Slot) (pc : Nat) (rest : List Value) (q : Addr) (ce : Cell), n ≤ sy_xn X → sy_P X σ H → sy_Z X H locs → H[q]? = some ce → ce.vm = .none → (sy_xs X).vm.findClass (sy_ex E) = some ce.cls →
  vx_W (sy_xp X) (sy_xl X) (sy_xe X) (sy_xR X) (sy_xs X) (sy_xm X) (sy_xa X) (sy_xo X) (sy_xM X) (sy_xc X) H locs (n + 1) (6 * n + 6) (sy_xQ X) (F0 (sy_xm X) pc ls rest) q
def sy_FX (X : sy_Cx) (μ : sy_Mu) : Prop :=
  (sy_xp X).tables.exec = Jvm.exec ∧ (sy_xc X).code = μ.2.1 ∧ (sy_xs X).vm.findClass μ.1 = some (sy_xm X).cls ∧ (∀ w ∈ sy_AL, w.before (sy_xa X) (sy_xs X) = true) ∧
  va_K (sy_xD X) vwCl (sy_tys (sy_xA X)) (sy_xs X) ∧ sy_T1 (sy_xb X) (sy_xs X) (sy_xs X).heap ∧ (sy_xl X).stackTraces = false ∧ (sy_xc X).maxLocals = μ.2.2.2.2 ∧
  (μ.2.2.2.1 ≤ (sy_xR X).frames ∧ 42 * μ.2.2.2.1 ≤ (sy_xR X).locals) ∧ (sy_xn X ≤ (sy_xR X).cells ∧ 6 * sy_xn X ≤ (sy_xR X).slots) ∧
  ((∃ E σ, sy_xg X = (.inr E, σ)) → sy_xn X + 1 ≤ (sy_xR X).cells ∧ 6 * sy_xn X + 6 ≤ (sy_xR X).slots) ∧ sy_RET X μ ∧ sy_OUT X
section SYB1
variable {X : sy_Cx} {μ : sy_Mu} {n pc : Nat} {env st : List Value} {f : sy_MM (Option Value)}
theorem sy_FX.e (F : sy_FX X μ) : (sy_xp X).tables.exec = Jvm.exec := F.1
theorem sy_FX.c (F : sy_FX X μ) : (sy_xc X).code = μ.2.1 := F.2.1
theorem sy_FX.o (F : sy_FX X μ) : (sy_xs X).vm.findClass μ.1 = some (sy_xm X).cls := F.2.2.1
theorem sy_FX.w (F : sy_FX X μ) : ∀ w ∈ sy_AL, w.before (sy_xa X) (sy_xs X) = true := F.2.2.2.1
theorem sy_FX.k (F : sy_FX X μ) : va_K (sy_xD X) vwCl (sy_tys (sy_xA X)) (sy_xs X) := F.2.2.2.2.1
theorem sy_FX.t (F : sy_FX X μ) : sy_T1 (sy_xb X) (sy_xs X) (sy_xs X).heap := F.2.2.2.2.2.1
theorem sy_FX.tr (F : sy_FX X μ) : (sy_xl X).stackTraces = false := F.2.2.2.2.2.2.1
theorem sy_FX.ml (F : sy_FX X μ) : (sy_xc X).maxLocals = μ.2.2.2.2 := F.2.2.2.2.2.2.2.1
theorem sy_FX.fr (F : sy_FX X μ) : μ.2.2.2.1 ≤ (sy_xR X).frames ∧ 42 * μ.2.2.2.1 ≤ (sy_xR X).locals := F.2.2.2.2.2.2.2.2.1
theorem sy_FX.ce (F : sy_FX X μ) : sy_xn X ≤ (sy_xR X).cells ∧ 6 * sy_xn X ≤ (sy_xR X).slots := F.2.2.2.2.2.2.2.2.2.1
theorem sy_FX.cx (F : sy_FX X μ) : (∃ E σ, sy_xg X = (.inr E, σ)) → sy_xn X + 1 ≤ (sy_xR X).cells ∧ 6 * sy_xn X + 6 ≤ (sy_xR X).slots := F.2.2.2.2.2.2.2.2.2.2.1
theorem sy_FX.re (F : sy_FX X μ) : sy_RET X μ := F.2.2.2.2.2.2.2.2.2.2.2.1
theorem sy_FX.ou (F : sy_FX X μ) : sy_OUT X := F.2.2.2.2.2.2.2.2.2.2.2.2
theorem sy_vac (h : ∀ σ, f σ = none) : sy_B X n pc env st f := fun σ _ hf => by rw [h σ] at hf; cases hf
theorem sy_take {m : Nat} (k : sy_B X n pc (env.take m) st f) : sy_B X n pc env st f := fun σ hn hf H locs ls hP hS hE => k σ hn hf H locs ls hP hS (hE.take m)
-- loads, constants
theorem sy_iload_n (F : sy_FX X μ) {i : Fin 4} {x : Int32} (d : decode μ.2.1 pc = .ok (.iload_n i, 1)) (hv : env[(i : Nat)]? = some (.int x)) (k : sy_B X n (pc + 1) env (.int x :: st) f) : sy_B X n pc env st f :=
  fun σ hn hf H locs ls hP hS hE => lv_iload_n F.e F.c d rfl (hE.at hv (by simp)) (k σ hn hf H locs ls hP hS hE)
theorem sy_iload (F : sy_FX X μ) {i : Nat} {x : Int32} (d : decode μ.2.1 pc = .ok (.iload i, 2)) (hv : env[i]? = some (.int x)) (k : sy_B X n (pc + 2) env (.int x :: st) f) : sy_B X n pc env st f :=
  fun σ hn hf H locs ls hP hS hE => lv_iload F.e F.c d (hE.at hv (by simp)) (k σ hn hf H locs ls hP hS hE)
theorem sy_lload_n (F : sy_FX X μ) {i : Fin 4} {x : Int64} (d : decode μ.2.1 pc = .ok (.lload_n i, 1)) (hv : env[(i : Nat)]? = some (.long x)) (k : sy_B X n (pc + 1) env (.long x :: st) f) : sy_B X n pc env st f :=
  fun σ hn hf H locs ls hP hS hE => lv_lload_n F.e F.c d rfl (hE.at hv (by simp)) (k σ hn hf H locs ls hP hS hE)
theorem sy_lload (F : sy_FX X μ) {i : Nat} {x : Int64} (d : decode μ.2.1 pc = .ok (.lload i, 2)) (hv : env[i]? = some (.long x)) (k : sy_B X n (pc + 2) env (.long x :: st) f) : sy_B X n pc env st f :=
  fun σ hn hf H locs ls hP hS hE => lv_lload F.e F.c d (hE.at hv (by simp)) (k σ hn hf H locs ls hP hS hE)
theorem sy_aload_n (F : sy_FX X μ) {i : Fin 4} {x : Nat} (d : decode μ.2.1 pc = .ok (.aload_n i, 1)) (hv : env[(i : Nat)]? = some (.ref x)) (k : sy_B X n (pc + 1) env (.ref x :: st) f) : sy_B X n pc env st f :=
  fun σ hn hf H locs ls hP hS hE => lv_aload_n F.e F.c d rfl (hE.at hv (by simp)) (k σ hn hf H locs ls hP hS hE)
theorem sy_aload (F : sy_FX X μ) {i : Nat} {x : Nat} (d : decode μ.2.1 pc = .ok (.aload i, 2)) (hv : env[i]? = some (.ref x)) (k : sy_B X n (pc + 2) env (.ref x :: st) f) : sy_B X n pc env st f :=
  fun σ hn hf H locs ls hP hS hE => lv_aload F.e F.c d (hE.at hv (by simp)) (k σ hn hf H locs ls hP hS hE)
theorem sy_iconst (F : sy_FX X μ) {z : Int} {v : Int32} (d : decode μ.2.1 pc = .ok (.iconst z, 1)) (hv : Int32.ofInt z = v) (k : sy_B X n (pc + 1) env (.int v :: st) f) : sy_B X n pc env st f :=
  fun σ hn hf H locs ls hP hS hE => lv_iconst F.e F.c d hv (k σ hn hf H locs ls hP hS hE)
theorem sy_bipush (F : sy_FX X μ) {z : Int} {v : Int32} (d : decode μ.2.1 pc = .ok (.bipush z, 2)) (hv : (Int8.ofInt z).toInt32 = v) (k : sy_B X n (pc + 2) env (.int v :: st) f) : sy_B X n pc env st f :=
  fun σ hn hf H locs ls hP hS hE => lv_bipush F.e F.c d hv (k σ hn hf H locs ls hP hS hE)
theorem sy_sipush (F : sy_FX X μ) {z : Int} {v : Int32} (d : decode μ.2.1 pc = .ok (.sipush z, 3)) (hv : (Int16.ofInt z).toInt32 = v) (k : sy_B X n (pc + 3) env (.int v :: st) f) : sy_B X n pc env st f :=
  fun σ hn hf H locs ls hP hS hE => lv_sipush F.e F.c d hv (k σ hn hf H locs ls hP hS hE)
theorem sy_lconst (F : sy_FX X μ) {z : Fin 2} {v : Int64} (d : decode μ.2.1 pc = .ok (.lconst z, 1)) (hv : Int64.ofNat (z : Nat) = v) (k : sy_B X n (pc + 1) env (.long v :: st) f) : sy_B X n pc env st f :=
  fun σ hn hf H locs ls hP hS hE => lv_lconst F.e F.c d hv (k σ hn hf H locs ls hP hS hE)
theorem sy_ldc2 (F : sy_FX X μ) {ix : Nat} {v : Int64} (d : decode μ.2.1 pc = .ok (.ldc2_w ix, 3)) (hw : Cond.constantLong μ.1 ix v ∈ sy_AL) (k : sy_B X n (pc + 3) env (.long v :: st) f) : sy_B X n pc env st f :=
  fun σ hn hf H locs ls hP hS hE => lv_ldc2 F.e F.c F.o (F.w _ hw) d (k σ hn hf H locs ls hP hS hE)
-- stores
theorem sy_istore_n (F : sy_FX X μ) {i : Fin 4} {x : Int32} (d : decode μ.2.1 pc = .ok (.istore_n i, 1)) (hi : (i : Nat) < μ.2.2.2.2) (k : sy_B X n (pc + 1) (sy_set env i (.int x)) st f) : sy_B X n pc env (.int x :: st) f :=
  fun σ hn hf H locs ls hP hS hE => lv_istore_n F.e F.c d rfl hE.has (by rw [F.ml]; exact hi) rfl (fun ls' h => k σ hn hf H locs ls' hP hS (sy_eok.st (w := .int x) h))
theorem sy_istore (F : sy_FX X μ) {i : Nat} {x : Int32} (d : decode μ.2.1 pc = .ok (.istore i, 2)) (hi : i < μ.2.2.2.2) (k : sy_B X n (pc + 2) (sy_set env i (.int x)) st f) : sy_B X n pc env (.int x :: st) f :=
  fun σ hn hf H locs ls hP hS hE => lv_istore F.e F.c d hE.has (by rw [F.ml]; exact hi) rfl (fun ls' h => k σ hn hf H locs ls' hP hS (sy_eok.st (w := .int x) h))
theorem sy_astore_n (F : sy_FX X μ) {i : Fin 4} {x : Nat} (d : decode μ.2.1 pc = .ok (.astore_n i, 1)) (hi : (i : Nat) < μ.2.2.2.2) (k : sy_B X n (pc + 1) (sy_set env i (.ref x)) st f) : sy_B X n pc env (.ref x :: st) f :=
  fun σ hn hf H locs ls hP hS hE => lv_astore_n F.e F.c d rfl hE.has (by rw [F.ml]; exact hi) rfl (fun ls' h => k σ hn hf H locs ls' hP hS (sy_eok.st (w := .ref x) h))
theorem sy_astore (F : sy_FX X μ) {i : Nat} {x : Nat} (d : decode μ.2.1 pc = .ok (.astore i, 2)) (hi : i < μ.2.2.2.2) (k : sy_B X n (pc + 2) (sy_set env i (.ref x)) st f) : sy_B X n pc env (.ref x :: st) f :=
  fun σ hn hf H locs ls hP hS hE => lv_astore F.e F.c d hE.has (by rw [F.ml]; exact hi) rfl (fun ls' h => k σ hn hf H locs ls' hP hS (sy_eok.st (w := .ref x) h))
theorem sy_lstore_n (F : sy_FX X μ) {i : Fin 4} {x : Int64} (d : decode μ.2.1 pc = .ok (.lstore_n i, 1)) (hi : (i : Nat) + 1 < μ.2.2.2.2) (k : sy_B X n (pc + 1) (sy_set (sy_set env (i + 1) .null) i (.long x)) st f) : sy_B X n pc env (.long x :: st) f :=
  fun σ hn hf H locs ls hP hS hE => lv_lstore_n F.e F.c d rfl hE.has (by rw [F.ml]; exact hi) rfl (fun ls' h => k σ hn hf H locs ls' hP hS (sy_eok.stL (x := x) h))
theorem sy_lstore (F : sy_FX X μ) {i : Nat} {x : Int64} (d : decode μ.2.1 pc = .ok (.lstore i, 2)) (hi : i + 1 < μ.2.2.2.2) (k : sy_B X n (pc + 2) (sy_set (sy_set env (i + 1) .null) i (.long x)) st f) : sy_B X n pc env (.long x :: st) f :=
  fun σ hn hf H locs ls hP hS hE => lv_lstore F.e F.c d hE.has (by rw [F.ml]; exact hi) rfl (fun ls' h => k σ hn hf H locs ls' hP hS (sy_eok.stL (x := x) h))
theorem sy_iinc (F : sy_FX X μ) {i : Nat} {z : Int} {x v : Int32} (d : decode μ.2.1 pc = .ok (.iinc i z, 3)) (hx : env[i]? = some (.int x)) (hv : x + Int32.ofInt z = v) (hi : i < μ.2.2.2.2) (k : sy_B X n (pc + 3) (sy_set env i (.int v)) st f) : sy_B X n pc env st f := by
  intro σ hn hf H locs ls hP hS hE
  have hm := sy_lv_mem (b := sy_xb X) hx (by simp)
  obtain ⟨j, hj⟩ := List.getElem?_of_mem hm
  exact lv_iinc F.e F.c d hE.has hj hv (by rw [F.ml]; exact hi) rfl (fun ls' h => k σ hn hf H locs ls' hP hS (sy_eok.st (w := .int v) h))
-- arithmetic, stack
theorem sy_iadd (F : sy_FX X μ) {x y : Int32} (d : decode μ.2.1 pc = .ok (.iadd, 1)) (k : sy_B X n (pc + 1) env (.int (x + y) :: st) f) : sy_B X n pc env (.int y :: .int x :: st) f :=
  fun σ hn hf H locs ls hP hS hE => lv_iadd F.e F.c d (k σ hn hf H locs ls hP hS hE)
theorem sy_isub (F : sy_FX X μ) {x y : Int32} (d : decode μ.2.1 pc = .ok (.isub, 1)) (k : sy_B X n (pc + 1) env (.int (x - y) :: st) f) : sy_B X n pc env (.int y :: .int x :: st) f :=
  fun σ hn hf H locs ls hP hS hE => lv_isub F.e F.c d (k σ hn hf H locs ls hP hS hE)
theorem sy_imul (F : sy_FX X μ) {x y : Int32} (d : decode μ.2.1 pc = .ok (.imul, 1)) (k : sy_B X n (pc + 1) env (.int (x * y) :: st) f) : sy_B X n pc env (.int y :: .int x :: st) f :=
  fun σ hn hf H locs ls hP hS hE => lv_imul F.e F.c d (k σ hn hf H locs ls hP hS hE)
theorem sy_iand (F : sy_FX X μ) {x y : Int32} (d : decode μ.2.1 pc = .ok (.iand, 1)) (k : sy_B X n (pc + 1) env (.int (x &&& y) :: st) f) : sy_B X n pc env (.int y :: .int x :: st) f :=
  fun σ hn hf H locs ls hP hS hE => lv_iand F.e F.c d (k σ hn hf H locs ls hP hS hE)
theorem sy_pop (F : sy_FX X μ) {v : Value} (d : decode μ.2.1 pc = .ok (.pop, 1)) (hc : v.category = 1) (k : sy_B X n (pc + 1) env st f) : sy_B X n pc env (v :: st) f :=
  fun σ hn hf H locs ls hP hS hE => lv_pop F.e F.c d (by rw [sy_sh_cat]; exact hc) (k σ hn hf H locs ls hP hS hE)
theorem sy_dup (F : sy_FX X μ) {v : Value} (d : decode μ.2.1 pc = .ok (.dup, 1)) (hc : v.category = 1) (k : sy_B X n (pc + 1) env (v :: v :: st) f) : sy_B X n pc env (v :: st) f :=
  fun σ hn hf H locs ls hP hS hE => lv_dup F.e F.c d (by rw [sy_sh_cat]; exact hc) (k σ hn hf H locs ls hP hS hE)
theorem sy_dup2 (F : sy_FX X μ) {v w : Value} (d : decode μ.2.1 pc = .ok (.dup2, 1)) (hc : v.category = 1) (hc2 : w.category = 1) (k : sy_B X n (pc + 1) env (v :: w :: v :: w :: st) f) : sy_B X n pc env (v :: w :: st) f :=
  fun σ hn hf H locs ls hP hS hE => lv_dup2_11 F.e F.c d (by rw [sy_sh_cat]; exact hc) (by rw [sy_sh_cat]; exact hc2) (k σ hn hf H locs ls hP hS hE)
theorem sy_i2l (F : sy_FX X μ) {x : Int32} (d : decode μ.2.1 pc = .ok (.i2l, 1)) (k : sy_B X n (pc + 1) env (.long x.toInt64 :: st) f) : sy_B X n pc env (.int x :: st) f :=
  fun σ hn hf H locs ls hP hS hE => lv_i2l F.e F.c d rfl (k σ hn hf H locs ls hP hS hE)
theorem sy_ladd (F : sy_FX X μ) {x y : Int64} (d : decode μ.2.1 pc = .ok (.ladd, 1)) (k : sy_B X n (pc + 1) env (.long (x + y) :: st) f) : sy_B X n pc env (.long y :: .long x :: st) f :=
  fun σ hn hf H locs ls hP hS hE => lv_ladd F.e F.c d (k σ hn hf H locs ls hP hS hE)
theorem sy_lmul (F : sy_FX X μ) {x y : Int64} (d : decode μ.2.1 pc = .ok (.lmul, 1)) (k : sy_B X n (pc + 1) env (.long (x * y) :: st) f) : sy_B X n pc env (.long y :: .long x :: st) f :=
  fun σ hn hf H locs ls hP hS hE => lv_lmul F.e F.c d (k σ hn hf H locs ls hP hS hE)
theorem sy_goto (F : sy_FX X μ) {off : Int} {tgt : Nat} (d : decode μ.2.1 pc = .ok (.goto off, 3)) (ht : (pc : Int) + off = (tgt : Int)) (k : sy_B X n tgt env st f) : sy_B X n pc env st f :=
  fun σ hn hf H locs ls hP hS hE => lv_goto F.e F.c d ht (k σ hn hf H locs ls hP hS hE)
end SYB1
end SYB
end
