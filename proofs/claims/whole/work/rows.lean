section
-- ===== PART A: goes FIRST, ahead of the names: the tables' words, and 'selects' of the private methods out of them =====
/-- a private method of a class that the tables say can be made, by its rows of tables_1 -/
def lw_okq (q : MethodName × Nat) : Prop := (q.1.cls ≠ "java/lang/invoke/MethodHandle" ∧ q.1.cls ≠ "java/lang/invoke/VarHandle") ∧ Cond.instantiable q.1.cls q.2 ∈ tables_1 ∧ Cond.privateMethod q.1 ∈ tables_1 ∧ Cond.instanceMethod q.1 ∈ tables_1
theorem lw_p0 : lw_okq (⟨"SnapHouse$Presser", "putLength", "(I)V"⟩, 3) := ⟨⟨by decide +kernel, by decide +kernel⟩, List.mem_of_getElem? (i := 46) (by decide +kernel), List.mem_of_getElem? (i := 318) (by decide +kernel), List.mem_of_getElem? (i := 319) (by decide +kernel)⟩
theorem lw_p1 : lw_okq (⟨"SnapHouse$Presser", "freeSlots", "(I)V"⟩, 3) := ⟨⟨by decide +kernel, by decide +kernel⟩, List.mem_of_getElem? (i := 46) (by decide +kernel), List.mem_of_getElem? (i := 323) (by decide +kernel), List.mem_of_getElem? (i := 324) (by decide +kernel)⟩
theorem lw_p2 : lw_okq (⟨"SnapHouse$Presser", "noteAndFind", "(LSnapHouse$Bytes;I)I"⟩, 3) := ⟨⟨by decide +kernel, by decide +kernel⟩, List.mem_of_getElem? (i := 46) (by decide +kernel), List.mem_of_getElem? (i := 327) (by decide +kernel), List.mem_of_getElem? (i := 328) (by decide +kernel)⟩
theorem lw_p3 : lw_okq (⟨"SnapHouse$Presser", "putLiteral", "(LSnapHouse$Bytes;II)V"⟩, 3) := ⟨⟨by decide +kernel, by decide +kernel⟩, List.mem_of_getElem? (i := 46) (by decide +kernel), List.mem_of_getElem? (i := 340) (by decide +kernel), List.mem_of_getElem? (i := 341) (by decide +kernel)⟩
theorem lw_p4 : lw_okq (⟨"SnapHouse$Presser", "putCopies", "(II)V"⟩, 3) := ⟨⟨by decide +kernel, by decide +kernel⟩, List.mem_of_getElem? (i := 46) (by decide +kernel), List.mem_of_getElem? (i := 349) (by decide +kernel), List.mem_of_getElem? (i := 350) (by decide +kernel)⟩
theorem lw_p5 : lw_okq (⟨"SnapHouse$Presser", "putCopy", "(II)V"⟩, 3) := ⟨⟨by decide +kernel, by decide +kernel⟩, List.mem_of_getElem? (i := 46) (by decide +kernel), List.mem_of_getElem? (i := 353) (by decide +kernel), List.mem_of_getElem? (i := 354) (by decide +kernel)⟩
theorem lw_p6 : lw_okq (⟨"SnapHouse$BlockOpener", "readLength", "(LSnapHouse$Bytes;)V"⟩, 12) := ⟨⟨by decide +kernel, by decide +kernel⟩, List.mem_of_getElem? (i := 80) (by decide +kernel), List.mem_of_getElem? (i := 370) (by decide +kernel), List.mem_of_getElem? (i := 371) (by decide +kernel)⟩
theorem lw_p7 : lw_okq (⟨"SnapHouse$BlockOpener", "fail", "(II)V"⟩, 12) := ⟨⟨by decide +kernel, by decide +kernel⟩, List.mem_of_getElem? (i := 80) (by decide +kernel), List.mem_of_getElem? (i := 376) (by decide +kernel), List.mem_of_getElem? (i := 377) (by decide +kernel)⟩
theorem lw_p8 : lw_okq (⟨"SnapHouse$BlockOpener", "readElement", "(LSnapHouse$Bytes;)V"⟩, 12) := ⟨⟨by decide +kernel, by decide +kernel⟩, List.mem_of_getElem? (i := 80) (by decide +kernel), List.mem_of_getElem? (i := 381) (by decide +kernel), List.mem_of_getElem? (i := 382) (by decide +kernel)⟩
theorem lw_p9 : lw_okq (⟨"SnapHouse$BlockOpener", "checkElement", "()V"⟩, 12) := ⟨⟨by decide +kernel, by decide +kernel⟩, List.mem_of_getElem? (i := 80) (by decide +kernel), List.mem_of_getElem? (i := 399) (by decide +kernel), List.mem_of_getElem? (i := 400) (by decide +kernel)⟩
theorem lw_p10 : lw_okq (⟨"SnapHouse$BlockOpener", "giveElement", "(LSnapHouse$Bytes;)V"⟩, 12) := ⟨⟨by decide +kernel, by decide +kernel⟩, List.mem_of_getElem? (i := 80) (by decide +kernel), List.mem_of_getElem? (i := 403) (by decide +kernel), List.mem_of_getElem? (i := 404) (by decide +kernel)⟩
theorem lw_p11 : lw_okq (⟨"SnapHouse", "keepFault", "(IIII)V"⟩, 12) := ⟨⟨by decide +kernel, by decide +kernel⟩, List.mem_of_getElem? (i := 17) (by decide +kernel), List.mem_of_getElem? (i := 413) (by decide +kernel), List.mem_of_getElem? (i := 414) (by decide +kernel)⟩
theorem lw_p12 : lw_okq (⟨"SnapHouse$StreamMaker", "putHeader", "(II)V"⟩, 1) := ⟨⟨by decide +kernel, by decide +kernel⟩, List.mem_of_getElem? (i := 67) (by decide +kernel), List.mem_of_getElem? (i := 434) (by decide +kernel), List.mem_of_getElem? (i := 435) (by decide +kernel)⟩
theorem lw_p13 : lw_okq (⟨"SnapHouse$StreamMaker", "putPiece", "(LSnapHouse$Bytes;IILSnapHouse$Bytes;)Z"⟩, 1) := ⟨⟨by decide +kernel, by decide +kernel⟩, List.mem_of_getElem? (i := 67) (by decide +kernel), List.mem_of_getElem? (i := 445) (by decide +kernel), List.mem_of_getElem? (i := 446) (by decide +kernel)⟩
theorem lw_p14 : lw_okq (⟨"SnapHouse$StreamOpener", "fail", "(I)V"⟩, 8) := ⟨⟨by decide +kernel, by decide +kernel⟩, List.mem_of_getElem? (i := 149) (by decide +kernel), List.mem_of_getElem? (i := 476) (by decide +kernel), List.mem_of_getElem? (i := 477) (by decide +kernel)⟩
theorem lw_p15 : lw_okq (⟨"SnapHouse$StreamOpener", "readHeader", "(LSnapHouse$Bytes;)V"⟩, 8) := ⟨⟨by decide +kernel, by decide +kernel⟩, List.mem_of_getElem? (i := 149) (by decide +kernel), List.mem_of_getElem? (i := 480) (by decide +kernel), List.mem_of_getElem? (i := 481) (by decide +kernel)⟩
def lw_privs_1 : List (MethodName × Nat) := [(⟨"SnapHouse$Presser", "putLength", "(I)V"⟩, 3), (⟨"SnapHouse$Presser", "freeSlots", "(I)V"⟩, 3), (⟨"SnapHouse$Presser", "noteAndFind", "(LSnapHouse$Bytes;I)I"⟩, 3), (⟨"SnapHouse$Presser", "putLiteral", "(LSnapHouse$Bytes;II)V"⟩, 3), (⟨"SnapHouse$Presser", "putCopies", "(II)V"⟩, 3), (⟨"SnapHouse$Presser", "putCopy", "(II)V"⟩, 3), (⟨"SnapHouse$BlockOpener", "readLength", "(LSnapHouse$Bytes;)V"⟩, 12), (⟨"SnapHouse$BlockOpener", "fail", "(II)V"⟩, 12), (⟨"SnapHouse$BlockOpener", "readElement", "(LSnapHouse$Bytes;)V"⟩, 12), (⟨"SnapHouse$BlockOpener", "checkElement", "()V"⟩, 12), (⟨"SnapHouse$BlockOpener", "giveElement", "(LSnapHouse$Bytes;)V"⟩, 12), (⟨"SnapHouse", "keepFault", "(IIII)V"⟩, 12), (⟨"SnapHouse$StreamMaker", "putHeader", "(II)V"⟩, 1), (⟨"SnapHouse$StreamMaker", "putPiece", "(LSnapHouse$Bytes;IILSnapHouse$Bytes;)Z"⟩, 1), (⟨"SnapHouse$StreamOpener", "fail", "(I)V"⟩, 8), (⟨"SnapHouse$StreamOpener", "readHeader", "(LSnapHouse$Bytes;)V"⟩, 8)]
theorem lw_r1 : ∀ q ∈ lw_privs_1, lw_okq q := List.forall_mem_cons.mpr ⟨lw_p0, List.forall_mem_cons.mpr ⟨lw_p1, List.forall_mem_cons.mpr ⟨lw_p2, List.forall_mem_cons.mpr ⟨lw_p3, List.forall_mem_cons.mpr ⟨lw_p4, List.forall_mem_cons.mpr ⟨lw_p5, List.forall_mem_cons.mpr ⟨lw_p6, List.forall_mem_cons.mpr ⟨lw_p7, List.forall_mem_cons.mpr ⟨lw_p8, List.forall_mem_cons.mpr ⟨lw_p9, List.forall_mem_cons.mpr ⟨lw_p10, List.forall_mem_cons.mpr ⟨lw_p11, List.forall_mem_cons.mpr ⟨lw_p12, List.forall_mem_cons.mpr ⟨lw_p13, List.forall_mem_cons.mpr ⟨lw_p14, List.forall_mem_cons.mpr ⟨lw_p15, fun _ h => absurd h List.not_mem_nil⟩⟩⟩⟩⟩⟩⟩⟩⟩⟩⟩⟩⟩⟩⟩⟩
theorem lw_p16 : lw_okq (⟨"SnapHouse$StreamOpener", "checkChunk", "(LSnapHouse$Bytes;)V"⟩, 8) := ⟨⟨by decide +kernel, by decide +kernel⟩, List.mem_of_getElem? (i := 149) (by decide +kernel), List.mem_of_getElem? (i := 485) (by decide +kernel), List.mem_of_getElem? (i := 486) (by decide +kernel)⟩
theorem lw_p17 : lw_okq (⟨"SnapHouse$StreamOpener", "isName", "(LSnapHouse$Bytes;)Z"⟩, 8) := ⟨⟨by decide +kernel, by decide +kernel⟩, List.mem_of_getElem? (i := 149) (by decide +kernel), List.mem_of_getElem? (i := 489) (by decide +kernel), List.mem_of_getElem? (i := 490) (by decide +kernel)⟩
theorem lw_p18 : lw_okq (⟨"SnapHouse$StreamOpener", "tellsBytes", "()Z"⟩, 8) := ⟨⟨by decide +kernel, by decide +kernel⟩, List.mem_of_getElem? (i := 149) (by decide +kernel), List.mem_of_getElem? (i := 494) (by decide +kernel), List.mem_of_getElem? (i := 495) (by decide +kernel)⟩
theorem lw_p19 : lw_okq (⟨"SnapHouse$StreamOpener", "openBytes", "(LSnapHouse$Bytes;LSnapHouse$BlockOpener;)V"⟩, 8) := ⟨⟨by decide +kernel, by decide +kernel⟩, List.mem_of_getElem? (i := 149) (by decide +kernel), List.mem_of_getElem? (i := 498) (by decide +kernel), List.mem_of_getElem? (i := 499) (by decide +kernel)⟩
theorem lw_p20 : lw_okq (⟨"SnapHouse$StreamOpener", "give", "(LSnapHouse$Bytes;LSnapHouse$Bytes;II)V"⟩, 8) := ⟨⟨by decide +kernel, by decide +kernel⟩, List.mem_of_getElem? (i := 149) (by decide +kernel), List.mem_of_getElem? (i := 502) (by decide +kernel), List.mem_of_getElem? (i := 503) (by decide +kernel)⟩
theorem lw_p21 : lw_okq (⟨"SnapHouse$StreamOpener", "keepChunk", "(I)V"⟩, 8) := ⟨⟨by decide +kernel, by decide +kernel⟩, List.mem_of_getElem? (i := 149) (by decide +kernel), List.mem_of_getElem? (i := 510) (by decide +kernel), List.mem_of_getElem? (i := 511) (by decide +kernel)⟩
theorem lw_p22 : lw_okq (⟨"java/lang/Throwable", "fillInStackTrace", "(I)Ljava/lang/Throwable;"⟩, 6) := ⟨⟨by decide +kernel, by decide +kernel⟩, List.mem_of_getElem? (i := 585) (by decide +kernel), List.mem_of_getElem? (i := 583) (by decide +kernel), List.mem_of_getElem? (i := 584) (by decide +kernel)⟩
theorem lw_p23 : lw_okq (⟨"SnapHouseModel", "word", "(I)V"⟩, 33) := ⟨⟨by decide +kernel, by decide +kernel⟩, List.mem_of_getElem? (i := 615) (by decide +kernel), List.mem_of_getElem? (i := 730) (by decide +kernel), List.mem_of_getElem? (i := 731) (by decide +kernel)⟩
theorem lw_p24 : lw_okq (⟨"SnapHouseModel", "pressPart", "(II)V"⟩, 33) := ⟨⟨by decide +kernel, by decide +kernel⟩, List.mem_of_getElem? (i := 615) (by decide +kernel), List.mem_of_getElem? (i := 766) (by decide +kernel), List.mem_of_getElem? (i := 767) (by decide +kernel)⟩
theorem lw_p25 : lw_okq (⟨"SnapHouseModel", "pack", "(I)V"⟩, 33) := ⟨⟨by decide +kernel, by decide +kernel⟩, List.mem_of_getElem? (i := 615) (by decide +kernel), List.mem_of_getElem? (i := 770) (by decide +kernel), List.mem_of_getElem? (i := 771) (by decide +kernel)⟩
theorem lw_p26 : lw_okq (⟨"SnapHouseModel", "keyOf", "(I)I"⟩, 33) := ⟨⟨by decide +kernel, by decide +kernel⟩, List.mem_of_getElem? (i := 615) (by decide +kernel), List.mem_of_getElem? (i := 774) (by decide +kernel), List.mem_of_getElem? (i := 775) (by decide +kernel)⟩
theorem lw_p27 : lw_okq (⟨"SnapHouseModel", "at", "(I)I"⟩, 33) := ⟨⟨by decide +kernel, by decide +kernel⟩, List.mem_of_getElem? (i := 615) (by decide +kernel), List.mem_of_getElem? (i := 778) (by decide +kernel), List.mem_of_getElem? (i := 779) (by decide +kernel)⟩
theorem lw_p28 : lw_okq (⟨"SnapHouseModel", "areFour", "(II)Z"⟩, 33) := ⟨⟨by decide +kernel, by decide +kernel⟩, List.mem_of_getElem? (i := 615) (by decide +kernel), List.mem_of_getElem? (i := 783) (by decide +kernel), List.mem_of_getElem? (i := 784) (by decide +kernel)⟩
theorem lw_p29 : lw_okq (⟨"SnapHouseModel", "literal", "(II)V"⟩, 33) := ⟨⟨by decide +kernel, by decide +kernel⟩, List.mem_of_getElem? (i := 615) (by decide +kernel), List.mem_of_getElem? (i := 787) (by decide +kernel), List.mem_of_getElem? (i := 788) (by decide +kernel)⟩
theorem lw_p30 : lw_okq (⟨"SnapHouseModel", "copies", "(II)V"⟩, 33) := ⟨⟨by decide +kernel, by decide +kernel⟩, List.mem_of_getElem? (i := 615) (by decide +kernel), List.mem_of_getElem? (i := 792) (by decide +kernel), List.mem_of_getElem? (i := 793) (by decide +kernel)⟩
theorem lw_p31 : lw_okq (⟨"SnapHouseModel", "copyTwo", "(II)V"⟩, 33) := ⟨⟨by decide +kernel, by decide +kernel⟩, List.mem_of_getElem? (i := 615) (by decide +kernel), List.mem_of_getElem? (i := 796) (by decide +kernel), List.mem_of_getElem? (i := 797) (by decide +kernel)⟩
def lw_privs_2 : List (MethodName × Nat) := [(⟨"SnapHouse$StreamOpener", "checkChunk", "(LSnapHouse$Bytes;)V"⟩, 8), (⟨"SnapHouse$StreamOpener", "isName", "(LSnapHouse$Bytes;)Z"⟩, 8), (⟨"SnapHouse$StreamOpener", "tellsBytes", "()Z"⟩, 8), (⟨"SnapHouse$StreamOpener", "openBytes", "(LSnapHouse$Bytes;LSnapHouse$BlockOpener;)V"⟩, 8), (⟨"SnapHouse$StreamOpener", "give", "(LSnapHouse$Bytes;LSnapHouse$Bytes;II)V"⟩, 8), (⟨"SnapHouse$StreamOpener", "keepChunk", "(I)V"⟩, 8), (⟨"java/lang/Throwable", "fillInStackTrace", "(I)Ljava/lang/Throwable;"⟩, 6), (⟨"SnapHouseModel", "word", "(I)V"⟩, 33), (⟨"SnapHouseModel", "pressPart", "(II)V"⟩, 33), (⟨"SnapHouseModel", "pack", "(I)V"⟩, 33), (⟨"SnapHouseModel", "keyOf", "(I)I"⟩, 33), (⟨"SnapHouseModel", "at", "(I)I"⟩, 33), (⟨"SnapHouseModel", "areFour", "(II)Z"⟩, 33), (⟨"SnapHouseModel", "literal", "(II)V"⟩, 33), (⟨"SnapHouseModel", "copies", "(II)V"⟩, 33), (⟨"SnapHouseModel", "copyTwo", "(II)V"⟩, 33)]
theorem lw_r2 : ∀ q ∈ lw_privs_2, lw_okq q := List.forall_mem_cons.mpr ⟨lw_p16, List.forall_mem_cons.mpr ⟨lw_p17, List.forall_mem_cons.mpr ⟨lw_p18, List.forall_mem_cons.mpr ⟨lw_p19, List.forall_mem_cons.mpr ⟨lw_p20, List.forall_mem_cons.mpr ⟨lw_p21, List.forall_mem_cons.mpr ⟨lw_p22, List.forall_mem_cons.mpr ⟨lw_p23, List.forall_mem_cons.mpr ⟨lw_p24, List.forall_mem_cons.mpr ⟨lw_p25, List.forall_mem_cons.mpr ⟨lw_p26, List.forall_mem_cons.mpr ⟨lw_p27, List.forall_mem_cons.mpr ⟨lw_p28, List.forall_mem_cons.mpr ⟨lw_p29, List.forall_mem_cons.mpr ⟨lw_p30, List.forall_mem_cons.mpr ⟨lw_p31, fun _ h => absurd h List.not_mem_nil⟩⟩⟩⟩⟩⟩⟩⟩⟩⟩⟩⟩⟩⟩⟩⟩
theorem lw_p32 : lw_okq (⟨"SnapHouseModel", "give", "([BI)V"⟩, 33) := ⟨⟨by decide +kernel, by decide +kernel⟩, List.mem_of_getElem? (i := 615) (by decide +kernel), List.mem_of_getElem? (i := 800) (by decide +kernel), List.mem_of_getElem? (i := 801) (by decide +kernel)⟩
theorem lw_p33 : lw_okq (⟨"SnapHouseModel", "openPart", "(II)V"⟩, 33) := ⟨⟨by decide +kernel, by decide +kernel⟩, List.mem_of_getElem? (i := 615) (by decide +kernel), List.mem_of_getElem? (i := 808) (by decide +kernel), List.mem_of_getElem? (i := 809) (by decide +kernel)⟩
theorem lw_p34 : lw_okq (⟨"SnapHouseModel", "bad", "(II)V"⟩, 33) := ⟨⟨by decide +kernel, by decide +kernel⟩, List.mem_of_getElem? (i := 615) (by decide +kernel), List.mem_of_getElem? (i := 812) (by decide +kernel), List.mem_of_getElem? (i := 813) (by decide +kernel)⟩
theorem lw_p35 : lw_okq (⟨"SnapHouseModel", "elementAt", "(IIII)I"⟩, 33) := ⟨⟨by decide +kernel, by decide +kernel⟩, List.mem_of_getElem? (i := 615) (by decide +kernel), List.mem_of_getElem? (i := 817) (by decide +kernel), List.mem_of_getElem? (i := 818) (by decide +kernel)⟩
theorem lw_p36 : lw_okq (⟨"SnapHouseModel", "told", "(IIII)V"⟩, 33) := ⟨⟨by decide +kernel, by decide +kernel⟩, List.mem_of_getElem? (i := 615) (by decide +kernel), List.mem_of_getElem? (i := 823) (by decide +kernel), List.mem_of_getElem? (i := 824) (by decide +kernel)⟩
theorem lw_p37 : lw_okq (⟨"SnapHouseModel", "sumOf", "([BII)I"⟩, 33) := ⟨⟨by decide +kernel, by decide +kernel⟩, List.mem_of_getElem? (i := 615) (by decide +kernel), List.mem_of_getElem? (i := 847) (by decide +kernel), List.mem_of_getElem? (i := 848) (by decide +kernel)⟩
theorem lw_p38 : lw_okq (⟨"SnapHouseModel", "masked", "(I)I"⟩, 33) := ⟨⟨by decide +kernel, by decide +kernel⟩, List.mem_of_getElem? (i := 615) (by decide +kernel), List.mem_of_getElem? (i := 851) (by decide +kernel), List.mem_of_getElem? (i := 852) (by decide +kernel)⟩
theorem lw_p39 : lw_okq (⟨"SnapHouseModel", "chunkAt", "(I)I"⟩, 33) := ⟨⟨by decide +kernel, by decide +kernel⟩, List.mem_of_getElem? (i := 615) (by decide +kernel), List.mem_of_getElem? (i := 860) (by decide +kernel), List.mem_of_getElem? (i := 861) (by decide +kernel)⟩
theorem lw_p40 : lw_okq (⟨"SnapHouseModel", "isName", "(I)Z"⟩, 33) := ⟨⟨by decide +kernel, by decide +kernel⟩, List.mem_of_getElem? (i := 615) (by decide +kernel), List.mem_of_getElem? (i := 864) (by decide +kernel), List.mem_of_getElem? (i := 865) (by decide +kernel)⟩
theorem lw_p41 : lw_okq (⟨"SnapHouseModel", "name", "(I)I"⟩, 33) := ⟨⟨by decide +kernel, by decide +kernel⟩, List.mem_of_getElem? (i := 615) (by decide +kernel), List.mem_of_getElem? (i := 868) (by decide +kernel), List.mem_of_getElem? (i := 869) (by decide +kernel)⟩
theorem lw_p42 : lw_okq (⟨"SnapHouseModel", "bytesOf", "(IIII)V"⟩, 33) := ⟨⟨by decide +kernel, by decide +kernel⟩, List.mem_of_getElem? (i := 615) (by decide +kernel), List.mem_of_getElem? (i := 872) (by decide +kernel), List.mem_of_getElem? (i := 873) (by decide +kernel)⟩
theorem lw_p43 : lw_okq (⟨"SnapHouseModel", "fourAt", "(I)I"⟩, 33) := ⟨⟨by decide +kernel, by decide +kernel⟩, List.mem_of_getElem? (i := 615) (by decide +kernel), List.mem_of_getElem? (i := 876) (by decide +kernel), List.mem_of_getElem? (i := 877) (by decide +kernel)⟩
theorem lw_p44 : lw_okq (⟨"SnapHouseModel", "add", "(I)V"⟩, 33) := ⟨⟨by decide +kernel, by decide +kernel⟩, List.mem_of_getElem? (i := 615) (by decide +kernel), List.mem_of_getElem? (i := 884) (by decide +kernel), List.mem_of_getElem? (i := 885) (by decide +kernel)⟩
theorem lw_p45 : lw_okq (⟨"SnapHouseModel", "piece", "(II)V"⟩, 33) := ⟨⟨by decide +kernel, by decide +kernel⟩, List.mem_of_getElem? (i := 615) (by decide +kernel), List.mem_of_getElem? (i := 888) (by decide +kernel), List.mem_of_getElem? (i := 889) (by decide +kernel)⟩
def lw_privs_3 : List (MethodName × Nat) := [(⟨"SnapHouseModel", "give", "([BI)V"⟩, 33), (⟨"SnapHouseModel", "openPart", "(II)V"⟩, 33), (⟨"SnapHouseModel", "bad", "(II)V"⟩, 33), (⟨"SnapHouseModel", "elementAt", "(IIII)I"⟩, 33), (⟨"SnapHouseModel", "told", "(IIII)V"⟩, 33), (⟨"SnapHouseModel", "sumOf", "([BII)I"⟩, 33), (⟨"SnapHouseModel", "masked", "(I)I"⟩, 33), (⟨"SnapHouseModel", "chunkAt", "(I)I"⟩, 33), (⟨"SnapHouseModel", "isName", "(I)Z"⟩, 33), (⟨"SnapHouseModel", "name", "(I)I"⟩, 33), (⟨"SnapHouseModel", "bytesOf", "(IIII)V"⟩, 33), (⟨"SnapHouseModel", "fourAt", "(I)I"⟩, 33), (⟨"SnapHouseModel", "add", "(I)V"⟩, 33), (⟨"SnapHouseModel", "piece", "(II)V"⟩, 33)]
theorem lw_r3 : ∀ q ∈ lw_privs_3, lw_okq q := List.forall_mem_cons.mpr ⟨lw_p32, List.forall_mem_cons.mpr ⟨lw_p33, List.forall_mem_cons.mpr ⟨lw_p34, List.forall_mem_cons.mpr ⟨lw_p35, List.forall_mem_cons.mpr ⟨lw_p36, List.forall_mem_cons.mpr ⟨lw_p37, List.forall_mem_cons.mpr ⟨lw_p38, List.forall_mem_cons.mpr ⟨lw_p39, List.forall_mem_cons.mpr ⟨lw_p40, List.forall_mem_cons.mpr ⟨lw_p41, List.forall_mem_cons.mpr ⟨lw_p42, List.forall_mem_cons.mpr ⟨lw_p43, List.forall_mem_cons.mpr ⟨lw_p44, List.forall_mem_cons.mpr ⟨lw_p45, fun _ h => absurd h List.not_mem_nil⟩⟩⟩⟩⟩⟩⟩⟩⟩⟩⟩⟩⟩⟩
def lw_privs : List (MethodName × Nat) := lw_privs_1 ++ (lw_privs_2 ++ (lw_privs_3))
def lw_tbl : List Cond := k2_sels lw_privs ++ tables_1
theorem lw_privs_ok : ∀ q ∈ lw_privs, lw_okq q := by
  show ∀ q ∈ lw_privs_1 ++ (lw_privs_2 ++ (lw_privs_3)), lw_okq q
  exact List.forall_mem_append.mpr ⟨lw_r1, List.forall_mem_append.mpr ⟨lw_r2, lw_r3⟩⟩
end
section
/-! ===== BEGIN words of one list among another's, by their places ===== -/
theorem goodIn_r {big : List Cond} (ws : List Cond) (ps : List Nat) (hp : ws = ps.filterMap (fun i => big[i]?)) (h : ws.all goodWord = true) : GoodIn big ws := by
  intro w hw
  have h1 := List.all_eq_true.mp h w hw
  rw [hp] at hw
  obtain ⟨i, -, hi⟩ := List.mem_filterMap.mp hw
  have hm : w ∈ big := by first | exact List.mem_of_getElem? hi | exact List.getElem?_mem hi
  exact ⟨hm, good_of_word h1⟩
theorem goodIn_app {big a b : List Cond} (ha : GoodIn big a) (hb : GoodIn big b) : GoodIn big (a ++ b) := fun w h => (List.mem_append.mp h).elim (ha w) (hb w)
theorem goodIn_ca {big a b : List Cond} {c : Cond} (ha : GoodIn big (c :: a)) (hb : GoodIn big b) : GoodIn big (c :: (a ++ b)) := fun w h => (List.mem_cons.mp h).elim (fun e => ha w (List.mem_cons.mpr (Or.inl e))) (fun h => (List.mem_append.mp h).elim (fun h => ha w (List.mem_cons.mpr (Or.inr h))) (hb w))
theorem goodIn_sub {big ws : List Cond} (hm : ∀ w ∈ ws, w ∈ big) (h : ws.all goodWord = true) : GoodIn big ws := fun w hw => ⟨hm w hw, good_of_word (List.all_eq_true.mp h w hw)⟩
/-! ===== END ===== -/
end
section
/-! ===== BEGIN printed: names, fields, word lists, decode rows ===== -/
def RX0 : String := "SnapHouse$BlockOpener"
def TX0 : u_T := fun k => match k with
  | 0 => ("SnapHouse$BlockOpener", "given", "LSnapHouse$Bytes;", true)
  | 1 => ("SnapHouse$BlockOpener", "elements", "LSnapHouse$Rows;", true)
  | 2 => ("SnapHouse$BlockOpener", "fault", "I", false)
  | 3 => ("SnapHouse$BlockOpener", "place", "I", false)
  | 4 => ("SnapHouse$BlockOpener", "start", "I", false)
  | 5 => ("SnapHouse$BlockOpener", "end", "I", false)
  | 6 => ("SnapHouse$BlockOpener", "next", "I", false)
  | 7 => ("SnapHouse$BlockOpener", "length", "I", false)
  | 8 => ("SnapHouse$BlockOpener", "sort", "I", false)
  | 9 => ("SnapHouse$BlockOpener", "body", "I", false)
  | 10 => ("SnapHouse$BlockOpener", "size", "J", false)
  | _ => ("SnapHouse$BlockOpener", "back", "J", false)
def tyX0 : Nat → FieldType := fun k => match k with
  | 0 => .object "SnapHouse$Bytes"
  | 1 => .object "SnapHouse$Rows"
  | 2 => .int
  | 3 => .int
  | 4 => .int
  | 5 => .int
  | 6 => .int
  | 7 => .int
  | 8 => .int
  | 9 => .int
  | 10 => .long
  | _ => .long
abbrev wsX00 : List Cond := u_ws RX0 TX0 12
theorem nmX0 : ∀ a, a < 12 → ∀ b, b < 12 → a ≠ b → (TX0 a).2.1 ≠ (TX0 b).2.1 := by decide +kernel
theorem tyX0_ok : ∀ k, k < 12 → parseFieldDescriptor (TX0 k).2.2.1 = some (tyX0 k) := by decide +kernel
abbrev cX0_init : ByteArray := prog_2_method_1_code
def yX0_init : MethodName := ⟨RX0, "<init>", "()V"⟩
abbrev cX0_openBlock : ByteArray := prog_2_method_2_code
def yX0_openBlock : MethodName := ⟨RX0, "openBlock", "(LSnapHouse$Bytes;II)V"⟩
abbrev cX0_fail : ByteArray := prog_2_method_3_code
def yX0_fail : MethodName := ⟨RX0, "fail", "(II)V"⟩
abbrev cX0_readLength : ByteArray := prog_2_method_4_code
def yX0_readLength : MethodName := ⟨RX0, "readLength", "(LSnapHouse$Bytes;)V"⟩
abbrev cX0_readElement : ByteArray := prog_2_method_5_code
def yX0_readElement : MethodName := ⟨RX0, "readElement", "(LSnapHouse$Bytes;)V"⟩
abbrev cX0_bytesBehindTag : ByteArray := prog_2_method_6_code
def yX0_bytesBehindTag : MethodName := ⟨RX0, "bytesBehindTag", "(II)I"⟩
abbrev cX0_sizeOf : ByteArray := prog_2_method_7_code
def yX0_sizeOf : MethodName := ⟨RX0, "sizeOf", "(IIJ)J"⟩
abbrev cX0_backOf : ByteArray := prog_2_method_8_code
def yX0_backOf : MethodName := ⟨RX0, "backOf", "(IIJ)J"⟩
abbrev cX0_checkElement : ByteArray := prog_2_method_9_code
def yX0_checkElement : MethodName := ⟨RX0, "checkElement", "()V"⟩
abbrev cX0_giveElement : ByteArray := prog_2_method_10_code
def yX0_giveElement : MethodName := ⟨RX0, "giveElement", "(LSnapHouse$Bytes;)V"⟩
def RX1 : String := "SnapHouse$Bytes"
def TX1 : u_T := fun k => match k with
  | 0 => ("SnapHouse$Bytes", "row", "[I", true)
  | _ => ("SnapHouse$Bytes", "count", "I", false)
def tyX1 : Nat → FieldType := fun k => match k with
  | 0 => .array .int
  | _ => .int
abbrev wsX10 : List Cond := u_ws RX1 TX1 2
theorem nmX1 : ∀ a, a < 2 → ∀ b, b < 2 → a ≠ b → (TX1 a).2.1 ≠ (TX1 b).2.1 := by decide +kernel
theorem tyX1_ok : ∀ k, k < 2 → parseFieldDescriptor (TX1 k).2.2.1 = some (tyX1 k) := by decide +kernel
abbrev cX1_init : ByteArray := prog_3_method_1_code
def yX1_init : MethodName := ⟨RX1, "<init>", "(I)V"⟩
abbrev cX1_hasRoomFor : ByteArray := prog_3_method_2_code
def yX1_hasRoomFor : MethodName := ⟨RX1, "hasRoomFor", "(I)Z"⟩
abbrev cX1_hasPlace : ByteArray := prog_3_method_3_code
def yX1_hasPlace : MethodName := ⟨RX1, "hasPlace", "(I)Z"⟩
abbrev cX1_has : ByteArray := prog_3_method_4_code
def yX1_has : MethodName := ⟨RX1, "has", "(II)Z"⟩
abbrev cX1_at : ByteArray := prog_3_method_5_code
def yX1_at : MethodName := ⟨RX1, "at", "(I)I"⟩
abbrev cX1_change : ByteArray := prog_3_method_6_code
def yX1_change : MethodName := ⟨RX1, "change", "(II)V"⟩
abbrev cX1_shorten : ByteArray := prog_3_method_7_code
def yX1_shorten : MethodName := ⟨RX1, "shorten", "(I)V"⟩
abbrev cX1_put : ByteArray := prog_3_method_8_code
def yX1_put : MethodName := ⟨RX1, "put", "(I)V"⟩
abbrev cX1_putHighestFirst : ByteArray := prog_3_method_9_code
def yX1_putHighestFirst : MethodName := ⟨RX1, "putHighestFirst", "(I)V"⟩
abbrev cX1_putLowestFirst : ByteArray := prog_3_method_10_code
def yX1_putLowestFirst : MethodName := ⟨RX1, "putLowestFirst", "(II)V"⟩
abbrev cX1_putAll : ByteArray := prog_3_method_11_code
def yX1_putAll : MethodName := ⟨RX1, "putAll", "(LSnapHouse$Bytes;II)V"⟩
abbrev cX1_putOwn : ByteArray := prog_3_method_12_code
def yX1_putOwn : MethodName := ⟨RX1, "putOwn", "(II)V"⟩
abbrev cX1_become : ByteArray := prog_3_method_13_code
def yX1_become : MethodName := ⟨RX1, "become", "(LSnapHouse$Bytes;)V"⟩
abbrev cX1_lowestFirst : ByteArray := prog_3_method_14_code
def yX1_lowestFirst : MethodName := ⟨RX1, "lowestFirst", "(II)J"⟩
abbrev cX1_fourFrom : ByteArray := prog_3_method_15_code
def yX1_fourFrom : MethodName := ⟨RX1, "fourFrom", "(I)I"⟩
abbrev cX1_crc : ByteArray := prog_3_method_16_code
def yX1_crc : MethodName := ⟨RX1, "crc", "(II)I"⟩
abbrev cX1_maskedCrc : ByteArray := prog_3_method_17_code
def yX1_maskedCrc : MethodName := ⟨RX1, "maskedCrc", "(II)I"⟩
def RX2 : String := "SnapHouse$Presser"
def TX2 : u_T := fun k => match k with
  | 0 => ("SnapHouse$Presser", "block", "LSnapHouse$Bytes;", true)
  | 1 => ("SnapHouse$Presser", "slots", "[I", true)
  | _ => ("SnapHouse$Presser", "slotMask", "I", false)
def tyX2 : Nat → FieldType := fun k => match k with
  | 0 => .object "SnapHouse$Bytes"
  | 1 => .array .int
  | _ => .int
abbrev wsX20 : List Cond := u_ws RX2 TX2 3
theorem nmX2 : ∀ a, a < 3 → ∀ b, b < 3 → a ≠ b → (TX2 a).2.1 ≠ (TX2 b).2.1 := by decide +kernel
theorem tyX2_ok : ∀ k, k < 3 → parseFieldDescriptor (TX2 k).2.2.1 = some (tyX2 k) := by decide +kernel
abbrev cX2_init : ByteArray := prog_4_method_1_code
def yX2_init : MethodName := ⟨RX2, "<init>", "()V"⟩
abbrev cX2_pressBlock : ByteArray := prog_4_method_2_code
def yX2_pressBlock : MethodName := ⟨RX2, "pressBlock", "(LSnapHouse$Bytes;II)V"⟩
abbrev cX2_putLength : ByteArray := prog_4_method_3_code
def yX2_putLength : MethodName := ⟨RX2, "putLength", "(I)V"⟩
abbrev cX2_freeSlots : ByteArray := prog_4_method_4_code
def yX2_freeSlots : MethodName := ⟨RX2, "freeSlots", "(I)V"⟩
abbrev cX2_noteAndFind : ByteArray := prog_4_method_5_code
def yX2_noteAndFind : MethodName := ⟨RX2, "noteAndFind", "(LSnapHouse$Bytes;I)I"⟩
abbrev cX2_countAlike : ByteArray := prog_4_method_6_code
def yX2_countAlike : MethodName := ⟨RX2, "countAlike", "(LSnapHouse$Bytes;III)I"⟩
abbrev cX2_putLiteral : ByteArray := prog_4_method_7_code
def yX2_putLiteral : MethodName := ⟨RX2, "putLiteral", "(LSnapHouse$Bytes;II)V"⟩
abbrev cX2_putCopies : ByteArray := prog_4_method_8_code
def yX2_putCopies : MethodName := ⟨RX2, "putCopies", "(II)V"⟩
abbrev cX2_putCopy : ByteArray := prog_4_method_9_code
def yX2_putCopy : MethodName := ⟨RX2, "putCopy", "(II)V"⟩
def RX3 : String := "SnapHouse$Rows"
def TX3 : u_T := fun k => match k with
  | 0 => ("SnapHouse$Rows", "cells", "[I", true)
  | 1 => ("SnapHouse$Rows", "count", "I", false)
  | _ => ("SnapHouse$Rows", "marked", "I", false)
def tyX3 : Nat → FieldType := fun k => match k with
  | 0 => .array .int
  | 1 => .int
  | _ => .int
abbrev wsX30 : List Cond := u_ws RX3 TX3 3
theorem nmX3 : ∀ a, a < 3 → ∀ b, b < 3 → a ≠ b → (TX3 a).2.1 ≠ (TX3 b).2.1 := by decide +kernel
theorem tyX3_ok : ∀ k, k < 3 → parseFieldDescriptor (TX3 k).2.2.1 = some (tyX3 k) := by decide +kernel
abbrev cX3_init : ByteArray := prog_5_method_1_code
def yX3_init : MethodName := ⟨RX3, "<init>", "()V"⟩
abbrev cX3_clear : ByteArray := prog_5_method_2_code
def yX3_clear : MethodName := ⟨RX3, "clear", "()V"⟩
abbrev cX3_add : ByteArray := prog_5_method_3_code
def yX3_add : MethodName := ⟨RX3, "add", "(IIIIIZ)V"⟩
abbrev cX3_cell : ByteArray := prog_5_method_4_code
def yX3_cell : MethodName := ⟨RX3, "cell", "(II)I"⟩
abbrev cX3_become : ByteArray := prog_5_method_5_code
def yX3_become : MethodName := ⟨RX3, "become", "(LSnapHouse$Rows;)V"⟩
def RX4 : String := "SnapHouse$StreamMaker"
def TX4 : u_T := fun k => match k with
  | _ => ("SnapHouse$StreamMaker", "made", "LSnapHouse$Bytes;", true)
def tyX4 : Nat → FieldType := fun k => match k with
  | _ => .object "SnapHouse$Bytes"
abbrev wsX40 : List Cond := u_ws RX4 TX4 1
theorem nmX4 : ∀ a, a < 1 → ∀ b, b < 1 → a ≠ b → (TX4 a).2.1 ≠ (TX4 b).2.1 := by decide +kernel
theorem tyX4_ok : ∀ k, k < 1 → parseFieldDescriptor (TX4 k).2.2.1 = some (tyX4 k) := by decide +kernel
abbrev cX4_init : ByteArray := prog_6_method_1_code
def yX4_init : MethodName := ⟨RX4, "<init>", "()V"⟩
abbrev cX4_makeStream : ByteArray := prog_6_method_2_code
def yX4_makeStream : MethodName := ⟨RX4, "makeStream", "(LSnapHouse$Bytes;ILSnapHouse$Presser;)Z"⟩
abbrev cX4_putPiece : ByteArray := prog_6_method_3_code
def yX4_putPiece : MethodName := ⟨RX4, "putPiece", "(LSnapHouse$Bytes;IILSnapHouse$Bytes;)Z"⟩
abbrev cX4_putHeader : ByteArray := prog_6_method_4_code
def yX4_putHeader : MethodName := ⟨RX4, "putHeader", "(II)V"⟩
def RX5 : String := "SnapHouse$StreamOpener"
def TX5 : u_T := fun k => match k with
  | 0 => ("SnapHouse$StreamOpener", "given", "LSnapHouse$Bytes;", true)
  | 1 => ("SnapHouse$StreamOpener", "chunks", "LSnapHouse$Rows;", true)
  | 2 => ("SnapHouse$StreamOpener", "fault", "I", false)
  | 3 => ("SnapHouse$StreamOpener", "place", "I", false)
  | 4 => ("SnapHouse$StreamOpener", "next", "I", false)
  | 5 => ("SnapHouse$StreamOpener", "type", "I", false)
  | 6 => ("SnapHouse$StreamOpener", "body", "I", false)
  | _ => ("SnapHouse$StreamOpener", "size", "I", false)
def tyX5 : Nat → FieldType := fun k => match k with
  | 0 => .object "SnapHouse$Bytes"
  | 1 => .object "SnapHouse$Rows"
  | 2 => .int
  | 3 => .int
  | 4 => .int
  | 5 => .int
  | 6 => .int
  | _ => .int
abbrev wsX50 : List Cond := u_ws RX5 TX5 8
theorem nmX5 : ∀ a, a < 8 → ∀ b, b < 8 → a ≠ b → (TX5 a).2.1 ≠ (TX5 b).2.1 := by decide +kernel
theorem tyX5_ok : ∀ k, k < 8 → parseFieldDescriptor (TX5 k).2.2.1 = some (tyX5 k) := by decide +kernel
abbrev cX5_init : ByteArray := prog_7_method_1_code
def yX5_init : MethodName := ⟨RX5, "<init>", "()V"⟩
abbrev cX5_openStream : ByteArray := prog_7_method_2_code
def yX5_openStream : MethodName := ⟨RX5, "openStream", "(LSnapHouse$Bytes;LSnapHouse$BlockOpener;)V"⟩
abbrev cX5_fail : ByteArray := prog_7_method_3_code
def yX5_fail : MethodName := ⟨RX5, "fail", "(I)V"⟩
abbrev cX5_readHeader : ByteArray := prog_7_method_4_code
def yX5_readHeader : MethodName := ⟨RX5, "readHeader", "(LSnapHouse$Bytes;)V"⟩
abbrev cX5_tellsBytes : ByteArray := prog_7_method_5_code
def yX5_tellsBytes : MethodName := ⟨RX5, "tellsBytes", "()Z"⟩
abbrev cX5_checkChunk : ByteArray := prog_7_method_6_code
def yX5_checkChunk : MethodName := ⟨RX5, "checkChunk", "(LSnapHouse$Bytes;)V"⟩
abbrev cX5_isName : ByteArray := prog_7_method_7_code
def yX5_isName : MethodName := ⟨RX5, "isName", "(LSnapHouse$Bytes;)Z"⟩
abbrev cX5_openBytes : ByteArray := prog_7_method_8_code
def yX5_openBytes : MethodName := ⟨RX5, "openBytes", "(LSnapHouse$Bytes;LSnapHouse$BlockOpener;)V"⟩
abbrev cX5_give : ByteArray := prog_7_method_9_code
def yX5_give : MethodName := ⟨RX5, "give", "(LSnapHouse$Bytes;LSnapHouse$Bytes;II)V"⟩
abbrev cX5_keepChunk : ByteArray := prog_7_method_10_code
def yX5_keepChunk : MethodName := ⟨RX5, "keepChunk", "(I)V"⟩
def RX6 : String := "SnapHouse"
def TX6 : u_T := fun k => match k with
  | 0 => ("SnapHouse", "theTape", "LSnapHouse$Bytes;", true)
  | 1 => ("SnapHouse", "theOut", "LSnapHouse$Bytes;", true)
  | 2 => ("SnapHouse", "presser", "LSnapHouse$Presser;", true)
  | 3 => ("SnapHouse", "streamMaker", "LSnapHouse$StreamMaker;", true)
  | 4 => ("SnapHouse", "blockOpener", "LSnapHouse$BlockOpener;", true)
  | 5 => ("SnapHouse", "streamOpener", "LSnapHouse$StreamOpener;", true)
  | 6 => ("SnapHouse", "keptElements", "LSnapHouse$Rows;", true)
  | 7 => ("SnapHouse", "keptChunks", "LSnapHouse$Rows;", true)
  | 8 => ("SnapHouse", "faultNumber", "I", false)
  | 9 => ("SnapHouse", "faultPlace", "I", false)
  | 10 => ("SnapHouse", "faultOfBlock", "I", false)
  | _ => ("SnapHouse", "faultPlaceInBlock", "I", false)
def tyX6 : Nat → FieldType := fun k => match k with
  | 0 => .object "SnapHouse$Bytes"
  | 1 => .object "SnapHouse$Bytes"
  | 2 => .object "SnapHouse$Presser"
  | 3 => .object "SnapHouse$StreamMaker"
  | 4 => .object "SnapHouse$BlockOpener"
  | 5 => .object "SnapHouse$StreamOpener"
  | 6 => .object "SnapHouse$Rows"
  | 7 => .object "SnapHouse$Rows"
  | 8 => .int
  | 9 => .int
  | 10 => .int
  | _ => .int
abbrev wsX60 : List Cond := u_ws RX6 TX6 12
theorem nmX6 : ∀ a, a < 12 → ∀ b, b < 12 → a ≠ b → (TX6 a).2.1 ≠ (TX6 b).2.1 := by decide +kernel
theorem tyX6_ok : ∀ k, k < 12 → parseFieldDescriptor (TX6 k).2.2.1 = some (tyX6 k) := by decide +kernel
abbrev cX6_init : ByteArray := prog_1_method_1_code
def yX6_init : MethodName := ⟨RX6, "<init>", "()V"⟩
abbrev cX6_feed : ByteArray := prog_1_method_2_code
def yX6_feed : MethodName := ⟨RX6, "feed", "(IIIII)I"⟩
abbrev cX6_fill : ByteArray := prog_1_method_3_code
def yX6_fill : MethodName := ⟨RX6, "fill", "(II)I"⟩
abbrev cX6_again : ByteArray := prog_1_method_4_code
def yX6_again : MethodName := ⟨RX6, "again", "(II)I"⟩
abbrev cX6_cut : ByteArray := prog_1_method_5_code
def yX6_cut : MethodName := ⟨RX6, "cut", "(I)I"⟩
abbrev cX6_set : ByteArray := prog_1_method_6_code
def yX6_set : MethodName := ⟨RX6, "set", "(II)I"⟩
abbrev cX6_take : ByteArray := prog_1_method_7_code
def yX6_take : MethodName := ⟨RX6, "take", "()I"⟩
abbrev cX6_tape : ByteArray := prog_1_method_8_code
def yX6_tape : MethodName := ⟨RX6, "tape", "(I)I"⟩
abbrev cX6_press : ByteArray := prog_1_method_9_code
def yX6_press : MethodName := ⟨RX6, "press", "()I"⟩
abbrev cX6_open : ByteArray := prog_1_method_10_code
def yX6_open : MethodName := ⟨RX6, "open", "()I"⟩
abbrev cX6_stream : ByteArray := prog_1_method_11_code
def yX6_stream : MethodName := ⟨RX6, "stream", "(I)I"⟩
abbrev cX6_unstream : ByteArray := prog_1_method_12_code
def yX6_unstream : MethodName := ⟨RX6, "unstream", "()I"⟩
abbrev cX6_fault : ByteArray := prog_1_method_13_code
def yX6_fault : MethodName := ⟨RX6, "fault", "(I)I"⟩
abbrev cX6_element : ByteArray := prog_1_method_14_code
def yX6_element : MethodName := ⟨RX6, "element", "(II)I"⟩
abbrev cX6_chunk : ByteArray := prog_1_method_15_code
def yX6_chunk : MethodName := ⟨RX6, "chunk", "(II)I"⟩
abbrev cX6_sum : ByteArray := prog_1_method_16_code
def yX6_sum : MethodName := ⟨RX6, "sum", "(IIZ)I"⟩
abbrev cX6_out : ByteArray := prog_1_method_17_code
def yX6_out : MethodName := ⟨RX6, "out", "(I)I"⟩
abbrev cX6_about : ByteArray := prog_1_method_18_code
def yX6_about : MethodName := ⟨RX6, "about", "(I)I"⟩
abbrev cX6_isByte : ByteArray := prog_1_method_19_code
def yX6_isByte : MethodName := ⟨RX6, "isByte", "(I)Z"⟩
abbrev cX6_keepFault : ByteArray := prog_1_method_20_code
def yX6_keepFault : MethodName := ⟨RX6, "keepFault", "(IIII)V"⟩
def RX7 : String := "SnapHouseModel"
def TX7 : u_T := fun k => match k with
  | 0 => ("SnapHouseModel", "tape", "[B", true)
  | 1 => ("SnapHouseModel", "out", "[B", true)
  | 2 => ("SnapHouseModel", "made", "[B", true)
  | 3 => ("SnapHouseModel", "packed", "[B", true)
  | 4 => ("SnapHouseModel", "taped", "I", false)
  | 5 => ("SnapHouseModel", "outs", "I", false)
  | 6 => ("SnapHouseModel", "mades", "I", false)
  | 7 => ("SnapHouseModel", "packs", "I", false)
  | 8 => ("SnapHouseModel", "thrown", "I", false)
  | 9 => ("SnapHouseModel", "latest", "[I", true)
  | 10 => ("SnapHouseModel", "ahead", "[I", true)
  | 11 => ("SnapHouseModel", "blockFault", "I", false)
  | 12 => ("SnapHouseModel", "blockPlace", "I", false)
  | 13 => ("SnapHouseModel", "opened", "I", false)
  | 14 => ("SnapHouseModel", "literals", "I", false)
  | 15 => ("SnapHouseModel", "notes", "[I", true)
  | 16 => ("SnapHouseModel", "wanted", "I", false)
  | 17 => ("SnapHouseModel", "elements", "[I", true)
  | 18 => ("SnapHouseModel", "chunks", "[I", true)
  | 19 => ("SnapHouseModel", "elementMany", "I", false)
  | 20 => ("SnapHouseModel", "literalMany", "I", false)
  | 21 => ("SnapHouseModel", "chunkMany", "I", false)
  | 22 => ("SnapHouseModel", "skippedMany", "I", false)
  | 23 => ("SnapHouseModel", "faultNumber", "I", false)
  | 24 => ("SnapHouseModel", "faultPlace", "I", false)
  | 25 => ("SnapHouseModel", "faultInner", "I", false)
  | 26 => ("SnapHouseModel", "faultInnerPlace", "I", false)
  | 27 => ("SnapHouseModel", "sums", "[I", true)
  | 28 => ("SnapHouseModel", "found", "[I", true)
  | 29 => ("SnapHouseModel", "foundMany", "I", false)
  | 30 => ("SnapHouseModel", "skips", "I", false)
  | 31 => ("SnapHouseModel", "before", "[B", true)
  | _ => ("SnapHouseModel", "isFull", "Z", false)
def tyX7 : Nat → FieldType := fun k => match k with
  | 0 => .array .byte
  | 1 => .array .byte
  | 2 => .array .byte
  | 3 => .array .byte
  | 4 => .int
  | 5 => .int
  | 6 => .int
  | 7 => .int
  | 8 => .int
  | 9 => .array .int
  | 10 => .array .int
  | 11 => .int
  | 12 => .int
  | 13 => .int
  | 14 => .int
  | 15 => .array .int
  | 16 => .int
  | 17 => .array .int
  | 18 => .array .int
  | 19 => .int
  | 20 => .int
  | 21 => .int
  | 22 => .int
  | 23 => .int
  | 24 => .int
  | 25 => .int
  | 26 => .int
  | 27 => .array .int
  | 28 => .array .int
  | 29 => .int
  | 30 => .int
  | 31 => .array .byte
  | _ => .boolean
abbrev wsX70 : List Cond := u_ws RX7 TX7 33
theorem nmX7 : ∀ a, a < 33 → ∀ b, b < 33 → a ≠ b → (TX7 a).2.1 ≠ (TX7 b).2.1 := by decide +kernel
theorem tyX7_ok : ∀ k, k < 33 → parseFieldDescriptor (TX7 k).2.2.1 = some (tyX7 k) := by decide +kernel
abbrev cX7_init : ByteArray := prog_9_method_1_code
def yX7_init : MethodName := ⟨RX7, "<init>", "()V"⟩
abbrev cX7_thrown : ByteArray := prog_9_method_2_code
def yX7_thrown : MethodName := ⟨RX7, "thrown", "()I"⟩
abbrev cX7_feed : ByteArray := prog_9_method_3_code
def yX7_feed : MethodName := ⟨RX7, "feed", "(IIIII)I"⟩
abbrev cX7_word : ByteArray := prog_9_method_4_code
def yX7_word : MethodName := ⟨RX7, "word", "(I)V"⟩
abbrev cX7_fill : ByteArray := prog_9_method_5_code
def yX7_fill : MethodName := ⟨RX7, "fill", "(II)I"⟩
abbrev cX7_again : ByteArray := prog_9_method_6_code
def yX7_again : MethodName := ⟨RX7, "again", "(II)I"⟩
abbrev cX7_cut : ByteArray := prog_9_method_7_code
def yX7_cut : MethodName := ⟨RX7, "cut", "(I)I"⟩
abbrev cX7_set : ByteArray := prog_9_method_8_code
def yX7_set : MethodName := ⟨RX7, "set", "(II)I"⟩
abbrev cX7_take : ByteArray := prog_9_method_9_code
def yX7_take : MethodName := ⟨RX7, "take", "()I"⟩
abbrev cX7_tape : ByteArray := prog_9_method_10_code
def yX7_tape : MethodName := ⟨RX7, "tape", "(I)I"⟩
abbrev cX7_out : ByteArray := prog_9_method_11_code
def yX7_out : MethodName := ⟨RX7, "out", "(I)I"⟩
abbrev cX7_at : ByteArray := prog_9_method_12_code
def yX7_at : MethodName := ⟨RX7, "at", "(I)I"⟩
abbrev cX7_keyOf : ByteArray := prog_9_method_13_code
def yX7_keyOf : MethodName := ⟨RX7, "keyOf", "(I)I"⟩
abbrev cX7_areFour : ByteArray := prog_9_method_14_code
def yX7_areFour : MethodName := ⟨RX7, "areFour", "(II)Z"⟩
abbrev cX7_pack : ByteArray := prog_9_method_15_code
def yX7_pack : MethodName := ⟨RX7, "pack", "(I)V"⟩
abbrev cX7_pressPart : ByteArray := prog_9_method_16_code
def yX7_pressPart : MethodName := ⟨RX7, "pressPart", "(II)V"⟩
abbrev cX7_literal : ByteArray := prog_9_method_17_code
def yX7_literal : MethodName := ⟨RX7, "literal", "(II)V"⟩
abbrev cX7_copyTwo : ByteArray := prog_9_method_18_code
def yX7_copyTwo : MethodName := ⟨RX7, "copyTwo", "(II)V"⟩
abbrev cX7_copies : ByteArray := prog_9_method_19_code
def yX7_copies : MethodName := ⟨RX7, "copies", "(II)V"⟩
abbrev cX7_give : ByteArray := prog_9_method_20_code
def yX7_give : MethodName := ⟨RX7, "give", "([BI)V"⟩
abbrev cX7_press : ByteArray := prog_9_method_21_code
def yX7_press : MethodName := ⟨RX7, "press", "()I"⟩
abbrev cX7_bad : ByteArray := prog_9_method_22_code
def yX7_bad : MethodName := ⟨RX7, "bad", "(II)V"⟩
abbrev cX7_openPart : ByteArray := prog_9_method_23_code
def yX7_openPart : MethodName := ⟨RX7, "openPart", "(II)V"⟩
abbrev cX7_elementAt : ByteArray := prog_9_method_24_code
def yX7_elementAt : MethodName := ⟨RX7, "elementAt", "(IIII)I"⟩
abbrev cX7_told : ByteArray := prog_9_method_25_code
def yX7_told : MethodName := ⟨RX7, "told", "(IIII)V"⟩
abbrev cX7_open : ByteArray := prog_9_method_26_code
def yX7_open : MethodName := ⟨RX7, "open", "()I"⟩
abbrev cX7_fault : ByteArray := prog_9_method_27_code
def yX7_fault : MethodName := ⟨RX7, "fault", "(I)I"⟩
abbrev cX7_element : ByteArray := prog_9_method_28_code
def yX7_element : MethodName := ⟨RX7, "element", "(II)I"⟩
abbrev cX7_chunk : ByteArray := prog_9_method_29_code
def yX7_chunk : MethodName := ⟨RX7, "chunk", "(II)I"⟩
abbrev cX7_about : ByteArray := prog_9_method_30_code
def yX7_about : MethodName := ⟨RX7, "about", "(I)I"⟩
abbrev cX7_sumOf : ByteArray := prog_9_method_31_code
def yX7_sumOf : MethodName := ⟨RX7, "sumOf", "([BII)I"⟩
abbrev cX7_masked : ByteArray := prog_9_method_32_code
def yX7_masked : MethodName := ⟨RX7, "masked", "(I)I"⟩
abbrev cX7_sum : ByteArray := prog_9_method_33_code
def yX7_sum : MethodName := ⟨RX7, "sum", "(IIZ)I"⟩
abbrev cX7_name : ByteArray := prog_9_method_34_code
def yX7_name : MethodName := ⟨RX7, "name", "(I)I"⟩
abbrev cX7_isName : ByteArray := prog_9_method_35_code
def yX7_isName : MethodName := ⟨RX7, "isName", "(I)Z"⟩
abbrev cX7_fourAt : ByteArray := prog_9_method_36_code
def yX7_fourAt : MethodName := ⟨RX7, "fourAt", "(I)I"⟩
abbrev cX7_unstream : ByteArray := prog_9_method_37_code
def yX7_unstream : MethodName := ⟨RX7, "unstream", "()I"⟩
abbrev cX7_chunkAt : ByteArray := prog_9_method_38_code
def yX7_chunkAt : MethodName := ⟨RX7, "chunkAt", "(I)I"⟩
abbrev cX7_bytesOf : ByteArray := prog_9_method_39_code
def yX7_bytesOf : MethodName := ⟨RX7, "bytesOf", "(IIII)V"⟩
abbrev cX7_add : ByteArray := prog_9_method_40_code
def yX7_add : MethodName := ⟨RX7, "add", "(I)V"⟩
abbrev cX7_stream : ByteArray := prog_9_method_41_code
def yX7_stream : MethodName := ⟨RX7, "stream", "(I)I"⟩
abbrev cX7_piece : ByteArray := prog_9_method_42_code
def yX7_piece : MethodName := ⟨RX7, "piece", "(II)V"⟩
def RJ6 : String := "java/lang/Integer"
def TJ6 : u_T := fun k => match k with
  | _ => ("", "", "", false)
def tyJ6 : Nat → FieldType := fun k => match k with
  | _ => .int
abbrev wsJ60 : List Cond := u_ws RJ6 TJ6 0
theorem nmJ6 : ∀ a, a < 0 → ∀ b, b < 0 → a ≠ b → (TJ6 a).2.1 ≠ (TJ6 b).2.1 := by decide +kernel
theorem tyJ6_ok : ∀ k, k < 0 → parseFieldDescriptor (TJ6 k).2.2.1 = some (tyJ6 k) := by decide +kernel
abbrev cJ6_rotateLeft_7cf53 : ByteArray := prog_11_method_50_code
def yJ6_rotateLeft_7cf53 : MethodName := ⟨RJ6, "rotateLeft", "(II)I"⟩
def RJ9 : String := "java/lang/Math"
def TJ9 : u_T := fun k => match k with
  | _ => ("", "", "", false)
def tyJ9 : Nat → FieldType := fun k => match k with
  | _ => .int
abbrev wsJ90 : List Cond := u_ws RJ9 TJ9 0
theorem nmJ9 : ∀ a, a < 0 → ∀ b, b < 0 → a ≠ b → (TJ9 a).2.1 ≠ (TJ9 b).2.1 := by decide +kernel
theorem tyJ9_ok : ∀ k, k < 0 → parseFieldDescriptor (TJ9 k).2.2.1 = some (tyJ9 k) := by decide +kernel
abbrev cJ9_max_7cf53 : ByteArray := prog_12_method_65_code
def yJ9_max_7cf53 : MethodName := ⟨RJ9, "max", "(II)I"⟩
abbrev cJ9_min_7cf53 : ByteArray := prog_12_method_69_code
def yJ9_min_7cf53 : MethodName := ⟨RJ9, "min", "(II)I"⟩
def RJ0 : String := "java/lang/String"
def TJ0 : u_T := fun k => match k with
  | _ => ("", "", "", false)
def tyJ0 : Nat → FieldType := fun k => match k with
  | _ => .int
abbrev wsJ00 : List Cond := u_ws RJ0 TJ0 0
theorem nmJ0 : ∀ a, a < 0 → ∀ b, b < 0 → a ≠ b → (TJ0 a).2.1 ≠ (TJ0 b).2.1 := by decide +kernel
theorem tyJ0_ok : ∀ k, k < 0 → parseFieldDescriptor (TJ0 k).2.2.1 = some (tyJ0 k) := by decide +kernel
def RJ10 : String := "java/lang/System"
def TJ10 : u_T := fun k => match k with
  | _ => ("", "", "", false)
def tyJ10 : Nat → FieldType := fun k => match k with
  | _ => .int
abbrev wsJ100 : List Cond := u_ws RJ10 TJ10 0
theorem nmJ10 : ∀ a, a < 0 → ∀ b, b < 0 → a ≠ b → (TJ10 a).2.1 ≠ (TJ10 b).2.1 := by decide +kernel
theorem tyJ10_ok : ∀ k, k < 0 → parseFieldDescriptor (TJ10 k).2.2.1 = some (tyJ10 k) := by decide +kernel
end
section
def RL : String := "SnapHouseLaw"
abbrev cL_out : ByteArray := method_3_code
def yL_out : MethodName := ⟨RL, "out", "(LSnapHouse;I[J)I"⟩
abbrev cL_law : ByteArray := code
def yL_law : MethodName := ⟨RL, "law", "([I)Z"⟩
def wsL_law0_r1 : List Cond := [Cond.classLink RL 8 RX6, Cond.instantiable RX6 12, Cond.initialized RX6, Cond.classLink RL 16 RX7, Cond.instantiable RX7 33, Cond.initialized RX7, Cond.arrayClass .long, Cond.methodLink RL 15 yX6_init, Cond.instanceMethod yX6_init, Cond.code yX6_init cX6_init 1 none, Cond.methodLink RX6 1 objectInit, Cond.instanceMethod objectInit, Cond.code objectInit ⟨#[0xb1]⟩ 1 none, Cond.classLink RX6 7 RX1, Cond.instantiable RX1 2, Cond.initialized RX1, Cond.fieldLink RX6 14 "SnapHouse" "theTape" "LSnapHouse$Bytes;", Cond.fieldLink RX6 18 "SnapHouse" "theOut" "LSnapHouse$Bytes;", Cond.classLink RX6 21 RX2, Cond.instantiable RX2 3, Cond.initialized RX2, Cond.fieldLink RX6 24 "SnapHouse" "presser" "LSnapHouse$Presser;", Cond.classLink RX6 28 RX4, Cond.instantiable RX4 1]
def wsL_law0_r2 : List Cond := [Cond.initialized RX4, Cond.fieldLink RX6 31 "SnapHouse" "streamMaker" "LSnapHouse$StreamMaker;", Cond.classLink RX6 35 RX0, Cond.instantiable RX0 12, Cond.initialized RX0, Cond.fieldLink RX6 38 "SnapHouse" "blockOpener" "LSnapHouse$BlockOpener;", Cond.classLink RX6 42 RX5, Cond.instantiable RX5 8, Cond.initialized RX5, Cond.fieldLink RX6 45 "SnapHouse" "streamOpener" "LSnapHouse$StreamOpener;", Cond.classLink RX6 49 RX3, Cond.instantiable RX3 3, Cond.initialized RX3, Cond.fieldLink RX6 52 "SnapHouse" "keptElements" "LSnapHouse$Rows;", Cond.fieldLink RX6 56 "SnapHouse" "keptChunks" "LSnapHouse$Rows;", Cond.fieldLink RX6 59 "SnapHouse" "faultNumber" "I", Cond.fieldLink RX6 63 "SnapHouse" "faultPlace" "I", Cond.fieldLink RX6 66 "SnapHouse" "faultOfBlock" "I", Cond.fieldLink RX6 69 "SnapHouse" "faultPlaceInBlock" "I", Cond.methodLink RX6 11 yX1_init, Cond.instanceMethod yX1_init, Cond.code yX1_init cX1_init 2 none, Cond.methodLink RX1 3 objectInit, Cond.fieldLink RX1 9 "SnapHouse$Bytes" "count" "I"]
def wsL_law0_r3 : List Cond := [Cond.methodLink RX1 15 Lib.Math.max.name, Cond.static Lib.Math.max.name, Cond.initialized "java/lang/Math", Cond.code Lib.Math.max.name Lib.Math.max.code 2 (some .int), Cond.arrayClass .int, Cond.fieldLink RX1 21 "SnapHouse$Bytes" "row" "[I", Cond.instanceMethod yX2_init, Cond.code yX2_init cX2_init 1 none, Cond.methodLink RX2 3 objectInit, Cond.classLink RX2 9 RX1, Cond.fieldLink RX2 14 "SnapHouse$Presser" "block" "LSnapHouse$Bytes;", Cond.constant RX2 20 (32768), Cond.fieldLink RX2 21 "SnapHouse$Presser" "slots" "[I", Cond.fieldLink RX2 25 "SnapHouse$Presser" "slotMask" "I", Cond.methodLink RX2 11 yX1_init, Cond.instanceMethod yX4_init, Cond.code yX4_init cX4_init 1 none, Cond.methodLink RX4 3 objectInit, Cond.classLink RX4 9 RX1, Cond.fieldLink RX4 14 "SnapHouse$StreamMaker" "made" "LSnapHouse$Bytes;", Cond.methodLink RX4 11 yX1_init, Cond.instanceMethod yX0_init, Cond.code yX0_init cX0_init 1 none, Cond.methodLink RX0 3 objectInit]
def wsL_law0_r4 : List Cond := [Cond.classLink RX0 9 RX1, Cond.fieldLink RX0 14 "SnapHouse$BlockOpener" "given" "LSnapHouse$Bytes;", Cond.classLink RX0 20 RX3, Cond.fieldLink RX0 23 "SnapHouse$BlockOpener" "elements" "LSnapHouse$Rows;", Cond.fieldLink RX0 27 "SnapHouse$BlockOpener" "fault" "I", Cond.fieldLink RX0 31 "SnapHouse$BlockOpener" "place" "I", Cond.fieldLink RX0 34 "SnapHouse$BlockOpener" "start" "I", Cond.fieldLink RX0 37 "SnapHouse$BlockOpener" "end" "I", Cond.fieldLink RX0 40 "SnapHouse$BlockOpener" "next" "I", Cond.fieldLink RX0 43 "SnapHouse$BlockOpener" "length" "I", Cond.fieldLink RX0 46 "SnapHouse$BlockOpener" "sort" "I", Cond.fieldLink RX0 49 "SnapHouse$BlockOpener" "body" "I", Cond.fieldLink RX0 52 "SnapHouse$BlockOpener" "size" "J", Cond.fieldLink RX0 56 "SnapHouse$BlockOpener" "back" "J", Cond.methodLink RX0 11 yX1_init, Cond.instanceMethod yX3_init, Cond.code yX3_init cX3_init 1 none, Cond.methodLink RX3 3 objectInit, Cond.fieldLink RX3 11 "SnapHouse$Rows" "cells" "[I", Cond.fieldLink RX3 15 "SnapHouse$Rows" "count" "I", Cond.fieldLink RX3 19 "SnapHouse$Rows" "marked" "I", Cond.instanceMethod yX5_init, Cond.code yX5_init cX5_init 1 none, Cond.methodLink RX5 3 objectInit]
def wsL_law0_r5 : List Cond := [Cond.classLink RX5 9 RX1, Cond.fieldLink RX5 14 "SnapHouse$StreamOpener" "given" "LSnapHouse$Bytes;", Cond.classLink RX5 20 RX3, Cond.fieldLink RX5 23 "SnapHouse$StreamOpener" "chunks" "LSnapHouse$Rows;", Cond.fieldLink RX5 27 "SnapHouse$StreamOpener" "fault" "I", Cond.fieldLink RX5 31 "SnapHouse$StreamOpener" "place" "I", Cond.fieldLink RX5 34 "SnapHouse$StreamOpener" "next" "I", Cond.fieldLink RX5 37 "SnapHouse$StreamOpener" "type" "I", Cond.fieldLink RX5 40 "SnapHouse$StreamOpener" "body" "I", Cond.fieldLink RX5 43 "SnapHouse$StreamOpener" "size" "I", Cond.methodLink RX5 11 yX1_init, Cond.methodLink RL 18 yX7_init, Cond.instanceMethod yX7_init, Cond.code yX7_init cX7_init 4 none, Cond.methodLink RX7 1 objectInit, Cond.arrayClass .byte, Cond.fieldLink RX7 7 "SnapHouseModel" "tape" "[B", Cond.fieldLink RX7 13 "SnapHouseModel" "out" "[B", Cond.fieldLink RX7 16 "SnapHouseModel" "made" "[B", Cond.fieldLink RX7 19 "SnapHouseModel" "packed" "[B", Cond.fieldLink RX7 22 "SnapHouseModel" "latest" "[I", Cond.fieldLink RX7 26 "SnapHouseModel" "ahead" "[I", Cond.fieldLink RX7 29 "SnapHouseModel" "notes" "[I", Cond.fieldLink RX7 32 "SnapHouseModel" "elements" "[I"]
def wsL_law0_r6 : List Cond := [Cond.fieldLink RX7 35 "SnapHouseModel" "chunks" "[I", Cond.fieldLink RX7 38 "SnapHouseModel" "faultNumber" "I", Cond.fieldLink RX7 42 "SnapHouseModel" "faultPlace" "I", Cond.fieldLink RX7 45 "SnapHouseModel" "faultInnerPlace" "I", Cond.fieldLink RX7 48 "SnapHouseModel" "sums" "[I", Cond.fieldLink RX7 51 "SnapHouseModel" "found" "[I", Cond.fieldLink RX7 54 "SnapHouseModel" "before" "[B", Cond.constant RX7 57 (-2097792136), Cond.methodLink RL 19 yX6_feed, Cond.instanceMethod yX6_feed, Cond.selects RX6 yX6_feed yX6_feed, Cond.code yX6_feed cX6_feed 6 (some .int), Cond.methodLink RX6 72 yX1_hasRoomFor, Cond.instanceMethod yX1_hasRoomFor, Cond.selects RX1 yX1_hasRoomFor yX1_hasRoomFor, Cond.code yX1_hasRoomFor cX1_hasRoomFor 2 (some .boolean), Cond.methodLink RX6 76 yX1_putHighestFirst, Cond.instanceMethod yX1_putHighestFirst, Cond.selects RX1 yX1_putHighestFirst yX1_putHighestFirst, Cond.code yX1_putHighestFirst cX1_putHighestFirst 2 none, Cond.methodLink RX1 33 yX1_put, Cond.instanceMethod yX1_put, Cond.selects RX1 yX1_put yX1_put, Cond.code yX1_put cX1_put 2 none]
def wsL_law0_r7 : List Cond := [Cond.methodLink RL 23 yX7_feed, Cond.instanceMethod yX7_feed, Cond.selects RX7 yX7_feed yX7_feed, Cond.code yX7_feed cX7_feed 6 (some .int), Cond.fieldLink RX7 58 "SnapHouseModel" "thrown" "I", Cond.fieldLink RX7 61 "SnapHouseModel" "taped" "I", Cond.methodLink RX7 64 yX7_word, Cond.instanceMethod yX7_word, Cond.selects RX7 yX7_word yX7_word, Cond.code yX7_word cX7_word 3 none, Cond.methodLink RL 24 yX6_fill, Cond.instanceMethod yX6_fill, Cond.selects RX6 yX6_fill yX6_fill, Cond.code yX6_fill cX6_fill 4 (some .int), Cond.methodLink RX6 82 yX6_isByte, Cond.static yX6_isByte, Cond.code yX6_isByte cX6_isByte 1 (some .boolean), Cond.methodLink RX6 85 yX1_put, Cond.methodLink RL 28 yX7_fill, Cond.instanceMethod yX7_fill, Cond.selects RX7 yX7_fill yX7_fill, Cond.code yX7_fill cX7_fill 4 (some .int), Cond.methodLink RL 29 yX6_again, Cond.instanceMethod yX6_again]
def wsL_law0_r8 : List Cond := [Cond.selects RX6 yX6_again yX6_again, Cond.code yX6_again cX6_again 3 (some .int), Cond.methodLink RX6 88 yX1_hasPlace, Cond.instanceMethod yX1_hasPlace, Cond.selects RX1 yX1_hasPlace yX1_hasPlace, Cond.code yX1_hasPlace cX1_hasPlace 2 (some .boolean), Cond.methodLink RX6 91 yX1_putOwn, Cond.instanceMethod yX1_putOwn, Cond.selects RX1 yX1_putOwn yX1_putOwn, Cond.code yX1_putOwn cX1_putOwn 4 none, Cond.methodLink RX1 25 yX1_hasPlace, Cond.methodLink RX1 37 yX1_hasRoomFor, Cond.methodLink RL 32 yX7_again, Cond.instanceMethod yX7_again, Cond.selects RX7 yX7_again yX7_again, Cond.code yX7_again cX7_again 4 (some .int), Cond.methodLink RL 33 yX6_cut, Cond.instanceMethod yX6_cut, Cond.selects RX6 yX6_cut yX6_cut, Cond.code yX6_cut cX6_cut 2 (some .int), Cond.methodLink RX6 95 yX1_has, Cond.instanceMethod yX1_has, Cond.selects RX1 yX1_has yX1_has, Cond.code yX1_has cX1_has 3 (some .boolean)]
def wsL_law0_r9 : List Cond := [Cond.methodLink RX6 99 yX1_shorten, Cond.instanceMethod yX1_shorten, Cond.selects RX1 yX1_shorten yX1_shorten, Cond.code yX1_shorten cX1_shorten 2 none, Cond.methodLink RX1 29 yX1_has, Cond.methodLink RL 36 yX7_cut, Cond.instanceMethod yX7_cut, Cond.selects RX7 yX7_cut yX7_cut, Cond.code yX7_cut cX7_cut 2 (some .int), Cond.methodLink RL 37 yX6_set, Cond.instanceMethod yX6_set, Cond.selects RX6 yX6_set yX6_set, Cond.code yX6_set cX6_set 4 (some .int), Cond.methodLink RX6 102 yX1_at, Cond.instanceMethod yX1_at, Cond.selects RX1 yX1_at yX1_at, Cond.code yX1_at cX1_at 2 (some .int), Cond.methodLink RX6 106 yX1_change, Cond.instanceMethod yX1_change, Cond.selects RX1 yX1_change yX1_change, Cond.code yX1_change cX1_change 3 none, Cond.methodLink RL 40 yX7_set, Cond.instanceMethod yX7_set, Cond.selects RX7 yX7_set yX7_set]
def wsL_law0_r10 : List Cond := [Cond.code yX7_set cX7_set 4 (some .int), Cond.methodLink RL 41 yX6_take, Cond.instanceMethod yX6_take, Cond.selects RX6 yX6_take yX6_take, Cond.code yX6_take cX6_take 1 (some .int), Cond.methodLink RX6 109 yX1_become, Cond.instanceMethod yX1_become, Cond.selects RX1 yX1_become yX1_become, Cond.code yX1_become cX1_become 2 none, Cond.methodLink RX1 46 yX1_putAll, Cond.instanceMethod yX1_putAll, Cond.selects RX1 yX1_putAll yX1_putAll, Cond.code yX1_putAll cX1_putAll 4 none, Cond.methodLink RX1 40 arraycopyName, Cond.native arraycopyName, Cond.static arraycopyName, Cond.initialized "java/lang/System", Cond.methodLink RL 45 yX7_take, Cond.instanceMethod yX7_take, Cond.selects RX7 yX7_take yX7_take, Cond.code yX7_take cX7_take 2 (some .int), Cond.fieldLink RX7 68 "SnapHouseModel" "outs" "I", Cond.methodLink RL 46 yX6_tape, Cond.instanceMethod yX6_tape]
def wsL_law0_r11 : List Cond := [Cond.selects RX6 yX6_tape yX6_tape, Cond.code yX6_tape cX6_tape 2 (some .int), Cond.methodLink RL 49 yX7_tape, Cond.instanceMethod yX7_tape, Cond.selects RX7 yX7_tape yX7_tape, Cond.code yX7_tape cX7_tape 2 (some .int), Cond.methodLink RL 50 yX6_press, Cond.instanceMethod yX6_press, Cond.selects RX6 yX6_press yX6_press, Cond.code yX6_press cX6_press 1 (some .int), Cond.methodLink RX6 113 yX2_pressBlock, Cond.instanceMethod yX2_pressBlock, Cond.selects RX2 yX2_pressBlock yX2_pressBlock, Cond.code yX2_pressBlock cX2_pressBlock 9 none, Cond.methodLink RX2 29 yX1_shorten, Cond.methodLink RX2 32 yX2_putLength, Cond.instanceMethod yX2_putLength, Cond.selects RX2 yX2_putLength yX2_putLength, Cond.code yX2_putLength cX2_putLength 4 none, Cond.methodLink RX2 54 yX1_put, Cond.methodLink RX2 35 yX2_freeSlots, Cond.instanceMethod yX2_freeSlots, Cond.selects RX2 yX2_freeSlots yX2_freeSlots, Cond.code yX2_freeSlots cX2_freeSlots 4 none]
def wsL_law0_r12 : List Cond := [Cond.methodLink RX2 38 yX2_noteAndFind, Cond.instanceMethod yX2_noteAndFind, Cond.selects RX2 yX2_noteAndFind yX2_noteAndFind, Cond.code yX2_noteAndFind cX2_noteAndFind 7 (some .int), Cond.constant RX2 61 (-1640531535), Cond.methodLink RX2 57 yX1_fourFrom, Cond.instanceMethod yX1_fourFrom, Cond.selects RX1 yX1_fourFrom yX1_fourFrom, Cond.code yX1_fourFrom cX1_fourFrom 2 (some .int), Cond.methodLink RX2 42 yX2_countAlike, Cond.static yX2_countAlike, Cond.code yX2_countAlike cX2_countAlike 5 (some .int), Cond.methodLink RX2 62 yX1_at, Cond.methodLink RX2 46 yX2_putLiteral, Cond.instanceMethod yX2_putLiteral, Cond.selects RX2 yX2_putLiteral yX2_putLiteral, Cond.code yX2_putLiteral cX2_putLiteral 6 none, Cond.methodLink RX2 65 yX1_putLowestFirst, Cond.instanceMethod yX1_putLowestFirst, Cond.selects RX1 yX1_putLowestFirst yX1_putLowestFirst, Cond.code yX1_putLowestFirst cX1_putLowestFirst 4 none, Cond.methodLink RX2 68 yX1_putAll, Cond.methodLink RX2 50 yX2_putCopies, Cond.instanceMethod yX2_putCopies]
def wsL_law0_r13 : List Cond := [Cond.selects RX2 yX2_putCopies yX2_putCopies, Cond.code yX2_putCopies cX2_putCopies 4 none, Cond.methodLink RX2 71 yX2_putCopy, Cond.instanceMethod yX2_putCopy, Cond.selects RX2 yX2_putCopy yX2_putCopy, Cond.code yX2_putCopy cX2_putCopy 3 none, Cond.methodLink RL 53 yX7_press, Cond.instanceMethod yX7_press, Cond.selects RX7 yX7_press yX7_press, Cond.code yX7_press cX7_press 1 (some .int), Cond.fieldLink RX7 76 "SnapHouseModel" "packs" "I", Cond.methodLink RX7 100 yX7_pressPart, Cond.instanceMethod yX7_pressPart, Cond.selects RX7 yX7_pressPart yX7_pressPart, Cond.code yX7_pressPart cX7_pressPart 11 none, Cond.methodLink RX7 79 yX7_pack, Cond.instanceMethod yX7_pack, Cond.selects RX7 yX7_pack yX7_pack, Cond.code yX7_pack cX7_pack 2 none, Cond.methodLink RX7 82 yX7_keyOf, Cond.instanceMethod yX7_keyOf, Cond.selects RX7 yX7_keyOf yX7_keyOf, Cond.code yX7_keyOf cX7_keyOf 3 (some .int), Cond.constant RX7 75 (506832829)]
def wsL_law0_r14 : List Cond := [Cond.methodLink RX7 71 yX7_at, Cond.instanceMethod yX7_at, Cond.selects RX7 yX7_at yX7_at, Cond.code yX7_at cX7_at 2 (some .int), Cond.methodLink RX7 85 yX7_areFour, Cond.instanceMethod yX7_areFour, Cond.selects RX7 yX7_areFour yX7_areFour, Cond.code yX7_areFour cX7_areFour 3 (some .boolean), Cond.methodLink RX7 89 yX7_literal, Cond.instanceMethod yX7_literal, Cond.selects RX7 yX7_literal yX7_literal, Cond.code yX7_literal cX7_literal 7 none, Cond.constant RX7 96 (65536), Cond.methodLink RX7 93 yX7_copies, Cond.instanceMethod yX7_copies, Cond.selects RX7 yX7_copies yX7_copies, Cond.code yX7_copies cX7_copies 4 none, Cond.methodLink RX7 97 yX7_copyTwo, Cond.instanceMethod yX7_copyTwo, Cond.selects RX7 yX7_copyTwo yX7_copyTwo, Cond.code yX7_copyTwo cX7_copyTwo 3 none, Cond.methodLink RX7 103 yX7_give, Cond.instanceMethod yX7_give, Cond.selects RX7 yX7_give yX7_give]
def wsL_law0_r15 : List Cond := [Cond.code yX7_give cX7_give 4 none, Cond.methodLink RL 54 yX6_open, Cond.instanceMethod yX6_open, Cond.selects RX6 yX6_open yX6_open, Cond.code yX6_open cX6_open 1 (some .int), Cond.methodLink RX6 120 yX0_openBlock, Cond.instanceMethod yX0_openBlock, Cond.selects RX0 yX0_openBlock yX0_openBlock, Cond.code yX0_openBlock cX0_openBlock 5 none, Cond.methodLink RX0 59 yX1_shorten, Cond.methodLink RX0 62 yX3_clear, Cond.instanceMethod yX3_clear, Cond.selects RX3 yX3_clear yX3_clear, Cond.code yX3_clear cX3_clear 1 none, Cond.methodLink RX0 65 yX0_readLength, Cond.instanceMethod yX0_readLength, Cond.selects RX0 yX0_readLength yX0_readLength, Cond.code yX0_readLength cX0_readLength 7 none, Cond.constantLong RX0 89 (4294967296), Cond.constantLong RX0 91 (20000), Cond.methodLink RX0 85 yX1_at, Cond.methodLink RX0 81 yX0_fail, Cond.instanceMethod yX0_fail, Cond.selects RX0 yX0_fail yX0_fail]
def wsL_law0_r16 : List Cond := [Cond.code yX0_fail cX0_fail 3 none, Cond.methodLink RX0 69 yX0_readElement, Cond.instanceMethod yX0_readElement, Cond.selects RX0 yX0_readElement yX0_readElement, Cond.code yX0_readElement cX0_readElement 7 none, Cond.methodLink RX0 93 yX0_bytesBehindTag, Cond.static yX0_bytesBehindTag, Cond.code yX0_bytesBehindTag cX0_bytesBehindTag 2 (some .int), Cond.methodLink RX0 97 yX1_lowestFirst, Cond.instanceMethod yX1_lowestFirst, Cond.selects RX1 yX1_lowestFirst yX1_lowestFirst, Cond.code yX1_lowestFirst cX1_lowestFirst 6 (some .long), Cond.methodLink RX1 50 yX1_at, Cond.methodLink RX0 101 yX0_sizeOf, Cond.static yX0_sizeOf, Cond.code yX0_sizeOf cX0_sizeOf 4 (some .long), Cond.methodLink RX0 105 yX0_backOf, Cond.static yX0_backOf, Cond.code yX0_backOf cX0_backOf 4 (some .long), Cond.methodLink RX0 72 yX0_checkElement, Cond.instanceMethod yX0_checkElement, Cond.selects RX0 yX0_checkElement yX0_checkElement, Cond.code yX0_checkElement cX0_checkElement 1 none, Cond.methodLink RX0 75 yX0_giveElement]
def wsL_law0_r17 : List Cond := [Cond.instanceMethod yX0_giveElement, Cond.selects RX0 yX0_giveElement yX0_giveElement, Cond.code yX0_giveElement cX0_giveElement 4 none, Cond.methodLink RX0 108 yX3_add, Cond.instanceMethod yX3_add, Cond.selects RX3 yX3_add yX3_add, Cond.code yX3_add cX3_add 8 none, Cond.methodLink RX0 112 yX1_putAll, Cond.methodLink RX0 116 yX1_putOwn, Cond.methodLink RX6 129 yX6_keepFault, Cond.instanceMethod yX6_keepFault, Cond.selects RX6 yX6_keepFault yX6_keepFault, Cond.code yX6_keepFault cX6_keepFault 5 none, Cond.methodLink RX6 139 yX3_become, Cond.instanceMethod yX3_become, Cond.selects RX3 yX3_become yX3_become, Cond.code yX3_become cX3_become 2 none, Cond.methodLink RX3 22 Lib.Math.min.name, Cond.static Lib.Math.min.name, Cond.code Lib.Math.min.name Lib.Math.min.code 2 (some .int), Cond.methodLink RX3 28 arraycopyName, Cond.methodLink RL 57 yX7_open, Cond.instanceMethod yX7_open, Cond.selects RX7 yX7_open yX7_open]
def wsL_law0_r18 : List Cond := [Cond.code yX7_open cX7_open 2 (some .int), Cond.fieldLink RX7 119 "SnapHouseModel" "mades" "I", Cond.fieldLink RX7 107 "SnapHouseModel" "blockFault" "I", Cond.fieldLink RX7 110 "SnapHouseModel" "blockPlace" "I", Cond.fieldLink RX7 113 "SnapHouseModel" "opened" "I", Cond.fieldLink RX7 148 "SnapHouseModel" "elementMany" "I", Cond.fieldLink RX7 116 "SnapHouseModel" "literals" "I", Cond.fieldLink RX7 151 "SnapHouseModel" "literalMany" "I", Cond.methodLink RX7 141 yX7_openPart, Cond.instanceMethod yX7_openPart, Cond.selects RX7 yX7_openPart yX7_openPart, Cond.code yX7_openPart cX7_openPart 9 none, Cond.constantLong RX7 125 (20000), Cond.fieldLink RX7 127 "SnapHouseModel" "wanted" "I", Cond.methodLink RX7 122 yX7_bad, Cond.instanceMethod yX7_bad, Cond.selects RX7 yX7_bad yX7_bad, Cond.code yX7_bad cX7_bad 3 none, Cond.methodLink RX7 130 yX7_elementAt, Cond.instanceMethod yX7_elementAt, Cond.selects RX7 yX7_elementAt yX7_elementAt, Cond.code yX7_elementAt cX7_elementAt 17 (some .int), Cond.constantLong RX7 134 (4), Cond.constantLong RX7 136 (256)]
def wsL_law0_r19 : List Cond := [Cond.methodLink RX7 144 yX7_told, Cond.instanceMethod yX7_told, Cond.selects RX7 yX7_told yX7_told, Cond.code yX7_told cX7_told 5 none, Cond.fieldLink RX7 138 "SnapHouseModel" "faultInner" "I", Cond.methodLink RL 58 yX6_stream, Cond.instanceMethod yX6_stream, Cond.selects RX6 yX6_stream yX6_stream, Cond.code yX6_stream cX6_stream 2 (some .int), Cond.methodLink RX6 142 yX4_makeStream, Cond.instanceMethod yX4_makeStream, Cond.selects RX4 yX4_makeStream yX4_makeStream, Cond.code yX4_makeStream cX4_makeStream 8 (some .boolean), Cond.methodLink RX4 34 Lib.Math.max.name, Cond.methodLink RX4 44 Lib.Math.min.name, Cond.methodLink RX4 20 yX1_shorten, Cond.methodLink RX4 23 yX4_putHeader, Cond.instanceMethod yX4_putHeader, Cond.selects RX4 yX4_putHeader yX4_putHeader, Cond.code yX4_putHeader cX4_putHeader 3 none, Cond.methodLink RX4 31 yX1_put, Cond.methodLink RX4 67 yX1_putLowestFirst, Cond.methodLink RX4 47 yX2_pressBlock, Cond.methodLink RX4 56 yX4_putPiece]
def wsL_law0_r20 : List Cond := [Cond.instanceMethod yX4_putPiece, Cond.selects RX4 yX4_putPiece yX4_putPiece, Cond.code yX4_putPiece cX4_putPiece 7 (some .boolean), Cond.methodLink RX4 60 yX1_hasRoomFor, Cond.methodLink RX4 64 yX1_maskedCrc, Cond.instanceMethod yX1_maskedCrc, Cond.selects RX1 yX1_maskedCrc yX1_maskedCrc, Cond.code yX1_maskedCrc cX1_maskedCrc 3 (some .int), Cond.constant RX1 65 (-1568478504), Cond.methodLink RX1 57 yX1_crc, Cond.instanceMethod yX1_crc, Cond.selects RX1 yX1_crc yX1_crc, Cond.code yX1_crc cX1_crc 5 (some .int), Cond.fieldLink RX1 54 "SnapHouse$Bytes" "CRC_STEPS" "[I", Cond.methodLink RX1 60 yJ6_rotateLeft_7cf53, Cond.static yJ6_rotateLeft_7cf53, Cond.initialized RJ6, Cond.code yJ6_rotateLeft_7cf53 cJ6_rotateLeft_7cf53 2 (some .int), Cond.methodLink RX4 70 yX1_putAll, Cond.methodLink RL 61 yX7_stream, Cond.instanceMethod yX7_stream, Cond.selects RX7 yX7_stream yX7_stream, Cond.code yX7_stream cX7_stream 3 (some .int), Cond.fieldLink RX7 190 "SnapHouseModel" "isFull" "Z"]
def wsL_law0_r21 : List Cond := [Cond.methodLink RX7 194 yX7_add, Cond.instanceMethod yX7_add, Cond.selects RX7 yX7_add yX7_add, Cond.code yX7_add cX7_add 2 none, Cond.methodLink RX7 168 yX7_name, Cond.instanceMethod yX7_name, Cond.selects RX7 yX7_name yX7_name, Cond.code yX7_name cX7_name 2 (some .int), Cond.methodLink RX7 197 yX7_piece, Cond.instanceMethod yX7_piece, Cond.selects RX7 yX7_piece yX7_piece, Cond.code yX7_piece cX7_piece 8 none, Cond.methodLink RX7 161 yX7_sumOf, Cond.instanceMethod yX7_sumOf, Cond.selects RX7 yX7_sumOf yX7_sumOf, Cond.code yX7_sumOf cX7_sumOf 6 (some .int), Cond.methodLink RX7 165 yX7_masked, Cond.instanceMethod yX7_masked, Cond.selects RX7 yX7_masked yX7_masked, Cond.code yX7_masked cX7_masked 2 (some .int), Cond.constant RX7 160 (-1568478504), Cond.methodLink RL 62 yX6_unstream, Cond.instanceMethod yX6_unstream, Cond.selects RX6 yX6_unstream yX6_unstream]
def wsL_law0_r22 : List Cond := [Cond.code yX6_unstream cX6_unstream 1 (some .int), Cond.methodLink RX6 149 yX5_openStream, Cond.instanceMethod yX5_openStream, Cond.selects RX5 yX5_openStream yX5_openStream, Cond.code yX5_openStream cX5_openStream 5 none, Cond.methodLink RX5 46 yX1_shorten, Cond.methodLink RX5 49 yX3_clear, Cond.methodLink RX5 52 yX1_at, Cond.methodLink RX5 56 yX5_fail, Cond.instanceMethod yX5_fail, Cond.selects RX5 yX5_fail yX5_fail, Cond.code yX5_fail cX5_fail 2 none, Cond.methodLink RX5 62 yX5_readHeader, Cond.instanceMethod yX5_readHeader, Cond.selects RX5 yX5_readHeader yX5_readHeader, Cond.code yX5_readHeader cX5_readHeader 2 none, Cond.methodLink RX5 80 yX1_lowestFirst, Cond.methodLink RX5 66 yX5_checkChunk, Cond.instanceMethod yX5_checkChunk, Cond.selects RX5 yX5_checkChunk yX5_checkChunk, Cond.code yX5_checkChunk cX5_checkChunk 2 none, Cond.methodLink RX5 84 yX5_isName, Cond.instanceMethod yX5_isName, Cond.selects RX5 yX5_isName yX5_isName]
def wsL_law0_r23 : List Cond := [Cond.code yX5_isName cX5_isName 8 (some .boolean), Cond.methodLink RX5 69 yX5_tellsBytes, Cond.instanceMethod yX5_tellsBytes, Cond.selects RX5 yX5_tellsBytes yX5_tellsBytes, Cond.code yX5_tellsBytes cX5_tellsBytes 1 (some .boolean), Cond.methodLink RX5 73 yX5_openBytes, Cond.instanceMethod yX5_openBytes, Cond.selects RX5 yX5_openBytes yX5_openBytes, Cond.code yX5_openBytes cX5_openBytes 5 none, Cond.methodLink RX5 92 yX5_give, Cond.instanceMethod yX5_give, Cond.selects RX5 yX5_give yX5_give, Cond.code yX5_give cX5_give 5 none, Cond.methodLink RX5 104 yX1_hasRoomFor, Cond.methodLink RX5 108 yX1_maskedCrc, Cond.methodLink RX5 112 yX1_putAll, Cond.methodLink RX5 96 yX0_openBlock, Cond.methodLink RX5 77 yX5_keepChunk, Cond.instanceMethod yX5_keepChunk, Cond.selects RX5 yX5_keepChunk yX5_keepChunk, Cond.code yX5_keepChunk cX5_keepChunk 3 none, Cond.methodLink RX5 115 yX3_add, Cond.methodLink RL 65 yX7_unstream, Cond.instanceMethod yX7_unstream]
def wsL_law0_r24 : List Cond := [Cond.selects RX7 yX7_unstream yX7_unstream, Cond.code yX7_unstream cX7_unstream 3 (some .int), Cond.fieldLink RX7 171 "SnapHouseModel" "foundMany" "I", Cond.fieldLink RX7 174 "SnapHouseModel" "skips" "I", Cond.fieldLink RX7 154 "SnapHouseModel" "chunkMany" "I", Cond.fieldLink RX7 157 "SnapHouseModel" "skippedMany" "I", Cond.methodLink RX7 177 yX7_chunkAt, Cond.instanceMethod yX7_chunkAt, Cond.selects RX7 yX7_chunkAt yX7_chunkAt, Cond.code yX7_chunkAt cX7_chunkAt 7 (some .int), Cond.methodLink RX7 180 yX7_isName, Cond.instanceMethod yX7_isName, Cond.selects RX7 yX7_isName yX7_isName, Cond.code yX7_isName cX7_isName 3 (some .boolean), Cond.methodLink RX7 184 yX7_bytesOf, Cond.instanceMethod yX7_bytesOf, Cond.selects RX7 yX7_bytesOf yX7_bytesOf, Cond.code yX7_bytesOf cX7_bytesOf 8 none, Cond.methodLink RX7 187 yX7_fourAt, Cond.instanceMethod yX7_fourAt, Cond.selects RX7 yX7_fourAt yX7_fourAt, Cond.code yX7_fourAt cX7_fourAt 2 (some .int), Cond.methodLink RL 66 yX6_fault, Cond.instanceMethod yX6_fault]
def wsL_law0_r25 : List Cond := [Cond.selects RX6 yX6_fault yX6_fault, Cond.code yX6_fault cX6_fault 2 (some .int), Cond.methodLink RL 69 yX7_fault, Cond.instanceMethod yX7_fault, Cond.selects RX7 yX7_fault yX7_fault, Cond.code yX7_fault cX7_fault 2 (some .int), Cond.methodLink RL 70 yX6_element, Cond.instanceMethod yX6_element, Cond.selects RX6 yX6_element yX6_element, Cond.code yX6_element cX6_element 3 (some .int), Cond.methodLink RX6 159 yX3_cell, Cond.instanceMethod yX3_cell, Cond.selects RX3 yX3_cell yX3_cell, Cond.code yX3_cell cX3_cell 3 (some .int), Cond.methodLink RL 73 yX7_element, Cond.instanceMethod yX7_element, Cond.selects RX7 yX7_element yX7_element, Cond.code yX7_element cX7_element 3 (some .int), Cond.methodLink RL 74 yX6_chunk, Cond.instanceMethod yX6_chunk, Cond.selects RX6 yX6_chunk yX6_chunk, Cond.code yX6_chunk cX6_chunk 3 (some .int), Cond.methodLink RL 77 yX7_chunk, Cond.instanceMethod yX7_chunk]
def wsL_law0_r26 : List Cond := [Cond.selects RX7 yX7_chunk yX7_chunk, Cond.code yX7_chunk cX7_chunk 3 (some .int), Cond.methodLink RL 78 yX6_sum, Cond.instanceMethod yX6_sum, Cond.selects RX6 yX6_sum yX6_sum, Cond.code yX6_sum cX6_sum 4 (some .int), Cond.methodLink RX6 163 yX1_maskedCrc, Cond.methodLink RX6 166 yX1_crc, Cond.methodLink RL 82 yX7_sum, Cond.instanceMethod yX7_sum, Cond.selects RX7 yX7_sum yX7_sum, Cond.code yX7_sum cX7_sum 5 (some .int), Cond.methodLink RL 83 yL_out, Cond.static yL_out, Cond.initialized RL, Cond.codeWith yL_out cL_out 4 (some .int) [(0, 9, 12, 13)], Cond.classLink RL 13 "java/util/NoSuchElementException", Cond.methodLink RL 7 yX6_out, Cond.instanceMethod yX6_out, Cond.selects RX6 yX6_out yX6_out, Cond.code yX6_out cX6_out 2 (some .int), Cond.classLink RX6 169 "java/util/NoSuchElementException", Cond.initialized "java/util/NoSuchElementException", Cond.methodLink RL 88 yX7_out]
def wsL_law0_r27 : List Cond := [Cond.instanceMethod yX7_out, Cond.selects RX7 yX7_out yX7_out, Cond.code yX7_out cX7_out 2 (some .int), Cond.methodLink RL 89 yX7_thrown, Cond.instanceMethod yX7_thrown, Cond.selects RX7 yX7_thrown yX7_thrown, Cond.code yX7_thrown cX7_thrown 1 (some .int), Cond.methodLink RL 92 yX6_about, Cond.instanceMethod yX6_about, Cond.selects RX6 yX6_about yX6_about, Cond.code yX6_about cX6_about 2 (some .int), Cond.methodLink RL 95 yX7_about, Cond.instanceMethod yX7_about, Cond.selects RX7 yX7_about yX7_about, Cond.code yX7_about cX7_about 2 (some .int)]
def wsL_law0 : List Cond := (wsL_law0_r1 ++ (wsL_law0_r2 ++ (wsL_law0_r3 ++ (wsL_law0_r4 ++ (wsL_law0_r5 ++ (wsL_law0_r6 ++ (wsL_law0_r7 ++ (wsL_law0_r8 ++ (wsL_law0_r9 ++ (wsL_law0_r10 ++ (wsL_law0_r11 ++ (wsL_law0_r12 ++ (wsL_law0_r13 ++ (wsL_law0_r14 ++ (wsL_law0_r15 ++ (wsL_law0_r16 ++ (wsL_law0_r17 ++ (wsL_law0_r18 ++ (wsL_law0_r19 ++ (wsL_law0_r20 ++ (wsL_law0_r21 ++ (wsL_law0_r22 ++ (wsL_law0_r23 ++ (wsL_law0_r24 ++ (wsL_law0_r25 ++ (wsL_law0_r26 ++ wsL_law0_r27)))))))))))))))))))))))))) ++ wsX60 ++ wsX70 ++ wsX10 ++ wsX20 ++ wsX40 ++ wsX00 ++ wsX50 ++ wsX30 ++ ([] : List Cond)
abbrev vwCl : List vw_C := [(RX0, TX0, 12), (RX1, TX1, 2), (RX2, TX2, 3), (RX3, TX3, 3), (RX4, TX4, 1), (RX5, TX5, 8), (RX6, TX6, 12), (RX7, TX7, 33)]
end
section
/-! THE BASE. One context g for all contracts: the classes' numbers, the classes of int, byte and long arrays, the two static tables' cells. A method's start (bx), its world (ww), its contract by a pure function (mcI, mcV, mcL, mcN): from the world wc it comes back with the answer r0 and the world wo. -/
abbrev GX : Type := va_G × (ClassId × ClassId × ClassId) × (Nat × Nat)
def tyx (g : GX) : List (ClassId × FieldType) := [(g.2.1.1, .int), (g.2.1.2.1, .byte), (g.2.1.2.2, .long)]
def nw_F : List (String × Nat × String × String × String × String) := [("SnapHouse", 79, "SnapHouse$Bytes", "count", "I", "SnapHouse"), ("SnapHouse", 117, "SnapHouse$Presser", "block", "LSnapHouse$Bytes;", "SnapHouse"), ("SnapHouse", 123, "SnapHouse$BlockOpener", "fault", "I", "SnapHouse"), ("SnapHouse", 126, "SnapHouse$BlockOpener", "place", "I", "SnapHouse"), ("SnapHouse", 133, "SnapHouse$BlockOpener", "given", "LSnapHouse$Bytes;", "SnapHouse"), ("SnapHouse", 136, "SnapHouse$BlockOpener", "elements", "LSnapHouse$Rows;", "SnapHouse"), ("SnapHouse", 146, "SnapHouse$StreamMaker", "made", "LSnapHouse$Bytes;", "SnapHouse"), ("SnapHouse", 153, "SnapHouse$StreamOpener", "fault", "I", "SnapHouse"), ("SnapHouse", 154, "SnapHouse$StreamOpener", "place", "I", "SnapHouse"), ("SnapHouse", 155, "SnapHouse$StreamOpener", "given", "LSnapHouse$Bytes;", "SnapHouse"), ("SnapHouse", 156, "SnapHouse$StreamOpener", "chunks", "LSnapHouse$Rows;", "SnapHouse"), ("SnapHouse", 176, "SnapHouse$Rows", "count", "I", "SnapHouse"), ("SnapHouse", 177, "SnapHouse$Rows", "marked", "I", "SnapHouse"), ("SnapHouse$BlockOpener", 78, "SnapHouse$Bytes", "count", "I", "SnapHouse"), ("SnapHouse$StreamMaker", 27, "SnapHouse", "NAME", "[I", "SnapHouse"), ("SnapHouse$StreamMaker", 40, "SnapHouse$Bytes", "count", "I", "SnapHouse"), ("SnapHouse$StreamMaker", 53, "SnapHouse$Presser", "block", "LSnapHouse$Bytes;", "SnapHouse"), ("SnapHouse$StreamOpener", 59, "SnapHouse$Bytes", "count", "I", "SnapHouse"), ("SnapHouse$StreamOpener", 88, "SnapHouse", "NAME", "[I", "SnapHouse"), ("SnapHouse$StreamOpener", 102, "SnapHouse$BlockOpener", "fault", "I", "SnapHouse"), ("SnapHouse$StreamOpener", 103, "SnapHouse$BlockOpener", "given", "LSnapHouse$Bytes;", "SnapHouse")]
def nw_M : List (String × Nat × MethodName × String) := [("SnapHouse", 23, ⟨"SnapHouse$Presser", "<init>", "()V"⟩, "SnapHouse"), ("SnapHouse", 30, ⟨"SnapHouse$StreamMaker", "<init>", "()V"⟩, "SnapHouse"), ("SnapHouse", 37, ⟨"SnapHouse$BlockOpener", "<init>", "()V"⟩, "SnapHouse"), ("SnapHouse", 44, ⟨"SnapHouse$StreamOpener", "<init>", "()V"⟩, "SnapHouse"), ("SnapHouse", 51, ⟨"SnapHouse$Rows", "<init>", "()V"⟩, "SnapHouse"), ("SnapHouse$BlockOpener", 22, ⟨"SnapHouse$Rows", "<init>", "()V"⟩, "SnapHouse"), ("SnapHouse$StreamOpener", 22, ⟨"SnapHouse$Rows", "<init>", "()V"⟩, "SnapHouse")]
def nw_mF (q : String × Nat × String × String × String × String) : Cond := .fieldLinkNest q.1 q.2.1 q.2.2.1 q.2.2.2.1 q.2.2.2.2.1 q.2.2.2.2.2
def nw_mM (q : String × Nat × MethodName × String) : Cond := .methodLinkNest q.1 q.2.1 q.2.2.1 q.2.2.2
/-- the words on private members of nest mates -/
def nz (U : State) : Prop := (∀ q ∈ nw_F, va_Nw (nw_mF q) U) ∧ (∀ q ∈ nw_M, va_Nw (nw_mM q) U)
theorem nz_warm {s U : State} (hW : s.WarmedH U.vm) (h : nz s) : nz U := ⟨fun q hq => va_Nw.warmF hW (h.1 q hq), fun q hq => va_Nw.warmM hW (h.2 q hq)⟩
theorem nz_same {s U : State} (hW : s.vm = U.vm) (h : nz s) : nz U := ⟨fun q hq => va_Nw.same rfl hW (h.1 q hq), fun q hq => va_Nw.same rfl hW (h.2 q hq)⟩
def tb_N : List Int32 := [115, 78, 97, 80, 112, 89]
def tb_C : List Int32 := [0, 274646895, 549293790, 820201905, 1098587580, 1361435347, 1640403810, 1905808397, (-2097792136), (-1834419177), (-1572096602), (-1307217207), (-1014159676), (-741088853), (-483350502), (-210866315)]
def tf_N (j : Nat) : Value := .int (tb_N.getD j 0)
def tf_C (j : Nat) : Value := .int (tb_C.getD j 0)
/-- the static tables, none of them a cell that may change -/
def zt (g : GX) (A : Nat → Prop) (U : State) (H : Heap) : Prop := va_Z "SnapHouse" "NAME" "[I" (.ref g.2.2.1) A U H ∧ va_T .int g.2.2.1 6 tf_N A U H ∧ va_Z "SnapHouse$Bytes" "CRC_STEPS" "[I" (.ref g.2.2.2) A U H ∧ va_T .int g.2.2.2 16 tf_C A U H
def zz (g : GX) (A : Nat → Prop) (U : State) (H : Heap) : Prop := nz U ∧ zt g A U H
theorem zz_to {g : GX} {A B : Nat → Prop} {s U : State} {H0 H : Heap} (h : zz g A s H0) (hW : s.WarmedH U.vm) (hq : ∀ a : Nat, a < H0.size → ¬ A a → H[a]? = H0[a]?) (hAB : ∀ q, B q → A q) : zz g B U H :=
  ⟨nz_warm hW h.1, ((h.2.1.kept hq).narrow hAB).moved hW.alike, ((h.2.2.1.kept hq).narrow hAB).moved hW.alike, ((h.2.2.2.1.kept hq).narrow hAB).moved hW.alike, ((h.2.2.2.2.kept hq).narrow hAB).moved hW.alike⟩
theorem zz_same {g : GX} {A : Nat → Prop} {s U : State} {H : Heap} (h : zz g A s H) (hW : s.vm = U.vm) : zz g A U H :=
  ⟨nz_same hW h.1, h.2.1.moved (by rw [hW]; exact Vm.Alike.refl _), h.2.2.1.moved (by rw [hW]; exact Vm.Alike.refl _), h.2.2.2.1.moved (by rw [hW]; exact Vm.Alike.refl _), h.2.2.2.2.moved (by rw [hW]; exact Vm.Alike.refl _)⟩
def ww (g : GX) (A : Nat → Prop) (s : State) (ws : va_W) (H : Heap) (locs : List Loc) : Prop := va_P g.1 vwCl ws H ∧ va_D A ws ∧ va_S A s.heap H locs
def bx (g : GX) (p : Program) (s : State) (m : MethodId) (meth : Method) (c : Code) (args : Array Value) (cc : ByteArray) (maxL : Nat) (ret : Option FieldType) (y : MethodName) (Ts : List Cond) (A : Nat → Prop) : Prop :=
  p.tables.exec = Jvm.exec ∧ c.code = cc ∧ meth.sig.returnType = ret ∧ c.maxLocals = maxL ∧ s.vm.findClass y.cls = some m.cls ∧ (∀ w ∈ Ts, w.before args s = true) ∧ (∀ q : Nat, s.heap.size ≤ q → A q) ∧ meth.locks = false ∧ va_K g.1 vwCl (tyx g) s ∧ zz g A s s.heap ∧ meth.name = y.name
def pcc (g : GX) (av : List Value) (wc : va_W) (sz : Nat) : Array Value → State → Prop :=
  va_Pc av (fun U => U.heap.size = sz ∧ va_P g.1 vwCl wc U.heap ∧ va_K g.1 vwCl (tyx g) U ∧ va_D (fun _ => True) wc ∧ zz g (va_A wc sz) U U.heap)
def wo_ (g : GX) (wc : va_W) (sz : Nat) (wo : va_W) (t : State) : Prop := va_P g.1 vwCl wo t.heap ∧ va_K g.1 vwCl (tyx g) t ∧ va_D (va_A wc sz) wo
def qcI (g : GX) (wc : va_W) (sz : Nat) (r0 : Int32) (wo : va_W) : Array Value → State → Outcome → State → Prop :=
  va_Qi (fun r (_ : Unit) => r = r0) (fun _ t => wo_ g wc sz wo t) (va_A wc sz)
def qcL (g : GX) (wc : va_W) (sz : Nat) (r0 : Int64) (wo : va_W) : Array Value → State → Outcome → State → Prop :=
  va_Ql (fun r (_ : Unit) => r = r0) (fun _ t => wo_ g wc sz wo t) (va_A wc sz)
def qcV (g : GX) (wc : va_W) (sz : Nat) (wo : va_W) : Array Value → State → Outcome → State → Prop :=
  va_Qv (fun (_ : Unit) => True) (fun _ t => wo_ g wc sz wo t) (va_A wc sz)
/-- a constructor: the cells that it makes have addresses u -/
def qcN (g : GX) (wc : va_W) (sz : Nat) {S : Type} (wo : S → va_W) : Array Value → State → Outcome → State → Prop :=
  va_Qv (fun (_ : S) => True) (fun u t => wo_ g wc sz (wo u) t) (va_A wc sz)
def mcI (g : GX) (l : Launch) (y : MethodName) (wsy : List Cond) (rm : Room) (av : List Value) (wc : va_W) (r0 : Int32) (wo : va_W) (mc ms : Nat) : Prop :=
  ∀ sz : Nat, Met l y wsy rm (pcc g av wc sz) (qcI g wc sz r0 wo) mc ms (va_A wc sz)
def mcL (g : GX) (l : Launch) (y : MethodName) (wsy : List Cond) (rm : Room) (av : List Value) (wc : va_W) (r0 : Int64) (wo : va_W) (mc ms : Nat) : Prop :=
  ∀ sz : Nat, Met l y wsy rm (pcc g av wc sz) (qcL g wc sz r0 wo) mc ms (va_A wc sz)
def mcV (g : GX) (l : Launch) (y : MethodName) (wsy : List Cond) (rm : Room) (av : List Value) (wc : va_W) (wo : va_W) (mc ms : Nat) : Prop :=
  ∀ sz : Nat, Met l y wsy rm (pcc g av wc sz) (qcV g wc sz wo) mc ms (va_A wc sz)
def mcN (g : GX) (l : Launch) (y : MethodName) (wsy : List Cond) (rm : Room) (av : List Value) (wc : va_W) {S : Type} (wo : S → va_W) (mc ms : Nat) : Prop :=
  ∀ sz : Nat, Met l y wsy rm (pcc g av wc sz) (qcN g wc sz wo) mc ms (va_A wc sz)
/-- pure helpers: a step out of an Option -/
def ck {α : Type} (i : Int32) (n : Nat) (k : Option α) : Option α := if i < 0 ∨ n ≤ i.toNatClampNeg then none else k
theorem ck_some {α : Type} {i : Int32} {n : Nat} {k : Option α} {o : α} (h : ck i n k = some o) : vp_in i n ∧ k = some o := by
  unfold ck at h
  by_cases hc : i < 0 ∨ n ≤ i.toNatClampNeg
  · rw [if_pos hc] at h; cases h
  · rw [if_neg hc] at h; exact ⟨hc, h⟩
theorem ob {α β : Type} {x : Option α} {k : α → Option β} {o : β} (h : x.bind k = some o) : ∃ a, x = some a ∧ k a = some o := by
  cases x with
  | none => cases h
  | some a => exact ⟨a, rfl, h⟩
theorem it_t {c : Prop} [Decidable c] {α : Type} {a b o : α} (h : (if c then a else b) = o) (hc : c) : a = o := by rw [if_pos hc] at h; exact h
theorem it_f {c : Prop} [Decidable c] {α : Type} {a b o : α} (h : (if c then a else b) = o) (hc : ¬ c) : b = o := by rw [if_neg hc] at h; exact h
/-- a copy of n cells: its ranges looked at -/
def ckc {α : Type} (sp dp n : Int32) (n0 n1 : Nat) (k : Option α) : Option α := if sp < 0 ∨ dp < 0 ∨ n < 0 ∨ n0 < sp.toNatClampNeg + n.toNatClampNeg ∨ n1 < dp.toNatClampNeg + n.toNatClampNeg then none else k
theorem ckc_some {α : Type} {sp dp n : Int32} {n0 n1 : Nat} {k : Option α} {o : α} (h : ckc sp dp n n0 n1 k = some o) : (¬ sp < 0 ∧ ¬ dp < 0 ∧ ¬ n < 0 ∧ sp.toNatClampNeg + n.toNatClampNeg ≤ n0 ∧ dp.toNatClampNeg + n.toNatClampNeg ≤ n1) ∧ k = some o := by
  unfold ckc at h
  by_cases hc : sp < 0 ∨ dp < 0 ∨ n < 0 ∨ n0 < sp.toNatClampNeg + n.toNatClampNeg ∨ n1 < dp.toNatClampNeg + n.toNatClampNeg
  · rw [if_pos hc] at h; cases h
  · rw [if_neg hc] at h
    refine ⟨⟨fun q => hc (Or.inl q), fun q => hc (Or.inr (Or.inl q)), fun q => hc (Or.inr (Or.inr (Or.inl q))), Nat.not_lt.mp fun q => hc (Or.inr (Or.inr (Or.inr (Or.inl q)))), Nat.not_lt.mp fun q => hc (Or.inr (Or.inr (Or.inr (Or.inr q))))⟩, h⟩
/-- a boolean answer -/
def ckb {α : Type} (v : Int32) (k : Option α) : Option α := if v = 0 ∨ v = 1 then k else none
theorem ckb_some {α : Type} {v : Int32} {k : Option α} {o : α} (h : ckb v k = some o) : (v = 0 ∨ v = 1) ∧ k = some o := by
  unfold ckb at h
  by_cases hc : v = 0 ∨ v = 1
  · rw [if_pos hc] at h; exact ⟨hc, h⟩
  · rw [if_neg hc] at h; cases h
theorem ckb_nar {v : Int32} (h : v = 0 ∨ v = 1) : narrow .boolean (.int v) = .int v := by
  rcases h with rfl | rfl <;> decide
def ushr (x y : Int32) : Int32 := (x.toUInt32 >>> (y.toUInt32 &&& Int32.toUInt32 31)).toInt32
def pick (ws : va_W) (is : List Nat) : va_W := is.filterMap (fun i => ws[i]?)
section XB
variable {g : GX} {p : Program} {l : Launch} {e : Env} {R : Room} {s : State} {m : MethodId} {args : Array Value} {below : List Frame} {meth : Method} {c : Code} {H : Heap} {locs : List Loc} {cells slots : Nat} {Q : State → Prop}
variable {cc : ByteArray} {maxL : Nat} {ret : Option FieldType} {y : MethodName} {Ts : List Cond} {A : Nat → Prop} {ws ws' : va_W} {pc : Nat} {ls : Array Slot} {rest : List Value} {a : Nat}
theorem bx.x (C : bx g p s m meth c args cc maxL ret y Ts A) : p.tables.exec = Jvm.exec := C.1
theorem bx.b (C : bx g p s m meth c args cc maxL ret y Ts A) : c.code = cc := C.2.1
theorem bx.r (C : bx g p s m meth c args cc maxL ret y Ts A) : meth.sig.returnType = ret := C.2.2.1
theorem bx.ml (C : bx g p s m meth c args cc maxL ret y Ts A) : c.maxLocals = maxL := C.2.2.2.1
theorem bx.own (C : bx g p s m meth c args cc maxL ret y Ts A) : s.vm.findClass y.cls = some m.cls := C.2.2.2.2.1
theorem bx.ts (C : bx g p s m meth c args cc maxL ret y Ts A) : ∀ w ∈ Ts, w.before args s = true := C.2.2.2.2.2.1
theorem bx.hA (C : bx g p s m meth c args cc maxL ret y Ts A) : ∀ q : Nat, s.heap.size ≤ q → A q := C.2.2.2.2.2.2.1
theorem bx.lk (C : bx g p s m meth c args cc maxL ret y Ts A) : meth.locks = false := C.2.2.2.2.2.2.2.1
theorem bx.K (C : bx g p s m meth c args cc maxL ret y Ts A) : va_K g.1 vwCl (tyx g) s := C.2.2.2.2.2.2.2.2.1
theorem bx.Z (C : bx g p s m meth c args cc maxL ret y Ts A) : zz g A s s.heap := C.2.2.2.2.2.2.2.2.2.1
theorem bx.nm (C : bx g p s m meth c args cc maxL ret y Ts A) : meth.name = y.name := C.2.2.2.2.2.2.2.2.2.2
theorem bx.fix (C : bx g p s m meth c args cc maxL ret y Ts A) : CallFix p m c cc maxL s args Ts y.cls := ⟨C.x, C.b, C.ml, C.own, C.ts⟩
theorem x_get (C0 : bx g p s m meth c args cc maxL ret y Ts A) (hW : ww g A s ws H locs) {C : String} {T : u_T} {N ci index : Nat} (hin : ∀ w ∈ u_ws C T N, w ∈ Ts) (q0 : Nat) {fs : List Value} (he : ws[q0]? = some (a, .inr (ci, fs))) (hc : vwCl[ci]? = some (C, T, N)) (k : Nat) (hk : k < N) (hlink : Cond.fieldLink y.cls index (T k).1 (T k).2.1 (T k).2.2.1 ∈ Ts) {v : Value} (hv : fs[k]? = some v) (hdg : decode cc pc = .ok (.getfield index, 3))
    (kk : W p l e R s m args below meth c H locs cells slots Q (F0 m (pc + 3) ls (v :: rest))) : W p l e R s m args below meth c H locs cells slots Q (F0 m pc ls (.ref a :: rest)) :=
  va_get C0.x C0.b C0.ts hin C0.own C0.K hW.1 q0 he hc k hk (C0.ts _ hlink) (fun _ h => h) hv hdg kk
theorem x_getN (C0 : bx g p s m meth c args cc maxL ret y Ts A) (hW : ww g A s ws H locs) {C host : String} {T : u_T} {N ci index : Nat} (hin : ∀ w ∈ u_ws C T N, w ∈ Ts) (q0 : Nat) {fs : List Value} (he : ws[q0]? = some (a, .inr (ci, fs))) (hc : vwCl[ci]? = some (C, T, N)) (k : Nat) (hk : k < N) (hlink : (y.cls, index, (T k).1, (T k).2.1, (T k).2.2.1, host) ∈ nw_F) {v : Value} (hv : fs[k]? = some v) (hdg : decode cc pc = .ok (.getfield index, 3))
    (kk : W p l e R s m args below meth c H locs cells slots Q (F0 m (pc + 3) ls (v :: rest))) : W p l e R s m args below meth c H locs cells slots Q (F0 m pc ls (.ref a :: rest)) :=
  va_getN C0.x C0.b C0.ts hin C0.own C0.K hW.1 q0 he hc k hk (va_Nw.use rfl (C0.Z.1.1 _ hlink)) (fun _ h => h) hv hdg kk
theorem x_put (C0 : bx g p s m meth c args cc maxL ret y Ts A) (hW : ww g A s ws H locs) {C : String} {T : u_T} {N ci index : Nat} (hin : ∀ w ∈ u_ws C T N, w ∈ Ts) (ty0 : Nat → FieldType) (hty : ∀ k, k < N → parseFieldDescriptor (T k).2.2.1 = some (ty0 k)) (hnm : ∀ a, a < N → ∀ b, b < N → a ≠ b → (T a).2.1 ≠ (T b).2.1) (q0 : Nat) {fs : List Value} (he : ws[q0]? = some (a, .inr (ci, fs))) (hc : vwCl[ci]? = some (C, T, N)) (k : Nat) (hk : k < N) (hlink : Cond.fieldLink y.cls index (T k).1 (T k).2.1 (T k).2.2.1 ∈ Ts) (hfin : (T k).2.2.2 = false) {ty : FieldType} {v : Value} (hd : parseFieldDescriptor (T k).2.2.1 = some ty) (hn : narrow ty v = v) (hfit : fits ty v = true) (hl : k < fs.length)
    (hdg : decode cc pc = .ok (.putfield index, 3)) (hws : ws.set q0 (a, .inr (ci, fs.set k v)) = ws') (kk : ∀ (H1 : Heap) (locs1 : List Loc), ww g A s ws' H1 locs1 → W p l e R s m args below meth c H1 locs1 cells slots Q (F0 m (pc + 3) ls rest)) : W p l e R s m args below meth c H locs cells slots Q (F0 m pc ls (v :: .ref a :: rest)) :=
  va_put C0.x C0.b C0.ts hin ty0 hty hnm C0.own C0.K hW.1 hW.2.1 hW.2.2 q0 he hc k hk (C0.ts _ hlink) (fun _ h => h) hfin hd hn hfit hl hdg (fun H1 l1 h1 h2 h3 => kk H1 l1 (hws ▸ ⟨h1, h2, h3⟩))
theorem x_putN (C0 : bx g p s m meth c args cc maxL ret y Ts A) (hW : ww g A s ws H locs) {C host : String} {T : u_T} {N ci index : Nat} (hin : ∀ w ∈ u_ws C T N, w ∈ Ts) (ty0 : Nat → FieldType) (hty : ∀ k, k < N → parseFieldDescriptor (T k).2.2.1 = some (ty0 k)) (hnm : ∀ a, a < N → ∀ b, b < N → a ≠ b → (T a).2.1 ≠ (T b).2.1) (q0 : Nat) {fs : List Value} (he : ws[q0]? = some (a, .inr (ci, fs))) (hc : vwCl[ci]? = some (C, T, N)) (k : Nat) (hk : k < N) (hlink : (y.cls, index, (T k).1, (T k).2.1, (T k).2.2.1, host) ∈ nw_F) (hfin : (T k).2.2.2 = false) {ty : FieldType} {v : Value} (hd : parseFieldDescriptor (T k).2.2.1 = some ty) (hn : narrow ty v = v) (hfit : fits ty v = true) (hl : k < fs.length)
    (hdg : decode cc pc = .ok (.putfield index, 3)) (hws : ws.set q0 (a, .inr (ci, fs.set k v)) = ws') (kk : ∀ (H1 : Heap) (locs1 : List Loc), ww g A s ws' H1 locs1 → W p l e R s m args below meth c H1 locs1 cells slots Q (F0 m (pc + 3) ls rest)) : W p l e R s m args below meth c H locs cells slots Q (F0 m pc ls (v :: .ref a :: rest)) :=
  va_putN C0.x C0.b C0.ts hin ty0 hty hnm C0.own C0.K hW.1 hW.2.1 hW.2.2 q0 he hc k hk (va_Nw.use rfl (C0.Z.1.1 _ hlink)) (fun _ h => h) hfin hd hn hfit hl hdg (fun H1 l1 h1 h2 h3 => kk H1 l1 (hws ▸ ⟨h1, h2, h3⟩))
theorem x_putF (C0 : bx g p s m meth c args cc maxL ret y Ts A) (hW : ww g A s ws H locs) {C : String} {T : u_T} {N ci index : Nat} (hin : ∀ w ∈ u_ws C T N, w ∈ Ts) (ty0 : Nat → FieldType) (hty : ∀ k, k < N → parseFieldDescriptor (T k).2.2.1 = some (ty0 k)) (hnm : ∀ a, a < N → ∀ b, b < N → a ≠ b → (T a).2.1 ≠ (T b).2.1) (q0 : Nat) {fs : List Value} (he : ws[q0]? = some (a, .inr (ci, fs))) (hc : vwCl[ci]? = some (C, T, N)) (k : Nat) (hk : k < N) (hlink : Cond.fieldLink y.cls index (T k).1 (T k).2.1 (T k).2.2.1 ∈ Ts) (hfin : (T k).2.2.2 = true) (hyn : y.name = "<init>") (hdecl : (T k).1 = y.cls) {ty : FieldType} {v : Value} (hd : parseFieldDescriptor (T k).2.2.1 = some ty) (hn : narrow ty v = v) (hfit : fits ty v = true) (hl : k < fs.length)
    (hdg : decode cc pc = .ok (.putfield index, 3)) (hws : ws.set q0 (a, .inr (ci, fs.set k v)) = ws') (kk : ∀ (H1 : Heap) (locs1 : List Loc), ww g A s ws' H1 locs1 → W p l e R s m args below meth c H1 locs1 cells slots Q (F0 m (pc + 3) ls rest)) : W p l e R s m args below meth c H locs cells slots Q (F0 m pc ls (v :: .ref a :: rest)) :=
  va_putF C0.x C0.b C0.ts hin ty0 hty hnm C0.own C0.K hW.1 hW.2.1 hW.2.2 q0 he hc k hk (C0.ts _ hlink) (fun _ h => h) hfin (C0.nm.trans hyn) hdecl hd hn hfit hl hdg (fun H1 l1 h1 h2 h3 => kk H1 l1 (hws ▸ ⟨h1, h2, h3⟩))
theorem x_iald (C0 : bx g p s m meth c args cc maxL ret y Ts A) (hW : ww g A s ws H locs) (q0 t0 : Nat) {cA : ClassId} {n : Nat} {f : Nat → Int32} (ha : ws[q0]? = some (a, .inl (cA, n, .inl f))) (ht : (tyx g)[t0]? = some (cA, .int)) {i : Int32} (hin : vp_in i n) (hdg : decode cc pc = .ok (.iaload, 1))
    (kk : W p l e R s m args below meth c H locs cells slots Q (F0 m (pc + 1) ls (.int (f i.toNatClampNeg) :: rest))) : W p l e R s m args below meth c H locs cells slots Q (F0 m pc ls (.int i :: .ref a :: rest)) :=
  va_iald C0.x C0.b C0.K hW.1 q0 t0 ha ht hin hdg kk
theorem x_iast (C0 : bx g p s m meth c args cc maxL ret y Ts A) (hW : ww g A s ws H locs) (q0 t0 : Nat) {cA : ClassId} {n : Nat} {f : Nat → Int32} (ha : ws[q0]? = some (a, .inl (cA, n, .inl f))) (ht : (tyx g)[t0]? = some (cA, .int)) {i : Int32} {x : Int32} (hin : vp_in i n) (hdg : decode cc pc = .ok (.iastore, 1)) (hws : ws.set q0 (a, .inl (cA, n, .inl (upd f i.toNatClampNeg x))) = ws')
    (kk : ∀ (H1 : Heap) (locs1 : List Loc), ww g A s ws' H1 locs1 → W p l e R s m args below meth c H1 locs1 cells slots Q (F0 m (pc + 1) ls rest)) : W p l e R s m args below meth c H locs cells slots Q (F0 m pc ls (.int x :: .int i :: .ref a :: rest)) :=
  va_iast C0.x C0.b C0.K hW.1 hW.2.1 hW.2.2 q0 t0 ha ht hin hdg (fun H1 l1 h1 h2 h3 => kk H1 l1 (hws ▸ ⟨h1, h2, h3⟩))
theorem x_alen (C0 : bx g p s m meth c args cc maxL ret y Ts A) (hW : ww g A s ws H locs) (q0 t0 : Nat) {cA : ClassId} {x : vp_A} (ha : ws[q0]? = some (a, .inl (cA, x))) {ty : FieldType} (ht : (tyx g)[t0]? = some (cA, ty)) {v : Int32} (hv : Int32.ofNat x.1 = v) (hdg : decode cc pc = .ok (.arraylength, 1))
    (kk : W p l e R s m args below meth c H locs cells slots Q (F0 m (pc + 1) ls (.int v :: rest))) : W p l e R s m args below meth c H locs cells slots Q (F0 m pc ls (.ref a :: rest)) :=
  va_alen C0.x C0.b C0.K hW.1 q0 t0 ha ht hv hdg kk
/-- one class for all arrays of a kind -/
theorem x_RA {U : State} {c1 c2 : ClassId} {ty : FieldType} (h1 : va_RA U c1 ty) (h2 : va_RA U c2 ty) : c1 = c2 := by
  cases ty with
  | object C =>
    obtain ⟨_, _, _, _, _, e1⟩ := h1
    obtain ⟨_, _, _, _, _, e2⟩ := h2
    exact Option.some.inj (e1.symm.trans e2)
  | _ => exact Option.some.inj (Eq.trans (Eq.symm h1) h2)
theorem x_newa (C0 : bx g p s m meth c args cc maxL ret y Ts A) (hW : ww g A s ws H locs) {atype : ArrayType} (harr : Cond.arrayClass (newarray.typeOf atype) ∈ Ts) {ty : FieldType} (hty : newarray.typeOf atype = ty) (t0 : Nat) {cA : ClassId} (ht : (tyx g)[t0]? = some (cA, ty))
    {n : Int32} {N' : Nat} {a0 : vp_A} (ha : ∀ cA : ClassId, vp_cell cA a0 = arrV cA N' (fun _ => defaultValue ty)) (hn : ¬ n < 0) (hN : n.toNatClampNeg = N') (hbytes : N' * componentBytes ty ≤ 536870912) (hcells : cells + 1 ≤ R.cells) (hslots : slots + N' ≤ R.slots) (hdg : decode cc pc = .ok (.newarray atype, 2))
    (kk : ∀ (q : Nat) (H1 : Heap), ww g A s (ws ++ [(q, .inl (cA, a0))]) H1 locs →
      W p l e R s m args below meth c H1 locs (cells + 1) (slots + N') Q (F0 m (pc + 2) ls (.ref q :: rest))) : W p l e R s m args below meth c H locs cells slots Q (F0 m pc ls (.int n :: rest)) := by
  refine va_newa C0.x C0.b (C0.ts _ harr) hty C0.K hW.1 hW.2.1 hW.2.2 C0.hA ha hn hN hbytes hcells hslots hdg (fun q cB H1 hK hP hD hS => ?_)
  have h1 := (C0.K.2 t0 _ ht).2
  have h2 := (hK.2 (tyx g).length (cB, ty) (by rw [List.getElem?_append_right (Nat.le_refl _), Nat.sub_self]; rfl)).2
  have e1 : cB = cA := x_RA h2 h1
  subst e1
  exact kk q H1 ⟨hP, hD, hS⟩
theorem x_new (C0 : bx g p s m meth c args cc maxL ret y Ts A) (hW : ww g A s ws H locs) {C : String} {T : u_T} {N ci index : Nat} (hin : ∀ w ∈ u_ws C T N, w ∈ Ts) (ty : Nat → FieldType) (hty : ∀ k, k < N → parseFieldDescriptor (T k).2.2.1 = some (ty k)) (hcl : Cond.classLink y.cls index C ∈ Ts) (hinst : Cond.instantiable C N ∈ Ts) (hini : Cond.initialized C ∈ Ts)
    (hc : vwCl[ci]? = some (C, T, N)) {fs : List Value} (hfs : ∀ j, j < N → defaultValue (ty j) = vp_V fs j) (hcells : cells + 1 ≤ R.cells) (hslots : slots + N ≤ R.slots) (hdg : decode cc pc = .ok (.new index, 3))
    (kk : ∀ (q : Nat) (H1 : Heap), ww g A s (ws ++ [(q, .inr (ci, fs))]) H1 locs →
      W p l e R s m args below meth c H1 locs (cells + 1) (slots + N) Q (F0 m (pc + 3) ls (.ref q :: rest))) : W p l e R s m args below meth c H locs cells slots Q (F0 m pc ls rest) :=
  va_new C0.x C0.b C0.ts hin ty hty C0.own (C0.ts _ hcl) (C0.ts _ hinst) (C0.ts _ hini) C0.K hW.1 hW.2.1 hW.2.2 C0.hA hc hfs hcells hslots hdg (fun q H1 h1 h2 h3 => kk q H1 ⟨h1, h2, h3⟩)
theorem x_cpy (C0 : bx g p s m meth c args cc maxL ret y Ts A) (hW : ww g A s ws H locs) (hls : ls.size = maxL) {index : Nat} (hlink : Cond.methodLink y.cls index arraycopyName ∈ Ts) (hnat : Cond.native arraycopyName ∈ Ts) (hstat : Cond.static arraycopyName ∈ Ts) (hini : Cond.initialized "java/lang/System" ∈ Ts)
    (q0 q1 t0 : Nat) {a0 : Nat} {c0 : ClassId} {n0 n1 : Nat} {f f1 : Nat → Int32} (ha0 : ws[q0]? = some (a0, .inl (c0, n0, .inl f))) (ha1 : ws[q1]? = some (a, .inl (c0, n1, .inl f1))) (ht0 : (tyx g)[t0]? = some (c0, .int))
    {sp dp n : Int32} (h : ¬ sp < 0 ∧ ¬ dp < 0 ∧ ¬ n < 0 ∧ sp.toNatClampNeg + n.toNatClampNeg ≤ n0 ∧ dp.toNatClampNeg + n.toNatClampNeg ≤ n1)
    (hframes : 1 ≤ R.frames) (hlocals : (rest.map fun v => v.category).sum + (nativeFrameWords "java/lang/System" "arraycopy" 5 + 11) ≤ R.locals) (hdg : decode cc pc = .ok (.invokestatic index, 3)) (hws : ws.set q1 (a, .inl (c0, n1, .inl (va_cpy f f1 sp.toNatClampNeg dp.toNatClampNeg n.toNatClampNeg))) = ws')
    (kk : ∀ (H1 : Heap) (locs1 : List Loc), ww g A s ws' H1 locs1 → W p l e R s m args below meth c H1 locs1 cells slots Q (F0 m (pc + 3) ls rest)) : W p l e R s m args below meth c H locs cells slots Q (F0 m pc ls (.int n :: .int dp :: .ref a :: .int sp :: .ref a0 :: rest)) :=
  va_copyi C0.x C0.b (C0.ml.trans hls.symm) C0.own (C0.ts _ hlink) (C0.ts _ hnat) (C0.ts _ hstat) (C0.ts _ hini) C0.K hW.1 hW.2.1 hW.2.2 q0 q1 t0 t0 ha0 ha1 ht0 ht0 rfl h.1 h.2.1 h.2.2.1 h.2.2.2.1 h.2.2.2.2 (fun _ _ => rfl) hframes hlocals hdg (fun H1 l1 h1 h2 h3 => kk H1 l1 (hws ▸ ⟨h1, h2, h3⟩))
end XB
section XC
variable {g : GX} {p : Program} {l : Launch} {e : Env} {R : Room} {s : State} {m : MethodId} {args : Array Value} {below : List Frame} {meth : Method} {c : Code} {H : Heap} {locs : List Loc} {cells slots : Nat} {Q : State → Prop}
variable {cc : ByteArray} {maxL : Nat} {ret : Option FieldType} {y : MethodName} {Ts : List Cond} {A : Nat → Prop} {ws ws' : va_W} {pc : Nat} {ls : Array Slot} {rest : List Value} {a : Nat}
theorem x_bald (C0 : bx g p s m meth c args cc maxL ret y Ts A) (hW : ww g A s ws H locs) (q0 t0 : Nat) {cA : ClassId} {n : Nat} {f : Nat → Int32} (ha : ws[q0]? = some (a, .inl (cA, n, .inl f))) (ht : (tyx g)[t0]? = some (cA, .byte)) {i : Int32} (hin : vp_in i n) (hdg : decode cc pc = .ok (.baload, 1))
    (kk : W p l e R s m args below meth c H locs cells slots Q (F0 m (pc + 1) ls (.int (f i.toNatClampNeg) :: rest))) : W p l e R s m args below meth c H locs cells slots Q (F0 m pc ls (.int i :: .ref a :: rest)) :=
  va_bald C0.x C0.b C0.K hW.1 q0 t0 ha ht hin hdg kk
theorem x_bast (C0 : bx g p s m meth c args cc maxL ret y Ts A) (hW : ww g A s ws H locs) (q0 t0 : Nat) {cA : ClassId} {n : Nat} {f : Nat → Int32} (ha : ws[q0]? = some (a, .inl (cA, n, .inl f))) (ht : (tyx g)[t0]? = some (cA, .byte)) {i : Int32} {x : Int32} (hin : vp_in i n) (hdg : decode cc pc = .ok (.bastore, 1)) (hws : ws.set q0 (a, .inl (cA, n, .inl (upd f i.toNatClampNeg (vp_nar .byte x)))) = ws')
    (kk : ∀ (H1 : Heap) (locs1 : List Loc), ww g A s ws' H1 locs1 → W p l e R s m args below meth c H1 locs1 cells slots Q (F0 m (pc + 1) ls rest)) : W p l e R s m args below meth c H locs cells slots Q (F0 m pc ls (.int x :: .int i :: .ref a :: rest)) :=
  va_bast C0.x C0.b C0.K hW.1 hW.2.1 hW.2.2 q0 t0 ha ht hin hdg (fun H1 l1 h1 h2 h3 => kk H1 l1 (hws ▸ ⟨h1, h2, h3⟩))
theorem x_last (C0 : bx g p s m meth c args cc maxL ret y Ts A) (hW : ww g A s ws H locs) (q0 t0 : Nat) {cA : ClassId} {n : Nat} {f : Nat → Int64} (ha : ws[q0]? = some (a, .inl (cA, n, .inr (.inl f)))) (ht : (tyx g)[t0]? = some (cA, .long)) {i : Int32} {x : Int64} (hin : vp_in i n) (hdg : decode cc pc = .ok (.lastore, 1)) (hws : ws.set q0 (a, .inl (cA, n, .inr (.inl (vp_updL f i.toNatClampNeg x)))) = ws')
    (kk : ∀ (H1 : Heap) (locs1 : List Loc), ww g A s ws' H1 locs1 → W p l e R s m args below meth c H1 locs1 cells slots Q (F0 m (pc + 1) ls rest)) : W p l e R s m args below meth c H locs cells slots Q (F0 m pc ls (.long x :: .int i :: .ref a :: rest)) :=
  va_last C0.x C0.b C0.K hW.1 hW.2.1 hW.2.2 q0 t0 ha ht hin hdg (fun H1 l1 h1 h2 h3 => kk H1 l1 (hws ▸ ⟨h1, h2, h3⟩))
/-- the static tables -/
theorem x_name (C0 : bx g p s m meth c args cc maxL ret y Ts A) (hW : ww g A s ws H locs) {index : Nat} {host : String} (hlink : (y.cls, index, "SnapHouse", "NAME", "[I", host) ∈ nw_F) (hdg : decode cc pc = .ok (.getstatic index, 3))
    (kk : W p l e R s m args below meth c H locs cells slots Q (F0 m (pc + 3) ls (.ref g.2.2.1 :: rest))) : W p l e R s m args below meth c H locs cells slots Q (F0 m pc ls rest) :=
  va_getsN C0.x C0.b C0.Z.2.1 hW.2.2 C0.own (va_Nw.use rfl (C0.Z.1.1 _ hlink)) (fun _ h => h) hdg kk
theorem x_crct (C0 : bx g p s m meth c args cc maxL ret y Ts A) (hW : ww g A s ws H locs) {index : Nat} (hlink : Cond.fieldLink y.cls index "SnapHouse$Bytes" "CRC_STEPS" "[I" ∈ Ts) (hdg : decode cc pc = .ok (.getstatic index, 3))
    (kk : W p l e R s m args below meth c H locs cells slots Q (F0 m (pc + 3) ls (.ref g.2.2.2 :: rest))) : W p l e R s m args below meth c H locs cells slots Q (F0 m pc ls rest) :=
  va_gets C0.x C0.b C0.Z.2.2.2.1 hW.2.2 C0.own (C0.ts _ hlink) (fun _ h => h) hdg kk
theorem x_nameld (C0 : bx g p s m meth c args cc maxL ret y Ts A) (hW : ww g A s ws H locs) {i : Int32} (hin : vp_in i 6) (hdg : decode cc pc = .ok (.iaload, 1))
    (kk : W p l e R s m args below meth c H locs cells slots Q (F0 m (pc + 1) ls (.int (tb_N.getD i.toNatClampNeg 0) :: rest))) : W p l e R s m args below meth c H locs cells slots Q (F0 m pc ls (.int i :: .ref g.2.2.1 :: rest)) :=
  va_ti C0.x C0.b C0.Z.2.2.1 hW.2.2 hin rfl hdg kk
theorem x_crcld (C0 : bx g p s m meth c args cc maxL ret y Ts A) (hW : ww g A s ws H locs) {i : Int32} (hin : vp_in i 16) (hdg : decode cc pc = .ok (.iaload, 1))
    (kk : W p l e R s m args below meth c H locs cells slots Q (F0 m (pc + 1) ls (.int (tb_C.getD i.toNatClampNeg 0) :: rest))) : W p l e R s m args below meth c H locs cells slots Q (F0 m pc ls (.int i :: .ref g.2.2.2 :: rest)) :=
  va_ti C0.x C0.b C0.Z.2.2.2.2 hW.2.2 hin rfl hdg kk
theorem x_namelen (C0 : bx g p s m meth c args cc maxL ret y Ts A) (hW : ww g A s ws H locs) (hdg : decode cc pc = .ok (.arraylength, 1))
    (kk : W p l e R s m args below meth c H locs cells slots Q (F0 m (pc + 1) ls (.int (Int32.ofNat 6) :: rest))) : W p l e R s m args below meth c H locs cells slots Q (F0 m pc ls (.ref g.2.2.1 :: rest)) :=
  va_tlen C0.x C0.b C0.Z.2.2.1 hW.2.2 rfl hdg kk
theorem x_max (C0 : bx g p s m meth c args cc maxL ret y Ts A) (hls : ls.size = maxL) {index : Nat} (hlink : Cond.methodLink y.cls index Lib.Math.max.name ∈ Ts) (hstat : Cond.static Lib.Math.max.name ∈ Ts) (hini : Cond.initialized "java/lang/Math" ∈ Ts) (hcode : Cond.code Lib.Math.max.name Lib.Math.max.code 2 (some .int) ∈ Ts)
    (hframes : 1 ≤ R.frames) (hlocals : (rest.map fun v => v.category).sum + 13 ≤ R.locals) (hc : cells ≤ R.cells) (hs : slots ≤ R.slots) {x z : Int32} (hdg : decode cc pc = .ok (.invokestatic index, 3))
    (kk : W p l e R s m args below meth c H locs cells slots Q (F0 m (pc + 3) ls (.int (if x < z then z else x) :: rest))) : W p l e R s m args below meth c H locs cells slots Q (F0 m pc ls (.int z :: .int x :: rest)) :=
  va_mmax C0.x C0.b (C0.ml.trans hls.symm) C0.own (C0.ts _ hlink) (C0.ts _ hstat) (C0.ts _ hini) (C0.ts _ hcode) hframes hlocals hc hs hdg kk
theorem x_min (C0 : bx g p s m meth c args cc maxL ret y Ts A) (hls : ls.size = maxL) {index : Nat} (hlink : Cond.methodLink y.cls index Lib.Math.min.name ∈ Ts) (hstat : Cond.static Lib.Math.min.name ∈ Ts) (hini : Cond.initialized "java/lang/Math" ∈ Ts) (hcode : Cond.code Lib.Math.min.name Lib.Math.min.code 2 (some .int) ∈ Ts)
    (hframes : 1 ≤ R.frames) (hlocals : (rest.map fun v => v.category).sum + 13 ≤ R.locals) (hc : cells ≤ R.cells) (hs : slots ≤ R.slots) {x z : Int32} (hdg : decode cc pc = .ok (.invokestatic index, 3))
    (kk : W p l e R s m args below meth c H locs cells slots Q (F0 m (pc + 3) ls (.int (if z < x then z else x) :: rest))) : W p l e R s m args below meth c H locs cells slots Q (F0 m pc ls (.int z :: .int x :: rest)) :=
  va_mmin C0.x C0.b (C0.ml.trans hls.symm) C0.own (C0.ts _ hlink) (C0.ts _ hstat) (C0.ts _ hini) (C0.ts _ hcode) hframes hlocals hc hs hdg kk
theorem x_obj (C0 : bx g p s m meth c args cc maxL ret y Ts A) (hls : ls.size = maxL) {index : Nat} (hlink : Cond.methodLink y.cls index objectInit ∈ Ts) (hinst : Cond.instanceMethod objectInit ∈ Ts) (hcode : Cond.code objectInit ⟨#[0xb1]⟩ 1 none ∈ Ts) (hdg : decode cc pc = .ok (.invokespecial index, 3))
    (hframes : 1 ≤ R.frames) (hlocals : 2 * (F0 m pc ls (.ref a :: rest)).monitorRoom + (rest.map fun v => v.category).sum + 12 ≤ R.locals)
    (kk : W p l e R s m args below meth c H locs cells slots Q (F0 m (pc + 3) ls rest)) : W p l e R s m args below meth c H locs cells slots Q (F0 m pc ls (.ref a :: rest)) :=
  W.objInit C0.x C0.b C0.own (C0.ts _ hlink) (C0.ts _ hinst) (C0.ts _ hcode) rfl (hls.trans C0.ml.symm) rfl hdg hframes hlocals kk
/-- BEFORE A CALL: the callee's cells are cut out -/
theorem pcc_of {wc : va_W} {av : List Value} (C0 : bx g p s m meth c args cc maxL ret y Ts A) (hW : ww g A s ws H locs) (isC : List Nat) (hC : isC.map (fun i => ws[i]?) = wc.map some) (hn : va_nd isC = true) : PreS s H (pcc g av wc H.size) av := by
  have hP : va_P g.1 vwCl wc H := hW.1.sub isC (by
    have : (isC.map (fun i => ws[i]?)).filterMap id = wc := by rw [hC, List.filterMap_map]; simp
    rw [← this, List.filterMap_map]; rfl)
  have hD := hW.2.1.sub isC hn hC
  have hF := va_free hW.2.1 hW.2.2 C0.hA isC hC
  refine ⟨fun a U g' mk q => ?_, fun U hU hWU => ?_⟩
  · obtain ⟨q0, q1, qP, qK, qD, qZ⟩ := q
    exact ⟨q0, q1, qP, va_K.moved (u := U) (U := U.calling g' mk a) (Vm.Alike.refl U.vm) qK, qD, zz_same qZ rfl⟩
  · exact ⟨rfl, by rw [hU], by rw [hU]; exact hP, va_K.moved hWU.alike C0.K, hD.weaken (fun _ _ _ _ => trivial), by rw [hU]; exact zz_to C0.Z hWU (fun a h1 h2 => hW.2.2.2.1 a h1 h2) hF⟩
theorem pcv_of {wc : va_W} {b ci q0 : Nat} {fs : List Value} {As : List Value} {q : vw_C} (C0 : bx g p s m meth c args cc maxL ret y Ts A) (hW : ww g A s ws H locs) (isC : List Nat) (hC : isC.map (fun i => ws[i]?) = wc.map some) (hn : va_nd isC = true) (he : ws[q0]? = some (b, .inr (ci, fs))) (hc : vwCl[ci]? = some q) : PreV s H q.1 b (pcc g (.ref b :: As) wc H.size) As :=
  ⟨(pcc_of C0 hW isC hC hn).1, va_recv C0.K hW.1 hc he, (pcc_of (av := .ref b :: As) C0 hW isC hC hn).2⟩
/-- BEHIND A CALL: the callee's new world beside the rest, in the order that is wanted -/
theorem ww_join {wc w1 : va_W} {H1 : Heap} {locs1 : List Loc} (C0 : bx g p s m meth c args cc maxL ret y Ts A) (hW : ww g A s ws H locs) (isC isR isF : List Nat) (hC : isC.map (fun i => ws[i]?) = wc.map some) (hR : isR.map (fun i => ws[i]?) = (pick ws isR).map some) (hn : va_nd isR = true) (hdis : ∀ i ∈ isR, i ∉ isC)
    (hk : ∀ q : Nat, q < H.size → ¬ va_A wc H.size q → H1[q]? = H[q]?) (hP1 : va_P g.1 vwCl w1 H1) (hD1 : va_D (va_A wc H.size) w1) (hS : va_S A s.heap H1 locs1) (hF : isF.map (fun i => (pick ws isR ++ w1)[i]?) = ws'.map some) (hnF : va_nd isF = true) : ww g A s ws' H1 locs1 := by
  obtain ⟨hP, hD⟩ := va_join hW.1 hW.2.1 isC isR hC hR hn hdis hk (va_free hW.2.1 hW.2.2 C0.hA isC hC) hP1 hD1
  refine ⟨hP.sub isF (by
    have : (isF.map (fun i => (pick ws isR ++ w1)[i]?)).filterMap id = ws' := by rw [hF, List.filterMap_map]; simp
    rw [← this, List.filterMap_map]; rfl), hD.sub isF hnF hF, hS⟩
section Go
variable {wc wo : va_W} {mc ms : Nat} {st0 : List Value} {av : Array Value}
theorem go_i {r0 : Int32} (C0 : bx g p s m meth c args cc maxL ret y Ts A) (hW : ww g A s ws H locs) (isC isR isF : List Nat) (hr : va_Run p l e R s m args below meth c H locs cells slots mc ms (F0 m pc ls st0) rest (qcI g wc H.size r0 wo av) (va_A wc H.size))
    (hC : isC.map (fun i => ws[i]?) = wc.map some) (hR : isR.map (fun i => ws[i]?) = (pick ws isR).map some) (hn : va_nd isR = true) (hdis : ∀ i ∈ isR, i ∉ isC) (hF : isF.map (fun i => (pick ws isR ++ wo)[i]?) = ws'.map some) (hnF : va_nd isF = true)
    (kk : ∀ (H1 : Heap) (locs1 : List Loc), ww g A s ws' H1 locs1 → W p l e R s m args below meth c H1 locs1 (cells + mc) (slots + ms) Q (F0 m (pc + 3) ls (.int r0 :: rest))) : W p l e R s m args below meth c H locs cells slots Q (F0 m pc ls st0) := by
  have hFc := va_free hW.2.1 hW.2.2 C0.hA isC hC
  refine va_calli hr hW.2.2 (fun q _ h => hFc q h) hFc (fun r u t H1 locs1 ht hvm hw hB hz1 hk1 hS => ?_)
  obtain ⟨hP1, hK1, hD1⟩ := hB
  rw [ht] at hP1
  subst hw
  exact kk H1 locs1 (ww_join C0 hW isC isR isF hC hR hn hdis hk1 hP1 hD1 hS hF hnF)
theorem go_l {r0 : Int64} (C0 : bx g p s m meth c args cc maxL ret y Ts A) (hW : ww g A s ws H locs) (isC isR isF : List Nat) (hr : va_Run p l e R s m args below meth c H locs cells slots mc ms (F0 m pc ls st0) rest (qcL g wc H.size r0 wo av) (va_A wc H.size))
    (hC : isC.map (fun i => ws[i]?) = wc.map some) (hR : isR.map (fun i => ws[i]?) = (pick ws isR).map some) (hn : va_nd isR = true) (hdis : ∀ i ∈ isR, i ∉ isC) (hF : isF.map (fun i => (pick ws isR ++ wo)[i]?) = ws'.map some) (hnF : va_nd isF = true)
    (kk : ∀ (H1 : Heap) (locs1 : List Loc), ww g A s ws' H1 locs1 → W p l e R s m args below meth c H1 locs1 (cells + mc) (slots + ms) Q (F0 m (pc + 3) ls (.long r0 :: rest))) : W p l e R s m args below meth c H locs cells slots Q (F0 m pc ls st0) := by
  have hFc := va_free hW.2.1 hW.2.2 C0.hA isC hC
  refine va_calll hr hW.2.2 (fun q _ h => hFc q h) hFc (fun r u t H1 locs1 ht hvm hw hB hz1 hk1 hS => ?_)
  obtain ⟨hP1, hK1, hD1⟩ := hB
  rw [ht] at hP1
  subst hw
  exact kk H1 locs1 (ww_join C0 hW isC isR isF hC hR hn hdis hk1 hP1 hD1 hS hF hnF)
theorem go_v (C0 : bx g p s m meth c args cc maxL ret y Ts A) (hW : ww g A s ws H locs) (isC isR isF : List Nat) (hr : va_Run p l e R s m args below meth c H locs cells slots mc ms (F0 m pc ls st0) rest (qcV g wc H.size wo av) (va_A wc H.size))
    (hC : isC.map (fun i => ws[i]?) = wc.map some) (hR : isR.map (fun i => ws[i]?) = (pick ws isR).map some) (hn : va_nd isR = true) (hdis : ∀ i ∈ isR, i ∉ isC) (hF : isF.map (fun i => (pick ws isR ++ wo)[i]?) = ws'.map some) (hnF : va_nd isF = true)
    (kk : ∀ (H1 : Heap) (locs1 : List Loc), ww g A s ws' H1 locs1 → W p l e R s m args below meth c H1 locs1 (cells + mc) (slots + ms) Q (F0 m (pc + 3) ls rest)) : W p l e R s m args below meth c H locs cells slots Q (F0 m pc ls st0) := by
  have hFc := va_free hW.2.1 hW.2.2 C0.hA isC hC
  refine va_callv hr hW.2.2 (fun q _ h => hFc q h) hFc (fun u t H1 locs1 ht hvm hw hB hz1 hk1 hS => ?_)
  obtain ⟨hP1, hK1, hD1⟩ := hB
  rw [ht] at hP1
  exact kk H1 locs1 (ww_join C0 hW isC isR isF hC hR hn hdis hk1 hP1 hD1 hS hF hnF)
theorem go_n {S : Type} {wo : S → va_W} {wsn : S → va_W} (C0 : bx g p s m meth c args cc maxL ret y Ts A) (hW : ww g A s ws H locs) (isC isR isF : List Nat) (hr : va_Run p l e R s m args below meth c H locs cells slots mc ms (F0 m pc ls st0) rest (qcN g wc H.size wo av) (va_A wc H.size))
    (hC : isC.map (fun i => ws[i]?) = wc.map some) (hR : isR.map (fun i => ws[i]?) = (pick ws isR).map some) (hn : va_nd isR = true) (hdis : ∀ i ∈ isR, i ∉ isC) (hF : ∀ u, isF.map (fun i => (pick ws isR ++ wo u)[i]?) = (wsn u).map some) (hnF : va_nd isF = true)
    (kk : ∀ (u : S) (H1 : Heap) (locs1 : List Loc), ww g A s (wsn u) H1 locs1 → W p l e R s m args below meth c H1 locs1 (cells + mc) (slots + ms) Q (F0 m (pc + 3) ls rest)) : W p l e R s m args below meth c H locs cells slots Q (F0 m pc ls st0) := by
  have hFc := va_free hW.2.1 hW.2.2 C0.hA isC hC
  refine va_callv hr hW.2.2 (fun q _ h => hFc q h) hFc (fun u t H1 locs1 ht hvm hw hB hz1 hk1 hS => ?_)
  obtain ⟨hP1, hK1, hD1⟩ := hB
  rw [ht] at hP1
  exact kk u H1 locs1 (ww_join C0 hW isC isR isF hC hR hn hdis hk1 hP1 hD1 hS (hF u) hnF)
end Go
/-- A METHOD'S ENDS -/
theorem x_iret {wc wo : va_W} {r0 v : Int32} {ty : FieldType} (C0 : bx g p s m meth c args cc maxL (some ty) y Ts (va_A wc s.heap.size)) (hW : ww g (va_A wc s.heap.size) s wo H locs) (hn : narrow ty (.int v) = .int v) (hv : v = r0) (hdg : decode cc pc = .ok (.ireturn, 1)) :
    W p l e R s m args below meth c H locs cells slots (MQ below (qcI g wc s.heap.size r0 wo) args s cells slots (va_A wc s.heap.size)) (F0 m pc ls [.int v]) :=
  have hlk := C0.lk
  W.zret C0.x C0.b C0.r hn (fun t ht hWt => ⟨⟨v, (), rfl, hv, by rw [ht]; exact hW.1, va_K.moved hWt.alike C0.K, hW.2.1⟩, hW.2.2.F ht⟩) hW.2.2.2.2 hdg hlk
theorem x_lret {wc wo : va_W} {r0 v : Int64} (C0 : bx g p s m meth c args cc maxL (some .long) y Ts (va_A wc s.heap.size)) (hW : ww g (va_A wc s.heap.size) s wo H locs) (hv : v = r0) (hdg : decode cc pc = .ok (.lreturn, 1)) :
    W p l e R s m args below meth c H locs cells slots (MQ below (qcL g wc s.heap.size r0 wo) args s cells slots (va_A wc s.heap.size)) (F0 m pc ls [.long v]) :=
  have hlk := C0.lk
  W.lret C0.x C0.b C0.r (fun t ht hWt => ⟨⟨v, (), rfl, hv, by rw [ht]; exact hW.1, va_K.moved hWt.alike C0.K, hW.2.1⟩, hW.2.2.F ht⟩) hW.2.2.2.2 hdg hlk
theorem x_vret {wc wo : va_W} (C0 : bx g p s m meth c args cc maxL none y Ts (va_A wc s.heap.size)) (hW : ww g (va_A wc s.heap.size) s wo H locs) (hdg : decode cc pc = .ok (.return_, 1)) :
    W p l e R s m args below meth c H locs cells slots (MQ below (qcV g wc s.heap.size wo) args s cells slots (va_A wc s.heap.size)) (F0 m pc ls []) :=
  have hlk := C0.lk
  W.vret C0.x C0.b C0.r (fun t ht hWt => ⟨⟨(), rfl, trivial, by rw [ht]; exact hW.1, va_K.moved hWt.alike C0.K, hW.2.1⟩, hW.2.2.F ht⟩) hW.2.2.2.2 hdg hlk
theorem x_nret {wc : va_W} {S : Type} {wo : S → va_W} (u : S) (C0 : bx g p s m meth c args cc maxL none y Ts (va_A wc s.heap.size)) (hW : ww g (va_A wc s.heap.size) s (wo u) H locs) (hdg : decode cc pc = .ok (.return_, 1)) :
    W p l e R s m args below meth c H locs cells slots (MQ below (qcN g wc s.heap.size wo) args s cells slots (va_A wc s.heap.size)) (F0 m pc ls []) :=
  have hlk := C0.lk
  W.vret C0.x C0.b C0.r (fun t ht hWt => ⟨⟨u, rfl, trivial, by rw [ht]; exact hW.1, va_K.moved hWt.alike C0.K, hW.2.1⟩, hW.2.2.F ht⟩) hW.2.2.2.2 hdg hlk
end XC
/-- A METHOD'S START: any contract out of a walk of its body -/
theorem x_start {g : GX} {l : Launch} {y : MethodName} {wsy wsy' : List Cond} {rm : Room} {av : List Value} {wc : va_W} {cc : ByteArray} {maxL : Nat} {ret : Option FieldType} {Qc : Nat → Array Value → State → Outcome → State → Prop} {mc ms : Nat} (hy : plainName y.cls = true) (hw : wsy = Cond.code y cc maxL ret :: wsy') (hn : (lg_sl av).length ≤ maxL)
    (body : ∀ (p : Program) (e : Env) (s : State) (m : MethodId) (below : List Frame) (meth : Method) (c : Code) (ls : Array Slot), bx g p s m meth c av.toArray cc maxL ret y wsy (va_A wc s.heap.size) → ww g (va_A wc s.heap.size) s wc s.heap [] → lv_has ls maxL (lv_args 0 av) →
      W p l e rm s m av.toArray below meth c s.heap [] 0 0 (MQ below (Qc s.heap.size) av.toArray s mc ms (va_A wc s.heap.size)) (F0 m 0 ls [])) : ∀ sz : Nat, Met l y wsy rm (pcc g av wc sz) (Qc sz) mc ms (va_A wc sz) := by
  intro sz
  refine Met.ofW (cc := cc) (maxL := maxL) (ret := ret) hy hw ?_
  intro p e s m args below meth c s₁ B hml hv
  obtain ⟨rfl, hsz, hP, hK, hD0, hZ⟩ := hv
  subst hsz
  have hl := lv_entry av (n := maxL) hn
  rw [lg_entry_eq]
  generalize (lg_sl av ++ List.replicate (maxL - (lg_sl av).length) Slot.unset).toArray = ls at hl ⊢
  exact body p e s m below meth c ls ⟨B.exec, B.bytes, B.returns, hml, findClass_of_methodNamed B.named, atoms_spec (ws := wsy) B.pre, fun q h => Or.inr h, B.notSynchronized, hK, hZ, (name_of_methodNamed B.named B.method).1⟩ ⟨hP, hD0.self, va_S.rf⟩ hl
end
section
set_option maxRecDepth 100000 in
theorem wall_good : ∀ w ∈ wsL_law0, (w.onTables && w.keeps) = true ∨ ∃ ty, w = .arrayClass ty := fun w h => good_of_word (List.all_eq_true.mp (by decide +kernel : wsL_law0.all goodWord = true) w h)
theorem iw_X6 {cw : Cond} : ∀ w ∈ u_ws RX6 TX6 12, w ∈ cw :: wsL_law0 := fun w h => List.mem_cons_of_mem _ (List.mem_append_left _ (List.mem_append_left _ (List.mem_append_left _ (List.mem_append_left _ (List.mem_append_left _ (List.mem_append_left _ (List.mem_append_left _ (List.mem_append_left _ (List.mem_append_right _ h)))))))))
theorem iw_X7 {cw : Cond} : ∀ w ∈ u_ws RX7 TX7 33, w ∈ cw :: wsL_law0 := fun w h => List.mem_cons_of_mem _ (List.mem_append_left _ (List.mem_append_left _ (List.mem_append_left _ (List.mem_append_left _ (List.mem_append_left _ (List.mem_append_left _ (List.mem_append_left _ (List.mem_append_right _ h))))))))
theorem iw_X1 {cw : Cond} : ∀ w ∈ u_ws RX1 TX1 2, w ∈ cw :: wsL_law0 := fun w h => List.mem_cons_of_mem _ (List.mem_append_left _ (List.mem_append_left _ (List.mem_append_left _ (List.mem_append_left _ (List.mem_append_left _ (List.mem_append_left _ (List.mem_append_right _ h)))))))
theorem iw_X2 {cw : Cond} : ∀ w ∈ u_ws RX2 TX2 3, w ∈ cw :: wsL_law0 := fun w h => List.mem_cons_of_mem _ (List.mem_append_left _ (List.mem_append_left _ (List.mem_append_left _ (List.mem_append_left _ (List.mem_append_left _ (List.mem_append_right _ h))))))
theorem iw_X4 {cw : Cond} : ∀ w ∈ u_ws RX4 TX4 1, w ∈ cw :: wsL_law0 := fun w h => List.mem_cons_of_mem _ (List.mem_append_left _ (List.mem_append_left _ (List.mem_append_left _ (List.mem_append_left _ (List.mem_append_right _ h)))))
theorem iw_X0 {cw : Cond} : ∀ w ∈ u_ws RX0 TX0 12, w ∈ cw :: wsL_law0 := fun w h => List.mem_cons_of_mem _ (List.mem_append_left _ (List.mem_append_left _ (List.mem_append_left _ (List.mem_append_right _ h))))
theorem iw_X5 {cw : Cond} : ∀ w ∈ u_ws RX5 TX5 8, w ∈ cw :: wsL_law0 := fun w h => List.mem_cons_of_mem _ (List.mem_append_left _ (List.mem_append_left _ (List.mem_append_right _ h)))
theorem iw_X3 {cw : Cond} : ∀ w ∈ u_ws RX3 TX3 3, w ∈ cw :: wsL_law0 := fun w h => List.mem_cons_of_mem _ (List.mem_append_left _ (List.mem_append_right _ h))
theorem gw_0 {cw cy : Cond} (h5 : cy ∈ wsL_law0) : GoodIn (cw :: wsL_law0) (cy :: wsL_law0) := by
  intro w h
  have hm : w ∈ wsL_law0 := (List.mem_cons.mp h).elim (fun e => e ▸ h5) id
  exact ⟨List.mem_cons_of_mem _ hm, wall_good w hm⟩
theorem gw_V {cw cy : Cond} {own C : String} {idx : Nat} {y : MethodName} (h1 : Cond.methodLink own idx y ∈ wsL_law0) (h2 : Cond.instanceMethod y ∈ wsL_law0) (h3 : Cond.selects C y y ∈ wsL_law0) (h4 : Cond.initialized C ∈ wsL_law0) (h5 : cy ∈ wsL_law0) : GoodIn (cw :: wsL_law0) (wsV own idx C y (cy :: wsL_law0)) := by
  intro w h
  unfold wsV at h
  rcases List.mem_append.mp h with h | h
  · have hm : w ∈ wsL_law0 := by
      simp only [List.mem_cons, List.not_mem_nil, or_false] at h
      rcases h with rfl | rfl | rfl | rfl
      · exact h1
      · exact h2
      · exact h3
      · exact h4
    exact ⟨List.mem_cons_of_mem _ hm, wall_good w hm⟩
  · exact gw_0 h5 w h
theorem gw_S {cw cy : Cond} {own : String} {idx : Nat} {y : MethodName} (h1 : Cond.methodLink own idx y ∈ wsL_law0) (h2 : Cond.static y ∈ wsL_law0) (h4 : Cond.initialized y.cls ∈ wsL_law0) (h5 : cy ∈ wsL_law0) : GoodIn (cw :: wsL_law0) (va_wsS own idx y (cy :: wsL_law0)) := by
  intro w h
  unfold va_wsS at h
  rcases List.mem_append.mp h with h | h
  · have hm : w ∈ wsL_law0 := by
      simp only [List.mem_cons, List.not_mem_nil, or_false] at h
      rcases h with rfl | rfl | rfl
      · exact h1
      · exact h2
      · exact h4
    exact ⟨List.mem_cons_of_mem _ hm, wall_good w hm⟩
  · exact gw_0 h5 w h
set_option maxRecDepth 100000 in
theorem wl_2 : Cond.initialized RX6 ∈ wsL_law0 := List.mem_of_getElem? (i := 2) rfl
set_option maxRecDepth 100000 in
theorem wl_5 : Cond.initialized RX7 ∈ wsL_law0 := List.mem_of_getElem? (i := 5) rfl
set_option maxRecDepth 100000 in
theorem wl_15 : Cond.initialized RX1 ∈ wsL_law0 := List.mem_of_getElem? (i := 15) rfl
set_option maxRecDepth 100000 in
theorem wl_16 : Cond.fieldLink RX6 14 "SnapHouse" "theTape" "LSnapHouse$Bytes;" ∈ wsL_law0 := List.mem_of_getElem? (i := 16) rfl
set_option maxRecDepth 100000 in
theorem wl_17 : Cond.fieldLink RX6 18 "SnapHouse" "theOut" "LSnapHouse$Bytes;" ∈ wsL_law0 := List.mem_of_getElem? (i := 17) rfl
set_option maxRecDepth 100000 in
theorem wl_20 : Cond.initialized RX2 ∈ wsL_law0 := List.mem_of_getElem? (i := 20) rfl
set_option maxRecDepth 100000 in
theorem wl_21 : Cond.fieldLink RX6 24 "SnapHouse" "presser" "LSnapHouse$Presser;" ∈ wsL_law0 := List.mem_of_getElem? (i := 21) rfl
set_option maxRecDepth 100000 in
theorem wl_24 : Cond.initialized RX4 ∈ wsL_law0 := List.mem_of_getElem? (i := 24) rfl
set_option maxRecDepth 100000 in
theorem wl_25 : Cond.fieldLink RX6 31 "SnapHouse" "streamMaker" "LSnapHouse$StreamMaker;" ∈ wsL_law0 := List.mem_of_getElem? (i := 25) rfl
set_option maxRecDepth 100000 in
theorem wl_28 : Cond.initialized RX0 ∈ wsL_law0 := List.mem_of_getElem? (i := 28) rfl
set_option maxRecDepth 100000 in
theorem wl_29 : Cond.fieldLink RX6 38 "SnapHouse" "blockOpener" "LSnapHouse$BlockOpener;" ∈ wsL_law0 := List.mem_of_getElem? (i := 29) rfl
set_option maxRecDepth 100000 in
theorem wl_32 : Cond.initialized RX5 ∈ wsL_law0 := List.mem_of_getElem? (i := 32) rfl
set_option maxRecDepth 100000 in
theorem wl_33 : Cond.fieldLink RX6 45 "SnapHouse" "streamOpener" "LSnapHouse$StreamOpener;" ∈ wsL_law0 := List.mem_of_getElem? (i := 33) rfl
set_option maxRecDepth 100000 in
theorem wl_36 : Cond.initialized RX3 ∈ wsL_law0 := List.mem_of_getElem? (i := 36) rfl
set_option maxRecDepth 100000 in
theorem wl_37 : Cond.fieldLink RX6 52 "SnapHouse" "keptElements" "LSnapHouse$Rows;" ∈ wsL_law0 := List.mem_of_getElem? (i := 37) rfl
set_option maxRecDepth 100000 in
theorem wl_38 : Cond.fieldLink RX6 56 "SnapHouse" "keptChunks" "LSnapHouse$Rows;" ∈ wsL_law0 := List.mem_of_getElem? (i := 38) rfl
set_option maxRecDepth 100000 in
theorem wl_39 : Cond.fieldLink RX6 59 "SnapHouse" "faultNumber" "I" ∈ wsL_law0 := List.mem_of_getElem? (i := 39) rfl
set_option maxRecDepth 100000 in
theorem wl_40 : Cond.fieldLink RX6 63 "SnapHouse" "faultPlace" "I" ∈ wsL_law0 := List.mem_of_getElem? (i := 40) rfl
set_option maxRecDepth 100000 in
theorem wl_41 : Cond.fieldLink RX6 66 "SnapHouse" "faultOfBlock" "I" ∈ wsL_law0 := List.mem_of_getElem? (i := 41) rfl
set_option maxRecDepth 100000 in
theorem wl_42 : Cond.fieldLink RX6 69 "SnapHouse" "faultPlaceInBlock" "I" ∈ wsL_law0 := List.mem_of_getElem? (i := 42) rfl
set_option maxRecDepth 100000 in
theorem wl_47 : Cond.fieldLink RX1 9 "SnapHouse$Bytes" "count" "I" ∈ wsL_law0 := List.mem_of_getElem? (i := 47) rfl
set_option maxRecDepth 100000 in
theorem wl_49 : Cond.static Lib.Math.max.name ∈ wsL_law0 := List.mem_of_getElem? (i := 49) rfl
set_option maxRecDepth 100000 in
theorem wl_50 : Cond.initialized "java/lang/Math" ∈ wsL_law0 := List.mem_of_getElem? (i := 50) rfl
set_option maxRecDepth 100000 in
theorem wl_51 : Cond.code Lib.Math.max.name Lib.Math.max.code 2 (some .int) ∈ wsL_law0 := List.mem_of_getElem? (i := 51) rfl
set_option maxRecDepth 100000 in
theorem wl_53 : Cond.fieldLink RX1 21 "SnapHouse$Bytes" "row" "[I" ∈ wsL_law0 := List.mem_of_getElem? (i := 53) rfl
set_option maxRecDepth 100000 in
theorem wl_58 : Cond.fieldLink RX2 14 "SnapHouse$Presser" "block" "LSnapHouse$Bytes;" ∈ wsL_law0 := List.mem_of_getElem? (i := 58) rfl
set_option maxRecDepth 100000 in
theorem wl_60 : Cond.fieldLink RX2 21 "SnapHouse$Presser" "slots" "[I" ∈ wsL_law0 := List.mem_of_getElem? (i := 60) rfl
set_option maxRecDepth 100000 in
theorem wl_61 : Cond.fieldLink RX2 25 "SnapHouse$Presser" "slotMask" "I" ∈ wsL_law0 := List.mem_of_getElem? (i := 61) rfl
set_option maxRecDepth 100000 in
theorem wl_67 : Cond.fieldLink RX4 14 "SnapHouse$StreamMaker" "made" "LSnapHouse$Bytes;" ∈ wsL_law0 := List.mem_of_getElem? (i := 67) rfl
set_option maxRecDepth 100000 in
theorem wl_73 : Cond.fieldLink RX0 14 "SnapHouse$BlockOpener" "given" "LSnapHouse$Bytes;" ∈ wsL_law0 := List.mem_of_getElem? (i := 73) rfl
set_option maxRecDepth 100000 in
theorem wl_75 : Cond.fieldLink RX0 23 "SnapHouse$BlockOpener" "elements" "LSnapHouse$Rows;" ∈ wsL_law0 := List.mem_of_getElem? (i := 75) rfl
set_option maxRecDepth 100000 in
theorem wl_76 : Cond.fieldLink RX0 27 "SnapHouse$BlockOpener" "fault" "I" ∈ wsL_law0 := List.mem_of_getElem? (i := 76) rfl
set_option maxRecDepth 100000 in
theorem wl_77 : Cond.fieldLink RX0 31 "SnapHouse$BlockOpener" "place" "I" ∈ wsL_law0 := List.mem_of_getElem? (i := 77) rfl
set_option maxRecDepth 100000 in
theorem wl_78 : Cond.fieldLink RX0 34 "SnapHouse$BlockOpener" "start" "I" ∈ wsL_law0 := List.mem_of_getElem? (i := 78) rfl
set_option maxRecDepth 100000 in
theorem wl_79 : Cond.fieldLink RX0 37 "SnapHouse$BlockOpener" "end" "I" ∈ wsL_law0 := List.mem_of_getElem? (i := 79) rfl
set_option maxRecDepth 100000 in
theorem wl_80 : Cond.fieldLink RX0 40 "SnapHouse$BlockOpener" "next" "I" ∈ wsL_law0 := List.mem_of_getElem? (i := 80) rfl
set_option maxRecDepth 100000 in
theorem wl_81 : Cond.fieldLink RX0 43 "SnapHouse$BlockOpener" "length" "I" ∈ wsL_law0 := List.mem_of_getElem? (i := 81) rfl
set_option maxRecDepth 100000 in
theorem wl_82 : Cond.fieldLink RX0 46 "SnapHouse$BlockOpener" "sort" "I" ∈ wsL_law0 := List.mem_of_getElem? (i := 82) rfl
set_option maxRecDepth 100000 in
theorem wl_83 : Cond.fieldLink RX0 49 "SnapHouse$BlockOpener" "body" "I" ∈ wsL_law0 := List.mem_of_getElem? (i := 83) rfl
set_option maxRecDepth 100000 in
theorem wl_84 : Cond.fieldLink RX0 52 "SnapHouse$BlockOpener" "size" "J" ∈ wsL_law0 := List.mem_of_getElem? (i := 84) rfl
set_option maxRecDepth 100000 in
theorem wl_85 : Cond.fieldLink RX0 56 "SnapHouse$BlockOpener" "back" "J" ∈ wsL_law0 := List.mem_of_getElem? (i := 85) rfl
set_option maxRecDepth 100000 in
theorem wl_90 : Cond.fieldLink RX3 11 "SnapHouse$Rows" "cells" "[I" ∈ wsL_law0 := List.mem_of_getElem? (i := 90) rfl
set_option maxRecDepth 100000 in
theorem wl_91 : Cond.fieldLink RX3 15 "SnapHouse$Rows" "count" "I" ∈ wsL_law0 := List.mem_of_getElem? (i := 91) rfl
set_option maxRecDepth 100000 in
theorem wl_92 : Cond.fieldLink RX3 19 "SnapHouse$Rows" "marked" "I" ∈ wsL_law0 := List.mem_of_getElem? (i := 92) rfl
set_option maxRecDepth 100000 in
theorem wl_97 : Cond.fieldLink RX5 14 "SnapHouse$StreamOpener" "given" "LSnapHouse$Bytes;" ∈ wsL_law0 := List.mem_of_getElem? (i := 97) rfl
set_option maxRecDepth 100000 in
theorem wl_99 : Cond.fieldLink RX5 23 "SnapHouse$StreamOpener" "chunks" "LSnapHouse$Rows;" ∈ wsL_law0 := List.mem_of_getElem? (i := 99) rfl
set_option maxRecDepth 100000 in
theorem wl_100 : Cond.fieldLink RX5 27 "SnapHouse$StreamOpener" "fault" "I" ∈ wsL_law0 := List.mem_of_getElem? (i := 100) rfl
set_option maxRecDepth 100000 in
theorem wl_101 : Cond.fieldLink RX5 31 "SnapHouse$StreamOpener" "place" "I" ∈ wsL_law0 := List.mem_of_getElem? (i := 101) rfl
set_option maxRecDepth 100000 in
theorem wl_102 : Cond.fieldLink RX5 34 "SnapHouse$StreamOpener" "next" "I" ∈ wsL_law0 := List.mem_of_getElem? (i := 102) rfl
set_option maxRecDepth 100000 in
theorem wl_103 : Cond.fieldLink RX5 37 "SnapHouse$StreamOpener" "type" "I" ∈ wsL_law0 := List.mem_of_getElem? (i := 103) rfl
set_option maxRecDepth 100000 in
theorem wl_104 : Cond.fieldLink RX5 40 "SnapHouse$StreamOpener" "body" "I" ∈ wsL_law0 := List.mem_of_getElem? (i := 104) rfl
set_option maxRecDepth 100000 in
theorem wl_105 : Cond.fieldLink RX5 43 "SnapHouse$StreamOpener" "size" "I" ∈ wsL_law0 := List.mem_of_getElem? (i := 105) rfl
set_option maxRecDepth 100000 in
theorem wl_112 : Cond.fieldLink RX7 7 "SnapHouseModel" "tape" "[B" ∈ wsL_law0 := List.mem_of_getElem? (i := 112) rfl
set_option maxRecDepth 100000 in
theorem wl_113 : Cond.fieldLink RX7 13 "SnapHouseModel" "out" "[B" ∈ wsL_law0 := List.mem_of_getElem? (i := 113) rfl
set_option maxRecDepth 100000 in
theorem wl_114 : Cond.fieldLink RX7 16 "SnapHouseModel" "made" "[B" ∈ wsL_law0 := List.mem_of_getElem? (i := 114) rfl
set_option maxRecDepth 100000 in
theorem wl_115 : Cond.fieldLink RX7 19 "SnapHouseModel" "packed" "[B" ∈ wsL_law0 := List.mem_of_getElem? (i := 115) rfl
set_option maxRecDepth 100000 in
theorem wl_116 : Cond.fieldLink RX7 22 "SnapHouseModel" "latest" "[I" ∈ wsL_law0 := List.mem_of_getElem? (i := 116) rfl
set_option maxRecDepth 100000 in
theorem wl_117 : Cond.fieldLink RX7 26 "SnapHouseModel" "ahead" "[I" ∈ wsL_law0 := List.mem_of_getElem? (i := 117) rfl
set_option maxRecDepth 100000 in
theorem wl_118 : Cond.fieldLink RX7 29 "SnapHouseModel" "notes" "[I" ∈ wsL_law0 := List.mem_of_getElem? (i := 118) rfl
set_option maxRecDepth 100000 in
theorem wl_119 : Cond.fieldLink RX7 32 "SnapHouseModel" "elements" "[I" ∈ wsL_law0 := List.mem_of_getElem? (i := 119) rfl
set_option maxRecDepth 100000 in
theorem wl_120 : Cond.fieldLink RX7 35 "SnapHouseModel" "chunks" "[I" ∈ wsL_law0 := List.mem_of_getElem? (i := 120) rfl
set_option maxRecDepth 100000 in
theorem wl_121 : Cond.fieldLink RX7 38 "SnapHouseModel" "faultNumber" "I" ∈ wsL_law0 := List.mem_of_getElem? (i := 121) rfl
set_option maxRecDepth 100000 in
theorem wl_122 : Cond.fieldLink RX7 42 "SnapHouseModel" "faultPlace" "I" ∈ wsL_law0 := List.mem_of_getElem? (i := 122) rfl
set_option maxRecDepth 100000 in
theorem wl_123 : Cond.fieldLink RX7 45 "SnapHouseModel" "faultInnerPlace" "I" ∈ wsL_law0 := List.mem_of_getElem? (i := 123) rfl
set_option maxRecDepth 100000 in
theorem wl_124 : Cond.fieldLink RX7 48 "SnapHouseModel" "sums" "[I" ∈ wsL_law0 := List.mem_of_getElem? (i := 124) rfl
set_option maxRecDepth 100000 in
theorem wl_125 : Cond.fieldLink RX7 51 "SnapHouseModel" "found" "[I" ∈ wsL_law0 := List.mem_of_getElem? (i := 125) rfl
set_option maxRecDepth 100000 in
theorem wl_126 : Cond.fieldLink RX7 54 "SnapHouseModel" "before" "[B" ∈ wsL_law0 := List.mem_of_getElem? (i := 126) rfl
set_option maxRecDepth 100000 in
theorem wl_132 : Cond.methodLink RX6 72 yX1_hasRoomFor ∈ wsL_law0 := List.mem_of_getElem? (i := 132) rfl
set_option maxRecDepth 100000 in
theorem wl_133 : Cond.instanceMethod yX1_hasRoomFor ∈ wsL_law0 := List.mem_of_getElem? (i := 133) rfl
set_option maxRecDepth 100000 in
theorem wl_134 : Cond.selects RX1 yX1_hasRoomFor yX1_hasRoomFor ∈ wsL_law0 := List.mem_of_getElem? (i := 134) rfl
set_option maxRecDepth 100000 in
theorem wl_135 : Cond.code yX1_hasRoomFor cX1_hasRoomFor 2 (some .boolean) ∈ wsL_law0 := List.mem_of_getElem? (i := 135) rfl
set_option maxRecDepth 100000 in
theorem wl_136 : Cond.methodLink RX6 76 yX1_putHighestFirst ∈ wsL_law0 := List.mem_of_getElem? (i := 136) rfl
set_option maxRecDepth 100000 in
theorem wl_137 : Cond.instanceMethod yX1_putHighestFirst ∈ wsL_law0 := List.mem_of_getElem? (i := 137) rfl
set_option maxRecDepth 100000 in
theorem wl_138 : Cond.selects RX1 yX1_putHighestFirst yX1_putHighestFirst ∈ wsL_law0 := List.mem_of_getElem? (i := 138) rfl
set_option maxRecDepth 100000 in
theorem wl_139 : Cond.code yX1_putHighestFirst cX1_putHighestFirst 2 none ∈ wsL_law0 := List.mem_of_getElem? (i := 139) rfl
set_option maxRecDepth 100000 in
theorem wl_140 : Cond.methodLink RX1 33 yX1_put ∈ wsL_law0 := List.mem_of_getElem? (i := 140) rfl
set_option maxRecDepth 100000 in
theorem wl_141 : Cond.instanceMethod yX1_put ∈ wsL_law0 := List.mem_of_getElem? (i := 141) rfl
set_option maxRecDepth 100000 in
theorem wl_142 : Cond.selects RX1 yX1_put yX1_put ∈ wsL_law0 := List.mem_of_getElem? (i := 142) rfl
set_option maxRecDepth 100000 in
theorem wl_143 : Cond.code yX1_put cX1_put 2 none ∈ wsL_law0 := List.mem_of_getElem? (i := 143) rfl
set_option maxRecDepth 100000 in
theorem wl_148 : Cond.fieldLink RX7 58 "SnapHouseModel" "thrown" "I" ∈ wsL_law0 := List.mem_of_getElem? (i := 148) rfl
set_option maxRecDepth 100000 in
theorem wl_149 : Cond.fieldLink RX7 61 "SnapHouseModel" "taped" "I" ∈ wsL_law0 := List.mem_of_getElem? (i := 149) rfl
set_option maxRecDepth 100000 in
theorem wl_150 : Cond.methodLink RX7 64 yX7_word ∈ wsL_law0 := List.mem_of_getElem? (i := 150) rfl
set_option maxRecDepth 100000 in
theorem wl_151 : Cond.instanceMethod yX7_word ∈ wsL_law0 := List.mem_of_getElem? (i := 151) rfl
set_option maxRecDepth 100000 in
theorem wl_152 : Cond.selects RX7 yX7_word yX7_word ∈ wsL_law0 := List.mem_of_getElem? (i := 152) rfl
set_option maxRecDepth 100000 in
theorem wl_153 : Cond.code yX7_word cX7_word 3 none ∈ wsL_law0 := List.mem_of_getElem? (i := 153) rfl
set_option maxRecDepth 100000 in
theorem wl_158 : Cond.methodLink RX6 82 yX6_isByte ∈ wsL_law0 := List.mem_of_getElem? (i := 158) rfl
set_option maxRecDepth 100000 in
theorem wl_159 : Cond.static yX6_isByte ∈ wsL_law0 := List.mem_of_getElem? (i := 159) rfl
set_option maxRecDepth 100000 in
theorem wl_160 : Cond.code yX6_isByte cX6_isByte 1 (some .boolean) ∈ wsL_law0 := List.mem_of_getElem? (i := 160) rfl
set_option maxRecDepth 100000 in
theorem wl_161 : Cond.methodLink RX6 85 yX1_put ∈ wsL_law0 := List.mem_of_getElem? (i := 161) rfl
set_option maxRecDepth 100000 in
theorem wl_170 : Cond.methodLink RX6 88 yX1_hasPlace ∈ wsL_law0 := List.mem_of_getElem? (i := 170) rfl
set_option maxRecDepth 100000 in
theorem wl_171 : Cond.instanceMethod yX1_hasPlace ∈ wsL_law0 := List.mem_of_getElem? (i := 171) rfl
set_option maxRecDepth 100000 in
theorem wl_172 : Cond.selects RX1 yX1_hasPlace yX1_hasPlace ∈ wsL_law0 := List.mem_of_getElem? (i := 172) rfl
set_option maxRecDepth 100000 in
theorem wl_173 : Cond.code yX1_hasPlace cX1_hasPlace 2 (some .boolean) ∈ wsL_law0 := List.mem_of_getElem? (i := 173) rfl
set_option maxRecDepth 100000 in
theorem wl_174 : Cond.methodLink RX6 91 yX1_putOwn ∈ wsL_law0 := List.mem_of_getElem? (i := 174) rfl
set_option maxRecDepth 100000 in
theorem wl_175 : Cond.instanceMethod yX1_putOwn ∈ wsL_law0 := List.mem_of_getElem? (i := 175) rfl
set_option maxRecDepth 100000 in
theorem wl_176 : Cond.selects RX1 yX1_putOwn yX1_putOwn ∈ wsL_law0 := List.mem_of_getElem? (i := 176) rfl
set_option maxRecDepth 100000 in
theorem wl_177 : Cond.code yX1_putOwn cX1_putOwn 4 none ∈ wsL_law0 := List.mem_of_getElem? (i := 177) rfl
set_option maxRecDepth 100000 in
theorem wl_178 : Cond.methodLink RX1 25 yX1_hasPlace ∈ wsL_law0 := List.mem_of_getElem? (i := 178) rfl
set_option maxRecDepth 100000 in
theorem wl_179 : Cond.methodLink RX1 37 yX1_hasRoomFor ∈ wsL_law0 := List.mem_of_getElem? (i := 179) rfl
set_option maxRecDepth 100000 in
theorem wl_188 : Cond.methodLink RX6 95 yX1_has ∈ wsL_law0 := List.mem_of_getElem? (i := 188) rfl
set_option maxRecDepth 100000 in
theorem wl_189 : Cond.instanceMethod yX1_has ∈ wsL_law0 := List.mem_of_getElem? (i := 189) rfl
set_option maxRecDepth 100000 in
theorem wl_190 : Cond.selects RX1 yX1_has yX1_has ∈ wsL_law0 := List.mem_of_getElem? (i := 190) rfl
set_option maxRecDepth 100000 in
theorem wl_191 : Cond.code yX1_has cX1_has 3 (some .boolean) ∈ wsL_law0 := List.mem_of_getElem? (i := 191) rfl
set_option maxRecDepth 100000 in
theorem wl_192 : Cond.methodLink RX6 99 yX1_shorten ∈ wsL_law0 := List.mem_of_getElem? (i := 192) rfl
set_option maxRecDepth 100000 in
theorem wl_193 : Cond.instanceMethod yX1_shorten ∈ wsL_law0 := List.mem_of_getElem? (i := 193) rfl
set_option maxRecDepth 100000 in
theorem wl_194 : Cond.selects RX1 yX1_shorten yX1_shorten ∈ wsL_law0 := List.mem_of_getElem? (i := 194) rfl
set_option maxRecDepth 100000 in
theorem wl_195 : Cond.code yX1_shorten cX1_shorten 2 none ∈ wsL_law0 := List.mem_of_getElem? (i := 195) rfl
set_option maxRecDepth 100000 in
theorem wl_196 : Cond.methodLink RX1 29 yX1_has ∈ wsL_law0 := List.mem_of_getElem? (i := 196) rfl
set_option maxRecDepth 100000 in
theorem wl_205 : Cond.methodLink RX6 102 yX1_at ∈ wsL_law0 := List.mem_of_getElem? (i := 205) rfl
set_option maxRecDepth 100000 in
theorem wl_206 : Cond.instanceMethod yX1_at ∈ wsL_law0 := List.mem_of_getElem? (i := 206) rfl
set_option maxRecDepth 100000 in
theorem wl_207 : Cond.selects RX1 yX1_at yX1_at ∈ wsL_law0 := List.mem_of_getElem? (i := 207) rfl
set_option maxRecDepth 100000 in
theorem wl_208 : Cond.code yX1_at cX1_at 2 (some .int) ∈ wsL_law0 := List.mem_of_getElem? (i := 208) rfl
set_option maxRecDepth 100000 in
theorem wl_209 : Cond.methodLink RX6 106 yX1_change ∈ wsL_law0 := List.mem_of_getElem? (i := 209) rfl
set_option maxRecDepth 100000 in
theorem wl_210 : Cond.instanceMethod yX1_change ∈ wsL_law0 := List.mem_of_getElem? (i := 210) rfl
set_option maxRecDepth 100000 in
theorem wl_211 : Cond.selects RX1 yX1_change yX1_change ∈ wsL_law0 := List.mem_of_getElem? (i := 211) rfl
set_option maxRecDepth 100000 in
theorem wl_212 : Cond.code yX1_change cX1_change 3 none ∈ wsL_law0 := List.mem_of_getElem? (i := 212) rfl
set_option maxRecDepth 100000 in
theorem wl_221 : Cond.methodLink RX6 109 yX1_become ∈ wsL_law0 := List.mem_of_getElem? (i := 221) rfl
set_option maxRecDepth 100000 in
theorem wl_222 : Cond.instanceMethod yX1_become ∈ wsL_law0 := List.mem_of_getElem? (i := 222) rfl
set_option maxRecDepth 100000 in
theorem wl_223 : Cond.selects RX1 yX1_become yX1_become ∈ wsL_law0 := List.mem_of_getElem? (i := 223) rfl
set_option maxRecDepth 100000 in
theorem wl_224 : Cond.code yX1_become cX1_become 2 none ∈ wsL_law0 := List.mem_of_getElem? (i := 224) rfl
set_option maxRecDepth 100000 in
theorem wl_225 : Cond.methodLink RX1 46 yX1_putAll ∈ wsL_law0 := List.mem_of_getElem? (i := 225) rfl
set_option maxRecDepth 100000 in
theorem wl_226 : Cond.instanceMethod yX1_putAll ∈ wsL_law0 := List.mem_of_getElem? (i := 226) rfl
set_option maxRecDepth 100000 in
theorem wl_227 : Cond.selects RX1 yX1_putAll yX1_putAll ∈ wsL_law0 := List.mem_of_getElem? (i := 227) rfl
set_option maxRecDepth 100000 in
theorem wl_228 : Cond.code yX1_putAll cX1_putAll 4 none ∈ wsL_law0 := List.mem_of_getElem? (i := 228) rfl
set_option maxRecDepth 100000 in
theorem wl_229 : Cond.methodLink RX1 40 arraycopyName ∈ wsL_law0 := List.mem_of_getElem? (i := 229) rfl
set_option maxRecDepth 100000 in
theorem wl_230 : Cond.native arraycopyName ∈ wsL_law0 := List.mem_of_getElem? (i := 230) rfl
set_option maxRecDepth 100000 in
theorem wl_231 : Cond.static arraycopyName ∈ wsL_law0 := List.mem_of_getElem? (i := 231) rfl
set_option maxRecDepth 100000 in
theorem wl_232 : Cond.initialized "java/lang/System" ∈ wsL_law0 := List.mem_of_getElem? (i := 232) rfl
set_option maxRecDepth 100000 in
theorem wl_237 : Cond.fieldLink RX7 68 "SnapHouseModel" "outs" "I" ∈ wsL_law0 := List.mem_of_getElem? (i := 237) rfl
set_option maxRecDepth 100000 in
theorem wl_250 : Cond.methodLink RX6 113 yX2_pressBlock ∈ wsL_law0 := List.mem_of_getElem? (i := 250) rfl
set_option maxRecDepth 100000 in
theorem wl_251 : Cond.instanceMethod yX2_pressBlock ∈ wsL_law0 := List.mem_of_getElem? (i := 251) rfl
set_option maxRecDepth 100000 in
theorem wl_252 : Cond.selects RX2 yX2_pressBlock yX2_pressBlock ∈ wsL_law0 := List.mem_of_getElem? (i := 252) rfl
set_option maxRecDepth 100000 in
theorem wl_253 : Cond.code yX2_pressBlock cX2_pressBlock 9 none ∈ wsL_law0 := List.mem_of_getElem? (i := 253) rfl
set_option maxRecDepth 100000 in
theorem wl_254 : Cond.methodLink RX2 29 yX1_shorten ∈ wsL_law0 := List.mem_of_getElem? (i := 254) rfl
set_option maxRecDepth 100000 in
theorem wl_255 : Cond.methodLink RX2 32 yX2_putLength ∈ wsL_law0 := List.mem_of_getElem? (i := 255) rfl
set_option maxRecDepth 100000 in
theorem wl_256 : Cond.instanceMethod yX2_putLength ∈ wsL_law0 := List.mem_of_getElem? (i := 256) rfl
set_option maxRecDepth 100000 in
theorem wl_257 : Cond.selects RX2 yX2_putLength yX2_putLength ∈ wsL_law0 := List.mem_of_getElem? (i := 257) rfl
set_option maxRecDepth 100000 in
theorem wl_258 : Cond.code yX2_putLength cX2_putLength 4 none ∈ wsL_law0 := List.mem_of_getElem? (i := 258) rfl
set_option maxRecDepth 100000 in
theorem wl_259 : Cond.methodLink RX2 54 yX1_put ∈ wsL_law0 := List.mem_of_getElem? (i := 259) rfl
set_option maxRecDepth 100000 in
theorem wl_260 : Cond.methodLink RX2 35 yX2_freeSlots ∈ wsL_law0 := List.mem_of_getElem? (i := 260) rfl
set_option maxRecDepth 100000 in
theorem wl_261 : Cond.instanceMethod yX2_freeSlots ∈ wsL_law0 := List.mem_of_getElem? (i := 261) rfl
set_option maxRecDepth 100000 in
theorem wl_262 : Cond.selects RX2 yX2_freeSlots yX2_freeSlots ∈ wsL_law0 := List.mem_of_getElem? (i := 262) rfl
set_option maxRecDepth 100000 in
theorem wl_263 : Cond.code yX2_freeSlots cX2_freeSlots 4 none ∈ wsL_law0 := List.mem_of_getElem? (i := 263) rfl
set_option maxRecDepth 100000 in
theorem wl_264 : Cond.methodLink RX2 38 yX2_noteAndFind ∈ wsL_law0 := List.mem_of_getElem? (i := 264) rfl
set_option maxRecDepth 100000 in
theorem wl_265 : Cond.instanceMethod yX2_noteAndFind ∈ wsL_law0 := List.mem_of_getElem? (i := 265) rfl
set_option maxRecDepth 100000 in
theorem wl_266 : Cond.selects RX2 yX2_noteAndFind yX2_noteAndFind ∈ wsL_law0 := List.mem_of_getElem? (i := 266) rfl
set_option maxRecDepth 100000 in
theorem wl_267 : Cond.code yX2_noteAndFind cX2_noteAndFind 7 (some .int) ∈ wsL_law0 := List.mem_of_getElem? (i := 267) rfl
set_option maxRecDepth 100000 in
theorem wl_268 : Cond.constant RX2 61 (-1640531535) ∈ wsL_law0 := List.mem_of_getElem? (i := 268) rfl
set_option maxRecDepth 100000 in
theorem wl_269 : Cond.methodLink RX2 57 yX1_fourFrom ∈ wsL_law0 := List.mem_of_getElem? (i := 269) rfl
set_option maxRecDepth 100000 in
theorem wl_270 : Cond.instanceMethod yX1_fourFrom ∈ wsL_law0 := List.mem_of_getElem? (i := 270) rfl
set_option maxRecDepth 100000 in
theorem wl_271 : Cond.selects RX1 yX1_fourFrom yX1_fourFrom ∈ wsL_law0 := List.mem_of_getElem? (i := 271) rfl
set_option maxRecDepth 100000 in
theorem wl_272 : Cond.code yX1_fourFrom cX1_fourFrom 2 (some .int) ∈ wsL_law0 := List.mem_of_getElem? (i := 272) rfl
set_option maxRecDepth 100000 in
theorem wl_273 : Cond.methodLink RX2 42 yX2_countAlike ∈ wsL_law0 := List.mem_of_getElem? (i := 273) rfl
set_option maxRecDepth 100000 in
theorem wl_274 : Cond.static yX2_countAlike ∈ wsL_law0 := List.mem_of_getElem? (i := 274) rfl
set_option maxRecDepth 100000 in
theorem wl_275 : Cond.code yX2_countAlike cX2_countAlike 5 (some .int) ∈ wsL_law0 := List.mem_of_getElem? (i := 275) rfl
set_option maxRecDepth 100000 in
theorem wl_276 : Cond.methodLink RX2 62 yX1_at ∈ wsL_law0 := List.mem_of_getElem? (i := 276) rfl
set_option maxRecDepth 100000 in
theorem wl_277 : Cond.methodLink RX2 46 yX2_putLiteral ∈ wsL_law0 := List.mem_of_getElem? (i := 277) rfl
set_option maxRecDepth 100000 in
theorem wl_278 : Cond.instanceMethod yX2_putLiteral ∈ wsL_law0 := List.mem_of_getElem? (i := 278) rfl
set_option maxRecDepth 100000 in
theorem wl_279 : Cond.selects RX2 yX2_putLiteral yX2_putLiteral ∈ wsL_law0 := List.mem_of_getElem? (i := 279) rfl
set_option maxRecDepth 100000 in
theorem wl_280 : Cond.code yX2_putLiteral cX2_putLiteral 6 none ∈ wsL_law0 := List.mem_of_getElem? (i := 280) rfl
set_option maxRecDepth 100000 in
theorem wl_281 : Cond.methodLink RX2 65 yX1_putLowestFirst ∈ wsL_law0 := List.mem_of_getElem? (i := 281) rfl
set_option maxRecDepth 100000 in
theorem wl_282 : Cond.instanceMethod yX1_putLowestFirst ∈ wsL_law0 := List.mem_of_getElem? (i := 282) rfl
set_option maxRecDepth 100000 in
theorem wl_283 : Cond.selects RX1 yX1_putLowestFirst yX1_putLowestFirst ∈ wsL_law0 := List.mem_of_getElem? (i := 283) rfl
set_option maxRecDepth 100000 in
theorem wl_284 : Cond.code yX1_putLowestFirst cX1_putLowestFirst 4 none ∈ wsL_law0 := List.mem_of_getElem? (i := 284) rfl
set_option maxRecDepth 100000 in
theorem wl_285 : Cond.methodLink RX2 68 yX1_putAll ∈ wsL_law0 := List.mem_of_getElem? (i := 285) rfl
set_option maxRecDepth 100000 in
theorem wl_286 : Cond.methodLink RX2 50 yX2_putCopies ∈ wsL_law0 := List.mem_of_getElem? (i := 286) rfl
set_option maxRecDepth 100000 in
theorem wl_287 : Cond.instanceMethod yX2_putCopies ∈ wsL_law0 := List.mem_of_getElem? (i := 287) rfl
set_option maxRecDepth 100000 in
theorem wl_288 : Cond.selects RX2 yX2_putCopies yX2_putCopies ∈ wsL_law0 := List.mem_of_getElem? (i := 288) rfl
set_option maxRecDepth 100000 in
theorem wl_289 : Cond.code yX2_putCopies cX2_putCopies 4 none ∈ wsL_law0 := List.mem_of_getElem? (i := 289) rfl
set_option maxRecDepth 100000 in
theorem wl_290 : Cond.methodLink RX2 71 yX2_putCopy ∈ wsL_law0 := List.mem_of_getElem? (i := 290) rfl
set_option maxRecDepth 100000 in
theorem wl_291 : Cond.instanceMethod yX2_putCopy ∈ wsL_law0 := List.mem_of_getElem? (i := 291) rfl
set_option maxRecDepth 100000 in
theorem wl_292 : Cond.selects RX2 yX2_putCopy yX2_putCopy ∈ wsL_law0 := List.mem_of_getElem? (i := 292) rfl
set_option maxRecDepth 100000 in
theorem wl_293 : Cond.code yX2_putCopy cX2_putCopy 3 none ∈ wsL_law0 := List.mem_of_getElem? (i := 293) rfl
set_option maxRecDepth 100000 in
theorem wl_298 : Cond.fieldLink RX7 76 "SnapHouseModel" "packs" "I" ∈ wsL_law0 := List.mem_of_getElem? (i := 298) rfl
set_option maxRecDepth 100000 in
theorem wl_299 : Cond.methodLink RX7 100 yX7_pressPart ∈ wsL_law0 := List.mem_of_getElem? (i := 299) rfl
set_option maxRecDepth 100000 in
theorem wl_300 : Cond.instanceMethod yX7_pressPart ∈ wsL_law0 := List.mem_of_getElem? (i := 300) rfl
set_option maxRecDepth 100000 in
theorem wl_301 : Cond.selects RX7 yX7_pressPart yX7_pressPart ∈ wsL_law0 := List.mem_of_getElem? (i := 301) rfl
set_option maxRecDepth 100000 in
theorem wl_302 : Cond.code yX7_pressPart cX7_pressPart 11 none ∈ wsL_law0 := List.mem_of_getElem? (i := 302) rfl
set_option maxRecDepth 100000 in
theorem wl_303 : Cond.methodLink RX7 79 yX7_pack ∈ wsL_law0 := List.mem_of_getElem? (i := 303) rfl
set_option maxRecDepth 100000 in
theorem wl_304 : Cond.instanceMethod yX7_pack ∈ wsL_law0 := List.mem_of_getElem? (i := 304) rfl
set_option maxRecDepth 100000 in
theorem wl_305 : Cond.selects RX7 yX7_pack yX7_pack ∈ wsL_law0 := List.mem_of_getElem? (i := 305) rfl
set_option maxRecDepth 100000 in
theorem wl_306 : Cond.code yX7_pack cX7_pack 2 none ∈ wsL_law0 := List.mem_of_getElem? (i := 306) rfl
set_option maxRecDepth 100000 in
theorem wl_307 : Cond.methodLink RX7 82 yX7_keyOf ∈ wsL_law0 := List.mem_of_getElem? (i := 307) rfl
set_option maxRecDepth 100000 in
theorem wl_308 : Cond.instanceMethod yX7_keyOf ∈ wsL_law0 := List.mem_of_getElem? (i := 308) rfl
set_option maxRecDepth 100000 in
theorem wl_309 : Cond.selects RX7 yX7_keyOf yX7_keyOf ∈ wsL_law0 := List.mem_of_getElem? (i := 309) rfl
set_option maxRecDepth 100000 in
theorem wl_310 : Cond.code yX7_keyOf cX7_keyOf 3 (some .int) ∈ wsL_law0 := List.mem_of_getElem? (i := 310) rfl
set_option maxRecDepth 100000 in
theorem wl_311 : Cond.constant RX7 75 (506832829) ∈ wsL_law0 := List.mem_of_getElem? (i := 311) rfl
set_option maxRecDepth 100000 in
theorem wl_312 : Cond.methodLink RX7 71 yX7_at ∈ wsL_law0 := List.mem_of_getElem? (i := 312) rfl
set_option maxRecDepth 100000 in
theorem wl_313 : Cond.instanceMethod yX7_at ∈ wsL_law0 := List.mem_of_getElem? (i := 313) rfl
set_option maxRecDepth 100000 in
theorem wl_314 : Cond.selects RX7 yX7_at yX7_at ∈ wsL_law0 := List.mem_of_getElem? (i := 314) rfl
set_option maxRecDepth 100000 in
theorem wl_315 : Cond.code yX7_at cX7_at 2 (some .int) ∈ wsL_law0 := List.mem_of_getElem? (i := 315) rfl
set_option maxRecDepth 100000 in
theorem wl_316 : Cond.methodLink RX7 85 yX7_areFour ∈ wsL_law0 := List.mem_of_getElem? (i := 316) rfl
set_option maxRecDepth 100000 in
theorem wl_317 : Cond.instanceMethod yX7_areFour ∈ wsL_law0 := List.mem_of_getElem? (i := 317) rfl
set_option maxRecDepth 100000 in
theorem wl_318 : Cond.selects RX7 yX7_areFour yX7_areFour ∈ wsL_law0 := List.mem_of_getElem? (i := 318) rfl
set_option maxRecDepth 100000 in
theorem wl_319 : Cond.code yX7_areFour cX7_areFour 3 (some .boolean) ∈ wsL_law0 := List.mem_of_getElem? (i := 319) rfl
set_option maxRecDepth 100000 in
theorem wl_320 : Cond.methodLink RX7 89 yX7_literal ∈ wsL_law0 := List.mem_of_getElem? (i := 320) rfl
set_option maxRecDepth 100000 in
theorem wl_321 : Cond.instanceMethod yX7_literal ∈ wsL_law0 := List.mem_of_getElem? (i := 321) rfl
set_option maxRecDepth 100000 in
theorem wl_322 : Cond.selects RX7 yX7_literal yX7_literal ∈ wsL_law0 := List.mem_of_getElem? (i := 322) rfl
set_option maxRecDepth 100000 in
theorem wl_323 : Cond.code yX7_literal cX7_literal 7 none ∈ wsL_law0 := List.mem_of_getElem? (i := 323) rfl
set_option maxRecDepth 100000 in
theorem wl_324 : Cond.constant RX7 96 (65536) ∈ wsL_law0 := List.mem_of_getElem? (i := 324) rfl
set_option maxRecDepth 100000 in
theorem wl_325 : Cond.methodLink RX7 93 yX7_copies ∈ wsL_law0 := List.mem_of_getElem? (i := 325) rfl
set_option maxRecDepth 100000 in
theorem wl_326 : Cond.instanceMethod yX7_copies ∈ wsL_law0 := List.mem_of_getElem? (i := 326) rfl
set_option maxRecDepth 100000 in
theorem wl_327 : Cond.selects RX7 yX7_copies yX7_copies ∈ wsL_law0 := List.mem_of_getElem? (i := 327) rfl
set_option maxRecDepth 100000 in
theorem wl_328 : Cond.code yX7_copies cX7_copies 4 none ∈ wsL_law0 := List.mem_of_getElem? (i := 328) rfl
set_option maxRecDepth 100000 in
theorem wl_329 : Cond.methodLink RX7 97 yX7_copyTwo ∈ wsL_law0 := List.mem_of_getElem? (i := 329) rfl
set_option maxRecDepth 100000 in
theorem wl_330 : Cond.instanceMethod yX7_copyTwo ∈ wsL_law0 := List.mem_of_getElem? (i := 330) rfl
set_option maxRecDepth 100000 in
theorem wl_331 : Cond.selects RX7 yX7_copyTwo yX7_copyTwo ∈ wsL_law0 := List.mem_of_getElem? (i := 331) rfl
set_option maxRecDepth 100000 in
theorem wl_332 : Cond.code yX7_copyTwo cX7_copyTwo 3 none ∈ wsL_law0 := List.mem_of_getElem? (i := 332) rfl
set_option maxRecDepth 100000 in
theorem wl_333 : Cond.methodLink RX7 103 yX7_give ∈ wsL_law0 := List.mem_of_getElem? (i := 333) rfl
set_option maxRecDepth 100000 in
theorem wl_334 : Cond.instanceMethod yX7_give ∈ wsL_law0 := List.mem_of_getElem? (i := 334) rfl
set_option maxRecDepth 100000 in
theorem wl_335 : Cond.selects RX7 yX7_give yX7_give ∈ wsL_law0 := List.mem_of_getElem? (i := 335) rfl
set_option maxRecDepth 100000 in
theorem wl_336 : Cond.code yX7_give cX7_give 4 none ∈ wsL_law0 := List.mem_of_getElem? (i := 336) rfl
set_option maxRecDepth 100000 in
theorem wl_341 : Cond.methodLink RX6 120 yX0_openBlock ∈ wsL_law0 := List.mem_of_getElem? (i := 341) rfl
set_option maxRecDepth 100000 in
theorem wl_342 : Cond.instanceMethod yX0_openBlock ∈ wsL_law0 := List.mem_of_getElem? (i := 342) rfl
set_option maxRecDepth 100000 in
theorem wl_343 : Cond.selects RX0 yX0_openBlock yX0_openBlock ∈ wsL_law0 := List.mem_of_getElem? (i := 343) rfl
set_option maxRecDepth 100000 in
theorem wl_344 : Cond.code yX0_openBlock cX0_openBlock 5 none ∈ wsL_law0 := List.mem_of_getElem? (i := 344) rfl
set_option maxRecDepth 100000 in
theorem wl_345 : Cond.methodLink RX0 59 yX1_shorten ∈ wsL_law0 := List.mem_of_getElem? (i := 345) rfl
set_option maxRecDepth 100000 in
theorem wl_346 : Cond.methodLink RX0 62 yX3_clear ∈ wsL_law0 := List.mem_of_getElem? (i := 346) rfl
set_option maxRecDepth 100000 in
theorem wl_347 : Cond.instanceMethod yX3_clear ∈ wsL_law0 := List.mem_of_getElem? (i := 347) rfl
set_option maxRecDepth 100000 in
theorem wl_348 : Cond.selects RX3 yX3_clear yX3_clear ∈ wsL_law0 := List.mem_of_getElem? (i := 348) rfl
set_option maxRecDepth 100000 in
theorem wl_349 : Cond.code yX3_clear cX3_clear 1 none ∈ wsL_law0 := List.mem_of_getElem? (i := 349) rfl
set_option maxRecDepth 100000 in
theorem wl_350 : Cond.methodLink RX0 65 yX0_readLength ∈ wsL_law0 := List.mem_of_getElem? (i := 350) rfl
set_option maxRecDepth 100000 in
theorem wl_351 : Cond.instanceMethod yX0_readLength ∈ wsL_law0 := List.mem_of_getElem? (i := 351) rfl
set_option maxRecDepth 100000 in
theorem wl_352 : Cond.selects RX0 yX0_readLength yX0_readLength ∈ wsL_law0 := List.mem_of_getElem? (i := 352) rfl
set_option maxRecDepth 100000 in
theorem wl_353 : Cond.code yX0_readLength cX0_readLength 7 none ∈ wsL_law0 := List.mem_of_getElem? (i := 353) rfl
set_option maxRecDepth 100000 in
theorem wl_354 : Cond.constantLong RX0 89 (4294967296) ∈ wsL_law0 := List.mem_of_getElem? (i := 354) rfl
set_option maxRecDepth 100000 in
theorem wl_355 : Cond.constantLong RX0 91 (20000) ∈ wsL_law0 := List.mem_of_getElem? (i := 355) rfl
set_option maxRecDepth 100000 in
theorem wl_356 : Cond.methodLink RX0 85 yX1_at ∈ wsL_law0 := List.mem_of_getElem? (i := 356) rfl
set_option maxRecDepth 100000 in
theorem wl_357 : Cond.methodLink RX0 81 yX0_fail ∈ wsL_law0 := List.mem_of_getElem? (i := 357) rfl
set_option maxRecDepth 100000 in
theorem wl_358 : Cond.instanceMethod yX0_fail ∈ wsL_law0 := List.mem_of_getElem? (i := 358) rfl
set_option maxRecDepth 100000 in
theorem wl_359 : Cond.selects RX0 yX0_fail yX0_fail ∈ wsL_law0 := List.mem_of_getElem? (i := 359) rfl
set_option maxRecDepth 100000 in
theorem wl_360 : Cond.code yX0_fail cX0_fail 3 none ∈ wsL_law0 := List.mem_of_getElem? (i := 360) rfl
set_option maxRecDepth 100000 in
theorem wl_361 : Cond.methodLink RX0 69 yX0_readElement ∈ wsL_law0 := List.mem_of_getElem? (i := 361) rfl
set_option maxRecDepth 100000 in
theorem wl_362 : Cond.instanceMethod yX0_readElement ∈ wsL_law0 := List.mem_of_getElem? (i := 362) rfl
set_option maxRecDepth 100000 in
theorem wl_363 : Cond.selects RX0 yX0_readElement yX0_readElement ∈ wsL_law0 := List.mem_of_getElem? (i := 363) rfl
set_option maxRecDepth 100000 in
theorem wl_364 : Cond.code yX0_readElement cX0_readElement 7 none ∈ wsL_law0 := List.mem_of_getElem? (i := 364) rfl
set_option maxRecDepth 100000 in
theorem wl_365 : Cond.methodLink RX0 93 yX0_bytesBehindTag ∈ wsL_law0 := List.mem_of_getElem? (i := 365) rfl
set_option maxRecDepth 100000 in
theorem wl_366 : Cond.static yX0_bytesBehindTag ∈ wsL_law0 := List.mem_of_getElem? (i := 366) rfl
set_option maxRecDepth 100000 in
theorem wl_367 : Cond.code yX0_bytesBehindTag cX0_bytesBehindTag 2 (some .int) ∈ wsL_law0 := List.mem_of_getElem? (i := 367) rfl
set_option maxRecDepth 100000 in
theorem wl_368 : Cond.methodLink RX0 97 yX1_lowestFirst ∈ wsL_law0 := List.mem_of_getElem? (i := 368) rfl
set_option maxRecDepth 100000 in
theorem wl_369 : Cond.instanceMethod yX1_lowestFirst ∈ wsL_law0 := List.mem_of_getElem? (i := 369) rfl
set_option maxRecDepth 100000 in
theorem wl_370 : Cond.selects RX1 yX1_lowestFirst yX1_lowestFirst ∈ wsL_law0 := List.mem_of_getElem? (i := 370) rfl
set_option maxRecDepth 100000 in
theorem wl_371 : Cond.code yX1_lowestFirst cX1_lowestFirst 6 (some .long) ∈ wsL_law0 := List.mem_of_getElem? (i := 371) rfl
set_option maxRecDepth 100000 in
theorem wl_372 : Cond.methodLink RX1 50 yX1_at ∈ wsL_law0 := List.mem_of_getElem? (i := 372) rfl
set_option maxRecDepth 100000 in
theorem wl_373 : Cond.methodLink RX0 101 yX0_sizeOf ∈ wsL_law0 := List.mem_of_getElem? (i := 373) rfl
set_option maxRecDepth 100000 in
theorem wl_374 : Cond.static yX0_sizeOf ∈ wsL_law0 := List.mem_of_getElem? (i := 374) rfl
set_option maxRecDepth 100000 in
theorem wl_375 : Cond.code yX0_sizeOf cX0_sizeOf 4 (some .long) ∈ wsL_law0 := List.mem_of_getElem? (i := 375) rfl
set_option maxRecDepth 100000 in
theorem wl_376 : Cond.methodLink RX0 105 yX0_backOf ∈ wsL_law0 := List.mem_of_getElem? (i := 376) rfl
set_option maxRecDepth 100000 in
theorem wl_377 : Cond.static yX0_backOf ∈ wsL_law0 := List.mem_of_getElem? (i := 377) rfl
set_option maxRecDepth 100000 in
theorem wl_378 : Cond.code yX0_backOf cX0_backOf 4 (some .long) ∈ wsL_law0 := List.mem_of_getElem? (i := 378) rfl
set_option maxRecDepth 100000 in
theorem wl_379 : Cond.methodLink RX0 72 yX0_checkElement ∈ wsL_law0 := List.mem_of_getElem? (i := 379) rfl
set_option maxRecDepth 100000 in
theorem wl_380 : Cond.instanceMethod yX0_checkElement ∈ wsL_law0 := List.mem_of_getElem? (i := 380) rfl
set_option maxRecDepth 100000 in
theorem wl_381 : Cond.selects RX0 yX0_checkElement yX0_checkElement ∈ wsL_law0 := List.mem_of_getElem? (i := 381) rfl
set_option maxRecDepth 100000 in
theorem wl_382 : Cond.code yX0_checkElement cX0_checkElement 1 none ∈ wsL_law0 := List.mem_of_getElem? (i := 382) rfl
set_option maxRecDepth 100000 in
theorem wl_383 : Cond.methodLink RX0 75 yX0_giveElement ∈ wsL_law0 := List.mem_of_getElem? (i := 383) rfl
set_option maxRecDepth 100000 in
theorem wl_384 : Cond.instanceMethod yX0_giveElement ∈ wsL_law0 := List.mem_of_getElem? (i := 384) rfl
set_option maxRecDepth 100000 in
theorem wl_385 : Cond.selects RX0 yX0_giveElement yX0_giveElement ∈ wsL_law0 := List.mem_of_getElem? (i := 385) rfl
set_option maxRecDepth 100000 in
theorem wl_386 : Cond.code yX0_giveElement cX0_giveElement 4 none ∈ wsL_law0 := List.mem_of_getElem? (i := 386) rfl
set_option maxRecDepth 100000 in
theorem wl_387 : Cond.methodLink RX0 108 yX3_add ∈ wsL_law0 := List.mem_of_getElem? (i := 387) rfl
set_option maxRecDepth 100000 in
theorem wl_388 : Cond.instanceMethod yX3_add ∈ wsL_law0 := List.mem_of_getElem? (i := 388) rfl
set_option maxRecDepth 100000 in
theorem wl_389 : Cond.selects RX3 yX3_add yX3_add ∈ wsL_law0 := List.mem_of_getElem? (i := 389) rfl
set_option maxRecDepth 100000 in
theorem wl_390 : Cond.code yX3_add cX3_add 8 none ∈ wsL_law0 := List.mem_of_getElem? (i := 390) rfl
set_option maxRecDepth 100000 in
theorem wl_391 : Cond.methodLink RX0 112 yX1_putAll ∈ wsL_law0 := List.mem_of_getElem? (i := 391) rfl
set_option maxRecDepth 100000 in
theorem wl_392 : Cond.methodLink RX0 116 yX1_putOwn ∈ wsL_law0 := List.mem_of_getElem? (i := 392) rfl
set_option maxRecDepth 100000 in
theorem wl_393 : Cond.methodLink RX6 129 yX6_keepFault ∈ wsL_law0 := List.mem_of_getElem? (i := 393) rfl
set_option maxRecDepth 100000 in
theorem wl_394 : Cond.instanceMethod yX6_keepFault ∈ wsL_law0 := List.mem_of_getElem? (i := 394) rfl
set_option maxRecDepth 100000 in
theorem wl_395 : Cond.selects RX6 yX6_keepFault yX6_keepFault ∈ wsL_law0 := List.mem_of_getElem? (i := 395) rfl
set_option maxRecDepth 100000 in
theorem wl_396 : Cond.code yX6_keepFault cX6_keepFault 5 none ∈ wsL_law0 := List.mem_of_getElem? (i := 396) rfl
set_option maxRecDepth 100000 in
theorem wl_397 : Cond.methodLink RX6 139 yX3_become ∈ wsL_law0 := List.mem_of_getElem? (i := 397) rfl
set_option maxRecDepth 100000 in
theorem wl_398 : Cond.instanceMethod yX3_become ∈ wsL_law0 := List.mem_of_getElem? (i := 398) rfl
set_option maxRecDepth 100000 in
theorem wl_399 : Cond.selects RX3 yX3_become yX3_become ∈ wsL_law0 := List.mem_of_getElem? (i := 399) rfl
set_option maxRecDepth 100000 in
theorem wl_400 : Cond.code yX3_become cX3_become 2 none ∈ wsL_law0 := List.mem_of_getElem? (i := 400) rfl
set_option maxRecDepth 100000 in
theorem wl_401 : Cond.methodLink RX3 22 Lib.Math.min.name ∈ wsL_law0 := List.mem_of_getElem? (i := 401) rfl
set_option maxRecDepth 100000 in
theorem wl_402 : Cond.static Lib.Math.min.name ∈ wsL_law0 := List.mem_of_getElem? (i := 402) rfl
set_option maxRecDepth 100000 in
theorem wl_403 : Cond.code Lib.Math.min.name Lib.Math.min.code 2 (some .int) ∈ wsL_law0 := List.mem_of_getElem? (i := 403) rfl
set_option maxRecDepth 100000 in
theorem wl_404 : Cond.methodLink RX3 28 arraycopyName ∈ wsL_law0 := List.mem_of_getElem? (i := 404) rfl
set_option maxRecDepth 100000 in
theorem wl_409 : Cond.fieldLink RX7 119 "SnapHouseModel" "mades" "I" ∈ wsL_law0 := List.mem_of_getElem? (i := 409) rfl
set_option maxRecDepth 100000 in
theorem wl_410 : Cond.fieldLink RX7 107 "SnapHouseModel" "blockFault" "I" ∈ wsL_law0 := List.mem_of_getElem? (i := 410) rfl
set_option maxRecDepth 100000 in
theorem wl_411 : Cond.fieldLink RX7 110 "SnapHouseModel" "blockPlace" "I" ∈ wsL_law0 := List.mem_of_getElem? (i := 411) rfl
set_option maxRecDepth 100000 in
theorem wl_412 : Cond.fieldLink RX7 113 "SnapHouseModel" "opened" "I" ∈ wsL_law0 := List.mem_of_getElem? (i := 412) rfl
set_option maxRecDepth 100000 in
theorem wl_413 : Cond.fieldLink RX7 148 "SnapHouseModel" "elementMany" "I" ∈ wsL_law0 := List.mem_of_getElem? (i := 413) rfl
set_option maxRecDepth 100000 in
theorem wl_414 : Cond.fieldLink RX7 116 "SnapHouseModel" "literals" "I" ∈ wsL_law0 := List.mem_of_getElem? (i := 414) rfl
set_option maxRecDepth 100000 in
theorem wl_415 : Cond.fieldLink RX7 151 "SnapHouseModel" "literalMany" "I" ∈ wsL_law0 := List.mem_of_getElem? (i := 415) rfl
set_option maxRecDepth 100000 in
theorem wl_416 : Cond.methodLink RX7 141 yX7_openPart ∈ wsL_law0 := List.mem_of_getElem? (i := 416) rfl
set_option maxRecDepth 100000 in
theorem wl_417 : Cond.instanceMethod yX7_openPart ∈ wsL_law0 := List.mem_of_getElem? (i := 417) rfl
set_option maxRecDepth 100000 in
theorem wl_418 : Cond.selects RX7 yX7_openPart yX7_openPart ∈ wsL_law0 := List.mem_of_getElem? (i := 418) rfl
set_option maxRecDepth 100000 in
theorem wl_419 : Cond.code yX7_openPart cX7_openPart 9 none ∈ wsL_law0 := List.mem_of_getElem? (i := 419) rfl
set_option maxRecDepth 100000 in
theorem wl_420 : Cond.constantLong RX7 125 (20000) ∈ wsL_law0 := List.mem_of_getElem? (i := 420) rfl
set_option maxRecDepth 100000 in
theorem wl_421 : Cond.fieldLink RX7 127 "SnapHouseModel" "wanted" "I" ∈ wsL_law0 := List.mem_of_getElem? (i := 421) rfl
set_option maxRecDepth 100000 in
theorem wl_422 : Cond.methodLink RX7 122 yX7_bad ∈ wsL_law0 := List.mem_of_getElem? (i := 422) rfl
set_option maxRecDepth 100000 in
theorem wl_423 : Cond.instanceMethod yX7_bad ∈ wsL_law0 := List.mem_of_getElem? (i := 423) rfl
set_option maxRecDepth 100000 in
theorem wl_424 : Cond.selects RX7 yX7_bad yX7_bad ∈ wsL_law0 := List.mem_of_getElem? (i := 424) rfl
set_option maxRecDepth 100000 in
theorem wl_425 : Cond.code yX7_bad cX7_bad 3 none ∈ wsL_law0 := List.mem_of_getElem? (i := 425) rfl
set_option maxRecDepth 100000 in
theorem wl_426 : Cond.methodLink RX7 130 yX7_elementAt ∈ wsL_law0 := List.mem_of_getElem? (i := 426) rfl
set_option maxRecDepth 100000 in
theorem wl_427 : Cond.instanceMethod yX7_elementAt ∈ wsL_law0 := List.mem_of_getElem? (i := 427) rfl
set_option maxRecDepth 100000 in
theorem wl_428 : Cond.selects RX7 yX7_elementAt yX7_elementAt ∈ wsL_law0 := List.mem_of_getElem? (i := 428) rfl
set_option maxRecDepth 100000 in
theorem wl_429 : Cond.code yX7_elementAt cX7_elementAt 17 (some .int) ∈ wsL_law0 := List.mem_of_getElem? (i := 429) rfl
set_option maxRecDepth 100000 in
theorem wl_430 : Cond.constantLong RX7 134 (4) ∈ wsL_law0 := List.mem_of_getElem? (i := 430) rfl
set_option maxRecDepth 100000 in
theorem wl_431 : Cond.constantLong RX7 136 (256) ∈ wsL_law0 := List.mem_of_getElem? (i := 431) rfl
set_option maxRecDepth 100000 in
theorem wl_432 : Cond.methodLink RX7 144 yX7_told ∈ wsL_law0 := List.mem_of_getElem? (i := 432) rfl
set_option maxRecDepth 100000 in
theorem wl_433 : Cond.instanceMethod yX7_told ∈ wsL_law0 := List.mem_of_getElem? (i := 433) rfl
set_option maxRecDepth 100000 in
theorem wl_434 : Cond.selects RX7 yX7_told yX7_told ∈ wsL_law0 := List.mem_of_getElem? (i := 434) rfl
set_option maxRecDepth 100000 in
theorem wl_435 : Cond.code yX7_told cX7_told 5 none ∈ wsL_law0 := List.mem_of_getElem? (i := 435) rfl
set_option maxRecDepth 100000 in
theorem wl_436 : Cond.fieldLink RX7 138 "SnapHouseModel" "faultInner" "I" ∈ wsL_law0 := List.mem_of_getElem? (i := 436) rfl
set_option maxRecDepth 100000 in
theorem wl_441 : Cond.methodLink RX6 142 yX4_makeStream ∈ wsL_law0 := List.mem_of_getElem? (i := 441) rfl
set_option maxRecDepth 100000 in
theorem wl_442 : Cond.instanceMethod yX4_makeStream ∈ wsL_law0 := List.mem_of_getElem? (i := 442) rfl
set_option maxRecDepth 100000 in
theorem wl_443 : Cond.selects RX4 yX4_makeStream yX4_makeStream ∈ wsL_law0 := List.mem_of_getElem? (i := 443) rfl
set_option maxRecDepth 100000 in
theorem wl_444 : Cond.code yX4_makeStream cX4_makeStream 8 (some .boolean) ∈ wsL_law0 := List.mem_of_getElem? (i := 444) rfl
set_option maxRecDepth 100000 in
theorem wl_445 : Cond.methodLink RX4 34 Lib.Math.max.name ∈ wsL_law0 := List.mem_of_getElem? (i := 445) rfl
set_option maxRecDepth 100000 in
theorem wl_446 : Cond.methodLink RX4 44 Lib.Math.min.name ∈ wsL_law0 := List.mem_of_getElem? (i := 446) rfl
set_option maxRecDepth 100000 in
theorem wl_447 : Cond.methodLink RX4 20 yX1_shorten ∈ wsL_law0 := List.mem_of_getElem? (i := 447) rfl
set_option maxRecDepth 100000 in
theorem wl_448 : Cond.methodLink RX4 23 yX4_putHeader ∈ wsL_law0 := List.mem_of_getElem? (i := 448) rfl
set_option maxRecDepth 100000 in
theorem wl_449 : Cond.instanceMethod yX4_putHeader ∈ wsL_law0 := List.mem_of_getElem? (i := 449) rfl
set_option maxRecDepth 100000 in
theorem wl_450 : Cond.selects RX4 yX4_putHeader yX4_putHeader ∈ wsL_law0 := List.mem_of_getElem? (i := 450) rfl
set_option maxRecDepth 100000 in
theorem wl_451 : Cond.code yX4_putHeader cX4_putHeader 3 none ∈ wsL_law0 := List.mem_of_getElem? (i := 451) rfl
set_option maxRecDepth 100000 in
theorem wl_452 : Cond.methodLink RX4 31 yX1_put ∈ wsL_law0 := List.mem_of_getElem? (i := 452) rfl
set_option maxRecDepth 100000 in
theorem wl_453 : Cond.methodLink RX4 67 yX1_putLowestFirst ∈ wsL_law0 := List.mem_of_getElem? (i := 453) rfl
set_option maxRecDepth 100000 in
theorem wl_454 : Cond.methodLink RX4 47 yX2_pressBlock ∈ wsL_law0 := List.mem_of_getElem? (i := 454) rfl
set_option maxRecDepth 100000 in
theorem wl_455 : Cond.methodLink RX4 56 yX4_putPiece ∈ wsL_law0 := List.mem_of_getElem? (i := 455) rfl
set_option maxRecDepth 100000 in
theorem wl_456 : Cond.instanceMethod yX4_putPiece ∈ wsL_law0 := List.mem_of_getElem? (i := 456) rfl
set_option maxRecDepth 100000 in
theorem wl_457 : Cond.selects RX4 yX4_putPiece yX4_putPiece ∈ wsL_law0 := List.mem_of_getElem? (i := 457) rfl
set_option maxRecDepth 100000 in
theorem wl_458 : Cond.code yX4_putPiece cX4_putPiece 7 (some .boolean) ∈ wsL_law0 := List.mem_of_getElem? (i := 458) rfl
set_option maxRecDepth 100000 in
theorem wl_459 : Cond.methodLink RX4 60 yX1_hasRoomFor ∈ wsL_law0 := List.mem_of_getElem? (i := 459) rfl
set_option maxRecDepth 100000 in
theorem wl_460 : Cond.methodLink RX4 64 yX1_maskedCrc ∈ wsL_law0 := List.mem_of_getElem? (i := 460) rfl
set_option maxRecDepth 100000 in
theorem wl_461 : Cond.instanceMethod yX1_maskedCrc ∈ wsL_law0 := List.mem_of_getElem? (i := 461) rfl
set_option maxRecDepth 100000 in
theorem wl_462 : Cond.selects RX1 yX1_maskedCrc yX1_maskedCrc ∈ wsL_law0 := List.mem_of_getElem? (i := 462) rfl
set_option maxRecDepth 100000 in
theorem wl_463 : Cond.code yX1_maskedCrc cX1_maskedCrc 3 (some .int) ∈ wsL_law0 := List.mem_of_getElem? (i := 463) rfl
set_option maxRecDepth 100000 in
theorem wl_464 : Cond.constant RX1 65 (-1568478504) ∈ wsL_law0 := List.mem_of_getElem? (i := 464) rfl
set_option maxRecDepth 100000 in
theorem wl_465 : Cond.methodLink RX1 57 yX1_crc ∈ wsL_law0 := List.mem_of_getElem? (i := 465) rfl
set_option maxRecDepth 100000 in
theorem wl_466 : Cond.instanceMethod yX1_crc ∈ wsL_law0 := List.mem_of_getElem? (i := 466) rfl
set_option maxRecDepth 100000 in
theorem wl_467 : Cond.selects RX1 yX1_crc yX1_crc ∈ wsL_law0 := List.mem_of_getElem? (i := 467) rfl
set_option maxRecDepth 100000 in
theorem wl_468 : Cond.code yX1_crc cX1_crc 5 (some .int) ∈ wsL_law0 := List.mem_of_getElem? (i := 468) rfl
set_option maxRecDepth 100000 in
theorem wl_469 : Cond.fieldLink RX1 54 "SnapHouse$Bytes" "CRC_STEPS" "[I" ∈ wsL_law0 := List.mem_of_getElem? (i := 469) rfl
set_option maxRecDepth 100000 in
theorem wl_470 : Cond.methodLink RX1 60 yJ6_rotateLeft_7cf53 ∈ wsL_law0 := List.mem_of_getElem? (i := 470) rfl
set_option maxRecDepth 100000 in
theorem wl_471 : Cond.static yJ6_rotateLeft_7cf53 ∈ wsL_law0 := List.mem_of_getElem? (i := 471) rfl
set_option maxRecDepth 100000 in
theorem wl_472 : Cond.initialized RJ6 ∈ wsL_law0 := List.mem_of_getElem? (i := 472) rfl
set_option maxRecDepth 100000 in
theorem wl_473 : Cond.code yJ6_rotateLeft_7cf53 cJ6_rotateLeft_7cf53 2 (some .int) ∈ wsL_law0 := List.mem_of_getElem? (i := 473) rfl
set_option maxRecDepth 100000 in
theorem wl_474 : Cond.methodLink RX4 70 yX1_putAll ∈ wsL_law0 := List.mem_of_getElem? (i := 474) rfl
set_option maxRecDepth 100000 in
theorem wl_479 : Cond.fieldLink RX7 190 "SnapHouseModel" "isFull" "Z" ∈ wsL_law0 := List.mem_of_getElem? (i := 479) rfl
set_option maxRecDepth 100000 in
theorem wl_480 : Cond.methodLink RX7 194 yX7_add ∈ wsL_law0 := List.mem_of_getElem? (i := 480) rfl
set_option maxRecDepth 100000 in
theorem wl_481 : Cond.instanceMethod yX7_add ∈ wsL_law0 := List.mem_of_getElem? (i := 481) rfl
set_option maxRecDepth 100000 in
theorem wl_482 : Cond.selects RX7 yX7_add yX7_add ∈ wsL_law0 := List.mem_of_getElem? (i := 482) rfl
set_option maxRecDepth 100000 in
theorem wl_483 : Cond.code yX7_add cX7_add 2 none ∈ wsL_law0 := List.mem_of_getElem? (i := 483) rfl
set_option maxRecDepth 100000 in
theorem wl_484 : Cond.methodLink RX7 168 yX7_name ∈ wsL_law0 := List.mem_of_getElem? (i := 484) rfl
set_option maxRecDepth 100000 in
theorem wl_485 : Cond.instanceMethod yX7_name ∈ wsL_law0 := List.mem_of_getElem? (i := 485) rfl
set_option maxRecDepth 100000 in
theorem wl_486 : Cond.selects RX7 yX7_name yX7_name ∈ wsL_law0 := List.mem_of_getElem? (i := 486) rfl
set_option maxRecDepth 100000 in
theorem wl_487 : Cond.code yX7_name cX7_name 2 (some .int) ∈ wsL_law0 := List.mem_of_getElem? (i := 487) rfl
set_option maxRecDepth 100000 in
theorem wl_488 : Cond.methodLink RX7 197 yX7_piece ∈ wsL_law0 := List.mem_of_getElem? (i := 488) rfl
set_option maxRecDepth 100000 in
theorem wl_489 : Cond.instanceMethod yX7_piece ∈ wsL_law0 := List.mem_of_getElem? (i := 489) rfl
set_option maxRecDepth 100000 in
theorem wl_490 : Cond.selects RX7 yX7_piece yX7_piece ∈ wsL_law0 := List.mem_of_getElem? (i := 490) rfl
set_option maxRecDepth 100000 in
theorem wl_491 : Cond.code yX7_piece cX7_piece 8 none ∈ wsL_law0 := List.mem_of_getElem? (i := 491) rfl
set_option maxRecDepth 100000 in
theorem wl_492 : Cond.methodLink RX7 161 yX7_sumOf ∈ wsL_law0 := List.mem_of_getElem? (i := 492) rfl
set_option maxRecDepth 100000 in
theorem wl_493 : Cond.instanceMethod yX7_sumOf ∈ wsL_law0 := List.mem_of_getElem? (i := 493) rfl
set_option maxRecDepth 100000 in
theorem wl_494 : Cond.selects RX7 yX7_sumOf yX7_sumOf ∈ wsL_law0 := List.mem_of_getElem? (i := 494) rfl
set_option maxRecDepth 100000 in
theorem wl_495 : Cond.code yX7_sumOf cX7_sumOf 6 (some .int) ∈ wsL_law0 := List.mem_of_getElem? (i := 495) rfl
set_option maxRecDepth 100000 in
theorem wl_496 : Cond.methodLink RX7 165 yX7_masked ∈ wsL_law0 := List.mem_of_getElem? (i := 496) rfl
set_option maxRecDepth 100000 in
theorem wl_497 : Cond.instanceMethod yX7_masked ∈ wsL_law0 := List.mem_of_getElem? (i := 497) rfl
set_option maxRecDepth 100000 in
theorem wl_498 : Cond.selects RX7 yX7_masked yX7_masked ∈ wsL_law0 := List.mem_of_getElem? (i := 498) rfl
set_option maxRecDepth 100000 in
theorem wl_499 : Cond.code yX7_masked cX7_masked 2 (some .int) ∈ wsL_law0 := List.mem_of_getElem? (i := 499) rfl
set_option maxRecDepth 100000 in
theorem wl_500 : Cond.constant RX7 160 (-1568478504) ∈ wsL_law0 := List.mem_of_getElem? (i := 500) rfl
set_option maxRecDepth 100000 in
theorem wl_505 : Cond.methodLink RX6 149 yX5_openStream ∈ wsL_law0 := List.mem_of_getElem? (i := 505) rfl
set_option maxRecDepth 100000 in
theorem wl_506 : Cond.instanceMethod yX5_openStream ∈ wsL_law0 := List.mem_of_getElem? (i := 506) rfl
set_option maxRecDepth 100000 in
theorem wl_507 : Cond.selects RX5 yX5_openStream yX5_openStream ∈ wsL_law0 := List.mem_of_getElem? (i := 507) rfl
set_option maxRecDepth 100000 in
theorem wl_508 : Cond.code yX5_openStream cX5_openStream 5 none ∈ wsL_law0 := List.mem_of_getElem? (i := 508) rfl
set_option maxRecDepth 100000 in
theorem wl_509 : Cond.methodLink RX5 46 yX1_shorten ∈ wsL_law0 := List.mem_of_getElem? (i := 509) rfl
set_option maxRecDepth 100000 in
theorem wl_510 : Cond.methodLink RX5 49 yX3_clear ∈ wsL_law0 := List.mem_of_getElem? (i := 510) rfl
set_option maxRecDepth 100000 in
theorem wl_511 : Cond.methodLink RX5 52 yX1_at ∈ wsL_law0 := List.mem_of_getElem? (i := 511) rfl
set_option maxRecDepth 100000 in
theorem wl_512 : Cond.methodLink RX5 56 yX5_fail ∈ wsL_law0 := List.mem_of_getElem? (i := 512) rfl
set_option maxRecDepth 100000 in
theorem wl_513 : Cond.instanceMethod yX5_fail ∈ wsL_law0 := List.mem_of_getElem? (i := 513) rfl
set_option maxRecDepth 100000 in
theorem wl_514 : Cond.selects RX5 yX5_fail yX5_fail ∈ wsL_law0 := List.mem_of_getElem? (i := 514) rfl
set_option maxRecDepth 100000 in
theorem wl_515 : Cond.code yX5_fail cX5_fail 2 none ∈ wsL_law0 := List.mem_of_getElem? (i := 515) rfl
set_option maxRecDepth 100000 in
theorem wl_516 : Cond.methodLink RX5 62 yX5_readHeader ∈ wsL_law0 := List.mem_of_getElem? (i := 516) rfl
set_option maxRecDepth 100000 in
theorem wl_517 : Cond.instanceMethod yX5_readHeader ∈ wsL_law0 := List.mem_of_getElem? (i := 517) rfl
set_option maxRecDepth 100000 in
theorem wl_518 : Cond.selects RX5 yX5_readHeader yX5_readHeader ∈ wsL_law0 := List.mem_of_getElem? (i := 518) rfl
set_option maxRecDepth 100000 in
theorem wl_519 : Cond.code yX5_readHeader cX5_readHeader 2 none ∈ wsL_law0 := List.mem_of_getElem? (i := 519) rfl
set_option maxRecDepth 100000 in
theorem wl_520 : Cond.methodLink RX5 80 yX1_lowestFirst ∈ wsL_law0 := List.mem_of_getElem? (i := 520) rfl
set_option maxRecDepth 100000 in
theorem wl_521 : Cond.methodLink RX5 66 yX5_checkChunk ∈ wsL_law0 := List.mem_of_getElem? (i := 521) rfl
set_option maxRecDepth 100000 in
theorem wl_522 : Cond.instanceMethod yX5_checkChunk ∈ wsL_law0 := List.mem_of_getElem? (i := 522) rfl
set_option maxRecDepth 100000 in
theorem wl_523 : Cond.selects RX5 yX5_checkChunk yX5_checkChunk ∈ wsL_law0 := List.mem_of_getElem? (i := 523) rfl
set_option maxRecDepth 100000 in
theorem wl_524 : Cond.code yX5_checkChunk cX5_checkChunk 2 none ∈ wsL_law0 := List.mem_of_getElem? (i := 524) rfl
set_option maxRecDepth 100000 in
theorem wl_525 : Cond.methodLink RX5 84 yX5_isName ∈ wsL_law0 := List.mem_of_getElem? (i := 525) rfl
set_option maxRecDepth 100000 in
theorem wl_526 : Cond.instanceMethod yX5_isName ∈ wsL_law0 := List.mem_of_getElem? (i := 526) rfl
set_option maxRecDepth 100000 in
theorem wl_527 : Cond.selects RX5 yX5_isName yX5_isName ∈ wsL_law0 := List.mem_of_getElem? (i := 527) rfl
set_option maxRecDepth 100000 in
theorem wl_528 : Cond.code yX5_isName cX5_isName 8 (some .boolean) ∈ wsL_law0 := List.mem_of_getElem? (i := 528) rfl
set_option maxRecDepth 100000 in
theorem wl_529 : Cond.methodLink RX5 69 yX5_tellsBytes ∈ wsL_law0 := List.mem_of_getElem? (i := 529) rfl
set_option maxRecDepth 100000 in
theorem wl_530 : Cond.instanceMethod yX5_tellsBytes ∈ wsL_law0 := List.mem_of_getElem? (i := 530) rfl
set_option maxRecDepth 100000 in
theorem wl_531 : Cond.selects RX5 yX5_tellsBytes yX5_tellsBytes ∈ wsL_law0 := List.mem_of_getElem? (i := 531) rfl
set_option maxRecDepth 100000 in
theorem wl_532 : Cond.code yX5_tellsBytes cX5_tellsBytes 1 (some .boolean) ∈ wsL_law0 := List.mem_of_getElem? (i := 532) rfl
set_option maxRecDepth 100000 in
theorem wl_533 : Cond.methodLink RX5 73 yX5_openBytes ∈ wsL_law0 := List.mem_of_getElem? (i := 533) rfl
set_option maxRecDepth 100000 in
theorem wl_534 : Cond.instanceMethod yX5_openBytes ∈ wsL_law0 := List.mem_of_getElem? (i := 534) rfl
set_option maxRecDepth 100000 in
theorem wl_535 : Cond.selects RX5 yX5_openBytes yX5_openBytes ∈ wsL_law0 := List.mem_of_getElem? (i := 535) rfl
set_option maxRecDepth 100000 in
theorem wl_536 : Cond.code yX5_openBytes cX5_openBytes 5 none ∈ wsL_law0 := List.mem_of_getElem? (i := 536) rfl
set_option maxRecDepth 100000 in
theorem wl_537 : Cond.methodLink RX5 92 yX5_give ∈ wsL_law0 := List.mem_of_getElem? (i := 537) rfl
set_option maxRecDepth 100000 in
theorem wl_538 : Cond.instanceMethod yX5_give ∈ wsL_law0 := List.mem_of_getElem? (i := 538) rfl
set_option maxRecDepth 100000 in
theorem wl_539 : Cond.selects RX5 yX5_give yX5_give ∈ wsL_law0 := List.mem_of_getElem? (i := 539) rfl
set_option maxRecDepth 100000 in
theorem wl_540 : Cond.code yX5_give cX5_give 5 none ∈ wsL_law0 := List.mem_of_getElem? (i := 540) rfl
set_option maxRecDepth 100000 in
theorem wl_541 : Cond.methodLink RX5 104 yX1_hasRoomFor ∈ wsL_law0 := List.mem_of_getElem? (i := 541) rfl
set_option maxRecDepth 100000 in
theorem wl_542 : Cond.methodLink RX5 108 yX1_maskedCrc ∈ wsL_law0 := List.mem_of_getElem? (i := 542) rfl
set_option maxRecDepth 100000 in
theorem wl_543 : Cond.methodLink RX5 112 yX1_putAll ∈ wsL_law0 := List.mem_of_getElem? (i := 543) rfl
set_option maxRecDepth 100000 in
theorem wl_544 : Cond.methodLink RX5 96 yX0_openBlock ∈ wsL_law0 := List.mem_of_getElem? (i := 544) rfl
set_option maxRecDepth 100000 in
theorem wl_545 : Cond.methodLink RX5 77 yX5_keepChunk ∈ wsL_law0 := List.mem_of_getElem? (i := 545) rfl
set_option maxRecDepth 100000 in
theorem wl_546 : Cond.instanceMethod yX5_keepChunk ∈ wsL_law0 := List.mem_of_getElem? (i := 546) rfl
set_option maxRecDepth 100000 in
theorem wl_547 : Cond.selects RX5 yX5_keepChunk yX5_keepChunk ∈ wsL_law0 := List.mem_of_getElem? (i := 547) rfl
set_option maxRecDepth 100000 in
theorem wl_548 : Cond.code yX5_keepChunk cX5_keepChunk 3 none ∈ wsL_law0 := List.mem_of_getElem? (i := 548) rfl
set_option maxRecDepth 100000 in
theorem wl_549 : Cond.methodLink RX5 115 yX3_add ∈ wsL_law0 := List.mem_of_getElem? (i := 549) rfl
set_option maxRecDepth 100000 in
theorem wl_554 : Cond.fieldLink RX7 171 "SnapHouseModel" "foundMany" "I" ∈ wsL_law0 := List.mem_of_getElem? (i := 554) rfl
set_option maxRecDepth 100000 in
theorem wl_555 : Cond.fieldLink RX7 174 "SnapHouseModel" "skips" "I" ∈ wsL_law0 := List.mem_of_getElem? (i := 555) rfl
set_option maxRecDepth 100000 in
theorem wl_556 : Cond.fieldLink RX7 154 "SnapHouseModel" "chunkMany" "I" ∈ wsL_law0 := List.mem_of_getElem? (i := 556) rfl
set_option maxRecDepth 100000 in
theorem wl_557 : Cond.fieldLink RX7 157 "SnapHouseModel" "skippedMany" "I" ∈ wsL_law0 := List.mem_of_getElem? (i := 557) rfl
set_option maxRecDepth 100000 in
theorem wl_558 : Cond.methodLink RX7 177 yX7_chunkAt ∈ wsL_law0 := List.mem_of_getElem? (i := 558) rfl
set_option maxRecDepth 100000 in
theorem wl_559 : Cond.instanceMethod yX7_chunkAt ∈ wsL_law0 := List.mem_of_getElem? (i := 559) rfl
set_option maxRecDepth 100000 in
theorem wl_560 : Cond.selects RX7 yX7_chunkAt yX7_chunkAt ∈ wsL_law0 := List.mem_of_getElem? (i := 560) rfl
set_option maxRecDepth 100000 in
theorem wl_561 : Cond.code yX7_chunkAt cX7_chunkAt 7 (some .int) ∈ wsL_law0 := List.mem_of_getElem? (i := 561) rfl
set_option maxRecDepth 100000 in
theorem wl_562 : Cond.methodLink RX7 180 yX7_isName ∈ wsL_law0 := List.mem_of_getElem? (i := 562) rfl
set_option maxRecDepth 100000 in
theorem wl_563 : Cond.instanceMethod yX7_isName ∈ wsL_law0 := List.mem_of_getElem? (i := 563) rfl
set_option maxRecDepth 100000 in
theorem wl_564 : Cond.selects RX7 yX7_isName yX7_isName ∈ wsL_law0 := List.mem_of_getElem? (i := 564) rfl
set_option maxRecDepth 100000 in
theorem wl_565 : Cond.code yX7_isName cX7_isName 3 (some .boolean) ∈ wsL_law0 := List.mem_of_getElem? (i := 565) rfl
set_option maxRecDepth 100000 in
theorem wl_566 : Cond.methodLink RX7 184 yX7_bytesOf ∈ wsL_law0 := List.mem_of_getElem? (i := 566) rfl
set_option maxRecDepth 100000 in
theorem wl_567 : Cond.instanceMethod yX7_bytesOf ∈ wsL_law0 := List.mem_of_getElem? (i := 567) rfl
set_option maxRecDepth 100000 in
theorem wl_568 : Cond.selects RX7 yX7_bytesOf yX7_bytesOf ∈ wsL_law0 := List.mem_of_getElem? (i := 568) rfl
set_option maxRecDepth 100000 in
theorem wl_569 : Cond.code yX7_bytesOf cX7_bytesOf 8 none ∈ wsL_law0 := List.mem_of_getElem? (i := 569) rfl
set_option maxRecDepth 100000 in
theorem wl_570 : Cond.methodLink RX7 187 yX7_fourAt ∈ wsL_law0 := List.mem_of_getElem? (i := 570) rfl
set_option maxRecDepth 100000 in
theorem wl_571 : Cond.instanceMethod yX7_fourAt ∈ wsL_law0 := List.mem_of_getElem? (i := 571) rfl
set_option maxRecDepth 100000 in
theorem wl_572 : Cond.selects RX7 yX7_fourAt yX7_fourAt ∈ wsL_law0 := List.mem_of_getElem? (i := 572) rfl
set_option maxRecDepth 100000 in
theorem wl_573 : Cond.code yX7_fourAt cX7_fourAt 2 (some .int) ∈ wsL_law0 := List.mem_of_getElem? (i := 573) rfl
set_option maxRecDepth 100000 in
theorem wl_586 : Cond.methodLink RX6 159 yX3_cell ∈ wsL_law0 := List.mem_of_getElem? (i := 586) rfl
set_option maxRecDepth 100000 in
theorem wl_587 : Cond.instanceMethod yX3_cell ∈ wsL_law0 := List.mem_of_getElem? (i := 587) rfl
set_option maxRecDepth 100000 in
theorem wl_588 : Cond.selects RX3 yX3_cell yX3_cell ∈ wsL_law0 := List.mem_of_getElem? (i := 588) rfl
set_option maxRecDepth 100000 in
theorem wl_589 : Cond.code yX3_cell cX3_cell 3 (some .int) ∈ wsL_law0 := List.mem_of_getElem? (i := 589) rfl
set_option maxRecDepth 100000 in
theorem wl_606 : Cond.methodLink RX6 163 yX1_maskedCrc ∈ wsL_law0 := List.mem_of_getElem? (i := 606) rfl
set_option maxRecDepth 100000 in
theorem wl_607 : Cond.methodLink RX6 166 yX1_crc ∈ wsL_law0 := List.mem_of_getElem? (i := 607) rfl
abbrev wA_J6_rotateLeft_7cf53 : List Cond := .code yJ6_rotateLeft_7cf53 cJ6_rotateLeft_7cf53 2 (some .int) :: wsL_law0
abbrev wA_X0_backOf : List Cond := .code yX0_backOf cX0_backOf 4 (some .long) :: wsL_law0
abbrev wA_X0_bytesBehindTag : List Cond := .code yX0_bytesBehindTag cX0_bytesBehindTag 2 (some .int) :: wsL_law0
abbrev wA_X0_checkElement : List Cond := .code yX0_checkElement cX0_checkElement 1 none :: wsL_law0
abbrev wA_X0_fail : List Cond := .code yX0_fail cX0_fail 3 none :: wsL_law0
abbrev wA_X0_giveElement : List Cond := .code yX0_giveElement cX0_giveElement 4 none :: wsL_law0
abbrev wA_X0_openBlock : List Cond := .code yX0_openBlock cX0_openBlock 5 none :: wsL_law0
abbrev wA_X0_readElement : List Cond := .code yX0_readElement cX0_readElement 7 none :: wsL_law0
abbrev wA_X0_readLength : List Cond := .code yX0_readLength cX0_readLength 7 none :: wsL_law0
abbrev wA_X0_sizeOf : List Cond := .code yX0_sizeOf cX0_sizeOf 4 (some .long) :: wsL_law0
abbrev wA_X1_at : List Cond := .code yX1_at cX1_at 2 (some .int) :: wsL_law0
abbrev wA_X1_become : List Cond := .code yX1_become cX1_become 2 none :: wsL_law0
abbrev wA_X1_change : List Cond := .code yX1_change cX1_change 3 none :: wsL_law0
abbrev wA_X1_crc : List Cond := .code yX1_crc cX1_crc 5 (some .int) :: wsL_law0
abbrev wA_X1_fourFrom : List Cond := .code yX1_fourFrom cX1_fourFrom 2 (some .int) :: wsL_law0
abbrev wA_X1_has : List Cond := .code yX1_has cX1_has 3 (some .boolean) :: wsL_law0
abbrev wA_X1_hasPlace : List Cond := .code yX1_hasPlace cX1_hasPlace 2 (some .boolean) :: wsL_law0
abbrev wA_X1_hasRoomFor : List Cond := .code yX1_hasRoomFor cX1_hasRoomFor 2 (some .boolean) :: wsL_law0
abbrev wA_X1_lowestFirst : List Cond := .code yX1_lowestFirst cX1_lowestFirst 6 (some .long) :: wsL_law0
abbrev wA_X1_maskedCrc : List Cond := .code yX1_maskedCrc cX1_maskedCrc 3 (some .int) :: wsL_law0
abbrev wA_X1_put : List Cond := .code yX1_put cX1_put 2 none :: wsL_law0
abbrev wA_X1_putAll : List Cond := .code yX1_putAll cX1_putAll 4 none :: wsL_law0
abbrev wA_X1_putHighestFirst : List Cond := .code yX1_putHighestFirst cX1_putHighestFirst 2 none :: wsL_law0
abbrev wA_X1_putLowestFirst : List Cond := .code yX1_putLowestFirst cX1_putLowestFirst 4 none :: wsL_law0
abbrev wA_X1_putOwn : List Cond := .code yX1_putOwn cX1_putOwn 4 none :: wsL_law0
abbrev wA_X1_shorten : List Cond := .code yX1_shorten cX1_shorten 2 none :: wsL_law0
abbrev wA_X2_countAlike : List Cond := .code yX2_countAlike cX2_countAlike 5 (some .int) :: wsL_law0
abbrev wA_X2_freeSlots : List Cond := .code yX2_freeSlots cX2_freeSlots 4 none :: wsL_law0
abbrev wA_X2_noteAndFind : List Cond := .code yX2_noteAndFind cX2_noteAndFind 7 (some .int) :: wsL_law0
abbrev wA_X2_pressBlock : List Cond := .code yX2_pressBlock cX2_pressBlock 9 none :: wsL_law0
abbrev wA_X2_putCopies : List Cond := .code yX2_putCopies cX2_putCopies 4 none :: wsL_law0
abbrev wA_X2_putCopy : List Cond := .code yX2_putCopy cX2_putCopy 3 none :: wsL_law0
abbrev wA_X2_putLength : List Cond := .code yX2_putLength cX2_putLength 4 none :: wsL_law0
abbrev wA_X2_putLiteral : List Cond := .code yX2_putLiteral cX2_putLiteral 6 none :: wsL_law0
abbrev wA_X3_add : List Cond := .code yX3_add cX3_add 8 none :: wsL_law0
abbrev wA_X3_become : List Cond := .code yX3_become cX3_become 2 none :: wsL_law0
abbrev wA_X3_cell : List Cond := .code yX3_cell cX3_cell 3 (some .int) :: wsL_law0
abbrev wA_X3_clear : List Cond := .code yX3_clear cX3_clear 1 none :: wsL_law0
abbrev wA_X4_makeStream : List Cond := .code yX4_makeStream cX4_makeStream 8 (some .boolean) :: wsL_law0
abbrev wA_X4_putHeader : List Cond := .code yX4_putHeader cX4_putHeader 3 none :: wsL_law0
abbrev wA_X4_putPiece : List Cond := .code yX4_putPiece cX4_putPiece 7 (some .boolean) :: wsL_law0
abbrev wA_X5_checkChunk : List Cond := .code yX5_checkChunk cX5_checkChunk 2 none :: wsL_law0
abbrev wA_X5_fail : List Cond := .code yX5_fail cX5_fail 2 none :: wsL_law0
abbrev wA_X5_give : List Cond := .code yX5_give cX5_give 5 none :: wsL_law0
abbrev wA_X5_isName : List Cond := .code yX5_isName cX5_isName 8 (some .boolean) :: wsL_law0
abbrev wA_X5_keepChunk : List Cond := .code yX5_keepChunk cX5_keepChunk 3 none :: wsL_law0
abbrev wA_X5_openBytes : List Cond := .code yX5_openBytes cX5_openBytes 5 none :: wsL_law0
abbrev wA_X5_openStream : List Cond := .code yX5_openStream cX5_openStream 5 none :: wsL_law0
abbrev wA_X5_readHeader : List Cond := .code yX5_readHeader cX5_readHeader 2 none :: wsL_law0
abbrev wA_X5_tellsBytes : List Cond := .code yX5_tellsBytes cX5_tellsBytes 1 (some .boolean) :: wsL_law0
abbrev wA_X6_about : List Cond := .code yX6_about cX6_about 2 (some .int) :: wsL_law0
abbrev wA_X6_again : List Cond := .code yX6_again cX6_again 3 (some .int) :: wsL_law0
abbrev wA_X6_chunk : List Cond := .code yX6_chunk cX6_chunk 3 (some .int) :: wsL_law0
abbrev wA_X6_cut : List Cond := .code yX6_cut cX6_cut 2 (some .int) :: wsL_law0
abbrev wA_X6_element : List Cond := .code yX6_element cX6_element 3 (some .int) :: wsL_law0
abbrev wA_X6_fault : List Cond := .code yX6_fault cX6_fault 2 (some .int) :: wsL_law0
abbrev wA_X6_feed : List Cond := .code yX6_feed cX6_feed 6 (some .int) :: wsL_law0
abbrev wA_X6_fill : List Cond := .code yX6_fill cX6_fill 4 (some .int) :: wsL_law0
abbrev wA_X6_isByte : List Cond := .code yX6_isByte cX6_isByte 1 (some .boolean) :: wsL_law0
abbrev wA_X6_keepFault : List Cond := .code yX6_keepFault cX6_keepFault 5 none :: wsL_law0
abbrev wA_X6_open : List Cond := .code yX6_open cX6_open 1 (some .int) :: wsL_law0
abbrev wA_X6_press : List Cond := .code yX6_press cX6_press 1 (some .int) :: wsL_law0
abbrev wA_X6_set : List Cond := .code yX6_set cX6_set 4 (some .int) :: wsL_law0
abbrev wA_X6_stream : List Cond := .code yX6_stream cX6_stream 2 (some .int) :: wsL_law0
abbrev wA_X6_sum : List Cond := .code yX6_sum cX6_sum 4 (some .int) :: wsL_law0
abbrev wA_X6_take : List Cond := .code yX6_take cX6_take 1 (some .int) :: wsL_law0
abbrev wA_X6_tape : List Cond := .code yX6_tape cX6_tape 2 (some .int) :: wsL_law0
abbrev wA_X6_unstream : List Cond := .code yX6_unstream cX6_unstream 1 (some .int) :: wsL_law0
abbrev wA_X7_about : List Cond := .code yX7_about cX7_about 2 (some .int) :: wsL_law0
abbrev wA_X7_add : List Cond := .code yX7_add cX7_add 2 none :: wsL_law0
abbrev wA_X7_again : List Cond := .code yX7_again cX7_again 4 (some .int) :: wsL_law0
abbrev wA_X7_areFour : List Cond := .code yX7_areFour cX7_areFour 3 (some .boolean) :: wsL_law0
abbrev wA_X7_at : List Cond := .code yX7_at cX7_at 2 (some .int) :: wsL_law0
abbrev wA_X7_bad : List Cond := .code yX7_bad cX7_bad 3 none :: wsL_law0
abbrev wA_X7_bytesOf : List Cond := .code yX7_bytesOf cX7_bytesOf 8 none :: wsL_law0
abbrev wA_X7_chunk : List Cond := .code yX7_chunk cX7_chunk 3 (some .int) :: wsL_law0
abbrev wA_X7_chunkAt : List Cond := .code yX7_chunkAt cX7_chunkAt 7 (some .int) :: wsL_law0
abbrev wA_X7_copies : List Cond := .code yX7_copies cX7_copies 4 none :: wsL_law0
abbrev wA_X7_copyTwo : List Cond := .code yX7_copyTwo cX7_copyTwo 3 none :: wsL_law0
abbrev wA_X7_cut : List Cond := .code yX7_cut cX7_cut 2 (some .int) :: wsL_law0
abbrev wA_X7_element : List Cond := .code yX7_element cX7_element 3 (some .int) :: wsL_law0
abbrev wA_X7_elementAt : List Cond := .code yX7_elementAt cX7_elementAt 17 (some .int) :: wsL_law0
abbrev wA_X7_fault : List Cond := .code yX7_fault cX7_fault 2 (some .int) :: wsL_law0
abbrev wA_X7_feed : List Cond := .code yX7_feed cX7_feed 6 (some .int) :: wsL_law0
abbrev wA_X7_fill : List Cond := .code yX7_fill cX7_fill 4 (some .int) :: wsL_law0
abbrev wA_X7_fourAt : List Cond := .code yX7_fourAt cX7_fourAt 2 (some .int) :: wsL_law0
abbrev wA_X7_give : List Cond := .code yX7_give cX7_give 4 none :: wsL_law0
abbrev wA_X7_isName : List Cond := .code yX7_isName cX7_isName 3 (some .boolean) :: wsL_law0
abbrev wA_X7_keyOf : List Cond := .code yX7_keyOf cX7_keyOf 3 (some .int) :: wsL_law0
abbrev wA_X7_literal : List Cond := .code yX7_literal cX7_literal 7 none :: wsL_law0
abbrev wA_X7_masked : List Cond := .code yX7_masked cX7_masked 2 (some .int) :: wsL_law0
abbrev wA_X7_name : List Cond := .code yX7_name cX7_name 2 (some .int) :: wsL_law0
abbrev wA_X7_open : List Cond := .code yX7_open cX7_open 2 (some .int) :: wsL_law0
abbrev wA_X7_openPart : List Cond := .code yX7_openPart cX7_openPart 9 none :: wsL_law0
abbrev wA_X7_out : List Cond := .code yX7_out cX7_out 2 (some .int) :: wsL_law0
abbrev wA_X7_pack : List Cond := .code yX7_pack cX7_pack 2 none :: wsL_law0
abbrev wA_X7_piece : List Cond := .code yX7_piece cX7_piece 8 none :: wsL_law0
abbrev wA_X7_press : List Cond := .code yX7_press cX7_press 1 (some .int) :: wsL_law0
abbrev wA_X7_pressPart : List Cond := .code yX7_pressPart cX7_pressPart 11 none :: wsL_law0
abbrev wA_X7_set : List Cond := .code yX7_set cX7_set 4 (some .int) :: wsL_law0
abbrev wA_X7_stream : List Cond := .code yX7_stream cX7_stream 3 (some .int) :: wsL_law0
abbrev wA_X7_sum : List Cond := .code yX7_sum cX7_sum 5 (some .int) :: wsL_law0
abbrev wA_X7_sumOf : List Cond := .code yX7_sumOf cX7_sumOf 6 (some .int) :: wsL_law0
abbrev wA_X7_take : List Cond := .code yX7_take cX7_take 2 (some .int) :: wsL_law0
abbrev wA_X7_tape : List Cond := .code yX7_tape cX7_tape 2 (some .int) :: wsL_law0
abbrev wA_X7_thrown : List Cond := .code yX7_thrown cX7_thrown 1 (some .int) :: wsL_law0
abbrev wA_X7_told : List Cond := .code yX7_told cX7_told 5 none :: wsL_law0
abbrev wA_X7_unstream : List Cond := .code yX7_unstream cX7_unstream 3 (some .int) :: wsL_law0
abbrev wA_X7_word : List Cond := .code yX7_word cX7_word 3 none :: wsL_law0
end
section
abbrev wF_SnapHouse (g : GX) (h_o h_o_theTape h_o_theTape_row h_o_theOut h_o_theOut_row h_o_presser h_o_presser_block h_o_presser_block_row h_o_presser_slots h_o_streamMaker h_o_streamMaker_made h_o_streamMaker_made_row h_o_blockOpener h_o_blockOpener_given h_o_blockOpener_given_row h_o_blockOpener_elements h_o_blockOpener_elements_cells h_o_streamOpener h_o_streamOpener_given h_o_streamOpener_given_row h_o_streamOpener_chunks h_o_streamOpener_chunks_cells h_o_keptElements h_o_keptElements_cells h_o_keptChunks h_o_keptChunks_cells : Nat) (o_faultNumber : Int32) (o_faultPlace : Int32) (o_faultOfBlock : Int32) (o_faultPlaceInBlock : Int32) (o_theTape_count : Int32) (o_theTape_row_n : Nat) (o_theTape_row_c : Nat → Int32) (o_theOut_count : Int32) (o_theOut_row_n : Nat) (o_theOut_row_c : Nat → Int32) (o_presser_slotMask : Int32) (o_presser_block_count : Int32) (o_presser_block_row_n : Nat) (o_presser_block_row_c : Nat → Int32) (o_presser_slots_n : Nat) (o_presser_slots_c : Nat → Int32) (o_streamMaker_made_count : Int32) (o_streamMaker_made_row_n : Nat) (o_streamMaker_made_row_c : Nat → Int32) (o_blockOpener_fault : Int32) (o_blockOpener_place : Int32) (o_blockOpener_start : Int32) (o_blockOpener_end : Int32) (o_blockOpener_next : Int32) (o_blockOpener_length : Int32) (o_blockOpener_sort : Int32) (o_blockOpener_body : Int32) (o_blockOpener_size : Int64) (o_blockOpener_back : Int64) (o_blockOpener_given_count : Int32) (o_blockOpener_given_row_n : Nat) (o_blockOpener_given_row_c : Nat → Int32) (o_blockOpener_elements_count : Int32) (o_blockOpener_elements_marked : Int32) (o_blockOpener_elements_cells_n : Nat) (o_blockOpener_elements_cells_c : Nat → Int32) (o_streamOpener_fault : Int32) (o_streamOpener_place : Int32) (o_streamOpener_next : Int32) (o_streamOpener_type : Int32) (o_streamOpener_body : Int32) (o_streamOpener_size : Int32) (o_streamOpener_given_count : Int32) (o_streamOpener_given_row_n : Nat) (o_streamOpener_given_row_c : Nat → Int32) (o_streamOpener_chunks_count : Int32) (o_streamOpener_chunks_marked : Int32) (o_streamOpener_chunks_cells_n : Nat) (o_streamOpener_chunks_cells_c : Nat → Int32) (o_keptElements_count : Int32) (o_keptElements_marked : Int32) (o_keptElements_cells_n : Nat) (o_keptElements_cells_c : Nat → Int32) (o_keptChunks_count : Int32) (o_keptChunks_marked : Int32) (o_keptChunks_cells_n : Nat) (o_keptChunks_cells_c : Nat → Int32) : va_W := [(h_o, .inr (6, [.ref h_o_theTape, .ref h_o_theOut, .ref h_o_presser, .ref h_o_streamMaker, .ref h_o_blockOpener, .ref h_o_streamOpener, .ref h_o_keptElements, .ref h_o_keptChunks, .int o_faultNumber, .int o_faultPlace, .int o_faultOfBlock, .int o_faultPlaceInBlock])), (h_o_theTape, .inr (1, [.ref h_o_theTape_row, .int o_theTape_count])), (h_o_theTape_row, .inl (g.2.1.1, o_theTape_row_n, .inl o_theTape_row_c)), (h_o_theOut, .inr (1, [.ref h_o_theOut_row, .int o_theOut_count])), (h_o_theOut_row, .inl (g.2.1.1, o_theOut_row_n, .inl o_theOut_row_c)), (h_o_presser, .inr (2, [.ref h_o_presser_block, .ref h_o_presser_slots, .int o_presser_slotMask])), (h_o_presser_block, .inr (1, [.ref h_o_presser_block_row, .int o_presser_block_count])), (h_o_presser_block_row, .inl (g.2.1.1, o_presser_block_row_n, .inl o_presser_block_row_c)), (h_o_presser_slots, .inl (g.2.1.1, o_presser_slots_n, .inl o_presser_slots_c)), (h_o_streamMaker, .inr (4, [.ref h_o_streamMaker_made])), (h_o_streamMaker_made, .inr (1, [.ref h_o_streamMaker_made_row, .int o_streamMaker_made_count])), (h_o_streamMaker_made_row, .inl (g.2.1.1, o_streamMaker_made_row_n, .inl o_streamMaker_made_row_c)), (h_o_blockOpener, .inr (0, [.ref h_o_blockOpener_given, .ref h_o_blockOpener_elements, .int o_blockOpener_fault, .int o_blockOpener_place, .int o_blockOpener_start, .int o_blockOpener_end, .int o_blockOpener_next, .int o_blockOpener_length, .int o_blockOpener_sort, .int o_blockOpener_body, .long o_blockOpener_size, .long o_blockOpener_back])), (h_o_blockOpener_given, .inr (1, [.ref h_o_blockOpener_given_row, .int o_blockOpener_given_count])), (h_o_blockOpener_given_row, .inl (g.2.1.1, o_blockOpener_given_row_n, .inl o_blockOpener_given_row_c)), (h_o_blockOpener_elements, .inr (3, [.ref h_o_blockOpener_elements_cells, .int o_blockOpener_elements_count, .int o_blockOpener_elements_marked])), (h_o_blockOpener_elements_cells, .inl (g.2.1.1, o_blockOpener_elements_cells_n, .inl o_blockOpener_elements_cells_c)), (h_o_streamOpener, .inr (5, [.ref h_o_streamOpener_given, .ref h_o_streamOpener_chunks, .int o_streamOpener_fault, .int o_streamOpener_place, .int o_streamOpener_next, .int o_streamOpener_type, .int o_streamOpener_body, .int o_streamOpener_size])), (h_o_streamOpener_given, .inr (1, [.ref h_o_streamOpener_given_row, .int o_streamOpener_given_count])), (h_o_streamOpener_given_row, .inl (g.2.1.1, o_streamOpener_given_row_n, .inl o_streamOpener_given_row_c)), (h_o_streamOpener_chunks, .inr (3, [.ref h_o_streamOpener_chunks_cells, .int o_streamOpener_chunks_count, .int o_streamOpener_chunks_marked])), (h_o_streamOpener_chunks_cells, .inl (g.2.1.1, o_streamOpener_chunks_cells_n, .inl o_streamOpener_chunks_cells_c)), (h_o_keptElements, .inr (3, [.ref h_o_keptElements_cells, .int o_keptElements_count, .int o_keptElements_marked])), (h_o_keptElements_cells, .inl (g.2.1.1, o_keptElements_cells_n, .inl o_keptElements_cells_c)), (h_o_keptChunks, .inr (3, [.ref h_o_keptChunks_cells, .int o_keptChunks_count, .int o_keptChunks_marked])), (h_o_keptChunks_cells, .inl (g.2.1.1, o_keptChunks_cells_n, .inl o_keptChunks_cells_c))]
abbrev wF_Bytes (g : GX) (h_o h_o_row : Nat) (o_count : Int32) (o_row_n : Nat) (o_row_c : Nat → Int32) : va_W := [(h_o, .inr (1, [.ref h_o_row, .int o_count])), (h_o_row, .inl (g.2.1.1, o_row_n, .inl o_row_c))]
abbrev wF_ (_ : GX) : va_W := []
abbrev wF_Bytes_Bytes (g : GX) (h_o h_o_row h_a h_a_row : Nat) (o_count : Int32) (o_row_n : Nat) (o_row_c : Nat → Int32) (a_count : Int32) (a_row_n : Nat) (a_row_c : Nat → Int32) : va_W := [(h_o, .inr (1, [.ref h_o_row, .int o_count])), (h_o_row, .inl (g.2.1.1, o_row_n, .inl o_row_c)), (h_a, .inr (1, [.ref h_a_row, .int a_count])), (h_a_row, .inl (g.2.1.1, a_row_n, .inl a_row_c))]
abbrev wF_Presser_Bytes (g : GX) (h_o h_o_block h_o_block_row h_o_slots h_a h_a_row : Nat) (o_slotMask : Int32) (o_block_count : Int32) (o_block_row_n : Nat) (o_block_row_c : Nat → Int32) (o_slots_n : Nat) (o_slots_c : Nat → Int32) (a_count : Int32) (a_row_n : Nat) (a_row_c : Nat → Int32) : va_W := [(h_o, .inr (2, [.ref h_o_block, .ref h_o_slots, .int o_slotMask])), (h_o_block, .inr (1, [.ref h_o_block_row, .int o_block_count])), (h_o_block_row, .inl (g.2.1.1, o_block_row_n, .inl o_block_row_c)), (h_o_slots, .inl (g.2.1.1, o_slots_n, .inl o_slots_c)), (h_a, .inr (1, [.ref h_a_row, .int a_count])), (h_a_row, .inl (g.2.1.1, a_row_n, .inl a_row_c))]
abbrev wF_Presser (g : GX) (h_o h_o_block h_o_block_row h_o_slots : Nat) (o_slotMask : Int32) (o_block_count : Int32) (o_block_row_n : Nat) (o_block_row_c : Nat → Int32) (o_slots_n : Nat) (o_slots_c : Nat → Int32) : va_W := [(h_o, .inr (2, [.ref h_o_block, .ref h_o_slots, .int o_slotMask])), (h_o_block, .inr (1, [.ref h_o_block_row, .int o_block_count])), (h_o_block_row, .inl (g.2.1.1, o_block_row_n, .inl o_block_row_c)), (h_o_slots, .inl (g.2.1.1, o_slots_n, .inl o_slots_c))]
abbrev wF_BlockOpener_Bytes (g : GX) (h_o h_o_given h_o_given_row h_o_elements h_o_elements_cells h_a h_a_row : Nat) (o_fault : Int32) (o_place : Int32) (o_start : Int32) (o_end : Int32) (o_next : Int32) (o_length : Int32) (o_sort : Int32) (o_body : Int32) (o_size : Int64) (o_back : Int64) (o_given_count : Int32) (o_given_row_n : Nat) (o_given_row_c : Nat → Int32) (o_elements_count : Int32) (o_elements_marked : Int32) (o_elements_cells_n : Nat) (o_elements_cells_c : Nat → Int32) (a_count : Int32) (a_row_n : Nat) (a_row_c : Nat → Int32) : va_W := [(h_o, .inr (0, [.ref h_o_given, .ref h_o_elements, .int o_fault, .int o_place, .int o_start, .int o_end, .int o_next, .int o_length, .int o_sort, .int o_body, .long o_size, .long o_back])), (h_o_given, .inr (1, [.ref h_o_given_row, .int o_given_count])), (h_o_given_row, .inl (g.2.1.1, o_given_row_n, .inl o_given_row_c)), (h_o_elements, .inr (3, [.ref h_o_elements_cells, .int o_elements_count, .int o_elements_marked])), (h_o_elements_cells, .inl (g.2.1.1, o_elements_cells_n, .inl o_elements_cells_c)), (h_a, .inr (1, [.ref h_a_row, .int a_count])), (h_a_row, .inl (g.2.1.1, a_row_n, .inl a_row_c))]
abbrev wF_Rows (g : GX) (h_o h_o_cells : Nat) (o_count : Int32) (o_marked : Int32) (o_cells_n : Nat) (o_cells_c : Nat → Int32) : va_W := [(h_o, .inr (3, [.ref h_o_cells, .int o_count, .int o_marked])), (h_o_cells, .inl (g.2.1.1, o_cells_n, .inl o_cells_c))]
abbrev wF_BlockOpener (g : GX) (h_o h_o_given h_o_given_row h_o_elements h_o_elements_cells : Nat) (o_fault : Int32) (o_place : Int32) (o_start : Int32) (o_end : Int32) (o_next : Int32) (o_length : Int32) (o_sort : Int32) (o_body : Int32) (o_size : Int64) (o_back : Int64) (o_given_count : Int32) (o_given_row_n : Nat) (o_given_row_c : Nat → Int32) (o_elements_count : Int32) (o_elements_marked : Int32) (o_elements_cells_n : Nat) (o_elements_cells_c : Nat → Int32) : va_W := [(h_o, .inr (0, [.ref h_o_given, .ref h_o_elements, .int o_fault, .int o_place, .int o_start, .int o_end, .int o_next, .int o_length, .int o_sort, .int o_body, .long o_size, .long o_back])), (h_o_given, .inr (1, [.ref h_o_given_row, .int o_given_count])), (h_o_given_row, .inl (g.2.1.1, o_given_row_n, .inl o_given_row_c)), (h_o_elements, .inr (3, [.ref h_o_elements_cells, .int o_elements_count, .int o_elements_marked])), (h_o_elements_cells, .inl (g.2.1.1, o_elements_cells_n, .inl o_elements_cells_c))]
abbrev wF_Rows_Rows (g : GX) (h_o h_o_cells h_a h_a_cells : Nat) (o_count : Int32) (o_marked : Int32) (o_cells_n : Nat) (o_cells_c : Nat → Int32) (a_count : Int32) (a_marked : Int32) (a_cells_n : Nat) (a_cells_c : Nat → Int32) : va_W := [(h_o, .inr (3, [.ref h_o_cells, .int o_count, .int o_marked])), (h_o_cells, .inl (g.2.1.1, o_cells_n, .inl o_cells_c)), (h_a, .inr (3, [.ref h_a_cells, .int a_count, .int a_marked])), (h_a_cells, .inl (g.2.1.1, a_cells_n, .inl a_cells_c))]
abbrev wF_StreamMaker_Bytes_Presser (g : GX) (h_o h_o_made h_o_made_row h_a h_a_row h_b h_b_block h_b_block_row h_b_slots : Nat) (o_made_count : Int32) (o_made_row_n : Nat) (o_made_row_c : Nat → Int32) (a_count : Int32) (a_row_n : Nat) (a_row_c : Nat → Int32) (b_slotMask : Int32) (b_block_count : Int32) (b_block_row_n : Nat) (b_block_row_c : Nat → Int32) (b_slots_n : Nat) (b_slots_c : Nat → Int32) : va_W := [(h_o, .inr (4, [.ref h_o_made])), (h_o_made, .inr (1, [.ref h_o_made_row, .int o_made_count])), (h_o_made_row, .inl (g.2.1.1, o_made_row_n, .inl o_made_row_c)), (h_a, .inr (1, [.ref h_a_row, .int a_count])), (h_a_row, .inl (g.2.1.1, a_row_n, .inl a_row_c)), (h_b, .inr (2, [.ref h_b_block, .ref h_b_slots, .int b_slotMask])), (h_b_block, .inr (1, [.ref h_b_block_row, .int b_block_count])), (h_b_block_row, .inl (g.2.1.1, b_block_row_n, .inl b_block_row_c)), (h_b_slots, .inl (g.2.1.1, b_slots_n, .inl b_slots_c))]
abbrev wF_StreamMaker (g : GX) (h_o h_o_made h_o_made_row : Nat) (o_made_count : Int32) (o_made_row_n : Nat) (o_made_row_c : Nat → Int32) : va_W := [(h_o, .inr (4, [.ref h_o_made])), (h_o_made, .inr (1, [.ref h_o_made_row, .int o_made_count])), (h_o_made_row, .inl (g.2.1.1, o_made_row_n, .inl o_made_row_c))]
abbrev wF_StreamMaker_Bytes_Bytes (g : GX) (h_o h_o_made h_o_made_row h_a h_a_row h_b h_b_row : Nat) (o_made_count : Int32) (o_made_row_n : Nat) (o_made_row_c : Nat → Int32) (a_count : Int32) (a_row_n : Nat) (a_row_c : Nat → Int32) (b_count : Int32) (b_row_n : Nat) (b_row_c : Nat → Int32) : va_W := [(h_o, .inr (4, [.ref h_o_made])), (h_o_made, .inr (1, [.ref h_o_made_row, .int o_made_count])), (h_o_made_row, .inl (g.2.1.1, o_made_row_n, .inl o_made_row_c)), (h_a, .inr (1, [.ref h_a_row, .int a_count])), (h_a_row, .inl (g.2.1.1, a_row_n, .inl a_row_c)), (h_b, .inr (1, [.ref h_b_row, .int b_count])), (h_b_row, .inl (g.2.1.1, b_row_n, .inl b_row_c))]
abbrev wF_StreamOpener_Bytes_BlockOpener (g : GX) (h_o h_o_given h_o_given_row h_o_chunks h_o_chunks_cells h_a h_a_row h_b h_b_given h_b_given_row h_b_elements h_b_elements_cells : Nat) (o_fault : Int32) (o_place : Int32) (o_next : Int32) (o_type : Int32) (o_body : Int32) (o_size : Int32) (o_given_count : Int32) (o_given_row_n : Nat) (o_given_row_c : Nat → Int32) (o_chunks_count : Int32) (o_chunks_marked : Int32) (o_chunks_cells_n : Nat) (o_chunks_cells_c : Nat → Int32) (a_count : Int32) (a_row_n : Nat) (a_row_c : Nat → Int32) (b_fault : Int32) (b_place : Int32) (b_start : Int32) (b_end : Int32) (b_next : Int32) (b_length : Int32) (b_sort : Int32) (b_body : Int32) (b_size : Int64) (b_back : Int64) (b_given_count : Int32) (b_given_row_n : Nat) (b_given_row_c : Nat → Int32) (b_elements_count : Int32) (b_elements_marked : Int32) (b_elements_cells_n : Nat) (b_elements_cells_c : Nat → Int32) : va_W := [(h_o, .inr (5, [.ref h_o_given, .ref h_o_chunks, .int o_fault, .int o_place, .int o_next, .int o_type, .int o_body, .int o_size])), (h_o_given, .inr (1, [.ref h_o_given_row, .int o_given_count])), (h_o_given_row, .inl (g.2.1.1, o_given_row_n, .inl o_given_row_c)), (h_o_chunks, .inr (3, [.ref h_o_chunks_cells, .int o_chunks_count, .int o_chunks_marked])), (h_o_chunks_cells, .inl (g.2.1.1, o_chunks_cells_n, .inl o_chunks_cells_c)), (h_a, .inr (1, [.ref h_a_row, .int a_count])), (h_a_row, .inl (g.2.1.1, a_row_n, .inl a_row_c)), (h_b, .inr (0, [.ref h_b_given, .ref h_b_elements, .int b_fault, .int b_place, .int b_start, .int b_end, .int b_next, .int b_length, .int b_sort, .int b_body, .long b_size, .long b_back])), (h_b_given, .inr (1, [.ref h_b_given_row, .int b_given_count])), (h_b_given_row, .inl (g.2.1.1, b_given_row_n, .inl b_given_row_c)), (h_b_elements, .inr (3, [.ref h_b_elements_cells, .int b_elements_count, .int b_elements_marked])), (h_b_elements_cells, .inl (g.2.1.1, b_elements_cells_n, .inl b_elements_cells_c))]
abbrev wF_StreamOpener (g : GX) (h_o h_o_given h_o_given_row h_o_chunks h_o_chunks_cells : Nat) (o_fault : Int32) (o_place : Int32) (o_next : Int32) (o_type : Int32) (o_body : Int32) (o_size : Int32) (o_given_count : Int32) (o_given_row_n : Nat) (o_given_row_c : Nat → Int32) (o_chunks_count : Int32) (o_chunks_marked : Int32) (o_chunks_cells_n : Nat) (o_chunks_cells_c : Nat → Int32) : va_W := [(h_o, .inr (5, [.ref h_o_given, .ref h_o_chunks, .int o_fault, .int o_place, .int o_next, .int o_type, .int o_body, .int o_size])), (h_o_given, .inr (1, [.ref h_o_given_row, .int o_given_count])), (h_o_given_row, .inl (g.2.1.1, o_given_row_n, .inl o_given_row_c)), (h_o_chunks, .inr (3, [.ref h_o_chunks_cells, .int o_chunks_count, .int o_chunks_marked])), (h_o_chunks_cells, .inl (g.2.1.1, o_chunks_cells_n, .inl o_chunks_cells_c))]
abbrev wF_StreamOpener_Bytes (g : GX) (h_o h_o_given h_o_given_row h_o_chunks h_o_chunks_cells h_a h_a_row : Nat) (o_fault : Int32) (o_place : Int32) (o_next : Int32) (o_type : Int32) (o_body : Int32) (o_size : Int32) (o_given_count : Int32) (o_given_row_n : Nat) (o_given_row_c : Nat → Int32) (o_chunks_count : Int32) (o_chunks_marked : Int32) (o_chunks_cells_n : Nat) (o_chunks_cells_c : Nat → Int32) (a_count : Int32) (a_row_n : Nat) (a_row_c : Nat → Int32) : va_W := [(h_o, .inr (5, [.ref h_o_given, .ref h_o_chunks, .int o_fault, .int o_place, .int o_next, .int o_type, .int o_body, .int o_size])), (h_o_given, .inr (1, [.ref h_o_given_row, .int o_given_count])), (h_o_given_row, .inl (g.2.1.1, o_given_row_n, .inl o_given_row_c)), (h_o_chunks, .inr (3, [.ref h_o_chunks_cells, .int o_chunks_count, .int o_chunks_marked])), (h_o_chunks_cells, .inl (g.2.1.1, o_chunks_cells_n, .inl o_chunks_cells_c)), (h_a, .inr (1, [.ref h_a_row, .int a_count])), (h_a_row, .inl (g.2.1.1, a_row_n, .inl a_row_c))]
abbrev wF_StreamOpener_Bytes_Bytes (g : GX) (h_o h_o_given h_o_given_row h_o_chunks h_o_chunks_cells h_a h_a_row h_b h_b_row : Nat) (o_fault : Int32) (o_place : Int32) (o_next : Int32) (o_type : Int32) (o_body : Int32) (o_size : Int32) (o_given_count : Int32) (o_given_row_n : Nat) (o_given_row_c : Nat → Int32) (o_chunks_count : Int32) (o_chunks_marked : Int32) (o_chunks_cells_n : Nat) (o_chunks_cells_c : Nat → Int32) (a_count : Int32) (a_row_n : Nat) (a_row_c : Nat → Int32) (b_count : Int32) (b_row_n : Nat) (b_row_c : Nat → Int32) : va_W := [(h_o, .inr (5, [.ref h_o_given, .ref h_o_chunks, .int o_fault, .int o_place, .int o_next, .int o_type, .int o_body, .int o_size])), (h_o_given, .inr (1, [.ref h_o_given_row, .int o_given_count])), (h_o_given_row, .inl (g.2.1.1, o_given_row_n, .inl o_given_row_c)), (h_o_chunks, .inr (3, [.ref h_o_chunks_cells, .int o_chunks_count, .int o_chunks_marked])), (h_o_chunks_cells, .inl (g.2.1.1, o_chunks_cells_n, .inl o_chunks_cells_c)), (h_a, .inr (1, [.ref h_a_row, .int a_count])), (h_a_row, .inl (g.2.1.1, a_row_n, .inl a_row_c)), (h_b, .inr (1, [.ref h_b_row, .int b_count])), (h_b_row, .inl (g.2.1.1, b_row_n, .inl b_row_c))]
abbrev wF_SnapHouseModel (g : GX) (h_o h_o_tape h_o_out h_o_made h_o_packed h_o_latest h_o_ahead h_o_notes h_o_elements h_o_chunks h_o_sums h_o_found h_o_before : Nat) (o_taped : Int32) (o_outs : Int32) (o_mades : Int32) (o_packs : Int32) (o_thrown : Int32) (o_blockFault : Int32) (o_blockPlace : Int32) (o_opened : Int32) (o_literals : Int32) (o_wanted : Int32) (o_elementMany : Int32) (o_literalMany : Int32) (o_chunkMany : Int32) (o_skippedMany : Int32) (o_faultNumber : Int32) (o_faultPlace : Int32) (o_faultInner : Int32) (o_faultInnerPlace : Int32) (o_foundMany : Int32) (o_skips : Int32) (o_isFull : Int32) (o_tape_n : Nat) (o_tape_c : Nat → Int32) (o_out_n : Nat) (o_out_c : Nat → Int32) (o_made_n : Nat) (o_made_c : Nat → Int32) (o_packed_n : Nat) (o_packed_c : Nat → Int32) (o_latest_n : Nat) (o_latest_c : Nat → Int32) (o_ahead_n : Nat) (o_ahead_c : Nat → Int32) (o_notes_n : Nat) (o_notes_c : Nat → Int32) (o_elements_n : Nat) (o_elements_c : Nat → Int32) (o_chunks_n : Nat) (o_chunks_c : Nat → Int32) (o_sums_n : Nat) (o_sums_c : Nat → Int32) (o_found_n : Nat) (o_found_c : Nat → Int32) (o_before_n : Nat) (o_before_c : Nat → Int32) : va_W := [(h_o, .inr (7, [.ref h_o_tape, .ref h_o_out, .ref h_o_made, .ref h_o_packed, .int o_taped, .int o_outs, .int o_mades, .int o_packs, .int o_thrown, .ref h_o_latest, .ref h_o_ahead, .int o_blockFault, .int o_blockPlace, .int o_opened, .int o_literals, .ref h_o_notes, .int o_wanted, .ref h_o_elements, .ref h_o_chunks, .int o_elementMany, .int o_literalMany, .int o_chunkMany, .int o_skippedMany, .int o_faultNumber, .int o_faultPlace, .int o_faultInner, .int o_faultInnerPlace, .ref h_o_sums, .ref h_o_found, .int o_foundMany, .int o_skips, .ref h_o_before, .int o_isFull])), (h_o_tape, .inl (g.2.1.2.1, o_tape_n, .inl o_tape_c)), (h_o_out, .inl (g.2.1.2.1, o_out_n, .inl o_out_c)), (h_o_made, .inl (g.2.1.2.1, o_made_n, .inl o_made_c)), (h_o_packed, .inl (g.2.1.2.1, o_packed_n, .inl o_packed_c)), (h_o_latest, .inl (g.2.1.1, o_latest_n, .inl o_latest_c)), (h_o_ahead, .inl (g.2.1.1, o_ahead_n, .inl o_ahead_c)), (h_o_notes, .inl (g.2.1.1, o_notes_n, .inl o_notes_c)), (h_o_elements, .inl (g.2.1.1, o_elements_n, .inl o_elements_c)), (h_o_chunks, .inl (g.2.1.1, o_chunks_n, .inl o_chunks_c)), (h_o_sums, .inl (g.2.1.1, o_sums_n, .inl o_sums_c)), (h_o_found, .inl (g.2.1.1, o_found_n, .inl o_found_c)), (h_o_before, .inl (g.2.1.2.1, o_before_n, .inl o_before_c))]
end
section
theorem dX0_init_0 : decode cX0_init 0 = .ok (.aload_n 0, 1) := by decide +kernel
theorem dX0_init_1 : decode cX0_init 1 = .ok (.invokespecial 3, 3) := by decide +kernel
theorem dX0_init_4 : decode cX0_init 4 = .ok (.aload_n 0, 1) := by decide +kernel
theorem dX0_init_5 : decode cX0_init 5 = .ok (.new 9, 3) := by decide +kernel
theorem dX0_init_8 : decode cX0_init 8 = .ok (.dup, 1) := by decide +kernel
theorem dX0_init_9 : decode cX0_init 9 = .ok (.sipush 20000, 3) := by decide +kernel
theorem dX0_init_12 : decode cX0_init 12 = .ok (.invokespecial 11, 3) := by decide +kernel
theorem dX0_init_15 : decode cX0_init 15 = .ok (.putfield 14, 3) := by decide +kernel
theorem dX0_init_18 : decode cX0_init 18 = .ok (.aload_n 0, 1) := by decide +kernel
theorem dX0_init_19 : decode cX0_init 19 = .ok (.new 20, 3) := by decide +kernel
theorem dX0_init_22 : decode cX0_init 22 = .ok (.dup, 1) := by decide +kernel
theorem dX0_init_23 : decode cX0_init 23 = .ok (.invokespecial 22, 3) := by decide +kernel
theorem dX0_init_26 : decode cX0_init 26 = .ok (.putfield 23, 3) := by decide +kernel
theorem dX0_init_29 : decode cX0_init 29 = .ok (.aload_n 0, 1) := by decide +kernel
theorem dX0_init_30 : decode cX0_init 30 = .ok (.iconst 0, 1) := by decide +kernel
theorem dX0_init_31 : decode cX0_init 31 = .ok (.putfield 27, 3) := by decide +kernel
theorem dX0_init_34 : decode cX0_init 34 = .ok (.aload_n 0, 1) := by decide +kernel
theorem dX0_init_35 : decode cX0_init 35 = .ok (.iconst (-1), 1) := by decide +kernel
theorem dX0_init_36 : decode cX0_init 36 = .ok (.putfield 31, 3) := by decide +kernel
theorem dX0_init_39 : decode cX0_init 39 = .ok (.aload_n 0, 1) := by decide +kernel
theorem dX0_init_40 : decode cX0_init 40 = .ok (.iconst 0, 1) := by decide +kernel
theorem dX0_init_41 : decode cX0_init 41 = .ok (.putfield 34, 3) := by decide +kernel
theorem dX0_init_44 : decode cX0_init 44 = .ok (.aload_n 0, 1) := by decide +kernel
theorem dX0_init_45 : decode cX0_init 45 = .ok (.iconst 0, 1) := by decide +kernel
theorem dX0_init_46 : decode cX0_init 46 = .ok (.putfield 37, 3) := by decide +kernel
theorem dX0_init_49 : decode cX0_init 49 = .ok (.aload_n 0, 1) := by decide +kernel
theorem dX0_init_50 : decode cX0_init 50 = .ok (.iconst 0, 1) := by decide +kernel
theorem dX0_init_51 : decode cX0_init 51 = .ok (.putfield 40, 3) := by decide +kernel
theorem dX0_init_54 : decode cX0_init 54 = .ok (.aload_n 0, 1) := by decide +kernel
theorem dX0_init_55 : decode cX0_init 55 = .ok (.iconst 0, 1) := by decide +kernel
theorem dX0_init_56 : decode cX0_init 56 = .ok (.putfield 43, 3) := by decide +kernel
theorem dX0_init_59 : decode cX0_init 59 = .ok (.aload_n 0, 1) := by decide +kernel
theorem dX0_init_60 : decode cX0_init 60 = .ok (.iconst 0, 1) := by decide +kernel
theorem dX0_init_61 : decode cX0_init 61 = .ok (.putfield 46, 3) := by decide +kernel
theorem dX0_init_64 : decode cX0_init 64 = .ok (.aload_n 0, 1) := by decide +kernel
theorem dX0_init_65 : decode cX0_init 65 = .ok (.iconst 0, 1) := by decide +kernel
theorem dX0_init_66 : decode cX0_init 66 = .ok (.putfield 49, 3) := by decide +kernel
theorem dX0_init_69 : decode cX0_init 69 = .ok (.aload_n 0, 1) := by decide +kernel
theorem dX0_init_70 : decode cX0_init 70 = .ok (.lconst 0, 1) := by decide +kernel
theorem dX0_init_71 : decode cX0_init 71 = .ok (.putfield 52, 3) := by decide +kernel
theorem dX0_init_74 : decode cX0_init 74 = .ok (.aload_n 0, 1) := by decide +kernel
theorem dX0_init_75 : decode cX0_init 75 = .ok (.lconst 0, 1) := by decide +kernel
theorem dX0_init_76 : decode cX0_init 76 = .ok (.putfield 56, 3) := by decide +kernel
theorem dX0_init_79 : decode cX0_init 79 = .ok (.return_, 1) := by decide +kernel
theorem dX0_openBlock_0 : decode cX0_openBlock 0 = .ok (.aload_n 0, 1) := by decide +kernel
theorem dX0_openBlock_1 : decode cX0_openBlock 1 = .ok (.getfield 14, 3) := by decide +kernel
theorem dX0_openBlock_4 : decode cX0_openBlock 4 = .ok (.iconst 0, 1) := by decide +kernel
theorem dX0_openBlock_5 : decode cX0_openBlock 5 = .ok (.invokevirtual 59, 3) := by decide +kernel
theorem dX0_openBlock_8 : decode cX0_openBlock 8 = .ok (.aload_n 0, 1) := by decide +kernel
theorem dX0_openBlock_9 : decode cX0_openBlock 9 = .ok (.getfield 23, 3) := by decide +kernel
theorem dX0_openBlock_12 : decode cX0_openBlock 12 = .ok (.invokevirtual 62, 3) := by decide +kernel
theorem dX0_openBlock_15 : decode cX0_openBlock 15 = .ok (.aload_n 0, 1) := by decide +kernel
theorem dX0_openBlock_16 : decode cX0_openBlock 16 = .ok (.iconst 0, 1) := by decide +kernel
theorem dX0_openBlock_17 : decode cX0_openBlock 17 = .ok (.putfield 27, 3) := by decide +kernel
theorem dX0_openBlock_20 : decode cX0_openBlock 20 = .ok (.aload_n 0, 1) := by decide +kernel
theorem dX0_openBlock_21 : decode cX0_openBlock 21 = .ok (.iconst (-1), 1) := by decide +kernel
theorem dX0_openBlock_22 : decode cX0_openBlock 22 = .ok (.putfield 31, 3) := by decide +kernel
theorem dX0_openBlock_25 : decode cX0_openBlock 25 = .ok (.aload_n 0, 1) := by decide +kernel
theorem dX0_openBlock_26 : decode cX0_openBlock 26 = .ok (.iload_n 2, 1) := by decide +kernel
theorem dX0_openBlock_27 : decode cX0_openBlock 27 = .ok (.putfield 34, 3) := by decide +kernel
theorem dX0_openBlock_30 : decode cX0_openBlock 30 = .ok (.aload_n 0, 1) := by decide +kernel
theorem dX0_openBlock_31 : decode cX0_openBlock 31 = .ok (.iload_n 2, 1) := by decide +kernel
theorem dX0_openBlock_32 : decode cX0_openBlock 32 = .ok (.iload_n 3, 1) := by decide +kernel
theorem dX0_openBlock_33 : decode cX0_openBlock 33 = .ok (.iadd, 1) := by decide +kernel
theorem dX0_openBlock_34 : decode cX0_openBlock 34 = .ok (.putfield 37, 3) := by decide +kernel
theorem dX0_openBlock_37 : decode cX0_openBlock 37 = .ok (.aload_n 0, 1) := by decide +kernel
theorem dX0_openBlock_38 : decode cX0_openBlock 38 = .ok (.iload_n 2, 1) := by decide +kernel
theorem dX0_openBlock_39 : decode cX0_openBlock 39 = .ok (.putfield 40, 3) := by decide +kernel
theorem dX0_openBlock_42 : decode cX0_openBlock 42 = .ok (.aload_n 0, 1) := by decide +kernel
theorem dX0_openBlock_43 : decode cX0_openBlock 43 = .ok (.aload_n 1, 1) := by decide +kernel
theorem dX0_openBlock_44 : decode cX0_openBlock 44 = .ok (.invokevirtual 65, 3) := by decide +kernel
theorem dX0_openBlock_47 : decode cX0_openBlock 47 = .ok (.iconst 0, 1) := by decide +kernel
theorem dX0_openBlock_48 : decode cX0_openBlock 48 = .ok (.istore 4, 2) := by decide +kernel
theorem dX0_openBlock_50 : decode cX0_openBlock 50 = .ok (.iload 4, 2) := by decide +kernel
theorem dX0_openBlock_52 : decode cX0_openBlock 52 = .ok (.iload_n 3, 1) := by decide +kernel
theorem dX0_openBlock_53 : decode cX0_openBlock 53 = .ok (.if_icmp .ge 55, 3) := by decide +kernel
theorem dX0_openBlock_56 : decode cX0_openBlock 56 = .ok (.aload_n 0, 1) := by decide +kernel
theorem dX0_openBlock_57 : decode cX0_openBlock 57 = .ok (.getfield 40, 3) := by decide +kernel
theorem dX0_openBlock_60 : decode cX0_openBlock 60 = .ok (.aload_n 0, 1) := by decide +kernel
theorem dX0_openBlock_61 : decode cX0_openBlock 61 = .ok (.getfield 37, 3) := by decide +kernel
theorem dX0_openBlock_64 : decode cX0_openBlock 64 = .ok (.if_icmp .ge 44, 3) := by decide +kernel
theorem dX0_openBlock_67 : decode cX0_openBlock 67 = .ok (.aload_n 0, 1) := by decide +kernel
theorem dX0_openBlock_68 : decode cX0_openBlock 68 = .ok (.getfield 27, 3) := by decide +kernel
theorem dX0_openBlock_71 : decode cX0_openBlock 71 = .ok (.ifCond .ne 37, 3) := by decide +kernel
theorem dX0_openBlock_74 : decode cX0_openBlock 74 = .ok (.aload_n 0, 1) := by decide +kernel
theorem dX0_openBlock_75 : decode cX0_openBlock 75 = .ok (.aload_n 1, 1) := by decide +kernel
theorem dX0_openBlock_76 : decode cX0_openBlock 76 = .ok (.invokevirtual 69, 3) := by decide +kernel
theorem dX0_openBlock_79 : decode cX0_openBlock 79 = .ok (.aload_n 0, 1) := by decide +kernel
theorem dX0_openBlock_80 : decode cX0_openBlock 80 = .ok (.getfield 27, 3) := by decide +kernel
theorem dX0_openBlock_83 : decode cX0_openBlock 83 = .ok (.ifCond .ne 7, 3) := by decide +kernel
theorem dX0_openBlock_86 : decode cX0_openBlock 86 = .ok (.aload_n 0, 1) := by decide +kernel
theorem dX0_openBlock_87 : decode cX0_openBlock 87 = .ok (.invokevirtual 72, 3) := by decide +kernel
theorem dX0_openBlock_90 : decode cX0_openBlock 90 = .ok (.aload_n 0, 1) := by decide +kernel
theorem dX0_openBlock_91 : decode cX0_openBlock 91 = .ok (.getfield 27, 3) := by decide +kernel
theorem dX0_openBlock_94 : decode cX0_openBlock 94 = .ok (.ifCond .ne 8, 3) := by decide +kernel
theorem dX0_openBlock_97 : decode cX0_openBlock 97 = .ok (.aload_n 0, 1) := by decide +kernel
theorem dX0_openBlock_98 : decode cX0_openBlock 98 = .ok (.aload_n 1, 1) := by decide +kernel
theorem dX0_openBlock_99 : decode cX0_openBlock 99 = .ok (.invokevirtual 75, 3) := by decide +kernel
theorem dX0_openBlock_102 : decode cX0_openBlock 102 = .ok (.iinc 4 1, 3) := by decide +kernel
theorem dX0_openBlock_105 : decode cX0_openBlock 105 = .ok (.goto (-55), 3) := by decide +kernel
theorem dX0_openBlock_108 : decode cX0_openBlock 108 = .ok (.aload_n 0, 1) := by decide +kernel
theorem dX0_openBlock_109 : decode cX0_openBlock 109 = .ok (.getfield 27, 3) := by decide +kernel
theorem dX0_openBlock_112 : decode cX0_openBlock 112 = .ok (.ifCond .ne 27, 3) := by decide +kernel
theorem dX0_openBlock_115 : decode cX0_openBlock 115 = .ok (.aload_n 0, 1) := by decide +kernel
theorem dX0_openBlock_116 : decode cX0_openBlock 116 = .ok (.getfield 14, 3) := by decide +kernel
theorem dX0_openBlock_119 : decode cX0_openBlock 119 = .ok (.getfield 78, 3) := by decide +kernel
theorem dX0_openBlock_122 : decode cX0_openBlock 122 = .ok (.aload_n 0, 1) := by decide +kernel
theorem dX0_openBlock_123 : decode cX0_openBlock 123 = .ok (.getfield 43, 3) := by decide +kernel
theorem dX0_openBlock_126 : decode cX0_openBlock 126 = .ok (.if_icmp .ge 13, 3) := by decide +kernel
theorem dX0_openBlock_129 : decode cX0_openBlock 129 = .ok (.aload_n 0, 1) := by decide +kernel
theorem dX0_openBlock_130 : decode cX0_openBlock 130 = .ok (.bipush 6, 2) := by decide +kernel
theorem dX0_openBlock_132 : decode cX0_openBlock 132 = .ok (.aload_n 0, 1) := by decide +kernel
theorem dX0_openBlock_133 : decode cX0_openBlock 133 = .ok (.getfield 37, 3) := by decide +kernel
theorem dX0_openBlock_136 : decode cX0_openBlock 136 = .ok (.invokevirtual 81, 3) := by decide +kernel
theorem dX0_openBlock_139 : decode cX0_openBlock 139 = .ok (.return_, 1) := by decide +kernel
theorem dX0_fail_0 : decode cX0_fail 0 = .ok (.aload_n 0, 1) := by decide +kernel
theorem dX0_fail_1 : decode cX0_fail 1 = .ok (.iload_n 1, 1) := by decide +kernel
theorem dX0_fail_2 : decode cX0_fail 2 = .ok (.putfield 27, 3) := by decide +kernel
theorem dX0_fail_5 : decode cX0_fail 5 = .ok (.aload_n 0, 1) := by decide +kernel
theorem dX0_fail_6 : decode cX0_fail 6 = .ok (.iload_n 2, 1) := by decide +kernel
theorem dX0_fail_7 : decode cX0_fail 7 = .ok (.aload_n 0, 1) := by decide +kernel
theorem dX0_fail_8 : decode cX0_fail 8 = .ok (.getfield 34, 3) := by decide +kernel
theorem dX0_fail_11 : decode cX0_fail 11 = .ok (.isub, 1) := by decide +kernel
theorem dX0_fail_12 : decode cX0_fail 12 = .ok (.putfield 31, 3) := by decide +kernel
theorem dX0_fail_15 : decode cX0_fail 15 = .ok (.return_, 1) := by decide +kernel
theorem dX0_readLength_0 : decode cX0_readLength 0 = .ok (.lconst 0, 1) := by decide +kernel
theorem dX0_readLength_1 : decode cX0_readLength 1 = .ok (.lstore_n 2, 1) := by decide +kernel
theorem dX0_readLength_2 : decode cX0_readLength 2 = .ok (.iconst 0, 1) := by decide +kernel
theorem dX0_readLength_3 : decode cX0_readLength 3 = .ok (.istore 4, 2) := by decide +kernel
theorem dX0_readLength_5 : decode cX0_readLength 5 = .ok (.iconst 0, 1) := by decide +kernel
theorem dX0_readLength_6 : decode cX0_readLength 6 = .ok (.istore 5, 2) := by decide +kernel
theorem dX0_readLength_8 : decode cX0_readLength 8 = .ok (.iload 5, 2) := by decide +kernel
theorem dX0_readLength_10 : decode cX0_readLength 10 = .ok (.iconst 5, 1) := by decide +kernel
theorem dX0_readLength_11 : decode cX0_readLength 11 = .ok (.if_icmp .ge 75, 3) := by decide +kernel
theorem dX0_readLength_14 : decode cX0_readLength 14 = .ok (.aload_n 0, 1) := by decide +kernel
theorem dX0_readLength_15 : decode cX0_readLength 15 = .ok (.getfield 40, 3) := by decide +kernel
theorem dX0_readLength_18 : decode cX0_readLength 18 = .ok (.aload_n 0, 1) := by decide +kernel
theorem dX0_readLength_19 : decode cX0_readLength 19 = .ok (.getfield 37, 3) := by decide +kernel
theorem dX0_readLength_22 : decode cX0_readLength 22 = .ok (.if_icmp .ge 64, 3) := by decide +kernel
theorem dX0_readLength_25 : decode cX0_readLength 25 = .ok (.iload 4, 2) := by decide +kernel
theorem dX0_readLength_27 : decode cX0_readLength 27 = .ok (.ifCond .ne 59, 3) := by decide +kernel
theorem dX0_readLength_30 : decode cX0_readLength 30 = .ok (.aload_n 1, 1) := by decide +kernel
theorem dX0_readLength_31 : decode cX0_readLength 31 = .ok (.aload_n 0, 1) := by decide +kernel
theorem dX0_readLength_32 : decode cX0_readLength 32 = .ok (.getfield 40, 3) := by decide +kernel
theorem dX0_readLength_35 : decode cX0_readLength 35 = .ok (.invokevirtual 85, 3) := by decide +kernel
theorem dX0_readLength_38 : decode cX0_readLength 38 = .ok (.istore 6, 2) := by decide +kernel
theorem dX0_readLength_40 : decode cX0_readLength 40 = .ok (.aload_n 0, 1) := by decide +kernel
theorem dX0_readLength_41 : decode cX0_readLength 41 = .ok (.dup, 1) := by decide +kernel
theorem dX0_readLength_42 : decode cX0_readLength 42 = .ok (.getfield 40, 3) := by decide +kernel
theorem dX0_readLength_45 : decode cX0_readLength 45 = .ok (.iconst 1, 1) := by decide +kernel
theorem dX0_readLength_46 : decode cX0_readLength 46 = .ok (.iadd, 1) := by decide +kernel
theorem dX0_readLength_47 : decode cX0_readLength 47 = .ok (.putfield 40, 3) := by decide +kernel
theorem dX0_readLength_50 : decode cX0_readLength 50 = .ok (.lload_n 2, 1) := by decide +kernel
theorem dX0_readLength_51 : decode cX0_readLength 51 = .ok (.iload 6, 2) := by decide +kernel
theorem dX0_readLength_53 : decode cX0_readLength 53 = .ok (.bipush 127, 2) := by decide +kernel
theorem dX0_readLength_55 : decode cX0_readLength 55 = .ok (.iand, 1) := by decide +kernel
theorem dX0_readLength_56 : decode cX0_readLength 56 = .ok (.i2l, 1) := by decide +kernel
theorem dX0_readLength_57 : decode cX0_readLength 57 = .ok (.bipush 7, 2) := by decide +kernel
theorem dX0_readLength_59 : decode cX0_readLength 59 = .ok (.iload 5, 2) := by decide +kernel
theorem dX0_readLength_61 : decode cX0_readLength 61 = .ok (.imul, 1) := by decide +kernel
theorem dX0_readLength_62 : decode cX0_readLength 62 = .ok (.lshl, 1) := by decide +kernel
theorem dX0_readLength_63 : decode cX0_readLength 63 = .ok (.lor, 1) := by decide +kernel
theorem dX0_readLength_64 : decode cX0_readLength 64 = .ok (.lstore_n 2, 1) := by decide +kernel
theorem dX0_readLength_65 : decode cX0_readLength 65 = .ok (.iload 6, 2) := by decide +kernel
theorem dX0_readLength_67 : decode cX0_readLength 67 = .ok (.sipush 128, 3) := by decide +kernel
theorem dX0_readLength_70 : decode cX0_readLength 70 = .ok (.if_icmp .ge 7, 3) := by decide +kernel
theorem dX0_readLength_73 : decode cX0_readLength 73 = .ok (.iconst 1, 1) := by decide +kernel
theorem dX0_readLength_74 : decode cX0_readLength 74 = .ok (.goto 4, 3) := by decide +kernel
theorem dX0_readLength_77 : decode cX0_readLength 77 = .ok (.iconst 0, 1) := by decide +kernel
theorem dX0_readLength_78 : decode cX0_readLength 78 = .ok (.istore 4, 2) := by decide +kernel
theorem dX0_readLength_80 : decode cX0_readLength 80 = .ok (.iinc 5 1, 3) := by decide +kernel
theorem dX0_readLength_83 : decode cX0_readLength 83 = .ok (.goto (-75), 3) := by decide +kernel
theorem dX0_readLength_86 : decode cX0_readLength 86 = .ok (.iload 4, 2) := by decide +kernel
theorem dX0_readLength_88 : decode cX0_readLength 88 = .ok (.ifCond .eq 11, 3) := by decide +kernel
theorem dX0_readLength_91 : decode cX0_readLength 91 = .ok (.lload_n 2, 1) := by decide +kernel
theorem dX0_readLength_92 : decode cX0_readLength 92 = .ok (.ldc2_w 89, 3) := by decide +kernel
theorem dX0_readLength_95 : decode cX0_readLength 95 = .ok (.lcmp, 1) := by decide +kernel
theorem dX0_readLength_96 : decode cX0_readLength 96 = .ok (.ifCond .lt 15, 3) := by decide +kernel
theorem dX0_readLength_99 : decode cX0_readLength 99 = .ok (.aload_n 0, 1) := by decide +kernel
theorem dX0_readLength_100 : decode cX0_readLength 100 = .ok (.iconst 1, 1) := by decide +kernel
theorem dX0_readLength_101 : decode cX0_readLength 101 = .ok (.aload_n 0, 1) := by decide +kernel
theorem dX0_readLength_102 : decode cX0_readLength 102 = .ok (.getfield 34, 3) := by decide +kernel
theorem dX0_readLength_105 : decode cX0_readLength 105 = .ok (.invokevirtual 81, 3) := by decide +kernel
theorem dX0_readLength_108 : decode cX0_readLength 108 = .ok (.goto 29, 3) := by decide +kernel
theorem dX0_readLength_111 : decode cX0_readLength 111 = .ok (.lload_n 2, 1) := by decide +kernel
theorem dX0_readLength_112 : decode cX0_readLength 112 = .ok (.ldc2_w 91, 3) := by decide +kernel
theorem dX0_readLength_115 : decode cX0_readLength 115 = .ok (.lcmp, 1) := by decide +kernel
theorem dX0_readLength_116 : decode cX0_readLength 116 = .ok (.ifCond .le 15, 3) := by decide +kernel
theorem dX0_readLength_119 : decode cX0_readLength 119 = .ok (.aload_n 0, 1) := by decide +kernel
theorem dX0_readLength_120 : decode cX0_readLength 120 = .ok (.iconst 2, 1) := by decide +kernel
theorem dX0_readLength_121 : decode cX0_readLength 121 = .ok (.aload_n 0, 1) := by decide +kernel
theorem dX0_readLength_122 : decode cX0_readLength 122 = .ok (.getfield 34, 3) := by decide +kernel
theorem dX0_readLength_125 : decode cX0_readLength 125 = .ok (.invokevirtual 81, 3) := by decide +kernel
theorem dX0_readLength_128 : decode cX0_readLength 128 = .ok (.goto 9, 3) := by decide +kernel
theorem dX0_readLength_131 : decode cX0_readLength 131 = .ok (.aload_n 0, 1) := by decide +kernel
theorem dX0_readLength_132 : decode cX0_readLength 132 = .ok (.lload_n 2, 1) := by decide +kernel
theorem dX0_readLength_133 : decode cX0_readLength 133 = .ok (.l2i, 1) := by decide +kernel
theorem dX0_readLength_134 : decode cX0_readLength 134 = .ok (.putfield 43, 3) := by decide +kernel
theorem dX0_readLength_137 : decode cX0_readLength 137 = .ok (.return_, 1) := by decide +kernel
theorem dX0_readElement_0 : decode cX0_readElement 0 = .ok (.aload_n 1, 1) := by decide +kernel
theorem dX0_readElement_1 : decode cX0_readElement 1 = .ok (.aload_n 0, 1) := by decide +kernel
theorem dX0_readElement_2 : decode cX0_readElement 2 = .ok (.getfield 40, 3) := by decide +kernel
theorem dX0_readElement_5 : decode cX0_readElement 5 = .ok (.invokevirtual 85, 3) := by decide +kernel
theorem dX0_readElement_8 : decode cX0_readElement 8 = .ok (.istore_n 2, 1) := by decide +kernel
theorem dX0_readElement_9 : decode cX0_readElement 9 = .ok (.iload_n 2, 1) := by decide +kernel
theorem dX0_readElement_10 : decode cX0_readElement 10 = .ok (.iconst 2, 1) := by decide +kernel
theorem dX0_readElement_11 : decode cX0_readElement 11 = .ok (.ishr, 1) := by decide +kernel
theorem dX0_readElement_12 : decode cX0_readElement 12 = .ok (.istore_n 3, 1) := by decide +kernel
theorem dX0_readElement_13 : decode cX0_readElement 13 = .ok (.aload_n 0, 1) := by decide +kernel
theorem dX0_readElement_14 : decode cX0_readElement 14 = .ok (.iload_n 2, 1) := by decide +kernel
theorem dX0_readElement_15 : decode cX0_readElement 15 = .ok (.iconst 3, 1) := by decide +kernel
theorem dX0_readElement_16 : decode cX0_readElement 16 = .ok (.iand, 1) := by decide +kernel
theorem dX0_readElement_17 : decode cX0_readElement 17 = .ok (.putfield 46, 3) := by decide +kernel
theorem dX0_readElement_20 : decode cX0_readElement 20 = .ok (.aload_n 0, 1) := by decide +kernel
theorem dX0_readElement_21 : decode cX0_readElement 21 = .ok (.getfield 46, 3) := by decide +kernel
theorem dX0_readElement_24 : decode cX0_readElement 24 = .ok (.iload_n 3, 1) := by decide +kernel
theorem dX0_readElement_25 : decode cX0_readElement 25 = .ok (.invokestatic 93, 3) := by decide +kernel
theorem dX0_readElement_28 : decode cX0_readElement 28 = .ok (.istore 4, 2) := by decide +kernel
theorem dX0_readElement_30 : decode cX0_readElement 30 = .ok (.aload_n 0, 1) := by decide +kernel
theorem dX0_readElement_31 : decode cX0_readElement 31 = .ok (.aload_n 0, 1) := by decide +kernel
theorem dX0_readElement_32 : decode cX0_readElement 32 = .ok (.getfield 40, 3) := by decide +kernel
theorem dX0_readElement_35 : decode cX0_readElement 35 = .ok (.iconst 1, 1) := by decide +kernel
theorem dX0_readElement_36 : decode cX0_readElement 36 = .ok (.iadd, 1) := by decide +kernel
theorem dX0_readElement_37 : decode cX0_readElement 37 = .ok (.iload 4, 2) := by decide +kernel
theorem dX0_readElement_39 : decode cX0_readElement 39 = .ok (.iadd, 1) := by decide +kernel
theorem dX0_readElement_40 : decode cX0_readElement 40 = .ok (.putfield 49, 3) := by decide +kernel
theorem dX0_readElement_43 : decode cX0_readElement 43 = .ok (.aload_n 0, 1) := by decide +kernel
theorem dX0_readElement_44 : decode cX0_readElement 44 = .ok (.getfield 49, 3) := by decide +kernel
theorem dX0_readElement_47 : decode cX0_readElement 47 = .ok (.aload_n 0, 1) := by decide +kernel
theorem dX0_readElement_48 : decode cX0_readElement 48 = .ok (.getfield 37, 3) := by decide +kernel
theorem dX0_readElement_51 : decode cX0_readElement 51 = .ok (.if_icmp .le 13, 3) := by decide +kernel
theorem dX0_readElement_54 : decode cX0_readElement 54 = .ok (.aload_n 0, 1) := by decide +kernel
theorem dX0_readElement_55 : decode cX0_readElement 55 = .ok (.iconst 3, 1) := by decide +kernel
theorem dX0_readElement_56 : decode cX0_readElement 56 = .ok (.aload_n 0, 1) := by decide +kernel
theorem dX0_readElement_57 : decode cX0_readElement 57 = .ok (.getfield 40, 3) := by decide +kernel
theorem dX0_readElement_60 : decode cX0_readElement 60 = .ok (.invokevirtual 81, 3) := by decide +kernel
theorem dX0_readElement_63 : decode cX0_readElement 63 = .ok (.return_, 1) := by decide +kernel
theorem dX0_readElement_64 : decode cX0_readElement 64 = .ok (.aload_n 1, 1) := by decide +kernel
theorem dX0_readElement_65 : decode cX0_readElement 65 = .ok (.aload_n 0, 1) := by decide +kernel
theorem dX0_readElement_66 : decode cX0_readElement 66 = .ok (.getfield 40, 3) := by decide +kernel
theorem dX0_readElement_69 : decode cX0_readElement 69 = .ok (.iconst 1, 1) := by decide +kernel
theorem dX0_readElement_70 : decode cX0_readElement 70 = .ok (.iadd, 1) := by decide +kernel
theorem dX0_readElement_71 : decode cX0_readElement 71 = .ok (.iload 4, 2) := by decide +kernel
theorem dX0_readElement_73 : decode cX0_readElement 73 = .ok (.invokevirtual 97, 3) := by decide +kernel
theorem dX0_readElement_76 : decode cX0_readElement 76 = .ok (.lstore 5, 2) := by decide +kernel
theorem dX0_readElement_78 : decode cX0_readElement 78 = .ok (.aload_n 0, 1) := by decide +kernel
theorem dX0_readElement_79 : decode cX0_readElement 79 = .ok (.aload_n 0, 1) := by decide +kernel
theorem dX0_readElement_80 : decode cX0_readElement 80 = .ok (.getfield 46, 3) := by decide +kernel
theorem dX0_readElement_83 : decode cX0_readElement 83 = .ok (.iload_n 3, 1) := by decide +kernel
theorem dX0_readElement_84 : decode cX0_readElement 84 = .ok (.lload 5, 2) := by decide +kernel
theorem dX0_readElement_86 : decode cX0_readElement 86 = .ok (.invokestatic 101, 3) := by decide +kernel
theorem dX0_readElement_89 : decode cX0_readElement 89 = .ok (.putfield 52, 3) := by decide +kernel
theorem dX0_readElement_92 : decode cX0_readElement 92 = .ok (.aload_n 0, 1) := by decide +kernel
theorem dX0_readElement_93 : decode cX0_readElement 93 = .ok (.aload_n 0, 1) := by decide +kernel
theorem dX0_readElement_94 : decode cX0_readElement 94 = .ok (.getfield 46, 3) := by decide +kernel
theorem dX0_readElement_97 : decode cX0_readElement 97 = .ok (.iload_n 3, 1) := by decide +kernel
theorem dX0_readElement_98 : decode cX0_readElement 98 = .ok (.lload 5, 2) := by decide +kernel
theorem dX0_readElement_100 : decode cX0_readElement 100 = .ok (.invokestatic 105, 3) := by decide +kernel
theorem dX0_readElement_103 : decode cX0_readElement 103 = .ok (.putfield 56, 3) := by decide +kernel
theorem dX0_readElement_106 : decode cX0_readElement 106 = .ok (.return_, 1) := by decide +kernel
theorem dX0_bytesBehindTag_0 : decode cX0_bytesBehindTag 0 = .ok (.iload_n 0, 1) := by decide +kernel
theorem dX0_bytesBehindTag_1 : decode cX0_bytesBehindTag 1 = .ok (.tableswitch 46 0 2 #[27, 42, 44], 27) := by decide +kernel
theorem dX0_bytesBehindTag_28 : decode cX0_bytesBehindTag 28 = .ok (.iload_n 1, 1) := by decide +kernel
theorem dX0_bytesBehindTag_29 : decode cX0_bytesBehindTag 29 = .ok (.bipush 60, 2) := by decide +kernel
theorem dX0_bytesBehindTag_31 : decode cX0_bytesBehindTag 31 = .ok (.if_icmp .ge 7, 3) := by decide +kernel
theorem dX0_bytesBehindTag_34 : decode cX0_bytesBehindTag 34 = .ok (.iconst 0, 1) := by decide +kernel
theorem dX0_bytesBehindTag_35 : decode cX0_bytesBehindTag 35 = .ok (.goto 7, 3) := by decide +kernel
theorem dX0_bytesBehindTag_38 : decode cX0_bytesBehindTag 38 = .ok (.iload_n 1, 1) := by decide +kernel
theorem dX0_bytesBehindTag_39 : decode cX0_bytesBehindTag 39 = .ok (.bipush 59, 2) := by decide +kernel
theorem dX0_bytesBehindTag_41 : decode cX0_bytesBehindTag 41 = .ok (.isub, 1) := by decide +kernel
theorem dX0_bytesBehindTag_42 : decode cX0_bytesBehindTag 42 = .ok (.ireturn, 1) := by decide +kernel
theorem dX0_bytesBehindTag_43 : decode cX0_bytesBehindTag 43 = .ok (.iconst 1, 1) := by decide +kernel
theorem dX0_bytesBehindTag_44 : decode cX0_bytesBehindTag 44 = .ok (.ireturn, 1) := by decide +kernel
theorem dX0_bytesBehindTag_45 : decode cX0_bytesBehindTag 45 = .ok (.iconst 2, 1) := by decide +kernel
theorem dX0_bytesBehindTag_46 : decode cX0_bytesBehindTag 46 = .ok (.ireturn, 1) := by decide +kernel
theorem dX0_bytesBehindTag_47 : decode cX0_bytesBehindTag 47 = .ok (.iconst 4, 1) := by decide +kernel
theorem dX0_bytesBehindTag_48 : decode cX0_bytesBehindTag 48 = .ok (.ireturn, 1) := by decide +kernel
theorem dX0_sizeOf_0 : decode cX0_sizeOf 0 = .ok (.iload_n 0, 1) := by decide +kernel
theorem dX0_sizeOf_1 : decode cX0_sizeOf 1 = .ok (.lookupswitch 52 #[(0, 27), (1, 44)], 27) := by decide +kernel
theorem dX0_sizeOf_28 : decode cX0_sizeOf 28 = .ok (.iload_n 1, 1) := by decide +kernel
theorem dX0_sizeOf_29 : decode cX0_sizeOf 29 = .ok (.bipush 60, 2) := by decide +kernel
theorem dX0_sizeOf_31 : decode cX0_sizeOf 31 = .ok (.if_icmp .ge 10, 3) := by decide +kernel
theorem dX0_sizeOf_34 : decode cX0_sizeOf 34 = .ok (.iload_n 1, 1) := by decide +kernel
theorem dX0_sizeOf_35 : decode cX0_sizeOf 35 = .ok (.iconst 1, 1) := by decide +kernel
theorem dX0_sizeOf_36 : decode cX0_sizeOf 36 = .ok (.iadd, 1) := by decide +kernel
theorem dX0_sizeOf_37 : decode cX0_sizeOf 37 = .ok (.i2l, 1) := by decide +kernel
theorem dX0_sizeOf_38 : decode cX0_sizeOf 38 = .ok (.goto 6, 3) := by decide +kernel
theorem dX0_sizeOf_41 : decode cX0_sizeOf 41 = .ok (.lload_n 2, 1) := by decide +kernel
theorem dX0_sizeOf_42 : decode cX0_sizeOf 42 = .ok (.lconst 1, 1) := by decide +kernel
theorem dX0_sizeOf_43 : decode cX0_sizeOf 43 = .ok (.ladd, 1) := by decide +kernel
theorem dX0_sizeOf_44 : decode cX0_sizeOf 44 = .ok (.lreturn, 1) := by decide +kernel
theorem dX0_sizeOf_45 : decode cX0_sizeOf 45 = .ok (.iload_n 1, 1) := by decide +kernel
theorem dX0_sizeOf_46 : decode cX0_sizeOf 46 = .ok (.bipush 7, 2) := by decide +kernel
theorem dX0_sizeOf_48 : decode cX0_sizeOf 48 = .ok (.iand, 1) := by decide +kernel
theorem dX0_sizeOf_49 : decode cX0_sizeOf 49 = .ok (.iconst 4, 1) := by decide +kernel
theorem dX0_sizeOf_50 : decode cX0_sizeOf 50 = .ok (.iadd, 1) := by decide +kernel
theorem dX0_sizeOf_51 : decode cX0_sizeOf 51 = .ok (.i2l, 1) := by decide +kernel
theorem dX0_sizeOf_52 : decode cX0_sizeOf 52 = .ok (.lreturn, 1) := by decide +kernel
theorem dX0_sizeOf_53 : decode cX0_sizeOf 53 = .ok (.iload_n 1, 1) := by decide +kernel
theorem dX0_sizeOf_54 : decode cX0_sizeOf 54 = .ok (.iconst 1, 1) := by decide +kernel
theorem dX0_sizeOf_55 : decode cX0_sizeOf 55 = .ok (.iadd, 1) := by decide +kernel
theorem dX0_sizeOf_56 : decode cX0_sizeOf 56 = .ok (.i2l, 1) := by decide +kernel
theorem dX0_sizeOf_57 : decode cX0_sizeOf 57 = .ok (.lreturn, 1) := by decide +kernel
theorem dX0_backOf_0 : decode cX0_backOf 0 = .ok (.iload_n 0, 1) := by decide +kernel
theorem dX0_backOf_1 : decode cX0_backOf 1 = .ok (.lookupswitch 40 #[(0, 27), (1, 29)], 27) := by decide +kernel
theorem dX0_backOf_28 : decode cX0_backOf 28 = .ok (.lconst 0, 1) := by decide +kernel
theorem dX0_backOf_29 : decode cX0_backOf 29 = .ok (.lreturn, 1) := by decide +kernel
theorem dX0_backOf_30 : decode cX0_backOf 30 = .ok (.iload_n 1, 1) := by decide +kernel
theorem dX0_backOf_31 : decode cX0_backOf 31 = .ok (.iconst 3, 1) := by decide +kernel
theorem dX0_backOf_32 : decode cX0_backOf 32 = .ok (.ishr, 1) := by decide +kernel
theorem dX0_backOf_33 : decode cX0_backOf 33 = .ok (.sipush 256, 3) := by decide +kernel
theorem dX0_backOf_36 : decode cX0_backOf 36 = .ok (.imul, 1) := by decide +kernel
theorem dX0_backOf_37 : decode cX0_backOf 37 = .ok (.i2l, 1) := by decide +kernel
theorem dX0_backOf_38 : decode cX0_backOf 38 = .ok (.lload_n 2, 1) := by decide +kernel
theorem dX0_backOf_39 : decode cX0_backOf 39 = .ok (.ladd, 1) := by decide +kernel
theorem dX0_backOf_40 : decode cX0_backOf 40 = .ok (.lreturn, 1) := by decide +kernel
theorem dX0_backOf_41 : decode cX0_backOf 41 = .ok (.lload_n 2, 1) := by decide +kernel
theorem dX0_backOf_42 : decode cX0_backOf 42 = .ok (.lreturn, 1) := by decide +kernel
theorem dX0_checkElement_0 : decode cX0_checkElement 0 = .ok (.aload_n 0, 1) := by decide +kernel
theorem dX0_checkElement_1 : decode cX0_checkElement 1 = .ok (.getfield 46, 3) := by decide +kernel
theorem dX0_checkElement_4 : decode cX0_checkElement 4 = .ok (.ifCond .ne 33, 3) := by decide +kernel
theorem dX0_checkElement_7 : decode cX0_checkElement 7 = .ok (.aload_n 0, 1) := by decide +kernel
theorem dX0_checkElement_8 : decode cX0_checkElement 8 = .ok (.getfield 52, 3) := by decide +kernel
theorem dX0_checkElement_11 : decode cX0_checkElement 11 = .ok (.aload_n 0, 1) := by decide +kernel
theorem dX0_checkElement_12 : decode cX0_checkElement 12 = .ok (.getfield 37, 3) := by decide +kernel
theorem dX0_checkElement_15 : decode cX0_checkElement 15 = .ok (.aload_n 0, 1) := by decide +kernel
theorem dX0_checkElement_16 : decode cX0_checkElement 16 = .ok (.getfield 49, 3) := by decide +kernel
theorem dX0_checkElement_19 : decode cX0_checkElement 19 = .ok (.isub, 1) := by decide +kernel
theorem dX0_checkElement_20 : decode cX0_checkElement 20 = .ok (.i2l, 1) := by decide +kernel
theorem dX0_checkElement_21 : decode cX0_checkElement 21 = .ok (.lcmp, 1) := by decide +kernel
theorem dX0_checkElement_22 : decode cX0_checkElement 22 = .ok (.ifCond .le 15, 3) := by decide +kernel
theorem dX0_checkElement_25 : decode cX0_checkElement 25 = .ok (.aload_n 0, 1) := by decide +kernel
theorem dX0_checkElement_26 : decode cX0_checkElement 26 = .ok (.iconst 3, 1) := by decide +kernel
theorem dX0_checkElement_27 : decode cX0_checkElement 27 = .ok (.aload_n 0, 1) := by decide +kernel
theorem dX0_checkElement_28 : decode cX0_checkElement 28 = .ok (.getfield 40, 3) := by decide +kernel
theorem dX0_checkElement_31 : decode cX0_checkElement 31 = .ok (.invokevirtual 81, 3) := by decide +kernel
theorem dX0_checkElement_34 : decode cX0_checkElement 34 = .ok (.goto 77, 3) := by decide +kernel
theorem dX0_checkElement_37 : decode cX0_checkElement 37 = .ok (.aload_n 0, 1) := by decide +kernel
theorem dX0_checkElement_38 : decode cX0_checkElement 38 = .ok (.getfield 46, 3) := by decide +kernel
theorem dX0_checkElement_41 : decode cX0_checkElement 41 = .ok (.ifCond .eq 40, 3) := by decide +kernel
theorem dX0_checkElement_44 : decode cX0_checkElement 44 = .ok (.aload_n 0, 1) := by decide +kernel
theorem dX0_checkElement_45 : decode cX0_checkElement 45 = .ok (.getfield 56, 3) := by decide +kernel
theorem dX0_checkElement_48 : decode cX0_checkElement 48 = .ok (.lconst 0, 1) := by decide +kernel
theorem dX0_checkElement_49 : decode cX0_checkElement 49 = .ok (.lcmp, 1) := by decide +kernel
theorem dX0_checkElement_50 : decode cX0_checkElement 50 = .ok (.ifCond .eq 19, 3) := by decide +kernel
theorem dX0_checkElement_53 : decode cX0_checkElement 53 = .ok (.aload_n 0, 1) := by decide +kernel
theorem dX0_checkElement_54 : decode cX0_checkElement 54 = .ok (.getfield 56, 3) := by decide +kernel
theorem dX0_checkElement_57 : decode cX0_checkElement 57 = .ok (.aload_n 0, 1) := by decide +kernel
theorem dX0_checkElement_58 : decode cX0_checkElement 58 = .ok (.getfield 14, 3) := by decide +kernel
theorem dX0_checkElement_61 : decode cX0_checkElement 61 = .ok (.getfield 78, 3) := by decide +kernel
theorem dX0_checkElement_64 : decode cX0_checkElement 64 = .ok (.i2l, 1) := by decide +kernel
theorem dX0_checkElement_65 : decode cX0_checkElement 65 = .ok (.lcmp, 1) := by decide +kernel
theorem dX0_checkElement_66 : decode cX0_checkElement 66 = .ok (.ifCond .le 15, 3) := by decide +kernel
theorem dX0_checkElement_69 : decode cX0_checkElement 69 = .ok (.aload_n 0, 1) := by decide +kernel
theorem dX0_checkElement_70 : decode cX0_checkElement 70 = .ok (.iconst 4, 1) := by decide +kernel
theorem dX0_checkElement_71 : decode cX0_checkElement 71 = .ok (.aload_n 0, 1) := by decide +kernel
theorem dX0_checkElement_72 : decode cX0_checkElement 72 = .ok (.getfield 40, 3) := by decide +kernel
theorem dX0_checkElement_75 : decode cX0_checkElement 75 = .ok (.invokevirtual 81, 3) := by decide +kernel
theorem dX0_checkElement_78 : decode cX0_checkElement 78 = .ok (.goto 33, 3) := by decide +kernel
theorem dX0_checkElement_81 : decode cX0_checkElement 81 = .ok (.aload_n 0, 1) := by decide +kernel
theorem dX0_checkElement_82 : decode cX0_checkElement 82 = .ok (.getfield 52, 3) := by decide +kernel
theorem dX0_checkElement_85 : decode cX0_checkElement 85 = .ok (.aload_n 0, 1) := by decide +kernel
theorem dX0_checkElement_86 : decode cX0_checkElement 86 = .ok (.getfield 43, 3) := by decide +kernel
theorem dX0_checkElement_89 : decode cX0_checkElement 89 = .ok (.aload_n 0, 1) := by decide +kernel
theorem dX0_checkElement_90 : decode cX0_checkElement 90 = .ok (.getfield 14, 3) := by decide +kernel
theorem dX0_checkElement_93 : decode cX0_checkElement 93 = .ok (.getfield 78, 3) := by decide +kernel
theorem dX0_checkElement_96 : decode cX0_checkElement 96 = .ok (.isub, 1) := by decide +kernel
theorem dX0_checkElement_97 : decode cX0_checkElement 97 = .ok (.i2l, 1) := by decide +kernel
theorem dX0_checkElement_98 : decode cX0_checkElement 98 = .ok (.lcmp, 1) := by decide +kernel
theorem dX0_checkElement_99 : decode cX0_checkElement 99 = .ok (.ifCond .le 12, 3) := by decide +kernel
theorem dX0_checkElement_102 : decode cX0_checkElement 102 = .ok (.aload_n 0, 1) := by decide +kernel
theorem dX0_checkElement_103 : decode cX0_checkElement 103 = .ok (.iconst 5, 1) := by decide +kernel
theorem dX0_checkElement_104 : decode cX0_checkElement 104 = .ok (.aload_n 0, 1) := by decide +kernel
theorem dX0_checkElement_105 : decode cX0_checkElement 105 = .ok (.getfield 40, 3) := by decide +kernel
theorem dX0_checkElement_108 : decode cX0_checkElement 108 = .ok (.invokevirtual 81, 3) := by decide +kernel
theorem dX0_checkElement_111 : decode cX0_checkElement 111 = .ok (.return_, 1) := by decide +kernel
theorem dX0_giveElement_0 : decode cX0_giveElement 0 = .ok (.aload_n 0, 1) := by decide +kernel
theorem dX0_giveElement_1 : decode cX0_giveElement 1 = .ok (.getfield 52, 3) := by decide +kernel
theorem dX0_giveElement_4 : decode cX0_giveElement 4 = .ok (.l2i, 1) := by decide +kernel
theorem dX0_giveElement_5 : decode cX0_giveElement 5 = .ok (.istore_n 2, 1) := by decide +kernel
theorem dX0_giveElement_6 : decode cX0_giveElement 6 = .ok (.aload_n 0, 1) := by decide +kernel
theorem dX0_giveElement_7 : decode cX0_giveElement 7 = .ok (.getfield 56, 3) := by decide +kernel
theorem dX0_giveElement_10 : decode cX0_giveElement 10 = .ok (.l2i, 1) := by decide +kernel
theorem dX0_giveElement_11 : decode cX0_giveElement 11 = .ok (.istore_n 3, 1) := by decide +kernel
theorem dX0_giveElement_12 : decode cX0_giveElement 12 = .ok (.aload_n 0, 1) := by decide +kernel
theorem dX0_giveElement_13 : decode cX0_giveElement 13 = .ok (.getfield 23, 3) := by decide +kernel
theorem dX0_giveElement_16 : decode cX0_giveElement 16 = .ok (.aload_n 0, 1) := by decide +kernel
theorem dX0_giveElement_17 : decode cX0_giveElement 17 = .ok (.getfield 46, 3) := by decide +kernel
theorem dX0_giveElement_20 : decode cX0_giveElement 20 = .ok (.aload_n 0, 1) := by decide +kernel
theorem dX0_giveElement_21 : decode cX0_giveElement 21 = .ok (.getfield 40, 3) := by decide +kernel
theorem dX0_giveElement_24 : decode cX0_giveElement 24 = .ok (.aload_n 0, 1) := by decide +kernel
theorem dX0_giveElement_25 : decode cX0_giveElement 25 = .ok (.getfield 34, 3) := by decide +kernel
theorem dX0_giveElement_28 : decode cX0_giveElement 28 = .ok (.isub, 1) := by decide +kernel
theorem dX0_giveElement_29 : decode cX0_giveElement 29 = .ok (.iload_n 2, 1) := by decide +kernel
theorem dX0_giveElement_30 : decode cX0_giveElement 30 = .ok (.iload_n 3, 1) := by decide +kernel
theorem dX0_giveElement_31 : decode cX0_giveElement 31 = .ok (.aload_n 0, 1) := by decide +kernel
theorem dX0_giveElement_32 : decode cX0_giveElement 32 = .ok (.getfield 14, 3) := by decide +kernel
theorem dX0_giveElement_35 : decode cX0_giveElement 35 = .ok (.getfield 78, 3) := by decide +kernel
theorem dX0_giveElement_38 : decode cX0_giveElement 38 = .ok (.aload_n 0, 1) := by decide +kernel
theorem dX0_giveElement_39 : decode cX0_giveElement 39 = .ok (.getfield 46, 3) := by decide +kernel
theorem dX0_giveElement_42 : decode cX0_giveElement 42 = .ok (.ifCond .ne 7, 3) := by decide +kernel
theorem dX0_giveElement_45 : decode cX0_giveElement 45 = .ok (.iconst 1, 1) := by decide +kernel
theorem dX0_giveElement_46 : decode cX0_giveElement 46 = .ok (.goto 4, 3) := by decide +kernel
theorem dX0_giveElement_49 : decode cX0_giveElement 49 = .ok (.iconst 0, 1) := by decide +kernel
theorem dX0_giveElement_50 : decode cX0_giveElement 50 = .ok (.invokevirtual 108, 3) := by decide +kernel
theorem dX0_giveElement_53 : decode cX0_giveElement 53 = .ok (.aload_n 0, 1) := by decide +kernel
theorem dX0_giveElement_54 : decode cX0_giveElement 54 = .ok (.getfield 46, 3) := by decide +kernel
theorem dX0_giveElement_57 : decode cX0_giveElement 57 = .ok (.ifCond .ne 29, 3) := by decide +kernel
theorem dX0_giveElement_60 : decode cX0_giveElement 60 = .ok (.aload_n 0, 1) := by decide +kernel
theorem dX0_giveElement_61 : decode cX0_giveElement 61 = .ok (.getfield 14, 3) := by decide +kernel
theorem dX0_giveElement_64 : decode cX0_giveElement 64 = .ok (.aload_n 1, 1) := by decide +kernel
theorem dX0_giveElement_65 : decode cX0_giveElement 65 = .ok (.aload_n 0, 1) := by decide +kernel
theorem dX0_giveElement_66 : decode cX0_giveElement 66 = .ok (.getfield 49, 3) := by decide +kernel
theorem dX0_giveElement_69 : decode cX0_giveElement 69 = .ok (.iload_n 2, 1) := by decide +kernel
theorem dX0_giveElement_70 : decode cX0_giveElement 70 = .ok (.invokevirtual 112, 3) := by decide +kernel
theorem dX0_giveElement_73 : decode cX0_giveElement 73 = .ok (.aload_n 0, 1) := by decide +kernel
theorem dX0_giveElement_74 : decode cX0_giveElement 74 = .ok (.aload_n 0, 1) := by decide +kernel
theorem dX0_giveElement_75 : decode cX0_giveElement 75 = .ok (.getfield 49, 3) := by decide +kernel
theorem dX0_giveElement_78 : decode cX0_giveElement 78 = .ok (.iload_n 2, 1) := by decide +kernel
theorem dX0_giveElement_79 : decode cX0_giveElement 79 = .ok (.iadd, 1) := by decide +kernel
theorem dX0_giveElement_80 : decode cX0_giveElement 80 = .ok (.putfield 40, 3) := by decide +kernel
theorem dX0_giveElement_83 : decode cX0_giveElement 83 = .ok (.goto 28, 3) := by decide +kernel
theorem dX0_giveElement_86 : decode cX0_giveElement 86 = .ok (.aload_n 0, 1) := by decide +kernel
theorem dX0_giveElement_87 : decode cX0_giveElement 87 = .ok (.getfield 14, 3) := by decide +kernel
theorem dX0_giveElement_90 : decode cX0_giveElement 90 = .ok (.aload_n 0, 1) := by decide +kernel
theorem dX0_giveElement_91 : decode cX0_giveElement 91 = .ok (.getfield 14, 3) := by decide +kernel
theorem dX0_giveElement_94 : decode cX0_giveElement 94 = .ok (.getfield 78, 3) := by decide +kernel
theorem dX0_giveElement_97 : decode cX0_giveElement 97 = .ok (.iload_n 3, 1) := by decide +kernel
theorem dX0_giveElement_98 : decode cX0_giveElement 98 = .ok (.isub, 1) := by decide +kernel
theorem dX0_giveElement_99 : decode cX0_giveElement 99 = .ok (.iload_n 2, 1) := by decide +kernel
theorem dX0_giveElement_100 : decode cX0_giveElement 100 = .ok (.invokevirtual 116, 3) := by decide +kernel
theorem dX0_giveElement_103 : decode cX0_giveElement 103 = .ok (.aload_n 0, 1) := by decide +kernel
theorem dX0_giveElement_104 : decode cX0_giveElement 104 = .ok (.aload_n 0, 1) := by decide +kernel
theorem dX0_giveElement_105 : decode cX0_giveElement 105 = .ok (.getfield 49, 3) := by decide +kernel
theorem dX0_giveElement_108 : decode cX0_giveElement 108 = .ok (.putfield 40, 3) := by decide +kernel
theorem dX0_giveElement_111 : decode cX0_giveElement 111 = .ok (.return_, 1) := by decide +kernel
theorem dX1_init_0 : decode cX1_init 0 = .ok (.aload_n 0, 1) := by decide +kernel
theorem dX1_init_1 : decode cX1_init 1 = .ok (.invokespecial 3, 3) := by decide +kernel
theorem dX1_init_4 : decode cX1_init 4 = .ok (.aload_n 0, 1) := by decide +kernel
theorem dX1_init_5 : decode cX1_init 5 = .ok (.iconst 0, 1) := by decide +kernel
theorem dX1_init_6 : decode cX1_init 6 = .ok (.putfield 9, 3) := by decide +kernel
theorem dX1_init_9 : decode cX1_init 9 = .ok (.aload_n 0, 1) := by decide +kernel
theorem dX1_init_10 : decode cX1_init 10 = .ok (.iload_n 1, 1) := by decide +kernel
theorem dX1_init_11 : decode cX1_init 11 = .ok (.iconst 0, 1) := by decide +kernel
theorem dX1_init_12 : decode cX1_init 12 = .ok (.invokestatic 15, 3) := by decide +kernel
theorem dX1_init_15 : decode cX1_init 15 = .ok (.newarray .int, 2) := by decide +kernel
theorem dX1_init_17 : decode cX1_init 17 = .ok (.putfield 21, 3) := by decide +kernel
theorem dX1_init_20 : decode cX1_init 20 = .ok (.return_, 1) := by decide +kernel
theorem dX1_hasRoomFor_0 : decode cX1_hasRoomFor 0 = .ok (.iload_n 1, 1) := by decide +kernel
theorem dX1_hasRoomFor_1 : decode cX1_hasRoomFor 1 = .ok (.ifCond .lt 21, 3) := by decide +kernel
theorem dX1_hasRoomFor_4 : decode cX1_hasRoomFor 4 = .ok (.iload_n 1, 1) := by decide +kernel
theorem dX1_hasRoomFor_5 : decode cX1_hasRoomFor 5 = .ok (.aload_n 0, 1) := by decide +kernel
theorem dX1_hasRoomFor_6 : decode cX1_hasRoomFor 6 = .ok (.getfield 21, 3) := by decide +kernel
theorem dX1_hasRoomFor_9 : decode cX1_hasRoomFor 9 = .ok (.arraylength, 1) := by decide +kernel
theorem dX1_hasRoomFor_10 : decode cX1_hasRoomFor 10 = .ok (.aload_n 0, 1) := by decide +kernel
theorem dX1_hasRoomFor_11 : decode cX1_hasRoomFor 11 = .ok (.getfield 9, 3) := by decide +kernel
theorem dX1_hasRoomFor_14 : decode cX1_hasRoomFor 14 = .ok (.isub, 1) := by decide +kernel
theorem dX1_hasRoomFor_15 : decode cX1_hasRoomFor 15 = .ok (.if_icmp .gt 7, 3) := by decide +kernel
theorem dX1_hasRoomFor_18 : decode cX1_hasRoomFor 18 = .ok (.iconst 1, 1) := by decide +kernel
theorem dX1_hasRoomFor_19 : decode cX1_hasRoomFor 19 = .ok (.goto 4, 3) := by decide +kernel
theorem dX1_hasRoomFor_22 : decode cX1_hasRoomFor 22 = .ok (.iconst 0, 1) := by decide +kernel
theorem dX1_hasRoomFor_23 : decode cX1_hasRoomFor 23 = .ok (.ireturn, 1) := by decide +kernel
theorem dX1_hasPlace_0 : decode cX1_hasPlace 0 = .ok (.iload_n 1, 1) := by decide +kernel
theorem dX1_hasPlace_1 : decode cX1_hasPlace 1 = .ok (.ifCond .lt 15, 3) := by decide +kernel
theorem dX1_hasPlace_4 : decode cX1_hasPlace 4 = .ok (.iload_n 1, 1) := by decide +kernel
theorem dX1_hasPlace_5 : decode cX1_hasPlace 5 = .ok (.aload_n 0, 1) := by decide +kernel
theorem dX1_hasPlace_6 : decode cX1_hasPlace 6 = .ok (.getfield 9, 3) := by decide +kernel
theorem dX1_hasPlace_9 : decode cX1_hasPlace 9 = .ok (.if_icmp .ge 7, 3) := by decide +kernel
theorem dX1_hasPlace_12 : decode cX1_hasPlace 12 = .ok (.iconst 1, 1) := by decide +kernel
theorem dX1_hasPlace_13 : decode cX1_hasPlace 13 = .ok (.goto 4, 3) := by decide +kernel
theorem dX1_hasPlace_16 : decode cX1_hasPlace 16 = .ok (.iconst 0, 1) := by decide +kernel
theorem dX1_hasPlace_17 : decode cX1_hasPlace 17 = .ok (.ireturn, 1) := by decide +kernel
theorem dX1_has_0 : decode cX1_has 0 = .ok (.iload_n 1, 1) := by decide +kernel
theorem dX1_has_1 : decode cX1_has 1 = .ok (.ifCond .lt 21, 3) := by decide +kernel
theorem dX1_has_4 : decode cX1_has 4 = .ok (.iload_n 2, 1) := by decide +kernel
theorem dX1_has_5 : decode cX1_has 5 = .ok (.ifCond .lt 17, 3) := by decide +kernel
theorem dX1_has_8 : decode cX1_has 8 = .ok (.iload_n 1, 1) := by decide +kernel
theorem dX1_has_9 : decode cX1_has 9 = .ok (.aload_n 0, 1) := by decide +kernel
theorem dX1_has_10 : decode cX1_has 10 = .ok (.getfield 9, 3) := by decide +kernel
theorem dX1_has_13 : decode cX1_has 13 = .ok (.iload_n 2, 1) := by decide +kernel
theorem dX1_has_14 : decode cX1_has 14 = .ok (.isub, 1) := by decide +kernel
theorem dX1_has_15 : decode cX1_has 15 = .ok (.if_icmp .gt 7, 3) := by decide +kernel
theorem dX1_has_18 : decode cX1_has 18 = .ok (.iconst 1, 1) := by decide +kernel
theorem dX1_has_19 : decode cX1_has 19 = .ok (.goto 4, 3) := by decide +kernel
theorem dX1_has_22 : decode cX1_has 22 = .ok (.iconst 0, 1) := by decide +kernel
theorem dX1_has_23 : decode cX1_has 23 = .ok (.ireturn, 1) := by decide +kernel
theorem dX1_at_0 : decode cX1_at 0 = .ok (.iload_n 1, 1) := by decide +kernel
theorem dX1_at_1 : decode cX1_at 1 = .ok (.ifCond .lt 20, 3) := by decide +kernel
theorem dX1_at_4 : decode cX1_at 4 = .ok (.iload_n 1, 1) := by decide +kernel
theorem dX1_at_5 : decode cX1_at 5 = .ok (.aload_n 0, 1) := by decide +kernel
theorem dX1_at_6 : decode cX1_at 6 = .ok (.getfield 9, 3) := by decide +kernel
theorem dX1_at_9 : decode cX1_at 9 = .ok (.if_icmp .ge 12, 3) := by decide +kernel
theorem dX1_at_12 : decode cX1_at 12 = .ok (.aload_n 0, 1) := by decide +kernel
theorem dX1_at_13 : decode cX1_at 13 = .ok (.getfield 21, 3) := by decide +kernel
theorem dX1_at_16 : decode cX1_at 16 = .ok (.iload_n 1, 1) := by decide +kernel
theorem dX1_at_17 : decode cX1_at 17 = .ok (.iaload, 1) := by decide +kernel
theorem dX1_at_18 : decode cX1_at 18 = .ok (.goto 4, 3) := by decide +kernel
theorem dX1_at_21 : decode cX1_at 21 = .ok (.iconst (-1), 1) := by decide +kernel
theorem dX1_at_22 : decode cX1_at 22 = .ok (.ireturn, 1) := by decide +kernel
theorem dX1_change_0 : decode cX1_change 0 = .ok (.aload_n 0, 1) := by decide +kernel
theorem dX1_change_1 : decode cX1_change 1 = .ok (.iload_n 1, 1) := by decide +kernel
theorem dX1_change_2 : decode cX1_change 2 = .ok (.invokevirtual 25, 3) := by decide +kernel
theorem dX1_change_5 : decode cX1_change 5 = .ok (.ifCond .eq 10, 3) := by decide +kernel
theorem dX1_change_8 : decode cX1_change 8 = .ok (.aload_n 0, 1) := by decide +kernel
theorem dX1_change_9 : decode cX1_change 9 = .ok (.getfield 21, 3) := by decide +kernel
theorem dX1_change_12 : decode cX1_change 12 = .ok (.iload_n 1, 1) := by decide +kernel
theorem dX1_change_13 : decode cX1_change 13 = .ok (.iload_n 2, 1) := by decide +kernel
theorem dX1_change_14 : decode cX1_change 14 = .ok (.iastore, 1) := by decide +kernel
theorem dX1_change_15 : decode cX1_change 15 = .ok (.return_, 1) := by decide +kernel
theorem dX1_shorten_0 : decode cX1_shorten 0 = .ok (.aload_n 0, 1) := by decide +kernel
theorem dX1_shorten_1 : decode cX1_shorten 1 = .ok (.iconst 0, 1) := by decide +kernel
theorem dX1_shorten_2 : decode cX1_shorten 2 = .ok (.iload_n 1, 1) := by decide +kernel
theorem dX1_shorten_3 : decode cX1_shorten 3 = .ok (.invokevirtual 29, 3) := by decide +kernel
theorem dX1_shorten_6 : decode cX1_shorten 6 = .ok (.ifCond .eq 8, 3) := by decide +kernel
theorem dX1_shorten_9 : decode cX1_shorten 9 = .ok (.aload_n 0, 1) := by decide +kernel
theorem dX1_shorten_10 : decode cX1_shorten 10 = .ok (.iload_n 1, 1) := by decide +kernel
theorem dX1_shorten_11 : decode cX1_shorten 11 = .ok (.putfield 9, 3) := by decide +kernel
theorem dX1_shorten_14 : decode cX1_shorten 14 = .ok (.return_, 1) := by decide +kernel
theorem dX1_put_0 : decode cX1_put 0 = .ok (.aload_n 0, 1) := by decide +kernel
theorem dX1_put_1 : decode cX1_put 1 = .ok (.getfield 9, 3) := by decide +kernel
theorem dX1_put_4 : decode cX1_put 4 = .ok (.aload_n 0, 1) := by decide +kernel
theorem dX1_put_5 : decode cX1_put 5 = .ok (.getfield 21, 3) := by decide +kernel
theorem dX1_put_8 : decode cX1_put 8 = .ok (.arraylength, 1) := by decide +kernel
theorem dX1_put_9 : decode cX1_put 9 = .ok (.if_icmp .ge 23, 3) := by decide +kernel
theorem dX1_put_12 : decode cX1_put 12 = .ok (.aload_n 0, 1) := by decide +kernel
theorem dX1_put_13 : decode cX1_put 13 = .ok (.getfield 21, 3) := by decide +kernel
theorem dX1_put_16 : decode cX1_put 16 = .ok (.aload_n 0, 1) := by decide +kernel
theorem dX1_put_17 : decode cX1_put 17 = .ok (.getfield 9, 3) := by decide +kernel
theorem dX1_put_20 : decode cX1_put 20 = .ok (.iload_n 1, 1) := by decide +kernel
theorem dX1_put_21 : decode cX1_put 21 = .ok (.iastore, 1) := by decide +kernel
theorem dX1_put_22 : decode cX1_put 22 = .ok (.aload_n 0, 1) := by decide +kernel
theorem dX1_put_23 : decode cX1_put 23 = .ok (.dup, 1) := by decide +kernel
theorem dX1_put_24 : decode cX1_put 24 = .ok (.getfield 9, 3) := by decide +kernel
theorem dX1_put_27 : decode cX1_put 27 = .ok (.iconst 1, 1) := by decide +kernel
theorem dX1_put_28 : decode cX1_put 28 = .ok (.iadd, 1) := by decide +kernel
theorem dX1_put_29 : decode cX1_put 29 = .ok (.putfield 9, 3) := by decide +kernel
theorem dX1_put_32 : decode cX1_put 32 = .ok (.return_, 1) := by decide +kernel
theorem dX1_putHighestFirst_0 : decode cX1_putHighestFirst 0 = .ok (.aload_n 0, 1) := by decide +kernel
theorem dX1_putHighestFirst_1 : decode cX1_putHighestFirst 1 = .ok (.iload_n 1, 1) := by decide +kernel
theorem dX1_putHighestFirst_2 : decode cX1_putHighestFirst 2 = .ok (.bipush 24, 2) := by decide +kernel
theorem dX1_putHighestFirst_4 : decode cX1_putHighestFirst 4 = .ok (.iushr, 1) := by decide +kernel
theorem dX1_putHighestFirst_5 : decode cX1_putHighestFirst 5 = .ok (.invokevirtual 33, 3) := by decide +kernel
theorem dX1_putHighestFirst_8 : decode cX1_putHighestFirst 8 = .ok (.aload_n 0, 1) := by decide +kernel
theorem dX1_putHighestFirst_9 : decode cX1_putHighestFirst 9 = .ok (.iload_n 1, 1) := by decide +kernel
theorem dX1_putHighestFirst_10 : decode cX1_putHighestFirst 10 = .ok (.bipush 16, 2) := by decide +kernel
theorem dX1_putHighestFirst_12 : decode cX1_putHighestFirst 12 = .ok (.iushr, 1) := by decide +kernel
theorem dX1_putHighestFirst_13 : decode cX1_putHighestFirst 13 = .ok (.sipush 255, 3) := by decide +kernel
theorem dX1_putHighestFirst_16 : decode cX1_putHighestFirst 16 = .ok (.iand, 1) := by decide +kernel
theorem dX1_putHighestFirst_17 : decode cX1_putHighestFirst 17 = .ok (.invokevirtual 33, 3) := by decide +kernel
theorem dX1_putHighestFirst_20 : decode cX1_putHighestFirst 20 = .ok (.aload_n 0, 1) := by decide +kernel
theorem dX1_putHighestFirst_21 : decode cX1_putHighestFirst 21 = .ok (.iload_n 1, 1) := by decide +kernel
theorem dX1_putHighestFirst_22 : decode cX1_putHighestFirst 22 = .ok (.bipush 8, 2) := by decide +kernel
theorem dX1_putHighestFirst_24 : decode cX1_putHighestFirst 24 = .ok (.iushr, 1) := by decide +kernel
theorem dX1_putHighestFirst_25 : decode cX1_putHighestFirst 25 = .ok (.sipush 255, 3) := by decide +kernel
theorem dX1_putHighestFirst_28 : decode cX1_putHighestFirst 28 = .ok (.iand, 1) := by decide +kernel
theorem dX1_putHighestFirst_29 : decode cX1_putHighestFirst 29 = .ok (.invokevirtual 33, 3) := by decide +kernel
theorem dX1_putHighestFirst_32 : decode cX1_putHighestFirst 32 = .ok (.aload_n 0, 1) := by decide +kernel
theorem dX1_putHighestFirst_33 : decode cX1_putHighestFirst 33 = .ok (.iload_n 1, 1) := by decide +kernel
theorem dX1_putHighestFirst_34 : decode cX1_putHighestFirst 34 = .ok (.sipush 255, 3) := by decide +kernel
theorem dX1_putHighestFirst_37 : decode cX1_putHighestFirst 37 = .ok (.iand, 1) := by decide +kernel
theorem dX1_putHighestFirst_38 : decode cX1_putHighestFirst 38 = .ok (.invokevirtual 33, 3) := by decide +kernel
theorem dX1_putHighestFirst_41 : decode cX1_putHighestFirst 41 = .ok (.return_, 1) := by decide +kernel
theorem dX1_putLowestFirst_0 : decode cX1_putLowestFirst 0 = .ok (.iconst 0, 1) := by decide +kernel
theorem dX1_putLowestFirst_1 : decode cX1_putLowestFirst 1 = .ok (.istore_n 3, 1) := by decide +kernel
theorem dX1_putLowestFirst_2 : decode cX1_putLowestFirst 2 = .ok (.iload_n 3, 1) := by decide +kernel
theorem dX1_putLowestFirst_3 : decode cX1_putLowestFirst 3 = .ok (.iload_n 2, 1) := by decide +kernel
theorem dX1_putLowestFirst_4 : decode cX1_putLowestFirst 4 = .ok (.if_icmp .ge 23, 3) := by decide +kernel
theorem dX1_putLowestFirst_7 : decode cX1_putLowestFirst 7 = .ok (.aload_n 0, 1) := by decide +kernel
theorem dX1_putLowestFirst_8 : decode cX1_putLowestFirst 8 = .ok (.iload_n 1, 1) := by decide +kernel
theorem dX1_putLowestFirst_9 : decode cX1_putLowestFirst 9 = .ok (.bipush 8, 2) := by decide +kernel
theorem dX1_putLowestFirst_11 : decode cX1_putLowestFirst 11 = .ok (.iload_n 3, 1) := by decide +kernel
theorem dX1_putLowestFirst_12 : decode cX1_putLowestFirst 12 = .ok (.imul, 1) := by decide +kernel
theorem dX1_putLowestFirst_13 : decode cX1_putLowestFirst 13 = .ok (.iushr, 1) := by decide +kernel
theorem dX1_putLowestFirst_14 : decode cX1_putLowestFirst 14 = .ok (.sipush 255, 3) := by decide +kernel
theorem dX1_putLowestFirst_17 : decode cX1_putLowestFirst 17 = .ok (.iand, 1) := by decide +kernel
theorem dX1_putLowestFirst_18 : decode cX1_putLowestFirst 18 = .ok (.invokevirtual 33, 3) := by decide +kernel
theorem dX1_putLowestFirst_21 : decode cX1_putLowestFirst 21 = .ok (.iinc 3 1, 3) := by decide +kernel
theorem dX1_putLowestFirst_24 : decode cX1_putLowestFirst 24 = .ok (.goto (-22), 3) := by decide +kernel
theorem dX1_putLowestFirst_27 : decode cX1_putLowestFirst 27 = .ok (.return_, 1) := by decide +kernel
theorem dX1_putAll_0 : decode cX1_putAll 0 = .ok (.aload_n 1, 1) := by decide +kernel
theorem dX1_putAll_1 : decode cX1_putAll 1 = .ok (.iload_n 2, 1) := by decide +kernel
theorem dX1_putAll_2 : decode cX1_putAll 2 = .ok (.iload_n 3, 1) := by decide +kernel
theorem dX1_putAll_3 : decode cX1_putAll 3 = .ok (.invokevirtual 29, 3) := by decide +kernel
theorem dX1_putAll_6 : decode cX1_putAll 6 = .ok (.ifCond .eq 38, 3) := by decide +kernel
theorem dX1_putAll_9 : decode cX1_putAll 9 = .ok (.aload_n 0, 1) := by decide +kernel
theorem dX1_putAll_10 : decode cX1_putAll 10 = .ok (.iload_n 3, 1) := by decide +kernel
theorem dX1_putAll_11 : decode cX1_putAll 11 = .ok (.invokevirtual 37, 3) := by decide +kernel
theorem dX1_putAll_14 : decode cX1_putAll 14 = .ok (.ifCond .eq 30, 3) := by decide +kernel
theorem dX1_putAll_17 : decode cX1_putAll 17 = .ok (.aload_n 1, 1) := by decide +kernel
theorem dX1_putAll_18 : decode cX1_putAll 18 = .ok (.getfield 21, 3) := by decide +kernel
theorem dX1_putAll_21 : decode cX1_putAll 21 = .ok (.iload_n 2, 1) := by decide +kernel
theorem dX1_putAll_22 : decode cX1_putAll 22 = .ok (.aload_n 0, 1) := by decide +kernel
theorem dX1_putAll_23 : decode cX1_putAll 23 = .ok (.getfield 21, 3) := by decide +kernel
theorem dX1_putAll_26 : decode cX1_putAll 26 = .ok (.aload_n 0, 1) := by decide +kernel
theorem dX1_putAll_27 : decode cX1_putAll 27 = .ok (.getfield 9, 3) := by decide +kernel
theorem dX1_putAll_30 : decode cX1_putAll 30 = .ok (.iload_n 3, 1) := by decide +kernel
theorem dX1_putAll_31 : decode cX1_putAll 31 = .ok (.invokestatic 40, 3) := by decide +kernel
theorem dX1_putAll_34 : decode cX1_putAll 34 = .ok (.aload_n 0, 1) := by decide +kernel
theorem dX1_putAll_35 : decode cX1_putAll 35 = .ok (.dup, 1) := by decide +kernel
theorem dX1_putAll_36 : decode cX1_putAll 36 = .ok (.getfield 9, 3) := by decide +kernel
theorem dX1_putAll_39 : decode cX1_putAll 39 = .ok (.iload_n 3, 1) := by decide +kernel
theorem dX1_putAll_40 : decode cX1_putAll 40 = .ok (.iadd, 1) := by decide +kernel
theorem dX1_putAll_41 : decode cX1_putAll 41 = .ok (.putfield 9, 3) := by decide +kernel
theorem dX1_putAll_44 : decode cX1_putAll 44 = .ok (.return_, 1) := by decide +kernel
theorem dX1_putOwn_0 : decode cX1_putOwn 0 = .ok (.aload_n 0, 1) := by decide +kernel
theorem dX1_putOwn_1 : decode cX1_putOwn 1 = .ok (.iload_n 1, 1) := by decide +kernel
theorem dX1_putOwn_2 : decode cX1_putOwn 2 = .ok (.invokevirtual 25, 3) := by decide +kernel
theorem dX1_putOwn_5 : decode cX1_putOwn 5 = .ok (.ifCond .eq 11, 3) := by decide +kernel
theorem dX1_putOwn_8 : decode cX1_putOwn 8 = .ok (.aload_n 0, 1) := by decide +kernel
theorem dX1_putOwn_9 : decode cX1_putOwn 9 = .ok (.iload_n 2, 1) := by decide +kernel
theorem dX1_putOwn_10 : decode cX1_putOwn 10 = .ok (.invokevirtual 37, 3) := by decide +kernel
theorem dX1_putOwn_13 : decode cX1_putOwn 13 = .ok (.ifCond .ne 4, 3) := by decide +kernel
theorem dX1_putOwn_16 : decode cX1_putOwn 16 = .ok (.return_, 1) := by decide +kernel
theorem dX1_putOwn_17 : decode cX1_putOwn 17 = .ok (.iconst 0, 1) := by decide +kernel
theorem dX1_putOwn_18 : decode cX1_putOwn 18 = .ok (.istore_n 3, 1) := by decide +kernel
theorem dX1_putOwn_19 : decode cX1_putOwn 19 = .ok (.iload_n 3, 1) := by decide +kernel
theorem dX1_putOwn_20 : decode cX1_putOwn 20 = .ok (.iload_n 2, 1) := by decide +kernel
theorem dX1_putOwn_21 : decode cX1_putOwn 21 = .ok (.if_icmp .ge 36, 3) := by decide +kernel
theorem dX1_putOwn_24 : decode cX1_putOwn 24 = .ok (.aload_n 0, 1) := by decide +kernel
theorem dX1_putOwn_25 : decode cX1_putOwn 25 = .ok (.getfield 21, 3) := by decide +kernel
theorem dX1_putOwn_28 : decode cX1_putOwn 28 = .ok (.aload_n 0, 1) := by decide +kernel
theorem dX1_putOwn_29 : decode cX1_putOwn 29 = .ok (.getfield 9, 3) := by decide +kernel
theorem dX1_putOwn_32 : decode cX1_putOwn 32 = .ok (.aload_n 0, 1) := by decide +kernel
theorem dX1_putOwn_33 : decode cX1_putOwn 33 = .ok (.getfield 21, 3) := by decide +kernel
theorem dX1_putOwn_36 : decode cX1_putOwn 36 = .ok (.iload_n 1, 1) := by decide +kernel
theorem dX1_putOwn_37 : decode cX1_putOwn 37 = .ok (.iload_n 3, 1) := by decide +kernel
theorem dX1_putOwn_38 : decode cX1_putOwn 38 = .ok (.iadd, 1) := by decide +kernel
theorem dX1_putOwn_39 : decode cX1_putOwn 39 = .ok (.iaload, 1) := by decide +kernel
theorem dX1_putOwn_40 : decode cX1_putOwn 40 = .ok (.iastore, 1) := by decide +kernel
theorem dX1_putOwn_41 : decode cX1_putOwn 41 = .ok (.aload_n 0, 1) := by decide +kernel
theorem dX1_putOwn_42 : decode cX1_putOwn 42 = .ok (.dup, 1) := by decide +kernel
theorem dX1_putOwn_43 : decode cX1_putOwn 43 = .ok (.getfield 9, 3) := by decide +kernel
theorem dX1_putOwn_46 : decode cX1_putOwn 46 = .ok (.iconst 1, 1) := by decide +kernel
theorem dX1_putOwn_47 : decode cX1_putOwn 47 = .ok (.iadd, 1) := by decide +kernel
theorem dX1_putOwn_48 : decode cX1_putOwn 48 = .ok (.putfield 9, 3) := by decide +kernel
theorem dX1_putOwn_51 : decode cX1_putOwn 51 = .ok (.iinc 3 1, 3) := by decide +kernel
theorem dX1_putOwn_54 : decode cX1_putOwn 54 = .ok (.goto (-35), 3) := by decide +kernel
theorem dX1_putOwn_57 : decode cX1_putOwn 57 = .ok (.return_, 1) := by decide +kernel
theorem dX1_become_0 : decode cX1_become 0 = .ok (.aload_n 0, 1) := by decide +kernel
theorem dX1_become_1 : decode cX1_become 1 = .ok (.iconst 0, 1) := by decide +kernel
theorem dX1_become_2 : decode cX1_become 2 = .ok (.putfield 9, 3) := by decide +kernel
theorem dX1_become_5 : decode cX1_become 5 = .ok (.aload_n 0, 1) := by decide +kernel
theorem dX1_become_6 : decode cX1_become 6 = .ok (.aload_n 1, 1) := by decide +kernel
theorem dX1_become_7 : decode cX1_become 7 = .ok (.iconst 0, 1) := by decide +kernel
theorem dX1_become_8 : decode cX1_become 8 = .ok (.aload_n 1, 1) := by decide +kernel
theorem dX1_become_9 : decode cX1_become 9 = .ok (.getfield 9, 3) := by decide +kernel
theorem dX1_become_12 : decode cX1_become 12 = .ok (.invokevirtual 46, 3) := by decide +kernel
theorem dX1_become_15 : decode cX1_become 15 = .ok (.return_, 1) := by decide +kernel
theorem dX1_lowestFirst_0 : decode cX1_lowestFirst 0 = .ok (.lconst 0, 1) := by decide +kernel
theorem dX1_lowestFirst_1 : decode cX1_lowestFirst 1 = .ok (.lstore_n 3, 1) := by decide +kernel
theorem dX1_lowestFirst_2 : decode cX1_lowestFirst 2 = .ok (.iconst 0, 1) := by decide +kernel
theorem dX1_lowestFirst_3 : decode cX1_lowestFirst 3 = .ok (.istore 5, 2) := by decide +kernel
theorem dX1_lowestFirst_5 : decode cX1_lowestFirst 5 = .ok (.iload 5, 2) := by decide +kernel
theorem dX1_lowestFirst_7 : decode cX1_lowestFirst 7 = .ok (.iload_n 2, 1) := by decide +kernel
theorem dX1_lowestFirst_8 : decode cX1_lowestFirst 8 = .ok (.if_icmp .ge 27, 3) := by decide +kernel
theorem dX1_lowestFirst_11 : decode cX1_lowestFirst 11 = .ok (.lload_n 3, 1) := by decide +kernel
theorem dX1_lowestFirst_12 : decode cX1_lowestFirst 12 = .ok (.aload_n 0, 1) := by decide +kernel
theorem dX1_lowestFirst_13 : decode cX1_lowestFirst 13 = .ok (.iload_n 1, 1) := by decide +kernel
theorem dX1_lowestFirst_14 : decode cX1_lowestFirst 14 = .ok (.iload 5, 2) := by decide +kernel
theorem dX1_lowestFirst_16 : decode cX1_lowestFirst 16 = .ok (.iadd, 1) := by decide +kernel
theorem dX1_lowestFirst_17 : decode cX1_lowestFirst 17 = .ok (.invokevirtual 50, 3) := by decide +kernel
theorem dX1_lowestFirst_20 : decode cX1_lowestFirst 20 = .ok (.i2l, 1) := by decide +kernel
theorem dX1_lowestFirst_21 : decode cX1_lowestFirst 21 = .ok (.bipush 8, 2) := by decide +kernel
theorem dX1_lowestFirst_23 : decode cX1_lowestFirst 23 = .ok (.iload 5, 2) := by decide +kernel
theorem dX1_lowestFirst_25 : decode cX1_lowestFirst 25 = .ok (.imul, 1) := by decide +kernel
theorem dX1_lowestFirst_26 : decode cX1_lowestFirst 26 = .ok (.lshl, 1) := by decide +kernel
theorem dX1_lowestFirst_27 : decode cX1_lowestFirst 27 = .ok (.lor, 1) := by decide +kernel
theorem dX1_lowestFirst_28 : decode cX1_lowestFirst 28 = .ok (.lstore_n 3, 1) := by decide +kernel
theorem dX1_lowestFirst_29 : decode cX1_lowestFirst 29 = .ok (.iinc 5 1, 3) := by decide +kernel
theorem dX1_lowestFirst_32 : decode cX1_lowestFirst 32 = .ok (.goto (-27), 3) := by decide +kernel
theorem dX1_lowestFirst_35 : decode cX1_lowestFirst 35 = .ok (.lload_n 3, 1) := by decide +kernel
theorem dX1_lowestFirst_36 : decode cX1_lowestFirst 36 = .ok (.lreturn, 1) := by decide +kernel
theorem dX1_fourFrom_0 : decode cX1_fourFrom 0 = .ok (.aload_n 0, 1) := by decide +kernel
theorem dX1_fourFrom_1 : decode cX1_fourFrom 1 = .ok (.iload_n 1, 1) := by decide +kernel
theorem dX1_fourFrom_2 : decode cX1_fourFrom 2 = .ok (.iconst 4, 1) := by decide +kernel
theorem dX1_fourFrom_3 : decode cX1_fourFrom 3 = .ok (.invokevirtual 29, 3) := by decide +kernel
theorem dX1_fourFrom_6 : decode cX1_fourFrom 6 = .ok (.ifCond .ne 5, 3) := by decide +kernel
theorem dX1_fourFrom_9 : decode cX1_fourFrom 9 = .ok (.iconst (-1), 1) := by decide +kernel
theorem dX1_fourFrom_10 : decode cX1_fourFrom 10 = .ok (.ireturn, 1) := by decide +kernel
theorem dX1_fourFrom_11 : decode cX1_fourFrom 11 = .ok (.aload_n 0, 1) := by decide +kernel
theorem dX1_fourFrom_12 : decode cX1_fourFrom 12 = .ok (.getfield 21, 3) := by decide +kernel
theorem dX1_fourFrom_15 : decode cX1_fourFrom 15 = .ok (.iload_n 1, 1) := by decide +kernel
theorem dX1_fourFrom_16 : decode cX1_fourFrom 16 = .ok (.iaload, 1) := by decide +kernel
theorem dX1_fourFrom_17 : decode cX1_fourFrom 17 = .ok (.aload_n 0, 1) := by decide +kernel
theorem dX1_fourFrom_18 : decode cX1_fourFrom 18 = .ok (.getfield 21, 3) := by decide +kernel
theorem dX1_fourFrom_21 : decode cX1_fourFrom 21 = .ok (.iload_n 1, 1) := by decide +kernel
theorem dX1_fourFrom_22 : decode cX1_fourFrom 22 = .ok (.iconst 1, 1) := by decide +kernel
theorem dX1_fourFrom_23 : decode cX1_fourFrom 23 = .ok (.iadd, 1) := by decide +kernel
theorem dX1_fourFrom_24 : decode cX1_fourFrom 24 = .ok (.iaload, 1) := by decide +kernel
theorem dX1_fourFrom_25 : decode cX1_fourFrom 25 = .ok (.bipush 8, 2) := by decide +kernel
theorem dX1_fourFrom_27 : decode cX1_fourFrom 27 = .ok (.ishl, 1) := by decide +kernel
theorem dX1_fourFrom_28 : decode cX1_fourFrom 28 = .ok (.ior, 1) := by decide +kernel
theorem dX1_fourFrom_29 : decode cX1_fourFrom 29 = .ok (.aload_n 0, 1) := by decide +kernel
theorem dX1_fourFrom_30 : decode cX1_fourFrom 30 = .ok (.getfield 21, 3) := by decide +kernel
theorem dX1_fourFrom_33 : decode cX1_fourFrom 33 = .ok (.iload_n 1, 1) := by decide +kernel
theorem dX1_fourFrom_34 : decode cX1_fourFrom 34 = .ok (.iconst 2, 1) := by decide +kernel
theorem dX1_fourFrom_35 : decode cX1_fourFrom 35 = .ok (.iadd, 1) := by decide +kernel
theorem dX1_fourFrom_36 : decode cX1_fourFrom 36 = .ok (.iaload, 1) := by decide +kernel
theorem dX1_fourFrom_37 : decode cX1_fourFrom 37 = .ok (.bipush 16, 2) := by decide +kernel
theorem dX1_fourFrom_39 : decode cX1_fourFrom 39 = .ok (.ishl, 1) := by decide +kernel
theorem dX1_fourFrom_40 : decode cX1_fourFrom 40 = .ok (.ior, 1) := by decide +kernel
theorem dX1_fourFrom_41 : decode cX1_fourFrom 41 = .ok (.aload_n 0, 1) := by decide +kernel
theorem dX1_fourFrom_42 : decode cX1_fourFrom 42 = .ok (.getfield 21, 3) := by decide +kernel
theorem dX1_fourFrom_45 : decode cX1_fourFrom 45 = .ok (.iload_n 1, 1) := by decide +kernel
theorem dX1_fourFrom_46 : decode cX1_fourFrom 46 = .ok (.iconst 3, 1) := by decide +kernel
theorem dX1_fourFrom_47 : decode cX1_fourFrom 47 = .ok (.iadd, 1) := by decide +kernel
theorem dX1_fourFrom_48 : decode cX1_fourFrom 48 = .ok (.iaload, 1) := by decide +kernel
theorem dX1_fourFrom_49 : decode cX1_fourFrom 49 = .ok (.bipush 24, 2) := by decide +kernel
theorem dX1_fourFrom_51 : decode cX1_fourFrom 51 = .ok (.ishl, 1) := by decide +kernel
theorem dX1_fourFrom_52 : decode cX1_fourFrom 52 = .ok (.ior, 1) := by decide +kernel
theorem dX1_fourFrom_53 : decode cX1_fourFrom 53 = .ok (.ireturn, 1) := by decide +kernel
theorem dX1_crc_0 : decode cX1_crc 0 = .ok (.aload_n 0, 1) := by decide +kernel
theorem dX1_crc_1 : decode cX1_crc 1 = .ok (.iload_n 1, 1) := by decide +kernel
theorem dX1_crc_2 : decode cX1_crc 2 = .ok (.iload_n 2, 1) := by decide +kernel
theorem dX1_crc_3 : decode cX1_crc 3 = .ok (.invokevirtual 29, 3) := by decide +kernel
theorem dX1_crc_6 : decode cX1_crc 6 = .ok (.ifCond .ne 5, 3) := by decide +kernel
theorem dX1_crc_9 : decode cX1_crc 9 = .ok (.iconst 0, 1) := by decide +kernel
theorem dX1_crc_10 : decode cX1_crc 10 = .ok (.ireturn, 1) := by decide +kernel
theorem dX1_crc_11 : decode cX1_crc 11 = .ok (.iconst (-1), 1) := by decide +kernel
theorem dX1_crc_12 : decode cX1_crc 12 = .ok (.istore_n 3, 1) := by decide +kernel
theorem dX1_crc_13 : decode cX1_crc 13 = .ok (.iconst 0, 1) := by decide +kernel
theorem dX1_crc_14 : decode cX1_crc 14 = .ok (.istore 4, 2) := by decide +kernel
theorem dX1_crc_16 : decode cX1_crc 16 = .ok (.iload 4, 2) := by decide +kernel
theorem dX1_crc_18 : decode cX1_crc 18 = .ok (.iload_n 2, 1) := by decide +kernel
theorem dX1_crc_19 : decode cX1_crc 19 = .ok (.if_icmp .ge 47, 3) := by decide +kernel
theorem dX1_crc_22 : decode cX1_crc 22 = .ok (.iload_n 3, 1) := by decide +kernel
theorem dX1_crc_23 : decode cX1_crc 23 = .ok (.aload_n 0, 1) := by decide +kernel
theorem dX1_crc_24 : decode cX1_crc 24 = .ok (.getfield 21, 3) := by decide +kernel
theorem dX1_crc_27 : decode cX1_crc 27 = .ok (.iload_n 1, 1) := by decide +kernel
theorem dX1_crc_28 : decode cX1_crc 28 = .ok (.iload 4, 2) := by decide +kernel
theorem dX1_crc_30 : decode cX1_crc 30 = .ok (.iadd, 1) := by decide +kernel
theorem dX1_crc_31 : decode cX1_crc 31 = .ok (.iaload, 1) := by decide +kernel
theorem dX1_crc_32 : decode cX1_crc 32 = .ok (.ixor, 1) := by decide +kernel
theorem dX1_crc_33 : decode cX1_crc 33 = .ok (.istore_n 3, 1) := by decide +kernel
theorem dX1_crc_34 : decode cX1_crc 34 = .ok (.iload_n 3, 1) := by decide +kernel
theorem dX1_crc_35 : decode cX1_crc 35 = .ok (.iconst 4, 1) := by decide +kernel
theorem dX1_crc_36 : decode cX1_crc 36 = .ok (.iushr, 1) := by decide +kernel
theorem dX1_crc_37 : decode cX1_crc 37 = .ok (.getstatic 54, 3) := by decide +kernel
theorem dX1_crc_40 : decode cX1_crc 40 = .ok (.iload_n 3, 1) := by decide +kernel
theorem dX1_crc_41 : decode cX1_crc 41 = .ok (.bipush 15, 2) := by decide +kernel
theorem dX1_crc_43 : decode cX1_crc 43 = .ok (.iand, 1) := by decide +kernel
theorem dX1_crc_44 : decode cX1_crc 44 = .ok (.iaload, 1) := by decide +kernel
theorem dX1_crc_45 : decode cX1_crc 45 = .ok (.ixor, 1) := by decide +kernel
theorem dX1_crc_46 : decode cX1_crc 46 = .ok (.istore_n 3, 1) := by decide +kernel
theorem dX1_crc_47 : decode cX1_crc 47 = .ok (.iload_n 3, 1) := by decide +kernel
theorem dX1_crc_48 : decode cX1_crc 48 = .ok (.iconst 4, 1) := by decide +kernel
theorem dX1_crc_49 : decode cX1_crc 49 = .ok (.iushr, 1) := by decide +kernel
theorem dX1_crc_50 : decode cX1_crc 50 = .ok (.getstatic 54, 3) := by decide +kernel
theorem dX1_crc_53 : decode cX1_crc 53 = .ok (.iload_n 3, 1) := by decide +kernel
theorem dX1_crc_54 : decode cX1_crc 54 = .ok (.bipush 15, 2) := by decide +kernel
theorem dX1_crc_56 : decode cX1_crc 56 = .ok (.iand, 1) := by decide +kernel
theorem dX1_crc_57 : decode cX1_crc 57 = .ok (.iaload, 1) := by decide +kernel
theorem dX1_crc_58 : decode cX1_crc 58 = .ok (.ixor, 1) := by decide +kernel
theorem dX1_crc_59 : decode cX1_crc 59 = .ok (.istore_n 3, 1) := by decide +kernel
theorem dX1_crc_60 : decode cX1_crc 60 = .ok (.iinc 4 1, 3) := by decide +kernel
theorem dX1_crc_63 : decode cX1_crc 63 = .ok (.goto (-47), 3) := by decide +kernel
theorem dX1_crc_66 : decode cX1_crc 66 = .ok (.iload_n 3, 1) := by decide +kernel
theorem dX1_crc_67 : decode cX1_crc 67 = .ok (.iconst (-1), 1) := by decide +kernel
theorem dX1_crc_68 : decode cX1_crc 68 = .ok (.ixor, 1) := by decide +kernel
theorem dX1_crc_69 : decode cX1_crc 69 = .ok (.ireturn, 1) := by decide +kernel
theorem dX1_maskedCrc_0 : decode cX1_maskedCrc 0 = .ok (.aload_n 0, 1) := by decide +kernel
theorem dX1_maskedCrc_1 : decode cX1_maskedCrc 1 = .ok (.iload_n 1, 1) := by decide +kernel
theorem dX1_maskedCrc_2 : decode cX1_maskedCrc 2 = .ok (.iload_n 2, 1) := by decide +kernel
theorem dX1_maskedCrc_3 : decode cX1_maskedCrc 3 = .ok (.invokevirtual 57, 3) := by decide +kernel
theorem dX1_maskedCrc_6 : decode cX1_maskedCrc 6 = .ok (.bipush 17, 2) := by decide +kernel
theorem dX1_maskedCrc_8 : decode cX1_maskedCrc 8 = .ok (.invokestatic 60, 3) := by decide +kernel
theorem dX1_maskedCrc_11 : decode cX1_maskedCrc 11 = .ok (.ldc 65, 2) := by decide +kernel
theorem dX1_maskedCrc_13 : decode cX1_maskedCrc 13 = .ok (.iadd, 1) := by decide +kernel
theorem dX1_maskedCrc_14 : decode cX1_maskedCrc 14 = .ok (.ireturn, 1) := by decide +kernel
theorem dX2_init_0 : decode cX2_init 0 = .ok (.aload_n 0, 1) := by decide +kernel
theorem dX2_init_1 : decode cX2_init 1 = .ok (.invokespecial 3, 3) := by decide +kernel
theorem dX2_init_4 : decode cX2_init 4 = .ok (.aload_n 0, 1) := by decide +kernel
theorem dX2_init_5 : decode cX2_init 5 = .ok (.new 9, 3) := by decide +kernel
theorem dX2_init_8 : decode cX2_init 8 = .ok (.dup, 1) := by decide +kernel
theorem dX2_init_9 : decode cX2_init 9 = .ok (.sipush 24000, 3) := by decide +kernel
theorem dX2_init_12 : decode cX2_init 12 = .ok (.invokespecial 11, 3) := by decide +kernel
theorem dX2_init_15 : decode cX2_init 15 = .ok (.putfield 14, 3) := by decide +kernel
theorem dX2_init_18 : decode cX2_init 18 = .ok (.aload_n 0, 1) := by decide +kernel
theorem dX2_init_19 : decode cX2_init 19 = .ok (.ldc 20, 2) := by decide +kernel
theorem dX2_init_21 : decode cX2_init 21 = .ok (.newarray .int, 2) := by decide +kernel
theorem dX2_init_23 : decode cX2_init 23 = .ok (.putfield 21, 3) := by decide +kernel
theorem dX2_init_26 : decode cX2_init 26 = .ok (.aload_n 0, 1) := by decide +kernel
theorem dX2_init_27 : decode cX2_init 27 = .ok (.iconst 0, 1) := by decide +kernel
theorem dX2_init_28 : decode cX2_init 28 = .ok (.putfield 25, 3) := by decide +kernel
theorem dX2_init_31 : decode cX2_init 31 = .ok (.return_, 1) := by decide +kernel
theorem dX2_pressBlock_0 : decode cX2_pressBlock 0 = .ok (.aload_n 0, 1) := by decide +kernel
theorem dX2_pressBlock_1 : decode cX2_pressBlock 1 = .ok (.getfield 14, 3) := by decide +kernel
theorem dX2_pressBlock_4 : decode cX2_pressBlock 4 = .ok (.iconst 0, 1) := by decide +kernel
theorem dX2_pressBlock_5 : decode cX2_pressBlock 5 = .ok (.invokevirtual 29, 3) := by decide +kernel
theorem dX2_pressBlock_8 : decode cX2_pressBlock 8 = .ok (.aload_n 0, 1) := by decide +kernel
theorem dX2_pressBlock_9 : decode cX2_pressBlock 9 = .ok (.iload_n 3, 1) := by decide +kernel
theorem dX2_pressBlock_10 : decode cX2_pressBlock 10 = .ok (.invokevirtual 32, 3) := by decide +kernel
theorem dX2_pressBlock_13 : decode cX2_pressBlock 13 = .ok (.aload_n 0, 1) := by decide +kernel
theorem dX2_pressBlock_14 : decode cX2_pressBlock 14 = .ok (.iload_n 3, 1) := by decide +kernel
theorem dX2_pressBlock_15 : decode cX2_pressBlock 15 = .ok (.invokevirtual 35, 3) := by decide +kernel
theorem dX2_pressBlock_18 : decode cX2_pressBlock 18 = .ok (.iload_n 2, 1) := by decide +kernel
theorem dX2_pressBlock_19 : decode cX2_pressBlock 19 = .ok (.iload_n 3, 1) := by decide +kernel
theorem dX2_pressBlock_20 : decode cX2_pressBlock 20 = .ok (.iadd, 1) := by decide +kernel
theorem dX2_pressBlock_21 : decode cX2_pressBlock 21 = .ok (.istore 4, 2) := by decide +kernel
theorem dX2_pressBlock_23 : decode cX2_pressBlock 23 = .ok (.iload_n 2, 1) := by decide +kernel
theorem dX2_pressBlock_24 : decode cX2_pressBlock 24 = .ok (.istore 5, 2) := by decide +kernel
theorem dX2_pressBlock_26 : decode cX2_pressBlock 26 = .ok (.iload_n 2, 1) := by decide +kernel
theorem dX2_pressBlock_27 : decode cX2_pressBlock 27 = .ok (.istore 6, 2) := by decide +kernel
theorem dX2_pressBlock_29 : decode cX2_pressBlock 29 = .ok (.iload 6, 2) := by decide +kernel
theorem dX2_pressBlock_31 : decode cX2_pressBlock 31 = .ok (.iconst 4, 1) := by decide +kernel
theorem dX2_pressBlock_32 : decode cX2_pressBlock 32 = .ok (.iadd, 1) := by decide +kernel
theorem dX2_pressBlock_33 : decode cX2_pressBlock 33 = .ok (.iload 4, 2) := by decide +kernel
theorem dX2_pressBlock_35 : decode cX2_pressBlock 35 = .ok (.if_icmp .gt 73, 3) := by decide +kernel
theorem dX2_pressBlock_38 : decode cX2_pressBlock 38 = .ok (.aload_n 0, 1) := by decide +kernel
theorem dX2_pressBlock_39 : decode cX2_pressBlock 39 = .ok (.aload_n 1, 1) := by decide +kernel
theorem dX2_pressBlock_40 : decode cX2_pressBlock 40 = .ok (.iload 6, 2) := by decide +kernel
theorem dX2_pressBlock_42 : decode cX2_pressBlock 42 = .ok (.invokevirtual 38, 3) := by decide +kernel
theorem dX2_pressBlock_45 : decode cX2_pressBlock 45 = .ok (.istore 7, 2) := by decide +kernel
theorem dX2_pressBlock_47 : decode cX2_pressBlock 47 = .ok (.iload 7, 2) := by decide +kernel
theorem dX2_pressBlock_49 : decode cX2_pressBlock 49 = .ok (.iconst (-1), 1) := by decide +kernel
theorem dX2_pressBlock_50 : decode cX2_pressBlock 50 = .ok (.if_icmp .eq 52, 3) := by decide +kernel
theorem dX2_pressBlock_53 : decode cX2_pressBlock 53 = .ok (.iload 6, 2) := by decide +kernel
theorem dX2_pressBlock_55 : decode cX2_pressBlock 55 = .ok (.iload 5, 2) := by decide +kernel
theorem dX2_pressBlock_57 : decode cX2_pressBlock 57 = .ok (.if_icmp .lt 45, 3) := by decide +kernel
theorem dX2_pressBlock_60 : decode cX2_pressBlock 60 = .ok (.aload_n 1, 1) := by decide +kernel
theorem dX2_pressBlock_61 : decode cX2_pressBlock 61 = .ok (.iload 7, 2) := by decide +kernel
theorem dX2_pressBlock_63 : decode cX2_pressBlock 63 = .ok (.iload 6, 2) := by decide +kernel
theorem dX2_pressBlock_65 : decode cX2_pressBlock 65 = .ok (.iload 4, 2) := by decide +kernel
theorem dX2_pressBlock_67 : decode cX2_pressBlock 67 = .ok (.invokestatic 42, 3) := by decide +kernel
theorem dX2_pressBlock_70 : decode cX2_pressBlock 70 = .ok (.istore 8, 2) := by decide +kernel
theorem dX2_pressBlock_72 : decode cX2_pressBlock 72 = .ok (.aload_n 0, 1) := by decide +kernel
theorem dX2_pressBlock_73 : decode cX2_pressBlock 73 = .ok (.aload_n 1, 1) := by decide +kernel
theorem dX2_pressBlock_74 : decode cX2_pressBlock 74 = .ok (.iload 5, 2) := by decide +kernel
theorem dX2_pressBlock_76 : decode cX2_pressBlock 76 = .ok (.iload 6, 2) := by decide +kernel
theorem dX2_pressBlock_78 : decode cX2_pressBlock 78 = .ok (.iload 5, 2) := by decide +kernel
theorem dX2_pressBlock_80 : decode cX2_pressBlock 80 = .ok (.isub, 1) := by decide +kernel
theorem dX2_pressBlock_81 : decode cX2_pressBlock 81 = .ok (.invokevirtual 46, 3) := by decide +kernel
theorem dX2_pressBlock_84 : decode cX2_pressBlock 84 = .ok (.aload_n 0, 1) := by decide +kernel
theorem dX2_pressBlock_85 : decode cX2_pressBlock 85 = .ok (.iload 8, 2) := by decide +kernel
theorem dX2_pressBlock_87 : decode cX2_pressBlock 87 = .ok (.iload 6, 2) := by decide +kernel
theorem dX2_pressBlock_89 : decode cX2_pressBlock 89 = .ok (.iload 7, 2) := by decide +kernel
theorem dX2_pressBlock_91 : decode cX2_pressBlock 91 = .ok (.isub, 1) := by decide +kernel
theorem dX2_pressBlock_92 : decode cX2_pressBlock 92 = .ok (.invokevirtual 50, 3) := by decide +kernel
theorem dX2_pressBlock_95 : decode cX2_pressBlock 95 = .ok (.iload 6, 2) := by decide +kernel
theorem dX2_pressBlock_97 : decode cX2_pressBlock 97 = .ok (.iload 8, 2) := by decide +kernel
theorem dX2_pressBlock_99 : decode cX2_pressBlock 99 = .ok (.iadd, 1) := by decide +kernel
theorem dX2_pressBlock_100 : decode cX2_pressBlock 100 = .ok (.istore 5, 2) := by decide +kernel
theorem dX2_pressBlock_102 : decode cX2_pressBlock 102 = .ok (.iinc 6 1, 3) := by decide +kernel
theorem dX2_pressBlock_105 : decode cX2_pressBlock 105 = .ok (.goto (-76), 3) := by decide +kernel
theorem dX2_pressBlock_108 : decode cX2_pressBlock 108 = .ok (.aload_n 0, 1) := by decide +kernel
theorem dX2_pressBlock_109 : decode cX2_pressBlock 109 = .ok (.aload_n 1, 1) := by decide +kernel
theorem dX2_pressBlock_110 : decode cX2_pressBlock 110 = .ok (.iload 5, 2) := by decide +kernel
theorem dX2_pressBlock_112 : decode cX2_pressBlock 112 = .ok (.iload 4, 2) := by decide +kernel
theorem dX2_pressBlock_114 : decode cX2_pressBlock 114 = .ok (.iload 5, 2) := by decide +kernel
theorem dX2_pressBlock_116 : decode cX2_pressBlock 116 = .ok (.isub, 1) := by decide +kernel
theorem dX2_pressBlock_117 : decode cX2_pressBlock 117 = .ok (.invokevirtual 46, 3) := by decide +kernel
theorem dX2_pressBlock_120 : decode cX2_pressBlock 120 = .ok (.return_, 1) := by decide +kernel
theorem dX2_putLength_0 : decode cX2_putLength 0 = .ok (.iload_n 1, 1) := by decide +kernel
theorem dX2_putLength_1 : decode cX2_putLength 1 = .ok (.istore_n 2, 1) := by decide +kernel
theorem dX2_putLength_2 : decode cX2_putLength 2 = .ok (.iconst 0, 1) := by decide +kernel
theorem dX2_putLength_3 : decode cX2_putLength 3 = .ok (.istore_n 3, 1) := by decide +kernel
theorem dX2_putLength_4 : decode cX2_putLength 4 = .ok (.iload_n 3, 1) := by decide +kernel
theorem dX2_putLength_5 : decode cX2_putLength 5 = .ok (.iconst 5, 1) := by decide +kernel
theorem dX2_putLength_6 : decode cX2_putLength 6 = .ok (.if_icmp .ge 35, 3) := by decide +kernel
theorem dX2_putLength_9 : decode cX2_putLength 9 = .ok (.iload_n 2, 1) := by decide +kernel
theorem dX2_putLength_10 : decode cX2_putLength 10 = .ok (.bipush 127, 2) := by decide +kernel
theorem dX2_putLength_12 : decode cX2_putLength 12 = .ok (.if_icmp .le 29, 3) := by decide +kernel
theorem dX2_putLength_15 : decode cX2_putLength 15 = .ok (.aload_n 0, 1) := by decide +kernel
theorem dX2_putLength_16 : decode cX2_putLength 16 = .ok (.getfield 14, 3) := by decide +kernel
theorem dX2_putLength_19 : decode cX2_putLength 19 = .ok (.iload_n 2, 1) := by decide +kernel
theorem dX2_putLength_20 : decode cX2_putLength 20 = .ok (.bipush 127, 2) := by decide +kernel
theorem dX2_putLength_22 : decode cX2_putLength 22 = .ok (.iand, 1) := by decide +kernel
theorem dX2_putLength_23 : decode cX2_putLength 23 = .ok (.sipush 128, 3) := by decide +kernel
theorem dX2_putLength_26 : decode cX2_putLength 26 = .ok (.ior, 1) := by decide +kernel
theorem dX2_putLength_27 : decode cX2_putLength 27 = .ok (.invokevirtual 54, 3) := by decide +kernel
theorem dX2_putLength_30 : decode cX2_putLength 30 = .ok (.iload_n 2, 1) := by decide +kernel
theorem dX2_putLength_31 : decode cX2_putLength 31 = .ok (.bipush 7, 2) := by decide +kernel
theorem dX2_putLength_33 : decode cX2_putLength 33 = .ok (.iushr, 1) := by decide +kernel
theorem dX2_putLength_34 : decode cX2_putLength 34 = .ok (.istore_n 2, 1) := by decide +kernel
theorem dX2_putLength_35 : decode cX2_putLength 35 = .ok (.iinc 3 1, 3) := by decide +kernel
theorem dX2_putLength_38 : decode cX2_putLength 38 = .ok (.goto (-34), 3) := by decide +kernel
theorem dX2_putLength_41 : decode cX2_putLength 41 = .ok (.aload_n 0, 1) := by decide +kernel
theorem dX2_putLength_42 : decode cX2_putLength 42 = .ok (.getfield 14, 3) := by decide +kernel
theorem dX2_putLength_45 : decode cX2_putLength 45 = .ok (.iload_n 2, 1) := by decide +kernel
theorem dX2_putLength_46 : decode cX2_putLength 46 = .ok (.invokevirtual 54, 3) := by decide +kernel
theorem dX2_putLength_49 : decode cX2_putLength 49 = .ok (.return_, 1) := by decide +kernel
theorem dX2_freeSlots_0 : decode cX2_freeSlots 0 = .ok (.bipush 15, 2) := by decide +kernel
theorem dX2_freeSlots_2 : decode cX2_freeSlots 2 = .ok (.istore_n 2, 1) := by decide +kernel
theorem dX2_freeSlots_3 : decode cX2_freeSlots 3 = .ok (.iload_n 2, 1) := by decide +kernel
theorem dX2_freeSlots_4 : decode cX2_freeSlots 4 = .ok (.iload_n 1, 1) := by decide +kernel
theorem dX2_freeSlots_5 : decode cX2_freeSlots 5 = .ok (.iload_n 1, 1) := by decide +kernel
theorem dX2_freeSlots_6 : decode cX2_freeSlots 6 = .ok (.iconst 4, 1) := by decide +kernel
theorem dX2_freeSlots_7 : decode cX2_freeSlots 7 = .ok (.idiv, 1) := by decide +kernel
theorem dX2_freeSlots_8 : decode cX2_freeSlots 8 = .ok (.iadd, 1) := by decide +kernel
theorem dX2_freeSlots_9 : decode cX2_freeSlots 9 = .ok (.if_icmp .ge 19, 3) := by decide +kernel
theorem dX2_freeSlots_12 : decode cX2_freeSlots 12 = .ok (.iload_n 2, 1) := by decide +kernel
theorem dX2_freeSlots_13 : decode cX2_freeSlots 13 = .ok (.sipush 32767, 3) := by decide +kernel
theorem dX2_freeSlots_16 : decode cX2_freeSlots 16 = .ok (.if_icmp .ge 12, 3) := by decide +kernel
theorem dX2_freeSlots_19 : decode cX2_freeSlots 19 = .ok (.iconst 2, 1) := by decide +kernel
theorem dX2_freeSlots_20 : decode cX2_freeSlots 20 = .ok (.iload_n 2, 1) := by decide +kernel
theorem dX2_freeSlots_21 : decode cX2_freeSlots 21 = .ok (.imul, 1) := by decide +kernel
theorem dX2_freeSlots_22 : decode cX2_freeSlots 22 = .ok (.iconst 1, 1) := by decide +kernel
theorem dX2_freeSlots_23 : decode cX2_freeSlots 23 = .ok (.iadd, 1) := by decide +kernel
theorem dX2_freeSlots_24 : decode cX2_freeSlots 24 = .ok (.istore_n 2, 1) := by decide +kernel
theorem dX2_freeSlots_25 : decode cX2_freeSlots 25 = .ok (.goto (-22), 3) := by decide +kernel
end
section
theorem dX2_freeSlots_28 : decode cX2_freeSlots 28 = .ok (.iconst 0, 1) := by decide +kernel
theorem dX2_freeSlots_29 : decode cX2_freeSlots 29 = .ok (.istore_n 3, 1) := by decide +kernel
theorem dX2_freeSlots_30 : decode cX2_freeSlots 30 = .ok (.iload_n 3, 1) := by decide +kernel
theorem dX2_freeSlots_31 : decode cX2_freeSlots 31 = .ok (.iload_n 2, 1) := by decide +kernel
theorem dX2_freeSlots_32 : decode cX2_freeSlots 32 = .ok (.if_icmp .gt 16, 3) := by decide +kernel
theorem dX2_freeSlots_35 : decode cX2_freeSlots 35 = .ok (.aload_n 0, 1) := by decide +kernel
theorem dX2_freeSlots_36 : decode cX2_freeSlots 36 = .ok (.getfield 21, 3) := by decide +kernel
theorem dX2_freeSlots_39 : decode cX2_freeSlots 39 = .ok (.iload_n 3, 1) := by decide +kernel
theorem dX2_freeSlots_40 : decode cX2_freeSlots 40 = .ok (.iconst 0, 1) := by decide +kernel
theorem dX2_freeSlots_41 : decode cX2_freeSlots 41 = .ok (.iastore, 1) := by decide +kernel
theorem dX2_freeSlots_42 : decode cX2_freeSlots 42 = .ok (.iinc 3 1, 3) := by decide +kernel
theorem dX2_freeSlots_45 : decode cX2_freeSlots 45 = .ok (.goto (-15), 3) := by decide +kernel
theorem dX2_freeSlots_48 : decode cX2_freeSlots 48 = .ok (.aload_n 0, 1) := by decide +kernel
theorem dX2_freeSlots_49 : decode cX2_freeSlots 49 = .ok (.iload_n 2, 1) := by decide +kernel
theorem dX2_freeSlots_50 : decode cX2_freeSlots 50 = .ok (.putfield 25, 3) := by decide +kernel
theorem dX2_freeSlots_53 : decode cX2_freeSlots 53 = .ok (.return_, 1) := by decide +kernel
theorem dX2_noteAndFind_0 : decode cX2_noteAndFind 0 = .ok (.aload_n 1, 1) := by decide +kernel
theorem dX2_noteAndFind_1 : decode cX2_noteAndFind 1 = .ok (.iload_n 2, 1) := by decide +kernel
theorem dX2_noteAndFind_2 : decode cX2_noteAndFind 2 = .ok (.invokevirtual 57, 3) := by decide +kernel
theorem dX2_noteAndFind_5 : decode cX2_noteAndFind 5 = .ok (.istore_n 3, 1) := by decide +kernel
theorem dX2_noteAndFind_6 : decode cX2_noteAndFind 6 = .ok (.iload_n 3, 1) := by decide +kernel
theorem dX2_noteAndFind_7 : decode cX2_noteAndFind 7 = .ok (.ldc 61, 2) := by decide +kernel
theorem dX2_noteAndFind_9 : decode cX2_noteAndFind 9 = .ok (.imul, 1) := by decide +kernel
theorem dX2_noteAndFind_10 : decode cX2_noteAndFind 10 = .ok (.bipush 15, 2) := by decide +kernel
theorem dX2_noteAndFind_12 : decode cX2_noteAndFind 12 = .ok (.iushr, 1) := by decide +kernel
theorem dX2_noteAndFind_13 : decode cX2_noteAndFind 13 = .ok (.aload_n 0, 1) := by decide +kernel
theorem dX2_noteAndFind_14 : decode cX2_noteAndFind 14 = .ok (.getfield 25, 3) := by decide +kernel
theorem dX2_noteAndFind_17 : decode cX2_noteAndFind 17 = .ok (.iand, 1) := by decide +kernel
theorem dX2_noteAndFind_18 : decode cX2_noteAndFind 18 = .ok (.istore 4, 2) := by decide +kernel
theorem dX2_noteAndFind_20 : decode cX2_noteAndFind 20 = .ok (.iconst 0, 1) := by decide +kernel
theorem dX2_noteAndFind_21 : decode cX2_noteAndFind 21 = .ok (.istore 5, 2) := by decide +kernel
theorem dX2_noteAndFind_23 : decode cX2_noteAndFind 23 = .ok (.iload 5, 2) := by decide +kernel
theorem dX2_noteAndFind_25 : decode cX2_noteAndFind 25 = .ok (.aload_n 0, 1) := by decide +kernel
theorem dX2_noteAndFind_26 : decode cX2_noteAndFind 26 = .ok (.getfield 25, 3) := by decide +kernel
theorem dX2_noteAndFind_29 : decode cX2_noteAndFind 29 = .ok (.if_icmp .gt 59, 3) := by decide +kernel
theorem dX2_noteAndFind_32 : decode cX2_noteAndFind 32 = .ok (.aload_n 0, 1) := by decide +kernel
theorem dX2_noteAndFind_33 : decode cX2_noteAndFind 33 = .ok (.getfield 21, 3) := by decide +kernel
theorem dX2_noteAndFind_36 : decode cX2_noteAndFind 36 = .ok (.iload 4, 2) := by decide +kernel
theorem dX2_noteAndFind_38 : decode cX2_noteAndFind 38 = .ok (.iaload, 1) := by decide +kernel
theorem dX2_noteAndFind_39 : decode cX2_noteAndFind 39 = .ok (.iconst 1, 1) := by decide +kernel
theorem dX2_noteAndFind_40 : decode cX2_noteAndFind 40 = .ok (.isub, 1) := by decide +kernel
theorem dX2_noteAndFind_41 : decode cX2_noteAndFind 41 = .ok (.istore 6, 2) := by decide +kernel
theorem dX2_noteAndFind_43 : decode cX2_noteAndFind 43 = .ok (.iload 6, 2) := by decide +kernel
theorem dX2_noteAndFind_45 : decode cX2_noteAndFind 45 = .ok (.ifCond .lt 13, 3) := by decide +kernel
theorem dX2_noteAndFind_48 : decode cX2_noteAndFind 48 = .ok (.aload_n 1, 1) := by decide +kernel
theorem dX2_noteAndFind_49 : decode cX2_noteAndFind 49 = .ok (.iload 6, 2) := by decide +kernel
theorem dX2_noteAndFind_51 : decode cX2_noteAndFind 51 = .ok (.invokevirtual 57, 3) := by decide +kernel
theorem dX2_noteAndFind_54 : decode cX2_noteAndFind 54 = .ok (.iload_n 3, 1) := by decide +kernel
theorem dX2_noteAndFind_55 : decode cX2_noteAndFind 55 = .ok (.if_icmp .ne 16, 3) := by decide +kernel
theorem dX2_noteAndFind_58 : decode cX2_noteAndFind 58 = .ok (.aload_n 0, 1) := by decide +kernel
theorem dX2_noteAndFind_59 : decode cX2_noteAndFind 59 = .ok (.getfield 21, 3) := by decide +kernel
theorem dX2_noteAndFind_62 : decode cX2_noteAndFind 62 = .ok (.iload 4, 2) := by decide +kernel
theorem dX2_noteAndFind_64 : decode cX2_noteAndFind 64 = .ok (.iload_n 2, 1) := by decide +kernel
theorem dX2_noteAndFind_65 : decode cX2_noteAndFind 65 = .ok (.iconst 1, 1) := by decide +kernel
theorem dX2_noteAndFind_66 : decode cX2_noteAndFind 66 = .ok (.iadd, 1) := by decide +kernel
theorem dX2_noteAndFind_67 : decode cX2_noteAndFind 67 = .ok (.iastore, 1) := by decide +kernel
theorem dX2_noteAndFind_68 : decode cX2_noteAndFind 68 = .ok (.iload 6, 2) := by decide +kernel
theorem dX2_noteAndFind_70 : decode cX2_noteAndFind 70 = .ok (.ireturn, 1) := by decide +kernel
theorem dX2_noteAndFind_71 : decode cX2_noteAndFind 71 = .ok (.iload 4, 2) := by decide +kernel
theorem dX2_noteAndFind_73 : decode cX2_noteAndFind 73 = .ok (.iconst 1, 1) := by decide +kernel
theorem dX2_noteAndFind_74 : decode cX2_noteAndFind 74 = .ok (.iadd, 1) := by decide +kernel
theorem dX2_noteAndFind_75 : decode cX2_noteAndFind 75 = .ok (.aload_n 0, 1) := by decide +kernel
theorem dX2_noteAndFind_76 : decode cX2_noteAndFind 76 = .ok (.getfield 25, 3) := by decide +kernel
theorem dX2_noteAndFind_79 : decode cX2_noteAndFind 79 = .ok (.iand, 1) := by decide +kernel
theorem dX2_noteAndFind_80 : decode cX2_noteAndFind 80 = .ok (.istore 4, 2) := by decide +kernel
theorem dX2_noteAndFind_82 : decode cX2_noteAndFind 82 = .ok (.iinc 5 1, 3) := by decide +kernel
theorem dX2_noteAndFind_85 : decode cX2_noteAndFind 85 = .ok (.goto (-62), 3) := by decide +kernel
theorem dX2_noteAndFind_88 : decode cX2_noteAndFind 88 = .ok (.iconst (-1), 1) := by decide +kernel
theorem dX2_noteAndFind_89 : decode cX2_noteAndFind 89 = .ok (.ireturn, 1) := by decide +kernel
theorem dX2_countAlike_0 : decode cX2_countAlike 0 = .ok (.iconst 0, 1) := by decide +kernel
theorem dX2_countAlike_1 : decode cX2_countAlike 1 = .ok (.istore 4, 2) := by decide +kernel
theorem dX2_countAlike_3 : decode cX2_countAlike 3 = .ok (.iload_n 2, 1) := by decide +kernel
theorem dX2_countAlike_4 : decode cX2_countAlike 4 = .ok (.iload 4, 2) := by decide +kernel
theorem dX2_countAlike_6 : decode cX2_countAlike 6 = .ok (.iadd, 1) := by decide +kernel
theorem dX2_countAlike_7 : decode cX2_countAlike 7 = .ok (.iload_n 3, 1) := by decide +kernel
theorem dX2_countAlike_8 : decode cX2_countAlike 8 = .ok (.if_icmp .ge 28, 3) := by decide +kernel
theorem dX2_countAlike_11 : decode cX2_countAlike 11 = .ok (.aload_n 0, 1) := by decide +kernel
theorem dX2_countAlike_12 : decode cX2_countAlike 12 = .ok (.iload_n 1, 1) := by decide +kernel
theorem dX2_countAlike_13 : decode cX2_countAlike 13 = .ok (.iload 4, 2) := by decide +kernel
theorem dX2_countAlike_15 : decode cX2_countAlike 15 = .ok (.iadd, 1) := by decide +kernel
theorem dX2_countAlike_16 : decode cX2_countAlike 16 = .ok (.invokevirtual 62, 3) := by decide +kernel
theorem dX2_countAlike_19 : decode cX2_countAlike 19 = .ok (.aload_n 0, 1) := by decide +kernel
theorem dX2_countAlike_20 : decode cX2_countAlike 20 = .ok (.iload_n 2, 1) := by decide +kernel
theorem dX2_countAlike_21 : decode cX2_countAlike 21 = .ok (.iload 4, 2) := by decide +kernel
theorem dX2_countAlike_23 : decode cX2_countAlike 23 = .ok (.iadd, 1) := by decide +kernel
theorem dX2_countAlike_24 : decode cX2_countAlike 24 = .ok (.invokevirtual 62, 3) := by decide +kernel
theorem dX2_countAlike_27 : decode cX2_countAlike 27 = .ok (.if_icmp .ne 9, 3) := by decide +kernel
theorem dX2_countAlike_30 : decode cX2_countAlike 30 = .ok (.iinc 4 1, 3) := by decide +kernel
theorem dX2_countAlike_33 : decode cX2_countAlike 33 = .ok (.goto (-30), 3) := by decide +kernel
theorem dX2_countAlike_36 : decode cX2_countAlike 36 = .ok (.iload 4, 2) := by decide +kernel
theorem dX2_countAlike_38 : decode cX2_countAlike 38 = .ok (.ireturn, 1) := by decide +kernel
theorem dX2_putLiteral_0 : decode cX2_putLiteral 0 = .ok (.iload_n 3, 1) := by decide +kernel
theorem dX2_putLiteral_1 : decode cX2_putLiteral 1 = .ok (.ifCond .gt 4, 3) := by decide +kernel
theorem dX2_putLiteral_4 : decode cX2_putLiteral 4 = .ok (.return_, 1) := by decide +kernel
theorem dX2_putLiteral_5 : decode cX2_putLiteral 5 = .ok (.iload_n 3, 1) := by decide +kernel
theorem dX2_putLiteral_6 : decode cX2_putLiteral 6 = .ok (.iconst 1, 1) := by decide +kernel
theorem dX2_putLiteral_7 : decode cX2_putLiteral 7 = .ok (.isub, 1) := by decide +kernel
theorem dX2_putLiteral_8 : decode cX2_putLiteral 8 = .ok (.istore 4, 2) := by decide +kernel
theorem dX2_putLiteral_10 : decode cX2_putLiteral 10 = .ok (.iload 4, 2) := by decide +kernel
theorem dX2_putLiteral_12 : decode cX2_putLiteral 12 = .ok (.bipush 60, 2) := by decide +kernel
theorem dX2_putLiteral_14 : decode cX2_putLiteral 14 = .ok (.if_icmp .ge 19, 3) := by decide +kernel
theorem dX2_putLiteral_17 : decode cX2_putLiteral 17 = .ok (.aload_n 0, 1) := by decide +kernel
theorem dX2_putLiteral_18 : decode cX2_putLiteral 18 = .ok (.getfield 14, 3) := by decide +kernel
theorem dX2_putLiteral_21 : decode cX2_putLiteral 21 = .ok (.iload 4, 2) := by decide +kernel
theorem dX2_putLiteral_23 : decode cX2_putLiteral 23 = .ok (.iconst 2, 1) := by decide +kernel
theorem dX2_putLiteral_24 : decode cX2_putLiteral 24 = .ok (.ishl, 1) := by decide +kernel
theorem dX2_putLiteral_25 : decode cX2_putLiteral 25 = .ok (.iconst 0, 1) := by decide +kernel
theorem dX2_putLiteral_26 : decode cX2_putLiteral 26 = .ok (.ior, 1) := by decide +kernel
theorem dX2_putLiteral_27 : decode cX2_putLiteral 27 = .ok (.invokevirtual 54, 3) := by decide +kernel
theorem dX2_putLiteral_30 : decode cX2_putLiteral 30 = .ok (.goto 45, 3) := by decide +kernel
theorem dX2_putLiteral_33 : decode cX2_putLiteral 33 = .ok (.iload 4, 2) := by decide +kernel
theorem dX2_putLiteral_35 : decode cX2_putLiteral 35 = .ok (.sipush 256, 3) := by decide +kernel
theorem dX2_putLiteral_38 : decode cX2_putLiteral 38 = .ok (.if_icmp .ge 7, 3) := by decide +kernel
theorem dX2_putLiteral_41 : decode cX2_putLiteral 41 = .ok (.iconst 1, 1) := by decide +kernel
theorem dX2_putLiteral_42 : decode cX2_putLiteral 42 = .ok (.goto 4, 3) := by decide +kernel
theorem dX2_putLiteral_45 : decode cX2_putLiteral 45 = .ok (.iconst 2, 1) := by decide +kernel
theorem dX2_putLiteral_46 : decode cX2_putLiteral 46 = .ok (.istore 5, 2) := by decide +kernel
theorem dX2_putLiteral_48 : decode cX2_putLiteral 48 = .ok (.aload_n 0, 1) := by decide +kernel
theorem dX2_putLiteral_49 : decode cX2_putLiteral 49 = .ok (.getfield 14, 3) := by decide +kernel
theorem dX2_putLiteral_52 : decode cX2_putLiteral 52 = .ok (.bipush 59, 2) := by decide +kernel
theorem dX2_putLiteral_54 : decode cX2_putLiteral 54 = .ok (.iload 5, 2) := by decide +kernel
theorem dX2_putLiteral_56 : decode cX2_putLiteral 56 = .ok (.iadd, 1) := by decide +kernel
theorem dX2_putLiteral_57 : decode cX2_putLiteral 57 = .ok (.iconst 2, 1) := by decide +kernel
theorem dX2_putLiteral_58 : decode cX2_putLiteral 58 = .ok (.ishl, 1) := by decide +kernel
theorem dX2_putLiteral_59 : decode cX2_putLiteral 59 = .ok (.iconst 0, 1) := by decide +kernel
theorem dX2_putLiteral_60 : decode cX2_putLiteral 60 = .ok (.ior, 1) := by decide +kernel
theorem dX2_putLiteral_61 : decode cX2_putLiteral 61 = .ok (.invokevirtual 54, 3) := by decide +kernel
theorem dX2_putLiteral_64 : decode cX2_putLiteral 64 = .ok (.aload_n 0, 1) := by decide +kernel
theorem dX2_putLiteral_65 : decode cX2_putLiteral 65 = .ok (.getfield 14, 3) := by decide +kernel
theorem dX2_putLiteral_68 : decode cX2_putLiteral 68 = .ok (.iload 4, 2) := by decide +kernel
theorem dX2_putLiteral_70 : decode cX2_putLiteral 70 = .ok (.iload 5, 2) := by decide +kernel
theorem dX2_putLiteral_72 : decode cX2_putLiteral 72 = .ok (.invokevirtual 65, 3) := by decide +kernel
theorem dX2_putLiteral_75 : decode cX2_putLiteral 75 = .ok (.aload_n 0, 1) := by decide +kernel
theorem dX2_putLiteral_76 : decode cX2_putLiteral 76 = .ok (.getfield 14, 3) := by decide +kernel
theorem dX2_putLiteral_79 : decode cX2_putLiteral 79 = .ok (.aload_n 1, 1) := by decide +kernel
theorem dX2_putLiteral_80 : decode cX2_putLiteral 80 = .ok (.iload_n 2, 1) := by decide +kernel
theorem dX2_putLiteral_81 : decode cX2_putLiteral 81 = .ok (.iload_n 3, 1) := by decide +kernel
theorem dX2_putLiteral_82 : decode cX2_putLiteral 82 = .ok (.invokevirtual 68, 3) := by decide +kernel
theorem dX2_putLiteral_85 : decode cX2_putLiteral 85 = .ok (.return_, 1) := by decide +kernel
theorem dX2_putCopies_0 : decode cX2_putCopies 0 = .ok (.iload_n 1, 1) := by decide +kernel
theorem dX2_putCopies_1 : decode cX2_putCopies 1 = .ok (.istore_n 3, 1) := by decide +kernel
theorem dX2_putCopies_2 : decode cX2_putCopies 2 = .ok (.iload_n 3, 1) := by decide +kernel
theorem dX2_putCopies_3 : decode cX2_putCopies 3 = .ok (.bipush 68, 2) := by decide +kernel
theorem dX2_putCopies_5 : decode cX2_putCopies 5 = .ok (.if_icmp .lt 16, 3) := by decide +kernel
theorem dX2_putCopies_8 : decode cX2_putCopies 8 = .ok (.aload_n 0, 1) := by decide +kernel
theorem dX2_putCopies_9 : decode cX2_putCopies 9 = .ok (.bipush 64, 2) := by decide +kernel
theorem dX2_putCopies_11 : decode cX2_putCopies 11 = .ok (.iload_n 2, 1) := by decide +kernel
theorem dX2_putCopies_12 : decode cX2_putCopies 12 = .ok (.invokevirtual 71, 3) := by decide +kernel
theorem dX2_putCopies_15 : decode cX2_putCopies 15 = .ok (.iinc 3 (-64), 3) := by decide +kernel
theorem dX2_putCopies_18 : decode cX2_putCopies 18 = .ok (.goto (-16), 3) := by decide +kernel
theorem dX2_putCopies_21 : decode cX2_putCopies 21 = .ok (.iload_n 3, 1) := by decide +kernel
theorem dX2_putCopies_22 : decode cX2_putCopies 22 = .ok (.bipush 64, 2) := by decide +kernel
theorem dX2_putCopies_24 : decode cX2_putCopies 24 = .ok (.if_icmp .le 13, 3) := by decide +kernel
theorem dX2_putCopies_27 : decode cX2_putCopies 27 = .ok (.aload_n 0, 1) := by decide +kernel
theorem dX2_putCopies_28 : decode cX2_putCopies 28 = .ok (.bipush 60, 2) := by decide +kernel
theorem dX2_putCopies_30 : decode cX2_putCopies 30 = .ok (.iload_n 2, 1) := by decide +kernel
theorem dX2_putCopies_31 : decode cX2_putCopies 31 = .ok (.invokevirtual 71, 3) := by decide +kernel
theorem dX2_putCopies_34 : decode cX2_putCopies 34 = .ok (.iinc 3 (-60), 3) := by decide +kernel
theorem dX2_putCopies_37 : decode cX2_putCopies 37 = .ok (.iload_n 3, 1) := by decide +kernel
theorem dX2_putCopies_38 : decode cX2_putCopies 38 = .ok (.bipush 12, 2) := by decide +kernel
theorem dX2_putCopies_40 : decode cX2_putCopies 40 = .ok (.if_icmp .ge 46, 3) := by decide +kernel
theorem dX2_putCopies_43 : decode cX2_putCopies 43 = .ok (.iload_n 2, 1) := by decide +kernel
theorem dX2_putCopies_44 : decode cX2_putCopies 44 = .ok (.sipush 2048, 3) := by decide +kernel
theorem dX2_putCopies_47 : decode cX2_putCopies 47 = .ok (.if_icmp .ge 39, 3) := by decide +kernel
theorem dX2_putCopies_50 : decode cX2_putCopies 50 = .ok (.aload_n 0, 1) := by decide +kernel
theorem dX2_putCopies_51 : decode cX2_putCopies 51 = .ok (.getfield 14, 3) := by decide +kernel
theorem dX2_putCopies_54 : decode cX2_putCopies 54 = .ok (.iload_n 2, 1) := by decide +kernel
theorem dX2_putCopies_55 : decode cX2_putCopies 55 = .ok (.bipush 8, 2) := by decide +kernel
theorem dX2_putCopies_57 : decode cX2_putCopies 57 = .ok (.ishr, 1) := by decide +kernel
theorem dX2_putCopies_58 : decode cX2_putCopies 58 = .ok (.iconst 5, 1) := by decide +kernel
theorem dX2_putCopies_59 : decode cX2_putCopies 59 = .ok (.ishl, 1) := by decide +kernel
theorem dX2_putCopies_60 : decode cX2_putCopies 60 = .ok (.iload_n 3, 1) := by decide +kernel
theorem dX2_putCopies_61 : decode cX2_putCopies 61 = .ok (.iconst 4, 1) := by decide +kernel
theorem dX2_putCopies_62 : decode cX2_putCopies 62 = .ok (.isub, 1) := by decide +kernel
theorem dX2_putCopies_63 : decode cX2_putCopies 63 = .ok (.iconst 2, 1) := by decide +kernel
theorem dX2_putCopies_64 : decode cX2_putCopies 64 = .ok (.ishl, 1) := by decide +kernel
theorem dX2_putCopies_65 : decode cX2_putCopies 65 = .ok (.ior, 1) := by decide +kernel
theorem dX2_putCopies_66 : decode cX2_putCopies 66 = .ok (.iconst 1, 1) := by decide +kernel
theorem dX2_putCopies_67 : decode cX2_putCopies 67 = .ok (.ior, 1) := by decide +kernel
theorem dX2_putCopies_68 : decode cX2_putCopies 68 = .ok (.invokevirtual 54, 3) := by decide +kernel
theorem dX2_putCopies_71 : decode cX2_putCopies 71 = .ok (.aload_n 0, 1) := by decide +kernel
theorem dX2_putCopies_72 : decode cX2_putCopies 72 = .ok (.getfield 14, 3) := by decide +kernel
theorem dX2_putCopies_75 : decode cX2_putCopies 75 = .ok (.iload_n 2, 1) := by decide +kernel
theorem dX2_putCopies_76 : decode cX2_putCopies 76 = .ok (.sipush 255, 3) := by decide +kernel
theorem dX2_putCopies_79 : decode cX2_putCopies 79 = .ok (.iand, 1) := by decide +kernel
theorem dX2_putCopies_80 : decode cX2_putCopies 80 = .ok (.invokevirtual 54, 3) := by decide +kernel
theorem dX2_putCopies_83 : decode cX2_putCopies 83 = .ok (.goto 9, 3) := by decide +kernel
theorem dX2_putCopies_86 : decode cX2_putCopies 86 = .ok (.aload_n 0, 1) := by decide +kernel
theorem dX2_putCopies_87 : decode cX2_putCopies 87 = .ok (.iload_n 3, 1) := by decide +kernel
theorem dX2_putCopies_88 : decode cX2_putCopies 88 = .ok (.iload_n 2, 1) := by decide +kernel
theorem dX2_putCopies_89 : decode cX2_putCopies 89 = .ok (.invokevirtual 71, 3) := by decide +kernel
theorem dX2_putCopies_92 : decode cX2_putCopies 92 = .ok (.return_, 1) := by decide +kernel
theorem dX2_putCopy_0 : decode cX2_putCopy 0 = .ok (.aload_n 0, 1) := by decide +kernel
theorem dX2_putCopy_1 : decode cX2_putCopy 1 = .ok (.getfield 14, 3) := by decide +kernel
theorem dX2_putCopy_4 : decode cX2_putCopy 4 = .ok (.iload_n 1, 1) := by decide +kernel
theorem dX2_putCopy_5 : decode cX2_putCopy 5 = .ok (.iconst 1, 1) := by decide +kernel
theorem dX2_putCopy_6 : decode cX2_putCopy 6 = .ok (.isub, 1) := by decide +kernel
theorem dX2_putCopy_7 : decode cX2_putCopy 7 = .ok (.iconst 2, 1) := by decide +kernel
theorem dX2_putCopy_8 : decode cX2_putCopy 8 = .ok (.ishl, 1) := by decide +kernel
theorem dX2_putCopy_9 : decode cX2_putCopy 9 = .ok (.iconst 2, 1) := by decide +kernel
theorem dX2_putCopy_10 : decode cX2_putCopy 10 = .ok (.ior, 1) := by decide +kernel
theorem dX2_putCopy_11 : decode cX2_putCopy 11 = .ok (.invokevirtual 54, 3) := by decide +kernel
theorem dX2_putCopy_14 : decode cX2_putCopy 14 = .ok (.aload_n 0, 1) := by decide +kernel
theorem dX2_putCopy_15 : decode cX2_putCopy 15 = .ok (.getfield 14, 3) := by decide +kernel
theorem dX2_putCopy_18 : decode cX2_putCopy 18 = .ok (.iload_n 2, 1) := by decide +kernel
theorem dX2_putCopy_19 : decode cX2_putCopy 19 = .ok (.iconst 2, 1) := by decide +kernel
theorem dX2_putCopy_20 : decode cX2_putCopy 20 = .ok (.invokevirtual 65, 3) := by decide +kernel
theorem dX2_putCopy_23 : decode cX2_putCopy 23 = .ok (.return_, 1) := by decide +kernel
theorem dX3_init_0 : decode cX3_init 0 = .ok (.aload_n 0, 1) := by decide +kernel
theorem dX3_init_1 : decode cX3_init 1 = .ok (.invokespecial 3, 3) := by decide +kernel
theorem dX3_init_4 : decode cX3_init 4 = .ok (.aload_n 0, 1) := by decide +kernel
theorem dX3_init_5 : decode cX3_init 5 = .ok (.sipush 5000, 3) := by decide +kernel
theorem dX3_init_8 : decode cX3_init 8 = .ok (.newarray .int, 2) := by decide +kernel
theorem dX3_init_10 : decode cX3_init 10 = .ok (.putfield 11, 3) := by decide +kernel
theorem dX3_init_13 : decode cX3_init 13 = .ok (.aload_n 0, 1) := by decide +kernel
theorem dX3_init_14 : decode cX3_init 14 = .ok (.iconst 0, 1) := by decide +kernel
theorem dX3_init_15 : decode cX3_init 15 = .ok (.putfield 15, 3) := by decide +kernel
theorem dX3_init_18 : decode cX3_init 18 = .ok (.aload_n 0, 1) := by decide +kernel
theorem dX3_init_19 : decode cX3_init 19 = .ok (.iconst 0, 1) := by decide +kernel
theorem dX3_init_20 : decode cX3_init 20 = .ok (.putfield 19, 3) := by decide +kernel
theorem dX3_init_23 : decode cX3_init 23 = .ok (.return_, 1) := by decide +kernel
theorem dX3_clear_0 : decode cX3_clear 0 = .ok (.aload_n 0, 1) := by decide +kernel
theorem dX3_clear_1 : decode cX3_clear 1 = .ok (.iconst 0, 1) := by decide +kernel
theorem dX3_clear_2 : decode cX3_clear 2 = .ok (.putfield 15, 3) := by decide +kernel
theorem dX3_clear_5 : decode cX3_clear 5 = .ok (.aload_n 0, 1) := by decide +kernel
theorem dX3_clear_6 : decode cX3_clear 6 = .ok (.iconst 0, 1) := by decide +kernel
theorem dX3_clear_7 : decode cX3_clear 7 = .ok (.putfield 19, 3) := by decide +kernel
theorem dX3_clear_10 : decode cX3_clear 10 = .ok (.return_, 1) := by decide +kernel
theorem dX3_add_0 : decode cX3_add 0 = .ok (.aload_n 0, 1) := by decide +kernel
theorem dX3_add_1 : decode cX3_add 1 = .ok (.getfield 15, 3) := by decide +kernel
theorem dX3_add_4 : decode cX3_add 4 = .ok (.sipush 1000, 3) := by decide +kernel
theorem dX3_add_7 : decode cX3_add 7 = .ok (.if_icmp .ge 61, 3) := by decide +kernel
theorem dX3_add_10 : decode cX3_add 10 = .ok (.aload_n 0, 1) := by decide +kernel
theorem dX3_add_11 : decode cX3_add 11 = .ok (.getfield 15, 3) := by decide +kernel
theorem dX3_add_14 : decode cX3_add 14 = .ok (.iconst 5, 1) := by decide +kernel
theorem dX3_add_15 : decode cX3_add 15 = .ok (.imul, 1) := by decide +kernel
theorem dX3_add_16 : decode cX3_add 16 = .ok (.istore 7, 2) := by decide +kernel
theorem dX3_add_18 : decode cX3_add 18 = .ok (.aload_n 0, 1) := by decide +kernel
theorem dX3_add_19 : decode cX3_add 19 = .ok (.getfield 11, 3) := by decide +kernel
theorem dX3_add_22 : decode cX3_add 22 = .ok (.iload 7, 2) := by decide +kernel
theorem dX3_add_24 : decode cX3_add 24 = .ok (.iload_n 1, 1) := by decide +kernel
theorem dX3_add_25 : decode cX3_add 25 = .ok (.iastore, 1) := by decide +kernel
theorem dX3_add_26 : decode cX3_add 26 = .ok (.aload_n 0, 1) := by decide +kernel
theorem dX3_add_27 : decode cX3_add 27 = .ok (.getfield 11, 3) := by decide +kernel
theorem dX3_add_30 : decode cX3_add 30 = .ok (.iload 7, 2) := by decide +kernel
theorem dX3_add_32 : decode cX3_add 32 = .ok (.iconst 1, 1) := by decide +kernel
theorem dX3_add_33 : decode cX3_add 33 = .ok (.iadd, 1) := by decide +kernel
theorem dX3_add_34 : decode cX3_add 34 = .ok (.iload_n 2, 1) := by decide +kernel
theorem dX3_add_35 : decode cX3_add 35 = .ok (.iastore, 1) := by decide +kernel
theorem dX3_add_36 : decode cX3_add 36 = .ok (.aload_n 0, 1) := by decide +kernel
theorem dX3_add_37 : decode cX3_add 37 = .ok (.getfield 11, 3) := by decide +kernel
theorem dX3_add_40 : decode cX3_add 40 = .ok (.iload 7, 2) := by decide +kernel
theorem dX3_add_42 : decode cX3_add 42 = .ok (.iconst 2, 1) := by decide +kernel
theorem dX3_add_43 : decode cX3_add 43 = .ok (.iadd, 1) := by decide +kernel
theorem dX3_add_44 : decode cX3_add 44 = .ok (.iload_n 3, 1) := by decide +kernel
theorem dX3_add_45 : decode cX3_add 45 = .ok (.iastore, 1) := by decide +kernel
theorem dX3_add_46 : decode cX3_add 46 = .ok (.aload_n 0, 1) := by decide +kernel
theorem dX3_add_47 : decode cX3_add 47 = .ok (.getfield 11, 3) := by decide +kernel
theorem dX3_add_50 : decode cX3_add 50 = .ok (.iload 7, 2) := by decide +kernel
theorem dX3_add_52 : decode cX3_add 52 = .ok (.iconst 3, 1) := by decide +kernel
theorem dX3_add_53 : decode cX3_add 53 = .ok (.iadd, 1) := by decide +kernel
theorem dX3_add_54 : decode cX3_add 54 = .ok (.iload 4, 2) := by decide +kernel
theorem dX3_add_56 : decode cX3_add 56 = .ok (.iastore, 1) := by decide +kernel
theorem dX3_add_57 : decode cX3_add 57 = .ok (.aload_n 0, 1) := by decide +kernel
theorem dX3_add_58 : decode cX3_add 58 = .ok (.getfield 11, 3) := by decide +kernel
theorem dX3_add_61 : decode cX3_add 61 = .ok (.iload 7, 2) := by decide +kernel
theorem dX3_add_63 : decode cX3_add 63 = .ok (.iconst 4, 1) := by decide +kernel
theorem dX3_add_64 : decode cX3_add 64 = .ok (.iadd, 1) := by decide +kernel
theorem dX3_add_65 : decode cX3_add 65 = .ok (.iload 5, 2) := by decide +kernel
theorem dX3_add_67 : decode cX3_add 67 = .ok (.iastore, 1) := by decide +kernel
theorem dX3_add_68 : decode cX3_add 68 = .ok (.aload_n 0, 1) := by decide +kernel
theorem dX3_add_69 : decode cX3_add 69 = .ok (.dup, 1) := by decide +kernel
theorem dX3_add_70 : decode cX3_add 70 = .ok (.getfield 15, 3) := by decide +kernel
theorem dX3_add_73 : decode cX3_add 73 = .ok (.iconst 1, 1) := by decide +kernel
theorem dX3_add_74 : decode cX3_add 74 = .ok (.iadd, 1) := by decide +kernel
theorem dX3_add_75 : decode cX3_add 75 = .ok (.putfield 15, 3) := by decide +kernel
theorem dX3_add_78 : decode cX3_add 78 = .ok (.iload 6, 2) := by decide +kernel
theorem dX3_add_80 : decode cX3_add 80 = .ok (.ifCond .eq 13, 3) := by decide +kernel
theorem dX3_add_83 : decode cX3_add 83 = .ok (.aload_n 0, 1) := by decide +kernel
theorem dX3_add_84 : decode cX3_add 84 = .ok (.dup, 1) := by decide +kernel
theorem dX3_add_85 : decode cX3_add 85 = .ok (.getfield 19, 3) := by decide +kernel
theorem dX3_add_88 : decode cX3_add 88 = .ok (.iconst 1, 1) := by decide +kernel
theorem dX3_add_89 : decode cX3_add 89 = .ok (.iadd, 1) := by decide +kernel
theorem dX3_add_90 : decode cX3_add 90 = .ok (.putfield 19, 3) := by decide +kernel
theorem dX3_add_93 : decode cX3_add 93 = .ok (.return_, 1) := by decide +kernel
theorem dX3_cell_0 : decode cX3_cell 0 = .ok (.iload_n 1, 1) := by decide +kernel
theorem dX3_cell_1 : decode cX3_cell 1 = .ok (.ifCond .lt 26, 3) := by decide +kernel
theorem dX3_cell_4 : decode cX3_cell 4 = .ok (.iload_n 1, 1) := by decide +kernel
theorem dX3_cell_5 : decode cX3_cell 5 = .ok (.aload_n 0, 1) := by decide +kernel
theorem dX3_cell_6 : decode cX3_cell 6 = .ok (.getfield 15, 3) := by decide +kernel
theorem dX3_cell_9 : decode cX3_cell 9 = .ok (.sipush 1000, 3) := by decide +kernel
theorem dX3_cell_12 : decode cX3_cell 12 = .ok (.invokestatic 22, 3) := by decide +kernel
theorem dX3_cell_15 : decode cX3_cell 15 = .ok (.if_icmp .ge 12, 3) := by decide +kernel
theorem dX3_cell_18 : decode cX3_cell 18 = .ok (.iload_n 2, 1) := by decide +kernel
theorem dX3_cell_19 : decode cX3_cell 19 = .ok (.ifCond .lt 8, 3) := by decide +kernel
theorem dX3_cell_22 : decode cX3_cell 22 = .ok (.iload_n 2, 1) := by decide +kernel
theorem dX3_cell_23 : decode cX3_cell 23 = .ok (.iconst 5, 1) := by decide +kernel
theorem dX3_cell_24 : decode cX3_cell 24 = .ok (.if_icmp .lt 5, 3) := by decide +kernel
theorem dX3_cell_27 : decode cX3_cell 27 = .ok (.iconst (-1), 1) := by decide +kernel
theorem dX3_cell_28 : decode cX3_cell 28 = .ok (.ireturn, 1) := by decide +kernel
theorem dX3_cell_29 : decode cX3_cell 29 = .ok (.aload_n 0, 1) := by decide +kernel
theorem dX3_cell_30 : decode cX3_cell 30 = .ok (.getfield 11, 3) := by decide +kernel
theorem dX3_cell_33 : decode cX3_cell 33 = .ok (.iload_n 1, 1) := by decide +kernel
theorem dX3_cell_34 : decode cX3_cell 34 = .ok (.iconst 5, 1) := by decide +kernel
theorem dX3_cell_35 : decode cX3_cell 35 = .ok (.imul, 1) := by decide +kernel
theorem dX3_cell_36 : decode cX3_cell 36 = .ok (.iload_n 2, 1) := by decide +kernel
theorem dX3_cell_37 : decode cX3_cell 37 = .ok (.iadd, 1) := by decide +kernel
theorem dX3_cell_38 : decode cX3_cell 38 = .ok (.iaload, 1) := by decide +kernel
theorem dX3_cell_39 : decode cX3_cell 39 = .ok (.ireturn, 1) := by decide +kernel
theorem dX3_become_0 : decode cX3_become 0 = .ok (.aload_n 0, 1) := by decide +kernel
theorem dX3_become_1 : decode cX3_become 1 = .ok (.aload_n 1, 1) := by decide +kernel
theorem dX3_become_2 : decode cX3_become 2 = .ok (.getfield 15, 3) := by decide +kernel
theorem dX3_become_5 : decode cX3_become 5 = .ok (.putfield 15, 3) := by decide +kernel
theorem dX3_become_8 : decode cX3_become 8 = .ok (.aload_n 0, 1) := by decide +kernel
theorem dX3_become_9 : decode cX3_become 9 = .ok (.aload_n 1, 1) := by decide +kernel
theorem dX3_become_10 : decode cX3_become 10 = .ok (.getfield 19, 3) := by decide +kernel
theorem dX3_become_13 : decode cX3_become 13 = .ok (.putfield 19, 3) := by decide +kernel
theorem dX3_become_16 : decode cX3_become 16 = .ok (.aload_n 1, 1) := by decide +kernel
theorem dX3_become_17 : decode cX3_become 17 = .ok (.getfield 11, 3) := by decide +kernel
theorem dX3_become_20 : decode cX3_become 20 = .ok (.iconst 0, 1) := by decide +kernel
theorem dX3_become_21 : decode cX3_become 21 = .ok (.aload_n 0, 1) := by decide +kernel
theorem dX3_become_22 : decode cX3_become 22 = .ok (.getfield 11, 3) := by decide +kernel
theorem dX3_become_25 : decode cX3_become 25 = .ok (.iconst 0, 1) := by decide +kernel
theorem dX3_become_26 : decode cX3_become 26 = .ok (.aload_n 0, 1) := by decide +kernel
theorem dX3_become_27 : decode cX3_become 27 = .ok (.getfield 15, 3) := by decide +kernel
theorem dX3_become_30 : decode cX3_become 30 = .ok (.sipush 1000, 3) := by decide +kernel
theorem dX3_become_33 : decode cX3_become 33 = .ok (.invokestatic 22, 3) := by decide +kernel
theorem dX3_become_36 : decode cX3_become 36 = .ok (.iconst 5, 1) := by decide +kernel
theorem dX3_become_37 : decode cX3_become 37 = .ok (.imul, 1) := by decide +kernel
theorem dX3_become_38 : decode cX3_become 38 = .ok (.invokestatic 28, 3) := by decide +kernel
theorem dX3_become_41 : decode cX3_become 41 = .ok (.return_, 1) := by decide +kernel
theorem dX4_init_0 : decode cX4_init 0 = .ok (.aload_n 0, 1) := by decide +kernel
theorem dX4_init_1 : decode cX4_init 1 = .ok (.invokespecial 3, 3) := by decide +kernel
theorem dX4_init_4 : decode cX4_init 4 = .ok (.aload_n 0, 1) := by decide +kernel
theorem dX4_init_5 : decode cX4_init 5 = .ok (.new 9, 3) := by decide +kernel
theorem dX4_init_8 : decode cX4_init 8 = .ok (.dup, 1) := by decide +kernel
theorem dX4_init_9 : decode cX4_init 9 = .ok (.sipush 24000, 3) := by decide +kernel
theorem dX4_init_12 : decode cX4_init 12 = .ok (.invokespecial 11, 3) := by decide +kernel
theorem dX4_init_15 : decode cX4_init 15 = .ok (.putfield 14, 3) := by decide +kernel
theorem dX4_init_18 : decode cX4_init 18 = .ok (.return_, 1) := by decide +kernel
theorem dX4_makeStream_0 : decode cX4_makeStream 0 = .ok (.aload_n 0, 1) := by decide +kernel
theorem dX4_makeStream_1 : decode cX4_makeStream 1 = .ok (.getfield 14, 3) := by decide +kernel
theorem dX4_makeStream_4 : decode cX4_makeStream 4 = .ok (.iconst 0, 1) := by decide +kernel
theorem dX4_makeStream_5 : decode cX4_makeStream 5 = .ok (.invokevirtual 20, 3) := by decide +kernel
theorem dX4_makeStream_8 : decode cX4_makeStream 8 = .ok (.aload_n 0, 1) := by decide +kernel
theorem dX4_makeStream_9 : decode cX4_makeStream 9 = .ok (.sipush 255, 3) := by decide +kernel
theorem dX4_makeStream_12 : decode cX4_makeStream 12 = .ok (.bipush 6, 2) := by decide +kernel
theorem dX4_makeStream_14 : decode cX4_makeStream 14 = .ok (.invokevirtual 23, 3) := by decide +kernel
theorem dX4_makeStream_17 : decode cX4_makeStream 17 = .ok (.getstatic 27, 3) := by decide +kernel
theorem dX4_makeStream_20 : decode cX4_makeStream 20 = .ok (.astore 4, 2) := by decide +kernel
theorem dX4_makeStream_22 : decode cX4_makeStream 22 = .ok (.aload 4, 2) := by decide +kernel
theorem dX4_makeStream_24 : decode cX4_makeStream 24 = .ok (.arraylength, 1) := by decide +kernel
theorem dX4_makeStream_25 : decode cX4_makeStream 25 = .ok (.istore 5, 2) := by decide +kernel
theorem dX4_makeStream_27 : decode cX4_makeStream 27 = .ok (.iconst 0, 1) := by decide +kernel
theorem dX4_makeStream_28 : decode cX4_makeStream 28 = .ok (.istore 6, 2) := by decide +kernel
theorem dX4_makeStream_30 : decode cX4_makeStream 30 = .ok (.iload 6, 2) := by decide +kernel
theorem dX4_makeStream_32 : decode cX4_makeStream 32 = .ok (.iload 5, 2) := by decide +kernel
theorem dX4_makeStream_34 : decode cX4_makeStream 34 = .ok (.if_icmp .ge 25, 3) := by decide +kernel
theorem dX4_makeStream_37 : decode cX4_makeStream 37 = .ok (.aload 4, 2) := by decide +kernel
theorem dX4_makeStream_39 : decode cX4_makeStream 39 = .ok (.iload 6, 2) := by decide +kernel
theorem dX4_makeStream_41 : decode cX4_makeStream 41 = .ok (.iaload, 1) := by decide +kernel
theorem dX4_makeStream_42 : decode cX4_makeStream 42 = .ok (.istore 7, 2) := by decide +kernel
theorem dX4_makeStream_44 : decode cX4_makeStream 44 = .ok (.aload_n 0, 1) := by decide +kernel
theorem dX4_makeStream_45 : decode cX4_makeStream 45 = .ok (.getfield 14, 3) := by decide +kernel
theorem dX4_makeStream_48 : decode cX4_makeStream 48 = .ok (.iload 7, 2) := by decide +kernel
theorem dX4_makeStream_50 : decode cX4_makeStream 50 = .ok (.invokevirtual 31, 3) := by decide +kernel
theorem dX4_makeStream_53 : decode cX4_makeStream 53 = .ok (.iinc 6 1, 3) := by decide +kernel
theorem dX4_makeStream_56 : decode cX4_makeStream 56 = .ok (.goto (-26), 3) := by decide +kernel
theorem dX4_makeStream_59 : decode cX4_makeStream 59 = .ok (.iload_n 2, 1) := by decide +kernel
theorem dX4_makeStream_60 : decode cX4_makeStream 60 = .ok (.iconst 1, 1) := by decide +kernel
theorem dX4_makeStream_61 : decode cX4_makeStream 61 = .ok (.invokestatic 34, 3) := by decide +kernel
theorem dX4_makeStream_64 : decode cX4_makeStream 64 = .ok (.istore 4, 2) := by decide +kernel
theorem dX4_makeStream_66 : decode cX4_makeStream 66 = .ok (.iconst 0, 1) := by decide +kernel
theorem dX4_makeStream_67 : decode cX4_makeStream 67 = .ok (.istore 5, 2) := by decide +kernel
theorem dX4_makeStream_69 : decode cX4_makeStream 69 = .ok (.iload 5, 2) := by decide +kernel
theorem dX4_makeStream_71 : decode cX4_makeStream 71 = .ok (.aload_n 1, 1) := by decide +kernel
theorem dX4_makeStream_72 : decode cX4_makeStream 72 = .ok (.getfield 40, 3) := by decide +kernel
theorem dX4_makeStream_75 : decode cX4_makeStream 75 = .ok (.if_icmp .ge 54, 3) := by decide +kernel
theorem dX4_makeStream_78 : decode cX4_makeStream 78 = .ok (.iload 4, 2) := by decide +kernel
theorem dX4_makeStream_80 : decode cX4_makeStream 80 = .ok (.aload_n 1, 1) := by decide +kernel
theorem dX4_makeStream_81 : decode cX4_makeStream 81 = .ok (.getfield 40, 3) := by decide +kernel
theorem dX4_makeStream_84 : decode cX4_makeStream 84 = .ok (.iload 5, 2) := by decide +kernel
theorem dX4_makeStream_86 : decode cX4_makeStream 86 = .ok (.isub, 1) := by decide +kernel
theorem dX4_makeStream_87 : decode cX4_makeStream 87 = .ok (.invokestatic 44, 3) := by decide +kernel
theorem dX4_makeStream_90 : decode cX4_makeStream 90 = .ok (.istore 6, 2) := by decide +kernel
theorem dX4_makeStream_92 : decode cX4_makeStream 92 = .ok (.aload_n 3, 1) := by decide +kernel
theorem dX4_makeStream_93 : decode cX4_makeStream 93 = .ok (.aload_n 1, 1) := by decide +kernel
theorem dX4_makeStream_94 : decode cX4_makeStream 94 = .ok (.iload 5, 2) := by decide +kernel
theorem dX4_makeStream_96 : decode cX4_makeStream 96 = .ok (.iload 6, 2) := by decide +kernel
theorem dX4_makeStream_98 : decode cX4_makeStream 98 = .ok (.invokevirtual 47, 3) := by decide +kernel
theorem dX4_makeStream_101 : decode cX4_makeStream 101 = .ok (.aload_n 0, 1) := by decide +kernel
theorem dX4_makeStream_102 : decode cX4_makeStream 102 = .ok (.aload_n 1, 1) := by decide +kernel
theorem dX4_makeStream_103 : decode cX4_makeStream 103 = .ok (.iload 5, 2) := by decide +kernel
theorem dX4_makeStream_105 : decode cX4_makeStream 105 = .ok (.iload 6, 2) := by decide +kernel
theorem dX4_makeStream_107 : decode cX4_makeStream 107 = .ok (.aload_n 3, 1) := by decide +kernel
theorem dX4_makeStream_108 : decode cX4_makeStream 108 = .ok (.getfield 53, 3) := by decide +kernel
theorem dX4_makeStream_111 : decode cX4_makeStream 111 = .ok (.invokevirtual 56, 3) := by decide +kernel
theorem dX4_makeStream_114 : decode cX4_makeStream 114 = .ok (.ifCond .ne 5, 3) := by decide +kernel
theorem dX4_makeStream_117 : decode cX4_makeStream 117 = .ok (.iconst 0, 1) := by decide +kernel
theorem dX4_makeStream_118 : decode cX4_makeStream 118 = .ok (.ireturn, 1) := by decide +kernel
theorem dX4_makeStream_119 : decode cX4_makeStream 119 = .ok (.iload 5, 2) := by decide +kernel
theorem dX4_makeStream_121 : decode cX4_makeStream 121 = .ok (.iload 4, 2) := by decide +kernel
theorem dX4_makeStream_123 : decode cX4_makeStream 123 = .ok (.iadd, 1) := by decide +kernel
theorem dX4_makeStream_124 : decode cX4_makeStream 124 = .ok (.istore 5, 2) := by decide +kernel
theorem dX4_makeStream_126 : decode cX4_makeStream 126 = .ok (.goto (-57), 3) := by decide +kernel
theorem dX4_makeStream_129 : decode cX4_makeStream 129 = .ok (.iconst 1, 1) := by decide +kernel
theorem dX4_makeStream_130 : decode cX4_makeStream 130 = .ok (.ireturn, 1) := by decide +kernel
theorem dX4_putPiece_0 : decode cX4_putPiece 0 = .ok (.aload 4, 2) := by decide +kernel
theorem dX4_putPiece_2 : decode cX4_putPiece 2 = .ok (.getfield 40, 3) := by decide +kernel
theorem dX4_putPiece_5 : decode cX4_putPiece 5 = .ok (.iload_n 3, 1) := by decide +kernel
theorem dX4_putPiece_6 : decode cX4_putPiece 6 = .ok (.iload_n 3, 1) := by decide +kernel
theorem dX4_putPiece_7 : decode cX4_putPiece 7 = .ok (.bipush 8, 2) := by decide +kernel
theorem dX4_putPiece_9 : decode cX4_putPiece 9 = .ok (.idiv, 1) := by decide +kernel
theorem dX4_putPiece_10 : decode cX4_putPiece 10 = .ok (.isub, 1) := by decide +kernel
theorem dX4_putPiece_11 : decode cX4_putPiece 11 = .ok (.if_icmp .ge 7, 3) := by decide +kernel
theorem dX4_putPiece_14 : decode cX4_putPiece 14 = .ok (.iconst 1, 1) := by decide +kernel
theorem dX4_putPiece_15 : decode cX4_putPiece 15 = .ok (.goto 4, 3) := by decide +kernel
theorem dX4_putPiece_18 : decode cX4_putPiece 18 = .ok (.iconst 0, 1) := by decide +kernel
theorem dX4_putPiece_19 : decode cX4_putPiece 19 = .ok (.istore 5, 2) := by decide +kernel
theorem dX4_putPiece_21 : decode cX4_putPiece 21 = .ok (.iconst 4, 1) := by decide +kernel
theorem dX4_putPiece_22 : decode cX4_putPiece 22 = .ok (.iload 5, 2) := by decide +kernel
theorem dX4_putPiece_24 : decode cX4_putPiece 24 = .ok (.ifCond .eq 11, 3) := by decide +kernel
theorem dX4_putPiece_27 : decode cX4_putPiece 27 = .ok (.aload 4, 2) := by decide +kernel
theorem dX4_putPiece_29 : decode cX4_putPiece 29 = .ok (.getfield 40, 3) := by decide +kernel
theorem dX4_putPiece_32 : decode cX4_putPiece 32 = .ok (.goto 4, 3) := by decide +kernel
theorem dX4_putPiece_35 : decode cX4_putPiece 35 = .ok (.iload_n 3, 1) := by decide +kernel
theorem dX4_putPiece_36 : decode cX4_putPiece 36 = .ok (.iadd, 1) := by decide +kernel
theorem dX4_putPiece_37 : decode cX4_putPiece 37 = .ok (.istore 6, 2) := by decide +kernel
theorem dX4_putPiece_39 : decode cX4_putPiece 39 = .ok (.aload_n 0, 1) := by decide +kernel
theorem dX4_putPiece_40 : decode cX4_putPiece 40 = .ok (.getfield 14, 3) := by decide +kernel
theorem dX4_putPiece_43 : decode cX4_putPiece 43 = .ok (.iconst 4, 1) := by decide +kernel
theorem dX4_putPiece_44 : decode cX4_putPiece 44 = .ok (.iload 6, 2) := by decide +kernel
theorem dX4_putPiece_46 : decode cX4_putPiece 46 = .ok (.iadd, 1) := by decide +kernel
theorem dX4_putPiece_47 : decode cX4_putPiece 47 = .ok (.invokevirtual 60, 3) := by decide +kernel
theorem dX4_putPiece_50 : decode cX4_putPiece 50 = .ok (.ifCond .ne 5, 3) := by decide +kernel
theorem dX4_putPiece_53 : decode cX4_putPiece 53 = .ok (.iconst 0, 1) := by decide +kernel
theorem dX4_putPiece_54 : decode cX4_putPiece 54 = .ok (.ireturn, 1) := by decide +kernel
theorem dX4_putPiece_55 : decode cX4_putPiece 55 = .ok (.aload_n 0, 1) := by decide +kernel
theorem dX4_putPiece_56 : decode cX4_putPiece 56 = .ok (.iload 5, 2) := by decide +kernel
theorem dX4_putPiece_58 : decode cX4_putPiece 58 = .ok (.ifCond .eq 7, 3) := by decide +kernel
theorem dX4_putPiece_61 : decode cX4_putPiece 61 = .ok (.iconst 0, 1) := by decide +kernel
theorem dX4_putPiece_62 : decode cX4_putPiece 62 = .ok (.goto 4, 3) := by decide +kernel
theorem dX4_putPiece_65 : decode cX4_putPiece 65 = .ok (.iconst 1, 1) := by decide +kernel
theorem dX4_putPiece_66 : decode cX4_putPiece 66 = .ok (.iload 6, 2) := by decide +kernel
theorem dX4_putPiece_68 : decode cX4_putPiece 68 = .ok (.invokevirtual 23, 3) := by decide +kernel
theorem dX4_putPiece_71 : decode cX4_putPiece 71 = .ok (.aload_n 0, 1) := by decide +kernel
theorem dX4_putPiece_72 : decode cX4_putPiece 72 = .ok (.getfield 14, 3) := by decide +kernel
theorem dX4_putPiece_75 : decode cX4_putPiece 75 = .ok (.aload_n 1, 1) := by decide +kernel
theorem dX4_putPiece_76 : decode cX4_putPiece 76 = .ok (.iload_n 2, 1) := by decide +kernel
theorem dX4_putPiece_77 : decode cX4_putPiece 77 = .ok (.iload_n 3, 1) := by decide +kernel
theorem dX4_putPiece_78 : decode cX4_putPiece 78 = .ok (.invokevirtual 64, 3) := by decide +kernel
theorem dX4_putPiece_81 : decode cX4_putPiece 81 = .ok (.iconst 4, 1) := by decide +kernel
theorem dX4_putPiece_82 : decode cX4_putPiece 82 = .ok (.invokevirtual 67, 3) := by decide +kernel
theorem dX4_putPiece_85 : decode cX4_putPiece 85 = .ok (.iload 5, 2) := by decide +kernel
theorem dX4_putPiece_87 : decode cX4_putPiece 87 = .ok (.ifCond .eq 21, 3) := by decide +kernel
theorem dX4_putPiece_90 : decode cX4_putPiece 90 = .ok (.aload_n 0, 1) := by decide +kernel
theorem dX4_putPiece_91 : decode cX4_putPiece 91 = .ok (.getfield 14, 3) := by decide +kernel
theorem dX4_putPiece_94 : decode cX4_putPiece 94 = .ok (.aload 4, 2) := by decide +kernel
theorem dX4_putPiece_96 : decode cX4_putPiece 96 = .ok (.iconst 0, 1) := by decide +kernel
theorem dX4_putPiece_97 : decode cX4_putPiece 97 = .ok (.aload 4, 2) := by decide +kernel
theorem dX4_putPiece_99 : decode cX4_putPiece 99 = .ok (.getfield 40, 3) := by decide +kernel
theorem dX4_putPiece_102 : decode cX4_putPiece 102 = .ok (.invokevirtual 70, 3) := by decide +kernel
theorem dX4_putPiece_105 : decode cX4_putPiece 105 = .ok (.goto 13, 3) := by decide +kernel
theorem dX4_putPiece_108 : decode cX4_putPiece 108 = .ok (.aload_n 0, 1) := by decide +kernel
theorem dX4_putPiece_109 : decode cX4_putPiece 109 = .ok (.getfield 14, 3) := by decide +kernel
theorem dX4_putPiece_112 : decode cX4_putPiece 112 = .ok (.aload_n 1, 1) := by decide +kernel
theorem dX4_putPiece_113 : decode cX4_putPiece 113 = .ok (.iload_n 2, 1) := by decide +kernel
theorem dX4_putPiece_114 : decode cX4_putPiece 114 = .ok (.iload_n 3, 1) := by decide +kernel
theorem dX4_putPiece_115 : decode cX4_putPiece 115 = .ok (.invokevirtual 70, 3) := by decide +kernel
theorem dX4_putPiece_118 : decode cX4_putPiece 118 = .ok (.iconst 1, 1) := by decide +kernel
theorem dX4_putPiece_119 : decode cX4_putPiece 119 = .ok (.ireturn, 1) := by decide +kernel
theorem dX4_putHeader_0 : decode cX4_putHeader 0 = .ok (.aload_n 0, 1) := by decide +kernel
theorem dX4_putHeader_1 : decode cX4_putHeader 1 = .ok (.getfield 14, 3) := by decide +kernel
theorem dX4_putHeader_4 : decode cX4_putHeader 4 = .ok (.iload_n 1, 1) := by decide +kernel
theorem dX4_putHeader_5 : decode cX4_putHeader 5 = .ok (.invokevirtual 31, 3) := by decide +kernel
theorem dX4_putHeader_8 : decode cX4_putHeader 8 = .ok (.aload_n 0, 1) := by decide +kernel
theorem dX4_putHeader_9 : decode cX4_putHeader 9 = .ok (.getfield 14, 3) := by decide +kernel
theorem dX4_putHeader_12 : decode cX4_putHeader 12 = .ok (.iload_n 2, 1) := by decide +kernel
theorem dX4_putHeader_13 : decode cX4_putHeader 13 = .ok (.iconst 3, 1) := by decide +kernel
theorem dX4_putHeader_14 : decode cX4_putHeader 14 = .ok (.invokevirtual 67, 3) := by decide +kernel
theorem dX4_putHeader_17 : decode cX4_putHeader 17 = .ok (.return_, 1) := by decide +kernel
theorem dX5_init_0 : decode cX5_init 0 = .ok (.aload_n 0, 1) := by decide +kernel
theorem dX5_init_1 : decode cX5_init 1 = .ok (.invokespecial 3, 3) := by decide +kernel
theorem dX5_init_4 : decode cX5_init 4 = .ok (.aload_n 0, 1) := by decide +kernel
theorem dX5_init_5 : decode cX5_init 5 = .ok (.new 9, 3) := by decide +kernel
theorem dX5_init_8 : decode cX5_init 8 = .ok (.dup, 1) := by decide +kernel
theorem dX5_init_9 : decode cX5_init 9 = .ok (.sipush 20000, 3) := by decide +kernel
theorem dX5_init_12 : decode cX5_init 12 = .ok (.invokespecial 11, 3) := by decide +kernel
theorem dX5_init_15 : decode cX5_init 15 = .ok (.putfield 14, 3) := by decide +kernel
theorem dX5_init_18 : decode cX5_init 18 = .ok (.aload_n 0, 1) := by decide +kernel
theorem dX5_init_19 : decode cX5_init 19 = .ok (.new 20, 3) := by decide +kernel
theorem dX5_init_22 : decode cX5_init 22 = .ok (.dup, 1) := by decide +kernel
theorem dX5_init_23 : decode cX5_init 23 = .ok (.invokespecial 22, 3) := by decide +kernel
theorem dX5_init_26 : decode cX5_init 26 = .ok (.putfield 23, 3) := by decide +kernel
theorem dX5_init_29 : decode cX5_init 29 = .ok (.aload_n 0, 1) := by decide +kernel
theorem dX5_init_30 : decode cX5_init 30 = .ok (.iconst 0, 1) := by decide +kernel
theorem dX5_init_31 : decode cX5_init 31 = .ok (.putfield 27, 3) := by decide +kernel
theorem dX5_init_34 : decode cX5_init 34 = .ok (.aload_n 0, 1) := by decide +kernel
theorem dX5_init_35 : decode cX5_init 35 = .ok (.iconst (-1), 1) := by decide +kernel
theorem dX5_init_36 : decode cX5_init 36 = .ok (.putfield 31, 3) := by decide +kernel
theorem dX5_init_39 : decode cX5_init 39 = .ok (.aload_n 0, 1) := by decide +kernel
theorem dX5_init_40 : decode cX5_init 40 = .ok (.iconst 0, 1) := by decide +kernel
theorem dX5_init_41 : decode cX5_init 41 = .ok (.putfield 34, 3) := by decide +kernel
theorem dX5_init_44 : decode cX5_init 44 = .ok (.aload_n 0, 1) := by decide +kernel
theorem dX5_init_45 : decode cX5_init 45 = .ok (.sipush 255, 3) := by decide +kernel
theorem dX5_init_48 : decode cX5_init 48 = .ok (.putfield 37, 3) := by decide +kernel
theorem dX5_init_51 : decode cX5_init 51 = .ok (.aload_n 0, 1) := by decide +kernel
theorem dX5_init_52 : decode cX5_init 52 = .ok (.iconst 0, 1) := by decide +kernel
theorem dX5_init_53 : decode cX5_init 53 = .ok (.putfield 40, 3) := by decide +kernel
theorem dX5_init_56 : decode cX5_init 56 = .ok (.aload_n 0, 1) := by decide +kernel
theorem dX5_init_57 : decode cX5_init 57 = .ok (.iconst 0, 1) := by decide +kernel
theorem dX5_init_58 : decode cX5_init 58 = .ok (.putfield 43, 3) := by decide +kernel
theorem dX5_init_61 : decode cX5_init 61 = .ok (.return_, 1) := by decide +kernel
theorem dX5_openStream_0 : decode cX5_openStream 0 = .ok (.aload_n 0, 1) := by decide +kernel
theorem dX5_openStream_1 : decode cX5_openStream 1 = .ok (.getfield 14, 3) := by decide +kernel
theorem dX5_openStream_4 : decode cX5_openStream 4 = .ok (.iconst 0, 1) := by decide +kernel
theorem dX5_openStream_5 : decode cX5_openStream 5 = .ok (.invokevirtual 46, 3) := by decide +kernel
theorem dX5_openStream_8 : decode cX5_openStream 8 = .ok (.aload_n 0, 1) := by decide +kernel
theorem dX5_openStream_9 : decode cX5_openStream 9 = .ok (.getfield 23, 3) := by decide +kernel
theorem dX5_openStream_12 : decode cX5_openStream 12 = .ok (.invokevirtual 49, 3) := by decide +kernel
theorem dX5_openStream_15 : decode cX5_openStream 15 = .ok (.aload_n 0, 1) := by decide +kernel
theorem dX5_openStream_16 : decode cX5_openStream 16 = .ok (.iconst 0, 1) := by decide +kernel
theorem dX5_openStream_17 : decode cX5_openStream 17 = .ok (.putfield 27, 3) := by decide +kernel
theorem dX5_openStream_20 : decode cX5_openStream 20 = .ok (.aload_n 0, 1) := by decide +kernel
theorem dX5_openStream_21 : decode cX5_openStream 21 = .ok (.iconst (-1), 1) := by decide +kernel
theorem dX5_openStream_22 : decode cX5_openStream 22 = .ok (.putfield 31, 3) := by decide +kernel
theorem dX5_openStream_25 : decode cX5_openStream 25 = .ok (.aload_n 0, 1) := by decide +kernel
theorem dX5_openStream_26 : decode cX5_openStream 26 = .ok (.iconst 0, 1) := by decide +kernel
theorem dX5_openStream_27 : decode cX5_openStream 27 = .ok (.putfield 34, 3) := by decide +kernel
theorem dX5_openStream_30 : decode cX5_openStream 30 = .ok (.aload_n 1, 1) := by decide +kernel
theorem dX5_openStream_31 : decode cX5_openStream 31 = .ok (.iconst 0, 1) := by decide +kernel
theorem dX5_openStream_32 : decode cX5_openStream 32 = .ok (.invokevirtual 52, 3) := by decide +kernel
theorem dX5_openStream_35 : decode cX5_openStream 35 = .ok (.sipush 255, 3) := by decide +kernel
theorem dX5_openStream_38 : decode cX5_openStream 38 = .ok (.if_icmp .eq 9, 3) := by decide +kernel
theorem dX5_openStream_41 : decode cX5_openStream 41 = .ok (.aload_n 0, 1) := by decide +kernel
theorem dX5_openStream_42 : decode cX5_openStream 42 = .ok (.bipush 11, 2) := by decide +kernel
theorem dX5_openStream_44 : decode cX5_openStream 44 = .ok (.invokevirtual 56, 3) := by decide +kernel
theorem dX5_openStream_47 : decode cX5_openStream 47 = .ok (.iconst 0, 1) := by decide +kernel
theorem dX5_openStream_48 : decode cX5_openStream 48 = .ok (.istore_n 3, 1) := by decide +kernel
theorem dX5_openStream_49 : decode cX5_openStream 49 = .ok (.iload_n 3, 1) := by decide +kernel
theorem dX5_openStream_50 : decode cX5_openStream 50 = .ok (.aload_n 1, 1) := by decide +kernel
theorem dX5_openStream_51 : decode cX5_openStream 51 = .ok (.getfield 59, 3) := by decide +kernel
theorem dX5_openStream_54 : decode cX5_openStream 54 = .ok (.if_icmp .ge 86, 3) := by decide +kernel
theorem dX5_openStream_57 : decode cX5_openStream 57 = .ok (.aload_n 0, 1) := by decide +kernel
theorem dX5_openStream_58 : decode cX5_openStream 58 = .ok (.getfield 34, 3) := by decide +kernel
theorem dX5_openStream_61 : decode cX5_openStream 61 = .ok (.aload_n 1, 1) := by decide +kernel
theorem dX5_openStream_62 : decode cX5_openStream 62 = .ok (.getfield 59, 3) := by decide +kernel
theorem dX5_openStream_65 : decode cX5_openStream 65 = .ok (.if_icmp .ge 75, 3) := by decide +kernel
theorem dX5_openStream_68 : decode cX5_openStream 68 = .ok (.aload_n 0, 1) := by decide +kernel
theorem dX5_openStream_69 : decode cX5_openStream 69 = .ok (.getfield 27, 3) := by decide +kernel
theorem dX5_openStream_72 : decode cX5_openStream 72 = .ok (.ifCond .ne 68, 3) := by decide +kernel
theorem dX5_openStream_75 : decode cX5_openStream 75 = .ok (.aload_n 0, 1) := by decide +kernel
theorem dX5_openStream_76 : decode cX5_openStream 76 = .ok (.getfield 14, 3) := by decide +kernel
theorem dX5_openStream_79 : decode cX5_openStream 79 = .ok (.getfield 59, 3) := by decide +kernel
theorem dX5_openStream_82 : decode cX5_openStream 82 = .ok (.istore 4, 2) := by decide +kernel
theorem dX5_openStream_84 : decode cX5_openStream 84 = .ok (.aload_n 0, 1) := by decide +kernel
theorem dX5_openStream_85 : decode cX5_openStream 85 = .ok (.aload_n 1, 1) := by decide +kernel
theorem dX5_openStream_86 : decode cX5_openStream 86 = .ok (.invokevirtual 62, 3) := by decide +kernel
theorem dX5_openStream_89 : decode cX5_openStream 89 = .ok (.aload_n 0, 1) := by decide +kernel
theorem dX5_openStream_90 : decode cX5_openStream 90 = .ok (.getfield 27, 3) := by decide +kernel
theorem dX5_openStream_93 : decode cX5_openStream 93 = .ok (.ifCond .ne 8, 3) := by decide +kernel
theorem dX5_openStream_96 : decode cX5_openStream 96 = .ok (.aload_n 0, 1) := by decide +kernel
theorem dX5_openStream_97 : decode cX5_openStream 97 = .ok (.aload_n 1, 1) := by decide +kernel
theorem dX5_openStream_98 : decode cX5_openStream 98 = .ok (.invokevirtual 66, 3) := by decide +kernel
theorem dX5_openStream_101 : decode cX5_openStream 101 = .ok (.aload_n 0, 1) := by decide +kernel
theorem dX5_openStream_102 : decode cX5_openStream 102 = .ok (.getfield 27, 3) := by decide +kernel
theorem dX5_openStream_105 : decode cX5_openStream 105 = .ok (.ifCond .ne 16, 3) := by decide +kernel
theorem dX5_openStream_108 : decode cX5_openStream 108 = .ok (.aload_n 0, 1) := by decide +kernel
theorem dX5_openStream_109 : decode cX5_openStream 109 = .ok (.invokevirtual 69, 3) := by decide +kernel
theorem dX5_openStream_112 : decode cX5_openStream 112 = .ok (.ifCond .eq 9, 3) := by decide +kernel
theorem dX5_openStream_115 : decode cX5_openStream 115 = .ok (.aload_n 0, 1) := by decide +kernel
theorem dX5_openStream_116 : decode cX5_openStream 116 = .ok (.aload_n 1, 1) := by decide +kernel
theorem dX5_openStream_117 : decode cX5_openStream 117 = .ok (.aload_n 2, 1) := by decide +kernel
theorem dX5_openStream_118 : decode cX5_openStream 118 = .ok (.invokevirtual 73, 3) := by decide +kernel
theorem dX5_openStream_121 : decode cX5_openStream 121 = .ok (.aload_n 0, 1) := by decide +kernel
theorem dX5_openStream_122 : decode cX5_openStream 122 = .ok (.getfield 27, 3) := by decide +kernel
theorem dX5_openStream_125 : decode cX5_openStream 125 = .ok (.ifCond .ne 9, 3) := by decide +kernel
theorem dX5_openStream_128 : decode cX5_openStream 128 = .ok (.aload_n 0, 1) := by decide +kernel
theorem dX5_openStream_129 : decode cX5_openStream 129 = .ok (.iload 4, 2) := by decide +kernel
theorem dX5_openStream_131 : decode cX5_openStream 131 = .ok (.invokevirtual 77, 3) := by decide +kernel
theorem dX5_openStream_134 : decode cX5_openStream 134 = .ok (.iinc 3 1, 3) := by decide +kernel
theorem dX5_openStream_137 : decode cX5_openStream 137 = .ok (.goto (-88), 3) := by decide +kernel
theorem dX5_openStream_140 : decode cX5_openStream 140 = .ok (.return_, 1) := by decide +kernel
theorem dX5_fail_0 : decode cX5_fail 0 = .ok (.aload_n 0, 1) := by decide +kernel
theorem dX5_fail_1 : decode cX5_fail 1 = .ok (.iload_n 1, 1) := by decide +kernel
theorem dX5_fail_2 : decode cX5_fail 2 = .ok (.putfield 27, 3) := by decide +kernel
theorem dX5_fail_5 : decode cX5_fail 5 = .ok (.aload_n 0, 1) := by decide +kernel
theorem dX5_fail_6 : decode cX5_fail 6 = .ok (.aload_n 0, 1) := by decide +kernel
theorem dX5_fail_7 : decode cX5_fail 7 = .ok (.getfield 34, 3) := by decide +kernel
theorem dX5_fail_10 : decode cX5_fail 10 = .ok (.putfield 31, 3) := by decide +kernel
theorem dX5_fail_13 : decode cX5_fail 13 = .ok (.return_, 1) := by decide +kernel
theorem dX5_readHeader_0 : decode cX5_readHeader 0 = .ok (.aload_n 0, 1) := by decide +kernel
theorem dX5_readHeader_1 : decode cX5_readHeader 1 = .ok (.aload_n 0, 1) := by decide +kernel
theorem dX5_readHeader_2 : decode cX5_readHeader 2 = .ok (.getfield 34, 3) := by decide +kernel
theorem dX5_readHeader_5 : decode cX5_readHeader 5 = .ok (.iconst 4, 1) := by decide +kernel
theorem dX5_readHeader_6 : decode cX5_readHeader 6 = .ok (.iadd, 1) := by decide +kernel
theorem dX5_readHeader_7 : decode cX5_readHeader 7 = .ok (.putfield 40, 3) := by decide +kernel
theorem dX5_readHeader_10 : decode cX5_readHeader 10 = .ok (.aload_n 0, 1) := by decide +kernel
theorem dX5_readHeader_11 : decode cX5_readHeader 11 = .ok (.getfield 40, 3) := by decide +kernel
theorem dX5_readHeader_14 : decode cX5_readHeader 14 = .ok (.aload_n 1, 1) := by decide +kernel
theorem dX5_readHeader_15 : decode cX5_readHeader 15 = .ok (.getfield 59, 3) := by decide +kernel
theorem dX5_readHeader_18 : decode cX5_readHeader 18 = .ok (.if_icmp .le 10, 3) := by decide +kernel
theorem dX5_readHeader_21 : decode cX5_readHeader 21 = .ok (.aload_n 0, 1) := by decide +kernel
theorem dX5_readHeader_22 : decode cX5_readHeader 22 = .ok (.bipush 12, 2) := by decide +kernel
theorem dX5_readHeader_24 : decode cX5_readHeader 24 = .ok (.invokevirtual 56, 3) := by decide +kernel
theorem dX5_readHeader_27 : decode cX5_readHeader 27 = .ok (.return_, 1) := by decide +kernel
theorem dX5_readHeader_28 : decode cX5_readHeader 28 = .ok (.aload_n 0, 1) := by decide +kernel
theorem dX5_readHeader_29 : decode cX5_readHeader 29 = .ok (.aload_n 1, 1) := by decide +kernel
theorem dX5_readHeader_30 : decode cX5_readHeader 30 = .ok (.aload_n 0, 1) := by decide +kernel
theorem dX5_readHeader_31 : decode cX5_readHeader 31 = .ok (.getfield 34, 3) := by decide +kernel
theorem dX5_readHeader_34 : decode cX5_readHeader 34 = .ok (.invokevirtual 52, 3) := by decide +kernel
theorem dX5_readHeader_37 : decode cX5_readHeader 37 = .ok (.putfield 37, 3) := by decide +kernel
theorem dX5_readHeader_40 : decode cX5_readHeader 40 = .ok (.aload_n 0, 1) := by decide +kernel
theorem dX5_readHeader_41 : decode cX5_readHeader 41 = .ok (.aload_n 1, 1) := by decide +kernel
theorem dX5_readHeader_42 : decode cX5_readHeader 42 = .ok (.aload_n 0, 1) := by decide +kernel
theorem dX5_readHeader_43 : decode cX5_readHeader 43 = .ok (.getfield 34, 3) := by decide +kernel
theorem dX5_readHeader_46 : decode cX5_readHeader 46 = .ok (.iconst 1, 1) := by decide +kernel
theorem dX5_readHeader_47 : decode cX5_readHeader 47 = .ok (.iadd, 1) := by decide +kernel
theorem dX5_readHeader_48 : decode cX5_readHeader 48 = .ok (.iconst 3, 1) := by decide +kernel
theorem dX5_readHeader_49 : decode cX5_readHeader 49 = .ok (.invokevirtual 80, 3) := by decide +kernel
theorem dX5_readHeader_52 : decode cX5_readHeader 52 = .ok (.l2i, 1) := by decide +kernel
theorem dX5_readHeader_53 : decode cX5_readHeader 53 = .ok (.putfield 43, 3) := by decide +kernel
theorem dX5_readHeader_56 : decode cX5_readHeader 56 = .ok (.aload_n 0, 1) := by decide +kernel
theorem dX5_readHeader_57 : decode cX5_readHeader 57 = .ok (.getfield 43, 3) := by decide +kernel
theorem dX5_readHeader_60 : decode cX5_readHeader 60 = .ok (.aload_n 1, 1) := by decide +kernel
theorem dX5_readHeader_61 : decode cX5_readHeader 61 = .ok (.getfield 59, 3) := by decide +kernel
theorem dX5_readHeader_64 : decode cX5_readHeader 64 = .ok (.aload_n 0, 1) := by decide +kernel
theorem dX5_readHeader_65 : decode cX5_readHeader 65 = .ok (.getfield 40, 3) := by decide +kernel
theorem dX5_readHeader_68 : decode cX5_readHeader 68 = .ok (.isub, 1) := by decide +kernel
theorem dX5_readHeader_69 : decode cX5_readHeader 69 = .ok (.if_icmp .le 9, 3) := by decide +kernel
theorem dX5_readHeader_72 : decode cX5_readHeader 72 = .ok (.aload_n 0, 1) := by decide +kernel
theorem dX5_readHeader_73 : decode cX5_readHeader 73 = .ok (.bipush 12, 2) := by decide +kernel
theorem dX5_readHeader_75 : decode cX5_readHeader 75 = .ok (.invokevirtual 56, 3) := by decide +kernel
theorem dX5_readHeader_78 : decode cX5_readHeader 78 = .ok (.return_, 1) := by decide +kernel
theorem dX5_tellsBytes_0 : decode cX5_tellsBytes 0 = .ok (.aload_n 0, 1) := by decide +kernel
theorem dX5_tellsBytes_1 : decode cX5_tellsBytes 1 = .ok (.getfield 37, 3) := by decide +kernel
theorem dX5_tellsBytes_4 : decode cX5_tellsBytes 4 = .ok (.ifCond .eq 11, 3) := by decide +kernel
theorem dX5_tellsBytes_7 : decode cX5_tellsBytes 7 = .ok (.aload_n 0, 1) := by decide +kernel
theorem dX5_tellsBytes_8 : decode cX5_tellsBytes 8 = .ok (.getfield 37, 3) := by decide +kernel
theorem dX5_tellsBytes_11 : decode cX5_tellsBytes 11 = .ok (.iconst 1, 1) := by decide +kernel
theorem dX5_tellsBytes_12 : decode cX5_tellsBytes 12 = .ok (.if_icmp .ne 7, 3) := by decide +kernel
theorem dX5_tellsBytes_15 : decode cX5_tellsBytes 15 = .ok (.iconst 1, 1) := by decide +kernel
theorem dX5_tellsBytes_16 : decode cX5_tellsBytes 16 = .ok (.goto 4, 3) := by decide +kernel
theorem dX5_tellsBytes_19 : decode cX5_tellsBytes 19 = .ok (.iconst 0, 1) := by decide +kernel
theorem dX5_tellsBytes_20 : decode cX5_tellsBytes 20 = .ok (.ireturn, 1) := by decide +kernel
theorem dX5_checkChunk_0 : decode cX5_checkChunk 0 = .ok (.aload_n 0, 1) := by decide +kernel
theorem dX5_checkChunk_1 : decode cX5_checkChunk 1 = .ok (.getfield 37, 3) := by decide +kernel
theorem dX5_checkChunk_4 : decode cX5_checkChunk 4 = .ok (.sipush 255, 3) := by decide +kernel
theorem dX5_checkChunk_7 : decode cX5_checkChunk 7 = .ok (.if_icmp .ne 20, 3) := by decide +kernel
theorem dX5_checkChunk_10 : decode cX5_checkChunk 10 = .ok (.aload_n 0, 1) := by decide +kernel
theorem dX5_checkChunk_11 : decode cX5_checkChunk 11 = .ok (.aload_n 1, 1) := by decide +kernel
theorem dX5_checkChunk_12 : decode cX5_checkChunk 12 = .ok (.invokevirtual 84, 3) := by decide +kernel
theorem dX5_checkChunk_15 : decode cX5_checkChunk 15 = .ok (.ifCond .ne 52, 3) := by decide +kernel
theorem dX5_checkChunk_18 : decode cX5_checkChunk 18 = .ok (.aload_n 0, 1) := by decide +kernel
theorem dX5_checkChunk_19 : decode cX5_checkChunk 19 = .ok (.bipush 13, 2) := by decide +kernel
theorem dX5_checkChunk_21 : decode cX5_checkChunk 21 = .ok (.invokevirtual 56, 3) := by decide +kernel
theorem dX5_checkChunk_24 : decode cX5_checkChunk 24 = .ok (.goto 43, 3) := by decide +kernel
theorem dX5_checkChunk_27 : decode cX5_checkChunk 27 = .ok (.aload_n 0, 1) := by decide +kernel
theorem dX5_checkChunk_28 : decode cX5_checkChunk 28 = .ok (.invokevirtual 69, 3) := by decide +kernel
theorem dX5_checkChunk_31 : decode cX5_checkChunk 31 = .ok (.ifCond .eq 20, 3) := by decide +kernel
theorem dX5_checkChunk_34 : decode cX5_checkChunk 34 = .ok (.aload_n 0, 1) := by decide +kernel
theorem dX5_checkChunk_35 : decode cX5_checkChunk 35 = .ok (.getfield 43, 3) := by decide +kernel
theorem dX5_checkChunk_38 : decode cX5_checkChunk 38 = .ok (.iconst 4, 1) := by decide +kernel
theorem dX5_checkChunk_39 : decode cX5_checkChunk 39 = .ok (.if_icmp .ge 28, 3) := by decide +kernel
theorem dX5_checkChunk_42 : decode cX5_checkChunk 42 = .ok (.aload_n 0, 1) := by decide +kernel
theorem dX5_checkChunk_43 : decode cX5_checkChunk 43 = .ok (.bipush 15, 2) := by decide +kernel
theorem dX5_checkChunk_45 : decode cX5_checkChunk 45 = .ok (.invokevirtual 56, 3) := by decide +kernel
theorem dX5_checkChunk_48 : decode cX5_checkChunk 48 = .ok (.goto 19, 3) := by decide +kernel
theorem dX5_checkChunk_51 : decode cX5_checkChunk 51 = .ok (.aload_n 0, 1) := by decide +kernel
theorem dX5_checkChunk_52 : decode cX5_checkChunk 52 = .ok (.getfield 37, 3) := by decide +kernel
theorem dX5_checkChunk_55 : decode cX5_checkChunk 55 = .ok (.sipush 128, 3) := by decide +kernel
theorem dX5_checkChunk_58 : decode cX5_checkChunk 58 = .ok (.if_icmp .ge 9, 3) := by decide +kernel
theorem dX5_checkChunk_61 : decode cX5_checkChunk 61 = .ok (.aload_n 0, 1) := by decide +kernel
theorem dX5_checkChunk_62 : decode cX5_checkChunk 62 = .ok (.bipush 14, 2) := by decide +kernel
theorem dX5_checkChunk_64 : decode cX5_checkChunk 64 = .ok (.invokevirtual 56, 3) := by decide +kernel
theorem dX5_checkChunk_67 : decode cX5_checkChunk 67 = .ok (.return_, 1) := by decide +kernel
theorem dX5_isName_0 : decode cX5_isName 0 = .ok (.aload_n 0, 1) := by decide +kernel
theorem dX5_isName_1 : decode cX5_isName 1 = .ok (.getfield 43, 3) := by decide +kernel
theorem dX5_isName_4 : decode cX5_isName 4 = .ok (.bipush 6, 2) := by decide +kernel
theorem dX5_isName_6 : decode cX5_isName 6 = .ok (.if_icmp .ne 7, 3) := by decide +kernel
theorem dX5_isName_9 : decode cX5_isName 9 = .ok (.iconst 1, 1) := by decide +kernel
theorem dX5_isName_10 : decode cX5_isName 10 = .ok (.goto 4, 3) := by decide +kernel
theorem dX5_isName_13 : decode cX5_isName 13 = .ok (.iconst 0, 1) := by decide +kernel
theorem dX5_isName_14 : decode cX5_isName 14 = .ok (.istore_n 2, 1) := by decide +kernel
theorem dX5_isName_15 : decode cX5_isName 15 = .ok (.aload_n 0, 1) := by decide +kernel
theorem dX5_isName_16 : decode cX5_isName 16 = .ok (.getfield 40, 3) := by decide +kernel
theorem dX5_isName_19 : decode cX5_isName 19 = .ok (.istore_n 3, 1) := by decide +kernel
theorem dX5_isName_20 : decode cX5_isName 20 = .ok (.getstatic 88, 3) := by decide +kernel
theorem dX5_isName_23 : decode cX5_isName 23 = .ok (.astore 4, 2) := by decide +kernel
theorem dX5_isName_25 : decode cX5_isName 25 = .ok (.aload 4, 2) := by decide +kernel
theorem dX5_isName_27 : decode cX5_isName 27 = .ok (.arraylength, 1) := by decide +kernel
theorem dX5_isName_28 : decode cX5_isName 28 = .ok (.istore 5, 2) := by decide +kernel
theorem dX5_isName_30 : decode cX5_isName 30 = .ok (.iconst 0, 1) := by decide +kernel
theorem dX5_isName_31 : decode cX5_isName 31 = .ok (.istore 6, 2) := by decide +kernel
theorem dX5_isName_33 : decode cX5_isName 33 = .ok (.iload 6, 2) := by decide +kernel
theorem dX5_isName_35 : decode cX5_isName 35 = .ok (.iload 5, 2) := by decide +kernel
theorem dX5_isName_37 : decode cX5_isName 37 = .ok (.if_icmp .ge 39, 3) := by decide +kernel
theorem dX5_isName_40 : decode cX5_isName 40 = .ok (.aload 4, 2) := by decide +kernel
theorem dX5_isName_42 : decode cX5_isName 42 = .ok (.iload 6, 2) := by decide +kernel
theorem dX5_isName_44 : decode cX5_isName 44 = .ok (.iaload, 1) := by decide +kernel
theorem dX5_isName_45 : decode cX5_isName 45 = .ok (.istore 7, 2) := by decide +kernel
theorem dX5_isName_47 : decode cX5_isName 47 = .ok (.iload_n 2, 1) := by decide +kernel
theorem dX5_isName_48 : decode cX5_isName 48 = .ok (.ifCond .eq 17, 3) := by decide +kernel
theorem dX5_isName_51 : decode cX5_isName 51 = .ok (.aload_n 1, 1) := by decide +kernel
theorem dX5_isName_52 : decode cX5_isName 52 = .ok (.iload_n 3, 1) := by decide +kernel
theorem dX5_isName_53 : decode cX5_isName 53 = .ok (.invokevirtual 52, 3) := by decide +kernel
theorem dX5_isName_56 : decode cX5_isName 56 = .ok (.iload 7, 2) := by decide +kernel
theorem dX5_isName_58 : decode cX5_isName 58 = .ok (.if_icmp .ne 7, 3) := by decide +kernel
theorem dX5_isName_61 : decode cX5_isName 61 = .ok (.iconst 1, 1) := by decide +kernel
theorem dX5_isName_62 : decode cX5_isName 62 = .ok (.goto 4, 3) := by decide +kernel
theorem dX5_isName_65 : decode cX5_isName 65 = .ok (.iconst 0, 1) := by decide +kernel
theorem dX5_isName_66 : decode cX5_isName 66 = .ok (.istore_n 2, 1) := by decide +kernel
theorem dX5_isName_67 : decode cX5_isName 67 = .ok (.iinc 3 1, 3) := by decide +kernel
theorem dX5_isName_70 : decode cX5_isName 70 = .ok (.iinc 6 1, 3) := by decide +kernel
theorem dX5_isName_73 : decode cX5_isName 73 = .ok (.goto (-40), 3) := by decide +kernel
theorem dX5_isName_76 : decode cX5_isName 76 = .ok (.iload_n 2, 1) := by decide +kernel
theorem dX5_isName_77 : decode cX5_isName 77 = .ok (.ireturn, 1) := by decide +kernel
theorem dX5_openBytes_0 : decode cX5_openBytes 0 = .ok (.aload_n 0, 1) := by decide +kernel
theorem dX5_openBytes_1 : decode cX5_openBytes 1 = .ok (.getfield 40, 3) := by decide +kernel
theorem dX5_openBytes_4 : decode cX5_openBytes 4 = .ok (.iconst 4, 1) := by decide +kernel
theorem dX5_openBytes_5 : decode cX5_openBytes 5 = .ok (.iadd, 1) := by decide +kernel
theorem dX5_openBytes_6 : decode cX5_openBytes 6 = .ok (.istore_n 3, 1) := by decide +kernel
theorem dX5_openBytes_7 : decode cX5_openBytes 7 = .ok (.aload_n 0, 1) := by decide +kernel
theorem dX5_openBytes_8 : decode cX5_openBytes 8 = .ok (.getfield 43, 3) := by decide +kernel
theorem dX5_openBytes_11 : decode cX5_openBytes 11 = .ok (.iconst 4, 1) := by decide +kernel
theorem dX5_openBytes_12 : decode cX5_openBytes 12 = .ok (.isub, 1) := by decide +kernel
theorem dX5_openBytes_13 : decode cX5_openBytes 13 = .ok (.istore 4, 2) := by decide +kernel
theorem dX5_openBytes_15 : decode cX5_openBytes 15 = .ok (.aload_n 0, 1) := by decide +kernel
theorem dX5_openBytes_16 : decode cX5_openBytes 16 = .ok (.getfield 37, 3) := by decide +kernel
theorem dX5_openBytes_19 : decode cX5_openBytes 19 = .ok (.iconst 1, 1) := by decide +kernel
theorem dX5_openBytes_20 : decode cX5_openBytes 20 = .ok (.if_icmp .ne 13, 3) := by decide +kernel
theorem dX5_openBytes_23 : decode cX5_openBytes 23 = .ok (.aload_n 0, 1) := by decide +kernel
theorem dX5_openBytes_24 : decode cX5_openBytes 24 = .ok (.aload_n 1, 1) := by decide +kernel
theorem dX5_openBytes_25 : decode cX5_openBytes 25 = .ok (.aload_n 1, 1) := by decide +kernel
theorem dX5_openBytes_26 : decode cX5_openBytes 26 = .ok (.iload_n 3, 1) := by decide +kernel
theorem dX5_openBytes_27 : decode cX5_openBytes 27 = .ok (.iload 4, 2) := by decide +kernel
theorem dX5_openBytes_29 : decode cX5_openBytes 29 = .ok (.invokevirtual 92, 3) := by decide +kernel
theorem dX5_openBytes_32 : decode cX5_openBytes 32 = .ok (.return_, 1) := by decide +kernel
theorem dX5_openBytes_33 : decode cX5_openBytes 33 = .ok (.aload_n 2, 1) := by decide +kernel
theorem dX5_openBytes_34 : decode cX5_openBytes 34 = .ok (.aload_n 1, 1) := by decide +kernel
theorem dX5_openBytes_35 : decode cX5_openBytes 35 = .ok (.iload_n 3, 1) := by decide +kernel
theorem dX5_openBytes_36 : decode cX5_openBytes 36 = .ok (.iload 4, 2) := by decide +kernel
theorem dX5_openBytes_38 : decode cX5_openBytes 38 = .ok (.invokevirtual 96, 3) := by decide +kernel
theorem dX5_openBytes_41 : decode cX5_openBytes 41 = .ok (.aload_n 2, 1) := by decide +kernel
theorem dX5_openBytes_42 : decode cX5_openBytes 42 = .ok (.getfield 102, 3) := by decide +kernel
theorem dX5_openBytes_45 : decode cX5_openBytes 45 = .ok (.ifCond .eq 12, 3) := by decide +kernel
theorem dX5_openBytes_48 : decode cX5_openBytes 48 = .ok (.aload_n 0, 1) := by decide +kernel
theorem dX5_openBytes_49 : decode cX5_openBytes 49 = .ok (.bipush 16, 2) := by decide +kernel
theorem dX5_openBytes_51 : decode cX5_openBytes 51 = .ok (.invokevirtual 56, 3) := by decide +kernel
theorem dX5_openBytes_54 : decode cX5_openBytes 54 = .ok (.goto 20, 3) := by decide +kernel
theorem dX5_openBytes_57 : decode cX5_openBytes 57 = .ok (.aload_n 0, 1) := by decide +kernel
theorem dX5_openBytes_58 : decode cX5_openBytes 58 = .ok (.aload_n 1, 1) := by decide +kernel
theorem dX5_openBytes_59 : decode cX5_openBytes 59 = .ok (.aload_n 2, 1) := by decide +kernel
theorem dX5_openBytes_60 : decode cX5_openBytes 60 = .ok (.getfield 103, 3) := by decide +kernel
theorem dX5_openBytes_63 : decode cX5_openBytes 63 = .ok (.iconst 0, 1) := by decide +kernel
theorem dX5_openBytes_64 : decode cX5_openBytes 64 = .ok (.aload_n 2, 1) := by decide +kernel
theorem dX5_openBytes_65 : decode cX5_openBytes 65 = .ok (.getfield 103, 3) := by decide +kernel
theorem dX5_openBytes_68 : decode cX5_openBytes 68 = .ok (.getfield 59, 3) := by decide +kernel
theorem dX5_openBytes_71 : decode cX5_openBytes 71 = .ok (.invokevirtual 92, 3) := by decide +kernel
theorem dX5_openBytes_74 : decode cX5_openBytes 74 = .ok (.return_, 1) := by decide +kernel
theorem dX5_give_0 : decode cX5_give 0 = .ok (.aload_n 0, 1) := by decide +kernel
theorem dX5_give_1 : decode cX5_give 1 = .ok (.getfield 14, 3) := by decide +kernel
theorem dX5_give_4 : decode cX5_give 4 = .ok (.iload 4, 2) := by decide +kernel
theorem dX5_give_6 : decode cX5_give 6 = .ok (.invokevirtual 104, 3) := by decide +kernel
theorem dX5_give_9 : decode cX5_give 9 = .ok (.ifCond .ne 12, 3) := by decide +kernel
theorem dX5_give_12 : decode cX5_give 12 = .ok (.aload_n 0, 1) := by decide +kernel
theorem dX5_give_13 : decode cX5_give 13 = .ok (.bipush 17, 2) := by decide +kernel
theorem dX5_give_15 : decode cX5_give 15 = .ok (.invokevirtual 56, 3) := by decide +kernel
theorem dX5_give_18 : decode cX5_give 18 = .ok (.goto 43, 3) := by decide +kernel
theorem dX5_give_21 : decode cX5_give 21 = .ok (.aload_n 1, 1) := by decide +kernel
theorem dX5_give_22 : decode cX5_give 22 = .ok (.aload_n 0, 1) := by decide +kernel
theorem dX5_give_23 : decode cX5_give 23 = .ok (.getfield 40, 3) := by decide +kernel
theorem dX5_give_26 : decode cX5_give 26 = .ok (.iconst 4, 1) := by decide +kernel
theorem dX5_give_27 : decode cX5_give 27 = .ok (.invokevirtual 80, 3) := by decide +kernel
theorem dX5_give_30 : decode cX5_give 30 = .ok (.l2i, 1) := by decide +kernel
theorem dX5_give_31 : decode cX5_give 31 = .ok (.aload_n 2, 1) := by decide +kernel
theorem dX5_give_32 : decode cX5_give 32 = .ok (.iload_n 3, 1) := by decide +kernel
theorem dX5_give_33 : decode cX5_give 33 = .ok (.iload 4, 2) := by decide +kernel
theorem dX5_give_35 : decode cX5_give 35 = .ok (.invokevirtual 108, 3) := by decide +kernel
theorem dX5_give_38 : decode cX5_give 38 = .ok (.if_icmp .eq 12, 3) := by decide +kernel
theorem dX5_give_41 : decode cX5_give 41 = .ok (.aload_n 0, 1) := by decide +kernel
theorem dX5_give_42 : decode cX5_give 42 = .ok (.bipush 18, 2) := by decide +kernel
theorem dX5_give_44 : decode cX5_give 44 = .ok (.invokevirtual 56, 3) := by decide +kernel
theorem dX5_give_47 : decode cX5_give 47 = .ok (.goto 14, 3) := by decide +kernel
theorem dX5_give_50 : decode cX5_give 50 = .ok (.aload_n 0, 1) := by decide +kernel
theorem dX5_give_51 : decode cX5_give 51 = .ok (.getfield 14, 3) := by decide +kernel
theorem dX5_give_54 : decode cX5_give 54 = .ok (.aload_n 2, 1) := by decide +kernel
theorem dX5_give_55 : decode cX5_give 55 = .ok (.iload_n 3, 1) := by decide +kernel
theorem dX5_give_56 : decode cX5_give 56 = .ok (.iload 4, 2) := by decide +kernel
theorem dX5_give_58 : decode cX5_give 58 = .ok (.invokevirtual 112, 3) := by decide +kernel
theorem dX5_give_61 : decode cX5_give 61 = .ok (.return_, 1) := by decide +kernel
theorem dX5_keepChunk_0 : decode cX5_keepChunk 0 = .ok (.aload_n 0, 1) := by decide +kernel
theorem dX5_keepChunk_1 : decode cX5_keepChunk 1 = .ok (.getfield 37, 3) := by decide +kernel
theorem dX5_keepChunk_4 : decode cX5_keepChunk 4 = .ok (.sipush 128, 3) := by decide +kernel
theorem dX5_keepChunk_7 : decode cX5_keepChunk 7 = .ok (.if_icmp .lt 17, 3) := by decide +kernel
theorem dX5_keepChunk_10 : decode cX5_keepChunk 10 = .ok (.aload_n 0, 1) := by decide +kernel
theorem dX5_keepChunk_11 : decode cX5_keepChunk 11 = .ok (.getfield 37, 3) := by decide +kernel
theorem dX5_keepChunk_14 : decode cX5_keepChunk 14 = .ok (.sipush 255, 3) := by decide +kernel
theorem dX5_keepChunk_17 : decode cX5_keepChunk 17 = .ok (.if_icmp .ge 7, 3) := by decide +kernel
theorem dX5_keepChunk_20 : decode cX5_keepChunk 20 = .ok (.iconst 1, 1) := by decide +kernel
theorem dX5_keepChunk_21 : decode cX5_keepChunk 21 = .ok (.goto 4, 3) := by decide +kernel
theorem dX5_keepChunk_24 : decode cX5_keepChunk 24 = .ok (.iconst 0, 1) := by decide +kernel
theorem dX5_keepChunk_25 : decode cX5_keepChunk 25 = .ok (.istore_n 2, 1) := by decide +kernel
theorem dX5_keepChunk_26 : decode cX5_keepChunk 26 = .ok (.aload_n 0, 1) := by decide +kernel
theorem dX5_keepChunk_27 : decode cX5_keepChunk 27 = .ok (.getfield 23, 3) := by decide +kernel
theorem dX5_keepChunk_30 : decode cX5_keepChunk 30 = .ok (.aload_n 0, 1) := by decide +kernel
theorem dX5_keepChunk_31 : decode cX5_keepChunk 31 = .ok (.getfield 37, 3) := by decide +kernel
theorem dX5_keepChunk_34 : decode cX5_keepChunk 34 = .ok (.aload_n 0, 1) := by decide +kernel
theorem dX5_keepChunk_35 : decode cX5_keepChunk 35 = .ok (.getfield 34, 3) := by decide +kernel
theorem dX5_keepChunk_38 : decode cX5_keepChunk 38 = .ok (.aload_n 0, 1) := by decide +kernel
theorem dX5_keepChunk_39 : decode cX5_keepChunk 39 = .ok (.getfield 43, 3) := by decide +kernel
theorem dX5_keepChunk_42 : decode cX5_keepChunk 42 = .ok (.aload_n 0, 1) := by decide +kernel
theorem dX5_keepChunk_43 : decode cX5_keepChunk 43 = .ok (.getfield 14, 3) := by decide +kernel
theorem dX5_keepChunk_46 : decode cX5_keepChunk 46 = .ok (.getfield 59, 3) := by decide +kernel
theorem dX5_keepChunk_49 : decode cX5_keepChunk 49 = .ok (.iload_n 1, 1) := by decide +kernel
theorem dX5_keepChunk_50 : decode cX5_keepChunk 50 = .ok (.isub, 1) := by decide +kernel
theorem dX5_keepChunk_51 : decode cX5_keepChunk 51 = .ok (.iload_n 1, 1) := by decide +kernel
theorem dX5_keepChunk_52 : decode cX5_keepChunk 52 = .ok (.iload_n 2, 1) := by decide +kernel
theorem dX5_keepChunk_53 : decode cX5_keepChunk 53 = .ok (.invokevirtual 115, 3) := by decide +kernel
theorem dX5_keepChunk_56 : decode cX5_keepChunk 56 = .ok (.aload_n 0, 1) := by decide +kernel
theorem dX5_keepChunk_57 : decode cX5_keepChunk 57 = .ok (.aload_n 0, 1) := by decide +kernel
theorem dX5_keepChunk_58 : decode cX5_keepChunk 58 = .ok (.getfield 40, 3) := by decide +kernel
theorem dX5_keepChunk_61 : decode cX5_keepChunk 61 = .ok (.aload_n 0, 1) := by decide +kernel
theorem dX5_keepChunk_62 : decode cX5_keepChunk 62 = .ok (.getfield 43, 3) := by decide +kernel
theorem dX5_keepChunk_65 : decode cX5_keepChunk 65 = .ok (.iadd, 1) := by decide +kernel
theorem dX5_keepChunk_66 : decode cX5_keepChunk 66 = .ok (.putfield 34, 3) := by decide +kernel
theorem dX5_keepChunk_69 : decode cX5_keepChunk 69 = .ok (.return_, 1) := by decide +kernel
theorem dX6_init_0 : decode cX6_init 0 = .ok (.aload_n 0, 1) := by decide +kernel
theorem dX6_init_1 : decode cX6_init 1 = .ok (.invokespecial 1, 3) := by decide +kernel
theorem dX6_init_4 : decode cX6_init 4 = .ok (.aload_n 0, 1) := by decide +kernel
theorem dX6_init_5 : decode cX6_init 5 = .ok (.new 7, 3) := by decide +kernel
theorem dX6_init_8 : decode cX6_init 8 = .ok (.dup, 1) := by decide +kernel
theorem dX6_init_9 : decode cX6_init 9 = .ok (.sipush 20000, 3) := by decide +kernel
theorem dX6_init_12 : decode cX6_init 12 = .ok (.invokespecial 11, 3) := by decide +kernel
theorem dX6_init_15 : decode cX6_init 15 = .ok (.putfield 14, 3) := by decide +kernel
theorem dX6_init_18 : decode cX6_init 18 = .ok (.aload_n 0, 1) := by decide +kernel
theorem dX6_init_19 : decode cX6_init 19 = .ok (.new 7, 3) := by decide +kernel
theorem dX6_init_22 : decode cX6_init 22 = .ok (.dup, 1) := by decide +kernel
theorem dX6_init_23 : decode cX6_init 23 = .ok (.sipush 24000, 3) := by decide +kernel
theorem dX6_init_26 : decode cX6_init 26 = .ok (.invokespecial 11, 3) := by decide +kernel
theorem dX6_init_29 : decode cX6_init 29 = .ok (.putfield 18, 3) := by decide +kernel
theorem dX6_init_32 : decode cX6_init 32 = .ok (.aload_n 0, 1) := by decide +kernel
theorem dX6_init_33 : decode cX6_init 33 = .ok (.new 21, 3) := by decide +kernel
theorem dX6_init_36 : decode cX6_init 36 = .ok (.dup, 1) := by decide +kernel
theorem dX6_init_37 : decode cX6_init 37 = .ok (.invokespecial 23, 3) := by decide +kernel
theorem dX6_init_40 : decode cX6_init 40 = .ok (.putfield 24, 3) := by decide +kernel
theorem dX6_init_43 : decode cX6_init 43 = .ok (.aload_n 0, 1) := by decide +kernel
theorem dX6_init_44 : decode cX6_init 44 = .ok (.new 28, 3) := by decide +kernel
theorem dX6_init_47 : decode cX6_init 47 = .ok (.dup, 1) := by decide +kernel
theorem dX6_init_48 : decode cX6_init 48 = .ok (.invokespecial 30, 3) := by decide +kernel
theorem dX6_init_51 : decode cX6_init 51 = .ok (.putfield 31, 3) := by decide +kernel
theorem dX6_init_54 : decode cX6_init 54 = .ok (.aload_n 0, 1) := by decide +kernel
theorem dX6_init_55 : decode cX6_init 55 = .ok (.new 35, 3) := by decide +kernel
theorem dX6_init_58 : decode cX6_init 58 = .ok (.dup, 1) := by decide +kernel
theorem dX6_init_59 : decode cX6_init 59 = .ok (.invokespecial 37, 3) := by decide +kernel
theorem dX6_init_62 : decode cX6_init 62 = .ok (.putfield 38, 3) := by decide +kernel
theorem dX6_init_65 : decode cX6_init 65 = .ok (.aload_n 0, 1) := by decide +kernel
theorem dX6_init_66 : decode cX6_init 66 = .ok (.new 42, 3) := by decide +kernel
theorem dX6_init_69 : decode cX6_init 69 = .ok (.dup, 1) := by decide +kernel
theorem dX6_init_70 : decode cX6_init 70 = .ok (.invokespecial 44, 3) := by decide +kernel
theorem dX6_init_73 : decode cX6_init 73 = .ok (.putfield 45, 3) := by decide +kernel
theorem dX6_init_76 : decode cX6_init 76 = .ok (.aload_n 0, 1) := by decide +kernel
theorem dX6_init_77 : decode cX6_init 77 = .ok (.new 49, 3) := by decide +kernel
theorem dX6_init_80 : decode cX6_init 80 = .ok (.dup, 1) := by decide +kernel
theorem dX6_init_81 : decode cX6_init 81 = .ok (.invokespecial 51, 3) := by decide +kernel
theorem dX6_init_84 : decode cX6_init 84 = .ok (.putfield 52, 3) := by decide +kernel
theorem dX6_init_87 : decode cX6_init 87 = .ok (.aload_n 0, 1) := by decide +kernel
theorem dX6_init_88 : decode cX6_init 88 = .ok (.new 49, 3) := by decide +kernel
theorem dX6_init_91 : decode cX6_init 91 = .ok (.dup, 1) := by decide +kernel
theorem dX6_init_92 : decode cX6_init 92 = .ok (.invokespecial 51, 3) := by decide +kernel
theorem dX6_init_95 : decode cX6_init 95 = .ok (.putfield 56, 3) := by decide +kernel
theorem dX6_init_98 : decode cX6_init 98 = .ok (.aload_n 0, 1) := by decide +kernel
theorem dX6_init_99 : decode cX6_init 99 = .ok (.iconst (-1), 1) := by decide +kernel
theorem dX6_init_100 : decode cX6_init 100 = .ok (.putfield 59, 3) := by decide +kernel
theorem dX6_init_103 : decode cX6_init 103 = .ok (.aload_n 0, 1) := by decide +kernel
theorem dX6_init_104 : decode cX6_init 104 = .ok (.iconst (-1), 1) := by decide +kernel
theorem dX6_init_105 : decode cX6_init 105 = .ok (.putfield 63, 3) := by decide +kernel
theorem dX6_init_108 : decode cX6_init 108 = .ok (.aload_n 0, 1) := by decide +kernel
theorem dX6_init_109 : decode cX6_init 109 = .ok (.iconst (-1), 1) := by decide +kernel
theorem dX6_init_110 : decode cX6_init 110 = .ok (.putfield 66, 3) := by decide +kernel
theorem dX6_init_113 : decode cX6_init 113 = .ok (.aload_n 0, 1) := by decide +kernel
theorem dX6_init_114 : decode cX6_init 114 = .ok (.iconst (-1), 1) := by decide +kernel
theorem dX6_init_115 : decode cX6_init 115 = .ok (.putfield 69, 3) := by decide +kernel
theorem dX6_init_118 : decode cX6_init 118 = .ok (.return_, 1) := by decide +kernel
theorem dX6_feed_0 : decode cX6_feed 0 = .ok (.aload_n 0, 1) := by decide +kernel
theorem dX6_feed_1 : decode cX6_feed 1 = .ok (.getfield 14, 3) := by decide +kernel
theorem dX6_feed_4 : decode cX6_feed 4 = .ok (.bipush 20, 2) := by decide +kernel
theorem dX6_feed_6 : decode cX6_feed 6 = .ok (.invokevirtual 72, 3) := by decide +kernel
theorem dX6_feed_9 : decode cX6_feed 9 = .ok (.ifCond .ne 5, 3) := by decide +kernel
theorem dX6_feed_12 : decode cX6_feed 12 = .ok (.iconst (-1), 1) := by decide +kernel
theorem dX6_feed_13 : decode cX6_feed 13 = .ok (.ireturn, 1) := by decide +kernel
theorem dX6_feed_14 : decode cX6_feed 14 = .ok (.aload_n 0, 1) := by decide +kernel
theorem dX6_feed_15 : decode cX6_feed 15 = .ok (.getfield 14, 3) := by decide +kernel
theorem dX6_feed_18 : decode cX6_feed 18 = .ok (.iload_n 1, 1) := by decide +kernel
theorem dX6_feed_19 : decode cX6_feed 19 = .ok (.invokevirtual 76, 3) := by decide +kernel
theorem dX6_feed_22 : decode cX6_feed 22 = .ok (.aload_n 0, 1) := by decide +kernel
theorem dX6_feed_23 : decode cX6_feed 23 = .ok (.getfield 14, 3) := by decide +kernel
theorem dX6_feed_26 : decode cX6_feed 26 = .ok (.iload_n 2, 1) := by decide +kernel
theorem dX6_feed_27 : decode cX6_feed 27 = .ok (.invokevirtual 76, 3) := by decide +kernel
theorem dX6_feed_30 : decode cX6_feed 30 = .ok (.aload_n 0, 1) := by decide +kernel
end
section
theorem dX6_feed_31 : decode cX6_feed 31 = .ok (.getfield 14, 3) := by decide +kernel
theorem dX6_feed_34 : decode cX6_feed 34 = .ok (.iload_n 3, 1) := by decide +kernel
theorem dX6_feed_35 : decode cX6_feed 35 = .ok (.invokevirtual 76, 3) := by decide +kernel
theorem dX6_feed_38 : decode cX6_feed 38 = .ok (.aload_n 0, 1) := by decide +kernel
theorem dX6_feed_39 : decode cX6_feed 39 = .ok (.getfield 14, 3) := by decide +kernel
theorem dX6_feed_42 : decode cX6_feed 42 = .ok (.iload 4, 2) := by decide +kernel
theorem dX6_feed_44 : decode cX6_feed 44 = .ok (.invokevirtual 76, 3) := by decide +kernel
theorem dX6_feed_47 : decode cX6_feed 47 = .ok (.aload_n 0, 1) := by decide +kernel
theorem dX6_feed_48 : decode cX6_feed 48 = .ok (.getfield 14, 3) := by decide +kernel
theorem dX6_feed_51 : decode cX6_feed 51 = .ok (.iload 5, 2) := by decide +kernel
theorem dX6_feed_53 : decode cX6_feed 53 = .ok (.invokevirtual 76, 3) := by decide +kernel
theorem dX6_feed_56 : decode cX6_feed 56 = .ok (.aload_n 0, 1) := by decide +kernel
theorem dX6_feed_57 : decode cX6_feed 57 = .ok (.getfield 14, 3) := by decide +kernel
theorem dX6_feed_60 : decode cX6_feed 60 = .ok (.getfield 79, 3) := by decide +kernel
theorem dX6_feed_63 : decode cX6_feed 63 = .ok (.ireturn, 1) := by decide +kernel
theorem dX6_fill_0 : decode cX6_fill 0 = .ok (.iload_n 1, 1) := by decide +kernel
theorem dX6_fill_1 : decode cX6_fill 1 = .ok (.invokestatic 82, 3) := by decide +kernel
theorem dX6_fill_4 : decode cX6_fill 4 = .ok (.ifCond .eq 14, 3) := by decide +kernel
theorem dX6_fill_7 : decode cX6_fill 7 = .ok (.aload_n 0, 1) := by decide +kernel
theorem dX6_fill_8 : decode cX6_fill 8 = .ok (.getfield 14, 3) := by decide +kernel
theorem dX6_fill_11 : decode cX6_fill 11 = .ok (.iload_n 2, 1) := by decide +kernel
theorem dX6_fill_12 : decode cX6_fill 12 = .ok (.invokevirtual 72, 3) := by decide +kernel
theorem dX6_fill_15 : decode cX6_fill 15 = .ok (.ifCond .ne 5, 3) := by decide +kernel
theorem dX6_fill_18 : decode cX6_fill 18 = .ok (.iconst (-1), 1) := by decide +kernel
theorem dX6_fill_19 : decode cX6_fill 19 = .ok (.ireturn, 1) := by decide +kernel
theorem dX6_fill_20 : decode cX6_fill 20 = .ok (.iconst 0, 1) := by decide +kernel
theorem dX6_fill_21 : decode cX6_fill 21 = .ok (.istore_n 3, 1) := by decide +kernel
theorem dX6_fill_22 : decode cX6_fill 22 = .ok (.iload_n 3, 1) := by decide +kernel
theorem dX6_fill_23 : decode cX6_fill 23 = .ok (.iload_n 2, 1) := by decide +kernel
theorem dX6_fill_24 : decode cX6_fill 24 = .ok (.if_icmp .ge 17, 3) := by decide +kernel
theorem dX6_fill_27 : decode cX6_fill 27 = .ok (.aload_n 0, 1) := by decide +kernel
theorem dX6_fill_28 : decode cX6_fill 28 = .ok (.getfield 14, 3) := by decide +kernel
theorem dX6_fill_31 : decode cX6_fill 31 = .ok (.iload_n 1, 1) := by decide +kernel
theorem dX6_fill_32 : decode cX6_fill 32 = .ok (.invokevirtual 85, 3) := by decide +kernel
theorem dX6_fill_35 : decode cX6_fill 35 = .ok (.iinc 3 1, 3) := by decide +kernel
theorem dX6_fill_38 : decode cX6_fill 38 = .ok (.goto (-16), 3) := by decide +kernel
theorem dX6_fill_41 : decode cX6_fill 41 = .ok (.aload_n 0, 1) := by decide +kernel
theorem dX6_fill_42 : decode cX6_fill 42 = .ok (.getfield 14, 3) := by decide +kernel
theorem dX6_fill_45 : decode cX6_fill 45 = .ok (.getfield 79, 3) := by decide +kernel
theorem dX6_fill_48 : decode cX6_fill 48 = .ok (.ireturn, 1) := by decide +kernel
theorem dX6_again_0 : decode cX6_again 0 = .ok (.aload_n 0, 1) := by decide +kernel
theorem dX6_again_1 : decode cX6_again 1 = .ok (.getfield 14, 3) := by decide +kernel
theorem dX6_again_4 : decode cX6_again 4 = .ok (.iload_n 1, 1) := by decide +kernel
theorem dX6_again_5 : decode cX6_again 5 = .ok (.invokevirtual 88, 3) := by decide +kernel
theorem dX6_again_8 : decode cX6_again 8 = .ok (.ifCond .eq 14, 3) := by decide +kernel
theorem dX6_again_11 : decode cX6_again 11 = .ok (.aload_n 0, 1) := by decide +kernel
theorem dX6_again_12 : decode cX6_again 12 = .ok (.getfield 14, 3) := by decide +kernel
theorem dX6_again_15 : decode cX6_again 15 = .ok (.iload_n 2, 1) := by decide +kernel
theorem dX6_again_16 : decode cX6_again 16 = .ok (.invokevirtual 72, 3) := by decide +kernel
theorem dX6_again_19 : decode cX6_again 19 = .ok (.ifCond .ne 5, 3) := by decide +kernel
theorem dX6_again_22 : decode cX6_again 22 = .ok (.iconst (-1), 1) := by decide +kernel
theorem dX6_again_23 : decode cX6_again 23 = .ok (.ireturn, 1) := by decide +kernel
theorem dX6_again_24 : decode cX6_again 24 = .ok (.aload_n 0, 1) := by decide +kernel
theorem dX6_again_25 : decode cX6_again 25 = .ok (.getfield 14, 3) := by decide +kernel
theorem dX6_again_28 : decode cX6_again 28 = .ok (.iload_n 1, 1) := by decide +kernel
theorem dX6_again_29 : decode cX6_again 29 = .ok (.iload_n 2, 1) := by decide +kernel
theorem dX6_again_30 : decode cX6_again 30 = .ok (.invokevirtual 91, 3) := by decide +kernel
theorem dX6_again_33 : decode cX6_again 33 = .ok (.aload_n 0, 1) := by decide +kernel
theorem dX6_again_34 : decode cX6_again 34 = .ok (.getfield 14, 3) := by decide +kernel
theorem dX6_again_37 : decode cX6_again 37 = .ok (.getfield 79, 3) := by decide +kernel
theorem dX6_again_40 : decode cX6_again 40 = .ok (.ireturn, 1) := by decide +kernel
theorem dX6_cut_0 : decode cX6_cut 0 = .ok (.aload_n 0, 1) := by decide +kernel
theorem dX6_cut_1 : decode cX6_cut 1 = .ok (.getfield 14, 3) := by decide +kernel
theorem dX6_cut_4 : decode cX6_cut 4 = .ok (.iconst 0, 1) := by decide +kernel
theorem dX6_cut_5 : decode cX6_cut 5 = .ok (.iload_n 1, 1) := by decide +kernel
theorem dX6_cut_6 : decode cX6_cut 6 = .ok (.invokevirtual 95, 3) := by decide +kernel
theorem dX6_cut_9 : decode cX6_cut 9 = .ok (.ifCond .ne 5, 3) := by decide +kernel
theorem dX6_cut_12 : decode cX6_cut 12 = .ok (.iconst (-1), 1) := by decide +kernel
theorem dX6_cut_13 : decode cX6_cut 13 = .ok (.ireturn, 1) := by decide +kernel
theorem dX6_cut_14 : decode cX6_cut 14 = .ok (.aload_n 0, 1) := by decide +kernel
theorem dX6_cut_15 : decode cX6_cut 15 = .ok (.getfield 14, 3) := by decide +kernel
theorem dX6_cut_18 : decode cX6_cut 18 = .ok (.iload_n 1, 1) := by decide +kernel
theorem dX6_cut_19 : decode cX6_cut 19 = .ok (.invokevirtual 99, 3) := by decide +kernel
theorem dX6_cut_22 : decode cX6_cut 22 = .ok (.iload_n 1, 1) := by decide +kernel
theorem dX6_cut_23 : decode cX6_cut 23 = .ok (.ireturn, 1) := by decide +kernel
theorem dX6_set_0 : decode cX6_set 0 = .ok (.aload_n 0, 1) := by decide +kernel
theorem dX6_set_1 : decode cX6_set 1 = .ok (.getfield 14, 3) := by decide +kernel
theorem dX6_set_4 : decode cX6_set 4 = .ok (.iload_n 1, 1) := by decide +kernel
theorem dX6_set_5 : decode cX6_set 5 = .ok (.invokevirtual 88, 3) := by decide +kernel
theorem dX6_set_8 : decode cX6_set 8 = .ok (.ifCond .eq 10, 3) := by decide +kernel
theorem dX6_set_11 : decode cX6_set 11 = .ok (.iload_n 2, 1) := by decide +kernel
theorem dX6_set_12 : decode cX6_set 12 = .ok (.invokestatic 82, 3) := by decide +kernel
theorem dX6_set_15 : decode cX6_set 15 = .ok (.ifCond .ne 5, 3) := by decide +kernel
theorem dX6_set_18 : decode cX6_set 18 = .ok (.iconst (-1), 1) := by decide +kernel
theorem dX6_set_19 : decode cX6_set 19 = .ok (.ireturn, 1) := by decide +kernel
theorem dX6_set_20 : decode cX6_set 20 = .ok (.aload_n 0, 1) := by decide +kernel
theorem dX6_set_21 : decode cX6_set 21 = .ok (.getfield 14, 3) := by decide +kernel
theorem dX6_set_24 : decode cX6_set 24 = .ok (.iload_n 1, 1) := by decide +kernel
theorem dX6_set_25 : decode cX6_set 25 = .ok (.invokevirtual 102, 3) := by decide +kernel
theorem dX6_set_28 : decode cX6_set 28 = .ok (.istore_n 3, 1) := by decide +kernel
theorem dX6_set_29 : decode cX6_set 29 = .ok (.aload_n 0, 1) := by decide +kernel
theorem dX6_set_30 : decode cX6_set 30 = .ok (.getfield 14, 3) := by decide +kernel
theorem dX6_set_33 : decode cX6_set 33 = .ok (.iload_n 1, 1) := by decide +kernel
theorem dX6_set_34 : decode cX6_set 34 = .ok (.iload_n 2, 1) := by decide +kernel
theorem dX6_set_35 : decode cX6_set 35 = .ok (.invokevirtual 106, 3) := by decide +kernel
theorem dX6_set_38 : decode cX6_set 38 = .ok (.iload_n 3, 1) := by decide +kernel
theorem dX6_set_39 : decode cX6_set 39 = .ok (.ireturn, 1) := by decide +kernel
theorem dX6_take_0 : decode cX6_take 0 = .ok (.aload_n 0, 1) := by decide +kernel
theorem dX6_take_1 : decode cX6_take 1 = .ok (.getfield 18, 3) := by decide +kernel
theorem dX6_take_4 : decode cX6_take 4 = .ok (.getfield 79, 3) := by decide +kernel
theorem dX6_take_7 : decode cX6_take 7 = .ok (.sipush 20000, 3) := by decide +kernel
theorem dX6_take_10 : decode cX6_take 10 = .ok (.if_icmp .le 5, 3) := by decide +kernel
theorem dX6_take_13 : decode cX6_take 13 = .ok (.iconst (-1), 1) := by decide +kernel
theorem dX6_take_14 : decode cX6_take 14 = .ok (.ireturn, 1) := by decide +kernel
theorem dX6_take_15 : decode cX6_take 15 = .ok (.aload_n 0, 1) := by decide +kernel
theorem dX6_take_16 : decode cX6_take 16 = .ok (.getfield 14, 3) := by decide +kernel
theorem dX6_take_19 : decode cX6_take 19 = .ok (.aload_n 0, 1) := by decide +kernel
theorem dX6_take_20 : decode cX6_take 20 = .ok (.getfield 18, 3) := by decide +kernel
theorem dX6_take_23 : decode cX6_take 23 = .ok (.invokevirtual 109, 3) := by decide +kernel
theorem dX6_take_26 : decode cX6_take 26 = .ok (.aload_n 0, 1) := by decide +kernel
theorem dX6_take_27 : decode cX6_take 27 = .ok (.getfield 14, 3) := by decide +kernel
theorem dX6_take_30 : decode cX6_take 30 = .ok (.getfield 79, 3) := by decide +kernel
theorem dX6_take_33 : decode cX6_take 33 = .ok (.ireturn, 1) := by decide +kernel
theorem dX6_tape_0 : decode cX6_tape 0 = .ok (.aload_n 0, 1) := by decide +kernel
theorem dX6_tape_1 : decode cX6_tape 1 = .ok (.getfield 14, 3) := by decide +kernel
theorem dX6_tape_4 : decode cX6_tape 4 = .ok (.iload_n 1, 1) := by decide +kernel
theorem dX6_tape_5 : decode cX6_tape 5 = .ok (.invokevirtual 102, 3) := by decide +kernel
theorem dX6_tape_8 : decode cX6_tape 8 = .ok (.ireturn, 1) := by decide +kernel
theorem dX6_press_0 : decode cX6_press 0 = .ok (.aload_n 0, 1) := by decide +kernel
theorem dX6_press_1 : decode cX6_press 1 = .ok (.getfield 24, 3) := by decide +kernel
theorem dX6_press_4 : decode cX6_press 4 = .ok (.aload_n 0, 1) := by decide +kernel
theorem dX6_press_5 : decode cX6_press 5 = .ok (.getfield 14, 3) := by decide +kernel
theorem dX6_press_8 : decode cX6_press 8 = .ok (.iconst 0, 1) := by decide +kernel
theorem dX6_press_9 : decode cX6_press 9 = .ok (.aload_n 0, 1) := by decide +kernel
theorem dX6_press_10 : decode cX6_press 10 = .ok (.getfield 14, 3) := by decide +kernel
theorem dX6_press_13 : decode cX6_press 13 = .ok (.getfield 79, 3) := by decide +kernel
theorem dX6_press_16 : decode cX6_press 16 = .ok (.invokevirtual 113, 3) := by decide +kernel
theorem dX6_press_19 : decode cX6_press 19 = .ok (.aload_n 0, 1) := by decide +kernel
theorem dX6_press_20 : decode cX6_press 20 = .ok (.getfield 18, 3) := by decide +kernel
theorem dX6_press_23 : decode cX6_press 23 = .ok (.aload_n 0, 1) := by decide +kernel
theorem dX6_press_24 : decode cX6_press 24 = .ok (.getfield 24, 3) := by decide +kernel
theorem dX6_press_27 : decode cX6_press 27 = .ok (.getfield 117, 3) := by decide +kernel
theorem dX6_press_30 : decode cX6_press 30 = .ok (.invokevirtual 109, 3) := by decide +kernel
theorem dX6_press_33 : decode cX6_press 33 = .ok (.aload_n 0, 1) := by decide +kernel
theorem dX6_press_34 : decode cX6_press 34 = .ok (.getfield 18, 3) := by decide +kernel
theorem dX6_press_37 : decode cX6_press 37 = .ok (.getfield 79, 3) := by decide +kernel
theorem dX6_press_40 : decode cX6_press 40 = .ok (.ireturn, 1) := by decide +kernel
theorem dX6_open_0 : decode cX6_open 0 = .ok (.aload_n 0, 1) := by decide +kernel
theorem dX6_open_1 : decode cX6_open 1 = .ok (.getfield 38, 3) := by decide +kernel
theorem dX6_open_4 : decode cX6_open 4 = .ok (.aload_n 0, 1) := by decide +kernel
theorem dX6_open_5 : decode cX6_open 5 = .ok (.getfield 14, 3) := by decide +kernel
theorem dX6_open_8 : decode cX6_open 8 = .ok (.iconst 0, 1) := by decide +kernel
theorem dX6_open_9 : decode cX6_open 9 = .ok (.aload_n 0, 1) := by decide +kernel
theorem dX6_open_10 : decode cX6_open 10 = .ok (.getfield 14, 3) := by decide +kernel
theorem dX6_open_13 : decode cX6_open 13 = .ok (.getfield 79, 3) := by decide +kernel
theorem dX6_open_16 : decode cX6_open 16 = .ok (.invokevirtual 120, 3) := by decide +kernel
theorem dX6_open_19 : decode cX6_open 19 = .ok (.aload_n 0, 1) := by decide +kernel
theorem dX6_open_20 : decode cX6_open 20 = .ok (.aload_n 0, 1) := by decide +kernel
theorem dX6_open_21 : decode cX6_open 21 = .ok (.getfield 38, 3) := by decide +kernel
theorem dX6_open_24 : decode cX6_open 24 = .ok (.getfield 123, 3) := by decide +kernel
theorem dX6_open_27 : decode cX6_open 27 = .ok (.aload_n 0, 1) := by decide +kernel
theorem dX6_open_28 : decode cX6_open 28 = .ok (.getfield 38, 3) := by decide +kernel
theorem dX6_open_31 : decode cX6_open 31 = .ok (.getfield 126, 3) := by decide +kernel
theorem dX6_open_34 : decode cX6_open 34 = .ok (.iconst 0, 1) := by decide +kernel
theorem dX6_open_35 : decode cX6_open 35 = .ok (.iconst (-1), 1) := by decide +kernel
theorem dX6_open_36 : decode cX6_open 36 = .ok (.invokevirtual 129, 3) := by decide +kernel
theorem dX6_open_39 : decode cX6_open 39 = .ok (.aload_n 0, 1) := by decide +kernel
theorem dX6_open_40 : decode cX6_open 40 = .ok (.getfield 38, 3) := by decide +kernel
theorem dX6_open_43 : decode cX6_open 43 = .ok (.getfield 123, 3) := by decide +kernel
theorem dX6_open_46 : decode cX6_open 46 = .ok (.ifCond .eq 6, 3) := by decide +kernel
theorem dX6_open_49 : decode cX6_open 49 = .ok (.bipush (-2), 2) := by decide +kernel
theorem dX6_open_51 : decode cX6_open 51 = .ok (.ireturn, 1) := by decide +kernel
theorem dX6_open_52 : decode cX6_open 52 = .ok (.aload_n 0, 1) := by decide +kernel
theorem dX6_open_53 : decode cX6_open 53 = .ok (.getfield 18, 3) := by decide +kernel
theorem dX6_open_56 : decode cX6_open 56 = .ok (.aload_n 0, 1) := by decide +kernel
theorem dX6_open_57 : decode cX6_open 57 = .ok (.getfield 38, 3) := by decide +kernel
theorem dX6_open_60 : decode cX6_open 60 = .ok (.getfield 133, 3) := by decide +kernel
theorem dX6_open_63 : decode cX6_open 63 = .ok (.invokevirtual 109, 3) := by decide +kernel
theorem dX6_open_66 : decode cX6_open 66 = .ok (.aload_n 0, 1) := by decide +kernel
theorem dX6_open_67 : decode cX6_open 67 = .ok (.getfield 52, 3) := by decide +kernel
theorem dX6_open_70 : decode cX6_open 70 = .ok (.aload_n 0, 1) := by decide +kernel
theorem dX6_open_71 : decode cX6_open 71 = .ok (.getfield 38, 3) := by decide +kernel
theorem dX6_open_74 : decode cX6_open 74 = .ok (.getfield 136, 3) := by decide +kernel
theorem dX6_open_77 : decode cX6_open 77 = .ok (.invokevirtual 139, 3) := by decide +kernel
theorem dX6_open_80 : decode cX6_open 80 = .ok (.aload_n 0, 1) := by decide +kernel
theorem dX6_open_81 : decode cX6_open 81 = .ok (.getfield 18, 3) := by decide +kernel
theorem dX6_open_84 : decode cX6_open 84 = .ok (.getfield 79, 3) := by decide +kernel
theorem dX6_open_87 : decode cX6_open 87 = .ok (.ireturn, 1) := by decide +kernel
theorem dX6_stream_0 : decode cX6_stream 0 = .ok (.iload_n 1, 1) := by decide +kernel
theorem dX6_stream_1 : decode cX6_stream 1 = .ok (.iconst 1, 1) := by decide +kernel
theorem dX6_stream_2 : decode cX6_stream 2 = .ok (.if_icmp .lt 10, 3) := by decide +kernel
theorem dX6_stream_5 : decode cX6_stream 5 = .ok (.iload_n 1, 1) := by decide +kernel
theorem dX6_stream_6 : decode cX6_stream 6 = .ok (.sipush 20000, 3) := by decide +kernel
theorem dX6_stream_9 : decode cX6_stream 9 = .ok (.if_icmp .le 5, 3) := by decide +kernel
theorem dX6_stream_12 : decode cX6_stream 12 = .ok (.iconst (-1), 1) := by decide +kernel
theorem dX6_stream_13 : decode cX6_stream 13 = .ok (.ireturn, 1) := by decide +kernel
theorem dX6_stream_14 : decode cX6_stream 14 = .ok (.aload_n 0, 1) := by decide +kernel
theorem dX6_stream_15 : decode cX6_stream 15 = .ok (.getfield 31, 3) := by decide +kernel
theorem dX6_stream_18 : decode cX6_stream 18 = .ok (.aload_n 0, 1) := by decide +kernel
theorem dX6_stream_19 : decode cX6_stream 19 = .ok (.getfield 14, 3) := by decide +kernel
theorem dX6_stream_22 : decode cX6_stream 22 = .ok (.iload_n 1, 1) := by decide +kernel
theorem dX6_stream_23 : decode cX6_stream 23 = .ok (.aload_n 0, 1) := by decide +kernel
theorem dX6_stream_24 : decode cX6_stream 24 = .ok (.getfield 24, 3) := by decide +kernel
theorem dX6_stream_27 : decode cX6_stream 27 = .ok (.invokevirtual 142, 3) := by decide +kernel
theorem dX6_stream_30 : decode cX6_stream 30 = .ok (.ifCond .ne 5, 3) := by decide +kernel
theorem dX6_stream_33 : decode cX6_stream 33 = .ok (.iconst (-1), 1) := by decide +kernel
theorem dX6_stream_34 : decode cX6_stream 34 = .ok (.ireturn, 1) := by decide +kernel
theorem dX6_stream_35 : decode cX6_stream 35 = .ok (.aload_n 0, 1) := by decide +kernel
theorem dX6_stream_36 : decode cX6_stream 36 = .ok (.getfield 18, 3) := by decide +kernel
theorem dX6_stream_39 : decode cX6_stream 39 = .ok (.aload_n 0, 1) := by decide +kernel
theorem dX6_stream_40 : decode cX6_stream 40 = .ok (.getfield 31, 3) := by decide +kernel
theorem dX6_stream_43 : decode cX6_stream 43 = .ok (.getfield 146, 3) := by decide +kernel
theorem dX6_stream_46 : decode cX6_stream 46 = .ok (.invokevirtual 109, 3) := by decide +kernel
theorem dX6_stream_49 : decode cX6_stream 49 = .ok (.aload_n 0, 1) := by decide +kernel
theorem dX6_stream_50 : decode cX6_stream 50 = .ok (.getfield 18, 3) := by decide +kernel
theorem dX6_stream_53 : decode cX6_stream 53 = .ok (.getfield 79, 3) := by decide +kernel
theorem dX6_stream_56 : decode cX6_stream 56 = .ok (.ireturn, 1) := by decide +kernel
theorem dX6_unstream_0 : decode cX6_unstream 0 = .ok (.aload_n 0, 1) := by decide +kernel
theorem dX6_unstream_1 : decode cX6_unstream 1 = .ok (.getfield 45, 3) := by decide +kernel
theorem dX6_unstream_4 : decode cX6_unstream 4 = .ok (.aload_n 0, 1) := by decide +kernel
theorem dX6_unstream_5 : decode cX6_unstream 5 = .ok (.getfield 14, 3) := by decide +kernel
theorem dX6_unstream_8 : decode cX6_unstream 8 = .ok (.aload_n 0, 1) := by decide +kernel
theorem dX6_unstream_9 : decode cX6_unstream 9 = .ok (.getfield 38, 3) := by decide +kernel
theorem dX6_unstream_12 : decode cX6_unstream 12 = .ok (.invokevirtual 149, 3) := by decide +kernel
theorem dX6_unstream_15 : decode cX6_unstream 15 = .ok (.aload_n 0, 1) := by decide +kernel
theorem dX6_unstream_16 : decode cX6_unstream 16 = .ok (.getfield 45, 3) := by decide +kernel
theorem dX6_unstream_19 : decode cX6_unstream 19 = .ok (.getfield 153, 3) := by decide +kernel
theorem dX6_unstream_22 : decode cX6_unstream 22 = .ok (.bipush 16, 2) := by decide +kernel
theorem dX6_unstream_24 : decode cX6_unstream 24 = .ok (.if_icmp .ne 33, 3) := by decide +kernel
theorem dX6_unstream_27 : decode cX6_unstream 27 = .ok (.aload_n 0, 1) := by decide +kernel
theorem dX6_unstream_28 : decode cX6_unstream 28 = .ok (.bipush 16, 2) := by decide +kernel
theorem dX6_unstream_30 : decode cX6_unstream 30 = .ok (.aload_n 0, 1) := by decide +kernel
theorem dX6_unstream_31 : decode cX6_unstream 31 = .ok (.getfield 45, 3) := by decide +kernel
theorem dX6_unstream_34 : decode cX6_unstream 34 = .ok (.getfield 154, 3) := by decide +kernel
theorem dX6_unstream_37 : decode cX6_unstream 37 = .ok (.aload_n 0, 1) := by decide +kernel
theorem dX6_unstream_38 : decode cX6_unstream 38 = .ok (.getfield 38, 3) := by decide +kernel
theorem dX6_unstream_41 : decode cX6_unstream 41 = .ok (.getfield 123, 3) := by decide +kernel
theorem dX6_unstream_44 : decode cX6_unstream 44 = .ok (.aload_n 0, 1) := by decide +kernel
theorem dX6_unstream_45 : decode cX6_unstream 45 = .ok (.getfield 38, 3) := by decide +kernel
theorem dX6_unstream_48 : decode cX6_unstream 48 = .ok (.getfield 126, 3) := by decide +kernel
theorem dX6_unstream_51 : decode cX6_unstream 51 = .ok (.invokevirtual 129, 3) := by decide +kernel
theorem dX6_unstream_54 : decode cX6_unstream 54 = .ok (.goto 23, 3) := by decide +kernel
theorem dX6_unstream_57 : decode cX6_unstream 57 = .ok (.aload_n 0, 1) := by decide +kernel
theorem dX6_unstream_58 : decode cX6_unstream 58 = .ok (.aload_n 0, 1) := by decide +kernel
theorem dX6_unstream_59 : decode cX6_unstream 59 = .ok (.getfield 45, 3) := by decide +kernel
theorem dX6_unstream_62 : decode cX6_unstream 62 = .ok (.getfield 153, 3) := by decide +kernel
theorem dX6_unstream_65 : decode cX6_unstream 65 = .ok (.aload_n 0, 1) := by decide +kernel
theorem dX6_unstream_66 : decode cX6_unstream 66 = .ok (.getfield 45, 3) := by decide +kernel
theorem dX6_unstream_69 : decode cX6_unstream 69 = .ok (.getfield 154, 3) := by decide +kernel
theorem dX6_unstream_72 : decode cX6_unstream 72 = .ok (.iconst 0, 1) := by decide +kernel
theorem dX6_unstream_73 : decode cX6_unstream 73 = .ok (.iconst (-1), 1) := by decide +kernel
theorem dX6_unstream_74 : decode cX6_unstream 74 = .ok (.invokevirtual 129, 3) := by decide +kernel
theorem dX6_unstream_77 : decode cX6_unstream 77 = .ok (.aload_n 0, 1) := by decide +kernel
theorem dX6_unstream_78 : decode cX6_unstream 78 = .ok (.getfield 45, 3) := by decide +kernel
theorem dX6_unstream_81 : decode cX6_unstream 81 = .ok (.getfield 153, 3) := by decide +kernel
theorem dX6_unstream_84 : decode cX6_unstream 84 = .ok (.ifCond .eq 6, 3) := by decide +kernel
theorem dX6_unstream_87 : decode cX6_unstream 87 = .ok (.bipush (-2), 2) := by decide +kernel
theorem dX6_unstream_89 : decode cX6_unstream 89 = .ok (.ireturn, 1) := by decide +kernel
theorem dX6_unstream_90 : decode cX6_unstream 90 = .ok (.aload_n 0, 1) := by decide +kernel
theorem dX6_unstream_91 : decode cX6_unstream 91 = .ok (.getfield 18, 3) := by decide +kernel
theorem dX6_unstream_94 : decode cX6_unstream 94 = .ok (.aload_n 0, 1) := by decide +kernel
theorem dX6_unstream_95 : decode cX6_unstream 95 = .ok (.getfield 45, 3) := by decide +kernel
theorem dX6_unstream_98 : decode cX6_unstream 98 = .ok (.getfield 155, 3) := by decide +kernel
theorem dX6_unstream_101 : decode cX6_unstream 101 = .ok (.invokevirtual 109, 3) := by decide +kernel
theorem dX6_unstream_104 : decode cX6_unstream 104 = .ok (.aload_n 0, 1) := by decide +kernel
theorem dX6_unstream_105 : decode cX6_unstream 105 = .ok (.getfield 56, 3) := by decide +kernel
theorem dX6_unstream_108 : decode cX6_unstream 108 = .ok (.aload_n 0, 1) := by decide +kernel
theorem dX6_unstream_109 : decode cX6_unstream 109 = .ok (.getfield 45, 3) := by decide +kernel
theorem dX6_unstream_112 : decode cX6_unstream 112 = .ok (.getfield 156, 3) := by decide +kernel
theorem dX6_unstream_115 : decode cX6_unstream 115 = .ok (.invokevirtual 139, 3) := by decide +kernel
theorem dX6_unstream_118 : decode cX6_unstream 118 = .ok (.aload_n 0, 1) := by decide +kernel
theorem dX6_unstream_119 : decode cX6_unstream 119 = .ok (.getfield 18, 3) := by decide +kernel
theorem dX6_unstream_122 : decode cX6_unstream 122 = .ok (.getfield 79, 3) := by decide +kernel
theorem dX6_unstream_125 : decode cX6_unstream 125 = .ok (.ireturn, 1) := by decide +kernel
theorem dX6_fault_0 : decode cX6_fault 0 = .ok (.iload_n 1, 1) := by decide +kernel
theorem dX6_fault_1 : decode cX6_fault 1 = .ok (.tableswitch 51 0 3 #[31, 36, 41, 46], 31) := by decide +kernel
theorem dX6_fault_32 : decode cX6_fault 32 = .ok (.aload_n 0, 1) := by decide +kernel
theorem dX6_fault_33 : decode cX6_fault 33 = .ok (.getfield 59, 3) := by decide +kernel
theorem dX6_fault_36 : decode cX6_fault 36 = .ok (.ireturn, 1) := by decide +kernel
theorem dX6_fault_37 : decode cX6_fault 37 = .ok (.aload_n 0, 1) := by decide +kernel
theorem dX6_fault_38 : decode cX6_fault 38 = .ok (.getfield 63, 3) := by decide +kernel
theorem dX6_fault_41 : decode cX6_fault 41 = .ok (.ireturn, 1) := by decide +kernel
theorem dX6_fault_42 : decode cX6_fault 42 = .ok (.aload_n 0, 1) := by decide +kernel
theorem dX6_fault_43 : decode cX6_fault 43 = .ok (.getfield 66, 3) := by decide +kernel
theorem dX6_fault_46 : decode cX6_fault 46 = .ok (.ireturn, 1) := by decide +kernel
theorem dX6_fault_47 : decode cX6_fault 47 = .ok (.aload_n 0, 1) := by decide +kernel
theorem dX6_fault_48 : decode cX6_fault 48 = .ok (.getfield 69, 3) := by decide +kernel
theorem dX6_fault_51 : decode cX6_fault 51 = .ok (.ireturn, 1) := by decide +kernel
theorem dX6_fault_52 : decode cX6_fault 52 = .ok (.iconst (-1), 1) := by decide +kernel
theorem dX6_fault_53 : decode cX6_fault 53 = .ok (.ireturn, 1) := by decide +kernel
theorem dX6_element_0 : decode cX6_element 0 = .ok (.aload_n 0, 1) := by decide +kernel
theorem dX6_element_1 : decode cX6_element 1 = .ok (.getfield 52, 3) := by decide +kernel
theorem dX6_element_4 : decode cX6_element 4 = .ok (.iload_n 1, 1) := by decide +kernel
theorem dX6_element_5 : decode cX6_element 5 = .ok (.iload_n 2, 1) := by decide +kernel
theorem dX6_element_6 : decode cX6_element 6 = .ok (.invokevirtual 159, 3) := by decide +kernel
theorem dX6_element_9 : decode cX6_element 9 = .ok (.ireturn, 1) := by decide +kernel
theorem dX6_chunk_0 : decode cX6_chunk 0 = .ok (.aload_n 0, 1) := by decide +kernel
theorem dX6_chunk_1 : decode cX6_chunk 1 = .ok (.getfield 56, 3) := by decide +kernel
theorem dX6_chunk_4 : decode cX6_chunk 4 = .ok (.iload_n 1, 1) := by decide +kernel
theorem dX6_chunk_5 : decode cX6_chunk 5 = .ok (.iload_n 2, 1) := by decide +kernel
theorem dX6_chunk_6 : decode cX6_chunk 6 = .ok (.invokevirtual 159, 3) := by decide +kernel
theorem dX6_chunk_9 : decode cX6_chunk 9 = .ok (.ireturn, 1) := by decide +kernel
theorem dX6_sum_0 : decode cX6_sum 0 = .ok (.aload_n 0, 1) := by decide +kernel
theorem dX6_sum_1 : decode cX6_sum 1 = .ok (.getfield 14, 3) := by decide +kernel
theorem dX6_sum_4 : decode cX6_sum 4 = .ok (.iload_n 1, 1) := by decide +kernel
theorem dX6_sum_5 : decode cX6_sum 5 = .ok (.iload_n 2, 1) := by decide +kernel
theorem dX6_sum_6 : decode cX6_sum 6 = .ok (.invokevirtual 95, 3) := by decide +kernel
theorem dX6_sum_9 : decode cX6_sum 9 = .ok (.ifCond .ne 5, 3) := by decide +kernel
theorem dX6_sum_12 : decode cX6_sum 12 = .ok (.iconst 0, 1) := by decide +kernel
theorem dX6_sum_13 : decode cX6_sum 13 = .ok (.ireturn, 1) := by decide +kernel
theorem dX6_sum_14 : decode cX6_sum 14 = .ok (.iload_n 3, 1) := by decide +kernel
theorem dX6_sum_15 : decode cX6_sum 15 = .ok (.ifCond .eq 15, 3) := by decide +kernel
theorem dX6_sum_18 : decode cX6_sum 18 = .ok (.aload_n 0, 1) := by decide +kernel
theorem dX6_sum_19 : decode cX6_sum 19 = .ok (.getfield 14, 3) := by decide +kernel
theorem dX6_sum_22 : decode cX6_sum 22 = .ok (.iload_n 1, 1) := by decide +kernel
theorem dX6_sum_23 : decode cX6_sum 23 = .ok (.iload_n 2, 1) := by decide +kernel
theorem dX6_sum_24 : decode cX6_sum 24 = .ok (.invokevirtual 163, 3) := by decide +kernel
theorem dX6_sum_27 : decode cX6_sum 27 = .ok (.goto 12, 3) := by decide +kernel
theorem dX6_sum_30 : decode cX6_sum 30 = .ok (.aload_n 0, 1) := by decide +kernel
theorem dX6_sum_31 : decode cX6_sum 31 = .ok (.getfield 14, 3) := by decide +kernel
theorem dX6_sum_34 : decode cX6_sum 34 = .ok (.iload_n 1, 1) := by decide +kernel
theorem dX6_sum_35 : decode cX6_sum 35 = .ok (.iload_n 2, 1) := by decide +kernel
theorem dX6_sum_36 : decode cX6_sum 36 = .ok (.invokevirtual 166, 3) := by decide +kernel
theorem dX6_sum_39 : decode cX6_sum 39 = .ok (.ireturn, 1) := by decide +kernel
theorem dX6_about_0 : decode cX6_about 0 = .ok (.iload_n 1, 1) := by decide +kernel
theorem dX6_about_1 : decode cX6_about 1 = .ok (.tableswitch 87 0 5 #[39, 47, 55, 63, 71, 79], 39) := by decide +kernel
theorem dX6_about_40 : decode cX6_about 40 = .ok (.aload_n 0, 1) := by decide +kernel
theorem dX6_about_41 : decode cX6_about 41 = .ok (.getfield 14, 3) := by decide +kernel
theorem dX6_about_44 : decode cX6_about 44 = .ok (.getfield 79, 3) := by decide +kernel
theorem dX6_about_47 : decode cX6_about 47 = .ok (.ireturn, 1) := by decide +kernel
theorem dX6_about_48 : decode cX6_about 48 = .ok (.aload_n 0, 1) := by decide +kernel
theorem dX6_about_49 : decode cX6_about 49 = .ok (.getfield 18, 3) := by decide +kernel
theorem dX6_about_52 : decode cX6_about 52 = .ok (.getfield 79, 3) := by decide +kernel
theorem dX6_about_55 : decode cX6_about 55 = .ok (.ireturn, 1) := by decide +kernel
theorem dX6_about_56 : decode cX6_about 56 = .ok (.aload_n 0, 1) := by decide +kernel
theorem dX6_about_57 : decode cX6_about 57 = .ok (.getfield 52, 3) := by decide +kernel
theorem dX6_about_60 : decode cX6_about 60 = .ok (.getfield 176, 3) := by decide +kernel
theorem dX6_about_63 : decode cX6_about 63 = .ok (.ireturn, 1) := by decide +kernel
theorem dX6_about_64 : decode cX6_about 64 = .ok (.aload_n 0, 1) := by decide +kernel
theorem dX6_about_65 : decode cX6_about 65 = .ok (.getfield 52, 3) := by decide +kernel
theorem dX6_about_68 : decode cX6_about 68 = .ok (.getfield 177, 3) := by decide +kernel
theorem dX6_about_71 : decode cX6_about 71 = .ok (.ireturn, 1) := by decide +kernel
theorem dX6_about_72 : decode cX6_about 72 = .ok (.aload_n 0, 1) := by decide +kernel
theorem dX6_about_73 : decode cX6_about 73 = .ok (.getfield 56, 3) := by decide +kernel
theorem dX6_about_76 : decode cX6_about 76 = .ok (.getfield 176, 3) := by decide +kernel
theorem dX6_about_79 : decode cX6_about 79 = .ok (.ireturn, 1) := by decide +kernel
theorem dX6_about_80 : decode cX6_about 80 = .ok (.aload_n 0, 1) := by decide +kernel
theorem dX6_about_81 : decode cX6_about 81 = .ok (.getfield 56, 3) := by decide +kernel
theorem dX6_about_84 : decode cX6_about 84 = .ok (.getfield 177, 3) := by decide +kernel
theorem dX6_about_87 : decode cX6_about 87 = .ok (.ireturn, 1) := by decide +kernel
theorem dX6_about_88 : decode cX6_about 88 = .ok (.iconst (-1), 1) := by decide +kernel
theorem dX6_about_89 : decode cX6_about 89 = .ok (.ireturn, 1) := by decide +kernel
theorem dX6_isByte_0 : decode cX6_isByte 0 = .ok (.iload_n 0, 1) := by decide +kernel
theorem dX6_isByte_1 : decode cX6_isByte 1 = .ok (.ifCond .lt 14, 3) := by decide +kernel
theorem dX6_isByte_4 : decode cX6_isByte 4 = .ok (.iload_n 0, 1) := by decide +kernel
theorem dX6_isByte_5 : decode cX6_isByte 5 = .ok (.sipush 255, 3) := by decide +kernel
theorem dX6_isByte_8 : decode cX6_isByte 8 = .ok (.if_icmp .gt 7, 3) := by decide +kernel
theorem dX6_isByte_11 : decode cX6_isByte 11 = .ok (.iconst 1, 1) := by decide +kernel
theorem dX6_isByte_12 : decode cX6_isByte 12 = .ok (.goto 4, 3) := by decide +kernel
theorem dX6_isByte_15 : decode cX6_isByte 15 = .ok (.iconst 0, 1) := by decide +kernel
theorem dX6_isByte_16 : decode cX6_isByte 16 = .ok (.ireturn, 1) := by decide +kernel
theorem dX6_keepFault_0 : decode cX6_keepFault 0 = .ok (.aload_n 0, 1) := by decide +kernel
theorem dX6_keepFault_1 : decode cX6_keepFault 1 = .ok (.iload_n 1, 1) := by decide +kernel
theorem dX6_keepFault_2 : decode cX6_keepFault 2 = .ok (.putfield 59, 3) := by decide +kernel
theorem dX6_keepFault_5 : decode cX6_keepFault 5 = .ok (.aload_n 0, 1) := by decide +kernel
theorem dX6_keepFault_6 : decode cX6_keepFault 6 = .ok (.iload_n 2, 1) := by decide +kernel
theorem dX6_keepFault_7 : decode cX6_keepFault 7 = .ok (.putfield 63, 3) := by decide +kernel
theorem dX6_keepFault_10 : decode cX6_keepFault 10 = .ok (.aload_n 0, 1) := by decide +kernel
theorem dX6_keepFault_11 : decode cX6_keepFault 11 = .ok (.iload_n 3, 1) := by decide +kernel
theorem dX6_keepFault_12 : decode cX6_keepFault 12 = .ok (.putfield 66, 3) := by decide +kernel
theorem dX6_keepFault_15 : decode cX6_keepFault 15 = .ok (.aload_n 0, 1) := by decide +kernel
theorem dX6_keepFault_16 : decode cX6_keepFault 16 = .ok (.iload 4, 2) := by decide +kernel
theorem dX6_keepFault_18 : decode cX6_keepFault 18 = .ok (.putfield 69, 3) := by decide +kernel
theorem dX6_keepFault_21 : decode cX6_keepFault 21 = .ok (.return_, 1) := by decide +kernel
theorem dX7_init_0 : decode cX7_init 0 = .ok (.aload_n 0, 1) := by decide +kernel
theorem dX7_init_1 : decode cX7_init 1 = .ok (.invokespecial 1, 3) := by decide +kernel
theorem dX7_init_4 : decode cX7_init 4 = .ok (.aload_n 0, 1) := by decide +kernel
theorem dX7_init_5 : decode cX7_init 5 = .ok (.sipush 20000, 3) := by decide +kernel
theorem dX7_init_8 : decode cX7_init 8 = .ok (.newarray .byte, 2) := by decide +kernel
theorem dX7_init_10 : decode cX7_init 10 = .ok (.putfield 7, 3) := by decide +kernel
theorem dX7_init_13 : decode cX7_init 13 = .ok (.aload_n 0, 1) := by decide +kernel
theorem dX7_init_14 : decode cX7_init 14 = .ok (.sipush 24000, 3) := by decide +kernel
theorem dX7_init_17 : decode cX7_init 17 = .ok (.newarray .byte, 2) := by decide +kernel
theorem dX7_init_19 : decode cX7_init 19 = .ok (.putfield 13, 3) := by decide +kernel
theorem dX7_init_22 : decode cX7_init 22 = .ok (.aload_n 0, 1) := by decide +kernel
theorem dX7_init_23 : decode cX7_init 23 = .ok (.sipush 24000, 3) := by decide +kernel
theorem dX7_init_26 : decode cX7_init 26 = .ok (.newarray .byte, 2) := by decide +kernel
theorem dX7_init_28 : decode cX7_init 28 = .ok (.putfield 16, 3) := by decide +kernel
theorem dX7_init_31 : decode cX7_init 31 = .ok (.aload_n 0, 1) := by decide +kernel
theorem dX7_init_32 : decode cX7_init 32 = .ok (.sipush 24000, 3) := by decide +kernel
theorem dX7_init_35 : decode cX7_init 35 = .ok (.newarray .byte, 2) := by decide +kernel
theorem dX7_init_37 : decode cX7_init 37 = .ok (.putfield 19, 3) := by decide +kernel
theorem dX7_init_40 : decode cX7_init 40 = .ok (.aload_n 0, 1) := by decide +kernel
theorem dX7_init_41 : decode cX7_init 41 = .ok (.sipush 16384, 3) := by decide +kernel
theorem dX7_init_44 : decode cX7_init 44 = .ok (.newarray .int, 2) := by decide +kernel
theorem dX7_init_46 : decode cX7_init 46 = .ok (.putfield 22, 3) := by decide +kernel
theorem dX7_init_49 : decode cX7_init 49 = .ok (.aload_n 0, 1) := by decide +kernel
theorem dX7_init_50 : decode cX7_init 50 = .ok (.sipush 20000, 3) := by decide +kernel
theorem dX7_init_53 : decode cX7_init 53 = .ok (.newarray .int, 2) := by decide +kernel
theorem dX7_init_55 : decode cX7_init 55 = .ok (.putfield 26, 3) := by decide +kernel
theorem dX7_init_58 : decode cX7_init 58 = .ok (.aload_n 0, 1) := by decide +kernel
theorem dX7_init_59 : decode cX7_init 59 = .ok (.sipush 5000, 3) := by decide +kernel
theorem dX7_init_62 : decode cX7_init 62 = .ok (.newarray .int, 2) := by decide +kernel
theorem dX7_init_64 : decode cX7_init 64 = .ok (.putfield 29, 3) := by decide +kernel
theorem dX7_init_67 : decode cX7_init 67 = .ok (.aload_n 0, 1) := by decide +kernel
theorem dX7_init_68 : decode cX7_init 68 = .ok (.sipush 5000, 3) := by decide +kernel
theorem dX7_init_71 : decode cX7_init 71 = .ok (.newarray .int, 2) := by decide +kernel
theorem dX7_init_73 : decode cX7_init 73 = .ok (.putfield 32, 3) := by decide +kernel
theorem dX7_init_76 : decode cX7_init 76 = .ok (.aload_n 0, 1) := by decide +kernel
theorem dX7_init_77 : decode cX7_init 77 = .ok (.sipush 5000, 3) := by decide +kernel
theorem dX7_init_80 : decode cX7_init 80 = .ok (.newarray .int, 2) := by decide +kernel
theorem dX7_init_82 : decode cX7_init 82 = .ok (.putfield 35, 3) := by decide +kernel
theorem dX7_init_85 : decode cX7_init 85 = .ok (.aload_n 0, 1) := by decide +kernel
theorem dX7_init_86 : decode cX7_init 86 = .ok (.iconst (-1), 1) := by decide +kernel
theorem dX7_init_87 : decode cX7_init 87 = .ok (.putfield 38, 3) := by decide +kernel
theorem dX7_init_90 : decode cX7_init 90 = .ok (.aload_n 0, 1) := by decide +kernel
theorem dX7_init_91 : decode cX7_init 91 = .ok (.iconst (-1), 1) := by decide +kernel
theorem dX7_init_92 : decode cX7_init 92 = .ok (.putfield 42, 3) := by decide +kernel
theorem dX7_init_95 : decode cX7_init 95 = .ok (.aload_n 0, 1) := by decide +kernel
theorem dX7_init_96 : decode cX7_init 96 = .ok (.iconst (-1), 1) := by decide +kernel
theorem dX7_init_97 : decode cX7_init 97 = .ok (.putfield 45, 3) := by decide +kernel
theorem dX7_init_100 : decode cX7_init 100 = .ok (.aload_n 0, 1) := by decide +kernel
theorem dX7_init_101 : decode cX7_init 101 = .ok (.sipush 256, 3) := by decide +kernel
theorem dX7_init_104 : decode cX7_init 104 = .ok (.newarray .int, 2) := by decide +kernel
theorem dX7_init_106 : decode cX7_init 106 = .ok (.putfield 48, 3) := by decide +kernel
theorem dX7_init_109 : decode cX7_init 109 = .ok (.aload_n 0, 1) := by decide +kernel
theorem dX7_init_110 : decode cX7_init 110 = .ok (.sipush 5000, 3) := by decide +kernel
theorem dX7_init_113 : decode cX7_init 113 = .ok (.newarray .int, 2) := by decide +kernel
theorem dX7_init_115 : decode cX7_init 115 = .ok (.putfield 51, 3) := by decide +kernel
theorem dX7_init_118 : decode cX7_init 118 = .ok (.aload_n 0, 1) := by decide +kernel
theorem dX7_init_119 : decode cX7_init 119 = .ok (.sipush 20000, 3) := by decide +kernel
theorem dX7_init_122 : decode cX7_init 122 = .ok (.newarray .byte, 2) := by decide +kernel
theorem dX7_init_124 : decode cX7_init 124 = .ok (.putfield 54, 3) := by decide +kernel
theorem dX7_init_127 : decode cX7_init 127 = .ok (.iconst 0, 1) := by decide +kernel
theorem dX7_init_128 : decode cX7_init 128 = .ok (.istore_n 1, 1) := by decide +kernel
theorem dX7_init_129 : decode cX7_init 129 = .ok (.iload_n 1, 1) := by decide +kernel
theorem dX7_init_130 : decode cX7_init 130 = .ok (.sipush 256, 3) := by decide +kernel
theorem dX7_init_133 : decode cX7_init 133 = .ok (.if_icmp .ge 52, 3) := by decide +kernel
theorem dX7_init_136 : decode cX7_init 136 = .ok (.iload_n 1, 1) := by decide +kernel
theorem dX7_init_137 : decode cX7_init 137 = .ok (.istore_n 2, 1) := by decide +kernel
theorem dX7_init_138 : decode cX7_init 138 = .ok (.iconst 0, 1) := by decide +kernel
theorem dX7_init_139 : decode cX7_init 139 = .ok (.istore_n 3, 1) := by decide +kernel
theorem dX7_init_140 : decode cX7_init 140 = .ok (.iload_n 3, 1) := by decide +kernel
theorem dX7_init_141 : decode cX7_init 141 = .ok (.bipush 8, 2) := by decide +kernel
theorem dX7_init_143 : decode cX7_init 143 = .ok (.if_icmp .ge 29, 3) := by decide +kernel
theorem dX7_init_146 : decode cX7_init 146 = .ok (.iload_n 2, 1) := by decide +kernel
theorem dX7_init_147 : decode cX7_init 147 = .ok (.iconst 1, 1) := by decide +kernel
theorem dX7_init_148 : decode cX7_init 148 = .ok (.iand, 1) := by decide +kernel
theorem dX7_init_149 : decode cX7_init 149 = .ok (.iconst 1, 1) := by decide +kernel
theorem dX7_init_150 : decode cX7_init 150 = .ok (.if_icmp .ne 12, 3) := by decide +kernel
theorem dX7_init_153 : decode cX7_init 153 = .ok (.iload_n 2, 1) := by decide +kernel
theorem dX7_init_154 : decode cX7_init 154 = .ok (.iconst 1, 1) := by decide +kernel
theorem dX7_init_155 : decode cX7_init 155 = .ok (.iushr, 1) := by decide +kernel
theorem dX7_init_156 : decode cX7_init 156 = .ok (.ldc 57, 2) := by decide +kernel
theorem dX7_init_158 : decode cX7_init 158 = .ok (.ixor, 1) := by decide +kernel
theorem dX7_init_159 : decode cX7_init 159 = .ok (.goto 6, 3) := by decide +kernel
theorem dX7_init_162 : decode cX7_init 162 = .ok (.iload_n 2, 1) := by decide +kernel
theorem dX7_init_163 : decode cX7_init 163 = .ok (.iconst 1, 1) := by decide +kernel
theorem dX7_init_164 : decode cX7_init 164 = .ok (.iushr, 1) := by decide +kernel
theorem dX7_init_165 : decode cX7_init 165 = .ok (.istore_n 2, 1) := by decide +kernel
theorem dX7_init_166 : decode cX7_init 166 = .ok (.iinc 3 1, 3) := by decide +kernel
theorem dX7_init_169 : decode cX7_init 169 = .ok (.goto (-29), 3) := by decide +kernel
theorem dX7_init_172 : decode cX7_init 172 = .ok (.aload_n 0, 1) := by decide +kernel
theorem dX7_init_173 : decode cX7_init 173 = .ok (.getfield 48, 3) := by decide +kernel
theorem dX7_init_176 : decode cX7_init 176 = .ok (.iload_n 1, 1) := by decide +kernel
theorem dX7_init_177 : decode cX7_init 177 = .ok (.iload_n 2, 1) := by decide +kernel
theorem dX7_init_178 : decode cX7_init 178 = .ok (.iastore, 1) := by decide +kernel
theorem dX7_init_179 : decode cX7_init 179 = .ok (.iinc 1 1, 3) := by decide +kernel
theorem dX7_init_182 : decode cX7_init 182 = .ok (.goto (-53), 3) := by decide +kernel
theorem dX7_init_185 : decode cX7_init 185 = .ok (.return_, 1) := by decide +kernel
theorem dX7_thrown_0 : decode cX7_thrown 0 = .ok (.aload_n 0, 1) := by decide +kernel
theorem dX7_thrown_1 : decode cX7_thrown 1 = .ok (.getfield 58, 3) := by decide +kernel
theorem dX7_thrown_4 : decode cX7_thrown 4 = .ok (.ireturn, 1) := by decide +kernel
theorem dX7_feed_0 : decode cX7_feed 0 = .ok (.aload_n 0, 1) := by decide +kernel
theorem dX7_feed_1 : decode cX7_feed 1 = .ok (.iconst 0, 1) := by decide +kernel
theorem dX7_feed_2 : decode cX7_feed 2 = .ok (.putfield 58, 3) := by decide +kernel
theorem dX7_feed_5 : decode cX7_feed 5 = .ok (.aload_n 0, 1) := by decide +kernel
theorem dX7_feed_6 : decode cX7_feed 6 = .ok (.getfield 61, 3) := by decide +kernel
theorem dX7_feed_9 : decode cX7_feed 9 = .ok (.bipush 20, 2) := by decide +kernel
theorem dX7_feed_11 : decode cX7_feed 11 = .ok (.iadd, 1) := by decide +kernel
theorem dX7_feed_12 : decode cX7_feed 12 = .ok (.sipush 20000, 3) := by decide +kernel
theorem dX7_feed_15 : decode cX7_feed 15 = .ok (.if_icmp .le 5, 3) := by decide +kernel
theorem dX7_feed_18 : decode cX7_feed 18 = .ok (.iconst (-1), 1) := by decide +kernel
theorem dX7_feed_19 : decode cX7_feed 19 = .ok (.ireturn, 1) := by decide +kernel
theorem dX7_feed_20 : decode cX7_feed 20 = .ok (.aload_n 0, 1) := by decide +kernel
theorem dX7_feed_21 : decode cX7_feed 21 = .ok (.iload_n 1, 1) := by decide +kernel
theorem dX7_feed_22 : decode cX7_feed 22 = .ok (.invokevirtual 64, 3) := by decide +kernel
theorem dX7_feed_25 : decode cX7_feed 25 = .ok (.aload_n 0, 1) := by decide +kernel
theorem dX7_feed_26 : decode cX7_feed 26 = .ok (.iload_n 2, 1) := by decide +kernel
theorem dX7_feed_27 : decode cX7_feed 27 = .ok (.invokevirtual 64, 3) := by decide +kernel
theorem dX7_feed_30 : decode cX7_feed 30 = .ok (.aload_n 0, 1) := by decide +kernel
theorem dX7_feed_31 : decode cX7_feed 31 = .ok (.iload_n 3, 1) := by decide +kernel
theorem dX7_feed_32 : decode cX7_feed 32 = .ok (.invokevirtual 64, 3) := by decide +kernel
theorem dX7_feed_35 : decode cX7_feed 35 = .ok (.aload_n 0, 1) := by decide +kernel
theorem dX7_feed_36 : decode cX7_feed 36 = .ok (.iload 4, 2) := by decide +kernel
theorem dX7_feed_38 : decode cX7_feed 38 = .ok (.invokevirtual 64, 3) := by decide +kernel
theorem dX7_feed_41 : decode cX7_feed 41 = .ok (.aload_n 0, 1) := by decide +kernel
theorem dX7_feed_42 : decode cX7_feed 42 = .ok (.iload 5, 2) := by decide +kernel
theorem dX7_feed_44 : decode cX7_feed 44 = .ok (.invokevirtual 64, 3) := by decide +kernel
theorem dX7_feed_47 : decode cX7_feed 47 = .ok (.aload_n 0, 1) := by decide +kernel
theorem dX7_feed_48 : decode cX7_feed 48 = .ok (.getfield 61, 3) := by decide +kernel
theorem dX7_feed_51 : decode cX7_feed 51 = .ok (.ireturn, 1) := by decide +kernel
theorem dX7_word_0 : decode cX7_word 0 = .ok (.bipush 24, 2) := by decide +kernel
theorem dX7_word_2 : decode cX7_word 2 = .ok (.istore_n 2, 1) := by decide +kernel
theorem dX7_word_3 : decode cX7_word 3 = .ok (.iload_n 2, 1) := by decide +kernel
theorem dX7_word_4 : decode cX7_word 4 = .ok (.ifCond .lt 32, 3) := by decide +kernel
theorem dX7_word_7 : decode cX7_word 7 = .ok (.aload_n 0, 1) := by decide +kernel
theorem dX7_word_8 : decode cX7_word 8 = .ok (.getfield 7, 3) := by decide +kernel
theorem dX7_word_11 : decode cX7_word 11 = .ok (.aload_n 0, 1) := by decide +kernel
theorem dX7_word_12 : decode cX7_word 12 = .ok (.getfield 61, 3) := by decide +kernel
theorem dX7_word_15 : decode cX7_word 15 = .ok (.iload_n 1, 1) := by decide +kernel
theorem dX7_word_16 : decode cX7_word 16 = .ok (.iload_n 2, 1) := by decide +kernel
theorem dX7_word_17 : decode cX7_word 17 = .ok (.ishr, 1) := by decide +kernel
theorem dX7_word_18 : decode cX7_word 18 = .ok (.i2b, 1) := by decide +kernel
theorem dX7_word_19 : decode cX7_word 19 = .ok (.bastore, 1) := by decide +kernel
theorem dX7_word_20 : decode cX7_word 20 = .ok (.aload_n 0, 1) := by decide +kernel
theorem dX7_word_21 : decode cX7_word 21 = .ok (.dup, 1) := by decide +kernel
theorem dX7_word_22 : decode cX7_word 22 = .ok (.getfield 61, 3) := by decide +kernel
theorem dX7_word_25 : decode cX7_word 25 = .ok (.iconst 1, 1) := by decide +kernel
theorem dX7_word_26 : decode cX7_word 26 = .ok (.iadd, 1) := by decide +kernel
theorem dX7_word_27 : decode cX7_word 27 = .ok (.putfield 61, 3) := by decide +kernel
theorem dX7_word_30 : decode cX7_word 30 = .ok (.iinc 2 (-8), 3) := by decide +kernel
theorem dX7_word_33 : decode cX7_word 33 = .ok (.goto (-30), 3) := by decide +kernel
theorem dX7_word_36 : decode cX7_word 36 = .ok (.return_, 1) := by decide +kernel
theorem dX7_fill_0 : decode cX7_fill 0 = .ok (.aload_n 0, 1) := by decide +kernel
theorem dX7_fill_1 : decode cX7_fill 1 = .ok (.iconst 0, 1) := by decide +kernel
theorem dX7_fill_2 : decode cX7_fill 2 = .ok (.putfield 58, 3) := by decide +kernel
theorem dX7_fill_5 : decode cX7_fill 5 = .ok (.iload_n 1, 1) := by decide +kernel
theorem dX7_fill_6 : decode cX7_fill 6 = .ok (.ifCond .lt 26, 3) := by decide +kernel
theorem dX7_fill_9 : decode cX7_fill 9 = .ok (.iload_n 1, 1) := by decide +kernel
theorem dX7_fill_10 : decode cX7_fill 10 = .ok (.sipush 255, 3) := by decide +kernel
theorem dX7_fill_13 : decode cX7_fill 13 = .ok (.if_icmp .gt 19, 3) := by decide +kernel
theorem dX7_fill_16 : decode cX7_fill 16 = .ok (.iload_n 2, 1) := by decide +kernel
theorem dX7_fill_17 : decode cX7_fill 17 = .ok (.ifCond .lt 15, 3) := by decide +kernel
theorem dX7_fill_20 : decode cX7_fill 20 = .ok (.iload_n 2, 1) := by decide +kernel
theorem dX7_fill_21 : decode cX7_fill 21 = .ok (.sipush 20000, 3) := by decide +kernel
theorem dX7_fill_24 : decode cX7_fill 24 = .ok (.aload_n 0, 1) := by decide +kernel
theorem dX7_fill_25 : decode cX7_fill 25 = .ok (.getfield 61, 3) := by decide +kernel
theorem dX7_fill_28 : decode cX7_fill 28 = .ok (.isub, 1) := by decide +kernel
theorem dX7_fill_29 : decode cX7_fill 29 = .ok (.if_icmp .le 5, 3) := by decide +kernel
theorem dX7_fill_32 : decode cX7_fill 32 = .ok (.iconst (-1), 1) := by decide +kernel
theorem dX7_fill_33 : decode cX7_fill 33 = .ok (.ireturn, 1) := by decide +kernel
theorem dX7_fill_34 : decode cX7_fill 34 = .ok (.iconst 0, 1) := by decide +kernel
theorem dX7_fill_35 : decode cX7_fill 35 = .ok (.istore_n 3, 1) := by decide +kernel
theorem dX7_fill_36 : decode cX7_fill 36 = .ok (.iload_n 3, 1) := by decide +kernel
theorem dX7_fill_37 : decode cX7_fill 37 = .ok (.iload_n 2, 1) := by decide +kernel
theorem dX7_fill_38 : decode cX7_fill 38 = .ok (.if_icmp .ge 30, 3) := by decide +kernel
theorem dX7_fill_41 : decode cX7_fill 41 = .ok (.aload_n 0, 1) := by decide +kernel
theorem dX7_fill_42 : decode cX7_fill 42 = .ok (.getfield 7, 3) := by decide +kernel
theorem dX7_fill_45 : decode cX7_fill 45 = .ok (.aload_n 0, 1) := by decide +kernel
theorem dX7_fill_46 : decode cX7_fill 46 = .ok (.getfield 61, 3) := by decide +kernel
theorem dX7_fill_49 : decode cX7_fill 49 = .ok (.iload_n 1, 1) := by decide +kernel
theorem dX7_fill_50 : decode cX7_fill 50 = .ok (.i2b, 1) := by decide +kernel
theorem dX7_fill_51 : decode cX7_fill 51 = .ok (.bastore, 1) := by decide +kernel
theorem dX7_fill_52 : decode cX7_fill 52 = .ok (.aload_n 0, 1) := by decide +kernel
theorem dX7_fill_53 : decode cX7_fill 53 = .ok (.dup, 1) := by decide +kernel
theorem dX7_fill_54 : decode cX7_fill 54 = .ok (.getfield 61, 3) := by decide +kernel
theorem dX7_fill_57 : decode cX7_fill 57 = .ok (.iconst 1, 1) := by decide +kernel
theorem dX7_fill_58 : decode cX7_fill 58 = .ok (.iadd, 1) := by decide +kernel
theorem dX7_fill_59 : decode cX7_fill 59 = .ok (.putfield 61, 3) := by decide +kernel
theorem dX7_fill_62 : decode cX7_fill 62 = .ok (.iinc 3 1, 3) := by decide +kernel
theorem dX7_fill_65 : decode cX7_fill 65 = .ok (.goto (-29), 3) := by decide +kernel
theorem dX7_fill_68 : decode cX7_fill 68 = .ok (.aload_n 0, 1) := by decide +kernel
theorem dX7_fill_69 : decode cX7_fill 69 = .ok (.getfield 61, 3) := by decide +kernel
theorem dX7_fill_72 : decode cX7_fill 72 = .ok (.ireturn, 1) := by decide +kernel
theorem dX7_again_0 : decode cX7_again 0 = .ok (.aload_n 0, 1) := by decide +kernel
theorem dX7_again_1 : decode cX7_again 1 = .ok (.iconst 0, 1) := by decide +kernel
theorem dX7_again_2 : decode cX7_again 2 = .ok (.putfield 58, 3) := by decide +kernel
theorem dX7_again_5 : decode cX7_again 5 = .ok (.iload_n 1, 1) := by decide +kernel
theorem dX7_again_6 : decode cX7_again 6 = .ok (.ifCond .lt 27, 3) := by decide +kernel
theorem dX7_again_9 : decode cX7_again 9 = .ok (.iload_n 1, 1) := by decide +kernel
theorem dX7_again_10 : decode cX7_again 10 = .ok (.aload_n 0, 1) := by decide +kernel
theorem dX7_again_11 : decode cX7_again 11 = .ok (.getfield 61, 3) := by decide +kernel
theorem dX7_again_14 : decode cX7_again 14 = .ok (.if_icmp .ge 19, 3) := by decide +kernel
theorem dX7_again_17 : decode cX7_again 17 = .ok (.iload_n 2, 1) := by decide +kernel
theorem dX7_again_18 : decode cX7_again 18 = .ok (.ifCond .lt 15, 3) := by decide +kernel
theorem dX7_again_21 : decode cX7_again 21 = .ok (.iload_n 2, 1) := by decide +kernel
theorem dX7_again_22 : decode cX7_again 22 = .ok (.sipush 20000, 3) := by decide +kernel
theorem dX7_again_25 : decode cX7_again 25 = .ok (.aload_n 0, 1) := by decide +kernel
theorem dX7_again_26 : decode cX7_again 26 = .ok (.getfield 61, 3) := by decide +kernel
theorem dX7_again_29 : decode cX7_again 29 = .ok (.isub, 1) := by decide +kernel
theorem dX7_again_30 : decode cX7_again 30 = .ok (.if_icmp .le 5, 3) := by decide +kernel
theorem dX7_again_33 : decode cX7_again 33 = .ok (.iconst (-1), 1) := by decide +kernel
theorem dX7_again_34 : decode cX7_again 34 = .ok (.ireturn, 1) := by decide +kernel
theorem dX7_again_35 : decode cX7_again 35 = .ok (.iconst 0, 1) := by decide +kernel
theorem dX7_again_36 : decode cX7_again 36 = .ok (.istore_n 3, 1) := by decide +kernel
theorem dX7_again_37 : decode cX7_again 37 = .ok (.iload_n 3, 1) := by decide +kernel
theorem dX7_again_38 : decode cX7_again 38 = .ok (.iload_n 2, 1) := by decide +kernel
theorem dX7_again_39 : decode cX7_again 39 = .ok (.if_icmp .ge 36, 3) := by decide +kernel
theorem dX7_again_42 : decode cX7_again 42 = .ok (.aload_n 0, 1) := by decide +kernel
theorem dX7_again_43 : decode cX7_again 43 = .ok (.getfield 7, 3) := by decide +kernel
theorem dX7_again_46 : decode cX7_again 46 = .ok (.aload_n 0, 1) := by decide +kernel
theorem dX7_again_47 : decode cX7_again 47 = .ok (.getfield 61, 3) := by decide +kernel
theorem dX7_again_50 : decode cX7_again 50 = .ok (.aload_n 0, 1) := by decide +kernel
theorem dX7_again_51 : decode cX7_again 51 = .ok (.getfield 7, 3) := by decide +kernel
theorem dX7_again_54 : decode cX7_again 54 = .ok (.iload_n 1, 1) := by decide +kernel
theorem dX7_again_55 : decode cX7_again 55 = .ok (.iload_n 3, 1) := by decide +kernel
theorem dX7_again_56 : decode cX7_again 56 = .ok (.iadd, 1) := by decide +kernel
theorem dX7_again_57 : decode cX7_again 57 = .ok (.baload, 1) := by decide +kernel
theorem dX7_again_58 : decode cX7_again 58 = .ok (.bastore, 1) := by decide +kernel
theorem dX7_again_59 : decode cX7_again 59 = .ok (.aload_n 0, 1) := by decide +kernel
theorem dX7_again_60 : decode cX7_again 60 = .ok (.dup, 1) := by decide +kernel
theorem dX7_again_61 : decode cX7_again 61 = .ok (.getfield 61, 3) := by decide +kernel
theorem dX7_again_64 : decode cX7_again 64 = .ok (.iconst 1, 1) := by decide +kernel
theorem dX7_again_65 : decode cX7_again 65 = .ok (.iadd, 1) := by decide +kernel
theorem dX7_again_66 : decode cX7_again 66 = .ok (.putfield 61, 3) := by decide +kernel
theorem dX7_again_69 : decode cX7_again 69 = .ok (.iinc 3 1, 3) := by decide +kernel
theorem dX7_again_72 : decode cX7_again 72 = .ok (.goto (-35), 3) := by decide +kernel
theorem dX7_again_75 : decode cX7_again 75 = .ok (.aload_n 0, 1) := by decide +kernel
theorem dX7_again_76 : decode cX7_again 76 = .ok (.getfield 61, 3) := by decide +kernel
theorem dX7_again_79 : decode cX7_again 79 = .ok (.ireturn, 1) := by decide +kernel
theorem dX7_cut_0 : decode cX7_cut 0 = .ok (.aload_n 0, 1) := by decide +kernel
theorem dX7_cut_1 : decode cX7_cut 1 = .ok (.iconst 0, 1) := by decide +kernel
theorem dX7_cut_2 : decode cX7_cut 2 = .ok (.putfield 58, 3) := by decide +kernel
theorem dX7_cut_5 : decode cX7_cut 5 = .ok (.iload_n 1, 1) := by decide +kernel
theorem dX7_cut_6 : decode cX7_cut 6 = .ok (.ifCond .lt 11, 3) := by decide +kernel
theorem dX7_cut_9 : decode cX7_cut 9 = .ok (.iload_n 1, 1) := by decide +kernel
theorem dX7_cut_10 : decode cX7_cut 10 = .ok (.aload_n 0, 1) := by decide +kernel
theorem dX7_cut_11 : decode cX7_cut 11 = .ok (.getfield 61, 3) := by decide +kernel
theorem dX7_cut_14 : decode cX7_cut 14 = .ok (.if_icmp .le 5, 3) := by decide +kernel
theorem dX7_cut_17 : decode cX7_cut 17 = .ok (.iconst (-1), 1) := by decide +kernel
theorem dX7_cut_18 : decode cX7_cut 18 = .ok (.ireturn, 1) := by decide +kernel
theorem dX7_cut_19 : decode cX7_cut 19 = .ok (.aload_n 0, 1) := by decide +kernel
theorem dX7_cut_20 : decode cX7_cut 20 = .ok (.iload_n 1, 1) := by decide +kernel
theorem dX7_cut_21 : decode cX7_cut 21 = .ok (.putfield 61, 3) := by decide +kernel
theorem dX7_cut_24 : decode cX7_cut 24 = .ok (.iload_n 1, 1) := by decide +kernel
theorem dX7_cut_25 : decode cX7_cut 25 = .ok (.ireturn, 1) := by decide +kernel
theorem dX7_set_0 : decode cX7_set 0 = .ok (.aload_n 0, 1) := by decide +kernel
theorem dX7_set_1 : decode cX7_set 1 = .ok (.iconst 0, 1) := by decide +kernel
theorem dX7_set_2 : decode cX7_set 2 = .ok (.putfield 58, 3) := by decide +kernel
theorem dX7_set_5 : decode cX7_set 5 = .ok (.iload_n 1, 1) := by decide +kernel
theorem dX7_set_6 : decode cX7_set 6 = .ok (.ifCond .lt 22, 3) := by decide +kernel
theorem dX7_set_9 : decode cX7_set 9 = .ok (.iload_n 1, 1) := by decide +kernel
theorem dX7_set_10 : decode cX7_set 10 = .ok (.aload_n 0, 1) := by decide +kernel
theorem dX7_set_11 : decode cX7_set 11 = .ok (.getfield 61, 3) := by decide +kernel
theorem dX7_set_14 : decode cX7_set 14 = .ok (.if_icmp .ge 14, 3) := by decide +kernel
theorem dX7_set_17 : decode cX7_set 17 = .ok (.iload_n 2, 1) := by decide +kernel
theorem dX7_set_18 : decode cX7_set 18 = .ok (.ifCond .lt 10, 3) := by decide +kernel
theorem dX7_set_21 : decode cX7_set 21 = .ok (.iload_n 2, 1) := by decide +kernel
theorem dX7_set_22 : decode cX7_set 22 = .ok (.sipush 255, 3) := by decide +kernel
theorem dX7_set_25 : decode cX7_set 25 = .ok (.if_icmp .le 5, 3) := by decide +kernel
theorem dX7_set_28 : decode cX7_set 28 = .ok (.iconst (-1), 1) := by decide +kernel
theorem dX7_set_29 : decode cX7_set 29 = .ok (.ireturn, 1) := by decide +kernel
theorem dX7_set_30 : decode cX7_set 30 = .ok (.aload_n 0, 1) := by decide +kernel
theorem dX7_set_31 : decode cX7_set 31 = .ok (.getfield 7, 3) := by decide +kernel
theorem dX7_set_34 : decode cX7_set 34 = .ok (.iload_n 1, 1) := by decide +kernel
theorem dX7_set_35 : decode cX7_set 35 = .ok (.baload, 1) := by decide +kernel
theorem dX7_set_36 : decode cX7_set 36 = .ok (.sipush 255, 3) := by decide +kernel
theorem dX7_set_39 : decode cX7_set 39 = .ok (.iand, 1) := by decide +kernel
theorem dX7_set_40 : decode cX7_set 40 = .ok (.istore_n 3, 1) := by decide +kernel
theorem dX7_set_41 : decode cX7_set 41 = .ok (.aload_n 0, 1) := by decide +kernel
theorem dX7_set_42 : decode cX7_set 42 = .ok (.getfield 7, 3) := by decide +kernel
theorem dX7_set_45 : decode cX7_set 45 = .ok (.iload_n 1, 1) := by decide +kernel
theorem dX7_set_46 : decode cX7_set 46 = .ok (.iload_n 2, 1) := by decide +kernel
theorem dX7_set_47 : decode cX7_set 47 = .ok (.i2b, 1) := by decide +kernel
theorem dX7_set_48 : decode cX7_set 48 = .ok (.bastore, 1) := by decide +kernel
theorem dX7_set_49 : decode cX7_set 49 = .ok (.iload_n 3, 1) := by decide +kernel
theorem dX7_set_50 : decode cX7_set 50 = .ok (.ireturn, 1) := by decide +kernel
theorem dX7_take_0 : decode cX7_take 0 = .ok (.aload_n 0, 1) := by decide +kernel
theorem dX7_take_1 : decode cX7_take 1 = .ok (.iconst 0, 1) := by decide +kernel
theorem dX7_take_2 : decode cX7_take 2 = .ok (.putfield 58, 3) := by decide +kernel
theorem dX7_take_5 : decode cX7_take 5 = .ok (.aload_n 0, 1) := by decide +kernel
theorem dX7_take_6 : decode cX7_take 6 = .ok (.getfield 68, 3) := by decide +kernel
theorem dX7_take_9 : decode cX7_take 9 = .ok (.sipush 20000, 3) := by decide +kernel
theorem dX7_take_12 : decode cX7_take 12 = .ok (.if_icmp .le 5, 3) := by decide +kernel
theorem dX7_take_15 : decode cX7_take 15 = .ok (.iconst (-1), 1) := by decide +kernel
theorem dX7_take_16 : decode cX7_take 16 = .ok (.ireturn, 1) := by decide +kernel
theorem dX7_take_17 : decode cX7_take 17 = .ok (.iconst 0, 1) := by decide +kernel
theorem dX7_take_18 : decode cX7_take 18 = .ok (.istore_n 1, 1) := by decide +kernel
theorem dX7_take_19 : decode cX7_take 19 = .ok (.iload_n 1, 1) := by decide +kernel
theorem dX7_take_20 : decode cX7_take 20 = .ok (.aload_n 0, 1) := by decide +kernel
theorem dX7_take_21 : decode cX7_take 21 = .ok (.getfield 68, 3) := by decide +kernel
theorem dX7_take_24 : decode cX7_take 24 = .ok (.if_icmp .ge 21, 3) := by decide +kernel
theorem dX7_take_27 : decode cX7_take 27 = .ok (.aload_n 0, 1) := by decide +kernel
theorem dX7_take_28 : decode cX7_take 28 = .ok (.getfield 7, 3) := by decide +kernel
theorem dX7_take_31 : decode cX7_take 31 = .ok (.iload_n 1, 1) := by decide +kernel
theorem dX7_take_32 : decode cX7_take 32 = .ok (.aload_n 0, 1) := by decide +kernel
theorem dX7_take_33 : decode cX7_take 33 = .ok (.getfield 13, 3) := by decide +kernel
theorem dX7_take_36 : decode cX7_take 36 = .ok (.iload_n 1, 1) := by decide +kernel
theorem dX7_take_37 : decode cX7_take 37 = .ok (.baload, 1) := by decide +kernel
theorem dX7_take_38 : decode cX7_take 38 = .ok (.bastore, 1) := by decide +kernel
theorem dX7_take_39 : decode cX7_take 39 = .ok (.iinc 1 1, 3) := by decide +kernel
theorem dX7_take_42 : decode cX7_take 42 = .ok (.goto (-23), 3) := by decide +kernel
theorem dX7_take_45 : decode cX7_take 45 = .ok (.aload_n 0, 1) := by decide +kernel
theorem dX7_take_46 : decode cX7_take 46 = .ok (.aload_n 0, 1) := by decide +kernel
theorem dX7_take_47 : decode cX7_take 47 = .ok (.getfield 68, 3) := by decide +kernel
theorem dX7_take_50 : decode cX7_take 50 = .ok (.putfield 61, 3) := by decide +kernel
theorem dX7_take_53 : decode cX7_take 53 = .ok (.aload_n 0, 1) := by decide +kernel
theorem dX7_take_54 : decode cX7_take 54 = .ok (.getfield 61, 3) := by decide +kernel
theorem dX7_take_57 : decode cX7_take 57 = .ok (.ireturn, 1) := by decide +kernel
theorem dX7_tape_0 : decode cX7_tape 0 = .ok (.aload_n 0, 1) := by decide +kernel
theorem dX7_tape_1 : decode cX7_tape 1 = .ok (.iconst 0, 1) := by decide +kernel
theorem dX7_tape_2 : decode cX7_tape 2 = .ok (.putfield 58, 3) := by decide +kernel
theorem dX7_tape_5 : decode cX7_tape 5 = .ok (.iload_n 1, 1) := by decide +kernel
theorem dX7_tape_6 : decode cX7_tape 6 = .ok (.ifCond .lt 24, 3) := by decide +kernel
theorem dX7_tape_9 : decode cX7_tape 9 = .ok (.iload_n 1, 1) := by decide +kernel
theorem dX7_tape_10 : decode cX7_tape 10 = .ok (.aload_n 0, 1) := by decide +kernel
theorem dX7_tape_11 : decode cX7_tape 11 = .ok (.getfield 61, 3) := by decide +kernel
theorem dX7_tape_14 : decode cX7_tape 14 = .ok (.if_icmp .ge 16, 3) := by decide +kernel
theorem dX7_tape_17 : decode cX7_tape 17 = .ok (.aload_n 0, 1) := by decide +kernel
theorem dX7_tape_18 : decode cX7_tape 18 = .ok (.getfield 7, 3) := by decide +kernel
theorem dX7_tape_21 : decode cX7_tape 21 = .ok (.iload_n 1, 1) := by decide +kernel
theorem dX7_tape_22 : decode cX7_tape 22 = .ok (.baload, 1) := by decide +kernel
theorem dX7_tape_23 : decode cX7_tape 23 = .ok (.sipush 255, 3) := by decide +kernel
theorem dX7_tape_26 : decode cX7_tape 26 = .ok (.iand, 1) := by decide +kernel
theorem dX7_tape_27 : decode cX7_tape 27 = .ok (.goto 4, 3) := by decide +kernel
theorem dX7_tape_30 : decode cX7_tape 30 = .ok (.iconst (-1), 1) := by decide +kernel
theorem dX7_tape_31 : decode cX7_tape 31 = .ok (.ireturn, 1) := by decide +kernel
theorem dX7_out_0 : decode cX7_out 0 = .ok (.aload_n 0, 1) := by decide +kernel
theorem dX7_out_1 : decode cX7_out 1 = .ok (.iload_n 1, 1) := by decide +kernel
theorem dX7_out_2 : decode cX7_out 2 = .ok (.ifCond .lt 15, 3) := by decide +kernel
theorem dX7_out_5 : decode cX7_out 5 = .ok (.iload_n 1, 1) := by decide +kernel
theorem dX7_out_6 : decode cX7_out 6 = .ok (.aload_n 0, 1) := by decide +kernel
theorem dX7_out_7 : decode cX7_out 7 = .ok (.getfield 68, 3) := by decide +kernel
theorem dX7_out_10 : decode cX7_out 10 = .ok (.if_icmp .ge 7, 3) := by decide +kernel
theorem dX7_out_13 : decode cX7_out 13 = .ok (.iconst 0, 1) := by decide +kernel
theorem dX7_out_14 : decode cX7_out 14 = .ok (.goto 4, 3) := by decide +kernel
theorem dX7_out_17 : decode cX7_out 17 = .ok (.iconst 1, 1) := by decide +kernel
theorem dX7_out_18 : decode cX7_out 18 = .ok (.putfield 58, 3) := by decide +kernel
theorem dX7_out_21 : decode cX7_out 21 = .ok (.aload_n 0, 1) := by decide +kernel
theorem dX7_out_22 : decode cX7_out 22 = .ok (.getfield 58, 3) := by decide +kernel
theorem dX7_out_25 : decode cX7_out 25 = .ok (.ifCond .ne 16, 3) := by decide +kernel
theorem dX7_out_28 : decode cX7_out 28 = .ok (.aload_n 0, 1) := by decide +kernel
theorem dX7_out_29 : decode cX7_out 29 = .ok (.getfield 13, 3) := by decide +kernel
theorem dX7_out_32 : decode cX7_out 32 = .ok (.iload_n 1, 1) := by decide +kernel
theorem dX7_out_33 : decode cX7_out 33 = .ok (.baload, 1) := by decide +kernel
theorem dX7_out_34 : decode cX7_out 34 = .ok (.sipush 255, 3) := by decide +kernel
theorem dX7_out_37 : decode cX7_out 37 = .ok (.iand, 1) := by decide +kernel
theorem dX7_out_38 : decode cX7_out 38 = .ok (.goto 4, 3) := by decide +kernel
theorem dX7_out_41 : decode cX7_out 41 = .ok (.iconst 0, 1) := by decide +kernel
theorem dX7_out_42 : decode cX7_out 42 = .ok (.ireturn, 1) := by decide +kernel
theorem dX7_at_0 : decode cX7_at 0 = .ok (.aload_n 0, 1) := by decide +kernel
theorem dX7_at_1 : decode cX7_at 1 = .ok (.getfield 7, 3) := by decide +kernel
theorem dX7_at_4 : decode cX7_at 4 = .ok (.iload_n 1, 1) := by decide +kernel
theorem dX7_at_5 : decode cX7_at 5 = .ok (.baload, 1) := by decide +kernel
theorem dX7_at_6 : decode cX7_at 6 = .ok (.sipush 255, 3) := by decide +kernel
theorem dX7_at_9 : decode cX7_at 9 = .ok (.iand, 1) := by decide +kernel
theorem dX7_at_10 : decode cX7_at 10 = .ok (.ireturn, 1) := by decide +kernel
theorem dX7_keyOf_0 : decode cX7_keyOf 0 = .ok (.aload_n 0, 1) := by decide +kernel
theorem dX7_keyOf_1 : decode cX7_keyOf 1 = .ok (.iload_n 1, 1) := by decide +kernel
theorem dX7_keyOf_2 : decode cX7_keyOf 2 = .ok (.invokevirtual 71, 3) := by decide +kernel
theorem dX7_keyOf_5 : decode cX7_keyOf 5 = .ok (.aload_n 0, 1) := by decide +kernel
theorem dX7_keyOf_6 : decode cX7_keyOf 6 = .ok (.iload_n 1, 1) := by decide +kernel
theorem dX7_keyOf_7 : decode cX7_keyOf 7 = .ok (.iconst 1, 1) := by decide +kernel
theorem dX7_keyOf_8 : decode cX7_keyOf 8 = .ok (.iadd, 1) := by decide +kernel
theorem dX7_keyOf_9 : decode cX7_keyOf 9 = .ok (.invokevirtual 71, 3) := by decide +kernel
theorem dX7_keyOf_12 : decode cX7_keyOf 12 = .ok (.bipush 8, 2) := by decide +kernel
theorem dX7_keyOf_14 : decode cX7_keyOf 14 = .ok (.ishl, 1) := by decide +kernel
theorem dX7_keyOf_15 : decode cX7_keyOf 15 = .ok (.ior, 1) := by decide +kernel
theorem dX7_keyOf_16 : decode cX7_keyOf 16 = .ok (.aload_n 0, 1) := by decide +kernel
theorem dX7_keyOf_17 : decode cX7_keyOf 17 = .ok (.iload_n 1, 1) := by decide +kernel
theorem dX7_keyOf_18 : decode cX7_keyOf 18 = .ok (.iconst 2, 1) := by decide +kernel
theorem dX7_keyOf_19 : decode cX7_keyOf 19 = .ok (.iadd, 1) := by decide +kernel
theorem dX7_keyOf_20 : decode cX7_keyOf 20 = .ok (.invokevirtual 71, 3) := by decide +kernel
theorem dX7_keyOf_23 : decode cX7_keyOf 23 = .ok (.bipush 16, 2) := by decide +kernel
theorem dX7_keyOf_25 : decode cX7_keyOf 25 = .ok (.ishl, 1) := by decide +kernel
theorem dX7_keyOf_26 : decode cX7_keyOf 26 = .ok (.ior, 1) := by decide +kernel
theorem dX7_keyOf_27 : decode cX7_keyOf 27 = .ok (.aload_n 0, 1) := by decide +kernel
theorem dX7_keyOf_28 : decode cX7_keyOf 28 = .ok (.iload_n 1, 1) := by decide +kernel
theorem dX7_keyOf_29 : decode cX7_keyOf 29 = .ok (.iconst 3, 1) := by decide +kernel
theorem dX7_keyOf_30 : decode cX7_keyOf 30 = .ok (.iadd, 1) := by decide +kernel
theorem dX7_keyOf_31 : decode cX7_keyOf 31 = .ok (.invokevirtual 71, 3) := by decide +kernel
theorem dX7_keyOf_34 : decode cX7_keyOf 34 = .ok (.bipush 24, 2) := by decide +kernel
theorem dX7_keyOf_36 : decode cX7_keyOf 36 = .ok (.ishl, 1) := by decide +kernel
theorem dX7_keyOf_37 : decode cX7_keyOf 37 = .ok (.ior, 1) := by decide +kernel
theorem dX7_keyOf_38 : decode cX7_keyOf 38 = .ok (.istore_n 2, 1) := by decide +kernel
theorem dX7_keyOf_39 : decode cX7_keyOf 39 = .ok (.iload_n 2, 1) := by decide +kernel
theorem dX7_keyOf_40 : decode cX7_keyOf 40 = .ok (.ldc 75, 2) := by decide +kernel
theorem dX7_keyOf_42 : decode cX7_keyOf 42 = .ok (.imul, 1) := by decide +kernel
theorem dX7_keyOf_43 : decode cX7_keyOf 43 = .ok (.bipush 18, 2) := by decide +kernel
theorem dX7_keyOf_45 : decode cX7_keyOf 45 = .ok (.iushr, 1) := by decide +kernel
theorem dX7_keyOf_46 : decode cX7_keyOf 46 = .ok (.ireturn, 1) := by decide +kernel
theorem dX7_areFour_0 : decode cX7_areFour 0 = .ok (.aload_n 0, 1) := by decide +kernel
theorem dX7_areFour_1 : decode cX7_areFour 1 = .ok (.getfield 7, 3) := by decide +kernel
theorem dX7_areFour_4 : decode cX7_areFour 4 = .ok (.iload_n 1, 1) := by decide +kernel
theorem dX7_areFour_5 : decode cX7_areFour 5 = .ok (.baload, 1) := by decide +kernel
theorem dX7_areFour_6 : decode cX7_areFour 6 = .ok (.aload_n 0, 1) := by decide +kernel
theorem dX7_areFour_7 : decode cX7_areFour 7 = .ok (.getfield 7, 3) := by decide +kernel
theorem dX7_areFour_10 : decode cX7_areFour 10 = .ok (.iload_n 2, 1) := by decide +kernel
theorem dX7_areFour_11 : decode cX7_areFour 11 = .ok (.baload, 1) := by decide +kernel
theorem dX7_areFour_12 : decode cX7_areFour 12 = .ok (.if_icmp .ne 64, 3) := by decide +kernel
theorem dX7_areFour_15 : decode cX7_areFour 15 = .ok (.aload_n 0, 1) := by decide +kernel
theorem dX7_areFour_16 : decode cX7_areFour 16 = .ok (.getfield 7, 3) := by decide +kernel
theorem dX7_areFour_19 : decode cX7_areFour 19 = .ok (.iload_n 1, 1) := by decide +kernel
theorem dX7_areFour_20 : decode cX7_areFour 20 = .ok (.iconst 1, 1) := by decide +kernel
theorem dX7_areFour_21 : decode cX7_areFour 21 = .ok (.iadd, 1) := by decide +kernel
theorem dX7_areFour_22 : decode cX7_areFour 22 = .ok (.baload, 1) := by decide +kernel
theorem dX7_areFour_23 : decode cX7_areFour 23 = .ok (.aload_n 0, 1) := by decide +kernel
theorem dX7_areFour_24 : decode cX7_areFour 24 = .ok (.getfield 7, 3) := by decide +kernel
theorem dX7_areFour_27 : decode cX7_areFour 27 = .ok (.iload_n 2, 1) := by decide +kernel
theorem dX7_areFour_28 : decode cX7_areFour 28 = .ok (.iconst 1, 1) := by decide +kernel
theorem dX7_areFour_29 : decode cX7_areFour 29 = .ok (.iadd, 1) := by decide +kernel
theorem dX7_areFour_30 : decode cX7_areFour 30 = .ok (.baload, 1) := by decide +kernel
theorem dX7_areFour_31 : decode cX7_areFour 31 = .ok (.if_icmp .ne 45, 3) := by decide +kernel
theorem dX7_areFour_34 : decode cX7_areFour 34 = .ok (.aload_n 0, 1) := by decide +kernel
theorem dX7_areFour_35 : decode cX7_areFour 35 = .ok (.getfield 7, 3) := by decide +kernel
theorem dX7_areFour_38 : decode cX7_areFour 38 = .ok (.iload_n 1, 1) := by decide +kernel
theorem dX7_areFour_39 : decode cX7_areFour 39 = .ok (.iconst 2, 1) := by decide +kernel
theorem dX7_areFour_40 : decode cX7_areFour 40 = .ok (.iadd, 1) := by decide +kernel
theorem dX7_areFour_41 : decode cX7_areFour 41 = .ok (.baload, 1) := by decide +kernel
theorem dX7_areFour_42 : decode cX7_areFour 42 = .ok (.aload_n 0, 1) := by decide +kernel
theorem dX7_areFour_43 : decode cX7_areFour 43 = .ok (.getfield 7, 3) := by decide +kernel
theorem dX7_areFour_46 : decode cX7_areFour 46 = .ok (.iload_n 2, 1) := by decide +kernel
theorem dX7_areFour_47 : decode cX7_areFour 47 = .ok (.iconst 2, 1) := by decide +kernel
theorem dX7_areFour_48 : decode cX7_areFour 48 = .ok (.iadd, 1) := by decide +kernel
theorem dX7_areFour_49 : decode cX7_areFour 49 = .ok (.baload, 1) := by decide +kernel
theorem dX7_areFour_50 : decode cX7_areFour 50 = .ok (.if_icmp .ne 26, 3) := by decide +kernel
theorem dX7_areFour_53 : decode cX7_areFour 53 = .ok (.aload_n 0, 1) := by decide +kernel
theorem dX7_areFour_54 : decode cX7_areFour 54 = .ok (.getfield 7, 3) := by decide +kernel
theorem dX7_areFour_57 : decode cX7_areFour 57 = .ok (.iload_n 1, 1) := by decide +kernel
theorem dX7_areFour_58 : decode cX7_areFour 58 = .ok (.iconst 3, 1) := by decide +kernel
theorem dX7_areFour_59 : decode cX7_areFour 59 = .ok (.iadd, 1) := by decide +kernel
theorem dX7_areFour_60 : decode cX7_areFour 60 = .ok (.baload, 1) := by decide +kernel
theorem dX7_areFour_61 : decode cX7_areFour 61 = .ok (.aload_n 0, 1) := by decide +kernel
theorem dX7_areFour_62 : decode cX7_areFour 62 = .ok (.getfield 7, 3) := by decide +kernel
theorem dX7_areFour_65 : decode cX7_areFour 65 = .ok (.iload_n 2, 1) := by decide +kernel
theorem dX7_areFour_66 : decode cX7_areFour 66 = .ok (.iconst 3, 1) := by decide +kernel
theorem dX7_areFour_67 : decode cX7_areFour 67 = .ok (.iadd, 1) := by decide +kernel
theorem dX7_areFour_68 : decode cX7_areFour 68 = .ok (.baload, 1) := by decide +kernel
theorem dX7_areFour_69 : decode cX7_areFour 69 = .ok (.if_icmp .ne 7, 3) := by decide +kernel
theorem dX7_areFour_72 : decode cX7_areFour 72 = .ok (.iconst 1, 1) := by decide +kernel
theorem dX7_areFour_73 : decode cX7_areFour 73 = .ok (.goto 4, 3) := by decide +kernel
theorem dX7_areFour_76 : decode cX7_areFour 76 = .ok (.iconst 0, 1) := by decide +kernel
theorem dX7_areFour_77 : decode cX7_areFour 77 = .ok (.ireturn, 1) := by decide +kernel
theorem dX7_pack_0 : decode cX7_pack 0 = .ok (.aload_n 0, 1) := by decide +kernel
theorem dX7_pack_1 : decode cX7_pack 1 = .ok (.getfield 19, 3) := by decide +kernel
theorem dX7_pack_4 : decode cX7_pack 4 = .ok (.aload_n 0, 1) := by decide +kernel
theorem dX7_pack_5 : decode cX7_pack 5 = .ok (.getfield 76, 3) := by decide +kernel
theorem dX7_pack_8 : decode cX7_pack 8 = .ok (.iload_n 1, 1) := by decide +kernel
theorem dX7_pack_9 : decode cX7_pack 9 = .ok (.i2b, 1) := by decide +kernel
theorem dX7_pack_10 : decode cX7_pack 10 = .ok (.bastore, 1) := by decide +kernel
theorem dX7_pack_11 : decode cX7_pack 11 = .ok (.aload_n 0, 1) := by decide +kernel
theorem dX7_pack_12 : decode cX7_pack 12 = .ok (.dup, 1) := by decide +kernel
theorem dX7_pack_13 : decode cX7_pack 13 = .ok (.getfield 76, 3) := by decide +kernel
theorem dX7_pack_16 : decode cX7_pack 16 = .ok (.iconst 1, 1) := by decide +kernel
theorem dX7_pack_17 : decode cX7_pack 17 = .ok (.iadd, 1) := by decide +kernel
theorem dX7_pack_18 : decode cX7_pack 18 = .ok (.putfield 76, 3) := by decide +kernel
theorem dX7_pack_21 : decode cX7_pack 21 = .ok (.return_, 1) := by decide +kernel
theorem dX7_pressPart_0 : decode cX7_pressPart 0 = .ok (.iload_n 2, 1) := by decide +kernel
theorem dX7_pressPart_1 : decode cX7_pressPart 1 = .ok (.iload_n 1, 1) := by decide +kernel
theorem dX7_pressPart_2 : decode cX7_pressPart 2 = .ok (.isub, 1) := by decide +kernel
theorem dX7_pressPart_3 : decode cX7_pressPart 3 = .ok (.istore_n 3, 1) := by decide +kernel
theorem dX7_pressPart_4 : decode cX7_pressPart 4 = .ok (.iload_n 3, 1) := by decide +kernel
theorem dX7_pressPart_5 : decode cX7_pressPart 5 = .ok (.istore 4, 2) := by decide +kernel
theorem dX7_pressPart_7 : decode cX7_pressPart 7 = .ok (.iload 4, 2) := by decide +kernel
theorem dX7_pressPart_9 : decode cX7_pressPart 9 = .ok (.bipush 127, 2) := by decide +kernel
theorem dX7_pressPart_11 : decode cX7_pressPart 11 = .ok (.if_icmp .le 26, 3) := by decide +kernel
theorem dX7_pressPart_14 : decode cX7_pressPart 14 = .ok (.aload_n 0, 1) := by decide +kernel
theorem dX7_pressPart_15 : decode cX7_pressPart 15 = .ok (.sipush 128, 3) := by decide +kernel
theorem dX7_pressPart_18 : decode cX7_pressPart 18 = .ok (.iload 4, 2) := by decide +kernel
theorem dX7_pressPart_20 : decode cX7_pressPart 20 = .ok (.bipush 127, 2) := by decide +kernel
theorem dX7_pressPart_22 : decode cX7_pressPart 22 = .ok (.iand, 1) := by decide +kernel
theorem dX7_pressPart_23 : decode cX7_pressPart 23 = .ok (.ior, 1) := by decide +kernel
theorem dX7_pressPart_24 : decode cX7_pressPart 24 = .ok (.invokevirtual 79, 3) := by decide +kernel
theorem dX7_pressPart_27 : decode cX7_pressPart 27 = .ok (.iload 4, 2) := by decide +kernel
theorem dX7_pressPart_29 : decode cX7_pressPart 29 = .ok (.bipush 7, 2) := by decide +kernel
theorem dX7_pressPart_31 : decode cX7_pressPart 31 = .ok (.ishr, 1) := by decide +kernel
theorem dX7_pressPart_32 : decode cX7_pressPart 32 = .ok (.istore 4, 2) := by decide +kernel
theorem dX7_pressPart_34 : decode cX7_pressPart 34 = .ok (.goto (-27), 3) := by decide +kernel
theorem dX7_pressPart_37 : decode cX7_pressPart 37 = .ok (.aload_n 0, 1) := by decide +kernel
theorem dX7_pressPart_38 : decode cX7_pressPart 38 = .ok (.iload 4, 2) := by decide +kernel
theorem dX7_pressPart_40 : decode cX7_pressPart 40 = .ok (.invokevirtual 79, 3) := by decide +kernel
theorem dX7_pressPart_43 : decode cX7_pressPart 43 = .ok (.iconst 0, 1) := by decide +kernel
theorem dX7_pressPart_44 : decode cX7_pressPart 44 = .ok (.istore 5, 2) := by decide +kernel
theorem dX7_pressPart_46 : decode cX7_pressPart 46 = .ok (.iload 5, 2) := by decide +kernel
theorem dX7_pressPart_48 : decode cX7_pressPart 48 = .ok (.sipush 16384, 3) := by decide +kernel
theorem dX7_pressPart_51 : decode cX7_pressPart 51 = .ok (.if_icmp .ge 17, 3) := by decide +kernel
theorem dX7_pressPart_54 : decode cX7_pressPart 54 = .ok (.aload_n 0, 1) := by decide +kernel
theorem dX7_pressPart_55 : decode cX7_pressPart 55 = .ok (.getfield 22, 3) := by decide +kernel
theorem dX7_pressPart_58 : decode cX7_pressPart 58 = .ok (.iload 5, 2) := by decide +kernel
theorem dX7_pressPart_60 : decode cX7_pressPart 60 = .ok (.iconst (-1), 1) := by decide +kernel
theorem dX7_pressPart_61 : decode cX7_pressPart 61 = .ok (.iastore, 1) := by decide +kernel
theorem dX7_pressPart_62 : decode cX7_pressPart 62 = .ok (.iinc 5 1, 3) := by decide +kernel
theorem dX7_pressPart_65 : decode cX7_pressPart 65 = .ok (.goto (-19), 3) := by decide +kernel
theorem dX7_pressPart_68 : decode cX7_pressPart 68 = .ok (.iload_n 1, 1) := by decide +kernel
theorem dX7_pressPart_69 : decode cX7_pressPart 69 = .ok (.istore 5, 2) := by decide +kernel
theorem dX7_pressPart_71 : decode cX7_pressPart 71 = .ok (.iload_n 1, 1) := by decide +kernel
theorem dX7_pressPart_72 : decode cX7_pressPart 72 = .ok (.istore 6, 2) := by decide +kernel
theorem dX7_pressPart_74 : decode cX7_pressPart 74 = .ok (.iload_n 1, 1) := by decide +kernel
theorem dX7_pressPart_75 : decode cX7_pressPart 75 = .ok (.istore 7, 2) := by decide +kernel
theorem dX7_pressPart_77 : decode cX7_pressPart 77 = .ok (.iload 7, 2) := by decide +kernel
theorem dX7_pressPart_79 : decode cX7_pressPart 79 = .ok (.iconst 4, 1) := by decide +kernel
theorem dX7_pressPart_80 : decode cX7_pressPart 80 = .ok (.iadd, 1) := by decide +kernel
theorem dX7_pressPart_81 : decode cX7_pressPart 81 = .ok (.iload_n 2, 1) := by decide +kernel
theorem dX7_pressPart_82 : decode cX7_pressPart 82 = .ok (.if_icmp .gt 185, 3) := by decide +kernel
theorem dX7_pressPart_85 : decode cX7_pressPart 85 = .ok (.iload 5, 2) := by decide +kernel
theorem dX7_pressPart_87 : decode cX7_pressPart 87 = .ok (.iload 7, 2) := by decide +kernel
theorem dX7_pressPart_89 : decode cX7_pressPart 89 = .ok (.if_icmp .ge 48, 3) := by decide +kernel
theorem dX7_pressPart_92 : decode cX7_pressPart 92 = .ok (.iload 5, 2) := by decide +kernel
theorem dX7_pressPart_94 : decode cX7_pressPart 94 = .ok (.iconst 4, 1) := by decide +kernel
theorem dX7_pressPart_95 : decode cX7_pressPart 95 = .ok (.iadd, 1) := by decide +kernel
theorem dX7_pressPart_96 : decode cX7_pressPart 96 = .ok (.iload_n 2, 1) := by decide +kernel
theorem dX7_pressPart_97 : decode cX7_pressPart 97 = .ok (.if_icmp .gt 34, 3) := by decide +kernel
theorem dX7_pressPart_100 : decode cX7_pressPart 100 = .ok (.aload_n 0, 1) := by decide +kernel
theorem dX7_pressPart_101 : decode cX7_pressPart 101 = .ok (.iload 5, 2) := by decide +kernel
theorem dX7_pressPart_103 : decode cX7_pressPart 103 = .ok (.invokevirtual 82, 3) := by decide +kernel
theorem dX7_pressPart_106 : decode cX7_pressPart 106 = .ok (.istore 8, 2) := by decide +kernel
theorem dX7_pressPart_108 : decode cX7_pressPart 108 = .ok (.aload_n 0, 1) := by decide +kernel
theorem dX7_pressPart_109 : decode cX7_pressPart 109 = .ok (.getfield 26, 3) := by decide +kernel
theorem dX7_pressPart_112 : decode cX7_pressPart 112 = .ok (.iload 5, 2) := by decide +kernel
theorem dX7_pressPart_114 : decode cX7_pressPart 114 = .ok (.aload_n 0, 1) := by decide +kernel
theorem dX7_pressPart_115 : decode cX7_pressPart 115 = .ok (.getfield 22, 3) := by decide +kernel
theorem dX7_pressPart_118 : decode cX7_pressPart 118 = .ok (.iload 8, 2) := by decide +kernel
theorem dX7_pressPart_120 : decode cX7_pressPart 120 = .ok (.iaload, 1) := by decide +kernel
theorem dX7_pressPart_121 : decode cX7_pressPart 121 = .ok (.iastore, 1) := by decide +kernel
theorem dX7_pressPart_122 : decode cX7_pressPart 122 = .ok (.aload_n 0, 1) := by decide +kernel
theorem dX7_pressPart_123 : decode cX7_pressPart 123 = .ok (.getfield 22, 3) := by decide +kernel
theorem dX7_pressPart_126 : decode cX7_pressPart 126 = .ok (.iload 8, 2) := by decide +kernel
theorem dX7_pressPart_128 : decode cX7_pressPart 128 = .ok (.iload 5, 2) := by decide +kernel
theorem dX7_pressPart_130 : decode cX7_pressPart 130 = .ok (.iastore, 1) := by decide +kernel
end
section
theorem dX7_pressPart_131 : decode cX7_pressPart 131 = .ok (.iinc 5 1, 3) := by decide +kernel
theorem dX7_pressPart_134 : decode cX7_pressPart 134 = .ok (.goto (-49), 3) := by decide +kernel
theorem dX7_pressPart_137 : decode cX7_pressPart 137 = .ok (.aload_n 0, 1) := by decide +kernel
theorem dX7_pressPart_138 : decode cX7_pressPart 138 = .ok (.getfield 22, 3) := by decide +kernel
theorem dX7_pressPart_141 : decode cX7_pressPart 141 = .ok (.aload_n 0, 1) := by decide +kernel
theorem dX7_pressPart_142 : decode cX7_pressPart 142 = .ok (.iload 7, 2) := by decide +kernel
theorem dX7_pressPart_144 : decode cX7_pressPart 144 = .ok (.invokevirtual 82, 3) := by decide +kernel
theorem dX7_pressPart_147 : decode cX7_pressPart 147 = .ok (.iaload, 1) := by decide +kernel
theorem dX7_pressPart_148 : decode cX7_pressPart 148 = .ok (.istore 8, 2) := by decide +kernel
theorem dX7_pressPart_150 : decode cX7_pressPart 150 = .ok (.iload 8, 2) := by decide +kernel
theorem dX7_pressPart_152 : decode cX7_pressPart 152 = .ok (.ifCond .lt 26, 3) := by decide +kernel
theorem dX7_pressPart_155 : decode cX7_pressPart 155 = .ok (.aload_n 0, 1) := by decide +kernel
theorem dX7_pressPart_156 : decode cX7_pressPart 156 = .ok (.iload 8, 2) := by decide +kernel
theorem dX7_pressPart_158 : decode cX7_pressPart 158 = .ok (.iload 7, 2) := by decide +kernel
theorem dX7_pressPart_160 : decode cX7_pressPart 160 = .ok (.invokevirtual 85, 3) := by decide +kernel
theorem dX7_pressPart_163 : decode cX7_pressPart 163 = .ok (.ifCond .ne 15, 3) := by decide +kernel
theorem dX7_pressPart_166 : decode cX7_pressPart 166 = .ok (.aload_n 0, 1) := by decide +kernel
theorem dX7_pressPart_167 : decode cX7_pressPart 167 = .ok (.getfield 26, 3) := by decide +kernel
theorem dX7_pressPart_170 : decode cX7_pressPart 170 = .ok (.iload 8, 2) := by decide +kernel
theorem dX7_pressPart_172 : decode cX7_pressPart 172 = .ok (.iaload, 1) := by decide +kernel
theorem dX7_pressPart_173 : decode cX7_pressPart 173 = .ok (.istore 8, 2) := by decide +kernel
theorem dX7_pressPart_175 : decode cX7_pressPart 175 = .ok (.goto (-25), 3) := by decide +kernel
theorem dX7_pressPart_178 : decode cX7_pressPart 178 = .ok (.iload 8, 2) := by decide +kernel
theorem dX7_pressPart_180 : decode cX7_pressPart 180 = .ok (.ifCond .ge 9, 3) := by decide +kernel
theorem dX7_pressPart_183 : decode cX7_pressPart 183 = .ok (.iinc 7 1, 3) := by decide +kernel
theorem dX7_pressPart_186 : decode cX7_pressPart 186 = .ok (.goto (-109), 3) := by decide +kernel
theorem dX7_pressPart_189 : decode cX7_pressPart 189 = .ok (.aload_n 0, 1) := by decide +kernel
theorem dX7_pressPart_190 : decode cX7_pressPart 190 = .ok (.iload 6, 2) := by decide +kernel
theorem dX7_pressPart_192 : decode cX7_pressPart 192 = .ok (.iload 7, 2) := by decide +kernel
theorem dX7_pressPart_194 : decode cX7_pressPart 194 = .ok (.invokevirtual 89, 3) := by decide +kernel
theorem dX7_pressPart_197 : decode cX7_pressPart 197 = .ok (.iload 7, 2) := by decide +kernel
theorem dX7_pressPart_199 : decode cX7_pressPart 199 = .ok (.iload 8, 2) := by decide +kernel
theorem dX7_pressPart_201 : decode cX7_pressPart 201 = .ok (.isub, 1) := by decide +kernel
theorem dX7_pressPart_202 : decode cX7_pressPart 202 = .ok (.istore 9, 2) := by decide +kernel
theorem dX7_pressPart_204 : decode cX7_pressPart 204 = .ok (.iconst 0, 1) := by decide +kernel
theorem dX7_pressPart_205 : decode cX7_pressPart 205 = .ok (.istore 10, 2) := by decide +kernel
theorem dX7_pressPart_207 : decode cX7_pressPart 207 = .ok (.iload 7, 2) := by decide +kernel
theorem dX7_pressPart_209 : decode cX7_pressPart 209 = .ok (.iload 10, 2) := by decide +kernel
theorem dX7_pressPart_211 : decode cX7_pressPart 211 = .ok (.iadd, 1) := by decide +kernel
theorem dX7_pressPart_212 : decode cX7_pressPart 212 = .ok (.iload_n 2, 1) := by decide +kernel
theorem dX7_pressPart_213 : decode cX7_pressPart 213 = .ok (.if_icmp .ge 32, 3) := by decide +kernel
theorem dX7_pressPart_216 : decode cX7_pressPart 216 = .ok (.aload_n 0, 1) := by decide +kernel
theorem dX7_pressPart_217 : decode cX7_pressPart 217 = .ok (.getfield 7, 3) := by decide +kernel
theorem dX7_pressPart_220 : decode cX7_pressPart 220 = .ok (.iload 8, 2) := by decide +kernel
theorem dX7_pressPart_222 : decode cX7_pressPart 222 = .ok (.iload 10, 2) := by decide +kernel
theorem dX7_pressPart_224 : decode cX7_pressPart 224 = .ok (.iadd, 1) := by decide +kernel
theorem dX7_pressPart_225 : decode cX7_pressPart 225 = .ok (.baload, 1) := by decide +kernel
theorem dX7_pressPart_226 : decode cX7_pressPart 226 = .ok (.aload_n 0, 1) := by decide +kernel
theorem dX7_pressPart_227 : decode cX7_pressPart 227 = .ok (.getfield 7, 3) := by decide +kernel
theorem dX7_pressPart_230 : decode cX7_pressPart 230 = .ok (.iload 7, 2) := by decide +kernel
theorem dX7_pressPart_232 : decode cX7_pressPart 232 = .ok (.iload 10, 2) := by decide +kernel
theorem dX7_pressPart_234 : decode cX7_pressPart 234 = .ok (.iadd, 1) := by decide +kernel
theorem dX7_pressPart_235 : decode cX7_pressPart 235 = .ok (.baload, 1) := by decide +kernel
theorem dX7_pressPart_236 : decode cX7_pressPart 236 = .ok (.if_icmp .ne 9, 3) := by decide +kernel
theorem dX7_pressPart_239 : decode cX7_pressPart 239 = .ok (.iinc 10 1, 3) := by decide +kernel
theorem dX7_pressPart_242 : decode cX7_pressPart 242 = .ok (.goto (-35), 3) := by decide +kernel
theorem dX7_pressPart_245 : decode cX7_pressPart 245 = .ok (.iload 7, 2) := by decide +kernel
theorem dX7_pressPart_247 : decode cX7_pressPart 247 = .ok (.iload 10, 2) := by decide +kernel
theorem dX7_pressPart_249 : decode cX7_pressPart 249 = .ok (.iadd, 1) := by decide +kernel
theorem dX7_pressPart_250 : decode cX7_pressPart 250 = .ok (.istore 7, 2) := by decide +kernel
theorem dX7_pressPart_252 : decode cX7_pressPart 252 = .ok (.aload_n 0, 1) := by decide +kernel
theorem dX7_pressPart_253 : decode cX7_pressPart 253 = .ok (.iload 10, 2) := by decide +kernel
theorem dX7_pressPart_255 : decode cX7_pressPart 255 = .ok (.iload 9, 2) := by decide +kernel
theorem dX7_pressPart_257 : decode cX7_pressPart 257 = .ok (.invokevirtual 93, 3) := by decide +kernel
theorem dX7_pressPart_260 : decode cX7_pressPart 260 = .ok (.iload 7, 2) := by decide +kernel
theorem dX7_pressPart_262 : decode cX7_pressPart 262 = .ok (.istore 6, 2) := by decide +kernel
theorem dX7_pressPart_264 : decode cX7_pressPart 264 = .ok (.goto (-187), 3) := by decide +kernel
theorem dX7_pressPart_267 : decode cX7_pressPart 267 = .ok (.aload_n 0, 1) := by decide +kernel
theorem dX7_pressPart_268 : decode cX7_pressPart 268 = .ok (.iload 6, 2) := by decide +kernel
theorem dX7_pressPart_270 : decode cX7_pressPart 270 = .ok (.iload_n 2, 1) := by decide +kernel
theorem dX7_pressPart_271 : decode cX7_pressPart 271 = .ok (.invokevirtual 89, 3) := by decide +kernel
theorem dX7_pressPart_274 : decode cX7_pressPart 274 = .ok (.return_, 1) := by decide +kernel
theorem dX7_literal_0 : decode cX7_literal 0 = .ok (.iload_n 2, 1) := by decide +kernel
theorem dX7_literal_1 : decode cX7_literal 1 = .ok (.iload_n 1, 1) := by decide +kernel
theorem dX7_literal_2 : decode cX7_literal 2 = .ok (.isub, 1) := by decide +kernel
theorem dX7_literal_3 : decode cX7_literal 3 = .ok (.istore_n 3, 1) := by decide +kernel
theorem dX7_literal_4 : decode cX7_literal 4 = .ok (.iload_n 3, 1) := by decide +kernel
theorem dX7_literal_5 : decode cX7_literal 5 = .ok (.ifCond .ne 4, 3) := by decide +kernel
theorem dX7_literal_8 : decode cX7_literal 8 = .ok (.return_, 1) := by decide +kernel
theorem dX7_literal_9 : decode cX7_literal 9 = .ok (.iload_n 3, 1) := by decide +kernel
theorem dX7_literal_10 : decode cX7_literal 10 = .ok (.iconst 1, 1) := by decide +kernel
theorem dX7_literal_11 : decode cX7_literal 11 = .ok (.isub, 1) := by decide +kernel
theorem dX7_literal_12 : decode cX7_literal 12 = .ok (.istore 4, 2) := by decide +kernel
theorem dX7_literal_14 : decode cX7_literal 14 = .ok (.iload 4, 2) := by decide +kernel
theorem dX7_literal_16 : decode cX7_literal 16 = .ok (.bipush 60, 2) := by decide +kernel
theorem dX7_literal_18 : decode cX7_literal 18 = .ok (.if_icmp .ge 14, 3) := by decide +kernel
theorem dX7_literal_21 : decode cX7_literal 21 = .ok (.aload_n 0, 1) := by decide +kernel
theorem dX7_literal_22 : decode cX7_literal 22 = .ok (.iload 4, 2) := by decide +kernel
theorem dX7_literal_24 : decode cX7_literal 24 = .ok (.iconst 2, 1) := by decide +kernel
theorem dX7_literal_25 : decode cX7_literal 25 = .ok (.ishl, 1) := by decide +kernel
theorem dX7_literal_26 : decode cX7_literal 26 = .ok (.invokevirtual 79, 3) := by decide +kernel
theorem dX7_literal_29 : decode cX7_literal 29 = .ok (.goto 72, 3) := by decide +kernel
theorem dX7_literal_32 : decode cX7_literal 32 = .ok (.iload 4, 2) := by decide +kernel
theorem dX7_literal_34 : decode cX7_literal 34 = .ok (.sipush 256, 3) := by decide +kernel
theorem dX7_literal_37 : decode cX7_literal 37 = .ok (.if_icmp .ge 7, 3) := by decide +kernel
theorem dX7_literal_40 : decode cX7_literal 40 = .ok (.iconst 1, 1) := by decide +kernel
theorem dX7_literal_41 : decode cX7_literal 41 = .ok (.goto 15, 3) := by decide +kernel
theorem dX7_literal_44 : decode cX7_literal 44 = .ok (.iload 4, 2) := by decide +kernel
theorem dX7_literal_46 : decode cX7_literal 46 = .ok (.ldc 96, 2) := by decide +kernel
theorem dX7_literal_48 : decode cX7_literal 48 = .ok (.if_icmp .ge 7, 3) := by decide +kernel
theorem dX7_literal_51 : decode cX7_literal 51 = .ok (.iconst 2, 1) := by decide +kernel
theorem dX7_literal_52 : decode cX7_literal 52 = .ok (.goto 4, 3) := by decide +kernel
theorem dX7_literal_55 : decode cX7_literal 55 = .ok (.iconst 3, 1) := by decide +kernel
theorem dX7_literal_56 : decode cX7_literal 56 = .ok (.istore 5, 2) := by decide +kernel
theorem dX7_literal_58 : decode cX7_literal 58 = .ok (.aload_n 0, 1) := by decide +kernel
theorem dX7_literal_59 : decode cX7_literal 59 = .ok (.bipush 59, 2) := by decide +kernel
theorem dX7_literal_61 : decode cX7_literal 61 = .ok (.iload 5, 2) := by decide +kernel
theorem dX7_literal_63 : decode cX7_literal 63 = .ok (.iadd, 1) := by decide +kernel
theorem dX7_literal_64 : decode cX7_literal 64 = .ok (.iconst 2, 1) := by decide +kernel
theorem dX7_literal_65 : decode cX7_literal 65 = .ok (.ishl, 1) := by decide +kernel
theorem dX7_literal_66 : decode cX7_literal 66 = .ok (.invokevirtual 79, 3) := by decide +kernel
theorem dX7_literal_69 : decode cX7_literal 69 = .ok (.iconst 0, 1) := by decide +kernel
theorem dX7_literal_70 : decode cX7_literal 70 = .ok (.istore 6, 2) := by decide +kernel
theorem dX7_literal_72 : decode cX7_literal 72 = .ok (.iload 6, 2) := by decide +kernel
theorem dX7_literal_74 : decode cX7_literal 74 = .ok (.iload 5, 2) := by decide +kernel
theorem dX7_literal_76 : decode cX7_literal 76 = .ok (.if_icmp .ge 25, 3) := by decide +kernel
theorem dX7_literal_79 : decode cX7_literal 79 = .ok (.aload_n 0, 1) := by decide +kernel
theorem dX7_literal_80 : decode cX7_literal 80 = .ok (.iload 4, 2) := by decide +kernel
theorem dX7_literal_82 : decode cX7_literal 82 = .ok (.bipush 8, 2) := by decide +kernel
theorem dX7_literal_84 : decode cX7_literal 84 = .ok (.iload 6, 2) := by decide +kernel
theorem dX7_literal_86 : decode cX7_literal 86 = .ok (.imul, 1) := by decide +kernel
theorem dX7_literal_87 : decode cX7_literal 87 = .ok (.ishr, 1) := by decide +kernel
theorem dX7_literal_88 : decode cX7_literal 88 = .ok (.sipush 255, 3) := by decide +kernel
theorem dX7_literal_91 : decode cX7_literal 91 = .ok (.iand, 1) := by decide +kernel
theorem dX7_literal_92 : decode cX7_literal 92 = .ok (.invokevirtual 79, 3) := by decide +kernel
theorem dX7_literal_95 : decode cX7_literal 95 = .ok (.iinc 6 1, 3) := by decide +kernel
theorem dX7_literal_98 : decode cX7_literal 98 = .ok (.goto (-26), 3) := by decide +kernel
theorem dX7_literal_101 : decode cX7_literal 101 = .ok (.iload_n 1, 1) := by decide +kernel
theorem dX7_literal_102 : decode cX7_literal 102 = .ok (.istore 5, 2) := by decide +kernel
theorem dX7_literal_104 : decode cX7_literal 104 = .ok (.iload 5, 2) := by decide +kernel
theorem dX7_literal_106 : decode cX7_literal 106 = .ok (.iload_n 2, 1) := by decide +kernel
theorem dX7_literal_107 : decode cX7_literal 107 = .ok (.if_icmp .ge 20, 3) := by decide +kernel
theorem dX7_literal_110 : decode cX7_literal 110 = .ok (.aload_n 0, 1) := by decide +kernel
theorem dX7_literal_111 : decode cX7_literal 111 = .ok (.aload_n 0, 1) := by decide +kernel
theorem dX7_literal_112 : decode cX7_literal 112 = .ok (.getfield 7, 3) := by decide +kernel
theorem dX7_literal_115 : decode cX7_literal 115 = .ok (.iload 5, 2) := by decide +kernel
theorem dX7_literal_117 : decode cX7_literal 117 = .ok (.baload, 1) := by decide +kernel
theorem dX7_literal_118 : decode cX7_literal 118 = .ok (.invokevirtual 79, 3) := by decide +kernel
theorem dX7_literal_121 : decode cX7_literal 121 = .ok (.iinc 5 1, 3) := by decide +kernel
theorem dX7_literal_124 : decode cX7_literal 124 = .ok (.goto (-20), 3) := by decide +kernel
theorem dX7_literal_127 : decode cX7_literal 127 = .ok (.return_, 1) := by decide +kernel
theorem dX7_copyTwo_0 : decode cX7_copyTwo 0 = .ok (.aload_n 0, 1) := by decide +kernel
theorem dX7_copyTwo_1 : decode cX7_copyTwo 1 = .ok (.iload_n 1, 1) := by decide +kernel
theorem dX7_copyTwo_2 : decode cX7_copyTwo 2 = .ok (.iconst 1, 1) := by decide +kernel
theorem dX7_copyTwo_3 : decode cX7_copyTwo 3 = .ok (.isub, 1) := by decide +kernel
theorem dX7_copyTwo_4 : decode cX7_copyTwo 4 = .ok (.iconst 2, 1) := by decide +kernel
theorem dX7_copyTwo_5 : decode cX7_copyTwo 5 = .ok (.ishl, 1) := by decide +kernel
theorem dX7_copyTwo_6 : decode cX7_copyTwo 6 = .ok (.iconst 2, 1) := by decide +kernel
theorem dX7_copyTwo_7 : decode cX7_copyTwo 7 = .ok (.ior, 1) := by decide +kernel
theorem dX7_copyTwo_8 : decode cX7_copyTwo 8 = .ok (.invokevirtual 79, 3) := by decide +kernel
theorem dX7_copyTwo_11 : decode cX7_copyTwo 11 = .ok (.aload_n 0, 1) := by decide +kernel
theorem dX7_copyTwo_12 : decode cX7_copyTwo 12 = .ok (.iload_n 2, 1) := by decide +kernel
theorem dX7_copyTwo_13 : decode cX7_copyTwo 13 = .ok (.sipush 255, 3) := by decide +kernel
theorem dX7_copyTwo_16 : decode cX7_copyTwo 16 = .ok (.iand, 1) := by decide +kernel
theorem dX7_copyTwo_17 : decode cX7_copyTwo 17 = .ok (.invokevirtual 79, 3) := by decide +kernel
theorem dX7_copyTwo_20 : decode cX7_copyTwo 20 = .ok (.aload_n 0, 1) := by decide +kernel
theorem dX7_copyTwo_21 : decode cX7_copyTwo 21 = .ok (.iload_n 2, 1) := by decide +kernel
theorem dX7_copyTwo_22 : decode cX7_copyTwo 22 = .ok (.bipush 8, 2) := by decide +kernel
theorem dX7_copyTwo_24 : decode cX7_copyTwo 24 = .ok (.ishr, 1) := by decide +kernel
theorem dX7_copyTwo_25 : decode cX7_copyTwo 25 = .ok (.invokevirtual 79, 3) := by decide +kernel
theorem dX7_copyTwo_28 : decode cX7_copyTwo 28 = .ok (.return_, 1) := by decide +kernel
theorem dX7_copies_0 : decode cX7_copies 0 = .ok (.iload_n 1, 1) := by decide +kernel
theorem dX7_copies_1 : decode cX7_copies 1 = .ok (.istore_n 3, 1) := by decide +kernel
theorem dX7_copies_2 : decode cX7_copies 2 = .ok (.iload_n 3, 1) := by decide +kernel
theorem dX7_copies_3 : decode cX7_copies 3 = .ok (.bipush 68, 2) := by decide +kernel
theorem dX7_copies_5 : decode cX7_copies 5 = .ok (.if_icmp .lt 16, 3) := by decide +kernel
theorem dX7_copies_8 : decode cX7_copies 8 = .ok (.aload_n 0, 1) := by decide +kernel
theorem dX7_copies_9 : decode cX7_copies 9 = .ok (.bipush 64, 2) := by decide +kernel
theorem dX7_copies_11 : decode cX7_copies 11 = .ok (.iload_n 2, 1) := by decide +kernel
theorem dX7_copies_12 : decode cX7_copies 12 = .ok (.invokevirtual 97, 3) := by decide +kernel
theorem dX7_copies_15 : decode cX7_copies 15 = .ok (.iinc 3 (-64), 3) := by decide +kernel
theorem dX7_copies_18 : decode cX7_copies 18 = .ok (.goto (-16), 3) := by decide +kernel
theorem dX7_copies_21 : decode cX7_copies 21 = .ok (.iload_n 3, 1) := by decide +kernel
theorem dX7_copies_22 : decode cX7_copies 22 = .ok (.bipush 64, 2) := by decide +kernel
theorem dX7_copies_24 : decode cX7_copies 24 = .ok (.if_icmp .le 13, 3) := by decide +kernel
theorem dX7_copies_27 : decode cX7_copies 27 = .ok (.aload_n 0, 1) := by decide +kernel
theorem dX7_copies_28 : decode cX7_copies 28 = .ok (.bipush 60, 2) := by decide +kernel
theorem dX7_copies_30 : decode cX7_copies 30 = .ok (.iload_n 2, 1) := by decide +kernel
theorem dX7_copies_31 : decode cX7_copies 31 = .ok (.invokevirtual 97, 3) := by decide +kernel
theorem dX7_copies_34 : decode cX7_copies 34 = .ok (.iinc 3 (-60), 3) := by decide +kernel
theorem dX7_copies_37 : decode cX7_copies 37 = .ok (.iload_n 3, 1) := by decide +kernel
theorem dX7_copies_38 : decode cX7_copies 38 = .ok (.bipush 12, 2) := by decide +kernel
theorem dX7_copies_40 : decode cX7_copies 40 = .ok (.if_icmp .ge 40, 3) := by decide +kernel
theorem dX7_copies_43 : decode cX7_copies 43 = .ok (.iload_n 2, 1) := by decide +kernel
theorem dX7_copies_44 : decode cX7_copies 44 = .ok (.sipush 2048, 3) := by decide +kernel
theorem dX7_copies_47 : decode cX7_copies 47 = .ok (.if_icmp .ge 33, 3) := by decide +kernel
theorem dX7_copies_50 : decode cX7_copies 50 = .ok (.aload_n 0, 1) := by decide +kernel
theorem dX7_copies_51 : decode cX7_copies 51 = .ok (.iload_n 2, 1) := by decide +kernel
theorem dX7_copies_52 : decode cX7_copies 52 = .ok (.bipush 8, 2) := by decide +kernel
theorem dX7_copies_54 : decode cX7_copies 54 = .ok (.ishr, 1) := by decide +kernel
theorem dX7_copies_55 : decode cX7_copies 55 = .ok (.iconst 5, 1) := by decide +kernel
theorem dX7_copies_56 : decode cX7_copies 56 = .ok (.ishl, 1) := by decide +kernel
theorem dX7_copies_57 : decode cX7_copies 57 = .ok (.iload_n 3, 1) := by decide +kernel
theorem dX7_copies_58 : decode cX7_copies 58 = .ok (.iconst 4, 1) := by decide +kernel
theorem dX7_copies_59 : decode cX7_copies 59 = .ok (.isub, 1) := by decide +kernel
theorem dX7_copies_60 : decode cX7_copies 60 = .ok (.iconst 2, 1) := by decide +kernel
theorem dX7_copies_61 : decode cX7_copies 61 = .ok (.ishl, 1) := by decide +kernel
theorem dX7_copies_62 : decode cX7_copies 62 = .ok (.ior, 1) := by decide +kernel
theorem dX7_copies_63 : decode cX7_copies 63 = .ok (.iconst 1, 1) := by decide +kernel
theorem dX7_copies_64 : decode cX7_copies 64 = .ok (.ior, 1) := by decide +kernel
theorem dX7_copies_65 : decode cX7_copies 65 = .ok (.invokevirtual 79, 3) := by decide +kernel
theorem dX7_copies_68 : decode cX7_copies 68 = .ok (.aload_n 0, 1) := by decide +kernel
theorem dX7_copies_69 : decode cX7_copies 69 = .ok (.iload_n 2, 1) := by decide +kernel
theorem dX7_copies_70 : decode cX7_copies 70 = .ok (.sipush 255, 3) := by decide +kernel
theorem dX7_copies_73 : decode cX7_copies 73 = .ok (.iand, 1) := by decide +kernel
theorem dX7_copies_74 : decode cX7_copies 74 = .ok (.invokevirtual 79, 3) := by decide +kernel
theorem dX7_copies_77 : decode cX7_copies 77 = .ok (.goto 9, 3) := by decide +kernel
theorem dX7_copies_80 : decode cX7_copies 80 = .ok (.aload_n 0, 1) := by decide +kernel
theorem dX7_copies_81 : decode cX7_copies 81 = .ok (.iload_n 3, 1) := by decide +kernel
theorem dX7_copies_82 : decode cX7_copies 82 = .ok (.iload_n 2, 1) := by decide +kernel
theorem dX7_copies_83 : decode cX7_copies 83 = .ok (.invokevirtual 97, 3) := by decide +kernel
theorem dX7_copies_86 : decode cX7_copies 86 = .ok (.return_, 1) := by decide +kernel
theorem dX7_give_0 : decode cX7_give 0 = .ok (.iconst 0, 1) := by decide +kernel
theorem dX7_give_1 : decode cX7_give 1 = .ok (.istore_n 3, 1) := by decide +kernel
theorem dX7_give_2 : decode cX7_give 2 = .ok (.iload_n 3, 1) := by decide +kernel
theorem dX7_give_3 : decode cX7_give 3 = .ok (.iload_n 2, 1) := by decide +kernel
theorem dX7_give_4 : decode cX7_give 4 = .ok (.if_icmp .ge 18, 3) := by decide +kernel
theorem dX7_give_7 : decode cX7_give 7 = .ok (.aload_n 0, 1) := by decide +kernel
theorem dX7_give_8 : decode cX7_give 8 = .ok (.getfield 13, 3) := by decide +kernel
theorem dX7_give_11 : decode cX7_give 11 = .ok (.iload_n 3, 1) := by decide +kernel
theorem dX7_give_12 : decode cX7_give 12 = .ok (.aload_n 1, 1) := by decide +kernel
theorem dX7_give_13 : decode cX7_give 13 = .ok (.iload_n 3, 1) := by decide +kernel
theorem dX7_give_14 : decode cX7_give 14 = .ok (.baload, 1) := by decide +kernel
theorem dX7_give_15 : decode cX7_give 15 = .ok (.bastore, 1) := by decide +kernel
theorem dX7_give_16 : decode cX7_give 16 = .ok (.iinc 3 1, 3) := by decide +kernel
theorem dX7_give_19 : decode cX7_give 19 = .ok (.goto (-17), 3) := by decide +kernel
theorem dX7_give_22 : decode cX7_give 22 = .ok (.aload_n 0, 1) := by decide +kernel
theorem dX7_give_23 : decode cX7_give 23 = .ok (.iload_n 2, 1) := by decide +kernel
theorem dX7_give_24 : decode cX7_give 24 = .ok (.putfield 68, 3) := by decide +kernel
theorem dX7_give_27 : decode cX7_give 27 = .ok (.return_, 1) := by decide +kernel
theorem dX7_press_0 : decode cX7_press 0 = .ok (.aload_n 0, 1) := by decide +kernel
theorem dX7_press_1 : decode cX7_press 1 = .ok (.iconst 0, 1) := by decide +kernel
theorem dX7_press_2 : decode cX7_press 2 = .ok (.putfield 58, 3) := by decide +kernel
theorem dX7_press_5 : decode cX7_press 5 = .ok (.aload_n 0, 1) := by decide +kernel
theorem dX7_press_6 : decode cX7_press 6 = .ok (.iconst 0, 1) := by decide +kernel
theorem dX7_press_7 : decode cX7_press 7 = .ok (.putfield 76, 3) := by decide +kernel
theorem dX7_press_10 : decode cX7_press 10 = .ok (.aload_n 0, 1) := by decide +kernel
theorem dX7_press_11 : decode cX7_press 11 = .ok (.iconst 0, 1) := by decide +kernel
theorem dX7_press_12 : decode cX7_press 12 = .ok (.aload_n 0, 1) := by decide +kernel
theorem dX7_press_13 : decode cX7_press 13 = .ok (.getfield 61, 3) := by decide +kernel
theorem dX7_press_16 : decode cX7_press 16 = .ok (.invokevirtual 100, 3) := by decide +kernel
theorem dX7_press_19 : decode cX7_press 19 = .ok (.aload_n 0, 1) := by decide +kernel
theorem dX7_press_20 : decode cX7_press 20 = .ok (.aload_n 0, 1) := by decide +kernel
theorem dX7_press_21 : decode cX7_press 21 = .ok (.getfield 19, 3) := by decide +kernel
theorem dX7_press_24 : decode cX7_press 24 = .ok (.aload_n 0, 1) := by decide +kernel
theorem dX7_press_25 : decode cX7_press 25 = .ok (.getfield 76, 3) := by decide +kernel
theorem dX7_press_28 : decode cX7_press 28 = .ok (.invokevirtual 103, 3) := by decide +kernel
theorem dX7_press_31 : decode cX7_press 31 = .ok (.aload_n 0, 1) := by decide +kernel
theorem dX7_press_32 : decode cX7_press 32 = .ok (.getfield 68, 3) := by decide +kernel
theorem dX7_press_35 : decode cX7_press 35 = .ok (.ireturn, 1) := by decide +kernel
theorem dX7_bad_0 : decode cX7_bad 0 = .ok (.aload_n 0, 1) := by decide +kernel
theorem dX7_bad_1 : decode cX7_bad 1 = .ok (.getfield 107, 3) := by decide +kernel
theorem dX7_bad_4 : decode cX7_bad 4 = .ok (.ifCond .le 4, 3) := by decide +kernel
theorem dX7_bad_7 : decode cX7_bad 7 = .ok (.return_, 1) := by decide +kernel
theorem dX7_bad_8 : decode cX7_bad 8 = .ok (.aload_n 0, 1) := by decide +kernel
theorem dX7_bad_9 : decode cX7_bad 9 = .ok (.iload_n 1, 1) := by decide +kernel
theorem dX7_bad_10 : decode cX7_bad 10 = .ok (.putfield 107, 3) := by decide +kernel
theorem dX7_bad_13 : decode cX7_bad 13 = .ok (.aload_n 0, 1) := by decide +kernel
theorem dX7_bad_14 : decode cX7_bad 14 = .ok (.iload_n 2, 1) := by decide +kernel
theorem dX7_bad_15 : decode cX7_bad 15 = .ok (.putfield 110, 3) := by decide +kernel
theorem dX7_bad_18 : decode cX7_bad 18 = .ok (.return_, 1) := by decide +kernel
theorem dX7_openPart_0 : decode cX7_openPart 0 = .ok (.aload_n 0, 1) := by decide +kernel
theorem dX7_openPart_1 : decode cX7_openPart 1 = .ok (.iconst 0, 1) := by decide +kernel
theorem dX7_openPart_2 : decode cX7_openPart 2 = .ok (.putfield 107, 3) := by decide +kernel
theorem dX7_openPart_5 : decode cX7_openPart 5 = .ok (.aload_n 0, 1) := by decide +kernel
theorem dX7_openPart_6 : decode cX7_openPart 6 = .ok (.iconst (-1), 1) := by decide +kernel
theorem dX7_openPart_7 : decode cX7_openPart 7 = .ok (.putfield 110, 3) := by decide +kernel
theorem dX7_openPart_10 : decode cX7_openPart 10 = .ok (.aload_n 0, 1) := by decide +kernel
theorem dX7_openPart_11 : decode cX7_openPart 11 = .ok (.iconst 0, 1) := by decide +kernel
theorem dX7_openPart_12 : decode cX7_openPart 12 = .ok (.putfield 113, 3) := by decide +kernel
theorem dX7_openPart_15 : decode cX7_openPart 15 = .ok (.aload_n 0, 1) := by decide +kernel
theorem dX7_openPart_16 : decode cX7_openPart 16 = .ok (.iconst 0, 1) := by decide +kernel
theorem dX7_openPart_17 : decode cX7_openPart 17 = .ok (.putfield 116, 3) := by decide +kernel
theorem dX7_openPart_20 : decode cX7_openPart 20 = .ok (.aload_n 0, 1) := by decide +kernel
theorem dX7_openPart_21 : decode cX7_openPart 21 = .ok (.getfield 119, 3) := by decide +kernel
theorem dX7_openPart_24 : decode cX7_openPart 24 = .ok (.istore_n 3, 1) := by decide +kernel
theorem dX7_openPart_25 : decode cX7_openPart 25 = .ok (.lconst 0, 1) := by decide +kernel
theorem dX7_openPart_26 : decode cX7_openPart 26 = .ok (.lstore 4, 2) := by decide +kernel
theorem dX7_openPart_28 : decode cX7_openPart 28 = .ok (.iload_n 1, 1) := by decide +kernel
theorem dX7_openPart_29 : decode cX7_openPart 29 = .ok (.istore 6, 2) := by decide +kernel
theorem dX7_openPart_31 : decode cX7_openPart 31 = .ok (.iconst 1, 1) := by decide +kernel
theorem dX7_openPart_32 : decode cX7_openPart 32 = .ok (.istore 7, 2) := by decide +kernel
theorem dX7_openPart_34 : decode cX7_openPart 34 = .ok (.iconst 0, 1) := by decide +kernel
theorem dX7_openPart_35 : decode cX7_openPart 35 = .ok (.istore 8, 2) := by decide +kernel
theorem dX7_openPart_37 : decode cX7_openPart 37 = .ok (.iload 8, 2) := by decide +kernel
theorem dX7_openPart_39 : decode cX7_openPart 39 = .ok (.iconst 5, 1) := by decide +kernel
theorem dX7_openPart_40 : decode cX7_openPart 40 = .ok (.if_icmp .ge 69, 3) := by decide +kernel
theorem dX7_openPart_43 : decode cX7_openPart 43 = .ok (.iload 7, 2) := by decide +kernel
theorem dX7_openPart_45 : decode cX7_openPart 45 = .ok (.ifCond .eq 64, 3) := by decide +kernel
theorem dX7_openPart_48 : decode cX7_openPart 48 = .ok (.iload 6, 2) := by decide +kernel
theorem dX7_openPart_50 : decode cX7_openPart 50 = .ok (.iload_n 2, 1) := by decide +kernel
theorem dX7_openPart_51 : decode cX7_openPart 51 = .ok (.if_icmp .ne 10, 3) := by decide +kernel
theorem dX7_openPart_54 : decode cX7_openPart 54 = .ok (.aload_n 0, 1) := by decide +kernel
theorem dX7_openPart_55 : decode cX7_openPart 55 = .ok (.iconst 1, 1) := by decide +kernel
theorem dX7_openPart_56 : decode cX7_openPart 56 = .ok (.iconst 0, 1) := by decide +kernel
theorem dX7_openPart_57 : decode cX7_openPart 57 = .ok (.invokevirtual 122, 3) := by decide +kernel
theorem dX7_openPart_60 : decode cX7_openPart 60 = .ok (.return_, 1) := by decide +kernel
theorem dX7_openPart_61 : decode cX7_openPart 61 = .ok (.lload 4, 2) := by decide +kernel
theorem dX7_openPart_63 : decode cX7_openPart 63 = .ok (.aload_n 0, 1) := by decide +kernel
theorem dX7_openPart_64 : decode cX7_openPart 64 = .ok (.iload 6, 2) := by decide +kernel
theorem dX7_openPart_66 : decode cX7_openPart 66 = .ok (.invokevirtual 71, 3) := by decide +kernel
theorem dX7_openPart_69 : decode cX7_openPart 69 = .ok (.bipush 127, 2) := by decide +kernel
theorem dX7_openPart_71 : decode cX7_openPart 71 = .ok (.iand, 1) := by decide +kernel
theorem dX7_openPart_72 : decode cX7_openPart 72 = .ok (.i2l, 1) := by decide +kernel
theorem dX7_openPart_73 : decode cX7_openPart 73 = .ok (.bipush 7, 2) := by decide +kernel
theorem dX7_openPart_75 : decode cX7_openPart 75 = .ok (.iload 8, 2) := by decide +kernel
theorem dX7_openPart_77 : decode cX7_openPart 77 = .ok (.imul, 1) := by decide +kernel
theorem dX7_openPart_78 : decode cX7_openPart 78 = .ok (.lshl, 1) := by decide +kernel
theorem dX7_openPart_79 : decode cX7_openPart 79 = .ok (.lor, 1) := by decide +kernel
theorem dX7_openPart_80 : decode cX7_openPart 80 = .ok (.lstore 4, 2) := by decide +kernel
theorem dX7_openPart_82 : decode cX7_openPart 82 = .ok (.aload_n 0, 1) := by decide +kernel
theorem dX7_openPart_83 : decode cX7_openPart 83 = .ok (.iload 6, 2) := by decide +kernel
theorem dX7_openPart_85 : decode cX7_openPart 85 = .ok (.invokevirtual 71, 3) := by decide +kernel
theorem dX7_openPart_88 : decode cX7_openPart 88 = .ok (.bipush 127, 2) := by decide +kernel
theorem dX7_openPart_90 : decode cX7_openPart 90 = .ok (.if_icmp .le 7, 3) := by decide +kernel
theorem dX7_openPart_93 : decode cX7_openPart 93 = .ok (.iconst 1, 1) := by decide +kernel
theorem dX7_openPart_94 : decode cX7_openPart 94 = .ok (.goto 4, 3) := by decide +kernel
theorem dX7_openPart_97 : decode cX7_openPart 97 = .ok (.iconst 0, 1) := by decide +kernel
theorem dX7_openPart_98 : decode cX7_openPart 98 = .ok (.istore 7, 2) := by decide +kernel
theorem dX7_openPart_100 : decode cX7_openPart 100 = .ok (.iinc 6 1, 3) := by decide +kernel
theorem dX7_openPart_103 : decode cX7_openPart 103 = .ok (.iinc 8 1, 3) := by decide +kernel
theorem dX7_openPart_106 : decode cX7_openPart 106 = .ok (.goto (-69), 3) := by decide +kernel
theorem dX7_openPart_109 : decode cX7_openPart 109 = .ok (.iload 7, 2) := by decide +kernel
theorem dX7_openPart_111 : decode cX7_openPart 111 = .ok (.ifCond .ne 13, 3) := by decide +kernel
theorem dX7_openPart_114 : decode cX7_openPart 114 = .ok (.lload 4, 2) := by decide +kernel
theorem dX7_openPart_116 : decode cX7_openPart 116 = .ok (.bipush 32, 2) := by decide +kernel
theorem dX7_openPart_118 : decode cX7_openPart 118 = .ok (.lshr, 1) := by decide +kernel
theorem dX7_openPart_119 : decode cX7_openPart 119 = .ok (.lconst 0, 1) := by decide +kernel
theorem dX7_openPart_120 : decode cX7_openPart 120 = .ok (.lcmp, 1) := by decide +kernel
theorem dX7_openPart_121 : decode cX7_openPart 121 = .ok (.ifCond .eq 10, 3) := by decide +kernel
theorem dX7_openPart_124 : decode cX7_openPart 124 = .ok (.aload_n 0, 1) := by decide +kernel
theorem dX7_openPart_125 : decode cX7_openPart 125 = .ok (.iconst 1, 1) := by decide +kernel
theorem dX7_openPart_126 : decode cX7_openPart 126 = .ok (.iconst 0, 1) := by decide +kernel
theorem dX7_openPart_127 : decode cX7_openPart 127 = .ok (.invokevirtual 122, 3) := by decide +kernel
theorem dX7_openPart_130 : decode cX7_openPart 130 = .ok (.return_, 1) := by decide +kernel
theorem dX7_openPart_131 : decode cX7_openPart 131 = .ok (.lload 4, 2) := by decide +kernel
theorem dX7_openPart_133 : decode cX7_openPart 133 = .ok (.ldc2_w 125, 3) := by decide +kernel
theorem dX7_openPart_136 : decode cX7_openPart 136 = .ok (.lcmp, 1) := by decide +kernel
theorem dX7_openPart_137 : decode cX7_openPart 137 = .ok (.ifCond .le 10, 3) := by decide +kernel
theorem dX7_openPart_140 : decode cX7_openPart 140 = .ok (.aload_n 0, 1) := by decide +kernel
theorem dX7_openPart_141 : decode cX7_openPart 141 = .ok (.iconst 2, 1) := by decide +kernel
theorem dX7_openPart_142 : decode cX7_openPart 142 = .ok (.iconst 0, 1) := by decide +kernel
theorem dX7_openPart_143 : decode cX7_openPart 143 = .ok (.invokevirtual 122, 3) := by decide +kernel
theorem dX7_openPart_146 : decode cX7_openPart 146 = .ok (.return_, 1) := by decide +kernel
theorem dX7_openPart_147 : decode cX7_openPart 147 = .ok (.aload_n 0, 1) := by decide +kernel
theorem dX7_openPart_148 : decode cX7_openPart 148 = .ok (.lload 4, 2) := by decide +kernel
theorem dX7_openPart_150 : decode cX7_openPart 150 = .ok (.l2i, 1) := by decide +kernel
theorem dX7_openPart_151 : decode cX7_openPart 151 = .ok (.putfield 127, 3) := by decide +kernel
theorem dX7_openPart_154 : decode cX7_openPart 154 = .ok (.iload 6, 2) := by decide +kernel
theorem dX7_openPart_156 : decode cX7_openPart 156 = .ok (.iload_n 2, 1) := by decide +kernel
theorem dX7_openPart_157 : decode cX7_openPart 157 = .ok (.if_icmp .ge 24, 3) := by decide +kernel
theorem dX7_openPart_160 : decode cX7_openPart 160 = .ok (.aload_n 0, 1) := by decide +kernel
theorem dX7_openPart_161 : decode cX7_openPart 161 = .ok (.getfield 107, 3) := by decide +kernel
theorem dX7_openPart_164 : decode cX7_openPart 164 = .ok (.ifCond .ne 17, 3) := by decide +kernel
theorem dX7_openPart_167 : decode cX7_openPart 167 = .ok (.aload_n 0, 1) := by decide +kernel
theorem dX7_openPart_168 : decode cX7_openPart 168 = .ok (.iload 6, 2) := by decide +kernel
theorem dX7_openPart_170 : decode cX7_openPart 170 = .ok (.iload_n 1, 1) := by decide +kernel
theorem dX7_openPart_171 : decode cX7_openPart 171 = .ok (.iload_n 2, 1) := by decide +kernel
theorem dX7_openPart_172 : decode cX7_openPart 172 = .ok (.iload_n 3, 1) := by decide +kernel
theorem dX7_openPart_173 : decode cX7_openPart 173 = .ok (.invokevirtual 130, 3) := by decide +kernel
theorem dX7_openPart_176 : decode cX7_openPart 176 = .ok (.istore 6, 2) := by decide +kernel
theorem dX7_openPart_178 : decode cX7_openPart 178 = .ok (.goto (-24), 3) := by decide +kernel
theorem dX7_openPart_181 : decode cX7_openPart 181 = .ok (.aload_n 0, 1) := by decide +kernel
theorem dX7_openPart_182 : decode cX7_openPart 182 = .ok (.getfield 107, 3) := by decide +kernel
theorem dX7_openPart_185 : decode cX7_openPart 185 = .ok (.ifCond .ne 25, 3) := by decide +kernel
theorem dX7_openPart_188 : decode cX7_openPart 188 = .ok (.aload_n 0, 1) := by decide +kernel
theorem dX7_openPart_189 : decode cX7_openPart 189 = .ok (.getfield 119, 3) := by decide +kernel
theorem dX7_openPart_192 : decode cX7_openPart 192 = .ok (.iload_n 3, 1) := by decide +kernel
theorem dX7_openPart_193 : decode cX7_openPart 193 = .ok (.isub, 1) := by decide +kernel
theorem dX7_openPart_194 : decode cX7_openPart 194 = .ok (.aload_n 0, 1) := by decide +kernel
theorem dX7_openPart_195 : decode cX7_openPart 195 = .ok (.getfield 127, 3) := by decide +kernel
theorem dX7_openPart_198 : decode cX7_openPart 198 = .ok (.if_icmp .ge 12, 3) := by decide +kernel
theorem dX7_openPart_201 : decode cX7_openPart 201 = .ok (.aload_n 0, 1) := by decide +kernel
theorem dX7_openPart_202 : decode cX7_openPart 202 = .ok (.bipush 6, 2) := by decide +kernel
theorem dX7_openPart_204 : decode cX7_openPart 204 = .ok (.iload_n 2, 1) := by decide +kernel
theorem dX7_openPart_205 : decode cX7_openPart 205 = .ok (.iload_n 1, 1) := by decide +kernel
theorem dX7_openPart_206 : decode cX7_openPart 206 = .ok (.isub, 1) := by decide +kernel
theorem dX7_openPart_207 : decode cX7_openPart 207 = .ok (.invokevirtual 122, 3) := by decide +kernel
theorem dX7_openPart_210 : decode cX7_openPart 210 = .ok (.return_, 1) := by decide +kernel
theorem dX7_elementAt_0 : decode cX7_elementAt 0 = .ok (.aload_n 0, 1) := by decide +kernel
theorem dX7_elementAt_1 : decode cX7_elementAt 1 = .ok (.iload_n 1, 1) := by decide +kernel
theorem dX7_elementAt_2 : decode cX7_elementAt 2 = .ok (.invokevirtual 71, 3) := by decide +kernel
theorem dX7_elementAt_5 : decode cX7_elementAt 5 = .ok (.istore 5, 2) := by decide +kernel
theorem dX7_elementAt_7 : decode cX7_elementAt 7 = .ok (.iload 5, 2) := by decide +kernel
theorem dX7_elementAt_9 : decode cX7_elementAt 9 = .ok (.iconst 3, 1) := by decide +kernel
theorem dX7_elementAt_10 : decode cX7_elementAt 10 = .ok (.iand, 1) := by decide +kernel
theorem dX7_elementAt_11 : decode cX7_elementAt 11 = .ok (.istore 6, 2) := by decide +kernel
theorem dX7_elementAt_13 : decode cX7_elementAt 13 = .ok (.iload 5, 2) := by decide +kernel
theorem dX7_elementAt_15 : decode cX7_elementAt 15 = .ok (.iconst 2, 1) := by decide +kernel
theorem dX7_elementAt_16 : decode cX7_elementAt 16 = .ok (.ishr, 1) := by decide +kernel
theorem dX7_elementAt_17 : decode cX7_elementAt 17 = .ok (.istore 7, 2) := by decide +kernel
theorem dX7_elementAt_19 : decode cX7_elementAt 19 = .ok (.iload 6, 2) := by decide +kernel
theorem dX7_elementAt_21 : decode cX7_elementAt 21 = .ok (.ifCond .ne 22, 3) := by decide +kernel
theorem dX7_elementAt_24 : decode cX7_elementAt 24 = .ok (.iload 7, 2) := by decide +kernel
theorem dX7_elementAt_26 : decode cX7_elementAt 26 = .ok (.bipush 60, 2) := by decide +kernel
theorem dX7_elementAt_28 : decode cX7_elementAt 28 = .ok (.if_icmp .ge 7, 3) := by decide +kernel
theorem dX7_elementAt_31 : decode cX7_elementAt 31 = .ok (.iconst 0, 1) := by decide +kernel
theorem dX7_elementAt_32 : decode cX7_elementAt 32 = .ok (.goto 32, 3) := by decide +kernel
theorem dX7_elementAt_35 : decode cX7_elementAt 35 = .ok (.iload 7, 2) := by decide +kernel
theorem dX7_elementAt_37 : decode cX7_elementAt 37 = .ok (.bipush 59, 2) := by decide +kernel
theorem dX7_elementAt_39 : decode cX7_elementAt 39 = .ok (.isub, 1) := by decide +kernel
theorem dX7_elementAt_40 : decode cX7_elementAt 40 = .ok (.goto 24, 3) := by decide +kernel
theorem dX7_elementAt_43 : decode cX7_elementAt 43 = .ok (.iload 6, 2) := by decide +kernel
theorem dX7_elementAt_45 : decode cX7_elementAt 45 = .ok (.iconst 1, 1) := by decide +kernel
theorem dX7_elementAt_46 : decode cX7_elementAt 46 = .ok (.if_icmp .ne 7, 3) := by decide +kernel
theorem dX7_elementAt_49 : decode cX7_elementAt 49 = .ok (.iconst 1, 1) := by decide +kernel
theorem dX7_elementAt_50 : decode cX7_elementAt 50 = .ok (.goto 14, 3) := by decide +kernel
theorem dX7_elementAt_53 : decode cX7_elementAt 53 = .ok (.iload 6, 2) := by decide +kernel
theorem dX7_elementAt_55 : decode cX7_elementAt 55 = .ok (.iconst 2, 1) := by decide +kernel
theorem dX7_elementAt_56 : decode cX7_elementAt 56 = .ok (.if_icmp .ne 7, 3) := by decide +kernel
theorem dX7_elementAt_59 : decode cX7_elementAt 59 = .ok (.iconst 2, 1) := by decide +kernel
theorem dX7_elementAt_60 : decode cX7_elementAt 60 = .ok (.goto 4, 3) := by decide +kernel
theorem dX7_elementAt_63 : decode cX7_elementAt 63 = .ok (.iconst 4, 1) := by decide +kernel
theorem dX7_elementAt_64 : decode cX7_elementAt 64 = .ok (.istore 8, 2) := by decide +kernel
theorem dX7_elementAt_66 : decode cX7_elementAt 66 = .ok (.iload_n 3, 1) := by decide +kernel
theorem dX7_elementAt_67 : decode cX7_elementAt 67 = .ok (.iload_n 1, 1) := by decide +kernel
theorem dX7_elementAt_68 : decode cX7_elementAt 68 = .ok (.isub, 1) := by decide +kernel
theorem dX7_elementAt_69 : decode cX7_elementAt 69 = .ok (.iconst 1, 1) := by decide +kernel
theorem dX7_elementAt_70 : decode cX7_elementAt 70 = .ok (.isub, 1) := by decide +kernel
theorem dX7_elementAt_71 : decode cX7_elementAt 71 = .ok (.iload 8, 2) := by decide +kernel
theorem dX7_elementAt_73 : decode cX7_elementAt 73 = .ok (.if_icmp .ge 13, 3) := by decide +kernel
theorem dX7_elementAt_76 : decode cX7_elementAt 76 = .ok (.aload_n 0, 1) := by decide +kernel
theorem dX7_elementAt_77 : decode cX7_elementAt 77 = .ok (.iconst 3, 1) := by decide +kernel
theorem dX7_elementAt_78 : decode cX7_elementAt 78 = .ok (.iload_n 1, 1) := by decide +kernel
theorem dX7_elementAt_79 : decode cX7_elementAt 79 = .ok (.iload_n 2, 1) := by decide +kernel
theorem dX7_elementAt_80 : decode cX7_elementAt 80 = .ok (.isub, 1) := by decide +kernel
theorem dX7_elementAt_81 : decode cX7_elementAt 81 = .ok (.invokevirtual 122, 3) := by decide +kernel
theorem dX7_elementAt_84 : decode cX7_elementAt 84 = .ok (.iload_n 1, 1) := by decide +kernel
theorem dX7_elementAt_85 : decode cX7_elementAt 85 = .ok (.ireturn, 1) := by decide +kernel
theorem dX7_elementAt_86 : decode cX7_elementAt 86 = .ok (.lconst 0, 1) := by decide +kernel
theorem dX7_elementAt_87 : decode cX7_elementAt 87 = .ok (.lstore 9, 2) := by decide +kernel
theorem dX7_elementAt_89 : decode cX7_elementAt 89 = .ok (.iconst 0, 1) := by decide +kernel
theorem dX7_elementAt_90 : decode cX7_elementAt 90 = .ok (.istore 11, 2) := by decide +kernel
theorem dX7_elementAt_92 : decode cX7_elementAt 92 = .ok (.iload 11, 2) := by decide +kernel
theorem dX7_elementAt_94 : decode cX7_elementAt 94 = .ok (.iload 8, 2) := by decide +kernel
theorem dX7_elementAt_96 : decode cX7_elementAt 96 = .ok (.if_icmp .ge 31, 3) := by decide +kernel
theorem dX7_elementAt_99 : decode cX7_elementAt 99 = .ok (.lload 9, 2) := by decide +kernel
theorem dX7_elementAt_101 : decode cX7_elementAt 101 = .ok (.aload_n 0, 1) := by decide +kernel
theorem dX7_elementAt_102 : decode cX7_elementAt 102 = .ok (.iload_n 1, 1) := by decide +kernel
theorem dX7_elementAt_103 : decode cX7_elementAt 103 = .ok (.iconst 1, 1) := by decide +kernel
theorem dX7_elementAt_104 : decode cX7_elementAt 104 = .ok (.iadd, 1) := by decide +kernel
theorem dX7_elementAt_105 : decode cX7_elementAt 105 = .ok (.iload 11, 2) := by decide +kernel
theorem dX7_elementAt_107 : decode cX7_elementAt 107 = .ok (.iadd, 1) := by decide +kernel
theorem dX7_elementAt_108 : decode cX7_elementAt 108 = .ok (.invokevirtual 71, 3) := by decide +kernel
theorem dX7_elementAt_111 : decode cX7_elementAt 111 = .ok (.i2l, 1) := by decide +kernel
theorem dX7_elementAt_112 : decode cX7_elementAt 112 = .ok (.bipush 8, 2) := by decide +kernel
theorem dX7_elementAt_114 : decode cX7_elementAt 114 = .ok (.iload 11, 2) := by decide +kernel
theorem dX7_elementAt_116 : decode cX7_elementAt 116 = .ok (.imul, 1) := by decide +kernel
theorem dX7_elementAt_117 : decode cX7_elementAt 117 = .ok (.lshl, 1) := by decide +kernel
theorem dX7_elementAt_118 : decode cX7_elementAt 118 = .ok (.lor, 1) := by decide +kernel
theorem dX7_elementAt_119 : decode cX7_elementAt 119 = .ok (.lstore 9, 2) := by decide +kernel
theorem dX7_elementAt_121 : decode cX7_elementAt 121 = .ok (.iinc 11 1, 3) := by decide +kernel
theorem dX7_elementAt_124 : decode cX7_elementAt 124 = .ok (.goto (-32), 3) := by decide +kernel
theorem dX7_elementAt_127 : decode cX7_elementAt 127 = .ok (.iload_n 1, 1) := by decide +kernel
theorem dX7_elementAt_128 : decode cX7_elementAt 128 = .ok (.iconst 1, 1) := by decide +kernel
theorem dX7_elementAt_129 : decode cX7_elementAt 129 = .ok (.iadd, 1) := by decide +kernel
theorem dX7_elementAt_130 : decode cX7_elementAt 130 = .ok (.iload 8, 2) := by decide +kernel
theorem dX7_elementAt_132 : decode cX7_elementAt 132 = .ok (.iadd, 1) := by decide +kernel
theorem dX7_elementAt_133 : decode cX7_elementAt 133 = .ok (.istore 11, 2) := by decide +kernel
theorem dX7_elementAt_135 : decode cX7_elementAt 135 = .ok (.iload 6, 2) := by decide +kernel
theorem dX7_elementAt_137 : decode cX7_elementAt 137 = .ok (.ifCond .ne 25, 3) := by decide +kernel
theorem dX7_elementAt_140 : decode cX7_elementAt 140 = .ok (.iload 7, 2) := by decide +kernel
theorem dX7_elementAt_142 : decode cX7_elementAt 142 = .ok (.bipush 60, 2) := by decide +kernel
theorem dX7_elementAt_144 : decode cX7_elementAt 144 = .ok (.if_icmp .ge 11, 3) := by decide +kernel
theorem dX7_elementAt_147 : decode cX7_elementAt 147 = .ok (.iload 7, 2) := by decide +kernel
theorem dX7_elementAt_149 : decode cX7_elementAt 149 = .ok (.i2l, 1) := by decide +kernel
theorem dX7_elementAt_150 : decode cX7_elementAt 150 = .ok (.lconst 1, 1) := by decide +kernel
theorem dX7_elementAt_151 : decode cX7_elementAt 151 = .ok (.ladd, 1) := by decide +kernel
theorem dX7_elementAt_152 : decode cX7_elementAt 152 = .ok (.goto 34, 3) := by decide +kernel
theorem dX7_elementAt_155 : decode cX7_elementAt 155 = .ok (.lload 9, 2) := by decide +kernel
theorem dX7_elementAt_157 : decode cX7_elementAt 157 = .ok (.lconst 1, 1) := by decide +kernel
theorem dX7_elementAt_158 : decode cX7_elementAt 158 = .ok (.ladd, 1) := by decide +kernel
theorem dX7_elementAt_159 : decode cX7_elementAt 159 = .ok (.goto 27, 3) := by decide +kernel
theorem dX7_elementAt_162 : decode cX7_elementAt 162 = .ok (.iload 6, 2) := by decide +kernel
theorem dX7_elementAt_164 : decode cX7_elementAt 164 = .ok (.iconst 1, 1) := by decide +kernel
theorem dX7_elementAt_165 : decode cX7_elementAt 165 = .ok (.if_icmp .ne 16, 3) := by decide +kernel
theorem dX7_elementAt_168 : decode cX7_elementAt 168 = .ok (.iload 7, 2) := by decide +kernel
theorem dX7_elementAt_170 : decode cX7_elementAt 170 = .ok (.bipush 7, 2) := by decide +kernel
theorem dX7_elementAt_172 : decode cX7_elementAt 172 = .ok (.iand, 1) := by decide +kernel
theorem dX7_elementAt_173 : decode cX7_elementAt 173 = .ok (.i2l, 1) := by decide +kernel
theorem dX7_elementAt_174 : decode cX7_elementAt 174 = .ok (.ldc2_w 134, 3) := by decide +kernel
theorem dX7_elementAt_177 : decode cX7_elementAt 177 = .ok (.ladd, 1) := by decide +kernel
theorem dX7_elementAt_178 : decode cX7_elementAt 178 = .ok (.goto 8, 3) := by decide +kernel
theorem dX7_elementAt_181 : decode cX7_elementAt 181 = .ok (.iload 7, 2) := by decide +kernel
theorem dX7_elementAt_183 : decode cX7_elementAt 183 = .ok (.i2l, 1) := by decide +kernel
theorem dX7_elementAt_184 : decode cX7_elementAt 184 = .ok (.lconst 1, 1) := by decide +kernel
theorem dX7_elementAt_185 : decode cX7_elementAt 185 = .ok (.ladd, 1) := by decide +kernel
theorem dX7_elementAt_186 : decode cX7_elementAt 186 = .ok (.lstore 12, 2) := by decide +kernel
theorem dX7_elementAt_188 : decode cX7_elementAt 188 = .ok (.iload 6, 2) := by decide +kernel
theorem dX7_elementAt_190 : decode cX7_elementAt 190 = .ok (.ifCond .ne 7, 3) := by decide +kernel
theorem dX7_elementAt_193 : decode cX7_elementAt 193 = .ok (.lconst 0, 1) := by decide +kernel
theorem dX7_elementAt_194 : decode cX7_elementAt 194 = .ok (.goto 26, 3) := by decide +kernel
theorem dX7_elementAt_197 : decode cX7_elementAt 197 = .ok (.iload 6, 2) := by decide +kernel
theorem dX7_elementAt_199 : decode cX7_elementAt 199 = .ok (.iconst 1, 1) := by decide +kernel
theorem dX7_elementAt_200 : decode cX7_elementAt 200 = .ok (.if_icmp .ne 18, 3) := by decide +kernel
theorem dX7_elementAt_203 : decode cX7_elementAt 203 = .ok (.iload 7, 2) := by decide +kernel
theorem dX7_elementAt_205 : decode cX7_elementAt 205 = .ok (.iconst 3, 1) := by decide +kernel
theorem dX7_elementAt_206 : decode cX7_elementAt 206 = .ok (.ishr, 1) := by decide +kernel
theorem dX7_elementAt_207 : decode cX7_elementAt 207 = .ok (.i2l, 1) := by decide +kernel
theorem dX7_elementAt_208 : decode cX7_elementAt 208 = .ok (.ldc2_w 136, 3) := by decide +kernel
theorem dX7_elementAt_211 : decode cX7_elementAt 211 = .ok (.lmul, 1) := by decide +kernel
theorem dX7_elementAt_212 : decode cX7_elementAt 212 = .ok (.lload 9, 2) := by decide +kernel
theorem dX7_elementAt_214 : decode cX7_elementAt 214 = .ok (.ladd, 1) := by decide +kernel
theorem dX7_elementAt_215 : decode cX7_elementAt 215 = .ok (.goto 5, 3) := by decide +kernel
theorem dX7_elementAt_218 : decode cX7_elementAt 218 = .ok (.lload 9, 2) := by decide +kernel
theorem dX7_elementAt_220 : decode cX7_elementAt 220 = .ok (.lstore 14, 2) := by decide +kernel
theorem dX7_elementAt_222 : decode cX7_elementAt 222 = .ok (.iload 6, 2) := by decide +kernel
theorem dX7_elementAt_224 : decode cX7_elementAt 224 = .ok (.ifCond .ne 24, 3) := by decide +kernel
theorem dX7_elementAt_227 : decode cX7_elementAt 227 = .ok (.iload_n 3, 1) := by decide +kernel
theorem dX7_elementAt_228 : decode cX7_elementAt 228 = .ok (.iload 11, 2) := by decide +kernel
theorem dX7_elementAt_230 : decode cX7_elementAt 230 = .ok (.isub, 1) := by decide +kernel
theorem dX7_elementAt_231 : decode cX7_elementAt 231 = .ok (.i2l, 1) := by decide +kernel
theorem dX7_elementAt_232 : decode cX7_elementAt 232 = .ok (.lload 12, 2) := by decide +kernel
theorem dX7_elementAt_234 : decode cX7_elementAt 234 = .ok (.lcmp, 1) := by decide +kernel
theorem dX7_elementAt_235 : decode cX7_elementAt 235 = .ok (.ifCond .ge 13, 3) := by decide +kernel
theorem dX7_elementAt_238 : decode cX7_elementAt 238 = .ok (.aload_n 0, 1) := by decide +kernel
theorem dX7_elementAt_239 : decode cX7_elementAt 239 = .ok (.iconst 3, 1) := by decide +kernel
theorem dX7_elementAt_240 : decode cX7_elementAt 240 = .ok (.iload_n 1, 1) := by decide +kernel
theorem dX7_elementAt_241 : decode cX7_elementAt 241 = .ok (.iload_n 2, 1) := by decide +kernel
theorem dX7_elementAt_242 : decode cX7_elementAt 242 = .ok (.isub, 1) := by decide +kernel
theorem dX7_elementAt_243 : decode cX7_elementAt 243 = .ok (.invokevirtual 122, 3) := by decide +kernel
theorem dX7_elementAt_246 : decode cX7_elementAt 246 = .ok (.iload_n 1, 1) := by decide +kernel
theorem dX7_elementAt_247 : decode cX7_elementAt 247 = .ok (.ireturn, 1) := by decide +kernel
theorem dX7_elementAt_248 : decode cX7_elementAt 248 = .ok (.iload 6, 2) := by decide +kernel
theorem dX7_elementAt_250 : decode cX7_elementAt 250 = .ok (.ifCond .le 34, 3) := by decide +kernel
theorem dX7_elementAt_253 : decode cX7_elementAt 253 = .ok (.lload 14, 2) := by decide +kernel
theorem dX7_elementAt_255 : decode cX7_elementAt 255 = .ok (.lconst 0, 1) := by decide +kernel
theorem dX7_elementAt_256 : decode cX7_elementAt 256 = .ok (.lcmp, 1) := by decide +kernel
theorem dX7_elementAt_257 : decode cX7_elementAt 257 = .ok (.ifCond .eq 17, 3) := by decide +kernel
theorem dX7_elementAt_260 : decode cX7_elementAt 260 = .ok (.lload 14, 2) := by decide +kernel
theorem dX7_elementAt_262 : decode cX7_elementAt 262 = .ok (.aload_n 0, 1) := by decide +kernel
theorem dX7_elementAt_263 : decode cX7_elementAt 263 = .ok (.getfield 119, 3) := by decide +kernel
theorem dX7_elementAt_266 : decode cX7_elementAt 266 = .ok (.iload 4, 2) := by decide +kernel
theorem dX7_elementAt_268 : decode cX7_elementAt 268 = .ok (.isub, 1) := by decide +kernel
theorem dX7_elementAt_269 : decode cX7_elementAt 269 = .ok (.i2l, 1) := by decide +kernel
theorem dX7_elementAt_270 : decode cX7_elementAt 270 = .ok (.lcmp, 1) := by decide +kernel
theorem dX7_elementAt_271 : decode cX7_elementAt 271 = .ok (.ifCond .le 13, 3) := by decide +kernel
theorem dX7_elementAt_274 : decode cX7_elementAt 274 = .ok (.aload_n 0, 1) := by decide +kernel
theorem dX7_elementAt_275 : decode cX7_elementAt 275 = .ok (.iconst 4, 1) := by decide +kernel
theorem dX7_elementAt_276 : decode cX7_elementAt 276 = .ok (.iload_n 1, 1) := by decide +kernel
theorem dX7_elementAt_277 : decode cX7_elementAt 277 = .ok (.iload_n 2, 1) := by decide +kernel
theorem dX7_elementAt_278 : decode cX7_elementAt 278 = .ok (.isub, 1) := by decide +kernel
theorem dX7_elementAt_279 : decode cX7_elementAt 279 = .ok (.invokevirtual 122, 3) := by decide +kernel
theorem dX7_elementAt_282 : decode cX7_elementAt 282 = .ok (.iload_n 1, 1) := by decide +kernel
theorem dX7_elementAt_283 : decode cX7_elementAt 283 = .ok (.ireturn, 1) := by decide +kernel
theorem dX7_elementAt_284 : decode cX7_elementAt 284 = .ok (.aload_n 0, 1) := by decide +kernel
theorem dX7_elementAt_285 : decode cX7_elementAt 285 = .ok (.getfield 119, 3) := by decide +kernel
theorem dX7_elementAt_288 : decode cX7_elementAt 288 = .ok (.iload 4, 2) := by decide +kernel
theorem dX7_elementAt_290 : decode cX7_elementAt 290 = .ok (.isub, 1) := by decide +kernel
theorem dX7_elementAt_291 : decode cX7_elementAt 291 = .ok (.i2l, 1) := by decide +kernel
theorem dX7_elementAt_292 : decode cX7_elementAt 292 = .ok (.lload 12, 2) := by decide +kernel
theorem dX7_elementAt_294 : decode cX7_elementAt 294 = .ok (.ladd, 1) := by decide +kernel
theorem dX7_elementAt_295 : decode cX7_elementAt 295 = .ok (.aload_n 0, 1) := by decide +kernel
theorem dX7_elementAt_296 : decode cX7_elementAt 296 = .ok (.getfield 127, 3) := by decide +kernel
theorem dX7_elementAt_299 : decode cX7_elementAt 299 = .ok (.i2l, 1) := by decide +kernel
theorem dX7_elementAt_300 : decode cX7_elementAt 300 = .ok (.lcmp, 1) := by decide +kernel
theorem dX7_elementAt_301 : decode cX7_elementAt 301 = .ok (.ifCond .le 13, 3) := by decide +kernel
theorem dX7_elementAt_304 : decode cX7_elementAt 304 = .ok (.aload_n 0, 1) := by decide +kernel
theorem dX7_elementAt_305 : decode cX7_elementAt 305 = .ok (.iconst 5, 1) := by decide +kernel
theorem dX7_elementAt_306 : decode cX7_elementAt 306 = .ok (.iload_n 1, 1) := by decide +kernel
theorem dX7_elementAt_307 : decode cX7_elementAt 307 = .ok (.iload_n 2, 1) := by decide +kernel
theorem dX7_elementAt_308 : decode cX7_elementAt 308 = .ok (.isub, 1) := by decide +kernel
theorem dX7_elementAt_309 : decode cX7_elementAt 309 = .ok (.invokevirtual 122, 3) := by decide +kernel
theorem dX7_elementAt_312 : decode cX7_elementAt 312 = .ok (.iload_n 1, 1) := by decide +kernel
theorem dX7_elementAt_313 : decode cX7_elementAt 313 = .ok (.ireturn, 1) := by decide +kernel
theorem dX7_elementAt_314 : decode cX7_elementAt 314 = .ok (.aload_n 0, 1) := by decide +kernel
theorem dX7_elementAt_315 : decode cX7_elementAt 315 = .ok (.getfield 113, 3) := by decide +kernel
theorem dX7_elementAt_318 : decode cX7_elementAt 318 = .ok (.sipush 1000, 3) := by decide +kernel
theorem dX7_elementAt_321 : decode cX7_elementAt 321 = .ok (.if_icmp .ge 84, 3) := by decide +kernel
theorem dX7_elementAt_324 : decode cX7_elementAt 324 = .ok (.aload_n 0, 1) := by decide +kernel
theorem dX7_elementAt_325 : decode cX7_elementAt 325 = .ok (.getfield 29, 3) := by decide +kernel
theorem dX7_elementAt_328 : decode cX7_elementAt 328 = .ok (.iconst 5, 1) := by decide +kernel
theorem dX7_elementAt_329 : decode cX7_elementAt 329 = .ok (.aload_n 0, 1) := by decide +kernel
theorem dX7_elementAt_330 : decode cX7_elementAt 330 = .ok (.getfield 113, 3) := by decide +kernel
theorem dX7_elementAt_333 : decode cX7_elementAt 333 = .ok (.imul, 1) := by decide +kernel
theorem dX7_elementAt_334 : decode cX7_elementAt 334 = .ok (.iload 6, 2) := by decide +kernel
theorem dX7_elementAt_336 : decode cX7_elementAt 336 = .ok (.iastore, 1) := by decide +kernel
theorem dX7_elementAt_337 : decode cX7_elementAt 337 = .ok (.aload_n 0, 1) := by decide +kernel
theorem dX7_elementAt_338 : decode cX7_elementAt 338 = .ok (.getfield 29, 3) := by decide +kernel
theorem dX7_elementAt_341 : decode cX7_elementAt 341 = .ok (.iconst 5, 1) := by decide +kernel
theorem dX7_elementAt_342 : decode cX7_elementAt 342 = .ok (.aload_n 0, 1) := by decide +kernel
theorem dX7_elementAt_343 : decode cX7_elementAt 343 = .ok (.getfield 113, 3) := by decide +kernel
theorem dX7_elementAt_346 : decode cX7_elementAt 346 = .ok (.imul, 1) := by decide +kernel
theorem dX7_elementAt_347 : decode cX7_elementAt 347 = .ok (.iconst 1, 1) := by decide +kernel
theorem dX7_elementAt_348 : decode cX7_elementAt 348 = .ok (.iadd, 1) := by decide +kernel
theorem dX7_elementAt_349 : decode cX7_elementAt 349 = .ok (.iload_n 1, 1) := by decide +kernel
theorem dX7_elementAt_350 : decode cX7_elementAt 350 = .ok (.iload_n 2, 1) := by decide +kernel
theorem dX7_elementAt_351 : decode cX7_elementAt 351 = .ok (.isub, 1) := by decide +kernel
theorem dX7_elementAt_352 : decode cX7_elementAt 352 = .ok (.iastore, 1) := by decide +kernel
theorem dX7_elementAt_353 : decode cX7_elementAt 353 = .ok (.aload_n 0, 1) := by decide +kernel
theorem dX7_elementAt_354 : decode cX7_elementAt 354 = .ok (.getfield 29, 3) := by decide +kernel
theorem dX7_elementAt_357 : decode cX7_elementAt 357 = .ok (.iconst 5, 1) := by decide +kernel
theorem dX7_elementAt_358 : decode cX7_elementAt 358 = .ok (.aload_n 0, 1) := by decide +kernel
theorem dX7_elementAt_359 : decode cX7_elementAt 359 = .ok (.getfield 113, 3) := by decide +kernel
theorem dX7_elementAt_362 : decode cX7_elementAt 362 = .ok (.imul, 1) := by decide +kernel
theorem dX7_elementAt_363 : decode cX7_elementAt 363 = .ok (.iconst 2, 1) := by decide +kernel
theorem dX7_elementAt_364 : decode cX7_elementAt 364 = .ok (.iadd, 1) := by decide +kernel
theorem dX7_elementAt_365 : decode cX7_elementAt 365 = .ok (.lload 12, 2) := by decide +kernel
theorem dX7_elementAt_367 : decode cX7_elementAt 367 = .ok (.l2i, 1) := by decide +kernel
theorem dX7_elementAt_368 : decode cX7_elementAt 368 = .ok (.iastore, 1) := by decide +kernel
theorem dX7_elementAt_369 : decode cX7_elementAt 369 = .ok (.aload_n 0, 1) := by decide +kernel
theorem dX7_elementAt_370 : decode cX7_elementAt 370 = .ok (.getfield 29, 3) := by decide +kernel
theorem dX7_elementAt_373 : decode cX7_elementAt 373 = .ok (.iconst 5, 1) := by decide +kernel
theorem dX7_elementAt_374 : decode cX7_elementAt 374 = .ok (.aload_n 0, 1) := by decide +kernel
theorem dX7_elementAt_375 : decode cX7_elementAt 375 = .ok (.getfield 113, 3) := by decide +kernel
theorem dX7_elementAt_378 : decode cX7_elementAt 378 = .ok (.imul, 1) := by decide +kernel
theorem dX7_elementAt_379 : decode cX7_elementAt 379 = .ok (.iconst 3, 1) := by decide +kernel
theorem dX7_elementAt_380 : decode cX7_elementAt 380 = .ok (.iadd, 1) := by decide +kernel
theorem dX7_elementAt_381 : decode cX7_elementAt 381 = .ok (.lload 14, 2) := by decide +kernel
theorem dX7_elementAt_383 : decode cX7_elementAt 383 = .ok (.l2i, 1) := by decide +kernel
theorem dX7_elementAt_384 : decode cX7_elementAt 384 = .ok (.iastore, 1) := by decide +kernel
theorem dX7_elementAt_385 : decode cX7_elementAt 385 = .ok (.aload_n 0, 1) := by decide +kernel
theorem dX7_elementAt_386 : decode cX7_elementAt 386 = .ok (.getfield 29, 3) := by decide +kernel
theorem dX7_elementAt_389 : decode cX7_elementAt 389 = .ok (.iconst 5, 1) := by decide +kernel
theorem dX7_elementAt_390 : decode cX7_elementAt 390 = .ok (.aload_n 0, 1) := by decide +kernel
theorem dX7_elementAt_391 : decode cX7_elementAt 391 = .ok (.getfield 113, 3) := by decide +kernel
theorem dX7_elementAt_394 : decode cX7_elementAt 394 = .ok (.imul, 1) := by decide +kernel
theorem dX7_elementAt_395 : decode cX7_elementAt 395 = .ok (.iconst 4, 1) := by decide +kernel
theorem dX7_elementAt_396 : decode cX7_elementAt 396 = .ok (.iadd, 1) := by decide +kernel
theorem dX7_elementAt_397 : decode cX7_elementAt 397 = .ok (.aload_n 0, 1) := by decide +kernel
theorem dX7_elementAt_398 : decode cX7_elementAt 398 = .ok (.getfield 119, 3) := by decide +kernel
theorem dX7_elementAt_401 : decode cX7_elementAt 401 = .ok (.iload 4, 2) := by decide +kernel
theorem dX7_elementAt_403 : decode cX7_elementAt 403 = .ok (.isub, 1) := by decide +kernel
theorem dX7_elementAt_404 : decode cX7_elementAt 404 = .ok (.iastore, 1) := by decide +kernel
theorem dX7_elementAt_405 : decode cX7_elementAt 405 = .ok (.aload_n 0, 1) := by decide +kernel
theorem dX7_elementAt_406 : decode cX7_elementAt 406 = .ok (.dup, 1) := by decide +kernel
theorem dX7_elementAt_407 : decode cX7_elementAt 407 = .ok (.getfield 113, 3) := by decide +kernel
theorem dX7_elementAt_410 : decode cX7_elementAt 410 = .ok (.iconst 1, 1) := by decide +kernel
theorem dX7_elementAt_411 : decode cX7_elementAt 411 = .ok (.iadd, 1) := by decide +kernel
theorem dX7_elementAt_412 : decode cX7_elementAt 412 = .ok (.putfield 113, 3) := by decide +kernel
theorem dX7_elementAt_415 : decode cX7_elementAt 415 = .ok (.aload_n 0, 1) := by decide +kernel
theorem dX7_elementAt_416 : decode cX7_elementAt 416 = .ok (.dup, 1) := by decide +kernel
theorem dX7_elementAt_417 : decode cX7_elementAt 417 = .ok (.getfield 116, 3) := by decide +kernel
theorem dX7_elementAt_420 : decode cX7_elementAt 420 = .ok (.iload 6, 2) := by decide +kernel
theorem dX7_elementAt_422 : decode cX7_elementAt 422 = .ok (.ifCond .ne 7, 3) := by decide +kernel
theorem dX7_elementAt_425 : decode cX7_elementAt 425 = .ok (.iconst 1, 1) := by decide +kernel
theorem dX7_elementAt_426 : decode cX7_elementAt 426 = .ok (.goto 4, 3) := by decide +kernel
theorem dX7_elementAt_429 : decode cX7_elementAt 429 = .ok (.iconst 0, 1) := by decide +kernel
theorem dX7_elementAt_430 : decode cX7_elementAt 430 = .ok (.iadd, 1) := by decide +kernel
theorem dX7_elementAt_431 : decode cX7_elementAt 431 = .ok (.putfield 116, 3) := by decide +kernel
theorem dX7_elementAt_434 : decode cX7_elementAt 434 = .ok (.iconst 0, 1) := by decide +kernel
theorem dX7_elementAt_435 : decode cX7_elementAt 435 = .ok (.istore 16, 2) := by decide +kernel
theorem dX7_elementAt_437 : decode cX7_elementAt 437 = .ok (.iload 16, 2) := by decide +kernel
theorem dX7_elementAt_439 : decode cX7_elementAt 439 = .ok (.i2l, 1) := by decide +kernel
theorem dX7_elementAt_440 : decode cX7_elementAt 440 = .ok (.lload 12, 2) := by decide +kernel
theorem dX7_elementAt_442 : decode cX7_elementAt 442 = .ok (.lcmp, 1) := by decide +kernel
theorem dX7_elementAt_443 : decode cX7_elementAt 443 = .ok (.ifCond .ge 59, 3) := by decide +kernel
theorem dX7_elementAt_446 : decode cX7_elementAt 446 = .ok (.aload_n 0, 1) := by decide +kernel
theorem dX7_elementAt_447 : decode cX7_elementAt 447 = .ok (.getfield 16, 3) := by decide +kernel
theorem dX7_elementAt_450 : decode cX7_elementAt 450 = .ok (.aload_n 0, 1) := by decide +kernel
theorem dX7_elementAt_451 : decode cX7_elementAt 451 = .ok (.getfield 119, 3) := by decide +kernel
theorem dX7_elementAt_454 : decode cX7_elementAt 454 = .ok (.iload 6, 2) := by decide +kernel
theorem dX7_elementAt_456 : decode cX7_elementAt 456 = .ok (.ifCond .ne 16, 3) := by decide +kernel
theorem dX7_elementAt_459 : decode cX7_elementAt 459 = .ok (.aload_n 0, 1) := by decide +kernel
theorem dX7_elementAt_460 : decode cX7_elementAt 460 = .ok (.getfield 7, 3) := by decide +kernel
theorem dX7_elementAt_463 : decode cX7_elementAt 463 = .ok (.iload 11, 2) := by decide +kernel
theorem dX7_elementAt_465 : decode cX7_elementAt 465 = .ok (.iload 16, 2) := by decide +kernel
theorem dX7_elementAt_467 : decode cX7_elementAt 467 = .ok (.iadd, 1) := by decide +kernel
theorem dX7_elementAt_468 : decode cX7_elementAt 468 = .ok (.baload, 1) := by decide +kernel
theorem dX7_elementAt_469 : decode cX7_elementAt 469 = .ok (.goto 16, 3) := by decide +kernel
theorem dX7_elementAt_472 : decode cX7_elementAt 472 = .ok (.aload_n 0, 1) := by decide +kernel
theorem dX7_elementAt_473 : decode cX7_elementAt 473 = .ok (.getfield 16, 3) := by decide +kernel
theorem dX7_elementAt_476 : decode cX7_elementAt 476 = .ok (.aload_n 0, 1) := by decide +kernel
theorem dX7_elementAt_477 : decode cX7_elementAt 477 = .ok (.getfield 119, 3) := by decide +kernel
theorem dX7_elementAt_480 : decode cX7_elementAt 480 = .ok (.lload 14, 2) := by decide +kernel
theorem dX7_elementAt_482 : decode cX7_elementAt 482 = .ok (.l2i, 1) := by decide +kernel
theorem dX7_elementAt_483 : decode cX7_elementAt 483 = .ok (.isub, 1) := by decide +kernel
theorem dX7_elementAt_484 : decode cX7_elementAt 484 = .ok (.baload, 1) := by decide +kernel
theorem dX7_elementAt_485 : decode cX7_elementAt 485 = .ok (.bastore, 1) := by decide +kernel
theorem dX7_elementAt_486 : decode cX7_elementAt 486 = .ok (.aload_n 0, 1) := by decide +kernel
theorem dX7_elementAt_487 : decode cX7_elementAt 487 = .ok (.dup, 1) := by decide +kernel
theorem dX7_elementAt_488 : decode cX7_elementAt 488 = .ok (.getfield 119, 3) := by decide +kernel
theorem dX7_elementAt_491 : decode cX7_elementAt 491 = .ok (.iconst 1, 1) := by decide +kernel
theorem dX7_elementAt_492 : decode cX7_elementAt 492 = .ok (.iadd, 1) := by decide +kernel
theorem dX7_elementAt_493 : decode cX7_elementAt 493 = .ok (.putfield 119, 3) := by decide +kernel
theorem dX7_elementAt_496 : decode cX7_elementAt 496 = .ok (.iinc 16 1, 3) := by decide +kernel
theorem dX7_elementAt_499 : decode cX7_elementAt 499 = .ok (.goto (-62), 3) := by decide +kernel
theorem dX7_elementAt_502 : decode cX7_elementAt 502 = .ok (.iload 6, 2) := by decide +kernel
theorem dX7_elementAt_504 : decode cX7_elementAt 504 = .ok (.ifCond .ne 12, 3) := by decide +kernel
theorem dX7_elementAt_507 : decode cX7_elementAt 507 = .ok (.iload 11, 2) := by decide +kernel
theorem dX7_elementAt_509 : decode cX7_elementAt 509 = .ok (.lload 12, 2) := by decide +kernel
theorem dX7_elementAt_511 : decode cX7_elementAt 511 = .ok (.l2i, 1) := by decide +kernel
theorem dX7_elementAt_512 : decode cX7_elementAt 512 = .ok (.iadd, 1) := by decide +kernel
theorem dX7_elementAt_513 : decode cX7_elementAt 513 = .ok (.goto 5, 3) := by decide +kernel
theorem dX7_elementAt_516 : decode cX7_elementAt 516 = .ok (.iload 11, 2) := by decide +kernel
theorem dX7_elementAt_518 : decode cX7_elementAt 518 = .ok (.ireturn, 1) := by decide +kernel
theorem dX7_told_0 : decode cX7_told 0 = .ok (.aload_n 0, 1) := by decide +kernel
theorem dX7_told_1 : decode cX7_told 1 = .ok (.iload_n 1, 1) := by decide +kernel
theorem dX7_told_2 : decode cX7_told 2 = .ok (.putfield 38, 3) := by decide +kernel
theorem dX7_told_5 : decode cX7_told 5 = .ok (.aload_n 0, 1) := by decide +kernel
theorem dX7_told_6 : decode cX7_told 6 = .ok (.iload_n 2, 1) := by decide +kernel
theorem dX7_told_7 : decode cX7_told 7 = .ok (.putfield 42, 3) := by decide +kernel
theorem dX7_told_10 : decode cX7_told 10 = .ok (.aload_n 0, 1) := by decide +kernel
theorem dX7_told_11 : decode cX7_told 11 = .ok (.iload_n 3, 1) := by decide +kernel
theorem dX7_told_12 : decode cX7_told 12 = .ok (.putfield 138, 3) := by decide +kernel
theorem dX7_told_15 : decode cX7_told 15 = .ok (.aload_n 0, 1) := by decide +kernel
theorem dX7_told_16 : decode cX7_told 16 = .ok (.iload 4, 2) := by decide +kernel
theorem dX7_told_18 : decode cX7_told 18 = .ok (.putfield 45, 3) := by decide +kernel
theorem dX7_told_21 : decode cX7_told 21 = .ok (.return_, 1) := by decide +kernel
theorem dX7_open_0 : decode cX7_open 0 = .ok (.aload_n 0, 1) := by decide +kernel
theorem dX7_open_1 : decode cX7_open 1 = .ok (.iconst 0, 1) := by decide +kernel
theorem dX7_open_2 : decode cX7_open 2 = .ok (.putfield 58, 3) := by decide +kernel
theorem dX7_open_5 : decode cX7_open 5 = .ok (.aload_n 0, 1) := by decide +kernel
theorem dX7_open_6 : decode cX7_open 6 = .ok (.iconst 0, 1) := by decide +kernel
theorem dX7_open_7 : decode cX7_open 7 = .ok (.putfield 119, 3) := by decide +kernel
theorem dX7_open_10 : decode cX7_open 10 = .ok (.aload_n 0, 1) := by decide +kernel
theorem dX7_open_11 : decode cX7_open 11 = .ok (.iconst 0, 1) := by decide +kernel
theorem dX7_open_12 : decode cX7_open 12 = .ok (.aload_n 0, 1) := by decide +kernel
theorem dX7_open_13 : decode cX7_open 13 = .ok (.getfield 61, 3) := by decide +kernel
theorem dX7_open_16 : decode cX7_open 16 = .ok (.invokevirtual 141, 3) := by decide +kernel
theorem dX7_open_19 : decode cX7_open 19 = .ok (.aload_n 0, 1) := by decide +kernel
theorem dX7_open_20 : decode cX7_open 20 = .ok (.aload_n 0, 1) := by decide +kernel
theorem dX7_open_21 : decode cX7_open 21 = .ok (.getfield 107, 3) := by decide +kernel
theorem dX7_open_24 : decode cX7_open 24 = .ok (.aload_n 0, 1) := by decide +kernel
theorem dX7_open_25 : decode cX7_open 25 = .ok (.getfield 110, 3) := by decide +kernel
theorem dX7_open_28 : decode cX7_open 28 = .ok (.iconst 0, 1) := by decide +kernel
theorem dX7_open_29 : decode cX7_open 29 = .ok (.iconst (-1), 1) := by decide +kernel
theorem dX7_open_30 : decode cX7_open 30 = .ok (.invokevirtual 144, 3) := by decide +kernel
theorem dX7_open_33 : decode cX7_open 33 = .ok (.aload_n 0, 1) := by decide +kernel
theorem dX7_open_34 : decode cX7_open 34 = .ok (.getfield 107, 3) := by decide +kernel
theorem dX7_open_37 : decode cX7_open 37 = .ok (.ifCond .le 6, 3) := by decide +kernel
theorem dX7_open_40 : decode cX7_open 40 = .ok (.bipush (-2), 2) := by decide +kernel
theorem dX7_open_42 : decode cX7_open 42 = .ok (.ireturn, 1) := by decide +kernel
theorem dX7_open_43 : decode cX7_open 43 = .ok (.aload_n 0, 1) := by decide +kernel
theorem dX7_open_44 : decode cX7_open 44 = .ok (.aload_n 0, 1) := by decide +kernel
theorem dX7_open_45 : decode cX7_open 45 = .ok (.getfield 16, 3) := by decide +kernel
theorem dX7_open_48 : decode cX7_open 48 = .ok (.aload_n 0, 1) := by decide +kernel
theorem dX7_open_49 : decode cX7_open 49 = .ok (.getfield 119, 3) := by decide +kernel
theorem dX7_open_52 : decode cX7_open 52 = .ok (.invokevirtual 103, 3) := by decide +kernel
theorem dX7_open_55 : decode cX7_open 55 = .ok (.aload_n 0, 1) := by decide +kernel
theorem dX7_open_56 : decode cX7_open 56 = .ok (.aload_n 0, 1) := by decide +kernel
theorem dX7_open_57 : decode cX7_open 57 = .ok (.getfield 113, 3) := by decide +kernel
theorem dX7_open_60 : decode cX7_open 60 = .ok (.putfield 148, 3) := by decide +kernel
theorem dX7_open_63 : decode cX7_open 63 = .ok (.aload_n 0, 1) := by decide +kernel
theorem dX7_open_64 : decode cX7_open 64 = .ok (.aload_n 0, 1) := by decide +kernel
theorem dX7_open_65 : decode cX7_open 65 = .ok (.getfield 116, 3) := by decide +kernel
theorem dX7_open_68 : decode cX7_open 68 = .ok (.putfield 151, 3) := by decide +kernel
theorem dX7_open_71 : decode cX7_open 71 = .ok (.iconst 0, 1) := by decide +kernel
theorem dX7_open_72 : decode cX7_open 72 = .ok (.istore_n 1, 1) := by decide +kernel
theorem dX7_open_73 : decode cX7_open 73 = .ok (.iload_n 1, 1) := by decide +kernel
theorem dX7_open_74 : decode cX7_open 74 = .ok (.iconst 5, 1) := by decide +kernel
theorem dX7_open_75 : decode cX7_open 75 = .ok (.aload_n 0, 1) := by decide +kernel
theorem dX7_open_76 : decode cX7_open 76 = .ok (.getfield 113, 3) := by decide +kernel
theorem dX7_open_79 : decode cX7_open 79 = .ok (.imul, 1) := by decide +kernel
theorem dX7_open_80 : decode cX7_open 80 = .ok (.if_icmp .ge 28, 3) := by decide +kernel
theorem dX7_open_83 : decode cX7_open 83 = .ok (.iload_n 1, 1) := by decide +kernel
theorem dX7_open_84 : decode cX7_open 84 = .ok (.sipush 5000, 3) := by decide +kernel
theorem dX7_open_87 : decode cX7_open 87 = .ok (.if_icmp .ge 21, 3) := by decide +kernel
theorem dX7_open_90 : decode cX7_open 90 = .ok (.aload_n 0, 1) := by decide +kernel
theorem dX7_open_91 : decode cX7_open 91 = .ok (.getfield 32, 3) := by decide +kernel
theorem dX7_open_94 : decode cX7_open 94 = .ok (.iload_n 1, 1) := by decide +kernel
theorem dX7_open_95 : decode cX7_open 95 = .ok (.aload_n 0, 1) := by decide +kernel
theorem dX7_open_96 : decode cX7_open 96 = .ok (.getfield 29, 3) := by decide +kernel
theorem dX7_open_99 : decode cX7_open 99 = .ok (.iload_n 1, 1) := by decide +kernel
theorem dX7_open_100 : decode cX7_open 100 = .ok (.iaload, 1) := by decide +kernel
theorem dX7_open_101 : decode cX7_open 101 = .ok (.iastore, 1) := by decide +kernel
theorem dX7_open_102 : decode cX7_open 102 = .ok (.iinc 1 1, 3) := by decide +kernel
theorem dX7_open_105 : decode cX7_open 105 = .ok (.goto (-32), 3) := by decide +kernel
theorem dX7_open_108 : decode cX7_open 108 = .ok (.aload_n 0, 1) := by decide +kernel
theorem dX7_open_109 : decode cX7_open 109 = .ok (.getfield 68, 3) := by decide +kernel
theorem dX7_open_112 : decode cX7_open 112 = .ok (.ireturn, 1) := by decide +kernel
theorem dX7_fault_0 : decode cX7_fault 0 = .ok (.aload_n 0, 1) := by decide +kernel
theorem dX7_fault_1 : decode cX7_fault 1 = .ok (.iconst 0, 1) := by decide +kernel
theorem dX7_fault_2 : decode cX7_fault 2 = .ok (.putfield 58, 3) := by decide +kernel
theorem dX7_fault_5 : decode cX7_fault 5 = .ok (.aload_n 0, 1) := by decide +kernel
theorem dX7_fault_6 : decode cX7_fault 6 = .ok (.getfield 38, 3) := by decide +kernel
theorem dX7_fault_9 : decode cX7_fault 9 = .ok (.ifCond .ge 5, 3) := by decide +kernel
theorem dX7_fault_12 : decode cX7_fault 12 = .ok (.iconst (-1), 1) := by decide +kernel
theorem dX7_fault_13 : decode cX7_fault 13 = .ok (.ireturn, 1) := by decide +kernel
theorem dX7_fault_14 : decode cX7_fault 14 = .ok (.iload_n 1, 1) := by decide +kernel
theorem dX7_fault_15 : decode cX7_fault 15 = .ok (.tableswitch 49 0 3 #[29, 34, 39, 44], 29) := by decide +kernel
theorem dX7_fault_44 : decode cX7_fault 44 = .ok (.aload_n 0, 1) := by decide +kernel
theorem dX7_fault_45 : decode cX7_fault 45 = .ok (.getfield 38, 3) := by decide +kernel
theorem dX7_fault_48 : decode cX7_fault 48 = .ok (.ireturn, 1) := by decide +kernel
theorem dX7_fault_49 : decode cX7_fault 49 = .ok (.aload_n 0, 1) := by decide +kernel
theorem dX7_fault_50 : decode cX7_fault 50 = .ok (.getfield 42, 3) := by decide +kernel
theorem dX7_fault_53 : decode cX7_fault 53 = .ok (.ireturn, 1) := by decide +kernel
theorem dX7_fault_54 : decode cX7_fault 54 = .ok (.aload_n 0, 1) := by decide +kernel
theorem dX7_fault_55 : decode cX7_fault 55 = .ok (.getfield 138, 3) := by decide +kernel
theorem dX7_fault_58 : decode cX7_fault 58 = .ok (.ireturn, 1) := by decide +kernel
theorem dX7_fault_59 : decode cX7_fault 59 = .ok (.aload_n 0, 1) := by decide +kernel
theorem dX7_fault_60 : decode cX7_fault 60 = .ok (.getfield 45, 3) := by decide +kernel
theorem dX7_fault_63 : decode cX7_fault 63 = .ok (.ireturn, 1) := by decide +kernel
theorem dX7_fault_64 : decode cX7_fault 64 = .ok (.iconst (-1), 1) := by decide +kernel
theorem dX7_fault_65 : decode cX7_fault 65 = .ok (.ireturn, 1) := by decide +kernel
theorem dX7_element_0 : decode cX7_element 0 = .ok (.aload_n 0, 1) := by decide +kernel
theorem dX7_element_1 : decode cX7_element 1 = .ok (.iconst 0, 1) := by decide +kernel
theorem dX7_element_2 : decode cX7_element 2 = .ok (.putfield 58, 3) := by decide +kernel
theorem dX7_element_5 : decode cX7_element 5 = .ok (.iload_n 1, 1) := by decide +kernel
theorem dX7_element_6 : decode cX7_element 6 = .ok (.ifCond .lt 40, 3) := by decide +kernel
theorem dX7_element_9 : decode cX7_element 9 = .ok (.iload_n 1, 1) := by decide +kernel
theorem dX7_element_10 : decode cX7_element 10 = .ok (.aload_n 0, 1) := by decide +kernel
theorem dX7_element_11 : decode cX7_element 11 = .ok (.getfield 148, 3) := by decide +kernel
theorem dX7_element_14 : decode cX7_element 14 = .ok (.if_icmp .ge 32, 3) := by decide +kernel
theorem dX7_element_17 : decode cX7_element 17 = .ok (.iload_n 1, 1) := by decide +kernel
theorem dX7_element_18 : decode cX7_element 18 = .ok (.sipush 1000, 3) := by decide +kernel
theorem dX7_element_21 : decode cX7_element 21 = .ok (.if_icmp .ge 25, 3) := by decide +kernel
theorem dX7_element_24 : decode cX7_element 24 = .ok (.iload_n 2, 1) := by decide +kernel
theorem dX7_element_25 : decode cX7_element 25 = .ok (.ifCond .lt 21, 3) := by decide +kernel
theorem dX7_element_28 : decode cX7_element 28 = .ok (.iload_n 2, 1) := by decide +kernel
theorem dX7_element_29 : decode cX7_element 29 = .ok (.iconst 5, 1) := by decide +kernel
theorem dX7_element_30 : decode cX7_element 30 = .ok (.if_icmp .ge 16, 3) := by decide +kernel
theorem dX7_element_33 : decode cX7_element 33 = .ok (.aload_n 0, 1) := by decide +kernel
theorem dX7_element_34 : decode cX7_element 34 = .ok (.getfield 32, 3) := by decide +kernel
theorem dX7_element_37 : decode cX7_element 37 = .ok (.iconst 5, 1) := by decide +kernel
theorem dX7_element_38 : decode cX7_element 38 = .ok (.iload_n 1, 1) := by decide +kernel
theorem dX7_element_39 : decode cX7_element 39 = .ok (.imul, 1) := by decide +kernel
theorem dX7_element_40 : decode cX7_element 40 = .ok (.iload_n 2, 1) := by decide +kernel
theorem dX7_element_41 : decode cX7_element 41 = .ok (.iadd, 1) := by decide +kernel
theorem dX7_element_42 : decode cX7_element 42 = .ok (.iaload, 1) := by decide +kernel
theorem dX7_element_43 : decode cX7_element 43 = .ok (.goto 4, 3) := by decide +kernel
theorem dX7_element_46 : decode cX7_element 46 = .ok (.iconst (-1), 1) := by decide +kernel
theorem dX7_element_47 : decode cX7_element 47 = .ok (.ireturn, 1) := by decide +kernel
theorem dX7_chunk_0 : decode cX7_chunk 0 = .ok (.aload_n 0, 1) := by decide +kernel
theorem dX7_chunk_1 : decode cX7_chunk 1 = .ok (.iconst 0, 1) := by decide +kernel
theorem dX7_chunk_2 : decode cX7_chunk 2 = .ok (.putfield 58, 3) := by decide +kernel
theorem dX7_chunk_5 : decode cX7_chunk 5 = .ok (.iload_n 1, 1) := by decide +kernel
theorem dX7_chunk_6 : decode cX7_chunk 6 = .ok (.ifCond .lt 40, 3) := by decide +kernel
theorem dX7_chunk_9 : decode cX7_chunk 9 = .ok (.iload_n 1, 1) := by decide +kernel
theorem dX7_chunk_10 : decode cX7_chunk 10 = .ok (.aload_n 0, 1) := by decide +kernel
theorem dX7_chunk_11 : decode cX7_chunk 11 = .ok (.getfield 154, 3) := by decide +kernel
theorem dX7_chunk_14 : decode cX7_chunk 14 = .ok (.if_icmp .ge 32, 3) := by decide +kernel
theorem dX7_chunk_17 : decode cX7_chunk 17 = .ok (.iload_n 1, 1) := by decide +kernel
theorem dX7_chunk_18 : decode cX7_chunk 18 = .ok (.sipush 1000, 3) := by decide +kernel
theorem dX7_chunk_21 : decode cX7_chunk 21 = .ok (.if_icmp .ge 25, 3) := by decide +kernel
theorem dX7_chunk_24 : decode cX7_chunk 24 = .ok (.iload_n 2, 1) := by decide +kernel
theorem dX7_chunk_25 : decode cX7_chunk 25 = .ok (.ifCond .lt 21, 3) := by decide +kernel
theorem dX7_chunk_28 : decode cX7_chunk 28 = .ok (.iload_n 2, 1) := by decide +kernel
theorem dX7_chunk_29 : decode cX7_chunk 29 = .ok (.iconst 5, 1) := by decide +kernel
theorem dX7_chunk_30 : decode cX7_chunk 30 = .ok (.if_icmp .ge 16, 3) := by decide +kernel
theorem dX7_chunk_33 : decode cX7_chunk 33 = .ok (.aload_n 0, 1) := by decide +kernel
theorem dX7_chunk_34 : decode cX7_chunk 34 = .ok (.getfield 35, 3) := by decide +kernel
theorem dX7_chunk_37 : decode cX7_chunk 37 = .ok (.iconst 5, 1) := by decide +kernel
theorem dX7_chunk_38 : decode cX7_chunk 38 = .ok (.iload_n 1, 1) := by decide +kernel
theorem dX7_chunk_39 : decode cX7_chunk 39 = .ok (.imul, 1) := by decide +kernel
theorem dX7_chunk_40 : decode cX7_chunk 40 = .ok (.iload_n 2, 1) := by decide +kernel
theorem dX7_chunk_41 : decode cX7_chunk 41 = .ok (.iadd, 1) := by decide +kernel
theorem dX7_chunk_42 : decode cX7_chunk 42 = .ok (.iaload, 1) := by decide +kernel
theorem dX7_chunk_43 : decode cX7_chunk 43 = .ok (.goto 4, 3) := by decide +kernel
theorem dX7_chunk_46 : decode cX7_chunk 46 = .ok (.iconst (-1), 1) := by decide +kernel
theorem dX7_chunk_47 : decode cX7_chunk 47 = .ok (.ireturn, 1) := by decide +kernel
theorem dX7_about_0 : decode cX7_about 0 = .ok (.aload_n 0, 1) := by decide +kernel
theorem dX7_about_1 : decode cX7_about 1 = .ok (.iconst 0, 1) := by decide +kernel
theorem dX7_about_2 : decode cX7_about 2 = .ok (.putfield 58, 3) := by decide +kernel
theorem dX7_about_5 : decode cX7_about 5 = .ok (.iload_n 1, 1) := by decide +kernel
theorem dX7_about_6 : decode cX7_about 6 = .ok (.tableswitch 68 0 5 #[38, 43, 48, 53, 58, 63], 38) := by decide +kernel
theorem dX7_about_44 : decode cX7_about 44 = .ok (.aload_n 0, 1) := by decide +kernel
theorem dX7_about_45 : decode cX7_about 45 = .ok (.getfield 61, 3) := by decide +kernel
theorem dX7_about_48 : decode cX7_about 48 = .ok (.ireturn, 1) := by decide +kernel
theorem dX7_about_49 : decode cX7_about 49 = .ok (.aload_n 0, 1) := by decide +kernel
theorem dX7_about_50 : decode cX7_about 50 = .ok (.getfield 68, 3) := by decide +kernel
theorem dX7_about_53 : decode cX7_about 53 = .ok (.ireturn, 1) := by decide +kernel
theorem dX7_about_54 : decode cX7_about 54 = .ok (.aload_n 0, 1) := by decide +kernel
theorem dX7_about_55 : decode cX7_about 55 = .ok (.getfield 148, 3) := by decide +kernel
theorem dX7_about_58 : decode cX7_about 58 = .ok (.ireturn, 1) := by decide +kernel
theorem dX7_about_59 : decode cX7_about 59 = .ok (.aload_n 0, 1) := by decide +kernel
theorem dX7_about_60 : decode cX7_about 60 = .ok (.getfield 151, 3) := by decide +kernel
theorem dX7_about_63 : decode cX7_about 63 = .ok (.ireturn, 1) := by decide +kernel
theorem dX7_about_64 : decode cX7_about 64 = .ok (.aload_n 0, 1) := by decide +kernel
theorem dX7_about_65 : decode cX7_about 65 = .ok (.getfield 154, 3) := by decide +kernel
theorem dX7_about_68 : decode cX7_about 68 = .ok (.ireturn, 1) := by decide +kernel
theorem dX7_about_69 : decode cX7_about 69 = .ok (.aload_n 0, 1) := by decide +kernel
theorem dX7_about_70 : decode cX7_about 70 = .ok (.getfield 157, 3) := by decide +kernel
theorem dX7_about_73 : decode cX7_about 73 = .ok (.ireturn, 1) := by decide +kernel
theorem dX7_about_74 : decode cX7_about 74 = .ok (.iconst (-1), 1) := by decide +kernel
theorem dX7_about_75 : decode cX7_about 75 = .ok (.ireturn, 1) := by decide +kernel
theorem dX7_sumOf_0 : decode cX7_sumOf 0 = .ok (.iconst (-1), 1) := by decide +kernel
theorem dX7_sumOf_1 : decode cX7_sumOf 1 = .ok (.istore 4, 2) := by decide +kernel
theorem dX7_sumOf_3 : decode cX7_sumOf 3 = .ok (.iload_n 2, 1) := by decide +kernel
theorem dX7_sumOf_4 : decode cX7_sumOf 4 = .ok (.istore 5, 2) := by decide +kernel
theorem dX7_sumOf_6 : decode cX7_sumOf 6 = .ok (.iload 5, 2) := by decide +kernel
theorem dX7_sumOf_8 : decode cX7_sumOf 8 = .ok (.iload_n 3, 1) := by decide +kernel
theorem dX7_sumOf_9 : decode cX7_sumOf 9 = .ok (.if_icmp .ge 33, 3) := by decide +kernel
theorem dX7_sumOf_12 : decode cX7_sumOf 12 = .ok (.aload_n 0, 1) := by decide +kernel
theorem dX7_sumOf_13 : decode cX7_sumOf 13 = .ok (.getfield 48, 3) := by decide +kernel
theorem dX7_sumOf_16 : decode cX7_sumOf 16 = .ok (.iload 4, 2) := by decide +kernel
theorem dX7_sumOf_18 : decode cX7_sumOf 18 = .ok (.aload_n 1, 1) := by decide +kernel
theorem dX7_sumOf_19 : decode cX7_sumOf 19 = .ok (.iload 5, 2) := by decide +kernel
theorem dX7_sumOf_21 : decode cX7_sumOf 21 = .ok (.baload, 1) := by decide +kernel
theorem dX7_sumOf_22 : decode cX7_sumOf 22 = .ok (.ixor, 1) := by decide +kernel
theorem dX7_sumOf_23 : decode cX7_sumOf 23 = .ok (.sipush 255, 3) := by decide +kernel
theorem dX7_sumOf_26 : decode cX7_sumOf 26 = .ok (.iand, 1) := by decide +kernel
theorem dX7_sumOf_27 : decode cX7_sumOf 27 = .ok (.iaload, 1) := by decide +kernel
theorem dX7_sumOf_28 : decode cX7_sumOf 28 = .ok (.iload 4, 2) := by decide +kernel
theorem dX7_sumOf_30 : decode cX7_sumOf 30 = .ok (.bipush 8, 2) := by decide +kernel
theorem dX7_sumOf_32 : decode cX7_sumOf 32 = .ok (.iushr, 1) := by decide +kernel
theorem dX7_sumOf_33 : decode cX7_sumOf 33 = .ok (.ixor, 1) := by decide +kernel
theorem dX7_sumOf_34 : decode cX7_sumOf 34 = .ok (.istore 4, 2) := by decide +kernel
theorem dX7_sumOf_36 : decode cX7_sumOf 36 = .ok (.iinc 5 1, 3) := by decide +kernel
theorem dX7_sumOf_39 : decode cX7_sumOf 39 = .ok (.goto (-33), 3) := by decide +kernel
theorem dX7_sumOf_42 : decode cX7_sumOf 42 = .ok (.iload 4, 2) := by decide +kernel
theorem dX7_sumOf_44 : decode cX7_sumOf 44 = .ok (.iconst (-1), 1) := by decide +kernel
theorem dX7_sumOf_45 : decode cX7_sumOf 45 = .ok (.ixor, 1) := by decide +kernel
theorem dX7_sumOf_46 : decode cX7_sumOf 46 = .ok (.ireturn, 1) := by decide +kernel
theorem dX7_masked_0 : decode cX7_masked 0 = .ok (.iload_n 1, 1) := by decide +kernel
theorem dX7_masked_1 : decode cX7_masked 1 = .ok (.bipush 15, 2) := by decide +kernel
theorem dX7_masked_3 : decode cX7_masked 3 = .ok (.iushr, 1) := by decide +kernel
theorem dX7_masked_4 : decode cX7_masked 4 = .ok (.iload_n 1, 1) := by decide +kernel
theorem dX7_masked_5 : decode cX7_masked 5 = .ok (.bipush 17, 2) := by decide +kernel
theorem dX7_masked_7 : decode cX7_masked 7 = .ok (.ishl, 1) := by decide +kernel
end
section
theorem dX7_masked_8 : decode cX7_masked 8 = .ok (.ior, 1) := by decide +kernel
theorem dX7_masked_9 : decode cX7_masked 9 = .ok (.ldc 160, 2) := by decide +kernel
theorem dX7_masked_11 : decode cX7_masked 11 = .ok (.iadd, 1) := by decide +kernel
theorem dX7_masked_12 : decode cX7_masked 12 = .ok (.ireturn, 1) := by decide +kernel
theorem dX7_sum_0 : decode cX7_sum 0 = .ok (.aload_n 0, 1) := by decide +kernel
theorem dX7_sum_1 : decode cX7_sum 1 = .ok (.iconst 0, 1) := by decide +kernel
theorem dX7_sum_2 : decode cX7_sum 2 = .ok (.putfield 58, 3) := by decide +kernel
theorem dX7_sum_5 : decode cX7_sum 5 = .ok (.iload_n 1, 1) := by decide +kernel
theorem dX7_sum_6 : decode cX7_sum 6 = .ok (.ifCond .lt 25, 3) := by decide +kernel
theorem dX7_sum_9 : decode cX7_sum 9 = .ok (.iload_n 2, 1) := by decide +kernel
theorem dX7_sum_10 : decode cX7_sum 10 = .ok (.ifCond .lt 21, 3) := by decide +kernel
theorem dX7_sum_13 : decode cX7_sum 13 = .ok (.iload_n 1, 1) := by decide +kernel
theorem dX7_sum_14 : decode cX7_sum 14 = .ok (.aload_n 0, 1) := by decide +kernel
theorem dX7_sum_15 : decode cX7_sum 15 = .ok (.getfield 61, 3) := by decide +kernel
theorem dX7_sum_18 : decode cX7_sum 18 = .ok (.if_icmp .gt 13, 3) := by decide +kernel
theorem dX7_sum_21 : decode cX7_sum 21 = .ok (.iload_n 2, 1) := by decide +kernel
theorem dX7_sum_22 : decode cX7_sum 22 = .ok (.aload_n 0, 1) := by decide +kernel
theorem dX7_sum_23 : decode cX7_sum 23 = .ok (.getfield 61, 3) := by decide +kernel
theorem dX7_sum_26 : decode cX7_sum 26 = .ok (.iload_n 1, 1) := by decide +kernel
theorem dX7_sum_27 : decode cX7_sum 27 = .ok (.isub, 1) := by decide +kernel
theorem dX7_sum_28 : decode cX7_sum 28 = .ok (.if_icmp .le 5, 3) := by decide +kernel
theorem dX7_sum_31 : decode cX7_sum 31 = .ok (.iconst 0, 1) := by decide +kernel
theorem dX7_sum_32 : decode cX7_sum 32 = .ok (.ireturn, 1) := by decide +kernel
theorem dX7_sum_33 : decode cX7_sum 33 = .ok (.aload_n 0, 1) := by decide +kernel
theorem dX7_sum_34 : decode cX7_sum 34 = .ok (.aload_n 0, 1) := by decide +kernel
theorem dX7_sum_35 : decode cX7_sum 35 = .ok (.getfield 7, 3) := by decide +kernel
theorem dX7_sum_38 : decode cX7_sum 38 = .ok (.iload_n 1, 1) := by decide +kernel
theorem dX7_sum_39 : decode cX7_sum 39 = .ok (.iload_n 1, 1) := by decide +kernel
theorem dX7_sum_40 : decode cX7_sum 40 = .ok (.iload_n 2, 1) := by decide +kernel
theorem dX7_sum_41 : decode cX7_sum 41 = .ok (.iadd, 1) := by decide +kernel
theorem dX7_sum_42 : decode cX7_sum 42 = .ok (.invokevirtual 161, 3) := by decide +kernel
theorem dX7_sum_45 : decode cX7_sum 45 = .ok (.istore 4, 2) := by decide +kernel
theorem dX7_sum_47 : decode cX7_sum 47 = .ok (.iload_n 3, 1) := by decide +kernel
theorem dX7_sum_48 : decode cX7_sum 48 = .ok (.ifCond .eq 12, 3) := by decide +kernel
theorem dX7_sum_51 : decode cX7_sum 51 = .ok (.aload_n 0, 1) := by decide +kernel
theorem dX7_sum_52 : decode cX7_sum 52 = .ok (.iload 4, 2) := by decide +kernel
theorem dX7_sum_54 : decode cX7_sum 54 = .ok (.invokevirtual 165, 3) := by decide +kernel
theorem dX7_sum_57 : decode cX7_sum 57 = .ok (.goto 5, 3) := by decide +kernel
theorem dX7_sum_60 : decode cX7_sum 60 = .ok (.iload 4, 2) := by decide +kernel
theorem dX7_sum_62 : decode cX7_sum 62 = .ok (.ireturn, 1) := by decide +kernel
theorem dX7_name_0 : decode cX7_name 0 = .ok (.iload_n 1, 1) := by decide +kernel
theorem dX7_name_1 : decode cX7_name 1 = .ok (.tableswitch 50 0 4 #[35, 38, 41, 44, 47], 35) := by decide +kernel
theorem dX7_name_36 : decode cX7_name 36 = .ok (.bipush 115, 2) := by decide +kernel
theorem dX7_name_38 : decode cX7_name 38 = .ok (.ireturn, 1) := by decide +kernel
theorem dX7_name_39 : decode cX7_name 39 = .ok (.bipush 78, 2) := by decide +kernel
theorem dX7_name_41 : decode cX7_name 41 = .ok (.ireturn, 1) := by decide +kernel
theorem dX7_name_42 : decode cX7_name 42 = .ok (.bipush 97, 2) := by decide +kernel
theorem dX7_name_44 : decode cX7_name 44 = .ok (.ireturn, 1) := by decide +kernel
theorem dX7_name_45 : decode cX7_name 45 = .ok (.bipush 80, 2) := by decide +kernel
theorem dX7_name_47 : decode cX7_name 47 = .ok (.ireturn, 1) := by decide +kernel
theorem dX7_name_48 : decode cX7_name 48 = .ok (.bipush 112, 2) := by decide +kernel
theorem dX7_name_50 : decode cX7_name 50 = .ok (.ireturn, 1) := by decide +kernel
theorem dX7_name_51 : decode cX7_name 51 = .ok (.bipush 89, 2) := by decide +kernel
theorem dX7_name_53 : decode cX7_name 53 = .ok (.ireturn, 1) := by decide +kernel
theorem dX7_isName_0 : decode cX7_isName 0 = .ok (.iconst 0, 1) := by decide +kernel
theorem dX7_isName_1 : decode cX7_isName 1 = .ok (.istore_n 2, 1) := by decide +kernel
theorem dX7_isName_2 : decode cX7_isName 2 = .ok (.iload_n 2, 1) := by decide +kernel
theorem dX7_isName_3 : decode cX7_isName 3 = .ok (.bipush 6, 2) := by decide +kernel
theorem dX7_isName_5 : decode cX7_isName 5 = .ok (.if_icmp .ge 26, 3) := by decide +kernel
theorem dX7_isName_8 : decode cX7_isName 8 = .ok (.aload_n 0, 1) := by decide +kernel
theorem dX7_isName_9 : decode cX7_isName 9 = .ok (.iload_n 1, 1) := by decide +kernel
theorem dX7_isName_10 : decode cX7_isName 10 = .ok (.iload_n 2, 1) := by decide +kernel
theorem dX7_isName_11 : decode cX7_isName 11 = .ok (.iadd, 1) := by decide +kernel
theorem dX7_isName_12 : decode cX7_isName 12 = .ok (.invokevirtual 71, 3) := by decide +kernel
theorem dX7_isName_15 : decode cX7_isName 15 = .ok (.aload_n 0, 1) := by decide +kernel
theorem dX7_isName_16 : decode cX7_isName 16 = .ok (.iload_n 2, 1) := by decide +kernel
theorem dX7_isName_17 : decode cX7_isName 17 = .ok (.invokevirtual 168, 3) := by decide +kernel
theorem dX7_isName_20 : decode cX7_isName 20 = .ok (.if_icmp .eq 5, 3) := by decide +kernel
theorem dX7_isName_23 : decode cX7_isName 23 = .ok (.iconst 0, 1) := by decide +kernel
theorem dX7_isName_24 : decode cX7_isName 24 = .ok (.ireturn, 1) := by decide +kernel
theorem dX7_isName_25 : decode cX7_isName 25 = .ok (.iinc 2 1, 3) := by decide +kernel
theorem dX7_isName_28 : decode cX7_isName 28 = .ok (.goto (-26), 3) := by decide +kernel
theorem dX7_isName_31 : decode cX7_isName 31 = .ok (.iconst 1, 1) := by decide +kernel
theorem dX7_isName_32 : decode cX7_isName 32 = .ok (.ireturn, 1) := by decide +kernel
theorem dX7_fourAt_0 : decode cX7_fourAt 0 = .ok (.aload_n 0, 1) := by decide +kernel
theorem dX7_fourAt_1 : decode cX7_fourAt 1 = .ok (.iload_n 1, 1) := by decide +kernel
theorem dX7_fourAt_2 : decode cX7_fourAt 2 = .ok (.invokevirtual 71, 3) := by decide +kernel
theorem dX7_fourAt_5 : decode cX7_fourAt 5 = .ok (.aload_n 0, 1) := by decide +kernel
theorem dX7_fourAt_6 : decode cX7_fourAt 6 = .ok (.iload_n 1, 1) := by decide +kernel
theorem dX7_fourAt_7 : decode cX7_fourAt 7 = .ok (.iconst 1, 1) := by decide +kernel
theorem dX7_fourAt_8 : decode cX7_fourAt 8 = .ok (.iadd, 1) := by decide +kernel
theorem dX7_fourAt_9 : decode cX7_fourAt 9 = .ok (.invokevirtual 71, 3) := by decide +kernel
theorem dX7_fourAt_12 : decode cX7_fourAt 12 = .ok (.bipush 8, 2) := by decide +kernel
theorem dX7_fourAt_14 : decode cX7_fourAt 14 = .ok (.ishl, 1) := by decide +kernel
theorem dX7_fourAt_15 : decode cX7_fourAt 15 = .ok (.ior, 1) := by decide +kernel
theorem dX7_fourAt_16 : decode cX7_fourAt 16 = .ok (.aload_n 0, 1) := by decide +kernel
theorem dX7_fourAt_17 : decode cX7_fourAt 17 = .ok (.iload_n 1, 1) := by decide +kernel
theorem dX7_fourAt_18 : decode cX7_fourAt 18 = .ok (.iconst 2, 1) := by decide +kernel
theorem dX7_fourAt_19 : decode cX7_fourAt 19 = .ok (.iadd, 1) := by decide +kernel
theorem dX7_fourAt_20 : decode cX7_fourAt 20 = .ok (.invokevirtual 71, 3) := by decide +kernel
theorem dX7_fourAt_23 : decode cX7_fourAt 23 = .ok (.bipush 16, 2) := by decide +kernel
theorem dX7_fourAt_25 : decode cX7_fourAt 25 = .ok (.ishl, 1) := by decide +kernel
theorem dX7_fourAt_26 : decode cX7_fourAt 26 = .ok (.ior, 1) := by decide +kernel
theorem dX7_fourAt_27 : decode cX7_fourAt 27 = .ok (.aload_n 0, 1) := by decide +kernel
theorem dX7_fourAt_28 : decode cX7_fourAt 28 = .ok (.iload_n 1, 1) := by decide +kernel
theorem dX7_fourAt_29 : decode cX7_fourAt 29 = .ok (.iconst 3, 1) := by decide +kernel
theorem dX7_fourAt_30 : decode cX7_fourAt 30 = .ok (.iadd, 1) := by decide +kernel
theorem dX7_fourAt_31 : decode cX7_fourAt 31 = .ok (.invokevirtual 71, 3) := by decide +kernel
theorem dX7_fourAt_34 : decode cX7_fourAt 34 = .ok (.bipush 24, 2) := by decide +kernel
theorem dX7_fourAt_36 : decode cX7_fourAt 36 = .ok (.ishl, 1) := by decide +kernel
theorem dX7_fourAt_37 : decode cX7_fourAt 37 = .ok (.ior, 1) := by decide +kernel
theorem dX7_fourAt_38 : decode cX7_fourAt 38 = .ok (.ireturn, 1) := by decide +kernel
theorem dX7_unstream_0 : decode cX7_unstream 0 = .ok (.aload_n 0, 1) := by decide +kernel
theorem dX7_unstream_1 : decode cX7_unstream 1 = .ok (.iconst 0, 1) := by decide +kernel
theorem dX7_unstream_2 : decode cX7_unstream 2 = .ok (.putfield 58, 3) := by decide +kernel
theorem dX7_unstream_5 : decode cX7_unstream 5 = .ok (.aload_n 0, 1) := by decide +kernel
theorem dX7_unstream_6 : decode cX7_unstream 6 = .ok (.iconst 0, 1) := by decide +kernel
theorem dX7_unstream_7 : decode cX7_unstream 7 = .ok (.putfield 119, 3) := by decide +kernel
theorem dX7_unstream_10 : decode cX7_unstream 10 = .ok (.aload_n 0, 1) := by decide +kernel
theorem dX7_unstream_11 : decode cX7_unstream 11 = .ok (.iconst 0, 1) := by decide +kernel
theorem dX7_unstream_12 : decode cX7_unstream 12 = .ok (.putfield 171, 3) := by decide +kernel
theorem dX7_unstream_15 : decode cX7_unstream 15 = .ok (.aload_n 0, 1) := by decide +kernel
theorem dX7_unstream_16 : decode cX7_unstream 16 = .ok (.iconst 0, 1) := by decide +kernel
theorem dX7_unstream_17 : decode cX7_unstream 17 = .ok (.putfield 174, 3) := by decide +kernel
theorem dX7_unstream_20 : decode cX7_unstream 20 = .ok (.aload_n 0, 1) := by decide +kernel
theorem dX7_unstream_21 : decode cX7_unstream 21 = .ok (.iconst 0, 1) := by decide +kernel
theorem dX7_unstream_22 : decode cX7_unstream 22 = .ok (.iconst (-1), 1) := by decide +kernel
theorem dX7_unstream_23 : decode cX7_unstream 23 = .ok (.iconst 0, 1) := by decide +kernel
theorem dX7_unstream_24 : decode cX7_unstream 24 = .ok (.iconst (-1), 1) := by decide +kernel
theorem dX7_unstream_25 : decode cX7_unstream 25 = .ok (.invokevirtual 144, 3) := by decide +kernel
theorem dX7_unstream_28 : decode cX7_unstream 28 = .ok (.iconst 0, 1) := by decide +kernel
theorem dX7_unstream_29 : decode cX7_unstream 29 = .ok (.istore_n 1, 1) := by decide +kernel
theorem dX7_unstream_30 : decode cX7_unstream 30 = .ok (.aload_n 0, 1) := by decide +kernel
theorem dX7_unstream_31 : decode cX7_unstream 31 = .ok (.getfield 61, 3) := by decide +kernel
theorem dX7_unstream_34 : decode cX7_unstream 34 = .ok (.ifCond .ne 12, 3) := by decide +kernel
theorem dX7_unstream_37 : decode cX7_unstream 37 = .ok (.aload_n 0, 1) := by decide +kernel
theorem dX7_unstream_38 : decode cX7_unstream 38 = .ok (.bipush 11, 2) := by decide +kernel
theorem dX7_unstream_40 : decode cX7_unstream 40 = .ok (.iconst 0, 1) := by decide +kernel
theorem dX7_unstream_41 : decode cX7_unstream 41 = .ok (.iconst 0, 1) := by decide +kernel
theorem dX7_unstream_42 : decode cX7_unstream 42 = .ok (.iconst (-1), 1) := by decide +kernel
theorem dX7_unstream_43 : decode cX7_unstream 43 = .ok (.invokevirtual 144, 3) := by decide +kernel
theorem dX7_unstream_46 : decode cX7_unstream 46 = .ok (.iload_n 1, 1) := by decide +kernel
theorem dX7_unstream_47 : decode cX7_unstream 47 = .ok (.aload_n 0, 1) := by decide +kernel
theorem dX7_unstream_48 : decode cX7_unstream 48 = .ok (.getfield 61, 3) := by decide +kernel
theorem dX7_unstream_51 : decode cX7_unstream 51 = .ok (.if_icmp .ge 19, 3) := by decide +kernel
theorem dX7_unstream_54 : decode cX7_unstream 54 = .ok (.aload_n 0, 1) := by decide +kernel
theorem dX7_unstream_55 : decode cX7_unstream 55 = .ok (.getfield 38, 3) := by decide +kernel
theorem dX7_unstream_58 : decode cX7_unstream 58 = .ok (.ifCond .ne 12, 3) := by decide +kernel
theorem dX7_unstream_61 : decode cX7_unstream 61 = .ok (.aload_n 0, 1) := by decide +kernel
theorem dX7_unstream_62 : decode cX7_unstream 62 = .ok (.iload_n 1, 1) := by decide +kernel
theorem dX7_unstream_63 : decode cX7_unstream 63 = .ok (.invokevirtual 177, 3) := by decide +kernel
theorem dX7_unstream_66 : decode cX7_unstream 66 = .ok (.istore_n 1, 1) := by decide +kernel
theorem dX7_unstream_67 : decode cX7_unstream 67 = .ok (.goto (-21), 3) := by decide +kernel
theorem dX7_unstream_70 : decode cX7_unstream 70 = .ok (.aload_n 0, 1) := by decide +kernel
theorem dX7_unstream_71 : decode cX7_unstream 71 = .ok (.getfield 38, 3) := by decide +kernel
theorem dX7_unstream_74 : decode cX7_unstream 74 = .ok (.ifCond .le 6, 3) := by decide +kernel
theorem dX7_unstream_77 : decode cX7_unstream 77 = .ok (.bipush (-2), 2) := by decide +kernel
theorem dX7_unstream_79 : decode cX7_unstream 79 = .ok (.ireturn, 1) := by decide +kernel
theorem dX7_unstream_80 : decode cX7_unstream 80 = .ok (.aload_n 0, 1) := by decide +kernel
theorem dX7_unstream_81 : decode cX7_unstream 81 = .ok (.aload_n 0, 1) := by decide +kernel
theorem dX7_unstream_82 : decode cX7_unstream 82 = .ok (.getfield 16, 3) := by decide +kernel
theorem dX7_unstream_85 : decode cX7_unstream 85 = .ok (.aload_n 0, 1) := by decide +kernel
theorem dX7_unstream_86 : decode cX7_unstream 86 = .ok (.getfield 119, 3) := by decide +kernel
theorem dX7_unstream_89 : decode cX7_unstream 89 = .ok (.invokevirtual 103, 3) := by decide +kernel
theorem dX7_unstream_92 : decode cX7_unstream 92 = .ok (.aload_n 0, 1) := by decide +kernel
theorem dX7_unstream_93 : decode cX7_unstream 93 = .ok (.aload_n 0, 1) := by decide +kernel
theorem dX7_unstream_94 : decode cX7_unstream 94 = .ok (.getfield 171, 3) := by decide +kernel
theorem dX7_unstream_97 : decode cX7_unstream 97 = .ok (.putfield 154, 3) := by decide +kernel
theorem dX7_unstream_100 : decode cX7_unstream 100 = .ok (.aload_n 0, 1) := by decide +kernel
theorem dX7_unstream_101 : decode cX7_unstream 101 = .ok (.aload_n 0, 1) := by decide +kernel
theorem dX7_unstream_102 : decode cX7_unstream 102 = .ok (.getfield 174, 3) := by decide +kernel
theorem dX7_unstream_105 : decode cX7_unstream 105 = .ok (.putfield 157, 3) := by decide +kernel
theorem dX7_unstream_108 : decode cX7_unstream 108 = .ok (.iconst 0, 1) := by decide +kernel
theorem dX7_unstream_109 : decode cX7_unstream 109 = .ok (.istore_n 2, 1) := by decide +kernel
theorem dX7_unstream_110 : decode cX7_unstream 110 = .ok (.iload_n 2, 1) := by decide +kernel
theorem dX7_unstream_111 : decode cX7_unstream 111 = .ok (.iconst 5, 1) := by decide +kernel
theorem dX7_unstream_112 : decode cX7_unstream 112 = .ok (.aload_n 0, 1) := by decide +kernel
theorem dX7_unstream_113 : decode cX7_unstream 113 = .ok (.getfield 171, 3) := by decide +kernel
theorem dX7_unstream_116 : decode cX7_unstream 116 = .ok (.imul, 1) := by decide +kernel
theorem dX7_unstream_117 : decode cX7_unstream 117 = .ok (.if_icmp .ge 28, 3) := by decide +kernel
theorem dX7_unstream_120 : decode cX7_unstream 120 = .ok (.iload_n 2, 1) := by decide +kernel
theorem dX7_unstream_121 : decode cX7_unstream 121 = .ok (.sipush 5000, 3) := by decide +kernel
theorem dX7_unstream_124 : decode cX7_unstream 124 = .ok (.if_icmp .ge 21, 3) := by decide +kernel
theorem dX7_unstream_127 : decode cX7_unstream 127 = .ok (.aload_n 0, 1) := by decide +kernel
theorem dX7_unstream_128 : decode cX7_unstream 128 = .ok (.getfield 35, 3) := by decide +kernel
theorem dX7_unstream_131 : decode cX7_unstream 131 = .ok (.iload_n 2, 1) := by decide +kernel
theorem dX7_unstream_132 : decode cX7_unstream 132 = .ok (.aload_n 0, 1) := by decide +kernel
theorem dX7_unstream_133 : decode cX7_unstream 133 = .ok (.getfield 51, 3) := by decide +kernel
theorem dX7_unstream_136 : decode cX7_unstream 136 = .ok (.iload_n 2, 1) := by decide +kernel
theorem dX7_unstream_137 : decode cX7_unstream 137 = .ok (.iaload, 1) := by decide +kernel
theorem dX7_unstream_138 : decode cX7_unstream 138 = .ok (.iastore, 1) := by decide +kernel
theorem dX7_unstream_139 : decode cX7_unstream 139 = .ok (.iinc 2 1, 3) := by decide +kernel
theorem dX7_unstream_142 : decode cX7_unstream 142 = .ok (.goto (-32), 3) := by decide +kernel
theorem dX7_unstream_145 : decode cX7_unstream 145 = .ok (.aload_n 0, 1) := by decide +kernel
theorem dX7_unstream_146 : decode cX7_unstream 146 = .ok (.getfield 68, 3) := by decide +kernel
theorem dX7_unstream_149 : decode cX7_unstream 149 = .ok (.ireturn, 1) := by decide +kernel
theorem dX7_chunkAt_0 : decode cX7_chunkAt 0 = .ok (.aload_n 0, 1) := by decide +kernel
theorem dX7_chunkAt_1 : decode cX7_chunkAt 1 = .ok (.iload_n 1, 1) := by decide +kernel
theorem dX7_chunkAt_2 : decode cX7_chunkAt 2 = .ok (.invokevirtual 71, 3) := by decide +kernel
theorem dX7_chunkAt_5 : decode cX7_chunkAt 5 = .ok (.istore_n 2, 1) := by decide +kernel
theorem dX7_chunkAt_6 : decode cX7_chunkAt 6 = .ok (.iload_n 1, 1) := by decide +kernel
theorem dX7_chunkAt_7 : decode cX7_chunkAt 7 = .ok (.ifCond .ne 21, 3) := by decide +kernel
theorem dX7_chunkAt_10 : decode cX7_chunkAt 10 = .ok (.iload_n 2, 1) := by decide +kernel
theorem dX7_chunkAt_11 : decode cX7_chunkAt 11 = .ok (.sipush 255, 3) := by decide +kernel
theorem dX7_chunkAt_14 : decode cX7_chunkAt 14 = .ok (.if_icmp .eq 14, 3) := by decide +kernel
theorem dX7_chunkAt_17 : decode cX7_chunkAt 17 = .ok (.aload_n 0, 1) := by decide +kernel
theorem dX7_chunkAt_18 : decode cX7_chunkAt 18 = .ok (.bipush 11, 2) := by decide +kernel
theorem dX7_chunkAt_20 : decode cX7_chunkAt 20 = .ok (.iload_n 1, 1) := by decide +kernel
theorem dX7_chunkAt_21 : decode cX7_chunkAt 21 = .ok (.iconst 0, 1) := by decide +kernel
theorem dX7_chunkAt_22 : decode cX7_chunkAt 22 = .ok (.iconst (-1), 1) := by decide +kernel
theorem dX7_chunkAt_23 : decode cX7_chunkAt 23 = .ok (.invokevirtual 144, 3) := by decide +kernel
theorem dX7_chunkAt_26 : decode cX7_chunkAt 26 = .ok (.iload_n 1, 1) := by decide +kernel
theorem dX7_chunkAt_27 : decode cX7_chunkAt 27 = .ok (.ireturn, 1) := by decide +kernel
theorem dX7_chunkAt_28 : decode cX7_chunkAt 28 = .ok (.aload_n 0, 1) := by decide +kernel
theorem dX7_chunkAt_29 : decode cX7_chunkAt 29 = .ok (.getfield 61, 3) := by decide +kernel
theorem dX7_chunkAt_32 : decode cX7_chunkAt 32 = .ok (.iload_n 1, 1) := by decide +kernel
theorem dX7_chunkAt_33 : decode cX7_chunkAt 33 = .ok (.isub, 1) := by decide +kernel
theorem dX7_chunkAt_34 : decode cX7_chunkAt 34 = .ok (.iconst 4, 1) := by decide +kernel
theorem dX7_chunkAt_35 : decode cX7_chunkAt 35 = .ok (.isub, 1) := by decide +kernel
theorem dX7_chunkAt_36 : decode cX7_chunkAt 36 = .ok (.istore_n 3, 1) := by decide +kernel
theorem dX7_chunkAt_37 : decode cX7_chunkAt 37 = .ok (.iload_n 3, 1) := by decide +kernel
theorem dX7_chunkAt_38 : decode cX7_chunkAt 38 = .ok (.ifCond .ge 7, 3) := by decide +kernel
theorem dX7_chunkAt_41 : decode cX7_chunkAt 41 = .ok (.iconst 0, 1) := by decide +kernel
theorem dX7_chunkAt_42 : decode cX7_chunkAt 42 = .ok (.goto 32, 3) := by decide +kernel
theorem dX7_chunkAt_45 : decode cX7_chunkAt 45 = .ok (.aload_n 0, 1) := by decide +kernel
theorem dX7_chunkAt_46 : decode cX7_chunkAt 46 = .ok (.iload_n 1, 1) := by decide +kernel
theorem dX7_chunkAt_47 : decode cX7_chunkAt 47 = .ok (.iconst 1, 1) := by decide +kernel
theorem dX7_chunkAt_48 : decode cX7_chunkAt 48 = .ok (.iadd, 1) := by decide +kernel
theorem dX7_chunkAt_49 : decode cX7_chunkAt 49 = .ok (.invokevirtual 71, 3) := by decide +kernel
theorem dX7_chunkAt_52 : decode cX7_chunkAt 52 = .ok (.aload_n 0, 1) := by decide +kernel
theorem dX7_chunkAt_53 : decode cX7_chunkAt 53 = .ok (.iload_n 1, 1) := by decide +kernel
theorem dX7_chunkAt_54 : decode cX7_chunkAt 54 = .ok (.iconst 2, 1) := by decide +kernel
theorem dX7_chunkAt_55 : decode cX7_chunkAt 55 = .ok (.iadd, 1) := by decide +kernel
theorem dX7_chunkAt_56 : decode cX7_chunkAt 56 = .ok (.invokevirtual 71, 3) := by decide +kernel
theorem dX7_chunkAt_59 : decode cX7_chunkAt 59 = .ok (.bipush 8, 2) := by decide +kernel
theorem dX7_chunkAt_61 : decode cX7_chunkAt 61 = .ok (.ishl, 1) := by decide +kernel
theorem dX7_chunkAt_62 : decode cX7_chunkAt 62 = .ok (.ior, 1) := by decide +kernel
theorem dX7_chunkAt_63 : decode cX7_chunkAt 63 = .ok (.aload_n 0, 1) := by decide +kernel
theorem dX7_chunkAt_64 : decode cX7_chunkAt 64 = .ok (.iload_n 1, 1) := by decide +kernel
theorem dX7_chunkAt_65 : decode cX7_chunkAt 65 = .ok (.iconst 3, 1) := by decide +kernel
theorem dX7_chunkAt_66 : decode cX7_chunkAt 66 = .ok (.iadd, 1) := by decide +kernel
theorem dX7_chunkAt_67 : decode cX7_chunkAt 67 = .ok (.invokevirtual 71, 3) := by decide +kernel
theorem dX7_chunkAt_70 : decode cX7_chunkAt 70 = .ok (.bipush 16, 2) := by decide +kernel
theorem dX7_chunkAt_72 : decode cX7_chunkAt 72 = .ok (.ishl, 1) := by decide +kernel
theorem dX7_chunkAt_73 : decode cX7_chunkAt 73 = .ok (.ior, 1) := by decide +kernel
theorem dX7_chunkAt_74 : decode cX7_chunkAt 74 = .ok (.istore 4, 2) := by decide +kernel
theorem dX7_chunkAt_76 : decode cX7_chunkAt 76 = .ok (.iload_n 3, 1) := by decide +kernel
theorem dX7_chunkAt_77 : decode cX7_chunkAt 77 = .ok (.iload 4, 2) := by decide +kernel
theorem dX7_chunkAt_79 : decode cX7_chunkAt 79 = .ok (.if_icmp .ge 14, 3) := by decide +kernel
theorem dX7_chunkAt_82 : decode cX7_chunkAt 82 = .ok (.aload_n 0, 1) := by decide +kernel
theorem dX7_chunkAt_83 : decode cX7_chunkAt 83 = .ok (.bipush 12, 2) := by decide +kernel
theorem dX7_chunkAt_85 : decode cX7_chunkAt 85 = .ok (.iload_n 1, 1) := by decide +kernel
theorem dX7_chunkAt_86 : decode cX7_chunkAt 86 = .ok (.iconst 0, 1) := by decide +kernel
theorem dX7_chunkAt_87 : decode cX7_chunkAt 87 = .ok (.iconst (-1), 1) := by decide +kernel
theorem dX7_chunkAt_88 : decode cX7_chunkAt 88 = .ok (.invokevirtual 144, 3) := by decide +kernel
theorem dX7_chunkAt_91 : decode cX7_chunkAt 91 = .ok (.iload_n 1, 1) := by decide +kernel
theorem dX7_chunkAt_92 : decode cX7_chunkAt 92 = .ok (.ireturn, 1) := by decide +kernel
theorem dX7_chunkAt_93 : decode cX7_chunkAt 93 = .ok (.iload_n 1, 1) := by decide +kernel
theorem dX7_chunkAt_94 : decode cX7_chunkAt 94 = .ok (.iconst 4, 1) := by decide +kernel
theorem dX7_chunkAt_95 : decode cX7_chunkAt 95 = .ok (.iadd, 1) := by decide +kernel
theorem dX7_chunkAt_96 : decode cX7_chunkAt 96 = .ok (.istore 5, 2) := by decide +kernel
theorem dX7_chunkAt_98 : decode cX7_chunkAt 98 = .ok (.iload_n 2, 1) := by decide +kernel
theorem dX7_chunkAt_99 : decode cX7_chunkAt 99 = .ok (.sipush 255, 3) := by decide +kernel
theorem dX7_chunkAt_102 : decode cX7_chunkAt 102 = .ok (.if_icmp .ne 28, 3) := by decide +kernel
theorem dX7_chunkAt_105 : decode cX7_chunkAt 105 = .ok (.iload 4, 2) := by decide +kernel
theorem dX7_chunkAt_107 : decode cX7_chunkAt 107 = .ok (.bipush 6, 2) := by decide +kernel
theorem dX7_chunkAt_109 : decode cX7_chunkAt 109 = .ok (.if_icmp .ne 12, 3) := by decide +kernel
theorem dX7_chunkAt_112 : decode cX7_chunkAt 112 = .ok (.aload_n 0, 1) := by decide +kernel
theorem dX7_chunkAt_113 : decode cX7_chunkAt 113 = .ok (.iload 5, 2) := by decide +kernel
theorem dX7_chunkAt_115 : decode cX7_chunkAt 115 = .ok (.invokevirtual 180, 3) := by decide +kernel
theorem dX7_chunkAt_118 : decode cX7_chunkAt 118 = .ok (.ifCond .ne 12, 3) := by decide +kernel
theorem dX7_chunkAt_121 : decode cX7_chunkAt 121 = .ok (.aload_n 0, 1) := by decide +kernel
theorem dX7_chunkAt_122 : decode cX7_chunkAt 122 = .ok (.bipush 13, 2) := by decide +kernel
theorem dX7_chunkAt_124 : decode cX7_chunkAt 124 = .ok (.iload_n 1, 1) := by decide +kernel
theorem dX7_chunkAt_125 : decode cX7_chunkAt 125 = .ok (.iconst 0, 1) := by decide +kernel
theorem dX7_chunkAt_126 : decode cX7_chunkAt 126 = .ok (.iconst (-1), 1) := by decide +kernel
theorem dX7_chunkAt_127 : decode cX7_chunkAt 127 = .ok (.invokevirtual 144, 3) := by decide +kernel
theorem dX7_chunkAt_130 : decode cX7_chunkAt 130 = .ok (.iload_n 2, 1) := by decide +kernel
theorem dX7_chunkAt_131 : decode cX7_chunkAt 131 = .ok (.iconst 1, 1) := by decide +kernel
theorem dX7_chunkAt_132 : decode cX7_chunkAt 132 = .ok (.if_icmp .le 19, 3) := by decide +kernel
theorem dX7_chunkAt_135 : decode cX7_chunkAt 135 = .ok (.iload_n 2, 1) := by decide +kernel
theorem dX7_chunkAt_136 : decode cX7_chunkAt 136 = .ok (.sipush 128, 3) := by decide +kernel
theorem dX7_chunkAt_139 : decode cX7_chunkAt 139 = .ok (.if_icmp .ge 12, 3) := by decide +kernel
theorem dX7_chunkAt_142 : decode cX7_chunkAt 142 = .ok (.aload_n 0, 1) := by decide +kernel
theorem dX7_chunkAt_143 : decode cX7_chunkAt 143 = .ok (.bipush 14, 2) := by decide +kernel
theorem dX7_chunkAt_145 : decode cX7_chunkAt 145 = .ok (.iload_n 1, 1) := by decide +kernel
theorem dX7_chunkAt_146 : decode cX7_chunkAt 146 = .ok (.iconst 0, 1) := by decide +kernel
theorem dX7_chunkAt_147 : decode cX7_chunkAt 147 = .ok (.iconst (-1), 1) := by decide +kernel
theorem dX7_chunkAt_148 : decode cX7_chunkAt 148 = .ok (.invokevirtual 144, 3) := by decide +kernel
theorem dX7_chunkAt_151 : decode cX7_chunkAt 151 = .ok (.iload_n 2, 1) := by decide +kernel
theorem dX7_chunkAt_152 : decode cX7_chunkAt 152 = .ok (.iconst 2, 1) := by decide +kernel
theorem dX7_chunkAt_153 : decode cX7_chunkAt 153 = .ok (.if_icmp .ge 18, 3) := by decide +kernel
theorem dX7_chunkAt_156 : decode cX7_chunkAt 156 = .ok (.iload 4, 2) := by decide +kernel
theorem dX7_chunkAt_158 : decode cX7_chunkAt 158 = .ok (.iconst 4, 1) := by decide +kernel
theorem dX7_chunkAt_159 : decode cX7_chunkAt 159 = .ok (.if_icmp .ge 12, 3) := by decide +kernel
theorem dX7_chunkAt_162 : decode cX7_chunkAt 162 = .ok (.aload_n 0, 1) := by decide +kernel
theorem dX7_chunkAt_163 : decode cX7_chunkAt 163 = .ok (.bipush 15, 2) := by decide +kernel
theorem dX7_chunkAt_165 : decode cX7_chunkAt 165 = .ok (.iload_n 1, 1) := by decide +kernel
theorem dX7_chunkAt_166 : decode cX7_chunkAt 166 = .ok (.iconst 0, 1) := by decide +kernel
theorem dX7_chunkAt_167 : decode cX7_chunkAt 167 = .ok (.iconst (-1), 1) := by decide +kernel
theorem dX7_chunkAt_168 : decode cX7_chunkAt 168 = .ok (.invokevirtual 144, 3) := by decide +kernel
theorem dX7_chunkAt_171 : decode cX7_chunkAt 171 = .ok (.aload_n 0, 1) := by decide +kernel
theorem dX7_chunkAt_172 : decode cX7_chunkAt 172 = .ok (.getfield 38, 3) := by decide +kernel
theorem dX7_chunkAt_175 : decode cX7_chunkAt 175 = .ok (.ifCond .le 5, 3) := by decide +kernel
theorem dX7_chunkAt_178 : decode cX7_chunkAt 178 = .ok (.iload_n 1, 1) := by decide +kernel
theorem dX7_chunkAt_179 : decode cX7_chunkAt 179 = .ok (.ireturn, 1) := by decide +kernel
theorem dX7_chunkAt_180 : decode cX7_chunkAt 180 = .ok (.aload_n 0, 1) := by decide +kernel
theorem dX7_chunkAt_181 : decode cX7_chunkAt 181 = .ok (.getfield 119, 3) := by decide +kernel
theorem dX7_chunkAt_184 : decode cX7_chunkAt 184 = .ok (.istore 6, 2) := by decide +kernel
theorem dX7_chunkAt_186 : decode cX7_chunkAt 186 = .ok (.iload_n 2, 1) := by decide +kernel
theorem dX7_chunkAt_187 : decode cX7_chunkAt 187 = .ok (.iconst 2, 1) := by decide +kernel
theorem dX7_chunkAt_188 : decode cX7_chunkAt 188 = .ok (.if_icmp .ge 18, 3) := by decide +kernel
theorem dX7_chunkAt_191 : decode cX7_chunkAt 191 = .ok (.aload_n 0, 1) := by decide +kernel
theorem dX7_chunkAt_192 : decode cX7_chunkAt 192 = .ok (.iload_n 1, 1) := by decide +kernel
theorem dX7_chunkAt_193 : decode cX7_chunkAt 193 = .ok (.iload_n 2, 1) := by decide +kernel
theorem dX7_chunkAt_194 : decode cX7_chunkAt 194 = .ok (.iload 5, 2) := by decide +kernel
theorem dX7_chunkAt_196 : decode cX7_chunkAt 196 = .ok (.iconst 4, 1) := by decide +kernel
theorem dX7_chunkAt_197 : decode cX7_chunkAt 197 = .ok (.iadd, 1) := by decide +kernel
theorem dX7_chunkAt_198 : decode cX7_chunkAt 198 = .ok (.iload 5, 2) := by decide +kernel
theorem dX7_chunkAt_200 : decode cX7_chunkAt 200 = .ok (.iload 4, 2) := by decide +kernel
theorem dX7_chunkAt_202 : decode cX7_chunkAt 202 = .ok (.iadd, 1) := by decide +kernel
theorem dX7_chunkAt_203 : decode cX7_chunkAt 203 = .ok (.invokevirtual 184, 3) := by decide +kernel
theorem dX7_chunkAt_206 : decode cX7_chunkAt 206 = .ok (.aload_n 0, 1) := by decide +kernel
theorem dX7_chunkAt_207 : decode cX7_chunkAt 207 = .ok (.getfield 38, 3) := by decide +kernel
theorem dX7_chunkAt_210 : decode cX7_chunkAt 210 = .ok (.ifCond .le 5, 3) := by decide +kernel
theorem dX7_chunkAt_213 : decode cX7_chunkAt 213 = .ok (.iload_n 1, 1) := by decide +kernel
theorem dX7_chunkAt_214 : decode cX7_chunkAt 214 = .ok (.ireturn, 1) := by decide +kernel
theorem dX7_chunkAt_215 : decode cX7_chunkAt 215 = .ok (.aload_n 0, 1) := by decide +kernel
theorem dX7_chunkAt_216 : decode cX7_chunkAt 216 = .ok (.getfield 171, 3) := by decide +kernel
theorem dX7_chunkAt_219 : decode cX7_chunkAt 219 = .ok (.sipush 1000, 3) := by decide +kernel
theorem dX7_chunkAt_222 : decode cX7_chunkAt 222 = .ok (.if_icmp .ge 79, 3) := by decide +kernel
theorem dX7_chunkAt_225 : decode cX7_chunkAt 225 = .ok (.aload_n 0, 1) := by decide +kernel
theorem dX7_chunkAt_226 : decode cX7_chunkAt 226 = .ok (.getfield 51, 3) := by decide +kernel
theorem dX7_chunkAt_229 : decode cX7_chunkAt 229 = .ok (.iconst 5, 1) := by decide +kernel
theorem dX7_chunkAt_230 : decode cX7_chunkAt 230 = .ok (.aload_n 0, 1) := by decide +kernel
theorem dX7_chunkAt_231 : decode cX7_chunkAt 231 = .ok (.getfield 171, 3) := by decide +kernel
theorem dX7_chunkAt_234 : decode cX7_chunkAt 234 = .ok (.imul, 1) := by decide +kernel
theorem dX7_chunkAt_235 : decode cX7_chunkAt 235 = .ok (.iload_n 2, 1) := by decide +kernel
theorem dX7_chunkAt_236 : decode cX7_chunkAt 236 = .ok (.iastore, 1) := by decide +kernel
theorem dX7_chunkAt_237 : decode cX7_chunkAt 237 = .ok (.aload_n 0, 1) := by decide +kernel
theorem dX7_chunkAt_238 : decode cX7_chunkAt 238 = .ok (.getfield 51, 3) := by decide +kernel
theorem dX7_chunkAt_241 : decode cX7_chunkAt 241 = .ok (.iconst 5, 1) := by decide +kernel
theorem dX7_chunkAt_242 : decode cX7_chunkAt 242 = .ok (.aload_n 0, 1) := by decide +kernel
theorem dX7_chunkAt_243 : decode cX7_chunkAt 243 = .ok (.getfield 171, 3) := by decide +kernel
theorem dX7_chunkAt_246 : decode cX7_chunkAt 246 = .ok (.imul, 1) := by decide +kernel
theorem dX7_chunkAt_247 : decode cX7_chunkAt 247 = .ok (.iconst 1, 1) := by decide +kernel
theorem dX7_chunkAt_248 : decode cX7_chunkAt 248 = .ok (.iadd, 1) := by decide +kernel
theorem dX7_chunkAt_249 : decode cX7_chunkAt 249 = .ok (.iload_n 1, 1) := by decide +kernel
theorem dX7_chunkAt_250 : decode cX7_chunkAt 250 = .ok (.iastore, 1) := by decide +kernel
theorem dX7_chunkAt_251 : decode cX7_chunkAt 251 = .ok (.aload_n 0, 1) := by decide +kernel
theorem dX7_chunkAt_252 : decode cX7_chunkAt 252 = .ok (.getfield 51, 3) := by decide +kernel
theorem dX7_chunkAt_255 : decode cX7_chunkAt 255 = .ok (.iconst 5, 1) := by decide +kernel
theorem dX7_chunkAt_256 : decode cX7_chunkAt 256 = .ok (.aload_n 0, 1) := by decide +kernel
theorem dX7_chunkAt_257 : decode cX7_chunkAt 257 = .ok (.getfield 171, 3) := by decide +kernel
theorem dX7_chunkAt_260 : decode cX7_chunkAt 260 = .ok (.imul, 1) := by decide +kernel
theorem dX7_chunkAt_261 : decode cX7_chunkAt 261 = .ok (.iconst 2, 1) := by decide +kernel
theorem dX7_chunkAt_262 : decode cX7_chunkAt 262 = .ok (.iadd, 1) := by decide +kernel
theorem dX7_chunkAt_263 : decode cX7_chunkAt 263 = .ok (.iload 4, 2) := by decide +kernel
theorem dX7_chunkAt_265 : decode cX7_chunkAt 265 = .ok (.iastore, 1) := by decide +kernel
theorem dX7_chunkAt_266 : decode cX7_chunkAt 266 = .ok (.aload_n 0, 1) := by decide +kernel
theorem dX7_chunkAt_267 : decode cX7_chunkAt 267 = .ok (.getfield 51, 3) := by decide +kernel
theorem dX7_chunkAt_270 : decode cX7_chunkAt 270 = .ok (.iconst 5, 1) := by decide +kernel
theorem dX7_chunkAt_271 : decode cX7_chunkAt 271 = .ok (.aload_n 0, 1) := by decide +kernel
theorem dX7_chunkAt_272 : decode cX7_chunkAt 272 = .ok (.getfield 171, 3) := by decide +kernel
theorem dX7_chunkAt_275 : decode cX7_chunkAt 275 = .ok (.imul, 1) := by decide +kernel
theorem dX7_chunkAt_276 : decode cX7_chunkAt 276 = .ok (.iconst 3, 1) := by decide +kernel
theorem dX7_chunkAt_277 : decode cX7_chunkAt 277 = .ok (.iadd, 1) := by decide +kernel
theorem dX7_chunkAt_278 : decode cX7_chunkAt 278 = .ok (.aload_n 0, 1) := by decide +kernel
theorem dX7_chunkAt_279 : decode cX7_chunkAt 279 = .ok (.getfield 119, 3) := by decide +kernel
theorem dX7_chunkAt_282 : decode cX7_chunkAt 282 = .ok (.iload 6, 2) := by decide +kernel
theorem dX7_chunkAt_284 : decode cX7_chunkAt 284 = .ok (.isub, 1) := by decide +kernel
theorem dX7_chunkAt_285 : decode cX7_chunkAt 285 = .ok (.iastore, 1) := by decide +kernel
theorem dX7_chunkAt_286 : decode cX7_chunkAt 286 = .ok (.aload_n 0, 1) := by decide +kernel
theorem dX7_chunkAt_287 : decode cX7_chunkAt 287 = .ok (.getfield 51, 3) := by decide +kernel
theorem dX7_chunkAt_290 : decode cX7_chunkAt 290 = .ok (.iconst 5, 1) := by decide +kernel
theorem dX7_chunkAt_291 : decode cX7_chunkAt 291 = .ok (.aload_n 0, 1) := by decide +kernel
theorem dX7_chunkAt_292 : decode cX7_chunkAt 292 = .ok (.getfield 171, 3) := by decide +kernel
theorem dX7_chunkAt_295 : decode cX7_chunkAt 295 = .ok (.imul, 1) := by decide +kernel
theorem dX7_chunkAt_296 : decode cX7_chunkAt 296 = .ok (.iconst 4, 1) := by decide +kernel
theorem dX7_chunkAt_297 : decode cX7_chunkAt 297 = .ok (.iadd, 1) := by decide +kernel
theorem dX7_chunkAt_298 : decode cX7_chunkAt 298 = .ok (.iload 6, 2) := by decide +kernel
theorem dX7_chunkAt_300 : decode cX7_chunkAt 300 = .ok (.iastore, 1) := by decide +kernel
theorem dX7_chunkAt_301 : decode cX7_chunkAt 301 = .ok (.aload_n 0, 1) := by decide +kernel
theorem dX7_chunkAt_302 : decode cX7_chunkAt 302 = .ok (.dup, 1) := by decide +kernel
theorem dX7_chunkAt_303 : decode cX7_chunkAt 303 = .ok (.getfield 171, 3) := by decide +kernel
theorem dX7_chunkAt_306 : decode cX7_chunkAt 306 = .ok (.iconst 1, 1) := by decide +kernel
theorem dX7_chunkAt_307 : decode cX7_chunkAt 307 = .ok (.iadd, 1) := by decide +kernel
theorem dX7_chunkAt_308 : decode cX7_chunkAt 308 = .ok (.putfield 171, 3) := by decide +kernel
theorem dX7_chunkAt_311 : decode cX7_chunkAt 311 = .ok (.aload_n 0, 1) := by decide +kernel
theorem dX7_chunkAt_312 : decode cX7_chunkAt 312 = .ok (.dup, 1) := by decide +kernel
theorem dX7_chunkAt_313 : decode cX7_chunkAt 313 = .ok (.getfield 174, 3) := by decide +kernel
theorem dX7_chunkAt_316 : decode cX7_chunkAt 316 = .ok (.iload_n 2, 1) := by decide +kernel
theorem dX7_chunkAt_317 : decode cX7_chunkAt 317 = .ok (.bipush 127, 2) := by decide +kernel
theorem dX7_chunkAt_319 : decode cX7_chunkAt 319 = .ok (.if_icmp .le 14, 3) := by decide +kernel
theorem dX7_chunkAt_322 : decode cX7_chunkAt 322 = .ok (.iload_n 2, 1) := by decide +kernel
theorem dX7_chunkAt_323 : decode cX7_chunkAt 323 = .ok (.sipush 255, 3) := by decide +kernel
theorem dX7_chunkAt_326 : decode cX7_chunkAt 326 = .ok (.if_icmp .ge 7, 3) := by decide +kernel
theorem dX7_chunkAt_329 : decode cX7_chunkAt 329 = .ok (.iconst 1, 1) := by decide +kernel
theorem dX7_chunkAt_330 : decode cX7_chunkAt 330 = .ok (.goto 4, 3) := by decide +kernel
theorem dX7_chunkAt_333 : decode cX7_chunkAt 333 = .ok (.iconst 0, 1) := by decide +kernel
theorem dX7_chunkAt_334 : decode cX7_chunkAt 334 = .ok (.iadd, 1) := by decide +kernel
theorem dX7_chunkAt_335 : decode cX7_chunkAt 335 = .ok (.putfield 174, 3) := by decide +kernel
theorem dX7_chunkAt_338 : decode cX7_chunkAt 338 = .ok (.iload 5, 2) := by decide +kernel
theorem dX7_chunkAt_340 : decode cX7_chunkAt 340 = .ok (.iload 4, 2) := by decide +kernel
theorem dX7_chunkAt_342 : decode cX7_chunkAt 342 = .ok (.iadd, 1) := by decide +kernel
theorem dX7_chunkAt_343 : decode cX7_chunkAt 343 = .ok (.ireturn, 1) := by decide +kernel
theorem dX7_bytesOf_0 : decode cX7_bytesOf 0 = .ok (.aload_n 0, 1) := by decide +kernel
theorem dX7_bytesOf_1 : decode cX7_bytesOf 1 = .ok (.getfield 119, 3) := by decide +kernel
theorem dX7_bytesOf_4 : decode cX7_bytesOf 4 = .ok (.istore 5, 2) := by decide +kernel
theorem dX7_bytesOf_6 : decode cX7_bytesOf 6 = .ok (.iload_n 2, 1) := by decide +kernel
theorem dX7_bytesOf_7 : decode cX7_bytesOf 7 = .ok (.ifCond .ne 171, 3) := by decide +kernel
theorem dX7_bytesOf_10 : decode cX7_bytesOf 10 = .ok (.iconst 0, 1) := by decide +kernel
theorem dX7_bytesOf_11 : decode cX7_bytesOf 11 = .ok (.istore 6, 2) := by decide +kernel
theorem dX7_bytesOf_13 : decode cX7_bytesOf 13 = .ok (.iload 6, 2) := by decide +kernel
theorem dX7_bytesOf_15 : decode cX7_bytesOf 15 = .ok (.iload 5, 2) := by decide +kernel
theorem dX7_bytesOf_17 : decode cX7_bytesOf 17 = .ok (.if_icmp .ge 23, 3) := by decide +kernel
theorem dX7_bytesOf_20 : decode cX7_bytesOf 20 = .ok (.aload_n 0, 1) := by decide +kernel
theorem dX7_bytesOf_21 : decode cX7_bytesOf 21 = .ok (.getfield 54, 3) := by decide +kernel
theorem dX7_bytesOf_24 : decode cX7_bytesOf 24 = .ok (.iload 6, 2) := by decide +kernel
theorem dX7_bytesOf_26 : decode cX7_bytesOf 26 = .ok (.aload_n 0, 1) := by decide +kernel
theorem dX7_bytesOf_27 : decode cX7_bytesOf 27 = .ok (.getfield 16, 3) := by decide +kernel
theorem dX7_bytesOf_30 : decode cX7_bytesOf 30 = .ok (.iload 6, 2) := by decide +kernel
theorem dX7_bytesOf_32 : decode cX7_bytesOf 32 = .ok (.baload, 1) := by decide +kernel
theorem dX7_bytesOf_33 : decode cX7_bytesOf 33 = .ok (.bastore, 1) := by decide +kernel
theorem dX7_bytesOf_34 : decode cX7_bytesOf 34 = .ok (.iinc 6 1, 3) := by decide +kernel
theorem dX7_bytesOf_37 : decode cX7_bytesOf 37 = .ok (.goto (-24), 3) := by decide +kernel
theorem dX7_bytesOf_40 : decode cX7_bytesOf 40 = .ok (.aload_n 0, 1) := by decide +kernel
theorem dX7_bytesOf_41 : decode cX7_bytesOf 41 = .ok (.iconst 0, 1) := by decide +kernel
theorem dX7_bytesOf_42 : decode cX7_bytesOf 42 = .ok (.putfield 119, 3) := by decide +kernel
theorem dX7_bytesOf_45 : decode cX7_bytesOf 45 = .ok (.aload_n 0, 1) := by decide +kernel
theorem dX7_bytesOf_46 : decode cX7_bytesOf 46 = .ok (.iload_n 3, 1) := by decide +kernel
theorem dX7_bytesOf_47 : decode cX7_bytesOf 47 = .ok (.iload 4, 2) := by decide +kernel
theorem dX7_bytesOf_49 : decode cX7_bytesOf 49 = .ok (.invokevirtual 141, 3) := by decide +kernel
theorem dX7_bytesOf_52 : decode cX7_bytesOf 52 = .ok (.aload_n 0, 1) := by decide +kernel
theorem dX7_bytesOf_53 : decode cX7_bytesOf 53 = .ok (.getfield 119, 3) := by decide +kernel
theorem dX7_bytesOf_56 : decode cX7_bytesOf 56 = .ok (.istore 6, 2) := by decide +kernel
theorem dX7_bytesOf_58 : decode cX7_bytesOf 58 = .ok (.aload_n 0, 1) := by decide +kernel
theorem dX7_bytesOf_59 : decode cX7_bytesOf 59 = .ok (.getfield 107, 3) := by decide +kernel
theorem dX7_bytesOf_62 : decode cX7_bytesOf 62 = .ok (.ifCond .le 19, 3) := by decide +kernel
theorem dX7_bytesOf_65 : decode cX7_bytesOf 65 = .ok (.aload_n 0, 1) := by decide +kernel
theorem dX7_bytesOf_66 : decode cX7_bytesOf 66 = .ok (.bipush 16, 2) := by decide +kernel
theorem dX7_bytesOf_68 : decode cX7_bytesOf 68 = .ok (.iload_n 1, 1) := by decide +kernel
theorem dX7_bytesOf_69 : decode cX7_bytesOf 69 = .ok (.aload_n 0, 1) := by decide +kernel
theorem dX7_bytesOf_70 : decode cX7_bytesOf 70 = .ok (.getfield 107, 3) := by decide +kernel
theorem dX7_bytesOf_73 : decode cX7_bytesOf 73 = .ok (.aload_n 0, 1) := by decide +kernel
theorem dX7_bytesOf_74 : decode cX7_bytesOf 74 = .ok (.getfield 110, 3) := by decide +kernel
theorem dX7_bytesOf_77 : decode cX7_bytesOf 77 = .ok (.invokevirtual 144, 3) := by decide +kernel
theorem dX7_bytesOf_80 : decode cX7_bytesOf 80 = .ok (.return_, 1) := by decide +kernel
theorem dX7_bytesOf_81 : decode cX7_bytesOf 81 = .ok (.iload 5, 2) := by decide +kernel
theorem dX7_bytesOf_83 : decode cX7_bytesOf 83 = .ok (.iload 6, 2) := by decide +kernel
theorem dX7_bytesOf_85 : decode cX7_bytesOf 85 = .ok (.iadd, 1) := by decide +kernel
theorem dX7_bytesOf_86 : decode cX7_bytesOf 86 = .ok (.sipush 20000, 3) := by decide +kernel
theorem dX7_bytesOf_89 : decode cX7_bytesOf 89 = .ok (.if_icmp .le 13, 3) := by decide +kernel
theorem dX7_bytesOf_92 : decode cX7_bytesOf 92 = .ok (.aload_n 0, 1) := by decide +kernel
theorem dX7_bytesOf_93 : decode cX7_bytesOf 93 = .ok (.bipush 17, 2) := by decide +kernel
theorem dX7_bytesOf_95 : decode cX7_bytesOf 95 = .ok (.iload_n 1, 1) := by decide +kernel
theorem dX7_bytesOf_96 : decode cX7_bytesOf 96 = .ok (.iconst 0, 1) := by decide +kernel
theorem dX7_bytesOf_97 : decode cX7_bytesOf 97 = .ok (.iconst (-1), 1) := by decide +kernel
theorem dX7_bytesOf_98 : decode cX7_bytesOf 98 = .ok (.invokevirtual 144, 3) := by decide +kernel
theorem dX7_bytesOf_101 : decode cX7_bytesOf 101 = .ok (.return_, 1) := by decide +kernel
theorem dX7_bytesOf_102 : decode cX7_bytesOf 102 = .ok (.iload 6, 2) := by decide +kernel
theorem dX7_bytesOf_104 : decode cX7_bytesOf 104 = .ok (.iconst 1, 1) := by decide +kernel
theorem dX7_bytesOf_105 : decode cX7_bytesOf 105 = .ok (.isub, 1) := by decide +kernel
theorem dX7_bytesOf_106 : decode cX7_bytesOf 106 = .ok (.istore 7, 2) := by decide +kernel
theorem dX7_bytesOf_108 : decode cX7_bytesOf 108 = .ok (.iload 7, 2) := by decide +kernel
theorem dX7_bytesOf_110 : decode cX7_bytesOf 110 = .ok (.ifCond .lt 26, 3) := by decide +kernel
theorem dX7_bytesOf_113 : decode cX7_bytesOf 113 = .ok (.aload_n 0, 1) := by decide +kernel
theorem dX7_bytesOf_114 : decode cX7_bytesOf 114 = .ok (.getfield 16, 3) := by decide +kernel
theorem dX7_bytesOf_117 : decode cX7_bytesOf 117 = .ok (.iload 5, 2) := by decide +kernel
theorem dX7_bytesOf_119 : decode cX7_bytesOf 119 = .ok (.iload 7, 2) := by decide +kernel
theorem dX7_bytesOf_121 : decode cX7_bytesOf 121 = .ok (.iadd, 1) := by decide +kernel
theorem dX7_bytesOf_122 : decode cX7_bytesOf 122 = .ok (.aload_n 0, 1) := by decide +kernel
theorem dX7_bytesOf_123 : decode cX7_bytesOf 123 = .ok (.getfield 16, 3) := by decide +kernel
theorem dX7_bytesOf_126 : decode cX7_bytesOf 126 = .ok (.iload 7, 2) := by decide +kernel
theorem dX7_bytesOf_128 : decode cX7_bytesOf 128 = .ok (.baload, 1) := by decide +kernel
theorem dX7_bytesOf_129 : decode cX7_bytesOf 129 = .ok (.bastore, 1) := by decide +kernel
theorem dX7_bytesOf_130 : decode cX7_bytesOf 130 = .ok (.iinc 7 (-1), 3) := by decide +kernel
theorem dX7_bytesOf_133 : decode cX7_bytesOf 133 = .ok (.goto (-25), 3) := by decide +kernel
theorem dX7_bytesOf_136 : decode cX7_bytesOf 136 = .ok (.iconst 0, 1) := by decide +kernel
theorem dX7_bytesOf_137 : decode cX7_bytesOf 137 = .ok (.istore 7, 2) := by decide +kernel
theorem dX7_bytesOf_139 : decode cX7_bytesOf 139 = .ok (.iload 7, 2) := by decide +kernel
theorem dX7_bytesOf_141 : decode cX7_bytesOf 141 = .ok (.iload 5, 2) := by decide +kernel
theorem dX7_bytesOf_143 : decode cX7_bytesOf 143 = .ok (.if_icmp .ge 23, 3) := by decide +kernel
theorem dX7_bytesOf_146 : decode cX7_bytesOf 146 = .ok (.aload_n 0, 1) := by decide +kernel
theorem dX7_bytesOf_147 : decode cX7_bytesOf 147 = .ok (.getfield 16, 3) := by decide +kernel
theorem dX7_bytesOf_150 : decode cX7_bytesOf 150 = .ok (.iload 7, 2) := by decide +kernel
theorem dX7_bytesOf_152 : decode cX7_bytesOf 152 = .ok (.aload_n 0, 1) := by decide +kernel
theorem dX7_bytesOf_153 : decode cX7_bytesOf 153 = .ok (.getfield 54, 3) := by decide +kernel
theorem dX7_bytesOf_156 : decode cX7_bytesOf 156 = .ok (.iload 7, 2) := by decide +kernel
theorem dX7_bytesOf_158 : decode cX7_bytesOf 158 = .ok (.baload, 1) := by decide +kernel
theorem dX7_bytesOf_159 : decode cX7_bytesOf 159 = .ok (.bastore, 1) := by decide +kernel
theorem dX7_bytesOf_160 : decode cX7_bytesOf 160 = .ok (.iinc 7 1, 3) := by decide +kernel
theorem dX7_bytesOf_163 : decode cX7_bytesOf 163 = .ok (.goto (-24), 3) := by decide +kernel
theorem dX7_bytesOf_166 : decode cX7_bytesOf 166 = .ok (.aload_n 0, 1) := by decide +kernel
theorem dX7_bytesOf_167 : decode cX7_bytesOf 167 = .ok (.iload 5, 2) := by decide +kernel
theorem dX7_bytesOf_169 : decode cX7_bytesOf 169 = .ok (.iload 6, 2) := by decide +kernel
theorem dX7_bytesOf_171 : decode cX7_bytesOf 171 = .ok (.iadd, 1) := by decide +kernel
theorem dX7_bytesOf_172 : decode cX7_bytesOf 172 = .ok (.putfield 119, 3) := by decide +kernel
theorem dX7_bytesOf_175 : decode cX7_bytesOf 175 = .ok (.goto 68, 3) := by decide +kernel
theorem dX7_bytesOf_178 : decode cX7_bytesOf 178 = .ok (.iload 5, 2) := by decide +kernel
theorem dX7_bytesOf_180 : decode cX7_bytesOf 180 = .ok (.iload 4, 2) := by decide +kernel
theorem dX7_bytesOf_182 : decode cX7_bytesOf 182 = .ok (.iadd, 1) := by decide +kernel
theorem dX7_bytesOf_183 : decode cX7_bytesOf 183 = .ok (.iload_n 3, 1) := by decide +kernel
theorem dX7_bytesOf_184 : decode cX7_bytesOf 184 = .ok (.isub, 1) := by decide +kernel
theorem dX7_bytesOf_185 : decode cX7_bytesOf 185 = .ok (.sipush 20000, 3) := by decide +kernel
theorem dX7_bytesOf_188 : decode cX7_bytesOf 188 = .ok (.if_icmp .le 13, 3) := by decide +kernel
theorem dX7_bytesOf_191 : decode cX7_bytesOf 191 = .ok (.aload_n 0, 1) := by decide +kernel
theorem dX7_bytesOf_192 : decode cX7_bytesOf 192 = .ok (.bipush 17, 2) := by decide +kernel
theorem dX7_bytesOf_194 : decode cX7_bytesOf 194 = .ok (.iload_n 1, 1) := by decide +kernel
theorem dX7_bytesOf_195 : decode cX7_bytesOf 195 = .ok (.iconst 0, 1) := by decide +kernel
theorem dX7_bytesOf_196 : decode cX7_bytesOf 196 = .ok (.iconst (-1), 1) := by decide +kernel
theorem dX7_bytesOf_197 : decode cX7_bytesOf 197 = .ok (.invokevirtual 144, 3) := by decide +kernel
theorem dX7_bytesOf_200 : decode cX7_bytesOf 200 = .ok (.return_, 1) := by decide +kernel
theorem dX7_bytesOf_201 : decode cX7_bytesOf 201 = .ok (.iload_n 3, 1) := by decide +kernel
theorem dX7_bytesOf_202 : decode cX7_bytesOf 202 = .ok (.istore 6, 2) := by decide +kernel
theorem dX7_bytesOf_204 : decode cX7_bytesOf 204 = .ok (.iload 6, 2) := by decide +kernel
theorem dX7_bytesOf_206 : decode cX7_bytesOf 206 = .ok (.iload 4, 2) := by decide +kernel
theorem dX7_bytesOf_208 : decode cX7_bytesOf 208 = .ok (.if_icmp .ge 35, 3) := by decide +kernel
theorem dX7_bytesOf_211 : decode cX7_bytesOf 211 = .ok (.aload_n 0, 1) := by decide +kernel
theorem dX7_bytesOf_212 : decode cX7_bytesOf 212 = .ok (.getfield 16, 3) := by decide +kernel
theorem dX7_bytesOf_215 : decode cX7_bytesOf 215 = .ok (.aload_n 0, 1) := by decide +kernel
theorem dX7_bytesOf_216 : decode cX7_bytesOf 216 = .ok (.getfield 119, 3) := by decide +kernel
theorem dX7_bytesOf_219 : decode cX7_bytesOf 219 = .ok (.aload_n 0, 1) := by decide +kernel
theorem dX7_bytesOf_220 : decode cX7_bytesOf 220 = .ok (.getfield 7, 3) := by decide +kernel
theorem dX7_bytesOf_223 : decode cX7_bytesOf 223 = .ok (.iload 6, 2) := by decide +kernel
theorem dX7_bytesOf_225 : decode cX7_bytesOf 225 = .ok (.baload, 1) := by decide +kernel
theorem dX7_bytesOf_226 : decode cX7_bytesOf 226 = .ok (.bastore, 1) := by decide +kernel
theorem dX7_bytesOf_227 : decode cX7_bytesOf 227 = .ok (.aload_n 0, 1) := by decide +kernel
theorem dX7_bytesOf_228 : decode cX7_bytesOf 228 = .ok (.dup, 1) := by decide +kernel
theorem dX7_bytesOf_229 : decode cX7_bytesOf 229 = .ok (.getfield 119, 3) := by decide +kernel
theorem dX7_bytesOf_232 : decode cX7_bytesOf 232 = .ok (.iconst 1, 1) := by decide +kernel
theorem dX7_bytesOf_233 : decode cX7_bytesOf 233 = .ok (.iadd, 1) := by decide +kernel
theorem dX7_bytesOf_234 : decode cX7_bytesOf 234 = .ok (.putfield 119, 3) := by decide +kernel
theorem dX7_bytesOf_237 : decode cX7_bytesOf 237 = .ok (.iinc 6 1, 3) := by decide +kernel
theorem dX7_bytesOf_240 : decode cX7_bytesOf 240 = .ok (.goto (-36), 3) := by decide +kernel
theorem dX7_bytesOf_243 : decode cX7_bytesOf 243 = .ok (.aload_n 0, 1) := by decide +kernel
theorem dX7_bytesOf_244 : decode cX7_bytesOf 244 = .ok (.aload_n 0, 1) := by decide +kernel
theorem dX7_bytesOf_245 : decode cX7_bytesOf 245 = .ok (.aload_n 0, 1) := by decide +kernel
theorem dX7_bytesOf_246 : decode cX7_bytesOf 246 = .ok (.getfield 16, 3) := by decide +kernel
theorem dX7_bytesOf_249 : decode cX7_bytesOf 249 = .ok (.iload 5, 2) := by decide +kernel
theorem dX7_bytesOf_251 : decode cX7_bytesOf 251 = .ok (.aload_n 0, 1) := by decide +kernel
theorem dX7_bytesOf_252 : decode cX7_bytesOf 252 = .ok (.getfield 119, 3) := by decide +kernel
theorem dX7_bytesOf_255 : decode cX7_bytesOf 255 = .ok (.invokevirtual 161, 3) := by decide +kernel
theorem dX7_bytesOf_258 : decode cX7_bytesOf 258 = .ok (.invokevirtual 165, 3) := by decide +kernel
theorem dX7_bytesOf_261 : decode cX7_bytesOf 261 = .ok (.aload_n 0, 1) := by decide +kernel
theorem dX7_bytesOf_262 : decode cX7_bytesOf 262 = .ok (.iload_n 1, 1) := by decide +kernel
theorem dX7_bytesOf_263 : decode cX7_bytesOf 263 = .ok (.iconst 4, 1) := by decide +kernel
theorem dX7_bytesOf_264 : decode cX7_bytesOf 264 = .ok (.iadd, 1) := by decide +kernel
theorem dX7_bytesOf_265 : decode cX7_bytesOf 265 = .ok (.invokevirtual 187, 3) := by decide +kernel
theorem dX7_bytesOf_268 : decode cX7_bytesOf 268 = .ok (.if_icmp .eq 12, 3) := by decide +kernel
theorem dX7_bytesOf_271 : decode cX7_bytesOf 271 = .ok (.aload_n 0, 1) := by decide +kernel
theorem dX7_bytesOf_272 : decode cX7_bytesOf 272 = .ok (.bipush 18, 2) := by decide +kernel
theorem dX7_bytesOf_274 : decode cX7_bytesOf 274 = .ok (.iload_n 1, 1) := by decide +kernel
theorem dX7_bytesOf_275 : decode cX7_bytesOf 275 = .ok (.iconst 0, 1) := by decide +kernel
theorem dX7_bytesOf_276 : decode cX7_bytesOf 276 = .ok (.iconst (-1), 1) := by decide +kernel
theorem dX7_bytesOf_277 : decode cX7_bytesOf 277 = .ok (.invokevirtual 144, 3) := by decide +kernel
theorem dX7_bytesOf_280 : decode cX7_bytesOf 280 = .ok (.return_, 1) := by decide +kernel
theorem dX7_add_0 : decode cX7_add 0 = .ok (.aload_n 0, 1) := by decide +kernel
theorem dX7_add_1 : decode cX7_add 1 = .ok (.getfield 119, 3) := by decide +kernel
theorem dX7_add_4 : decode cX7_add 4 = .ok (.sipush 24000, 3) := by decide +kernel
theorem dX7_add_7 : decode cX7_add 7 = .ok (.if_icmp .ne 9, 3) := by decide +kernel
theorem dX7_add_10 : decode cX7_add 10 = .ok (.aload_n 0, 1) := by decide +kernel
theorem dX7_add_11 : decode cX7_add 11 = .ok (.iconst 1, 1) := by decide +kernel
theorem dX7_add_12 : decode cX7_add 12 = .ok (.putfield 190, 3) := by decide +kernel
theorem dX7_add_15 : decode cX7_add 15 = .ok (.return_, 1) := by decide +kernel
theorem dX7_add_16 : decode cX7_add 16 = .ok (.aload_n 0, 1) := by decide +kernel
theorem dX7_add_17 : decode cX7_add 17 = .ok (.getfield 16, 3) := by decide +kernel
theorem dX7_add_20 : decode cX7_add 20 = .ok (.aload_n 0, 1) := by decide +kernel
theorem dX7_add_21 : decode cX7_add 21 = .ok (.getfield 119, 3) := by decide +kernel
theorem dX7_add_24 : decode cX7_add 24 = .ok (.iload_n 1, 1) := by decide +kernel
theorem dX7_add_25 : decode cX7_add 25 = .ok (.i2b, 1) := by decide +kernel
theorem dX7_add_26 : decode cX7_add 26 = .ok (.bastore, 1) := by decide +kernel
theorem dX7_add_27 : decode cX7_add 27 = .ok (.aload_n 0, 1) := by decide +kernel
theorem dX7_add_28 : decode cX7_add 28 = .ok (.dup, 1) := by decide +kernel
theorem dX7_add_29 : decode cX7_add 29 = .ok (.getfield 119, 3) := by decide +kernel
theorem dX7_add_32 : decode cX7_add 32 = .ok (.iconst 1, 1) := by decide +kernel
theorem dX7_add_33 : decode cX7_add 33 = .ok (.iadd, 1) := by decide +kernel
theorem dX7_add_34 : decode cX7_add 34 = .ok (.putfield 119, 3) := by decide +kernel
theorem dX7_add_37 : decode cX7_add 37 = .ok (.return_, 1) := by decide +kernel
theorem dX7_stream_0 : decode cX7_stream 0 = .ok (.aload_n 0, 1) := by decide +kernel
theorem dX7_stream_1 : decode cX7_stream 1 = .ok (.iconst 0, 1) := by decide +kernel
theorem dX7_stream_2 : decode cX7_stream 2 = .ok (.putfield 58, 3) := by decide +kernel
theorem dX7_stream_5 : decode cX7_stream 5 = .ok (.iload_n 1, 1) := by decide +kernel
theorem dX7_stream_6 : decode cX7_stream 6 = .ok (.iconst 1, 1) := by decide +kernel
theorem dX7_stream_7 : decode cX7_stream 7 = .ok (.if_icmp .lt 10, 3) := by decide +kernel
theorem dX7_stream_10 : decode cX7_stream 10 = .ok (.iload_n 1, 1) := by decide +kernel
theorem dX7_stream_11 : decode cX7_stream 11 = .ok (.sipush 20000, 3) := by decide +kernel
theorem dX7_stream_14 : decode cX7_stream 14 = .ok (.if_icmp .le 5, 3) := by decide +kernel
theorem dX7_stream_17 : decode cX7_stream 17 = .ok (.iconst (-1), 1) := by decide +kernel
theorem dX7_stream_18 : decode cX7_stream 18 = .ok (.ireturn, 1) := by decide +kernel
theorem dX7_stream_19 : decode cX7_stream 19 = .ok (.aload_n 0, 1) := by decide +kernel
theorem dX7_stream_20 : decode cX7_stream 20 = .ok (.iconst 0, 1) := by decide +kernel
theorem dX7_stream_21 : decode cX7_stream 21 = .ok (.putfield 119, 3) := by decide +kernel
theorem dX7_stream_24 : decode cX7_stream 24 = .ok (.aload_n 0, 1) := by decide +kernel
theorem dX7_stream_25 : decode cX7_stream 25 = .ok (.iconst 0, 1) := by decide +kernel
theorem dX7_stream_26 : decode cX7_stream 26 = .ok (.putfield 190, 3) := by decide +kernel
theorem dX7_stream_29 : decode cX7_stream 29 = .ok (.aload_n 0, 1) := by decide +kernel
theorem dX7_stream_30 : decode cX7_stream 30 = .ok (.sipush 255, 3) := by decide +kernel
theorem dX7_stream_33 : decode cX7_stream 33 = .ok (.invokevirtual 194, 3) := by decide +kernel
theorem dX7_stream_36 : decode cX7_stream 36 = .ok (.aload_n 0, 1) := by decide +kernel
theorem dX7_stream_37 : decode cX7_stream 37 = .ok (.bipush 6, 2) := by decide +kernel
theorem dX7_stream_39 : decode cX7_stream 39 = .ok (.invokevirtual 194, 3) := by decide +kernel
theorem dX7_stream_42 : decode cX7_stream 42 = .ok (.aload_n 0, 1) := by decide +kernel
theorem dX7_stream_43 : decode cX7_stream 43 = .ok (.iconst 0, 1) := by decide +kernel
theorem dX7_stream_44 : decode cX7_stream 44 = .ok (.invokevirtual 194, 3) := by decide +kernel
theorem dX7_stream_47 : decode cX7_stream 47 = .ok (.aload_n 0, 1) := by decide +kernel
theorem dX7_stream_48 : decode cX7_stream 48 = .ok (.iconst 0, 1) := by decide +kernel
theorem dX7_stream_49 : decode cX7_stream 49 = .ok (.invokevirtual 194, 3) := by decide +kernel
theorem dX7_stream_52 : decode cX7_stream 52 = .ok (.iconst 0, 1) := by decide +kernel
theorem dX7_stream_53 : decode cX7_stream 53 = .ok (.istore_n 2, 1) := by decide +kernel
theorem dX7_stream_54 : decode cX7_stream 54 = .ok (.iload_n 2, 1) := by decide +kernel
theorem dX7_stream_55 : decode cX7_stream 55 = .ok (.bipush 6, 2) := by decide +kernel
theorem dX7_stream_57 : decode cX7_stream 57 = .ok (.if_icmp .ge 18, 3) := by decide +kernel
theorem dX7_stream_60 : decode cX7_stream 60 = .ok (.aload_n 0, 1) := by decide +kernel
theorem dX7_stream_61 : decode cX7_stream 61 = .ok (.aload_n 0, 1) := by decide +kernel
theorem dX7_stream_62 : decode cX7_stream 62 = .ok (.iload_n 2, 1) := by decide +kernel
theorem dX7_stream_63 : decode cX7_stream 63 = .ok (.invokevirtual 168, 3) := by decide +kernel
theorem dX7_stream_66 : decode cX7_stream 66 = .ok (.invokevirtual 194, 3) := by decide +kernel
theorem dX7_stream_69 : decode cX7_stream 69 = .ok (.iinc 2 1, 3) := by decide +kernel
theorem dX7_stream_72 : decode cX7_stream 72 = .ok (.goto (-18), 3) := by decide +kernel
theorem dX7_stream_75 : decode cX7_stream 75 = .ok (.iconst 0, 1) := by decide +kernel
theorem dX7_stream_76 : decode cX7_stream 76 = .ok (.istore_n 2, 1) := by decide +kernel
theorem dX7_stream_77 : decode cX7_stream 77 = .ok (.iload_n 2, 1) := by decide +kernel
theorem dX7_stream_78 : decode cX7_stream 78 = .ok (.aload_n 0, 1) := by decide +kernel
theorem dX7_stream_79 : decode cX7_stream 79 = .ok (.getfield 61, 3) := by decide +kernel
theorem dX7_stream_82 : decode cX7_stream 82 = .ok (.if_icmp .ge 42, 3) := by decide +kernel
theorem dX7_stream_85 : decode cX7_stream 85 = .ok (.aload_n 0, 1) := by decide +kernel
theorem dX7_stream_86 : decode cX7_stream 86 = .ok (.getfield 190, 3) := by decide +kernel
theorem dX7_stream_89 : decode cX7_stream 89 = .ok (.ifCond .ne 35, 3) := by decide +kernel
theorem dX7_stream_92 : decode cX7_stream 92 = .ok (.aload_n 0, 1) := by decide +kernel
theorem dX7_stream_93 : decode cX7_stream 93 = .ok (.iload_n 2, 1) := by decide +kernel
theorem dX7_stream_94 : decode cX7_stream 94 = .ok (.aload_n 0, 1) := by decide +kernel
theorem dX7_stream_95 : decode cX7_stream 95 = .ok (.getfield 61, 3) := by decide +kernel
theorem dX7_stream_98 : decode cX7_stream 98 = .ok (.iload_n 2, 1) := by decide +kernel
theorem dX7_stream_99 : decode cX7_stream 99 = .ok (.isub, 1) := by decide +kernel
theorem dX7_stream_100 : decode cX7_stream 100 = .ok (.iload_n 1, 1) := by decide +kernel
theorem dX7_stream_101 : decode cX7_stream 101 = .ok (.if_icmp .ge 10, 3) := by decide +kernel
theorem dX7_stream_104 : decode cX7_stream 104 = .ok (.aload_n 0, 1) := by decide +kernel
theorem dX7_stream_105 : decode cX7_stream 105 = .ok (.getfield 61, 3) := by decide +kernel
theorem dX7_stream_108 : decode cX7_stream 108 = .ok (.goto 6, 3) := by decide +kernel
theorem dX7_stream_111 : decode cX7_stream 111 = .ok (.iload_n 2, 1) := by decide +kernel
theorem dX7_stream_112 : decode cX7_stream 112 = .ok (.iload_n 1, 1) := by decide +kernel
theorem dX7_stream_113 : decode cX7_stream 113 = .ok (.iadd, 1) := by decide +kernel
theorem dX7_stream_114 : decode cX7_stream 114 = .ok (.invokevirtual 197, 3) := by decide +kernel
theorem dX7_stream_117 : decode cX7_stream 117 = .ok (.iload_n 2, 1) := by decide +kernel
theorem dX7_stream_118 : decode cX7_stream 118 = .ok (.iload_n 1, 1) := by decide +kernel
theorem dX7_stream_119 : decode cX7_stream 119 = .ok (.iadd, 1) := by decide +kernel
theorem dX7_stream_120 : decode cX7_stream 120 = .ok (.istore_n 2, 1) := by decide +kernel
theorem dX7_stream_121 : decode cX7_stream 121 = .ok (.goto (-44), 3) := by decide +kernel
theorem dX7_stream_124 : decode cX7_stream 124 = .ok (.aload_n 0, 1) := by decide +kernel
theorem dX7_stream_125 : decode cX7_stream 125 = .ok (.getfield 190, 3) := by decide +kernel
theorem dX7_stream_128 : decode cX7_stream 128 = .ok (.ifCond .eq 5, 3) := by decide +kernel
theorem dX7_stream_131 : decode cX7_stream 131 = .ok (.iconst (-1), 1) := by decide +kernel
theorem dX7_stream_132 : decode cX7_stream 132 = .ok (.ireturn, 1) := by decide +kernel
theorem dX7_stream_133 : decode cX7_stream 133 = .ok (.aload_n 0, 1) := by decide +kernel
theorem dX7_stream_134 : decode cX7_stream 134 = .ok (.aload_n 0, 1) := by decide +kernel
theorem dX7_stream_135 : decode cX7_stream 135 = .ok (.getfield 16, 3) := by decide +kernel
theorem dX7_stream_138 : decode cX7_stream 138 = .ok (.aload_n 0, 1) := by decide +kernel
theorem dX7_stream_139 : decode cX7_stream 139 = .ok (.getfield 119, 3) := by decide +kernel
theorem dX7_stream_142 : decode cX7_stream 142 = .ok (.invokevirtual 103, 3) := by decide +kernel
theorem dX7_stream_145 : decode cX7_stream 145 = .ok (.aload_n 0, 1) := by decide +kernel
theorem dX7_stream_146 : decode cX7_stream 146 = .ok (.getfield 68, 3) := by decide +kernel
theorem dX7_stream_149 : decode cX7_stream 149 = .ok (.ireturn, 1) := by decide +kernel
theorem dX7_piece_0 : decode cX7_piece 0 = .ok (.iload_n 2, 1) := by decide +kernel
theorem dX7_piece_1 : decode cX7_piece 1 = .ok (.iload_n 1, 1) := by decide +kernel
theorem dX7_piece_2 : decode cX7_piece 2 = .ok (.isub, 1) := by decide +kernel
theorem dX7_piece_3 : decode cX7_piece 3 = .ok (.istore_n 3, 1) := by decide +kernel
theorem dX7_piece_4 : decode cX7_piece 4 = .ok (.aload_n 0, 1) := by decide +kernel
theorem dX7_piece_5 : decode cX7_piece 5 = .ok (.iconst 0, 1) := by decide +kernel
theorem dX7_piece_6 : decode cX7_piece 6 = .ok (.putfield 76, 3) := by decide +kernel
theorem dX7_piece_9 : decode cX7_piece 9 = .ok (.aload_n 0, 1) := by decide +kernel
theorem dX7_piece_10 : decode cX7_piece 10 = .ok (.iload_n 1, 1) := by decide +kernel
theorem dX7_piece_11 : decode cX7_piece 11 = .ok (.iload_n 2, 1) := by decide +kernel
theorem dX7_piece_12 : decode cX7_piece 12 = .ok (.invokevirtual 100, 3) := by decide +kernel
theorem dX7_piece_15 : decode cX7_piece 15 = .ok (.aload_n 0, 1) := by decide +kernel
theorem dX7_piece_16 : decode cX7_piece 16 = .ok (.getfield 76, 3) := by decide +kernel
theorem dX7_piece_19 : decode cX7_piece 19 = .ok (.iload_n 3, 1) := by decide +kernel
theorem dX7_piece_20 : decode cX7_piece 20 = .ok (.iload_n 3, 1) := by decide +kernel
theorem dX7_piece_21 : decode cX7_piece 21 = .ok (.bipush 8, 2) := by decide +kernel
theorem dX7_piece_23 : decode cX7_piece 23 = .ok (.idiv, 1) := by decide +kernel
theorem dX7_piece_24 : decode cX7_piece 24 = .ok (.isub, 1) := by decide +kernel
theorem dX7_piece_25 : decode cX7_piece 25 = .ok (.if_icmp .ge 7, 3) := by decide +kernel
theorem dX7_piece_28 : decode cX7_piece 28 = .ok (.iconst 1, 1) := by decide +kernel
theorem dX7_piece_29 : decode cX7_piece 29 = .ok (.goto 4, 3) := by decide +kernel
theorem dX7_piece_32 : decode cX7_piece 32 = .ok (.iconst 0, 1) := by decide +kernel
theorem dX7_piece_33 : decode cX7_piece 33 = .ok (.istore 4, 2) := by decide +kernel
theorem dX7_piece_35 : decode cX7_piece 35 = .ok (.iconst 4, 1) := by decide +kernel
theorem dX7_piece_36 : decode cX7_piece 36 = .ok (.iload 4, 2) := by decide +kernel
theorem dX7_piece_38 : decode cX7_piece 38 = .ok (.ifCond .eq 10, 3) := by decide +kernel
theorem dX7_piece_41 : decode cX7_piece 41 = .ok (.aload_n 0, 1) := by decide +kernel
theorem dX7_piece_42 : decode cX7_piece 42 = .ok (.getfield 76, 3) := by decide +kernel
theorem dX7_piece_45 : decode cX7_piece 45 = .ok (.goto 4, 3) := by decide +kernel
theorem dX7_piece_48 : decode cX7_piece 48 = .ok (.iload_n 3, 1) := by decide +kernel
theorem dX7_piece_49 : decode cX7_piece 49 = .ok (.iadd, 1) := by decide +kernel
theorem dX7_piece_50 : decode cX7_piece 50 = .ok (.istore 5, 2) := by decide +kernel
theorem dX7_piece_52 : decode cX7_piece 52 = .ok (.aload_n 0, 1) := by decide +kernel
theorem dX7_piece_53 : decode cX7_piece 53 = .ok (.aload_n 0, 1) := by decide +kernel
theorem dX7_piece_54 : decode cX7_piece 54 = .ok (.aload_n 0, 1) := by decide +kernel
theorem dX7_piece_55 : decode cX7_piece 55 = .ok (.getfield 7, 3) := by decide +kernel
theorem dX7_piece_58 : decode cX7_piece 58 = .ok (.iload_n 1, 1) := by decide +kernel
theorem dX7_piece_59 : decode cX7_piece 59 = .ok (.iload_n 2, 1) := by decide +kernel
theorem dX7_piece_60 : decode cX7_piece 60 = .ok (.invokevirtual 161, 3) := by decide +kernel
theorem dX7_piece_63 : decode cX7_piece 63 = .ok (.invokevirtual 165, 3) := by decide +kernel
theorem dX7_piece_66 : decode cX7_piece 66 = .ok (.istore 6, 2) := by decide +kernel
theorem dX7_piece_68 : decode cX7_piece 68 = .ok (.aload_n 0, 1) := by decide +kernel
theorem dX7_piece_69 : decode cX7_piece 69 = .ok (.iload 4, 2) := by decide +kernel
theorem dX7_piece_71 : decode cX7_piece 71 = .ok (.ifCond .eq 7, 3) := by decide +kernel
theorem dX7_piece_74 : decode cX7_piece 74 = .ok (.iconst 0, 1) := by decide +kernel
theorem dX7_piece_75 : decode cX7_piece 75 = .ok (.goto 4, 3) := by decide +kernel
theorem dX7_piece_78 : decode cX7_piece 78 = .ok (.iconst 1, 1) := by decide +kernel
theorem dX7_piece_79 : decode cX7_piece 79 = .ok (.invokevirtual 194, 3) := by decide +kernel
theorem dX7_piece_82 : decode cX7_piece 82 = .ok (.aload_n 0, 1) := by decide +kernel
theorem dX7_piece_83 : decode cX7_piece 83 = .ok (.iload 5, 2) := by decide +kernel
theorem dX7_piece_85 : decode cX7_piece 85 = .ok (.sipush 255, 3) := by decide +kernel
theorem dX7_piece_88 : decode cX7_piece 88 = .ok (.iand, 1) := by decide +kernel
theorem dX7_piece_89 : decode cX7_piece 89 = .ok (.invokevirtual 194, 3) := by decide +kernel
theorem dX7_piece_92 : decode cX7_piece 92 = .ok (.aload_n 0, 1) := by decide +kernel
theorem dX7_piece_93 : decode cX7_piece 93 = .ok (.iload 5, 2) := by decide +kernel
theorem dX7_piece_95 : decode cX7_piece 95 = .ok (.bipush 8, 2) := by decide +kernel
theorem dX7_piece_97 : decode cX7_piece 97 = .ok (.ishr, 1) := by decide +kernel
theorem dX7_piece_98 : decode cX7_piece 98 = .ok (.sipush 255, 3) := by decide +kernel
theorem dX7_piece_101 : decode cX7_piece 101 = .ok (.iand, 1) := by decide +kernel
theorem dX7_piece_102 : decode cX7_piece 102 = .ok (.invokevirtual 194, 3) := by decide +kernel
theorem dX7_piece_105 : decode cX7_piece 105 = .ok (.aload_n 0, 1) := by decide +kernel
theorem dX7_piece_106 : decode cX7_piece 106 = .ok (.iload 5, 2) := by decide +kernel
theorem dX7_piece_108 : decode cX7_piece 108 = .ok (.bipush 16, 2) := by decide +kernel
theorem dX7_piece_110 : decode cX7_piece 110 = .ok (.ishr, 1) := by decide +kernel
theorem dX7_piece_111 : decode cX7_piece 111 = .ok (.invokevirtual 194, 3) := by decide +kernel
theorem dX7_piece_114 : decode cX7_piece 114 = .ok (.iconst 0, 1) := by decide +kernel
theorem dX7_piece_115 : decode cX7_piece 115 = .ok (.istore 7, 2) := by decide +kernel
theorem dX7_piece_117 : decode cX7_piece 117 = .ok (.iload 7, 2) := by decide +kernel
theorem dX7_piece_119 : decode cX7_piece 119 = .ok (.iconst 4, 1) := by decide +kernel
theorem dX7_piece_120 : decode cX7_piece 120 = .ok (.if_icmp .ge 25, 3) := by decide +kernel
theorem dX7_piece_123 : decode cX7_piece 123 = .ok (.aload_n 0, 1) := by decide +kernel
theorem dX7_piece_124 : decode cX7_piece 124 = .ok (.iload 6, 2) := by decide +kernel
theorem dX7_piece_126 : decode cX7_piece 126 = .ok (.bipush 8, 2) := by decide +kernel
theorem dX7_piece_128 : decode cX7_piece 128 = .ok (.iload 7, 2) := by decide +kernel
theorem dX7_piece_130 : decode cX7_piece 130 = .ok (.imul, 1) := by decide +kernel
theorem dX7_piece_131 : decode cX7_piece 131 = .ok (.ishr, 1) := by decide +kernel
theorem dX7_piece_132 : decode cX7_piece 132 = .ok (.sipush 255, 3) := by decide +kernel
theorem dX7_piece_135 : decode cX7_piece 135 = .ok (.iand, 1) := by decide +kernel
theorem dX7_piece_136 : decode cX7_piece 136 = .ok (.invokevirtual 194, 3) := by decide +kernel
theorem dX7_piece_139 : decode cX7_piece 139 = .ok (.iinc 7 1, 3) := by decide +kernel
theorem dX7_piece_142 : decode cX7_piece 142 = .ok (.goto (-25), 3) := by decide +kernel
theorem dX7_piece_145 : decode cX7_piece 145 = .ok (.iload 4, 2) := by decide +kernel
theorem dX7_piece_147 : decode cX7_piece 147 = .ok (.ifCond .eq 35, 3) := by decide +kernel
theorem dX7_piece_150 : decode cX7_piece 150 = .ok (.iconst 0, 1) := by decide +kernel
theorem dX7_piece_151 : decode cX7_piece 151 = .ok (.istore 7, 2) := by decide +kernel
theorem dX7_piece_153 : decode cX7_piece 153 = .ok (.iload 7, 2) := by decide +kernel
theorem dX7_piece_155 : decode cX7_piece 155 = .ok (.aload_n 0, 1) := by decide +kernel
theorem dX7_piece_156 : decode cX7_piece 156 = .ok (.getfield 76, 3) := by decide +kernel
theorem dX7_piece_159 : decode cX7_piece 159 = .ok (.if_icmp .ge 20, 3) := by decide +kernel
theorem dX7_piece_162 : decode cX7_piece 162 = .ok (.aload_n 0, 1) := by decide +kernel
theorem dX7_piece_163 : decode cX7_piece 163 = .ok (.aload_n 0, 1) := by decide +kernel
theorem dX7_piece_164 : decode cX7_piece 164 = .ok (.getfield 19, 3) := by decide +kernel
theorem dX7_piece_167 : decode cX7_piece 167 = .ok (.iload 7, 2) := by decide +kernel
theorem dX7_piece_169 : decode cX7_piece 169 = .ok (.baload, 1) := by decide +kernel
theorem dX7_piece_170 : decode cX7_piece 170 = .ok (.invokevirtual 194, 3) := by decide +kernel
theorem dX7_piece_173 : decode cX7_piece 173 = .ok (.iinc 7 1, 3) := by decide +kernel
theorem dX7_piece_176 : decode cX7_piece 176 = .ok (.goto (-23), 3) := by decide +kernel
theorem dX7_piece_179 : decode cX7_piece 179 = .ok (.goto 29, 3) := by decide +kernel
theorem dX7_piece_182 : decode cX7_piece 182 = .ok (.iload_n 1, 1) := by decide +kernel
theorem dX7_piece_183 : decode cX7_piece 183 = .ok (.istore 7, 2) := by decide +kernel
theorem dX7_piece_185 : decode cX7_piece 185 = .ok (.iload 7, 2) := by decide +kernel
theorem dX7_piece_187 : decode cX7_piece 187 = .ok (.iload_n 2, 1) := by decide +kernel
theorem dX7_piece_188 : decode cX7_piece 188 = .ok (.if_icmp .ge 20, 3) := by decide +kernel
theorem dX7_piece_191 : decode cX7_piece 191 = .ok (.aload_n 0, 1) := by decide +kernel
theorem dX7_piece_192 : decode cX7_piece 192 = .ok (.aload_n 0, 1) := by decide +kernel
theorem dX7_piece_193 : decode cX7_piece 193 = .ok (.getfield 7, 3) := by decide +kernel
theorem dX7_piece_196 : decode cX7_piece 196 = .ok (.iload 7, 2) := by decide +kernel
theorem dX7_piece_198 : decode cX7_piece 198 = .ok (.baload, 1) := by decide +kernel
theorem dX7_piece_199 : decode cX7_piece 199 = .ok (.invokevirtual 194, 3) := by decide +kernel
theorem dX7_piece_202 : decode cX7_piece 202 = .ok (.iinc 7 1, 3) := by decide +kernel
theorem dX7_piece_205 : decode cX7_piece 205 = .ok (.goto (-20), 3) := by decide +kernel
theorem dX7_piece_208 : decode cX7_piece 208 = .ok (.return_, 1) := by decide +kernel
theorem dJ6_rotateLeft_7cf53_0 : decode cJ6_rotateLeft_7cf53 0 = .ok (.iload_n 0, 1) := by decide +kernel
theorem dJ6_rotateLeft_7cf53_1 : decode cJ6_rotateLeft_7cf53 1 = .ok (.iload_n 1, 1) := by decide +kernel
theorem dJ6_rotateLeft_7cf53_2 : decode cJ6_rotateLeft_7cf53 2 = .ok (.ishl, 1) := by decide +kernel
theorem dJ6_rotateLeft_7cf53_3 : decode cJ6_rotateLeft_7cf53 3 = .ok (.iload_n 0, 1) := by decide +kernel
theorem dJ6_rotateLeft_7cf53_4 : decode cJ6_rotateLeft_7cf53 4 = .ok (.iload_n 1, 1) := by decide +kernel
theorem dJ6_rotateLeft_7cf53_5 : decode cJ6_rotateLeft_7cf53 5 = .ok (.ineg, 1) := by decide +kernel
theorem dJ6_rotateLeft_7cf53_6 : decode cJ6_rotateLeft_7cf53 6 = .ok (.iushr, 1) := by decide +kernel
theorem dJ6_rotateLeft_7cf53_7 : decode cJ6_rotateLeft_7cf53 7 = .ok (.ior, 1) := by decide +kernel
theorem dJ6_rotateLeft_7cf53_8 : decode cJ6_rotateLeft_7cf53 8 = .ok (.ireturn, 1) := by decide +kernel
theorem dJ9_max_7cf53_0 : decode cJ9_max_7cf53 0 = .ok (.iload_n 0, 1) := by decide +kernel
theorem dJ9_max_7cf53_1 : decode cJ9_max_7cf53 1 = .ok (.iload_n 1, 1) := by decide +kernel
theorem dJ9_max_7cf53_2 : decode cJ9_max_7cf53 2 = .ok (.if_icmp .lt 7, 3) := by decide +kernel
theorem dJ9_max_7cf53_5 : decode cJ9_max_7cf53 5 = .ok (.iload_n 0, 1) := by decide +kernel
theorem dJ9_max_7cf53_6 : decode cJ9_max_7cf53 6 = .ok (.goto 4, 3) := by decide +kernel
theorem dJ9_max_7cf53_9 : decode cJ9_max_7cf53 9 = .ok (.iload_n 1, 1) := by decide +kernel
theorem dJ9_max_7cf53_10 : decode cJ9_max_7cf53 10 = .ok (.ireturn, 1) := by decide +kernel
theorem dJ9_min_7cf53_0 : decode cJ9_min_7cf53 0 = .ok (.iload_n 0, 1) := by decide +kernel
theorem dJ9_min_7cf53_1 : decode cJ9_min_7cf53 1 = .ok (.iload_n 1, 1) := by decide +kernel
theorem dJ9_min_7cf53_2 : decode cJ9_min_7cf53 2 = .ok (.if_icmp .gt 7, 3) := by decide +kernel
theorem dJ9_min_7cf53_5 : decode cJ9_min_7cf53 5 = .ok (.iload_n 0, 1) := by decide +kernel
theorem dJ9_min_7cf53_6 : decode cJ9_min_7cf53 6 = .ok (.goto 4, 3) := by decide +kernel
theorem dJ9_min_7cf53_9 : decode cJ9_min_7cf53 9 = .ok (.iload_n 1, 1) := by decide +kernel
theorem dJ9_min_7cf53_10 : decode cJ9_min_7cf53 10 = .ok (.ireturn, 1) := by decide +kernel
end
section
/-- SnapHouse$Bytes.hasRoomFor(I)Z -/
def f_X1_hasRoomFor (K : Nat) (o_count : Int32) (o_row_n : Nat) (p1 : Int32) : Option (Int32) := (if p1 < 0 then (some (0 : Int32)) else (if ((Int32.ofNat o_row_n) - o_count) < p1 then (some (0 : Int32)) else (some (1 : Int32))))

/-- SnapHouse$Bytes.put(I)V -/
def f_X1_put (K : Nat) (o_count : Int32) (o_row_n : Nat) (o_row_c : Nat → Int32) (p1 : Int32) : Option (Int32 × (Nat → Int32)) := (if (Int32.ofNat o_row_n) ≤ o_count then (some (o_count, o_row_c)) else (ck o_count o_row_n (some ((o_count + (1 : Int32)), (upd o_row_c o_count.toNatClampNeg p1)))))

/-- SnapHouse$Bytes.putHighestFirst(I)V -/
def f_X1_putHighestFirst (K : Nat) (o_count : Int32) (o_row_n : Nat) (o_row_c : Nat → Int32) (p1 : Int32) : Option (Int32 × (Nat → Int32)) := ((f_X1_put K o_count o_row_n o_row_c (ushr p1 (24 : Int32))).bind fun r1 => ((f_X1_put K r1.1 o_row_n r1.2 ((ushr p1 (16 : Int32)) &&& (255 : Int32))).bind fun r3 => ((f_X1_put K r3.1 o_row_n r3.2 ((ushr p1 (8 : Int32)) &&& (255 : Int32))).bind fun r5 => ((f_X1_put K r5.1 o_row_n r5.2 (p1 &&& (255 : Int32))).bind fun r7 => (some (r7.1, r7.2))))))

/-- SnapHouse.feed(IIIII)I -/
def f_X6_feed (K : Nat) (o_theTape_count : Int32) (o_theTape_row_n : Nat) (o_theTape_row_c : Nat → Int32) (p1 : Int32) (p2 : Int32) (p3 : Int32) (p4 : Int32) (p5 : Int32) : Option (Int32 × Int32 × (Nat → Int32)) := ((f_X1_hasRoomFor K o_theTape_count o_theTape_row_n (20 : Int32)).bind fun r1 => (if r1 = 0 then (some ((-1 : Int32), o_theTape_count, o_theTape_row_c)) else ((f_X1_putHighestFirst K o_theTape_count o_theTape_row_n o_theTape_row_c p1).bind fun r4 => ((f_X1_putHighestFirst K r4.1 o_theTape_row_n r4.2 p2).bind fun r6 => ((f_X1_putHighestFirst K r6.1 o_theTape_row_n r6.2 p3).bind fun r8 => ((f_X1_putHighestFirst K r8.1 o_theTape_row_n r8.2 p4).bind fun r10 => ((f_X1_putHighestFirst K r10.1 o_theTape_row_n r10.2 p5).bind fun r12 => (some (r12.1, r12.1, r12.2)))))))))

/-- SnapHouse.isByte(I)Z -/
def f_X6_isByte (K : Nat) (p0 : Int32) : Option (Int32) := (if p0 < 0 then (some (0 : Int32)) else (if (255 : Int32) < p0 then (some (0 : Int32)) else (some (1 : Int32))))

def f_X6_fill_b22 (K : Nat) (o_theTape_row_n : Nat) (p1 : Int32) (p2 : Int32) : Nat → Int32 → (Nat → Int32) → Int32 → Option (Int32 × Int32 × (Nat → Int32))
  | 0, _, _, _ => none
  | n + 1, o_theTape_count, o_theTape_row_c, x3 => (if p2 ≤ x3 then (some (o_theTape_count, o_theTape_count, o_theTape_row_c)) else ((f_X1_put K o_theTape_count o_theTape_row_n o_theTape_row_c p1).bind fun r2 => (f_X6_fill_b22 K o_theTape_row_n p1 p2 n r2.1 r2.2 (x3 + (1 : Int32)))))

/-- SnapHouse.fill(II)I -/
def f_X6_fill (K : Nat) (o_theTape_count : Int32) (o_theTape_row_n : Nat) (o_theTape_row_c : Nat → Int32) (p1 : Int32) (p2 : Int32) : Option (Int32 × Int32 × (Nat → Int32)) := ((f_X6_isByte K p1).bind fun r1 => (if r1 = 0 then (some ((-1 : Int32), o_theTape_count, o_theTape_row_c)) else ((f_X1_hasRoomFor K o_theTape_count o_theTape_row_n p2).bind fun r4 => (if r4 = 0 then (some ((-1 : Int32), o_theTape_count, o_theTape_row_c)) else (f_X6_fill_b22 K o_theTape_row_n p1 p2 K o_theTape_count o_theTape_row_c (0 : Int32))))))

/-- SnapHouse$Bytes.hasPlace(I)Z -/
def f_X1_hasPlace (K : Nat) (o_count : Int32) (p1 : Int32) : Option (Int32) := (if p1 < 0 then (some (0 : Int32)) else (if o_count ≤ p1 then (some (0 : Int32)) else (some (1 : Int32))))

def f_X1_putOwn_b19 (K : Nat) (o_row_n : Nat) (p1 : Int32) (p2 : Int32) : Nat → Int32 → (Nat → Int32) → Int32 → Option (Int32 × (Nat → Int32))
  | 0, _, _, _ => none
  | n + 1, o_count, o_row_c, x3 => (if p2 ≤ x3 then (some (o_count, o_row_c)) else (ck (p1 + x3) o_row_n (ck o_count o_row_n (f_X1_putOwn_b19 K o_row_n p1 p2 n (o_count + (1 : Int32)) (upd o_row_c o_count.toNatClampNeg (o_row_c (p1 + x3).toNatClampNeg)) (x3 + (1 : Int32))))))

/-- SnapHouse$Bytes.putOwn(II)V -/
def f_X1_putOwn (K : Nat) (o_count : Int32) (o_row_n : Nat) (o_row_c : Nat → Int32) (p1 : Int32) (p2 : Int32) : Option (Int32 × (Nat → Int32)) := ((f_X1_hasPlace K o_count p1).bind fun r1 => (if r1 = 0 then (some (o_count, o_row_c)) else ((f_X1_hasRoomFor K o_count o_row_n p2).bind fun r4 => (if r4 = 0 then (some (o_count, o_row_c)) else (f_X1_putOwn_b19 K o_row_n p1 p2 K o_count o_row_c (0 : Int32))))))

/-- SnapHouse.again(II)I -/
def f_X6_again (K : Nat) (o_theTape_count : Int32) (o_theTape_row_n : Nat) (o_theTape_row_c : Nat → Int32) (p1 : Int32) (p2 : Int32) : Option (Int32 × Int32 × (Nat → Int32)) := ((f_X1_hasPlace K o_theTape_count p1).bind fun r1 => (if r1 = 0 then (some ((-1 : Int32), o_theTape_count, o_theTape_row_c)) else ((f_X1_hasRoomFor K o_theTape_count o_theTape_row_n p2).bind fun r4 => (if r4 = 0 then (some ((-1 : Int32), o_theTape_count, o_theTape_row_c)) else ((f_X1_putOwn K o_theTape_count o_theTape_row_n o_theTape_row_c p1 p2).bind fun r7 => (some (r7.1, r7.1, r7.2)))))))

/-- SnapHouse$Bytes.has(II)Z -/
def f_X1_has (K : Nat) (o_count : Int32) (p1 : Int32) (p2 : Int32) : Option (Int32) := (if p1 < 0 then (some (0 : Int32)) else (if p2 < 0 then (some (0 : Int32)) else (if (o_count - p2) < p1 then (some (0 : Int32)) else (some (1 : Int32)))))

/-- SnapHouse$Bytes.shorten(I)V -/
def f_X1_shorten (K : Nat) (o_count : Int32) (p1 : Int32) : Option (Int32) := ((f_X1_has K o_count (0 : Int32) p1).bind fun r1 => (if r1 = 0 then (some o_count) else (some p1)))

/-- SnapHouse.cut(I)I -/
def f_X6_cut (K : Nat) (o_theTape_count : Int32) (p1 : Int32) : Option (Int32 × Int32) := ((f_X1_has K o_theTape_count (0 : Int32) p1).bind fun r1 => (if r1 = 0 then (some ((-1 : Int32), o_theTape_count)) else ((f_X1_shorten K o_theTape_count p1).bind fun r4 => (some (p1, r4)))))

/-- SnapHouse$Bytes.at(I)I -/
def f_X1_at (K : Nat) (o_count : Int32) (o_row_n : Nat) (o_row_c : Nat → Int32) (p1 : Int32) : Option (Int32) := (if p1 < 0 then (some (-1 : Int32)) else (if o_count ≤ p1 then (some (-1 : Int32)) else (ck p1 o_row_n (some (o_row_c p1.toNatClampNeg)))))

/-- SnapHouse$Bytes.change(II)V -/
def f_X1_change (K : Nat) (o_count : Int32) (o_row_n : Nat) (o_row_c : Nat → Int32) (p1 : Int32) (p2 : Int32) : Option ((Nat → Int32)) := ((f_X1_hasPlace K o_count p1).bind fun r1 => (if r1 = 0 then (some o_row_c) else (ck p1 o_row_n (some (upd o_row_c p1.toNatClampNeg p2)))))

/-- SnapHouse.set(II)I -/
def f_X6_set (K : Nat) (o_theTape_count : Int32) (o_theTape_row_n : Nat) (o_theTape_row_c : Nat → Int32) (p1 : Int32) (p2 : Int32) : Option (Int32 × (Nat → Int32)) := ((f_X1_hasPlace K o_theTape_count p1).bind fun r1 => (if r1 = 0 then (some ((-1 : Int32), o_theTape_row_c)) else ((f_X6_isByte K p2).bind fun r4 => (if r4 = 0 then (some ((-1 : Int32), o_theTape_row_c)) else ((f_X1_at K o_theTape_count o_theTape_row_n o_theTape_row_c p1).bind fun r7 => ((f_X1_change K o_theTape_count o_theTape_row_n o_theTape_row_c p1 p2).bind fun r9 => (some (r7, r9))))))))

/-- SnapHouse$Bytes.putAll(LSnapHouse$Bytes;II)V -/
def f_X1_putAll (K : Nat) (o_count : Int32) (o_row_n : Nat) (o_row_c : Nat → Int32) (a_count : Int32) (a_row_n : Nat) (a_row_c : Nat → Int32) (p2 : Int32) (p3 : Int32) : Option (Int32 × (Nat → Int32)) := ((f_X1_has K a_count p2 p3).bind fun r1 => (if r1 = 0 then (some (o_count, o_row_c)) else ((f_X1_hasRoomFor K o_count o_row_n p3).bind fun r4 => (if r4 = 0 then (some (o_count, o_row_c)) else (ckc p2 o_count p3 a_row_n o_row_n (some ((o_count + p3), (va_cpy a_row_c o_row_c p2.toNatClampNeg o_count.toNatClampNeg p3.toNatClampNeg))))))))

/-- SnapHouse$Bytes.become(LSnapHouse$Bytes;)V -/
def f_X1_become (K : Nat) (o_count : Int32) (o_row_n : Nat) (o_row_c : Nat → Int32) (a_count : Int32) (a_row_n : Nat) (a_row_c : Nat → Int32) : Option (Int32 × (Nat → Int32)) := ((f_X1_putAll K (0 : Int32) o_row_n o_row_c a_count a_row_n a_row_c (0 : Int32) a_count).bind fun r1 => (some (r1.1, r1.2)))

/-- SnapHouse.take()I -/
def f_X6_take (K : Nat) (o_theTape_count : Int32) (o_theTape_row_n : Nat) (o_theTape_row_c : Nat → Int32) (o_theOut_count : Int32) (o_theOut_row_n : Nat) (o_theOut_row_c : Nat → Int32) : Option (Int32 × Int32 × (Nat → Int32)) := (if o_theOut_count ≤ (20000 : Int32) then ((f_X1_become K o_theTape_count o_theTape_row_n o_theTape_row_c o_theOut_count o_theOut_row_n o_theOut_row_c).bind fun r2 => (some (r2.1, r2.1, r2.2))) else (some ((-1 : Int32), o_theTape_count, o_theTape_row_c)))

/-- SnapHouse.tape(I)I -/
def f_X6_tape (K : Nat) (o_theTape_count : Int32) (o_theTape_row_n : Nat) (o_theTape_row_c : Nat → Int32) (p1 : Int32) : Option (Int32) := ((f_X1_at K o_theTape_count o_theTape_row_n o_theTape_row_c p1).bind fun r1 => (some r1))

def f_X2_putLength_b41 (K : Nat) (o_block_row_n : Nat) (p1 : Int32) (o_block_count : Int32) (o_block_row_c : Nat → Int32) (x2 : Int32) : Option (Int32 × (Nat → Int32)) := ((f_X1_put K o_block_count o_block_row_n o_block_row_c x2).bind fun r1 => (some (r1.1, r1.2)))

def f_X2_putLength_b4 (K : Nat) (o_block_row_n : Nat) (p1 : Int32) : Nat → Int32 → (Nat → Int32) → Int32 → Int32 → Option (Int32 × (Nat → Int32))
  | 0, _, _, _, _ => none
  | n + 1, o_block_count, o_block_row_c, x2, x3 => (if (5 : Int32) ≤ x3 then (f_X2_putLength_b41 K o_block_row_n p1 o_block_count o_block_row_c x2) else (if x2 ≤ (127 : Int32) then (f_X2_putLength_b41 K o_block_row_n p1 o_block_count o_block_row_c x2) else ((f_X1_put K o_block_count o_block_row_n o_block_row_c ((x2 &&& (127 : Int32)) ||| (128 : Int32))).bind fun r3 => (f_X2_putLength_b4 K o_block_row_n p1 n r3.1 r3.2 (ushr x2 (7 : Int32)) (x3 + (1 : Int32))))))

/-- SnapHouse$Presser.putLength(I)V -/
def f_X2_putLength (K : Nat) (o_block_count : Int32) (o_block_row_n : Nat) (o_block_row_c : Nat → Int32) (p1 : Int32) : Option (Int32 × (Nat → Int32)) := (f_X2_putLength_b4 K o_block_row_n p1 K o_block_count o_block_row_c p1 (0 : Int32))

def f_X2_freeSlots_b30 (K : Nat) (o_slots_n : Nat) (p1 : Int32) : Nat → Int32 → (Nat → Int32) → Int32 → Int32 → Option (Int32 × (Nat → Int32))
  | 0, _, _, _, _ => none
  | n + 1, o_slotMask, o_slots_c, x2, x3 => (if x2 < x3 then (some (x2, o_slots_c)) else (ck x3 o_slots_n (f_X2_freeSlots_b30 K o_slots_n p1 n o_slotMask (upd o_slots_c x3.toNatClampNeg (0 : Int32)) x2 (x3 + (1 : Int32)))))

def f_X2_freeSlots_b3 (K : Nat) (o_slots_n : Nat) (p1 : Int32) : Nat → Int32 → (Nat → Int32) → Int32 → Option (Int32 × (Nat → Int32))
  | 0, _, _, _ => none
  | n + 1, o_slotMask, o_slots_c, x2 => (if (p1 + (p1 / (4 : Int32))) ≤ x2 then (f_X2_freeSlots_b30 K o_slots_n p1 K o_slotMask o_slots_c x2 (0 : Int32)) else (if (32767 : Int32) ≤ x2 then (f_X2_freeSlots_b30 K o_slots_n p1 K o_slotMask o_slots_c x2 (0 : Int32)) else (f_X2_freeSlots_b3 K o_slots_n p1 n o_slotMask o_slots_c (((2 : Int32) * x2) + (1 : Int32)))))

/-- SnapHouse$Presser.freeSlots(I)V -/
def f_X2_freeSlots (K : Nat) (o_slotMask : Int32) (o_slots_n : Nat) (o_slots_c : Nat → Int32) (p1 : Int32) : Option (Int32 × (Nat → Int32)) := (f_X2_freeSlots_b3 K o_slots_n p1 K o_slotMask o_slots_c (15 : Int32))

def f_X1_putLowestFirst_b2 (K : Nat) (o_row_n : Nat) (p1 : Int32) (p2 : Int32) : Nat → Int32 → (Nat → Int32) → Int32 → Option (Int32 × (Nat → Int32))
  | 0, _, _, _ => none
  | n + 1, o_count, o_row_c, x3 => (if p2 ≤ x3 then (some (o_count, o_row_c)) else ((f_X1_put K o_count o_row_n o_row_c ((ushr p1 ((8 : Int32) * x3)) &&& (255 : Int32))).bind fun r2 => (f_X1_putLowestFirst_b2 K o_row_n p1 p2 n r2.1 r2.2 (x3 + (1 : Int32)))))

/-- SnapHouse$Bytes.putLowestFirst(II)V -/
def f_X1_putLowestFirst (K : Nat) (o_count : Int32) (o_row_n : Nat) (o_row_c : Nat → Int32) (p1 : Int32) (p2 : Int32) : Option (Int32 × (Nat → Int32)) := (f_X1_putLowestFirst_b2 K o_row_n p1 p2 K o_count o_row_c (0 : Int32))

def f_X2_putLiteral_b75 (K : Nat) (o_block_row_n : Nat) (a_count : Int32) (a_row_n : Nat) (a_row_c : Nat → Int32) (p2 : Int32) (p3 : Int32) (o_block_count : Int32) (o_block_row_c : Nat → Int32) : Option (Int32 × (Nat → Int32)) := ((f_X1_putAll K o_block_count o_block_row_n o_block_row_c a_count a_row_n a_row_c p2 p3).bind fun r1 => (some (r1.1, r1.2)))

def f_X2_putLiteral_b46 (K : Nat) (o_block_row_n : Nat) (a_count : Int32) (a_row_n : Nat) (a_row_c : Nat → Int32) (p2 : Int32) (p3 : Int32) (o_block_count : Int32) (o_block_row_c : Nat → Int32) (x4 : Int32) (t0 : Int32) : Option (Int32 × (Nat → Int32)) := ((f_X1_put K o_block_count o_block_row_n o_block_row_c ((((59 : Int32) + t0) <<< ((2 : Int32) &&& 31)) ||| (0 : Int32))).bind fun r1 => ((f_X1_putLowestFirst K r1.1 o_block_row_n r1.2 x4 t0).bind fun r3 => (f_X2_putLiteral_b75 K o_block_row_n a_count a_row_n a_row_c p2 p3 r3.1 r3.2)))

/-- SnapHouse$Presser.putLiteral(LSnapHouse$Bytes;II)V -/
def f_X2_putLiteral (K : Nat) (o_block_count : Int32) (o_block_row_n : Nat) (o_block_row_c : Nat → Int32) (a_count : Int32) (a_row_n : Nat) (a_row_c : Nat → Int32) (p2 : Int32) (p3 : Int32) : Option (Int32 × (Nat → Int32)) := (if 0 < p3 then (if (60 : Int32) ≤ (p3 - (1 : Int32)) then (if (256 : Int32) ≤ (p3 - (1 : Int32)) then (f_X2_putLiteral_b46 K o_block_row_n a_count a_row_n a_row_c p2 p3 o_block_count o_block_row_c (p3 - (1 : Int32)) (2 : Int32)) else (f_X2_putLiteral_b46 K o_block_row_n a_count a_row_n a_row_c p2 p3 o_block_count o_block_row_c (p3 - (1 : Int32)) (1 : Int32))) else ((f_X1_put K o_block_count o_block_row_n o_block_row_c (((p3 - (1 : Int32)) <<< ((2 : Int32) &&& 31)) ||| (0 : Int32))).bind fun r4 => (f_X2_putLiteral_b75 K o_block_row_n a_count a_row_n a_row_c p2 p3 r4.1 r4.2))) else (some (o_block_count, o_block_row_c)))

/-- SnapHouse$Bytes.fourFrom(I)I -/
def f_X1_fourFrom (K : Nat) (o_count : Int32) (o_row_n : Nat) (o_row_c : Nat → Int32) (p1 : Int32) : Option (Int32) := ((f_X1_has K o_count p1 (4 : Int32)).bind fun r1 => (if r1 = 0 then (some (-1 : Int32)) else (ck p1 o_row_n (ck (p1 + (1 : Int32)) o_row_n (ck (p1 + (2 : Int32)) o_row_n (ck (p1 + (3 : Int32)) o_row_n (some ((((o_row_c p1.toNatClampNeg) ||| ((o_row_c (p1 + (1 : Int32)).toNatClampNeg) <<< ((8 : Int32) &&& 31))) ||| ((o_row_c (p1 + (2 : Int32)).toNatClampNeg) <<< ((16 : Int32) &&& 31))) ||| ((o_row_c (p1 + (3 : Int32)).toNatClampNeg) <<< ((24 : Int32) &&& 31))))))))))

def f_X2_noteAndFind_b58 (K : Nat) (o_slotMask : Int32) (o_slots_n : Nat) (a_count : Int32) (a_row_n : Nat) (a_row_c : Nat → Int32) (p2 : Int32) (o_slots_c : Nat → Int32) (x4 : Int32) (x6 : Int32) : Option (Int32 × (Nat → Int32)) := (ck x4 o_slots_n (some (x6, (upd o_slots_c x4.toNatClampNeg (p2 + (1 : Int32))))))

def f_X2_noteAndFind_b23 (K : Nat) (o_slotMask : Int32) (o_slots_n : Nat) (a_count : Int32) (a_row_n : Nat) (a_row_c : Nat → Int32) (p2 : Int32) : Nat → (Nat → Int32) → Int32 → Int32 → Int32 → Option (Int32 × (Nat → Int32))
  | 0, _, _, _, _ => none
  | n + 1, o_slots_c, x3, x4, x5 => (if o_slotMask < x5 then (some ((-1 : Int32), o_slots_c)) else (ck x4 o_slots_n (if ((o_slots_c x4.toNatClampNeg) - (1 : Int32)) < 0 then (f_X2_noteAndFind_b58 K o_slotMask o_slots_n a_count a_row_n a_row_c p2 o_slots_c x4 ((o_slots_c x4.toNatClampNeg) - (1 : Int32))) else ((f_X1_fourFrom K a_count a_row_n a_row_c ((o_slots_c x4.toNatClampNeg) - (1 : Int32))).bind fun r4 => (if r4 = x3 then (f_X2_noteAndFind_b58 K o_slotMask o_slots_n a_count a_row_n a_row_c p2 o_slots_c x4 ((o_slots_c x4.toNatClampNeg) - (1 : Int32))) else (f_X2_noteAndFind_b23 K o_slotMask o_slots_n a_count a_row_n a_row_c p2 n o_slots_c x3 ((x4 + (1 : Int32)) &&& o_slotMask) (x5 + (1 : Int32))))))))

/-- SnapHouse$Presser.noteAndFind(LSnapHouse$Bytes;I)I -/
def f_X2_noteAndFind (K : Nat) (o_slotMask : Int32) (o_slots_n : Nat) (o_slots_c : Nat → Int32) (a_count : Int32) (a_row_n : Nat) (a_row_c : Nat → Int32) (p2 : Int32) : Option (Int32 × (Nat → Int32)) := ((f_X1_fourFrom K a_count a_row_n a_row_c p2).bind fun r1 => (f_X2_noteAndFind_b23 K o_slotMask o_slots_n a_count a_row_n a_row_c p2 K o_slots_c r1 ((ushr (r1 * (-1640531535 : Int32)) (15 : Int32)) &&& o_slotMask) (0 : Int32)))

def f_X2_countAlike_b3 (K : Nat) (o_count : Int32) (o_row_n : Nat) (o_row_c : Nat → Int32) (p1 : Int32) (p2 : Int32) (p3 : Int32) : Nat → Int32 → Option (Int32)
  | 0, _ => none
  | n + 1, x4 => (if p3 ≤ (p2 + x4) then (some x4) else ((f_X1_at K o_count o_row_n o_row_c (p1 + x4)).bind fun r2 => ((f_X1_at K o_count o_row_n o_row_c (p2 + x4)).bind fun r4 => (if r2 = r4 then (f_X2_countAlike_b3 K o_count o_row_n o_row_c p1 p2 p3 n (x4 + (1 : Int32))) else (some x4)))))

/-- SnapHouse$Presser.countAlike(LSnapHouse$Bytes;III)I -/
def f_X2_countAlike (K : Nat) (o_count : Int32) (o_row_n : Nat) (o_row_c : Nat → Int32) (p1 : Int32) (p2 : Int32) (p3 : Int32) : Option (Int32) := (f_X2_countAlike_b3 K o_count o_row_n o_row_c p1 p2 p3 K (0 : Int32))

/-- SnapHouse$Presser.putCopy(II)V -/
def f_X2_putCopy (K : Nat) (o_block_count : Int32) (o_block_row_n : Nat) (o_block_row_c : Nat → Int32) (p1 : Int32) (p2 : Int32) : Option (Int32 × (Nat → Int32)) := ((f_X1_put K o_block_count o_block_row_n o_block_row_c (((p1 - (1 : Int32)) <<< ((2 : Int32) &&& 31)) ||| (2 : Int32))).bind fun r1 => ((f_X1_putLowestFirst K r1.1 o_block_row_n r1.2 p2 (2 : Int32)).bind fun r3 => (some (r3.1, r3.2))))

def f_X2_putCopies_b86 (K : Nat) (o_block_row_n : Nat) (p1 : Int32) (p2 : Int32) (o_block_count : Int32) (o_block_row_c : Nat → Int32) (x3 : Int32) : Option (Int32 × (Nat → Int32)) := ((f_X2_putCopy K o_block_count o_block_row_n o_block_row_c x3 p2).bind fun r1 => (some (r1.1, r1.2)))

def f_X2_putCopies_b37 (K : Nat) (o_block_row_n : Nat) (p1 : Int32) (p2 : Int32) (o_block_count : Int32) (o_block_row_c : Nat → Int32) (x3 : Int32) : Option (Int32 × (Nat → Int32)) := (if (12 : Int32) ≤ x3 then (f_X2_putCopies_b86 K o_block_row_n p1 p2 o_block_count o_block_row_c x3) else (if (2048 : Int32) ≤ p2 then (f_X2_putCopies_b86 K o_block_row_n p1 p2 o_block_count o_block_row_c x3) else ((f_X1_put K o_block_count o_block_row_n o_block_row_c ((((p2 >>> ((8 : Int32) &&& 31)) <<< ((5 : Int32) &&& 31)) ||| ((x3 - (4 : Int32)) <<< ((2 : Int32) &&& 31))) ||| (1 : Int32))).bind fun r3 => ((f_X1_put K r3.1 o_block_row_n r3.2 (p2 &&& (255 : Int32))).bind fun r5 => (some (r5.1, r5.2))))))

def f_X2_putCopies_b2 (K : Nat) (o_block_row_n : Nat) (p1 : Int32) (p2 : Int32) : Nat → Int32 → (Nat → Int32) → Int32 → Option (Int32 × (Nat → Int32))
  | 0, _, _, _ => none
  | n + 1, o_block_count, o_block_row_c, x3 => (if x3 < (68 : Int32) then (if x3 ≤ (64 : Int32) then (f_X2_putCopies_b37 K o_block_row_n p1 p2 o_block_count o_block_row_c x3) else ((f_X2_putCopy K o_block_count o_block_row_n o_block_row_c (60 : Int32) p2).bind fun r3 => (f_X2_putCopies_b37 K o_block_row_n p1 p2 r3.1 r3.2 (x3 + (-60 : Int32))))) else ((f_X2_putCopy K o_block_count o_block_row_n o_block_row_c (64 : Int32) p2).bind fun r5 => (f_X2_putCopies_b2 K o_block_row_n p1 p2 n r5.1 r5.2 (x3 + (-64 : Int32)))))

/-- SnapHouse$Presser.putCopies(II)V -/
def f_X2_putCopies (K : Nat) (o_block_count : Int32) (o_block_row_n : Nat) (o_block_row_c : Nat → Int32) (p1 : Int32) (p2 : Int32) : Option (Int32 × (Nat → Int32)) := (f_X2_putCopies_b2 K o_block_row_n p1 p2 K o_block_count o_block_row_c p1)

def f_X2_pressBlock_b29 (K : Nat) (o_block_row_n : Nat) (o_slots_n : Nat) (a_count : Int32) (a_row_n : Nat) (a_row_c : Nat → Int32) (p2 : Int32) (p3 : Int32) : Nat → Int32 → Int32 → (Nat → Int32) → (Nat → Int32) → Int32 → Int32 → Int32 → Option (Int32 × Int32 × (Nat → Int32) × (Nat → Int32))
  | 0, _, _, _, _, _, _, _ => none
  | n + 1, o_slotMask, o_block_count, o_block_row_c, o_slots_c, x4, x5, x6 => (if x4 < (x6 + (4 : Int32)) then ((f_X2_putLiteral K o_block_count o_block_row_n o_block_row_c a_count a_row_n a_row_c x5 (x4 - x5)).bind fun r2 => (some (o_slotMask, r2.1, r2.2, o_slots_c))) else ((f_X2_noteAndFind K o_slotMask o_slots_n o_slots_c a_count a_row_n a_row_c x6).bind fun r4 => (if r4.1 = (-1 : Int32) then (f_X2_pressBlock_b29 K o_block_row_n o_slots_n a_count a_row_n a_row_c p2 p3 n o_slotMask o_block_count o_block_row_c r4.2 x4 x5 (x6 + (1 : Int32))) else (if x6 < x5 then (f_X2_pressBlock_b29 K o_block_row_n o_slots_n a_count a_row_n a_row_c p2 p3 n o_slotMask o_block_count o_block_row_c r4.2 x4 x5 (x6 + (1 : Int32))) else ((f_X2_countAlike K a_count a_row_n a_row_c r4.1 x6 x4).bind fun r8 => ((f_X2_putLiteral K o_block_count o_block_row_n o_block_row_c a_count a_row_n a_row_c x5 (x6 - x5)).bind fun r10 => ((f_X2_putCopies K r10.1 o_block_row_n r10.2 r8 (x6 - r4.1)).bind fun r12 => (f_X2_pressBlock_b29 K o_block_row_n o_slots_n a_count a_row_n a_row_c p2 p3 n o_slotMask r12.1 r12.2 r4.2 x4 (x6 + r8) (x6 + (1 : Int32))))))))))

/-- SnapHouse$Presser.pressBlock(LSnapHouse$Bytes;II)V -/
def f_X2_pressBlock (K : Nat) (o_slotMask : Int32) (o_block_count : Int32) (o_block_row_n : Nat) (o_block_row_c : Nat → Int32) (o_slots_n : Nat) (o_slots_c : Nat → Int32) (a_count : Int32) (a_row_n : Nat) (a_row_c : Nat → Int32) (p2 : Int32) (p3 : Int32) : Option (Int32 × Int32 × (Nat → Int32) × (Nat → Int32)) := ((f_X1_shorten K o_block_count (0 : Int32)).bind fun r1 => ((f_X2_putLength K r1 o_block_row_n o_block_row_c p3).bind fun r3 => ((f_X2_freeSlots K o_slotMask o_slots_n o_slots_c p3).bind fun r5 => (f_X2_pressBlock_b29 K o_block_row_n o_slots_n a_count a_row_n a_row_c p2 p3 K r5.1 r3.1 r3.2 r5.2 (p2 + p3) p2 p2))))

/-- SnapHouse.press()I -/
def f_X6_press (K : Nat) (o_theTape_count : Int32) (o_theTape_row_n : Nat) (o_theTape_row_c : Nat → Int32) (o_theOut_count : Int32) (o_theOut_row_n : Nat) (o_theOut_row_c : Nat → Int32) (o_presser_slotMask : Int32) (o_presser_block_count : Int32) (o_presser_block_row_n : Nat) (o_presser_block_row_c : Nat → Int32) (o_presser_slots_n : Nat) (o_presser_slots_c : Nat → Int32) : Option (Int32 × Int32 × (Nat → Int32) × Int32 × Int32 × (Nat → Int32) × (Nat → Int32)) := ((f_X2_pressBlock K o_presser_slotMask o_presser_block_count o_presser_block_row_n o_presser_block_row_c o_presser_slots_n o_presser_slots_c o_theTape_count o_theTape_row_n o_theTape_row_c (0 : Int32) o_theTape_count).bind fun r1 => ((f_X1_become K o_theOut_count o_theOut_row_n o_theOut_row_c r1.2.1 o_presser_block_row_n r1.2.2.1).bind fun r3 => (some (r3.1, r3.1, r3.2, r1.1, r1.2.1, r1.2.2.1, r1.2.2.2))))

/-- SnapHouse$Rows.clear()V -/
def f_X3_clear (K : Nat) (o_count : Int32) (o_marked : Int32) : Option (Int32 × Int32) := (some ((0 : Int32), (0 : Int32)))

/-- SnapHouse$BlockOpener.fail(II)V -/
def f_X0_fail (K : Nat) (o_fault : Int32) (o_place : Int32) (o_start : Int32) (p1 : Int32) (p2 : Int32) : Option (Int32 × Int32) := (some (p1, (p2 - o_start)))

def f_X0_readLength_b99 (K : Nat) (o_start : Int32) (o_end : Int32) (a_count : Int32) (a_row_n : Nat) (a_row_c : Nat → Int32) (o_fault : Int32) (o_place : Int32) (o_next : Int32) (o_length : Int32) : Option (Int32 × Int32 × Int32 × Int32) := ((f_X0_fail K o_fault o_place o_start (1 : Int32) o_start).bind fun r1 => (some (r1.1, r1.2, o_next, o_length)))

def f_X0_readLength_b86 (K : Nat) (o_start : Int32) (o_end : Int32) (a_count : Int32) (a_row_n : Nat) (a_row_c : Nat → Int32) (o_fault : Int32) (o_place : Int32) (o_next : Int32) (o_length : Int32) (x2 : Int64) (x4 : Int32) : Option (Int32 × Int32 × Int32 × Int32) := (if x4 = 0 then (f_X0_readLength_b99 K o_start o_end a_count a_row_n a_row_c o_fault o_place o_next o_length) else (if (lg_cmp x2 (4294967296 : Int64)) < 0 then (if (lg_cmp x2 (20000 : Int64)) ≤ 0 then (some (o_fault, o_place, o_next, (x2.toInt32))) else ((f_X0_fail K o_fault o_place o_start (2 : Int32) o_start).bind fun r4 => (some (r4.1, r4.2, o_next, o_length)))) else (f_X0_readLength_b99 K o_start o_end a_count a_row_n a_row_c o_fault o_place o_next o_length)))

def f_X0_readLength_b8 (K : Nat) (o_start : Int32) (o_end : Int32) (a_count : Int32) (a_row_n : Nat) (a_row_c : Nat → Int32) : Nat → Int32 → Int32 → Int32 → Int32 → Int64 → Int32 → Int32 → Option (Int32 × Int32 × Int32 × Int32)
  | 0, _, _, _, _, _, _, _ => none
  | n + 1, o_fault, o_place, o_next, o_length, x2, x4, x5 => (if (5 : Int32) ≤ x5 then (f_X0_readLength_b86 K o_start o_end a_count a_row_n a_row_c o_fault o_place o_next o_length x2 x4) else (if o_end ≤ o_next then (f_X0_readLength_b86 K o_start o_end a_count a_row_n a_row_c o_fault o_place o_next o_length x2 x4) else (if x4 = 0 then ((f_X1_at K a_count a_row_n a_row_c o_next).bind fun r4 => (if (128 : Int32) ≤ r4 then (f_X0_readLength_b8 K o_start o_end a_count a_row_n a_row_c n o_fault o_place (o_next + (1 : Int32)) o_length (x2 ||| (((r4 &&& (127 : Int32)).toInt64) <<< (((7 : Int32) * x5).toInt64 &&& 63))) (0 : Int32) (x5 + (1 : Int32))) else (f_X0_readLength_b8 K o_start o_end a_count a_row_n a_row_c n o_fault o_place (o_next + (1 : Int32)) o_length (x2 ||| (((r4 &&& (127 : Int32)).toInt64) <<< (((7 : Int32) * x5).toInt64 &&& 63))) (1 : Int32) (x5 + (1 : Int32))))) else (f_X0_readLength_b86 K o_start o_end a_count a_row_n a_row_c o_fault o_place o_next o_length x2 x4))))

/-- SnapHouse$BlockOpener.readLength(LSnapHouse$Bytes;)V -/
def f_X0_readLength (K : Nat) (o_fault : Int32) (o_place : Int32) (o_start : Int32) (o_end : Int32) (o_next : Int32) (o_length : Int32) (a_count : Int32) (a_row_n : Nat) (a_row_c : Nat → Int32) : Option (Int32 × Int32 × Int32 × Int32) := (f_X0_readLength_b8 K o_start o_end a_count a_row_n a_row_c K o_fault o_place o_next o_length (0 : Int64) (0 : Int32) (0 : Int32))

/-- SnapHouse$BlockOpener.bytesBehindTag(II)I -/
def f_X0_bytesBehindTag (K : Nat) (p0 : Int32) (p1 : Int32) : Option (Int32) := (if p0 = (0 : Int32) then (if (60 : Int32) ≤ p1 then (some (p1 - (59 : Int32))) else (some (0 : Int32))) else (if p0 = (1 : Int32) then (some (1 : Int32)) else (if p0 = (2 : Int32) then (some (2 : Int32)) else (some (4 : Int32)))))

def f_X1_lowestFirst_b5 (K : Nat) (o_count : Int32) (o_row_n : Nat) (o_row_c : Nat → Int32) (p1 : Int32) (p2 : Int32) : Nat → Int64 → Int32 → Option (Int64)
  | 0, _, _ => none
  | n + 1, x3, x5 => (if p2 ≤ x5 then (some x3) else ((f_X1_at K o_count o_row_n o_row_c (p1 + x5)).bind fun r2 => (f_X1_lowestFirst_b5 K o_count o_row_n o_row_c p1 p2 n (x3 ||| ((r2.toInt64) <<< (((8 : Int32) * x5).toInt64 &&& 63))) (x5 + (1 : Int32)))))

/-- SnapHouse$Bytes.lowestFirst(II)J -/
def f_X1_lowestFirst (K : Nat) (o_count : Int32) (o_row_n : Nat) (o_row_c : Nat → Int32) (p1 : Int32) (p2 : Int32) : Option (Int64) := (f_X1_lowestFirst_b5 K o_count o_row_n o_row_c p1 p2 K (0 : Int64) (0 : Int32))

/-- SnapHouse$BlockOpener.sizeOf(IIJ)J -/
def f_X0_sizeOf (K : Nat) (p0 : Int32) (p1 : Int32) (p2 : Int64) : Option (Int64) := (if p0 = (0 : Int32) then (if (60 : Int32) ≤ p1 then (some (p2 + (1 : Int64))) else (some ((p1 + (1 : Int32)).toInt64))) else (if p0 = (1 : Int32) then (some (((p1 &&& (7 : Int32)) + (4 : Int32)).toInt64)) else (some ((p1 + (1 : Int32)).toInt64))))

/-- SnapHouse$BlockOpener.backOf(IIJ)J -/
def f_X0_backOf (K : Nat) (p0 : Int32) (p1 : Int32) (p2 : Int64) : Option (Int64) := (if p0 = (0 : Int32) then (some (0 : Int64)) else (if p0 = (1 : Int32) then (some ((((p1 >>> ((3 : Int32) &&& 31)) * (256 : Int32)).toInt64) + p2)) else (some p2)))

/-- SnapHouse$BlockOpener.readElement(LSnapHouse$Bytes;)V -/
def f_X0_readElement (K : Nat) (o_fault : Int32) (o_place : Int32) (o_start : Int32) (o_end : Int32) (o_next : Int32) (o_sort : Int32) (o_body : Int32) (o_size : Int64) (o_back : Int64) (a_count : Int32) (a_row_n : Nat) (a_row_c : Nat → Int32) : Option (Int32 × Int32 × Int32 × Int32 × Int64 × Int64) := ((f_X1_at K a_count a_row_n a_row_c o_next).bind fun r1 => ((f_X0_bytesBehindTag K (r1 &&& (3 : Int32)) (r1 >>> ((2 : Int32) &&& 31))).bind fun r3 => (if ((o_next + (1 : Int32)) + r3) ≤ o_end then ((f_X1_lowestFirst K a_count a_row_n a_row_c (o_next + (1 : Int32)) r3).bind fun r6 => ((f_X0_sizeOf K (r1 &&& (3 : Int32)) (r1 >>> ((2 : Int32) &&& 31)) r6).bind fun r8 => ((f_X0_backOf K (r1 &&& (3 : Int32)) (r1 >>> ((2 : Int32) &&& 31)) r6).bind fun r10 => (some (o_fault, o_place, (r1 &&& (3 : Int32)), ((o_next + (1 : Int32)) + r3), r8, r10))))) else ((f_X0_fail K o_fault o_place o_start (3 : Int32) o_next).bind fun r12 => (some (r12.1, r12.2, (r1 &&& (3 : Int32)), ((o_next + (1 : Int32)) + r3), o_size, o_back))))))

def f_X0_checkElement_b81 (K : Nat) (o_start : Int32) (o_end : Int32) (o_next : Int32) (o_length : Int32) (o_sort : Int32) (o_body : Int32) (o_size : Int64) (o_back : Int64) (o_given_count : Int32) (o_fault : Int32) (o_place : Int32) : Option (Int32 × Int32) := (if (lg_cmp o_size ((o_length - o_given_count).toInt64)) ≤ 0 then (some (o_fault, o_place)) else ((f_X0_fail K o_fault o_place o_start (5 : Int32) o_next).bind fun r2 => (some (r2.1, r2.2))))

def f_X0_checkElement_b69 (K : Nat) (o_start : Int32) (o_end : Int32) (o_next : Int32) (o_length : Int32) (o_sort : Int32) (o_body : Int32) (o_size : Int64) (o_back : Int64) (o_given_count : Int32) (o_fault : Int32) (o_place : Int32) : Option (Int32 × Int32) := ((f_X0_fail K o_fault o_place o_start (4 : Int32) o_next).bind fun r1 => (some (r1.1, r1.2)))

def f_X0_checkElement_b37 (K : Nat) (o_start : Int32) (o_end : Int32) (o_next : Int32) (o_length : Int32) (o_sort : Int32) (o_body : Int32) (o_size : Int64) (o_back : Int64) (o_given_count : Int32) (o_fault : Int32) (o_place : Int32) : Option (Int32 × Int32) := (if o_sort = 0 then (f_X0_checkElement_b81 K o_start o_end o_next o_length o_sort o_body o_size o_back o_given_count o_fault o_place) else (if (lg_cmp o_back (0 : Int64)) = 0 then (f_X0_checkElement_b69 K o_start o_end o_next o_length o_sort o_body o_size o_back o_given_count o_fault o_place) else (if (lg_cmp o_back (o_given_count.toInt64)) ≤ 0 then (f_X0_checkElement_b81 K o_start o_end o_next o_length o_sort o_body o_size o_back o_given_count o_fault o_place) else (f_X0_checkElement_b69 K o_start o_end o_next o_length o_sort o_body o_size o_back o_given_count o_fault o_place))))

/-- SnapHouse$BlockOpener.checkElement()V -/
def f_X0_checkElement (K : Nat) (o_fault : Int32) (o_place : Int32) (o_start : Int32) (o_end : Int32) (o_next : Int32) (o_length : Int32) (o_sort : Int32) (o_body : Int32) (o_size : Int64) (o_back : Int64) (o_given_count : Int32) : Option (Int32 × Int32) := (if o_sort = 0 then (if (lg_cmp o_size ((o_end - o_body).toInt64)) ≤ 0 then (f_X0_checkElement_b37 K o_start o_end o_next o_length o_sort o_body o_size o_back o_given_count o_fault o_place) else ((f_X0_fail K o_fault o_place o_start (3 : Int32) o_next).bind fun r3 => (some (r3.1, r3.2)))) else (f_X0_checkElement_b37 K o_start o_end o_next o_length o_sort o_body o_size o_back o_given_count o_fault o_place))

def f_X3_add_b68 (K : Nat) (o_cells_n : Nat) (p1 : Int32) (p2 : Int32) (p3 : Int32) (p4 : Int32) (p5 : Int32) (p6 : Int32) (o_count : Int32) (o_marked : Int32) (o_cells_c : Nat → Int32) : Option (Int32 × Int32 × (Nat → Int32)) := (if p6 = 0 then (some ((o_count + (1 : Int32)), o_marked, o_cells_c)) else (some ((o_count + (1 : Int32)), (o_marked + (1 : Int32)), o_cells_c)))

/-- SnapHouse$Rows.add(IIIIIZ)V -/
def f_X3_add (K : Nat) (o_count : Int32) (o_marked : Int32) (o_cells_n : Nat) (o_cells_c : Nat → Int32) (p1 : Int32) (p2 : Int32) (p3 : Int32) (p4 : Int32) (p5 : Int32) (p6 : Int32) : Option (Int32 × Int32 × (Nat → Int32)) := (if (1000 : Int32) ≤ o_count then (f_X3_add_b68 K o_cells_n p1 p2 p3 p4 p5 p6 o_count o_marked o_cells_c) else (ck (o_count * (5 : Int32)) o_cells_n (ck ((o_count * (5 : Int32)) + (1 : Int32)) o_cells_n (ck ((o_count * (5 : Int32)) + (2 : Int32)) o_cells_n (ck ((o_count * (5 : Int32)) + (3 : Int32)) o_cells_n (ck ((o_count * (5 : Int32)) + (4 : Int32)) o_cells_n (f_X3_add_b68 K o_cells_n p1 p2 p3 p4 p5 p6 o_count o_marked (upd (upd (upd (upd (upd o_cells_c (o_count * (5 : Int32)).toNatClampNeg p1) ((o_count * (5 : Int32)) + (1 : Int32)).toNatClampNeg p2) ((o_count * (5 : Int32)) + (2 : Int32)).toNatClampNeg p3) ((o_count * (5 : Int32)) + (3 : Int32)).toNatClampNeg p4) ((o_count * (5 : Int32)) + (4 : Int32)).toNatClampNeg p5))))))))

def f_X0_giveElement_b50 (K : Nat) (o_start : Int32) (o_sort : Int32) (o_body : Int32) (o_size : Int64) (o_back : Int64) (o_given_row_n : Nat) (o_elements_cells_n : Nat) (a_count : Int32) (a_row_n : Nat) (a_row_c : Nat → Int32) (o_next : Int32) (o_given_count : Int32) (o_given_row_c : Nat → Int32) (o_elements_count : Int32) (o_elements_marked : Int32) (o_elements_cells_c : Nat → Int32) (x2 : Int32) (x3 : Int32) (t0 : Int32) (t1 : Int32) (t2 : Int32) (t3 : Int32) (t4 : Int32) (t5 : Int32) : Option (Int32 × Int32 × (Nat → Int32) × Int32 × Int32 × (Nat → Int32)) := ((f_X3_add K o_elements_count o_elements_marked o_elements_cells_n o_elements_cells_c t5 t4 t3 t2 t1 t0).bind fun r1 => (if o_sort = 0 then ((f_X1_putAll K o_given_count o_given_row_n o_given_row_c a_count a_row_n a_row_c o_body x2).bind fun r6 => (some ((o_body + x2), r6.1, r6.2, r1.1, r1.2.1, r1.2.2))) else ((f_X1_putOwn K o_given_count o_given_row_n o_given_row_c (o_given_count - x3) x2).bind fun r4 => (some (o_body, r4.1, r4.2, r1.1, r1.2.1, r1.2.2)))))

/-- SnapHouse$BlockOpener.giveElement(LSnapHouse$Bytes;)V -/
def f_X0_giveElement (K : Nat) (o_start : Int32) (o_next : Int32) (o_sort : Int32) (o_body : Int32) (o_size : Int64) (o_back : Int64) (o_given_count : Int32) (o_given_row_n : Nat) (o_given_row_c : Nat → Int32) (o_elements_count : Int32) (o_elements_marked : Int32) (o_elements_cells_n : Nat) (o_elements_cells_c : Nat → Int32) (a_count : Int32) (a_row_n : Nat) (a_row_c : Nat → Int32) : Option (Int32 × Int32 × (Nat → Int32) × Int32 × Int32 × (Nat → Int32)) := (if o_sort = 0 then (f_X0_giveElement_b50 K o_start o_sort o_body o_size o_back o_given_row_n o_elements_cells_n a_count a_row_n a_row_c o_next o_given_count o_given_row_c o_elements_count o_elements_marked o_elements_cells_c (o_size.toInt32) (o_back.toInt32) (1 : Int32) o_given_count (o_back.toInt32) (o_size.toInt32) (o_next - o_start) o_sort) else (f_X0_giveElement_b50 K o_start o_sort o_body o_size o_back o_given_row_n o_elements_cells_n a_count a_row_n a_row_c o_next o_given_count o_given_row_c o_elements_count o_elements_marked o_elements_cells_c (o_size.toInt32) (o_back.toInt32) (0 : Int32) o_given_count (o_back.toInt32) (o_size.toInt32) (o_next - o_start) o_sort))

def f_X0_openBlock_b108 (K : Nat) (o_given_row_n : Nat) (o_elements_cells_n : Nat) (a_count : Int32) (a_row_n : Nat) (a_row_c : Nat → Int32) (p2 : Int32) (p3 : Int32) (o_fault : Int32) (o_place : Int32) (o_start : Int32) (o_end : Int32) (o_next : Int32) (o_length : Int32) (o_sort : Int32) (o_body : Int32) (o_size : Int64) (o_back : Int64) (o_given_count : Int32) (o_given_row_c : Nat → Int32) (o_elements_count : Int32) (o_elements_marked : Int32) (o_elements_cells_c : Nat → Int32) : Option (Int32 × Int32 × Int32 × Int32 × Int32 × Int32 × Int32 × Int32 × Int64 × Int64 × Int32 × (Nat → Int32) × Int32 × Int32 × (Nat → Int32)) := (if o_fault = 0 then (if o_length ≤ o_given_count then (some (o_fault, o_place, o_start, o_end, o_next, o_length, o_sort, o_body, o_size, o_back, o_given_count, o_given_row_c, o_elements_count, o_elements_marked, o_elements_cells_c)) else ((f_X0_fail K o_fault o_place o_start (6 : Int32) o_end).bind fun r3 => (some (r3.1, r3.2, o_start, o_end, o_next, o_length, o_sort, o_body, o_size, o_back, o_given_count, o_given_row_c, o_elements_count, o_elements_marked, o_elements_cells_c)))) else (some (o_fault, o_place, o_start, o_end, o_next, o_length, o_sort, o_body, o_size, o_back, o_given_count, o_given_row_c, o_elements_count, o_elements_marked, o_elements_cells_c)))

def f_X0_openBlock_b90 (K : Nat) (o_given_row_n : Nat) (o_elements_cells_n : Nat) (a_count : Int32) (a_row_n : Nat) (a_row_c : Nat → Int32) (p2 : Int32) (p3 : Int32) (k50 : Int32 → Int32 → Int32 → Int32 → Int32 → Int32 → Int32 → Int32 → Int64 → Int64 → Int32 → (Nat → Int32) → Int32 → Int32 → (Nat → Int32) → Int32 → Option (Int32 × Int32 × Int32 × Int32 × Int32 × Int32 × Int32 × Int32 × Int64 × Int64 × Int32 × (Nat → Int32) × Int32 × Int32 × (Nat → Int32))) (o_fault : Int32) (o_place : Int32) (o_start : Int32) (o_end : Int32) (o_next : Int32) (o_length : Int32) (o_sort : Int32) (o_body : Int32) (o_size : Int64) (o_back : Int64) (o_given_count : Int32) (o_given_row_c : Nat → Int32) (o_elements_count : Int32) (o_elements_marked : Int32) (o_elements_cells_c : Nat → Int32) (x4 : Int32) : Option (Int32 × Int32 × Int32 × Int32 × Int32 × Int32 × Int32 × Int32 × Int64 × Int64 × Int32 × (Nat → Int32) × Int32 × Int32 × (Nat → Int32)) := (if o_fault = 0 then ((f_X0_giveElement K o_start o_next o_sort o_body o_size o_back o_given_count o_given_row_n o_given_row_c o_elements_count o_elements_marked o_elements_cells_n o_elements_cells_c a_count a_row_n a_row_c).bind fun r2 => (k50 o_fault o_place o_start o_end r2.1 o_length o_sort o_body o_size o_back r2.2.1 r2.2.2.1 r2.2.2.2.1 r2.2.2.2.2.1 r2.2.2.2.2.2 (x4 + (1 : Int32)))) else (k50 o_fault o_place o_start o_end o_next o_length o_sort o_body o_size o_back o_given_count o_given_row_c o_elements_count o_elements_marked o_elements_cells_c (x4 + (1 : Int32))))

def f_X0_openBlock_b50 (K : Nat) (o_given_row_n : Nat) (o_elements_cells_n : Nat) (a_count : Int32) (a_row_n : Nat) (a_row_c : Nat → Int32) (p2 : Int32) (p3 : Int32) : Nat → Int32 → Int32 → Int32 → Int32 → Int32 → Int32 → Int32 → Int32 → Int64 → Int64 → Int32 → (Nat → Int32) → Int32 → Int32 → (Nat → Int32) → Int32 → Option (Int32 × Int32 × Int32 × Int32 × Int32 × Int32 × Int32 × Int32 × Int64 × Int64 × Int32 × (Nat → Int32) × Int32 × Int32 × (Nat → Int32))
  | 0, _, _, _, _, _, _, _, _, _, _, _, _, _, _, _, _ => none
  | n + 1, o_fault, o_place, o_start, o_end, o_next, o_length, o_sort, o_body, o_size, o_back, o_given_count, o_given_row_c, o_elements_count, o_elements_marked, o_elements_cells_c, x4 => (if p3 ≤ x4 then (f_X0_openBlock_b108 K o_given_row_n o_elements_cells_n a_count a_row_n a_row_c p2 p3 o_fault o_place o_start o_end o_next o_length o_sort o_body o_size o_back o_given_count o_given_row_c o_elements_count o_elements_marked o_elements_cells_c) else (if o_end ≤ o_next then (f_X0_openBlock_b108 K o_given_row_n o_elements_cells_n a_count a_row_n a_row_c p2 p3 o_fault o_place o_start o_end o_next o_length o_sort o_body o_size o_back o_given_count o_given_row_c o_elements_count o_elements_marked o_elements_cells_c) else (if o_fault = 0 then ((f_X0_readElement K o_fault o_place o_start o_end o_next o_sort o_body o_size o_back a_count a_row_n a_row_c).bind fun r4 => (if r4.1 = 0 then ((f_X0_checkElement K r4.1 r4.2.1 o_start o_end o_next o_length r4.2.2.1 r4.2.2.2.1 r4.2.2.2.2.1 r4.2.2.2.2.2 o_given_count).bind fun r7 => (f_X0_openBlock_b90 K o_given_row_n o_elements_cells_n a_count a_row_n a_row_c p2 p3 (f_X0_openBlock_b50 K o_given_row_n o_elements_cells_n a_count a_row_n a_row_c p2 p3 n) r7.1 r7.2 o_start o_end o_next o_length r4.2.2.1 r4.2.2.2.1 r4.2.2.2.2.1 r4.2.2.2.2.2 o_given_count o_given_row_c o_elements_count o_elements_marked o_elements_cells_c x4)) else (f_X0_openBlock_b90 K o_given_row_n o_elements_cells_n a_count a_row_n a_row_c p2 p3 (f_X0_openBlock_b50 K o_given_row_n o_elements_cells_n a_count a_row_n a_row_c p2 p3 n) r4.1 r4.2.1 o_start o_end o_next o_length r4.2.2.1 r4.2.2.2.1 r4.2.2.2.2.1 r4.2.2.2.2.2 o_given_count o_given_row_c o_elements_count o_elements_marked o_elements_cells_c x4))) else (f_X0_openBlock_b108 K o_given_row_n o_elements_cells_n a_count a_row_n a_row_c p2 p3 o_fault o_place o_start o_end o_next o_length o_sort o_body o_size o_back o_given_count o_given_row_c o_elements_count o_elements_marked o_elements_cells_c))))

/-- SnapHouse$BlockOpener.openBlock(LSnapHouse$Bytes;II)V -/
def f_X0_openBlock (K : Nat) (o_fault : Int32) (o_place : Int32) (o_start : Int32) (o_end : Int32) (o_next : Int32) (o_length : Int32) (o_sort : Int32) (o_body : Int32) (o_size : Int64) (o_back : Int64) (o_given_count : Int32) (o_given_row_n : Nat) (o_given_row_c : Nat → Int32) (o_elements_count : Int32) (o_elements_marked : Int32) (o_elements_cells_n : Nat) (o_elements_cells_c : Nat → Int32) (a_count : Int32) (a_row_n : Nat) (a_row_c : Nat → Int32) (p2 : Int32) (p3 : Int32) : Option (Int32 × Int32 × Int32 × Int32 × Int32 × Int32 × Int32 × Int32 × Int64 × Int64 × Int32 × (Nat → Int32) × Int32 × Int32 × (Nat → Int32)) := ((f_X1_shorten K o_given_count (0 : Int32)).bind fun r1 => ((f_X3_clear K o_elements_count o_elements_marked).bind fun r3 => ((f_X0_readLength K (0 : Int32) (-1 : Int32) p2 (p2 + p3) p2 o_length a_count a_row_n a_row_c).bind fun r5 => (f_X0_openBlock_b50 K o_given_row_n o_elements_cells_n a_count a_row_n a_row_c p2 p3 K r5.1 r5.2.1 p2 (p2 + p3) r5.2.2.1 r5.2.2.2 o_sort o_body o_size o_back r1 o_given_row_c r3.1 r3.2 o_elements_cells_c (0 : Int32)))))

/-- SnapHouse.keepFault(IIII)V -/
def f_X6_keepFault (K : Nat) (o_faultNumber : Int32) (o_faultPlace : Int32) (o_faultOfBlock : Int32) (o_faultPlaceInBlock : Int32) (p1 : Int32) (p2 : Int32) (p3 : Int32) (p4 : Int32) : Option (Int32 × Int32 × Int32 × Int32) := (some (p1, p2, p3, p4))

/-- SnapHouse$Rows.become(LSnapHouse$Rows;)V -/
def f_X3_become (K : Nat) (o_count : Int32) (o_marked : Int32) (o_cells_n : Nat) (o_cells_c : Nat → Int32) (a_count : Int32) (a_marked : Int32) (a_cells_n : Nat) (a_cells_c : Nat → Int32) : Option (Int32 × Int32 × (Nat → Int32)) := (ckc (0 : Int32) (0 : Int32) ((if (1000 : Int32) < a_count then (1000 : Int32) else a_count) * (5 : Int32)) a_cells_n o_cells_n (some (a_count, a_marked, (va_cpy a_cells_c o_cells_c (0 : Int32).toNatClampNeg (0 : Int32).toNatClampNeg ((if (1000 : Int32) < a_count then (1000 : Int32) else a_count) * (5 : Int32)).toNatClampNeg))))

/-- SnapHouse.open()I -/
def f_X6_open (K : Nat) (o_faultNumber : Int32) (o_faultPlace : Int32) (o_faultOfBlock : Int32) (o_faultPlaceInBlock : Int32) (o_theTape_count : Int32) (o_theTape_row_n : Nat) (o_theTape_row_c : Nat → Int32) (o_theOut_count : Int32) (o_theOut_row_n : Nat) (o_theOut_row_c : Nat → Int32) (o_blockOpener_fault : Int32) (o_blockOpener_place : Int32) (o_blockOpener_start : Int32) (o_blockOpener_end : Int32) (o_blockOpener_next : Int32) (o_blockOpener_length : Int32) (o_blockOpener_sort : Int32) (o_blockOpener_body : Int32) (o_blockOpener_size : Int64) (o_blockOpener_back : Int64) (o_blockOpener_given_count : Int32) (o_blockOpener_given_row_n : Nat) (o_blockOpener_given_row_c : Nat → Int32) (o_blockOpener_elements_count : Int32) (o_blockOpener_elements_marked : Int32) (o_blockOpener_elements_cells_n : Nat) (o_blockOpener_elements_cells_c : Nat → Int32) (o_keptElements_count : Int32) (o_keptElements_marked : Int32) (o_keptElements_cells_n : Nat) (o_keptElements_cells_c : Nat → Int32) : Option (Int32 × Int32 × Int32 × Int32 × Int32 × Int32 × (Nat → Int32) × Int32 × Int32 × Int32 × Int32 × Int32 × Int32 × Int32 × Int32 × Int64 × Int64 × Int32 × (Nat → Int32) × Int32 × Int32 × (Nat → Int32) × Int32 × Int32 × (Nat → Int32)) := ((f_X0_openBlock K o_blockOpener_fault o_blockOpener_place o_blockOpener_start o_blockOpener_end o_blockOpener_next o_blockOpener_length o_blockOpener_sort o_blockOpener_body o_blockOpener_size o_blockOpener_back o_blockOpener_given_count o_blockOpener_given_row_n o_blockOpener_given_row_c o_blockOpener_elements_count o_blockOpener_elements_marked o_blockOpener_elements_cells_n o_blockOpener_elements_cells_c o_theTape_count o_theTape_row_n o_theTape_row_c (0 : Int32) o_theTape_count).bind fun r1 => ((f_X6_keepFault K o_faultNumber o_faultPlace o_faultOfBlock o_faultPlaceInBlock r1.1 r1.2.1 (0 : Int32) (-1 : Int32)).bind fun r3 => (if r1.1 = 0 then ((f_X1_become K o_theOut_count o_theOut_row_n o_theOut_row_c r1.2.2.2.2.2.2.2.2.2.2.1 o_blockOpener_given_row_n r1.2.2.2.2.2.2.2.2.2.2.2.1).bind fun r6 => ((f_X3_become K o_keptElements_count o_keptElements_marked o_keptElements_cells_n o_keptElements_cells_c r1.2.2.2.2.2.2.2.2.2.2.2.2.1 r1.2.2.2.2.2.2.2.2.2.2.2.2.2.1 o_blockOpener_elements_cells_n r1.2.2.2.2.2.2.2.2.2.2.2.2.2.2).bind fun r8 => (some (r6.1, r3.1, r3.2.1, r3.2.2.1, r3.2.2.2, r6.1, r6.2, r1.1, r1.2.1, r1.2.2.1, r1.2.2.2.1, r1.2.2.2.2.1, r1.2.2.2.2.2.1, r1.2.2.2.2.2.2.1, r1.2.2.2.2.2.2.2.1, r1.2.2.2.2.2.2.2.2.1, r1.2.2.2.2.2.2.2.2.2.1, r1.2.2.2.2.2.2.2.2.2.2.1, r1.2.2.2.2.2.2.2.2.2.2.2.1, r1.2.2.2.2.2.2.2.2.2.2.2.2.1, r1.2.2.2.2.2.2.2.2.2.2.2.2.2.1, r1.2.2.2.2.2.2.2.2.2.2.2.2.2.2, r8.1, r8.2.1, r8.2.2)))) else (some ((-2 : Int32), r3.1, r3.2.1, r3.2.2.1, r3.2.2.2, o_theOut_count, o_theOut_row_c, r1.1, r1.2.1, r1.2.2.1, r1.2.2.2.1, r1.2.2.2.2.1, r1.2.2.2.2.2.1, r1.2.2.2.2.2.2.1, r1.2.2.2.2.2.2.2.1, r1.2.2.2.2.2.2.2.2.1, r1.2.2.2.2.2.2.2.2.2.1, r1.2.2.2.2.2.2.2.2.2.2.1, r1.2.2.2.2.2.2.2.2.2.2.2.1, r1.2.2.2.2.2.2.2.2.2.2.2.2.1, r1.2.2.2.2.2.2.2.2.2.2.2.2.2.1, r1.2.2.2.2.2.2.2.2.2.2.2.2.2.2, o_keptElements_count, o_keptElements_marked, o_keptElements_cells_c)))))

/-- SnapHouse$StreamMaker.putHeader(II)V -/
def f_X4_putHeader (K : Nat) (o_made_count : Int32) (o_made_row_n : Nat) (o_made_row_c : Nat → Int32) (p1 : Int32) (p2 : Int32) : Option (Int32 × (Nat → Int32)) := ((f_X1_put K o_made_count o_made_row_n o_made_row_c p1).bind fun r1 => ((f_X1_putLowestFirst K r1.1 o_made_row_n r1.2 p2 (3 : Int32)).bind fun r3 => (some (r3.1, r3.2))))

def f_X1_crc_b16 (K : Nat) (o_count : Int32) (o_row_n : Nat) (o_row_c : Nat → Int32) (p1 : Int32) (p2 : Int32) : Nat → Int32 → Int32 → Option (Int32)
  | 0, _, _ => none
  | n + 1, x3, x4 => (if p2 ≤ x4 then (some (x3 ^^^ (-1 : Int32))) else (ck (p1 + x4) o_row_n (ck ((x3 ^^^ (o_row_c (p1 + x4).toNatClampNeg)) &&& (15 : Int32)) 16 (ck (((ushr (x3 ^^^ (o_row_c (p1 + x4).toNatClampNeg)) (4 : Int32)) ^^^ (tb_C.getD ((x3 ^^^ (o_row_c (p1 + x4).toNatClampNeg)) &&& (15 : Int32)).toNatClampNeg 0)) &&& (15 : Int32)) 16 (f_X1_crc_b16 K o_count o_row_n o_row_c p1 p2 n ((ushr ((ushr (x3 ^^^ (o_row_c (p1 + x4).toNatClampNeg)) (4 : Int32)) ^^^ (tb_C.getD ((x3 ^^^ (o_row_c (p1 + x4).toNatClampNeg)) &&& (15 : Int32)).toNatClampNeg 0)) (4 : Int32)) ^^^ (tb_C.getD (((ushr (x3 ^^^ (o_row_c (p1 + x4).toNatClampNeg)) (4 : Int32)) ^^^ (tb_C.getD ((x3 ^^^ (o_row_c (p1 + x4).toNatClampNeg)) &&& (15 : Int32)).toNatClampNeg 0)) &&& (15 : Int32)).toNatClampNeg 0)) (x4 + (1 : Int32)))))))

/-- SnapHouse$Bytes.crc(II)I -/
def f_X1_crc (K : Nat) (o_count : Int32) (o_row_n : Nat) (o_row_c : Nat → Int32) (p1 : Int32) (p2 : Int32) : Option (Int32) := ((f_X1_has K o_count p1 p2).bind fun r1 => (if r1 = 0 then (some (0 : Int32)) else (f_X1_crc_b16 K o_count o_row_n o_row_c p1 p2 K (-1 : Int32) (0 : Int32))))

/-- java/lang/Integer.rotateLeft(II)I -/
def f_J6_rotateLeft_7cf53 (K : Nat) (p0 : Int32) (p1 : Int32) : Option (Int32) := (some ((p0 <<< (p1 &&& 31)) ||| (ushr p0 (-p1))))

/-- SnapHouse$Bytes.maskedCrc(II)I -/
def f_X1_maskedCrc (K : Nat) (o_count : Int32) (o_row_n : Nat) (o_row_c : Nat → Int32) (p1 : Int32) (p2 : Int32) : Option (Int32) := ((f_X1_crc K o_count o_row_n o_row_c p1 p2).bind fun r1 => ((f_J6_rotateLeft_7cf53 K r1 (17 : Int32)).bind fun r3 => (some (r3 + (-1568478504 : Int32)))))

def f_X4_putPiece_b66 (K : Nat) (o_made_row_n : Nat) (a_count : Int32) (a_row_n : Nat) (a_row_c : Nat → Int32) (b_count : Int32) (b_row_n : Nat) (b_row_c : Nat → Int32) (p2 : Int32) (p3 : Int32) (o_made_count : Int32) (o_made_row_c : Nat → Int32) (x5 : Int32) (x6 : Int32) (t0 : Int32) : Option (Int32 × Int32 × (Nat → Int32)) := ((f_X4_putHeader K o_made_count o_made_row_n o_made_row_c t0 x6).bind fun r1 => ((f_X1_maskedCrc K a_count a_row_n a_row_c p2 p3).bind fun r3 => ((f_X1_putLowestFirst K r1.1 o_made_row_n r1.2 r3 (4 : Int32)).bind fun r5 => (if x5 = 0 then ((f_X1_putAll K r5.1 o_made_row_n r5.2 a_count a_row_n a_row_c p2 p3).bind fun r8 => (some ((1 : Int32), r8.1, r8.2))) else ((f_X1_putAll K r5.1 o_made_row_n r5.2 b_count b_row_n b_row_c (0 : Int32) b_count).bind fun r10 => (some ((1 : Int32), r10.1, r10.2)))))))

def f_X4_putPiece_b36 (K : Nat) (o_made_row_n : Nat) (a_count : Int32) (a_row_n : Nat) (a_row_c : Nat → Int32) (b_count : Int32) (b_row_n : Nat) (b_row_c : Nat → Int32) (p2 : Int32) (p3 : Int32) (o_made_count : Int32) (o_made_row_c : Nat → Int32) (x5 : Int32) (t0 : Int32) (t1 : Int32) : Option (Int32 × Int32 × (Nat → Int32)) := ((f_X1_hasRoomFor K o_made_count o_made_row_n ((4 : Int32) + (t1 + t0))).bind fun r1 => (if r1 = 0 then (some ((0 : Int32), o_made_count, o_made_row_c)) else (if x5 = 0 then (f_X4_putPiece_b66 K o_made_row_n a_count a_row_n a_row_c b_count b_row_n b_row_c p2 p3 o_made_count o_made_row_c x5 (t1 + t0) (1 : Int32)) else (f_X4_putPiece_b66 K o_made_row_n a_count a_row_n a_row_c b_count b_row_n b_row_c p2 p3 o_made_count o_made_row_c x5 (t1 + t0) (0 : Int32)))))

def f_X4_putPiece_b19 (K : Nat) (o_made_row_n : Nat) (a_count : Int32) (a_row_n : Nat) (a_row_c : Nat → Int32) (b_count : Int32) (b_row_n : Nat) (b_row_c : Nat → Int32) (p2 : Int32) (p3 : Int32) (o_made_count : Int32) (o_made_row_c : Nat → Int32) (t0 : Int32) : Option (Int32 × Int32 × (Nat → Int32)) := (if t0 = 0 then (f_X4_putPiece_b36 K o_made_row_n a_count a_row_n a_row_c b_count b_row_n b_row_c p2 p3 o_made_count o_made_row_c t0 p3 (4 : Int32)) else (f_X4_putPiece_b36 K o_made_row_n a_count a_row_n a_row_c b_count b_row_n b_row_c p2 p3 o_made_count o_made_row_c t0 b_count (4 : Int32)))

/-- SnapHouse$StreamMaker.putPiece(LSnapHouse$Bytes;IILSnapHouse$Bytes;)Z -/
def f_X4_putPiece (K : Nat) (o_made_count : Int32) (o_made_row_n : Nat) (o_made_row_c : Nat → Int32) (a_count : Int32) (a_row_n : Nat) (a_row_c : Nat → Int32) (b_count : Int32) (b_row_n : Nat) (b_row_c : Nat → Int32) (p2 : Int32) (p3 : Int32) : Option (Int32 × Int32 × (Nat → Int32)) := (if (p3 - (p3 / (8 : Int32))) ≤ b_count then (f_X4_putPiece_b19 K o_made_row_n a_count a_row_n a_row_c b_count b_row_n b_row_c p2 p3 o_made_count o_made_row_c (0 : Int32)) else (f_X4_putPiece_b19 K o_made_row_n a_count a_row_n a_row_c b_count b_row_n b_row_c p2 p3 o_made_count o_made_row_c (1 : Int32)))

def f_X4_makeStream_b69 (K : Nat) (o_made_row_n : Nat) (a_count : Int32) (a_row_n : Nat) (a_row_c : Nat → Int32) (b_block_row_n : Nat) (b_slots_n : Nat) (p2 : Int32) : Nat → Int32 → (Nat → Int32) → Int32 → Int32 → (Nat → Int32) → (Nat → Int32) → Int32 → Int32 → Option (Int32 × Int32 × (Nat → Int32) × Int32 × Int32 × (Nat → Int32) × (Nat → Int32))
  | 0, _, _, _, _, _, _, _, _ => none
  | n + 1, o_made_count, o_made_row_c, b_slotMask, b_block_count, b_block_row_c, b_slots_c, x4, x5 => (if a_count ≤ x5 then (some ((1 : Int32), o_made_count, o_made_row_c, b_slotMask, b_block_count, b_block_row_c, b_slots_c)) else ((f_X2_pressBlock K b_slotMask b_block_count b_block_row_n b_block_row_c b_slots_n b_slots_c a_count a_row_n a_row_c x5 (if (a_count - x5) < x4 then (a_count - x5) else x4)).bind fun r2 => ((f_X4_putPiece K o_made_count o_made_row_n o_made_row_c a_count a_row_n a_row_c r2.2.1 b_block_row_n r2.2.2.1 x5 (if (a_count - x5) < x4 then (a_count - x5) else x4)).bind fun r4 => (if r4.1 = 0 then (some ((0 : Int32), r4.2.1, r4.2.2, r2.1, r2.2.1, r2.2.2.1, r2.2.2.2)) else (f_X4_makeStream_b69 K o_made_row_n a_count a_row_n a_row_c b_block_row_n b_slots_n p2 n r4.2.1 r4.2.2 r2.1 r2.2.1 r2.2.2.1 r2.2.2.2 x4 (x5 + x4))))))

def f_X4_makeStream_b30 (K : Nat) (o_made_row_n : Nat) (a_count : Int32) (a_row_n : Nat) (a_row_c : Nat → Int32) (b_block_row_n : Nat) (b_slots_n : Nat) (p2 : Int32) : Nat → Int32 → (Nat → Int32) → Int32 → Int32 → (Nat → Int32) → (Nat → Int32) → Int32 → Int32 → Option (Int32 × Int32 × (Nat → Int32) × Int32 × Int32 × (Nat → Int32) × (Nat → Int32))
  | 0, _, _, _, _, _, _, _, _ => none
  | n + 1, o_made_count, o_made_row_c, b_slotMask, b_block_count, b_block_row_c, b_slots_c, x5, x6 => (if x5 ≤ x6 then (f_X4_makeStream_b69 K o_made_row_n a_count a_row_n a_row_c b_block_row_n b_slots_n p2 K o_made_count o_made_row_c b_slotMask b_block_count b_block_row_c b_slots_c (if p2 < (1 : Int32) then (1 : Int32) else p2) (0 : Int32)) else (ck x6 6 ((f_X1_put K o_made_count o_made_row_n o_made_row_c (tb_N.getD x6.toNatClampNeg 0)).bind fun r3 => (f_X4_makeStream_b30 K o_made_row_n a_count a_row_n a_row_c b_block_row_n b_slots_n p2 n r3.1 r3.2 b_slotMask b_block_count b_block_row_c b_slots_c x5 (x6 + (1 : Int32))))))

/-- SnapHouse$StreamMaker.makeStream(LSnapHouse$Bytes;ILSnapHouse$Presser;)Z -/
def f_X4_makeStream (K : Nat) (o_made_count : Int32) (o_made_row_n : Nat) (o_made_row_c : Nat → Int32) (a_count : Int32) (a_row_n : Nat) (a_row_c : Nat → Int32) (b_slotMask : Int32) (b_block_count : Int32) (b_block_row_n : Nat) (b_block_row_c : Nat → Int32) (b_slots_n : Nat) (b_slots_c : Nat → Int32) (p2 : Int32) : Option (Int32 × Int32 × (Nat → Int32) × Int32 × Int32 × (Nat → Int32) × (Nat → Int32)) := ((f_X1_shorten K o_made_count (0 : Int32)).bind fun r1 => ((f_X4_putHeader K r1 o_made_row_n o_made_row_c (255 : Int32) (6 : Int32)).bind fun r3 => (f_X4_makeStream_b30 K o_made_row_n a_count a_row_n a_row_c b_block_row_n b_slots_n p2 K r3.1 r3.2 b_slotMask b_block_count b_block_row_c b_slots_c (Int32.ofNat 6) (0 : Int32))))

/-- SnapHouse.stream(I)I -/
def f_X6_stream (K : Nat) (o_theTape_count : Int32) (o_theTape_row_n : Nat) (o_theTape_row_c : Nat → Int32) (o_theOut_count : Int32) (o_theOut_row_n : Nat) (o_theOut_row_c : Nat → Int32) (o_presser_slotMask : Int32) (o_presser_block_count : Int32) (o_presser_block_row_n : Nat) (o_presser_block_row_c : Nat → Int32) (o_presser_slots_n : Nat) (o_presser_slots_c : Nat → Int32) (o_streamMaker_made_count : Int32) (o_streamMaker_made_row_n : Nat) (o_streamMaker_made_row_c : Nat → Int32) (p1 : Int32) : Option (Int32 × Int32 × (Nat → Int32) × Int32 × Int32 × (Nat → Int32) × (Nat → Int32) × Int32 × (Nat → Int32)) := (if p1 < (1 : Int32) then (some ((-1 : Int32), o_theOut_count, o_theOut_row_c, o_presser_slotMask, o_presser_block_count, o_presser_block_row_c, o_presser_slots_c, o_streamMaker_made_count, o_streamMaker_made_row_c)) else (if p1 ≤ (20000 : Int32) then ((f_X4_makeStream K o_streamMaker_made_count o_streamMaker_made_row_n o_streamMaker_made_row_c o_theTape_count o_theTape_row_n o_theTape_row_c o_presser_slotMask o_presser_block_count o_presser_block_row_n o_presser_block_row_c o_presser_slots_n o_presser_slots_c p1).bind fun r3 => (if r3.1 = 0 then (some ((-1 : Int32), o_theOut_count, o_theOut_row_c, r3.2.2.2.1, r3.2.2.2.2.1, r3.2.2.2.2.2.1, r3.2.2.2.2.2.2, r3.2.1, r3.2.2.1)) else ((f_X1_become K o_theOut_count o_theOut_row_n o_theOut_row_c r3.2.1 o_streamMaker_made_row_n r3.2.2.1).bind fun r6 => (some (r6.1, r6.1, r6.2, r3.2.2.2.1, r3.2.2.2.2.1, r3.2.2.2.2.2.1, r3.2.2.2.2.2.2, r3.2.1, r3.2.2.1))))) else (some ((-1 : Int32), o_theOut_count, o_theOut_row_c, o_presser_slotMask, o_presser_block_count, o_presser_block_row_c, o_presser_slots_c, o_streamMaker_made_count, o_streamMaker_made_row_c))))

/-- SnapHouse$StreamOpener.fail(I)V -/
def f_X5_fail (K : Nat) (o_fault : Int32) (o_place : Int32) (o_next : Int32) (p1 : Int32) : Option (Int32 × Int32) := (some (p1, o_next))

/-- SnapHouse$StreamOpener.readHeader(LSnapHouse$Bytes;)V -/
def f_X5_readHeader (K : Nat) (o_fault : Int32) (o_place : Int32) (o_next : Int32) (o_type : Int32) (o_body : Int32) (o_size : Int32) (a_count : Int32) (a_row_n : Nat) (a_row_c : Nat → Int32) : Option (Int32 × Int32 × Int32 × Int32 × Int32) := (if (o_next + (4 : Int32)) ≤ a_count then ((f_X1_at K a_count a_row_n a_row_c o_next).bind fun r2 => ((f_X1_lowestFirst K a_count a_row_n a_row_c (o_next + (1 : Int32)) (3 : Int32)).bind fun r4 => (if (r4.toInt32) ≤ (a_count - (o_next + (4 : Int32))) then (some (o_fault, o_place, r2, (o_next + (4 : Int32)), (r4.toInt32))) else ((f_X5_fail K o_fault o_place o_next (12 : Int32)).bind fun r7 => (some (r7.1, r7.2, r2, (o_next + (4 : Int32)), (r4.toInt32))))))) else ((f_X5_fail K o_fault o_place o_next (12 : Int32)).bind fun r9 => (some (r9.1, r9.2, o_type, (o_next + (4 : Int32)), o_size))))

/-- SnapHouse$StreamOpener.tellsBytes()Z -/
def f_X5_tellsBytes (K : Nat) (o_type : Int32) : Option (Int32) := (if o_type = 0 then (some (1 : Int32)) else (if o_type = (1 : Int32) then (some (1 : Int32)) else (some (0 : Int32))))

def f_X5_isName_b65 (K : Nat) (o_body : Int32) (o_size : Int32) (a_count : Int32) (a_row_n : Nat) (a_row_c : Nat → Int32) (k33 : Int32 → Int32 → Int32 → Int32 → Option (Int32)) (x3 : Int32) (x5 : Int32) (x6 : Int32) : Option (Int32) := (k33 (0 : Int32) (x3 + (1 : Int32)) x5 (x6 + (1 : Int32)))

def f_X5_isName_b33 (K : Nat) (o_body : Int32) (o_size : Int32) (a_count : Int32) (a_row_n : Nat) (a_row_c : Nat → Int32) : Nat → Int32 → Int32 → Int32 → Int32 → Option (Int32)
  | 0, _, _, _, _ => none
  | n + 1, x2, x3, x5, x6 => (if x5 ≤ x6 then (ckb x2 (some x2)) else (ck x6 6 (if x2 = 0 then (f_X5_isName_b65 K o_body o_size a_count a_row_n a_row_c (f_X5_isName_b33 K o_body o_size a_count a_row_n a_row_c n) x3 x5 x6) else ((f_X1_at K a_count a_row_n a_row_c x3).bind fun r5 => (if r5 = (tb_N.getD x6.toNatClampNeg 0) then (f_X5_isName_b33 K o_body o_size a_count a_row_n a_row_c n (1 : Int32) (x3 + (1 : Int32)) x5 (x6 + (1 : Int32))) else (f_X5_isName_b65 K o_body o_size a_count a_row_n a_row_c (f_X5_isName_b33 K o_body o_size a_count a_row_n a_row_c n) x3 x5 x6))))))

def f_X5_isName_b14 (K : Nat) (o_body : Int32) (o_size : Int32) (a_count : Int32) (a_row_n : Nat) (a_row_c : Nat → Int32) (t0 : Int32) : Option (Int32) := (f_X5_isName_b33 K o_body o_size a_count a_row_n a_row_c K t0 o_body (Int32.ofNat 6) (0 : Int32))

/-- SnapHouse$StreamOpener.isName(LSnapHouse$Bytes;)Z -/
def f_X5_isName (K : Nat) (o_body : Int32) (o_size : Int32) (a_count : Int32) (a_row_n : Nat) (a_row_c : Nat → Int32) : Option (Int32) := (if o_size = (6 : Int32) then (f_X5_isName_b14 K o_body o_size a_count a_row_n a_row_c (1 : Int32)) else (f_X5_isName_b14 K o_body o_size a_count a_row_n a_row_c (0 : Int32)))

/-- SnapHouse$StreamOpener.checkChunk(LSnapHouse$Bytes;)V -/
def f_X5_checkChunk (K : Nat) (o_fault : Int32) (o_place : Int32) (o_next : Int32) (o_type : Int32) (o_body : Int32) (o_size : Int32) (a_count : Int32) (a_row_n : Nat) (a_row_c : Nat → Int32) : Option (Int32 × Int32) := (if o_type = (255 : Int32) then ((f_X5_isName K o_body o_size a_count a_row_n a_row_c).bind fun r11 => (if r11 = 0 then ((f_X5_fail K o_fault o_place o_next (13 : Int32)).bind fun r14 => (some (r14.1, r14.2))) else (some (o_fault, o_place)))) else ((f_X5_tellsBytes K o_type).bind fun r2 => (if r2 = 0 then (if (128 : Int32) ≤ o_type then (some (o_fault, o_place)) else ((f_X5_fail K o_fault o_place o_next (14 : Int32)).bind fun r6 => (some (r6.1, r6.2)))) else (if (4 : Int32) ≤ o_size then (some (o_fault, o_place)) else ((f_X5_fail K o_fault o_place o_next (15 : Int32)).bind fun r9 => (some (r9.1, r9.2)))))))

/-- SnapHouse$StreamOpener.give(LSnapHouse$Bytes;LSnapHouse$Bytes;II)V -/
def f_X5_give (K : Nat) (o_fault : Int32) (o_place : Int32) (o_next : Int32) (o_body : Int32) (o_given_count : Int32) (o_given_row_n : Nat) (o_given_row_c : Nat → Int32) (a_count : Int32) (a_row_n : Nat) (a_row_c : Nat → Int32) (b_count : Int32) (b_row_n : Nat) (b_row_c : Nat → Int32) (p3 : Int32) (p4 : Int32) : Option (Int32 × Int32 × Int32 × (Nat → Int32)) := ((f_X1_hasRoomFor K o_given_count o_given_row_n p4).bind fun r1 => (if r1 = 0 then ((f_X5_fail K o_fault o_place o_next (17 : Int32)).bind fun r13 => (some (r13.1, r13.2, o_given_count, o_given_row_c))) else ((f_X1_lowestFirst K a_count a_row_n a_row_c o_body (4 : Int32)).bind fun r4 => ((f_X1_maskedCrc K b_count b_row_n b_row_c p3 p4).bind fun r6 => (if (r4.toInt32) = r6 then ((f_X1_putAll K o_given_count o_given_row_n o_given_row_c b_count b_row_n b_row_c p3 p4).bind fun r9 => (some (o_fault, o_place, r9.1, r9.2))) else ((f_X5_fail K o_fault o_place o_next (18 : Int32)).bind fun r11 => (some (r11.1, r11.2, o_given_count, o_given_row_c))))))))
end
section
/-- SnapHouse$StreamOpener.give(LSnapHouse$Bytes;LSnapHouse$Bytes;II)V -/
def f_X5_give_same (K : Nat) (o_fault : Int32) (o_place : Int32) (o_next : Int32) (o_body : Int32) (o_given_count : Int32) (o_given_row_n : Nat) (o_given_row_c : Nat → Int32) (a_count : Int32) (a_row_n : Nat) (a_row_c : Nat → Int32) (p3 : Int32) (p4 : Int32) : Option (Int32 × Int32 × Int32 × (Nat → Int32)) := ((f_X1_hasRoomFor K o_given_count o_given_row_n p4).bind fun r1 => (if r1 = 0 then ((f_X5_fail K o_fault o_place o_next (17 : Int32)).bind fun r13 => (some (r13.1, r13.2, o_given_count, o_given_row_c))) else ((f_X1_lowestFirst K a_count a_row_n a_row_c o_body (4 : Int32)).bind fun r4 => ((f_X1_maskedCrc K a_count a_row_n a_row_c p3 p4).bind fun r6 => (if (r4.toInt32) = r6 then ((f_X1_putAll K o_given_count o_given_row_n o_given_row_c a_count a_row_n a_row_c p3 p4).bind fun r9 => (some (o_fault, o_place, r9.1, r9.2))) else ((f_X5_fail K o_fault o_place o_next (18 : Int32)).bind fun r11 => (some (r11.1, r11.2, o_given_count, o_given_row_c))))))))

/-- SnapHouse$StreamOpener.openBytes(LSnapHouse$Bytes;LSnapHouse$BlockOpener;)V -/
def f_X5_openBytes (K : Nat) (o_fault : Int32) (o_place : Int32) (o_next : Int32) (o_type : Int32) (o_body : Int32) (o_size : Int32) (o_given_count : Int32) (o_given_row_n : Nat) (o_given_row_c : Nat → Int32) (a_count : Int32) (a_row_n : Nat) (a_row_c : Nat → Int32) (b_fault : Int32) (b_place : Int32) (b_start : Int32) (b_end : Int32) (b_next : Int32) (b_length : Int32) (b_sort : Int32) (b_body : Int32) (b_size : Int64) (b_back : Int64) (b_given_count : Int32) (b_given_row_n : Nat) (b_given_row_c : Nat → Int32) (b_elements_count : Int32) (b_elements_marked : Int32) (b_elements_cells_n : Nat) (b_elements_cells_c : Nat → Int32) : Option (Int32 × Int32 × Int32 × (Nat → Int32) × Int32 × Int32 × Int32 × Int32 × Int32 × Int32 × Int32 × Int32 × Int64 × Int64 × Int32 × (Nat → Int32) × Int32 × Int32 × (Nat → Int32)) := (if o_type = (1 : Int32) then ((f_X5_give_same K o_fault o_place o_next o_body o_given_count o_given_row_n o_given_row_c a_count a_row_n a_row_c (o_body + (4 : Int32)) (o_size - (4 : Int32))).bind fun r9 => (some (r9.1, r9.2.1, r9.2.2.1, r9.2.2.2, b_fault, b_place, b_start, b_end, b_next, b_length, b_sort, b_body, b_size, b_back, b_given_count, b_given_row_c, b_elements_count, b_elements_marked, b_elements_cells_c))) else ((f_X0_openBlock K b_fault b_place b_start b_end b_next b_length b_sort b_body b_size b_back b_given_count b_given_row_n b_given_row_c b_elements_count b_elements_marked b_elements_cells_n b_elements_cells_c a_count a_row_n a_row_c (o_body + (4 : Int32)) (o_size - (4 : Int32))).bind fun r2 => (if r2.1 = 0 then ((f_X5_give K o_fault o_place o_next o_body o_given_count o_given_row_n o_given_row_c a_count a_row_n a_row_c r2.2.2.2.2.2.2.2.2.2.2.1 b_given_row_n r2.2.2.2.2.2.2.2.2.2.2.2.1 (0 : Int32) r2.2.2.2.2.2.2.2.2.2.2.1).bind fun r5 => (some (r5.1, r5.2.1, r5.2.2.1, r5.2.2.2, r2.1, r2.2.1, r2.2.2.1, r2.2.2.2.1, r2.2.2.2.2.1, r2.2.2.2.2.2.1, r2.2.2.2.2.2.2.1, r2.2.2.2.2.2.2.2.1, r2.2.2.2.2.2.2.2.2.1, r2.2.2.2.2.2.2.2.2.2.1, r2.2.2.2.2.2.2.2.2.2.2.1, r2.2.2.2.2.2.2.2.2.2.2.2.1, r2.2.2.2.2.2.2.2.2.2.2.2.2.1, r2.2.2.2.2.2.2.2.2.2.2.2.2.2.1, r2.2.2.2.2.2.2.2.2.2.2.2.2.2.2))) else ((f_X5_fail K o_fault o_place o_next (16 : Int32)).bind fun r7 => (some (r7.1, r7.2, o_given_count, o_given_row_c, r2.1, r2.2.1, r2.2.2.1, r2.2.2.2.1, r2.2.2.2.2.1, r2.2.2.2.2.2.1, r2.2.2.2.2.2.2.1, r2.2.2.2.2.2.2.2.1, r2.2.2.2.2.2.2.2.2.1, r2.2.2.2.2.2.2.2.2.2.1, r2.2.2.2.2.2.2.2.2.2.2.1, r2.2.2.2.2.2.2.2.2.2.2.2.1, r2.2.2.2.2.2.2.2.2.2.2.2.2.1, r2.2.2.2.2.2.2.2.2.2.2.2.2.2.1, r2.2.2.2.2.2.2.2.2.2.2.2.2.2.2))))))

def f_X5_keepChunk_b25 (K : Nat) (o_type : Int32) (o_body : Int32) (o_size : Int32) (o_given_count : Int32) (o_chunks_cells_n : Nat) (p1 : Int32) (o_next : Int32) (o_chunks_count : Int32) (o_chunks_marked : Int32) (o_chunks_cells_c : Nat → Int32) (t0 : Int32) : Option (Int32 × Int32 × Int32 × (Nat → Int32)) := ((f_X3_add K o_chunks_count o_chunks_marked o_chunks_cells_n o_chunks_cells_c o_type o_next o_size (o_given_count - p1) p1 t0).bind fun r1 => (some ((o_body + o_size), r1.1, r1.2.1, r1.2.2)))

def f_X5_keepChunk_b24 (K : Nat) (o_type : Int32) (o_body : Int32) (o_size : Int32) (o_given_count : Int32) (o_chunks_cells_n : Nat) (p1 : Int32) (o_next : Int32) (o_chunks_count : Int32) (o_chunks_marked : Int32) (o_chunks_cells_c : Nat → Int32) : Option (Int32 × Int32 × Int32 × (Nat → Int32)) := (f_X5_keepChunk_b25 K o_type o_body o_size o_given_count o_chunks_cells_n p1 o_next o_chunks_count o_chunks_marked o_chunks_cells_c (0 : Int32))

/-- SnapHouse$StreamOpener.keepChunk(I)V -/
def f_X5_keepChunk (K : Nat) (o_next : Int32) (o_type : Int32) (o_body : Int32) (o_size : Int32) (o_given_count : Int32) (o_chunks_count : Int32) (o_chunks_marked : Int32) (o_chunks_cells_n : Nat) (o_chunks_cells_c : Nat → Int32) (p1 : Int32) : Option (Int32 × Int32 × Int32 × (Nat → Int32)) := (if o_type < (128 : Int32) then (f_X5_keepChunk_b24 K o_type o_body o_size o_given_count o_chunks_cells_n p1 o_next o_chunks_count o_chunks_marked o_chunks_cells_c) else (if (255 : Int32) ≤ o_type then (f_X5_keepChunk_b24 K o_type o_body o_size o_given_count o_chunks_cells_n p1 o_next o_chunks_count o_chunks_marked o_chunks_cells_c) else (f_X5_keepChunk_b25 K o_type o_body o_size o_given_count o_chunks_cells_n p1 o_next o_chunks_count o_chunks_marked o_chunks_cells_c (1 : Int32))))

def f_X5_openStream_b121 (K : Nat) (o_given_row_n : Nat) (o_chunks_cells_n : Nat) (a_count : Int32) (a_row_n : Nat) (a_row_c : Nat → Int32) (b_given_row_n : Nat) (b_elements_cells_n : Nat) (k49 : Int32 → Int32 → Int32 → Int32 → Int32 → Int32 → Int32 → (Nat → Int32) → Int32 → Int32 → (Nat → Int32) → Int32 → Int32 → Int32 → Int32 → Int32 → Int32 → Int32 → Int32 → Int64 → Int64 → Int32 → (Nat → Int32) → Int32 → Int32 → (Nat → Int32) → Int32 → Option (Int32 × Int32 × Int32 × Int32 × Int32 × Int32 × Int32 × (Nat → Int32) × Int32 × Int32 × (Nat → Int32) × Int32 × Int32 × Int32 × Int32 × Int32 × Int32 × Int32 × Int32 × Int64 × Int64 × Int32 × (Nat → Int32) × Int32 × Int32 × (Nat → Int32))) (o_fault : Int32) (o_place : Int32) (o_next : Int32) (o_type : Int32) (o_body : Int32) (o_size : Int32) (o_given_count : Int32) (o_given_row_c : Nat → Int32) (o_chunks_count : Int32) (o_chunks_marked : Int32) (o_chunks_cells_c : Nat → Int32) (b_fault : Int32) (b_place : Int32) (b_start : Int32) (b_end : Int32) (b_next : Int32) (b_length : Int32) (b_sort : Int32) (b_body : Int32) (b_size : Int64) (b_back : Int64) (b_given_count : Int32) (b_given_row_c : Nat → Int32) (b_elements_count : Int32) (b_elements_marked : Int32) (b_elements_cells_c : Nat → Int32) (x3 : Int32) (x4 : Int32) : Option (Int32 × Int32 × Int32 × Int32 × Int32 × Int32 × Int32 × (Nat → Int32) × Int32 × Int32 × (Nat → Int32) × Int32 × Int32 × Int32 × Int32 × Int32 × Int32 × Int32 × Int32 × Int64 × Int64 × Int32 × (Nat → Int32) × Int32 × Int32 × (Nat → Int32)) := (if o_fault = 0 then ((f_X5_keepChunk K o_next o_type o_body o_size o_given_count o_chunks_count o_chunks_marked o_chunks_cells_n o_chunks_cells_c x4).bind fun r2 => (k49 o_fault o_place r2.1 o_type o_body o_size o_given_count o_given_row_c r2.2.1 r2.2.2.1 r2.2.2.2 b_fault b_place b_start b_end b_next b_length b_sort b_body b_size b_back b_given_count b_given_row_c b_elements_count b_elements_marked b_elements_cells_c (x3 + (1 : Int32)))) else (k49 o_fault o_place o_next o_type o_body o_size o_given_count o_given_row_c o_chunks_count o_chunks_marked o_chunks_cells_c b_fault b_place b_start b_end b_next b_length b_sort b_body b_size b_back b_given_count b_given_row_c b_elements_count b_elements_marked b_elements_cells_c (x3 + (1 : Int32))))

def f_X5_openStream_b101 (K : Nat) (o_given_row_n : Nat) (o_chunks_cells_n : Nat) (a_count : Int32) (a_row_n : Nat) (a_row_c : Nat → Int32) (b_given_row_n : Nat) (b_elements_cells_n : Nat) (k49 : Int32 → Int32 → Int32 → Int32 → Int32 → Int32 → Int32 → (Nat → Int32) → Int32 → Int32 → (Nat → Int32) → Int32 → Int32 → Int32 → Int32 → Int32 → Int32 → Int32 → Int32 → Int64 → Int64 → Int32 → (Nat → Int32) → Int32 → Int32 → (Nat → Int32) → Int32 → Option (Int32 × Int32 × Int32 × Int32 × Int32 × Int32 × Int32 × (Nat → Int32) × Int32 × Int32 × (Nat → Int32) × Int32 × Int32 × Int32 × Int32 × Int32 × Int32 × Int32 × Int32 × Int64 × Int64 × Int32 × (Nat → Int32) × Int32 × Int32 × (Nat → Int32))) (o_fault : Int32) (o_place : Int32) (o_next : Int32) (o_type : Int32) (o_body : Int32) (o_size : Int32) (o_given_count : Int32) (o_given_row_c : Nat → Int32) (o_chunks_count : Int32) (o_chunks_marked : Int32) (o_chunks_cells_c : Nat → Int32) (b_fault : Int32) (b_place : Int32) (b_start : Int32) (b_end : Int32) (b_next : Int32) (b_length : Int32) (b_sort : Int32) (b_body : Int32) (b_size : Int64) (b_back : Int64) (b_given_count : Int32) (b_given_row_c : Nat → Int32) (b_elements_count : Int32) (b_elements_marked : Int32) (b_elements_cells_c : Nat → Int32) (x3 : Int32) (x4 : Int32) : Option (Int32 × Int32 × Int32 × Int32 × Int32 × Int32 × Int32 × (Nat → Int32) × Int32 × Int32 × (Nat → Int32) × Int32 × Int32 × Int32 × Int32 × Int32 × Int32 × Int32 × Int32 × Int64 × Int64 × Int32 × (Nat → Int32) × Int32 × Int32 × (Nat → Int32)) := (if o_fault = 0 then ((f_X5_tellsBytes K o_type).bind fun r2 => (if r2 = 0 then (f_X5_openStream_b121 K o_given_row_n o_chunks_cells_n a_count a_row_n a_row_c b_given_row_n b_elements_cells_n k49 o_fault o_place o_next o_type o_body o_size o_given_count o_given_row_c o_chunks_count o_chunks_marked o_chunks_cells_c b_fault b_place b_start b_end b_next b_length b_sort b_body b_size b_back b_given_count b_given_row_c b_elements_count b_elements_marked b_elements_cells_c x3 x4) else ((f_X5_openBytes K o_fault o_place o_next o_type o_body o_size o_given_count o_given_row_n o_given_row_c a_count a_row_n a_row_c b_fault b_place b_start b_end b_next b_length b_sort b_body b_size b_back b_given_count b_given_row_n b_given_row_c b_elements_count b_elements_marked b_elements_cells_n b_elements_cells_c).bind fun r5 => (f_X5_openStream_b121 K o_given_row_n o_chunks_cells_n a_count a_row_n a_row_c b_given_row_n b_elements_cells_n k49 r5.1 r5.2.1 o_next o_type o_body o_size r5.2.2.1 r5.2.2.2.1 o_chunks_count o_chunks_marked o_chunks_cells_c r5.2.2.2.2.1 r5.2.2.2.2.2.1 r5.2.2.2.2.2.2.1 r5.2.2.2.2.2.2.2.1 r5.2.2.2.2.2.2.2.2.1 r5.2.2.2.2.2.2.2.2.2.1 r5.2.2.2.2.2.2.2.2.2.2.1 r5.2.2.2.2.2.2.2.2.2.2.2.1 r5.2.2.2.2.2.2.2.2.2.2.2.2.1 r5.2.2.2.2.2.2.2.2.2.2.2.2.2.1 r5.2.2.2.2.2.2.2.2.2.2.2.2.2.2.1 r5.2.2.2.2.2.2.2.2.2.2.2.2.2.2.2.1 r5.2.2.2.2.2.2.2.2.2.2.2.2.2.2.2.2.1 r5.2.2.2.2.2.2.2.2.2.2.2.2.2.2.2.2.2.1 r5.2.2.2.2.2.2.2.2.2.2.2.2.2.2.2.2.2.2 x3 x4)))) else (f_X5_openStream_b121 K o_given_row_n o_chunks_cells_n a_count a_row_n a_row_c b_given_row_n b_elements_cells_n k49 o_fault o_place o_next o_type o_body o_size o_given_count o_given_row_c o_chunks_count o_chunks_marked o_chunks_cells_c b_fault b_place b_start b_end b_next b_length b_sort b_body b_size b_back b_given_count b_given_row_c b_elements_count b_elements_marked b_elements_cells_c x3 x4))

def f_X5_openStream_b49 (K : Nat) (o_given_row_n : Nat) (o_chunks_cells_n : Nat) (a_count : Int32) (a_row_n : Nat) (a_row_c : Nat → Int32) (b_given_row_n : Nat) (b_elements_cells_n : Nat) : Nat → Int32 → Int32 → Int32 → Int32 → Int32 → Int32 → Int32 → (Nat → Int32) → Int32 → Int32 → (Nat → Int32) → Int32 → Int32 → Int32 → Int32 → Int32 → Int32 → Int32 → Int32 → Int64 → Int64 → Int32 → (Nat → Int32) → Int32 → Int32 → (Nat → Int32) → Int32 → Option (Int32 × Int32 × Int32 × Int32 × Int32 × Int32 × Int32 × (Nat → Int32) × Int32 × Int32 × (Nat → Int32) × Int32 × Int32 × Int32 × Int32 × Int32 × Int32 × Int32 × Int32 × Int64 × Int64 × Int32 × (Nat → Int32) × Int32 × Int32 × (Nat → Int32))
  | 0, _, _, _, _, _, _, _, _, _, _, _, _, _, _, _, _, _, _, _, _, _, _, _, _, _, _, _ => none
  | n + 1, o_fault, o_place, o_next, o_type, o_body, o_size, o_given_count, o_given_row_c, o_chunks_count, o_chunks_marked, o_chunks_cells_c, b_fault, b_place, b_start, b_end, b_next, b_length, b_sort, b_body, b_size, b_back, b_given_count, b_given_row_c, b_elements_count, b_elements_marked, b_elements_cells_c, x3 => (if a_count ≤ x3 then (some (o_fault, o_place, o_next, o_type, o_body, o_size, o_given_count, o_given_row_c, o_chunks_count, o_chunks_marked, o_chunks_cells_c, b_fault, b_place, b_start, b_end, b_next, b_length, b_sort, b_body, b_size, b_back, b_given_count, b_given_row_c, b_elements_count, b_elements_marked, b_elements_cells_c)) else (if a_count ≤ o_next then (some (o_fault, o_place, o_next, o_type, o_body, o_size, o_given_count, o_given_row_c, o_chunks_count, o_chunks_marked, o_chunks_cells_c, b_fault, b_place, b_start, b_end, b_next, b_length, b_sort, b_body, b_size, b_back, b_given_count, b_given_row_c, b_elements_count, b_elements_marked, b_elements_cells_c)) else (if o_fault = 0 then ((f_X5_readHeader K o_fault o_place o_next o_type o_body o_size a_count a_row_n a_row_c).bind fun r4 => (if r4.1 = 0 then ((f_X5_checkChunk K r4.1 r4.2.1 o_next r4.2.2.1 r4.2.2.2.1 r4.2.2.2.2 a_count a_row_n a_row_c).bind fun r7 => (f_X5_openStream_b101 K o_given_row_n o_chunks_cells_n a_count a_row_n a_row_c b_given_row_n b_elements_cells_n (f_X5_openStream_b49 K o_given_row_n o_chunks_cells_n a_count a_row_n a_row_c b_given_row_n b_elements_cells_n n) r7.1 r7.2 o_next r4.2.2.1 r4.2.2.2.1 r4.2.2.2.2 o_given_count o_given_row_c o_chunks_count o_chunks_marked o_chunks_cells_c b_fault b_place b_start b_end b_next b_length b_sort b_body b_size b_back b_given_count b_given_row_c b_elements_count b_elements_marked b_elements_cells_c x3 o_given_count)) else (f_X5_openStream_b101 K o_given_row_n o_chunks_cells_n a_count a_row_n a_row_c b_given_row_n b_elements_cells_n (f_X5_openStream_b49 K o_given_row_n o_chunks_cells_n a_count a_row_n a_row_c b_given_row_n b_elements_cells_n n) r4.1 r4.2.1 o_next r4.2.2.1 r4.2.2.2.1 r4.2.2.2.2 o_given_count o_given_row_c o_chunks_count o_chunks_marked o_chunks_cells_c b_fault b_place b_start b_end b_next b_length b_sort b_body b_size b_back b_given_count b_given_row_c b_elements_count b_elements_marked b_elements_cells_c x3 o_given_count))) else (some (o_fault, o_place, o_next, o_type, o_body, o_size, o_given_count, o_given_row_c, o_chunks_count, o_chunks_marked, o_chunks_cells_c, b_fault, b_place, b_start, b_end, b_next, b_length, b_sort, b_body, b_size, b_back, b_given_count, b_given_row_c, b_elements_count, b_elements_marked, b_elements_cells_c)))))

/-- SnapHouse$StreamOpener.openStream(LSnapHouse$Bytes;LSnapHouse$BlockOpener;)V -/
def f_X5_openStream (K : Nat) (o_fault : Int32) (o_place : Int32) (o_next : Int32) (o_type : Int32) (o_body : Int32) (o_size : Int32) (o_given_count : Int32) (o_given_row_n : Nat) (o_given_row_c : Nat → Int32) (o_chunks_count : Int32) (o_chunks_marked : Int32) (o_chunks_cells_n : Nat) (o_chunks_cells_c : Nat → Int32) (a_count : Int32) (a_row_n : Nat) (a_row_c : Nat → Int32) (b_fault : Int32) (b_place : Int32) (b_start : Int32) (b_end : Int32) (b_next : Int32) (b_length : Int32) (b_sort : Int32) (b_body : Int32) (b_size : Int64) (b_back : Int64) (b_given_count : Int32) (b_given_row_n : Nat) (b_given_row_c : Nat → Int32) (b_elements_count : Int32) (b_elements_marked : Int32) (b_elements_cells_n : Nat) (b_elements_cells_c : Nat → Int32) : Option (Int32 × Int32 × Int32 × Int32 × Int32 × Int32 × Int32 × (Nat → Int32) × Int32 × Int32 × (Nat → Int32) × Int32 × Int32 × Int32 × Int32 × Int32 × Int32 × Int32 × Int32 × Int64 × Int64 × Int32 × (Nat → Int32) × Int32 × Int32 × (Nat → Int32)) := ((f_X1_shorten K o_given_count (0 : Int32)).bind fun r1 => ((f_X3_clear K o_chunks_count o_chunks_marked).bind fun r3 => ((f_X1_at K a_count a_row_n a_row_c (0 : Int32)).bind fun r5 => (if r5 = (255 : Int32) then (f_X5_openStream_b49 K o_given_row_n o_chunks_cells_n a_count a_row_n a_row_c b_given_row_n b_elements_cells_n K (0 : Int32) (-1 : Int32) (0 : Int32) o_type o_body o_size r1 o_given_row_c r3.1 r3.2 o_chunks_cells_c b_fault b_place b_start b_end b_next b_length b_sort b_body b_size b_back b_given_count b_given_row_c b_elements_count b_elements_marked b_elements_cells_c (0 : Int32)) else ((f_X5_fail K (0 : Int32) (-1 : Int32) (0 : Int32) (11 : Int32)).bind fun r8 => (f_X5_openStream_b49 K o_given_row_n o_chunks_cells_n a_count a_row_n a_row_c b_given_row_n b_elements_cells_n K r8.1 r8.2 (0 : Int32) o_type o_body o_size r1 o_given_row_c r3.1 r3.2 o_chunks_cells_c b_fault b_place b_start b_end b_next b_length b_sort b_body b_size b_back b_given_count b_given_row_c b_elements_count b_elements_marked b_elements_cells_c (0 : Int32)))))))

def f_X6_unstream_b77 (K : Nat) (o_theTape_count : Int32) (o_theTape_row_n : Nat) (o_theTape_row_c : Nat → Int32) (o_theOut_row_n : Nat) (o_blockOpener_given_row_n : Nat) (o_blockOpener_elements_cells_n : Nat) (o_streamOpener_given_row_n : Nat) (o_streamOpener_chunks_cells_n : Nat) (o_keptChunks_cells_n : Nat) (o_faultNumber : Int32) (o_faultPlace : Int32) (o_faultOfBlock : Int32) (o_faultPlaceInBlock : Int32) (o_theOut_count : Int32) (o_theOut_row_c : Nat → Int32) (o_blockOpener_fault : Int32) (o_blockOpener_place : Int32) (o_blockOpener_start : Int32) (o_blockOpener_end : Int32) (o_blockOpener_next : Int32) (o_blockOpener_length : Int32) (o_blockOpener_sort : Int32) (o_blockOpener_body : Int32) (o_blockOpener_size : Int64) (o_blockOpener_back : Int64) (o_blockOpener_given_count : Int32) (o_blockOpener_given_row_c : Nat → Int32) (o_blockOpener_elements_count : Int32) (o_blockOpener_elements_marked : Int32) (o_blockOpener_elements_cells_c : Nat → Int32) (o_streamOpener_fault : Int32) (o_streamOpener_place : Int32) (o_streamOpener_next : Int32) (o_streamOpener_type : Int32) (o_streamOpener_body : Int32) (o_streamOpener_size : Int32) (o_streamOpener_given_count : Int32) (o_streamOpener_given_row_c : Nat → Int32) (o_streamOpener_chunks_count : Int32) (o_streamOpener_chunks_marked : Int32) (o_streamOpener_chunks_cells_c : Nat → Int32) (o_keptChunks_count : Int32) (o_keptChunks_marked : Int32) (o_keptChunks_cells_c : Nat → Int32) : Option (Int32 × Int32 × Int32 × Int32 × Int32 × Int32 × (Nat → Int32) × Int32 × Int32 × Int32 × Int32 × Int32 × Int32 × Int32 × Int32 × Int64 × Int64 × Int32 × (Nat → Int32) × Int32 × Int32 × (Nat → Int32) × Int32 × Int32 × Int32 × Int32 × Int32 × Int32 × Int32 × (Nat → Int32) × Int32 × Int32 × (Nat → Int32) × Int32 × Int32 × (Nat → Int32)) := (if o_streamOpener_fault = 0 then ((f_X1_become K o_theOut_count o_theOut_row_n o_theOut_row_c o_streamOpener_given_count o_streamOpener_given_row_n o_streamOpener_given_row_c).bind fun r2 => ((f_X3_become K o_keptChunks_count o_keptChunks_marked o_keptChunks_cells_n o_keptChunks_cells_c o_streamOpener_chunks_count o_streamOpener_chunks_marked o_streamOpener_chunks_cells_n o_streamOpener_chunks_cells_c).bind fun r4 => (some (r2.1, o_faultNumber, o_faultPlace, o_faultOfBlock, o_faultPlaceInBlock, r2.1, r2.2, o_blockOpener_fault, o_blockOpener_place, o_blockOpener_start, o_blockOpener_end, o_blockOpener_next, o_blockOpener_length, o_blockOpener_sort, o_blockOpener_body, o_blockOpener_size, o_blockOpener_back, o_blockOpener_given_count, o_blockOpener_given_row_c, o_blockOpener_elements_count, o_blockOpener_elements_marked, o_blockOpener_elements_cells_c, o_streamOpener_fault, o_streamOpener_place, o_streamOpener_next, o_streamOpener_type, o_streamOpener_body, o_streamOpener_size, o_streamOpener_given_count, o_streamOpener_given_row_c, o_streamOpener_chunks_count, o_streamOpener_chunks_marked, o_streamOpener_chunks_cells_c, r4.1, r4.2.1, r4.2.2)))) else (some ((-2 : Int32), o_faultNumber, o_faultPlace, o_faultOfBlock, o_faultPlaceInBlock, o_theOut_count, o_theOut_row_c, o_blockOpener_fault, o_blockOpener_place, o_blockOpener_start, o_blockOpener_end, o_blockOpener_next, o_blockOpener_length, o_blockOpener_sort, o_blockOpener_body, o_blockOpener_size, o_blockOpener_back, o_blockOpener_given_count, o_blockOpener_given_row_c, o_blockOpener_elements_count, o_blockOpener_elements_marked, o_blockOpener_elements_cells_c, o_streamOpener_fault, o_streamOpener_place, o_streamOpener_next, o_streamOpener_type, o_streamOpener_body, o_streamOpener_size, o_streamOpener_given_count, o_streamOpener_given_row_c, o_streamOpener_chunks_count, o_streamOpener_chunks_marked, o_streamOpener_chunks_cells_c, o_keptChunks_count, o_keptChunks_marked, o_keptChunks_cells_c)))

/-- SnapHouse.unstream()I -/
def f_X6_unstream (K : Nat) (o_faultNumber : Int32) (o_faultPlace : Int32) (o_faultOfBlock : Int32) (o_faultPlaceInBlock : Int32) (o_theTape_count : Int32) (o_theTape_row_n : Nat) (o_theTape_row_c : Nat → Int32) (o_theOut_count : Int32) (o_theOut_row_n : Nat) (o_theOut_row_c : Nat → Int32) (o_blockOpener_fault : Int32) (o_blockOpener_place : Int32) (o_blockOpener_start : Int32) (o_blockOpener_end : Int32) (o_blockOpener_next : Int32) (o_blockOpener_length : Int32) (o_blockOpener_sort : Int32) (o_blockOpener_body : Int32) (o_blockOpener_size : Int64) (o_blockOpener_back : Int64) (o_blockOpener_given_count : Int32) (o_blockOpener_given_row_n : Nat) (o_blockOpener_given_row_c : Nat → Int32) (o_blockOpener_elements_count : Int32) (o_blockOpener_elements_marked : Int32) (o_blockOpener_elements_cells_n : Nat) (o_blockOpener_elements_cells_c : Nat → Int32) (o_streamOpener_fault : Int32) (o_streamOpener_place : Int32) (o_streamOpener_next : Int32) (o_streamOpener_type : Int32) (o_streamOpener_body : Int32) (o_streamOpener_size : Int32) (o_streamOpener_given_count : Int32) (o_streamOpener_given_row_n : Nat) (o_streamOpener_given_row_c : Nat → Int32) (o_streamOpener_chunks_count : Int32) (o_streamOpener_chunks_marked : Int32) (o_streamOpener_chunks_cells_n : Nat) (o_streamOpener_chunks_cells_c : Nat → Int32) (o_keptChunks_count : Int32) (o_keptChunks_marked : Int32) (o_keptChunks_cells_n : Nat) (o_keptChunks_cells_c : Nat → Int32) : Option (Int32 × Int32 × Int32 × Int32 × Int32 × Int32 × (Nat → Int32) × Int32 × Int32 × Int32 × Int32 × Int32 × Int32 × Int32 × Int32 × Int64 × Int64 × Int32 × (Nat → Int32) × Int32 × Int32 × (Nat → Int32) × Int32 × Int32 × Int32 × Int32 × Int32 × Int32 × Int32 × (Nat → Int32) × Int32 × Int32 × (Nat → Int32) × Int32 × Int32 × (Nat → Int32)) := ((f_X5_openStream K o_streamOpener_fault o_streamOpener_place o_streamOpener_next o_streamOpener_type o_streamOpener_body o_streamOpener_size o_streamOpener_given_count o_streamOpener_given_row_n o_streamOpener_given_row_c o_streamOpener_chunks_count o_streamOpener_chunks_marked o_streamOpener_chunks_cells_n o_streamOpener_chunks_cells_c o_theTape_count o_theTape_row_n o_theTape_row_c o_blockOpener_fault o_blockOpener_place o_blockOpener_start o_blockOpener_end o_blockOpener_next o_blockOpener_length o_blockOpener_sort o_blockOpener_body o_blockOpener_size o_blockOpener_back o_blockOpener_given_count o_blockOpener_given_row_n o_blockOpener_given_row_c o_blockOpener_elements_count o_blockOpener_elements_marked o_blockOpener_elements_cells_n o_blockOpener_elements_cells_c).bind fun r1 => (if r1.1 = (16 : Int32) then ((f_X6_keepFault K o_faultNumber o_faultPlace o_faultOfBlock o_faultPlaceInBlock (16 : Int32) r1.2.1 r1.2.2.2.2.2.2.2.2.2.2.2.1 r1.2.2.2.2.2.2.2.2.2.2.2.2.1).bind fun r6 => (f_X6_unstream_b77 K o_theTape_count o_theTape_row_n o_theTape_row_c o_theOut_row_n o_blockOpener_given_row_n o_blockOpener_elements_cells_n o_streamOpener_given_row_n o_streamOpener_chunks_cells_n o_keptChunks_cells_n r6.1 r6.2.1 r6.2.2.1 r6.2.2.2 o_theOut_count o_theOut_row_c r1.2.2.2.2.2.2.2.2.2.2.2.1 r1.2.2.2.2.2.2.2.2.2.2.2.2.1 r1.2.2.2.2.2.2.2.2.2.2.2.2.2.1 r1.2.2.2.2.2.2.2.2.2.2.2.2.2.2.1 r1.2.2.2.2.2.2.2.2.2.2.2.2.2.2.2.1 r1.2.2.2.2.2.2.2.2.2.2.2.2.2.2.2.2.1 r1.2.2.2.2.2.2.2.2.2.2.2.2.2.2.2.2.2.1 r1.2.2.2.2.2.2.2.2.2.2.2.2.2.2.2.2.2.2.1 r1.2.2.2.2.2.2.2.2.2.2.2.2.2.2.2.2.2.2.2.1 r1.2.2.2.2.2.2.2.2.2.2.2.2.2.2.2.2.2.2.2.2.1 r1.2.2.2.2.2.2.2.2.2.2.2.2.2.2.2.2.2.2.2.2.2.1 r1.2.2.2.2.2.2.2.2.2.2.2.2.2.2.2.2.2.2.2.2.2.2.1 r1.2.2.2.2.2.2.2.2.2.2.2.2.2.2.2.2.2.2.2.2.2.2.2.1 r1.2.2.2.2.2.2.2.2.2.2.2.2.2.2.2.2.2.2.2.2.2.2.2.2.1 r1.2.2.2.2.2.2.2.2.2.2.2.2.2.2.2.2.2.2.2.2.2.2.2.2.2 r1.1 r1.2.1 r1.2.2.1 r1.2.2.2.1 r1.2.2.2.2.1 r1.2.2.2.2.2.1 r1.2.2.2.2.2.2.1 r1.2.2.2.2.2.2.2.1 r1.2.2.2.2.2.2.2.2.1 r1.2.2.2.2.2.2.2.2.2.1 r1.2.2.2.2.2.2.2.2.2.2.1 o_keptChunks_count o_keptChunks_marked o_keptChunks_cells_c)) else ((f_X6_keepFault K o_faultNumber o_faultPlace o_faultOfBlock o_faultPlaceInBlock r1.1 r1.2.1 (0 : Int32) (-1 : Int32)).bind fun r4 => (f_X6_unstream_b77 K o_theTape_count o_theTape_row_n o_theTape_row_c o_theOut_row_n o_blockOpener_given_row_n o_blockOpener_elements_cells_n o_streamOpener_given_row_n o_streamOpener_chunks_cells_n o_keptChunks_cells_n r4.1 r4.2.1 r4.2.2.1 r4.2.2.2 o_theOut_count o_theOut_row_c r1.2.2.2.2.2.2.2.2.2.2.2.1 r1.2.2.2.2.2.2.2.2.2.2.2.2.1 r1.2.2.2.2.2.2.2.2.2.2.2.2.2.1 r1.2.2.2.2.2.2.2.2.2.2.2.2.2.2.1 r1.2.2.2.2.2.2.2.2.2.2.2.2.2.2.2.1 r1.2.2.2.2.2.2.2.2.2.2.2.2.2.2.2.2.1 r1.2.2.2.2.2.2.2.2.2.2.2.2.2.2.2.2.2.1 r1.2.2.2.2.2.2.2.2.2.2.2.2.2.2.2.2.2.2.1 r1.2.2.2.2.2.2.2.2.2.2.2.2.2.2.2.2.2.2.2.1 r1.2.2.2.2.2.2.2.2.2.2.2.2.2.2.2.2.2.2.2.2.1 r1.2.2.2.2.2.2.2.2.2.2.2.2.2.2.2.2.2.2.2.2.2.1 r1.2.2.2.2.2.2.2.2.2.2.2.2.2.2.2.2.2.2.2.2.2.2.1 r1.2.2.2.2.2.2.2.2.2.2.2.2.2.2.2.2.2.2.2.2.2.2.2.1 r1.2.2.2.2.2.2.2.2.2.2.2.2.2.2.2.2.2.2.2.2.2.2.2.2.1 r1.2.2.2.2.2.2.2.2.2.2.2.2.2.2.2.2.2.2.2.2.2.2.2.2.2 r1.1 r1.2.1 r1.2.2.1 r1.2.2.2.1 r1.2.2.2.2.1 r1.2.2.2.2.2.1 r1.2.2.2.2.2.2.1 r1.2.2.2.2.2.2.2.1 r1.2.2.2.2.2.2.2.2.1 r1.2.2.2.2.2.2.2.2.2.1 r1.2.2.2.2.2.2.2.2.2.2.1 o_keptChunks_count o_keptChunks_marked o_keptChunks_cells_c))))

/-- SnapHouse.fault(I)I -/
def f_X6_fault (K : Nat) (o_faultNumber : Int32) (o_faultPlace : Int32) (o_faultOfBlock : Int32) (o_faultPlaceInBlock : Int32) (p1 : Int32) : Option (Int32) := (if p1 = (0 : Int32) then (some o_faultNumber) else (if p1 = (1 : Int32) then (some o_faultPlace) else (if p1 = (2 : Int32) then (some o_faultOfBlock) else (if p1 = (3 : Int32) then (some o_faultPlaceInBlock) else (some (-1 : Int32))))))

/-- SnapHouse$Rows.cell(II)I -/
def f_X3_cell (K : Nat) (o_count : Int32) (o_cells_n : Nat) (o_cells_c : Nat → Int32) (p1 : Int32) (p2 : Int32) : Option (Int32) := (if p1 < 0 then (some (-1 : Int32)) else (if (if (1000 : Int32) < o_count then (1000 : Int32) else o_count) ≤ p1 then (some (-1 : Int32)) else (if p2 < 0 then (some (-1 : Int32)) else (if p2 < (5 : Int32) then (ck ((p1 * (5 : Int32)) + p2) o_cells_n (some (o_cells_c ((p1 * (5 : Int32)) + p2).toNatClampNeg))) else (some (-1 : Int32))))))

/-- SnapHouse.element(II)I -/
def f_X6_element (K : Nat) (o_keptElements_count : Int32) (o_keptElements_cells_n : Nat) (o_keptElements_cells_c : Nat → Int32) (p1 : Int32) (p2 : Int32) : Option (Int32) := ((f_X3_cell K o_keptElements_count o_keptElements_cells_n o_keptElements_cells_c p1 p2).bind fun r1 => (some r1))

/-- SnapHouse.chunk(II)I -/
def f_X6_chunk (K : Nat) (o_keptChunks_count : Int32) (o_keptChunks_cells_n : Nat) (o_keptChunks_cells_c : Nat → Int32) (p1 : Int32) (p2 : Int32) : Option (Int32) := ((f_X3_cell K o_keptChunks_count o_keptChunks_cells_n o_keptChunks_cells_c p1 p2).bind fun r1 => (some r1))

/-- SnapHouse.sum(IIZ)I -/
def f_X6_sum (K : Nat) (o_theTape_count : Int32) (o_theTape_row_n : Nat) (o_theTape_row_c : Nat → Int32) (p1 : Int32) (p2 : Int32) (p3 : Int32) : Option (Int32) := ((f_X1_has K o_theTape_count p1 p2).bind fun r1 => (if r1 = 0 then (some (0 : Int32)) else (if p3 = 0 then ((f_X1_crc K o_theTape_count o_theTape_row_n o_theTape_row_c p1 p2).bind fun r5 => (some r5)) else ((f_X1_maskedCrc K o_theTape_count o_theTape_row_n o_theTape_row_c p1 p2).bind fun r7 => (some r7)))))

/-- SnapHouse.about(I)I -/
def f_X6_about (K : Nat) (o_theTape_count : Int32) (o_theOut_count : Int32) (o_keptElements_count : Int32) (o_keptElements_marked : Int32) (o_keptChunks_count : Int32) (o_keptChunks_marked : Int32) (p1 : Int32) : Option (Int32) := (if p1 = (0 : Int32) then (some o_theTape_count) else (if p1 = (1 : Int32) then (some o_theOut_count) else (if p1 = (2 : Int32) then (some o_keptElements_count) else (if p1 = (3 : Int32) then (some o_keptElements_marked) else (if p1 = (4 : Int32) then (some o_keptChunks_count) else (if p1 = (5 : Int32) then (some o_keptChunks_marked) else (some (-1 : Int32))))))))

def f_X7_word_b3 (K : Nat) (o_tape_n : Nat) (p1 : Int32) : Nat → Int32 → (Nat → Int32) → Int32 → Option (Int32 × (Nat → Int32))
  | 0, _, _, _ => none
  | n + 1, o_taped, o_tape_c, x2 => (if x2 < 0 then (some (o_taped, o_tape_c)) else (ck o_taped o_tape_n (f_X7_word_b3 K o_tape_n p1 n (o_taped + (1 : Int32)) (upd o_tape_c o_taped.toNatClampNeg (vp_nar .byte ((p1 >>> (x2 &&& 31)).toInt8.toInt32))) (x2 + (-8 : Int32)))))

/-- SnapHouseModel.word(I)V -/
def f_X7_word (K : Nat) (o_taped : Int32) (o_tape_n : Nat) (o_tape_c : Nat → Int32) (p1 : Int32) : Option (Int32 × (Nat → Int32)) := (f_X7_word_b3 K o_tape_n p1 K o_taped o_tape_c (24 : Int32))

/-- SnapHouseModel.feed(IIIII)I -/
def f_X7_feed (K : Nat) (o_taped : Int32) (o_thrown : Int32) (o_tape_n : Nat) (o_tape_c : Nat → Int32) (p1 : Int32) (p2 : Int32) (p3 : Int32) (p4 : Int32) (p5 : Int32) : Option (Int32 × Int32 × Int32 × (Nat → Int32)) := (if (o_taped + (20 : Int32)) ≤ (20000 : Int32) then ((f_X7_word K o_taped o_tape_n o_tape_c p1).bind fun r2 => ((f_X7_word K r2.1 o_tape_n r2.2 p2).bind fun r4 => ((f_X7_word K r4.1 o_tape_n r4.2 p3).bind fun r6 => ((f_X7_word K r6.1 o_tape_n r6.2 p4).bind fun r8 => ((f_X7_word K r8.1 o_tape_n r8.2 p5).bind fun r10 => (some (r10.1, r10.1, (0 : Int32), r10.2))))))) else (some ((-1 : Int32), o_taped, (0 : Int32), o_tape_c)))

def f_X7_fill_b36 (K : Nat) (o_tape_n : Nat) (p1 : Int32) (p2 : Int32) : Nat → Int32 → Int32 → (Nat → Int32) → Int32 → Option (Int32 × Int32 × Int32 × (Nat → Int32))
  | 0, _, _, _, _ => none
  | n + 1, o_taped, o_thrown, o_tape_c, x3 => (if p2 ≤ x3 then (some (o_taped, o_taped, o_thrown, o_tape_c)) else (ck o_taped o_tape_n (f_X7_fill_b36 K o_tape_n p1 p2 n (o_taped + (1 : Int32)) o_thrown (upd o_tape_c o_taped.toNatClampNeg (vp_nar .byte (p1.toInt8.toInt32))) (x3 + (1 : Int32)))))

/-- SnapHouseModel.fill(II)I -/
def f_X7_fill (K : Nat) (o_taped : Int32) (o_thrown : Int32) (o_tape_n : Nat) (o_tape_c : Nat → Int32) (p1 : Int32) (p2 : Int32) : Option (Int32 × Int32 × Int32 × (Nat → Int32)) := (if p1 < 0 then (some ((-1 : Int32), o_taped, (0 : Int32), o_tape_c)) else (if (255 : Int32) < p1 then (some ((-1 : Int32), o_taped, (0 : Int32), o_tape_c)) else (if p2 < 0 then (some ((-1 : Int32), o_taped, (0 : Int32), o_tape_c)) else (if p2 ≤ ((20000 : Int32) - o_taped) then (f_X7_fill_b36 K o_tape_n p1 p2 K o_taped (0 : Int32) o_tape_c (0 : Int32)) else (some ((-1 : Int32), o_taped, (0 : Int32), o_tape_c))))))

def f_X7_again_b37 (K : Nat) (o_tape_n : Nat) (p1 : Int32) (p2 : Int32) : Nat → Int32 → Int32 → (Nat → Int32) → Int32 → Option (Int32 × Int32 × Int32 × (Nat → Int32))
  | 0, _, _, _, _ => none
  | n + 1, o_taped, o_thrown, o_tape_c, x3 => (if p2 ≤ x3 then (some (o_taped, o_taped, o_thrown, o_tape_c)) else (ck (p1 + x3) o_tape_n (ck o_taped o_tape_n (f_X7_again_b37 K o_tape_n p1 p2 n (o_taped + (1 : Int32)) o_thrown (upd o_tape_c o_taped.toNatClampNeg (vp_nar .byte (o_tape_c (p1 + x3).toNatClampNeg))) (x3 + (1 : Int32))))))

/-- SnapHouseModel.again(II)I -/
def f_X7_again (K : Nat) (o_taped : Int32) (o_thrown : Int32) (o_tape_n : Nat) (o_tape_c : Nat → Int32) (p1 : Int32) (p2 : Int32) : Option (Int32 × Int32 × Int32 × (Nat → Int32)) := (if p1 < 0 then (some ((-1 : Int32), o_taped, (0 : Int32), o_tape_c)) else (if o_taped ≤ p1 then (some ((-1 : Int32), o_taped, (0 : Int32), o_tape_c)) else (if p2 < 0 then (some ((-1 : Int32), o_taped, (0 : Int32), o_tape_c)) else (if p2 ≤ ((20000 : Int32) - o_taped) then (f_X7_again_b37 K o_tape_n p1 p2 K o_taped (0 : Int32) o_tape_c (0 : Int32)) else (some ((-1 : Int32), o_taped, (0 : Int32), o_tape_c))))))

/-- SnapHouseModel.cut(I)I -/
def f_X7_cut (K : Nat) (o_taped : Int32) (o_thrown : Int32) (p1 : Int32) : Option (Int32 × Int32 × Int32) := (if p1 < 0 then (some ((-1 : Int32), o_taped, (0 : Int32))) else (if p1 ≤ o_taped then (some (p1, p1, (0 : Int32))) else (some ((-1 : Int32), o_taped, (0 : Int32)))))

/-- SnapHouseModel.set(II)I -/
def f_X7_set (K : Nat) (o_taped : Int32) (o_thrown : Int32) (o_tape_n : Nat) (o_tape_c : Nat → Int32) (p1 : Int32) (p2 : Int32) : Option (Int32 × Int32 × (Nat → Int32)) := (if p1 < 0 then (some ((-1 : Int32), (0 : Int32), o_tape_c)) else (if o_taped ≤ p1 then (some ((-1 : Int32), (0 : Int32), o_tape_c)) else (if p2 < 0 then (some ((-1 : Int32), (0 : Int32), o_tape_c)) else (if p2 ≤ (255 : Int32) then (ck p1 o_tape_n (ck p1 o_tape_n (some (((o_tape_c p1.toNatClampNeg) &&& (255 : Int32)), (0 : Int32), (upd o_tape_c p1.toNatClampNeg (vp_nar .byte (p2.toInt8.toInt32))))))) else (some ((-1 : Int32), (0 : Int32), o_tape_c))))))

def f_X7_take_b19 (K : Nat) (o_outs : Int32) (o_tape_n : Nat) (o_out_n : Nat) (o_out_c : Nat → Int32) : Nat → Int32 → Int32 → (Nat → Int32) → Int32 → Option (Int32 × Int32 × Int32 × (Nat → Int32))
  | 0, _, _, _, _ => none
  | n + 1, o_taped, o_thrown, o_tape_c, x1 => (if o_outs ≤ x1 then (some (o_outs, o_outs, o_thrown, o_tape_c)) else (ck x1 o_out_n (ck x1 o_tape_n (f_X7_take_b19 K o_outs o_tape_n o_out_n o_out_c n o_taped o_thrown (upd o_tape_c x1.toNatClampNeg (vp_nar .byte (o_out_c x1.toNatClampNeg))) (x1 + (1 : Int32))))))

/-- SnapHouseModel.take()I -/
def f_X7_take (K : Nat) (o_taped : Int32) (o_outs : Int32) (o_thrown : Int32) (o_tape_n : Nat) (o_tape_c : Nat → Int32) (o_out_n : Nat) (o_out_c : Nat → Int32) : Option (Int32 × Int32 × Int32 × (Nat → Int32)) := (if o_outs ≤ (20000 : Int32) then (f_X7_take_b19 K o_outs o_tape_n o_out_n o_out_c K o_taped (0 : Int32) o_tape_c (0 : Int32)) else (some ((-1 : Int32), o_taped, (0 : Int32), o_tape_c)))

/-- SnapHouseModel.tape(I)I -/
def f_X7_tape (K : Nat) (o_taped : Int32) (o_thrown : Int32) (o_tape_n : Nat) (o_tape_c : Nat → Int32) (p1 : Int32) : Option (Int32 × Int32) := (if p1 < 0 then (some ((-1 : Int32), (0 : Int32))) else (if o_taped ≤ p1 then (some ((-1 : Int32), (0 : Int32))) else (ck p1 o_tape_n (some (((o_tape_c p1.toNatClampNeg) &&& (255 : Int32)), (0 : Int32))))))

/-- SnapHouseModel.pack(I)V -/
def f_X7_pack (K : Nat) (o_packs : Int32) (o_packed_n : Nat) (o_packed_c : Nat → Int32) (p1 : Int32) : Option (Int32 × (Nat → Int32)) := (ck o_packs o_packed_n (some ((o_packs + (1 : Int32)), (upd o_packed_c o_packs.toNatClampNeg (vp_nar .byte (p1.toInt8.toInt32))))))

def f_X7_literal_b104 (K : Nat) (o_tape_n : Nat) (o_tape_c : Nat → Int32) (o_packed_n : Nat) (p1 : Int32) (p2 : Int32) : Nat → Int32 → (Nat → Int32) → Int32 → Option (Int32 × (Nat → Int32))
  | 0, _, _, _ => none
  | n + 1, o_packs, o_packed_c, x5 => (if p2 ≤ x5 then (some (o_packs, o_packed_c)) else (ck x5 o_tape_n ((f_X7_pack K o_packs o_packed_n o_packed_c (o_tape_c x5.toNatClampNeg)).bind fun r3 => (f_X7_literal_b104 K o_tape_n o_tape_c o_packed_n p1 p2 n r3.1 r3.2 (x5 + (1 : Int32))))))

def f_X7_literal_b72 (K : Nat) (o_tape_n : Nat) (o_tape_c : Nat → Int32) (o_packed_n : Nat) (p1 : Int32) (p2 : Int32) : Nat → Int32 → (Nat → Int32) → Int32 → Int32 → Int32 → Option (Int32 × (Nat → Int32))
  | 0, _, _, _, _, _ => none
  | n + 1, o_packs, o_packed_c, x4, x5, x6 => (if x5 ≤ x6 then (f_X7_literal_b104 K o_tape_n o_tape_c o_packed_n p1 p2 K o_packs o_packed_c p1) else ((f_X7_pack K o_packs o_packed_n o_packed_c ((x4 >>> (((8 : Int32) * x6) &&& 31)) &&& (255 : Int32))).bind fun r2 => (f_X7_literal_b72 K o_tape_n o_tape_c o_packed_n p1 p2 n r2.1 r2.2 x4 x5 (x6 + (1 : Int32)))))

def f_X7_literal_b56 (K : Nat) (o_tape_n : Nat) (o_tape_c : Nat → Int32) (o_packed_n : Nat) (p1 : Int32) (p2 : Int32) (o_packs : Int32) (o_packed_c : Nat → Int32) (x4 : Int32) (t0 : Int32) : Option (Int32 × (Nat → Int32)) := ((f_X7_pack K o_packs o_packed_n o_packed_c (((59 : Int32) + t0) <<< ((2 : Int32) &&& 31))).bind fun r1 => (f_X7_literal_b72 K o_tape_n o_tape_c o_packed_n p1 p2 K r1.1 r1.2 x4 t0 (0 : Int32)))

/-- SnapHouseModel.literal(II)V -/
def f_X7_literal (K : Nat) (o_packs : Int32) (o_tape_n : Nat) (o_tape_c : Nat → Int32) (o_packed_n : Nat) (o_packed_c : Nat → Int32) (p1 : Int32) (p2 : Int32) : Option (Int32 × (Nat → Int32)) := (if (p2 - p1) = 0 then (some (o_packs, o_packed_c)) else (if (60 : Int32) ≤ ((p2 - p1) - (1 : Int32)) then (if (256 : Int32) ≤ ((p2 - p1) - (1 : Int32)) then (if (65536 : Int32) ≤ ((p2 - p1) - (1 : Int32)) then (f_X7_literal_b56 K o_tape_n o_tape_c o_packed_n p1 p2 o_packs o_packed_c ((p2 - p1) - (1 : Int32)) (3 : Int32)) else (f_X7_literal_b56 K o_tape_n o_tape_c o_packed_n p1 p2 o_packs o_packed_c ((p2 - p1) - (1 : Int32)) (2 : Int32))) else (f_X7_literal_b56 K o_tape_n o_tape_c o_packed_n p1 p2 o_packs o_packed_c ((p2 - p1) - (1 : Int32)) (1 : Int32))) else ((f_X7_pack K o_packs o_packed_n o_packed_c (((p2 - p1) - (1 : Int32)) <<< ((2 : Int32) &&& 31))).bind fun r5 => (f_X7_literal_b104 K o_tape_n o_tape_c o_packed_n p1 p2 K r5.1 r5.2 p1))))

/-- SnapHouseModel.at(I)I -/
def f_X7_at (K : Nat) (o_tape_n : Nat) (o_tape_c : Nat → Int32) (p1 : Int32) : Option (Int32) := (ck p1 o_tape_n (some ((o_tape_c p1.toNatClampNeg) &&& (255 : Int32))))

/-- SnapHouseModel.keyOf(I)I -/
def f_X7_keyOf (K : Nat) (o_tape_n : Nat) (o_tape_c : Nat → Int32) (p1 : Int32) : Option (Int32) := ((f_X7_at K o_tape_n o_tape_c p1).bind fun r1 => ((f_X7_at K o_tape_n o_tape_c (p1 + (1 : Int32))).bind fun r3 => ((f_X7_at K o_tape_n o_tape_c (p1 + (2 : Int32))).bind fun r5 => ((f_X7_at K o_tape_n o_tape_c (p1 + (3 : Int32))).bind fun r7 => (some (ushr ((((r1 ||| (r3 <<< ((8 : Int32) &&& 31))) ||| (r5 <<< ((16 : Int32) &&& 31))) ||| (r7 <<< ((24 : Int32) &&& 31))) * (506832829 : Int32)) (18 : Int32)))))))

/-- SnapHouseModel.areFour(II)Z -/
def f_X7_areFour (K : Nat) (o_tape_n : Nat) (o_tape_c : Nat → Int32) (p1 : Int32) (p2 : Int32) : Option (Int32) := (ck p1 o_tape_n (ck p2 o_tape_n (if (o_tape_c p1.toNatClampNeg) = (o_tape_c p2.toNatClampNeg) then (ck (p1 + (1 : Int32)) o_tape_n (ck (p2 + (1 : Int32)) o_tape_n (if (o_tape_c (p1 + (1 : Int32)).toNatClampNeg) = (o_tape_c (p2 + (1 : Int32)).toNatClampNeg) then (ck (p1 + (2 : Int32)) o_tape_n (ck (p2 + (2 : Int32)) o_tape_n (if (o_tape_c (p1 + (2 : Int32)).toNatClampNeg) = (o_tape_c (p2 + (2 : Int32)).toNatClampNeg) then (ck (p1 + (3 : Int32)) o_tape_n (ck (p2 + (3 : Int32)) o_tape_n (if (o_tape_c (p1 + (3 : Int32)).toNatClampNeg) = (o_tape_c (p2 + (3 : Int32)).toNatClampNeg) then (some (1 : Int32)) else (some (0 : Int32))))) else (some (0 : Int32))))) else (some (0 : Int32))))) else (some (0 : Int32)))))

/-- SnapHouseModel.copyTwo(II)V -/
def f_X7_copyTwo (K : Nat) (o_packs : Int32) (o_packed_n : Nat) (o_packed_c : Nat → Int32) (p1 : Int32) (p2 : Int32) : Option (Int32 × (Nat → Int32)) := ((f_X7_pack K o_packs o_packed_n o_packed_c (((p1 - (1 : Int32)) <<< ((2 : Int32) &&& 31)) ||| (2 : Int32))).bind fun r1 => ((f_X7_pack K r1.1 o_packed_n r1.2 (p2 &&& (255 : Int32))).bind fun r3 => ((f_X7_pack K r3.1 o_packed_n r3.2 (p2 >>> ((8 : Int32) &&& 31))).bind fun r5 => (some (r5.1, r5.2)))))

def f_X7_copies_b80 (K : Nat) (o_packed_n : Nat) (p1 : Int32) (p2 : Int32) (o_packs : Int32) (o_packed_c : Nat → Int32) (x3 : Int32) : Option (Int32 × (Nat → Int32)) := ((f_X7_copyTwo K o_packs o_packed_n o_packed_c x3 p2).bind fun r1 => (some (r1.1, r1.2)))

def f_X7_copies_b37 (K : Nat) (o_packed_n : Nat) (p1 : Int32) (p2 : Int32) (o_packs : Int32) (o_packed_c : Nat → Int32) (x3 : Int32) : Option (Int32 × (Nat → Int32)) := (if (12 : Int32) ≤ x3 then (f_X7_copies_b80 K o_packed_n p1 p2 o_packs o_packed_c x3) else (if (2048 : Int32) ≤ p2 then (f_X7_copies_b80 K o_packed_n p1 p2 o_packs o_packed_c x3) else ((f_X7_pack K o_packs o_packed_n o_packed_c ((((p2 >>> ((8 : Int32) &&& 31)) <<< ((5 : Int32) &&& 31)) ||| ((x3 - (4 : Int32)) <<< ((2 : Int32) &&& 31))) ||| (1 : Int32))).bind fun r3 => ((f_X7_pack K r3.1 o_packed_n r3.2 (p2 &&& (255 : Int32))).bind fun r5 => (some (r5.1, r5.2))))))

def f_X7_copies_b2 (K : Nat) (o_packed_n : Nat) (p1 : Int32) (p2 : Int32) : Nat → Int32 → (Nat → Int32) → Int32 → Option (Int32 × (Nat → Int32))
  | 0, _, _, _ => none
  | n + 1, o_packs, o_packed_c, x3 => (if x3 < (68 : Int32) then (if x3 ≤ (64 : Int32) then (f_X7_copies_b37 K o_packed_n p1 p2 o_packs o_packed_c x3) else ((f_X7_copyTwo K o_packs o_packed_n o_packed_c (60 : Int32) p2).bind fun r3 => (f_X7_copies_b37 K o_packed_n p1 p2 r3.1 r3.2 (x3 + (-60 : Int32))))) else ((f_X7_copyTwo K o_packs o_packed_n o_packed_c (64 : Int32) p2).bind fun r5 => (f_X7_copies_b2 K o_packed_n p1 p2 n r5.1 r5.2 (x3 + (-64 : Int32)))))

/-- SnapHouseModel.copies(II)V -/
def f_X7_copies (K : Nat) (o_packs : Int32) (o_packed_n : Nat) (o_packed_c : Nat → Int32) (p1 : Int32) (p2 : Int32) : Option (Int32 × (Nat → Int32)) := (f_X7_copies_b2 K o_packed_n p1 p2 K o_packs o_packed_c p1)

def f_X7_pressPart_b245 (K : Nat) (o_tape_n : Nat) (o_tape_c : Nat → Int32) (o_packed_n : Nat) (o_latest_n : Nat) (o_ahead_n : Nat) (p1 : Int32) (p2 : Int32) (k77 : Int32 → (Nat → Int32) → (Nat → Int32) → (Nat → Int32) → Int32 → Int32 → Int32 → Option (Int32 × (Nat → Int32) × (Nat → Int32) × (Nat → Int32))) (o_packs : Int32) (o_packed_c : Nat → Int32) (o_latest_c : Nat → Int32) (o_ahead_c : Nat → Int32) (x5 : Int32) (x7 : Int32) (x9 : Int32) (x10 : Int32) : Option (Int32 × (Nat → Int32) × (Nat → Int32) × (Nat → Int32)) := ((f_X7_copies K o_packs o_packed_n o_packed_c x10 x9).bind fun r1 => (k77 r1.1 r1.2 o_latest_c o_ahead_c x5 (x7 + x10) (x7 + x10)))

def f_X7_pressPart_b207 (K : Nat) (o_tape_n : Nat) (o_tape_c : Nat → Int32) (o_packed_n : Nat) (o_latest_n : Nat) (o_ahead_n : Nat) (p1 : Int32) (p2 : Int32) (k77 : Int32 → (Nat → Int32) → (Nat → Int32) → (Nat → Int32) → Int32 → Int32 → Int32 → Option (Int32 × (Nat → Int32) × (Nat → Int32) × (Nat → Int32))) : Nat → Int32 → (Nat → Int32) → (Nat → Int32) → (Nat → Int32) → Int32 → Int32 → Int32 → Int32 → Int32 → Option (Int32 × (Nat → Int32) × (Nat → Int32) × (Nat → Int32))
  | 0, _, _, _, _, _, _, _, _, _ => none
  | n + 1, o_packs, o_packed_c, o_latest_c, o_ahead_c, x5, x7, x8, x9, x10 => (if p2 ≤ (x7 + x10) then (f_X7_pressPart_b245 K o_tape_n o_tape_c o_packed_n o_latest_n o_ahead_n p1 p2 k77 o_packs o_packed_c o_latest_c o_ahead_c x5 x7 x9 x10) else (ck (x8 + x10) o_tape_n (ck (x7 + x10) o_tape_n (if (o_tape_c (x8 + x10).toNatClampNeg) = (o_tape_c (x7 + x10).toNatClampNeg) then (f_X7_pressPart_b207 K o_tape_n o_tape_c o_packed_n o_latest_n o_ahead_n p1 p2 k77 n o_packs o_packed_c o_latest_c o_ahead_c x5 x7 x8 x9 (x10 + (1 : Int32))) else (f_X7_pressPart_b245 K o_tape_n o_tape_c o_packed_n o_latest_n o_ahead_n p1 p2 k77 o_packs o_packed_c o_latest_c o_ahead_c x5 x7 x9 x10)))))

def f_X7_pressPart_b178 (K : Nat) (o_tape_n : Nat) (o_tape_c : Nat → Int32) (o_packed_n : Nat) (o_latest_n : Nat) (o_ahead_n : Nat) (p1 : Int32) (p2 : Int32) (k77 : Int32 → (Nat → Int32) → (Nat → Int32) → (Nat → Int32) → Int32 → Int32 → Int32 → Option (Int32 × (Nat → Int32) × (Nat → Int32) × (Nat → Int32))) (o_packs : Int32) (o_packed_c : Nat → Int32) (o_latest_c : Nat → Int32) (o_ahead_c : Nat → Int32) (x5 : Int32) (x6 : Int32) (x7 : Int32) (x8 : Int32) : Option (Int32 × (Nat → Int32) × (Nat → Int32) × (Nat → Int32)) := (if 0 ≤ x8 then ((f_X7_literal K o_packs o_tape_n o_tape_c o_packed_n o_packed_c x6 x7).bind fun r2 => (f_X7_pressPart_b207 K o_tape_n o_tape_c o_packed_n o_latest_n o_ahead_n p1 p2 k77 K r2.1 r2.2 o_latest_c o_ahead_c x5 x7 x8 (x7 - x8) (0 : Int32))) else (k77 o_packs o_packed_c o_latest_c o_ahead_c x5 x6 (x7 + (1 : Int32))))

def f_X7_pressPart_b150 (K : Nat) (o_tape_n : Nat) (o_tape_c : Nat → Int32) (o_packed_n : Nat) (o_latest_n : Nat) (o_ahead_n : Nat) (p1 : Int32) (p2 : Int32) (k77 : Int32 → (Nat → Int32) → (Nat → Int32) → (Nat → Int32) → Int32 → Int32 → Int32 → Option (Int32 × (Nat → Int32) × (Nat → Int32) × (Nat → Int32))) : Nat → Int32 → (Nat → Int32) → (Nat → Int32) → (Nat → Int32) → Int32 → Int32 → Int32 → Int32 → Option (Int32 × (Nat → Int32) × (Nat → Int32) × (Nat → Int32))
  | 0, _, _, _, _, _, _, _, _ => none
  | n + 1, o_packs, o_packed_c, o_latest_c, o_ahead_c, x5, x6, x7, x8 => (if x8 < 0 then (f_X7_pressPart_b178 K o_tape_n o_tape_c o_packed_n o_latest_n o_ahead_n p1 p2 k77 o_packs o_packed_c o_latest_c o_ahead_c x5 x6 x7 x8) else ((f_X7_areFour K o_tape_n o_tape_c x8 x7).bind fun r2 => (if r2 = 0 then (ck x8 o_ahead_n (f_X7_pressPart_b150 K o_tape_n o_tape_c o_packed_n o_latest_n o_ahead_n p1 p2 k77 n o_packs o_packed_c o_latest_c o_ahead_c x5 x6 x7 (o_ahead_c x8.toNatClampNeg))) else (f_X7_pressPart_b178 K o_tape_n o_tape_c o_packed_n o_latest_n o_ahead_n p1 p2 k77 o_packs o_packed_c o_latest_c o_ahead_c x5 x6 x7 x8))))

def f_X7_pressPart_b85 (K : Nat) (o_tape_n : Nat) (o_tape_c : Nat → Int32) (o_packed_n : Nat) (o_latest_n : Nat) (o_ahead_n : Nat) (p1 : Int32) (p2 : Int32) (k77 : Int32 → (Nat → Int32) → (Nat → Int32) → (Nat → Int32) → Int32 → Int32 → Int32 → Option (Int32 × (Nat → Int32) × (Nat → Int32) × (Nat → Int32))) : Nat → Int32 → (Nat → Int32) → (Nat → Int32) → (Nat → Int32) → Int32 → Int32 → Int32 → Option (Int32 × (Nat → Int32) × (Nat → Int32) × (Nat → Int32))
  | 0, _, _, _, _, _, _, _ => none
  | n + 1, o_packs, o_packed_c, o_latest_c, o_ahead_c, x5, x6, x7 => (if x7 ≤ x5 then ((f_X7_keyOf K o_tape_n o_tape_c x7).bind fun r2 => (ck r2 o_latest_n (f_X7_pressPart_b150 K o_tape_n o_tape_c o_packed_n o_latest_n o_ahead_n p1 p2 k77 K o_packs o_packed_c o_latest_c o_ahead_c x5 x6 x7 (o_latest_c r2.toNatClampNeg)))) else (if p2 < (x5 + (4 : Int32)) then (f_X7_pressPart_b85 K o_tape_n o_tape_c o_packed_n o_latest_n o_ahead_n p1 p2 k77 n o_packs o_packed_c o_latest_c o_ahead_c (x5 + (1 : Int32)) x6 x7) else ((f_X7_keyOf K o_tape_n o_tape_c x5).bind fun r6 => (ck r6 o_latest_n (ck x5 o_ahead_n (ck r6 o_latest_n (f_X7_pressPart_b85 K o_tape_n o_tape_c o_packed_n o_latest_n o_ahead_n p1 p2 k77 n o_packs o_packed_c (upd o_latest_c r6.toNatClampNeg x5) (upd o_ahead_c x5.toNatClampNeg (o_latest_c r6.toNatClampNeg)) (x5 + (1 : Int32)) x6 x7)))))))

def f_X7_pressPart_b77 (K : Nat) (o_tape_n : Nat) (o_tape_c : Nat → Int32) (o_packed_n : Nat) (o_latest_n : Nat) (o_ahead_n : Nat) (p1 : Int32) (p2 : Int32) : Nat → Int32 → (Nat → Int32) → (Nat → Int32) → (Nat → Int32) → Int32 → Int32 → Int32 → Option (Int32 × (Nat → Int32) × (Nat → Int32) × (Nat → Int32))
  | 0, _, _, _, _, _, _, _ => none
  | n + 1, o_packs, o_packed_c, o_latest_c, o_ahead_c, x5, x6, x7 => (if p2 < (x7 + (4 : Int32)) then ((f_X7_literal K o_packs o_tape_n o_tape_c o_packed_n o_packed_c x6 p2).bind fun r2 => (some (r2.1, r2.2, o_latest_c, o_ahead_c))) else (f_X7_pressPart_b85 K o_tape_n o_tape_c o_packed_n o_latest_n o_ahead_n p1 p2 (f_X7_pressPart_b77 K o_tape_n o_tape_c o_packed_n o_latest_n o_ahead_n p1 p2 n) K o_packs o_packed_c o_latest_c o_ahead_c x5 x6 x7))

def f_X7_pressPart_b46 (K : Nat) (o_tape_n : Nat) (o_tape_c : Nat → Int32) (o_packed_n : Nat) (o_latest_n : Nat) (o_ahead_n : Nat) (p1 : Int32) (p2 : Int32) : Nat → Int32 → (Nat → Int32) → (Nat → Int32) → (Nat → Int32) → Int32 → Option (Int32 × (Nat → Int32) × (Nat → Int32) × (Nat → Int32))
  | 0, _, _, _, _, _ => none
  | n + 1, o_packs, o_packed_c, o_latest_c, o_ahead_c, x5 => (if (16384 : Int32) ≤ x5 then (f_X7_pressPart_b77 K o_tape_n o_tape_c o_packed_n o_latest_n o_ahead_n p1 p2 K o_packs o_packed_c o_latest_c o_ahead_c p1 p1 p1) else (ck x5 o_latest_n (f_X7_pressPart_b46 K o_tape_n o_tape_c o_packed_n o_latest_n o_ahead_n p1 p2 n o_packs o_packed_c (upd o_latest_c x5.toNatClampNeg (-1 : Int32)) o_ahead_c (x5 + (1 : Int32)))))

def f_X7_pressPart_b7 (K : Nat) (o_tape_n : Nat) (o_tape_c : Nat → Int32) (o_packed_n : Nat) (o_latest_n : Nat) (o_ahead_n : Nat) (p1 : Int32) (p2 : Int32) : Nat → Int32 → (Nat → Int32) → (Nat → Int32) → (Nat → Int32) → Int32 → Option (Int32 × (Nat → Int32) × (Nat → Int32) × (Nat → Int32))
  | 0, _, _, _, _, _ => none
  | n + 1, o_packs, o_packed_c, o_latest_c, o_ahead_c, x4 => (if x4 ≤ (127 : Int32) then ((f_X7_pack K o_packs o_packed_n o_packed_c x4).bind fun r2 => (f_X7_pressPart_b46 K o_tape_n o_tape_c o_packed_n o_latest_n o_ahead_n p1 p2 K r2.1 r2.2 o_latest_c o_ahead_c (0 : Int32))) else ((f_X7_pack K o_packs o_packed_n o_packed_c ((128 : Int32) ||| (x4 &&& (127 : Int32)))).bind fun r4 => (f_X7_pressPart_b7 K o_tape_n o_tape_c o_packed_n o_latest_n o_ahead_n p1 p2 n r4.1 r4.2 o_latest_c o_ahead_c (x4 >>> ((7 : Int32) &&& 31)))))

/-- SnapHouseModel.pressPart(II)V -/
def f_X7_pressPart (K : Nat) (o_packs : Int32) (o_tape_n : Nat) (o_tape_c : Nat → Int32) (o_packed_n : Nat) (o_packed_c : Nat → Int32) (o_latest_n : Nat) (o_latest_c : Nat → Int32) (o_ahead_n : Nat) (o_ahead_c : Nat → Int32) (p1 : Int32) (p2 : Int32) : Option (Int32 × (Nat → Int32) × (Nat → Int32) × (Nat → Int32)) := (f_X7_pressPart_b7 K o_tape_n o_tape_c o_packed_n o_latest_n o_ahead_n p1 p2 K o_packs o_packed_c o_latest_c o_ahead_c (p2 - p1))

def f_X7_give_o_packed_b2 (K : Nat) (o_out_n : Nat) (o_packed_n : Nat) (o_packed_c : Nat → Int32) (p2 : Int32) : Nat → Int32 → (Nat → Int32) → Int32 → Option (Int32 × (Nat → Int32))
  | 0, _, _, _ => none
  | n + 1, o_outs, o_out_c, x3 => (if p2 ≤ x3 then (some (p2, o_out_c)) else (ck x3 o_packed_n (ck x3 o_out_n (f_X7_give_o_packed_b2 K o_out_n o_packed_n o_packed_c p2 n o_outs (upd o_out_c x3.toNatClampNeg (vp_nar .byte (o_packed_c x3.toNatClampNeg))) (x3 + (1 : Int32))))))

/-- SnapHouseModel.give([BI)V -/
def f_X7_give_o_packed (K : Nat) (o_outs : Int32) (o_out_n : Nat) (o_out_c : Nat → Int32) (o_packed_n : Nat) (o_packed_c : Nat → Int32) (p2 : Int32) : Option (Int32 × (Nat → Int32)) := (f_X7_give_o_packed_b2 K o_out_n o_packed_n o_packed_c p2 K o_outs o_out_c (0 : Int32))

/-- SnapHouseModel.press()I -/
def f_X7_press (K : Nat) (o_taped : Int32) (o_outs : Int32) (o_packs : Int32) (o_thrown : Int32) (o_tape_n : Nat) (o_tape_c : Nat → Int32) (o_out_n : Nat) (o_out_c : Nat → Int32) (o_packed_n : Nat) (o_packed_c : Nat → Int32) (o_latest_n : Nat) (o_latest_c : Nat → Int32) (o_ahead_n : Nat) (o_ahead_c : Nat → Int32) : Option (Int32 × Int32 × Int32 × Int32 × (Nat → Int32) × (Nat → Int32) × (Nat → Int32) × (Nat → Int32)) := ((f_X7_pressPart K (0 : Int32) o_tape_n o_tape_c o_packed_n o_packed_c o_latest_n o_latest_c o_ahead_n o_ahead_c (0 : Int32) o_taped).bind fun r1 => ((f_X7_give_o_packed K o_outs o_out_n o_out_c o_packed_n r1.2.1 r1.1).bind fun r3 => (some (r3.1, r3.1, r1.1, (0 : Int32), r3.2, r1.2.1, r1.2.2.1, r1.2.2.2))))

/-- SnapHouseModel.bad(II)V -/
def f_X7_bad (K : Nat) (o_blockFault : Int32) (o_blockPlace : Int32) (p1 : Int32) (p2 : Int32) : Option (Int32 × Int32) := (if o_blockFault ≤ 0 then (some (p1, p2)) else (some (o_blockFault, o_blockPlace)))
end
section
def f_X7_elementAt_b485 (K : Nat) (o_wanted : Int32) (o_tape_n : Nat) (o_tape_c : Nat → Int32) (o_made_n : Nat) (o_notes_n : Nat) (p1 : Int32) (p2 : Int32) (p3 : Int32) (p4 : Int32) (k437 : Int32 → Int32 → Int32 → Int32 → Int32 → (Nat → Int32) → (Nat → Int32) → Int32 → Int32 → Int64 → Int64 → Int32 → Option (Int32 × Int32 × Int32 × Int32 × Int32 × Int32 × (Nat → Int32) × (Nat → Int32))) (o_mades : Int32) (o_blockFault : Int32) (o_blockPlace : Int32) (o_opened : Int32) (o_literals : Int32) (o_made_c : Nat → Int32) (o_notes_c : Nat → Int32) (x6 : Int32) (x11 : Int32) (x12 : Int64) (x14 : Int64) (x16 : Int32) (t0 : Int32) (t1 : Int32) : Option (Int32 × Int32 × Int32 × Int32 × Int32 × Int32 × (Nat → Int32) × (Nat → Int32)) := (ck t1 o_made_n (k437 (o_mades + (1 : Int32)) o_blockFault o_blockPlace o_opened o_literals (upd o_made_c t1.toNatClampNeg (vp_nar .byte t0)) o_notes_c x6 x11 x12 x14 (x16 + (1 : Int32))))

def f_X7_elementAt_b437 (K : Nat) (o_wanted : Int32) (o_tape_n : Nat) (o_tape_c : Nat → Int32) (o_made_n : Nat) (o_notes_n : Nat) (p1 : Int32) (p2 : Int32) (p3 : Int32) (p4 : Int32) : Nat → Int32 → Int32 → Int32 → Int32 → Int32 → (Nat → Int32) → (Nat → Int32) → Int32 → Int32 → Int64 → Int64 → Int32 → Option (Int32 × Int32 × Int32 × Int32 × Int32 × Int32 × (Nat → Int32) × (Nat → Int32))
  | 0, _, _, _, _, _, _, _, _, _, _, _, _ => none
  | n + 1, o_mades, o_blockFault, o_blockPlace, o_opened, o_literals, o_made_c, o_notes_c, x6, x11, x12, x14, x16 => (if 0 ≤ (lg_cmp (x16.toInt64) x12) then (if x6 = 0 then (some ((x11 + (x12.toInt32)), o_mades, o_blockFault, o_blockPlace, o_opened, o_literals, o_made_c, o_notes_c)) else (some (x11, o_mades, o_blockFault, o_blockPlace, o_opened, o_literals, o_made_c, o_notes_c))) else (if x6 = 0 then (ck (x11 + x16) o_tape_n (f_X7_elementAt_b485 K o_wanted o_tape_n o_tape_c o_made_n o_notes_n p1 p2 p3 p4 (f_X7_elementAt_b437 K o_wanted o_tape_n o_tape_c o_made_n o_notes_n p1 p2 p3 p4 n) o_mades o_blockFault o_blockPlace o_opened o_literals o_made_c o_notes_c x6 x11 x12 x14 x16 (o_tape_c (x11 + x16).toNatClampNeg) o_mades)) else (ck (o_mades - (x14.toInt32)) o_made_n (f_X7_elementAt_b485 K o_wanted o_tape_n o_tape_c o_made_n o_notes_n p1 p2 p3 p4 (f_X7_elementAt_b437 K o_wanted o_tape_n o_tape_c o_made_n o_notes_n p1 p2 p3 p4 n) o_mades o_blockFault o_blockPlace o_opened o_literals o_made_c o_notes_c x6 x11 x12 x14 x16 (o_made_c (o_mades - (x14.toInt32)).toNatClampNeg) o_mades))))

def f_X7_elementAt_b430 (K : Nat) (o_wanted : Int32) (o_tape_n : Nat) (o_tape_c : Nat → Int32) (o_made_n : Nat) (o_notes_n : Nat) (p1 : Int32) (p2 : Int32) (p3 : Int32) (p4 : Int32) (o_mades : Int32) (o_blockFault : Int32) (o_blockPlace : Int32) (o_opened : Int32) (o_literals : Int32) (o_made_c : Nat → Int32) (o_notes_c : Nat → Int32) (x6 : Int32) (x11 : Int32) (x12 : Int64) (x14 : Int64) (t0 : Int32) (t1 : Int32) : Option (Int32 × Int32 × Int32 × Int32 × Int32 × Int32 × (Nat → Int32) × (Nat → Int32)) := (f_X7_elementAt_b437 K o_wanted o_tape_n o_tape_c o_made_n o_notes_n p1 p2 p3 p4 K o_mades o_blockFault o_blockPlace o_opened (t1 + t0) o_made_c o_notes_c x6 x11 x12 x14 (0 : Int32))

def f_X7_elementAt_b405 (K : Nat) (o_wanted : Int32) (o_tape_n : Nat) (o_tape_c : Nat → Int32) (o_made_n : Nat) (o_notes_n : Nat) (p1 : Int32) (p2 : Int32) (p3 : Int32) (p4 : Int32) (o_mades : Int32) (o_blockFault : Int32) (o_blockPlace : Int32) (o_opened : Int32) (o_literals : Int32) (o_made_c : Nat → Int32) (o_notes_c : Nat → Int32) (x6 : Int32) (x11 : Int32) (x12 : Int64) (x14 : Int64) : Option (Int32 × Int32 × Int32 × Int32 × Int32 × Int32 × (Nat → Int32) × (Nat → Int32)) := (if x6 = 0 then (f_X7_elementAt_b430 K o_wanted o_tape_n o_tape_c o_made_n o_notes_n p1 p2 p3 p4 o_mades o_blockFault o_blockPlace (o_opened + (1 : Int32)) o_literals o_made_c o_notes_c x6 x11 x12 x14 (1 : Int32) o_literals) else (f_X7_elementAt_b430 K o_wanted o_tape_n o_tape_c o_made_n o_notes_n p1 p2 p3 p4 o_mades o_blockFault o_blockPlace (o_opened + (1 : Int32)) o_literals o_made_c o_notes_c x6 x11 x12 x14 (0 : Int32) o_literals))

def f_X7_elementAt_b284 (K : Nat) (o_wanted : Int32) (o_tape_n : Nat) (o_tape_c : Nat → Int32) (o_made_n : Nat) (o_notes_n : Nat) (p1 : Int32) (p2 : Int32) (p3 : Int32) (p4 : Int32) (o_mades : Int32) (o_blockFault : Int32) (o_blockPlace : Int32) (o_opened : Int32) (o_literals : Int32) (o_made_c : Nat → Int32) (o_notes_c : Nat → Int32) (x6 : Int32) (x11 : Int32) (x12 : Int64) (x14 : Int64) : Option (Int32 × Int32 × Int32 × Int32 × Int32 × Int32 × (Nat → Int32) × (Nat → Int32)) := (if (lg_cmp (((o_mades - p4).toInt64) + x12) (o_wanted.toInt64)) ≤ 0 then (if (1000 : Int32) ≤ o_opened then (f_X7_elementAt_b405 K o_wanted o_tape_n o_tape_c o_made_n o_notes_n p1 p2 p3 p4 o_mades o_blockFault o_blockPlace o_opened o_literals o_made_c o_notes_c x6 x11 x12 x14) else (ck ((5 : Int32) * o_opened) o_notes_n (ck (((5 : Int32) * o_opened) + (1 : Int32)) o_notes_n (ck (((5 : Int32) * o_opened) + (2 : Int32)) o_notes_n (ck (((5 : Int32) * o_opened) + (3 : Int32)) o_notes_n (ck (((5 : Int32) * o_opened) + (4 : Int32)) o_notes_n (f_X7_elementAt_b405 K o_wanted o_tape_n o_tape_c o_made_n o_notes_n p1 p2 p3 p4 o_mades o_blockFault o_blockPlace o_opened o_literals o_made_c (upd (upd (upd (upd (upd o_notes_c ((5 : Int32) * o_opened).toNatClampNeg x6) (((5 : Int32) * o_opened) + (1 : Int32)).toNatClampNeg (p1 - p2)) (((5 : Int32) * o_opened) + (2 : Int32)).toNatClampNeg (x12.toInt32)) (((5 : Int32) * o_opened) + (3 : Int32)).toNatClampNeg (x14.toInt32)) (((5 : Int32) * o_opened) + (4 : Int32)).toNatClampNeg (o_mades - p4)) x6 x11 x12 x14))))))) else ((f_X7_bad K o_blockFault o_blockPlace (5 : Int32) (p1 - p2)).bind fun r8 => (some (p1, o_mades, r8.1, r8.2, o_opened, o_literals, o_made_c, o_notes_c))))

def f_X7_elementAt_b274 (K : Nat) (o_wanted : Int32) (o_tape_n : Nat) (o_tape_c : Nat → Int32) (o_made_n : Nat) (o_notes_n : Nat) (p1 : Int32) (p2 : Int32) (p3 : Int32) (p4 : Int32) (o_mades : Int32) (o_blockFault : Int32) (o_blockPlace : Int32) (o_opened : Int32) (o_literals : Int32) (o_made_c : Nat → Int32) (o_notes_c : Nat → Int32) : Option (Int32 × Int32 × Int32 × Int32 × Int32 × Int32 × (Nat → Int32) × (Nat → Int32)) := ((f_X7_bad K o_blockFault o_blockPlace (4 : Int32) (p1 - p2)).bind fun r1 => (some (p1, o_mades, r1.1, r1.2, o_opened, o_literals, o_made_c, o_notes_c)))

def f_X7_elementAt_b248 (K : Nat) (o_wanted : Int32) (o_tape_n : Nat) (o_tape_c : Nat → Int32) (o_made_n : Nat) (o_notes_n : Nat) (p1 : Int32) (p2 : Int32) (p3 : Int32) (p4 : Int32) (o_mades : Int32) (o_blockFault : Int32) (o_blockPlace : Int32) (o_opened : Int32) (o_literals : Int32) (o_made_c : Nat → Int32) (o_notes_c : Nat → Int32) (x6 : Int32) (x11 : Int32) (x12 : Int64) (x14 : Int64) : Option (Int32 × Int32 × Int32 × Int32 × Int32 × Int32 × (Nat → Int32) × (Nat → Int32)) := (if x6 ≤ 0 then (f_X7_elementAt_b284 K o_wanted o_tape_n o_tape_c o_made_n o_notes_n p1 p2 p3 p4 o_mades o_blockFault o_blockPlace o_opened o_literals o_made_c o_notes_c x6 x11 x12 x14) else (if (lg_cmp x14 (0 : Int64)) = 0 then (f_X7_elementAt_b274 K o_wanted o_tape_n o_tape_c o_made_n o_notes_n p1 p2 p3 p4 o_mades o_blockFault o_blockPlace o_opened o_literals o_made_c o_notes_c) else (if (lg_cmp x14 ((o_mades - p4).toInt64)) ≤ 0 then (f_X7_elementAt_b284 K o_wanted o_tape_n o_tape_c o_made_n o_notes_n p1 p2 p3 p4 o_mades o_blockFault o_blockPlace o_opened o_literals o_made_c o_notes_c x6 x11 x12 x14) else (f_X7_elementAt_b274 K o_wanted o_tape_n o_tape_c o_made_n o_notes_n p1 p2 p3 p4 o_mades o_blockFault o_blockPlace o_opened o_literals o_made_c o_notes_c))))

def f_X7_elementAt_b220 (K : Nat) (o_wanted : Int32) (o_tape_n : Nat) (o_tape_c : Nat → Int32) (o_made_n : Nat) (o_notes_n : Nat) (p1 : Int32) (p2 : Int32) (p3 : Int32) (p4 : Int32) (o_mades : Int32) (o_blockFault : Int32) (o_blockPlace : Int32) (o_opened : Int32) (o_literals : Int32) (o_made_c : Nat → Int32) (o_notes_c : Nat → Int32) (x6 : Int32) (x11 : Int32) (x12 : Int64) (t0 : Int64) : Option (Int32 × Int32 × Int32 × Int32 × Int32 × Int32 × (Nat → Int32) × (Nat → Int32)) := (if x6 = 0 then (if 0 ≤ (lg_cmp ((p3 - x11).toInt64) x12) then (f_X7_elementAt_b248 K o_wanted o_tape_n o_tape_c o_made_n o_notes_n p1 p2 p3 p4 o_mades o_blockFault o_blockPlace o_opened o_literals o_made_c o_notes_c x6 x11 x12 t0) else ((f_X7_bad K o_blockFault o_blockPlace (3 : Int32) (p1 - p2)).bind fun r3 => (some (p1, o_mades, r3.1, r3.2, o_opened, o_literals, o_made_c, o_notes_c)))) else (f_X7_elementAt_b248 K o_wanted o_tape_n o_tape_c o_made_n o_notes_n p1 p2 p3 p4 o_mades o_blockFault o_blockPlace o_opened o_literals o_made_c o_notes_c x6 x11 x12 t0))

def f_X7_elementAt_b186 (K : Nat) (o_wanted : Int32) (o_tape_n : Nat) (o_tape_c : Nat → Int32) (o_made_n : Nat) (o_notes_n : Nat) (p1 : Int32) (p2 : Int32) (p3 : Int32) (p4 : Int32) (o_mades : Int32) (o_blockFault : Int32) (o_blockPlace : Int32) (o_opened : Int32) (o_literals : Int32) (o_made_c : Nat → Int32) (o_notes_c : Nat → Int32) (x6 : Int32) (x7 : Int32) (x9 : Int64) (x11 : Int32) (t0 : Int64) : Option (Int32 × Int32 × Int32 × Int32 × Int32 × Int32 × (Nat → Int32) × (Nat → Int32)) := (if x6 = 0 then (f_X7_elementAt_b220 K o_wanted o_tape_n o_tape_c o_made_n o_notes_n p1 p2 p3 p4 o_mades o_blockFault o_blockPlace o_opened o_literals o_made_c o_notes_c x6 x11 t0 (0 : Int64)) else (if x6 = (1 : Int32) then (f_X7_elementAt_b220 K o_wanted o_tape_n o_tape_c o_made_n o_notes_n p1 p2 p3 p4 o_mades o_blockFault o_blockPlace o_opened o_literals o_made_c o_notes_c x6 x11 t0 ((((x7 >>> ((3 : Int32) &&& 31)).toInt64) * (256 : Int64)) + x9)) else (f_X7_elementAt_b220 K o_wanted o_tape_n o_tape_c o_made_n o_notes_n p1 p2 p3 p4 o_mades o_blockFault o_blockPlace o_opened o_literals o_made_c o_notes_c x6 x11 t0 x9)))

def f_X7_elementAt_b92 (K : Nat) (o_wanted : Int32) (o_tape_n : Nat) (o_tape_c : Nat → Int32) (o_made_n : Nat) (o_notes_n : Nat) (p1 : Int32) (p2 : Int32) (p3 : Int32) (p4 : Int32) : Nat → Int32 → Int32 → Int32 → Int32 → Int32 → (Nat → Int32) → (Nat → Int32) → Int32 → Int32 → Int32 → Int64 → Int32 → Option (Int32 × Int32 × Int32 × Int32 × Int32 × Int32 × (Nat → Int32) × (Nat → Int32))
  | 0, _, _, _, _, _, _, _, _, _, _, _, _ => none
  | n + 1, o_mades, o_blockFault, o_blockPlace, o_opened, o_literals, o_made_c, o_notes_c, x6, x7, x8, x9, x11 => (if x8 ≤ x11 then (if x6 = 0 then (if (60 : Int32) ≤ x7 then (f_X7_elementAt_b186 K o_wanted o_tape_n o_tape_c o_made_n o_notes_n p1 p2 p3 p4 o_mades o_blockFault o_blockPlace o_opened o_literals o_made_c o_notes_c x6 x7 x9 ((p1 + (1 : Int32)) + x8) (x9 + (1 : Int64))) else (f_X7_elementAt_b186 K o_wanted o_tape_n o_tape_c o_made_n o_notes_n p1 p2 p3 p4 o_mades o_blockFault o_blockPlace o_opened o_literals o_made_c o_notes_c x6 x7 x9 ((p1 + (1 : Int32)) + x8) ((x7.toInt64) + (1 : Int64)))) else (if x6 = (1 : Int32) then (f_X7_elementAt_b186 K o_wanted o_tape_n o_tape_c o_made_n o_notes_n p1 p2 p3 p4 o_mades o_blockFault o_blockPlace o_opened o_literals o_made_c o_notes_c x6 x7 x9 ((p1 + (1 : Int32)) + x8) (((x7 &&& (7 : Int32)).toInt64) + (4 : Int64))) else (f_X7_elementAt_b186 K o_wanted o_tape_n o_tape_c o_made_n o_notes_n p1 p2 p3 p4 o_mades o_blockFault o_blockPlace o_opened o_literals o_made_c o_notes_c x6 x7 x9 ((p1 + (1 : Int32)) + x8) ((x7.toInt64) + (1 : Int64))))) else ((f_X7_at K o_tape_n o_tape_c ((p1 + (1 : Int32)) + x11)).bind fun r5 => (f_X7_elementAt_b92 K o_wanted o_tape_n o_tape_c o_made_n o_notes_n p1 p2 p3 p4 n o_mades o_blockFault o_blockPlace o_opened o_literals o_made_c o_notes_c x6 x7 x8 (x9 ||| ((r5.toInt64) <<< (((8 : Int32) * x11).toInt64 &&& 63))) (x11 + (1 : Int32)))))

def f_X7_elementAt_b64 (K : Nat) (o_wanted : Int32) (o_tape_n : Nat) (o_tape_c : Nat → Int32) (o_made_n : Nat) (o_notes_n : Nat) (p1 : Int32) (p2 : Int32) (p3 : Int32) (p4 : Int32) (o_mades : Int32) (o_blockFault : Int32) (o_blockPlace : Int32) (o_opened : Int32) (o_literals : Int32) (o_made_c : Nat → Int32) (o_notes_c : Nat → Int32) (x6 : Int32) (x7 : Int32) (t0 : Int32) : Option (Int32 × Int32 × Int32 × Int32 × Int32 × Int32 × (Nat → Int32) × (Nat → Int32)) := (if t0 ≤ ((p3 - p1) - (1 : Int32)) then (f_X7_elementAt_b92 K o_wanted o_tape_n o_tape_c o_made_n o_notes_n p1 p2 p3 p4 K o_mades o_blockFault o_blockPlace o_opened o_literals o_made_c o_notes_c x6 x7 t0 (0 : Int64) (0 : Int32)) else ((f_X7_bad K o_blockFault o_blockPlace (3 : Int32) (p1 - p2)).bind fun r2 => (some (p1, o_mades, r2.1, r2.2, o_opened, o_literals, o_made_c, o_notes_c))))

/-- SnapHouseModel.elementAt(IIII)I -/
def f_X7_elementAt (K : Nat) (o_mades : Int32) (o_blockFault : Int32) (o_blockPlace : Int32) (o_opened : Int32) (o_literals : Int32) (o_wanted : Int32) (o_tape_n : Nat) (o_tape_c : Nat → Int32) (o_made_n : Nat) (o_made_c : Nat → Int32) (o_notes_n : Nat) (o_notes_c : Nat → Int32) (p1 : Int32) (p2 : Int32) (p3 : Int32) (p4 : Int32) : Option (Int32 × Int32 × Int32 × Int32 × Int32 × Int32 × (Nat → Int32) × (Nat → Int32)) := ((f_X7_at K o_tape_n o_tape_c p1).bind fun r1 => (if (r1 &&& (3 : Int32)) = 0 then (if (60 : Int32) ≤ (r1 >>> ((2 : Int32) &&& 31)) then (f_X7_elementAt_b64 K o_wanted o_tape_n o_tape_c o_made_n o_notes_n p1 p2 p3 p4 o_mades o_blockFault o_blockPlace o_opened o_literals o_made_c o_notes_c (r1 &&& (3 : Int32)) (r1 >>> ((2 : Int32) &&& 31)) ((r1 >>> ((2 : Int32) &&& 31)) - (59 : Int32))) else (f_X7_elementAt_b64 K o_wanted o_tape_n o_tape_c o_made_n o_notes_n p1 p2 p3 p4 o_mades o_blockFault o_blockPlace o_opened o_literals o_made_c o_notes_c (r1 &&& (3 : Int32)) (r1 >>> ((2 : Int32) &&& 31)) (0 : Int32))) else (if (r1 &&& (3 : Int32)) = (1 : Int32) then (f_X7_elementAt_b64 K o_wanted o_tape_n o_tape_c o_made_n o_notes_n p1 p2 p3 p4 o_mades o_blockFault o_blockPlace o_opened o_literals o_made_c o_notes_c (r1 &&& (3 : Int32)) (r1 >>> ((2 : Int32) &&& 31)) (1 : Int32)) else (if (r1 &&& (3 : Int32)) = (2 : Int32) then (f_X7_elementAt_b64 K o_wanted o_tape_n o_tape_c o_made_n o_notes_n p1 p2 p3 p4 o_mades o_blockFault o_blockPlace o_opened o_literals o_made_c o_notes_c (r1 &&& (3 : Int32)) (r1 >>> ((2 : Int32) &&& 31)) (2 : Int32)) else (f_X7_elementAt_b64 K o_wanted o_tape_n o_tape_c o_made_n o_notes_n p1 p2 p3 p4 o_mades o_blockFault o_blockPlace o_opened o_literals o_made_c o_notes_c (r1 &&& (3 : Int32)) (r1 >>> ((2 : Int32) &&& 31)) (4 : Int32))))))

def f_X7_openPart_b124 (K : Nat) (o_tape_n : Nat) (o_tape_c : Nat → Int32) (o_made_n : Nat) (o_notes_n : Nat) (p1 : Int32) (p2 : Int32) (o_mades : Int32) (o_blockFault : Int32) (o_blockPlace : Int32) (o_opened : Int32) (o_literals : Int32) (o_wanted : Int32) (o_made_c : Nat → Int32) (o_notes_c : Nat → Int32) : Option (Int32 × Int32 × Int32 × Int32 × Int32 × Int32 × (Nat → Int32) × (Nat → Int32)) := ((f_X7_bad K o_blockFault o_blockPlace (1 : Int32) (0 : Int32)).bind fun r1 => (some (o_mades, r1.1, r1.2, o_opened, o_literals, o_wanted, o_made_c, o_notes_c)))

def f_X7_openPart_b181 (K : Nat) (o_tape_n : Nat) (o_tape_c : Nat → Int32) (o_made_n : Nat) (o_notes_n : Nat) (p1 : Int32) (p2 : Int32) (o_mades : Int32) (o_blockFault : Int32) (o_blockPlace : Int32) (o_opened : Int32) (o_literals : Int32) (o_wanted : Int32) (o_made_c : Nat → Int32) (o_notes_c : Nat → Int32) (x3 : Int32) : Option (Int32 × Int32 × Int32 × Int32 × Int32 × Int32 × (Nat → Int32) × (Nat → Int32)) := (if o_blockFault = 0 then (if o_wanted ≤ (o_mades - x3) then (some (o_mades, o_blockFault, o_blockPlace, o_opened, o_literals, o_wanted, o_made_c, o_notes_c)) else ((f_X7_bad K o_blockFault o_blockPlace (6 : Int32) (p2 - p1)).bind fun r3 => (some (o_mades, r3.1, r3.2, o_opened, o_literals, o_wanted, o_made_c, o_notes_c)))) else (some (o_mades, o_blockFault, o_blockPlace, o_opened, o_literals, o_wanted, o_made_c, o_notes_c)))

def f_X7_openPart_b154 (K : Nat) (o_tape_n : Nat) (o_tape_c : Nat → Int32) (o_made_n : Nat) (o_notes_n : Nat) (p1 : Int32) (p2 : Int32) : Nat → Int32 → Int32 → Int32 → Int32 → Int32 → Int32 → (Nat → Int32) → (Nat → Int32) → Int32 → Int32 → Option (Int32 × Int32 × Int32 × Int32 × Int32 × Int32 × (Nat → Int32) × (Nat → Int32))
  | 0, _, _, _, _, _, _, _, _, _, _ => none
  | n + 1, o_mades, o_blockFault, o_blockPlace, o_opened, o_literals, o_wanted, o_made_c, o_notes_c, x3, x6 => (if p2 ≤ x6 then (f_X7_openPart_b181 K o_tape_n o_tape_c o_made_n o_notes_n p1 p2 o_mades o_blockFault o_blockPlace o_opened o_literals o_wanted o_made_c o_notes_c x3) else (if o_blockFault = 0 then ((f_X7_elementAt K o_mades o_blockFault o_blockPlace o_opened o_literals o_wanted o_tape_n o_tape_c o_made_n o_made_c o_notes_n o_notes_c x6 p1 p2 x3).bind fun r3 => (f_X7_openPart_b154 K o_tape_n o_tape_c o_made_n o_notes_n p1 p2 n r3.2.1 r3.2.2.1 r3.2.2.2.1 r3.2.2.2.2.1 r3.2.2.2.2.2.1 o_wanted r3.2.2.2.2.2.2.1 r3.2.2.2.2.2.2.2 x3 r3.1)) else (f_X7_openPart_b181 K o_tape_n o_tape_c o_made_n o_notes_n p1 p2 o_mades o_blockFault o_blockPlace o_opened o_literals o_wanted o_made_c o_notes_c x3)))

def f_X7_openPart_b109 (K : Nat) (o_tape_n : Nat) (o_tape_c : Nat → Int32) (o_made_n : Nat) (o_notes_n : Nat) (p1 : Int32) (p2 : Int32) (o_mades : Int32) (o_blockFault : Int32) (o_blockPlace : Int32) (o_opened : Int32) (o_literals : Int32) (o_wanted : Int32) (o_made_c : Nat → Int32) (o_notes_c : Nat → Int32) (x3 : Int32) (x4 : Int64) (x6 : Int32) (x7 : Int32) : Option (Int32 × Int32 × Int32 × Int32 × Int32 × Int32 × (Nat → Int32) × (Nat → Int32)) := (if x7 = 0 then (if (lg_cmp (x4 >>> ((32 : Int32).toInt64 &&& 63)) (0 : Int64)) = 0 then (if (lg_cmp x4 (20000 : Int64)) ≤ 0 then (f_X7_openPart_b154 K o_tape_n o_tape_c o_made_n o_notes_n p1 p2 K o_mades o_blockFault o_blockPlace o_opened o_literals (x4.toInt32) o_made_c o_notes_c x3 x6) else ((f_X7_bad K o_blockFault o_blockPlace (2 : Int32) (0 : Int32)).bind fun r4 => (some (o_mades, r4.1, r4.2, o_opened, o_literals, o_wanted, o_made_c, o_notes_c)))) else (f_X7_openPart_b124 K o_tape_n o_tape_c o_made_n o_notes_n p1 p2 o_mades o_blockFault o_blockPlace o_opened o_literals o_wanted o_made_c o_notes_c)) else (f_X7_openPart_b124 K o_tape_n o_tape_c o_made_n o_notes_n p1 p2 o_mades o_blockFault o_blockPlace o_opened o_literals o_wanted o_made_c o_notes_c))

def f_X7_openPart_b37 (K : Nat) (o_tape_n : Nat) (o_tape_c : Nat → Int32) (o_made_n : Nat) (o_notes_n : Nat) (p1 : Int32) (p2 : Int32) : Nat → Int32 → Int32 → Int32 → Int32 → Int32 → Int32 → (Nat → Int32) → (Nat → Int32) → Int32 → Int64 → Int32 → Int32 → Int32 → Option (Int32 × Int32 × Int32 × Int32 × Int32 × Int32 × (Nat → Int32) × (Nat → Int32))
  | 0, _, _, _, _, _, _, _, _, _, _, _, _, _ => none
  | n + 1, o_mades, o_blockFault, o_blockPlace, o_opened, o_literals, o_wanted, o_made_c, o_notes_c, x3, x4, x6, x7, x8 => (if (5 : Int32) ≤ x8 then (f_X7_openPart_b109 K o_tape_n o_tape_c o_made_n o_notes_n p1 p2 o_mades o_blockFault o_blockPlace o_opened o_literals o_wanted o_made_c o_notes_c x3 x4 x6 x7) else (if x7 = 0 then (f_X7_openPart_b109 K o_tape_n o_tape_c o_made_n o_notes_n p1 p2 o_mades o_blockFault o_blockPlace o_opened o_literals o_wanted o_made_c o_notes_c x3 x4 x6 x7) else (if x6 = p2 then ((f_X7_bad K o_blockFault o_blockPlace (1 : Int32) (0 : Int32)).bind fun r9 => (some (o_mades, r9.1, r9.2, o_opened, o_literals, o_wanted, o_made_c, o_notes_c))) else ((f_X7_at K o_tape_n o_tape_c x6).bind fun r4 => ((f_X7_at K o_tape_n o_tape_c x6).bind fun r6 => (if r6 ≤ (127 : Int32) then (f_X7_openPart_b37 K o_tape_n o_tape_c o_made_n o_notes_n p1 p2 n o_mades o_blockFault o_blockPlace o_opened o_literals o_wanted o_made_c o_notes_c x3 (x4 ||| (((r4 &&& (127 : Int32)).toInt64) <<< (((7 : Int32) * x8).toInt64 &&& 63))) (x6 + (1 : Int32)) (0 : Int32) (x8 + (1 : Int32))) else (f_X7_openPart_b37 K o_tape_n o_tape_c o_made_n o_notes_n p1 p2 n o_mades o_blockFault o_blockPlace o_opened o_literals o_wanted o_made_c o_notes_c x3 (x4 ||| (((r4 &&& (127 : Int32)).toInt64) <<< (((7 : Int32) * x8).toInt64 &&& 63))) (x6 + (1 : Int32)) (1 : Int32) (x8 + (1 : Int32)))))))))

/-- SnapHouseModel.openPart(II)V -/
def f_X7_openPart (K : Nat) (o_mades : Int32) (o_blockFault : Int32) (o_blockPlace : Int32) (o_opened : Int32) (o_literals : Int32) (o_wanted : Int32) (o_tape_n : Nat) (o_tape_c : Nat → Int32) (o_made_n : Nat) (o_made_c : Nat → Int32) (o_notes_n : Nat) (o_notes_c : Nat → Int32) (p1 : Int32) (p2 : Int32) : Option (Int32 × Int32 × Int32 × Int32 × Int32 × Int32 × (Nat → Int32) × (Nat → Int32)) := (f_X7_openPart_b37 K o_tape_n o_tape_c o_made_n o_notes_n p1 p2 K o_mades (0 : Int32) (-1 : Int32) (0 : Int32) (0 : Int32) o_wanted o_made_c o_notes_c o_mades (0 : Int64) p1 (1 : Int32) (0 : Int32))

/-- SnapHouseModel.told(IIII)V -/
def f_X7_told (K : Nat) (o_faultNumber : Int32) (o_faultPlace : Int32) (o_faultInner : Int32) (o_faultInnerPlace : Int32) (p1 : Int32) (p2 : Int32) (p3 : Int32) (p4 : Int32) : Option (Int32 × Int32 × Int32 × Int32) := (some (p1, p2, p3, p4))

def f_X7_give_o_made_b2 (K : Nat) (o_out_n : Nat) (o_made_n : Nat) (o_made_c : Nat → Int32) (p2 : Int32) : Nat → Int32 → (Nat → Int32) → Int32 → Option (Int32 × (Nat → Int32))
  | 0, _, _, _ => none
  | n + 1, o_outs, o_out_c, x3 => (if p2 ≤ x3 then (some (p2, o_out_c)) else (ck x3 o_made_n (ck x3 o_out_n (f_X7_give_o_made_b2 K o_out_n o_made_n o_made_c p2 n o_outs (upd o_out_c x3.toNatClampNeg (vp_nar .byte (o_made_c x3.toNatClampNeg))) (x3 + (1 : Int32))))))

/-- SnapHouseModel.give([BI)V -/
def f_X7_give_o_made (K : Nat) (o_outs : Int32) (o_out_n : Nat) (o_out_c : Nat → Int32) (o_made_n : Nat) (o_made_c : Nat → Int32) (p2 : Int32) : Option (Int32 × (Nat → Int32)) := (f_X7_give_o_made_b2 K o_out_n o_made_n o_made_c p2 K o_outs o_out_c (0 : Int32))

def f_X7_open_b73 (K : Nat) (o_taped : Int32) (o_tape_n : Nat) (o_tape_c : Nat → Int32) (o_out_n : Nat) (o_made_n : Nat) (o_notes_n : Nat) (o_elements_n : Nat) : Nat → Int32 → Int32 → Int32 → Int32 → Int32 → Int32 → Int32 → Int32 → Int32 → Int32 → Int32 → Int32 → Int32 → Int32 → (Nat → Int32) → (Nat → Int32) → (Nat → Int32) → (Nat → Int32) → Int32 → Option (Int32 × Int32 × Int32 × Int32 × Int32 × Int32 × Int32 × Int32 × Int32 × Int32 × Int32 × Int32 × Int32 × Int32 × Int32 × (Nat → Int32) × (Nat → Int32) × (Nat → Int32) × (Nat → Int32))
  | 0, _, _, _, _, _, _, _, _, _, _, _, _, _, _, _, _, _, _, _ => none
  | n + 1, o_outs, o_mades, o_thrown, o_blockFault, o_blockPlace, o_opened, o_literals, o_wanted, o_elementMany, o_literalMany, o_faultNumber, o_faultPlace, o_faultInner, o_faultInnerPlace, o_out_c, o_made_c, o_notes_c, o_elements_c, x1 => (if ((5 : Int32) * o_opened) ≤ x1 then (some (o_outs, o_outs, o_mades, o_thrown, o_blockFault, o_blockPlace, o_opened, o_literals, o_wanted, o_elementMany, o_literalMany, o_faultNumber, o_faultPlace, o_faultInner, o_faultInnerPlace, o_out_c, o_made_c, o_notes_c, o_elements_c)) else (if (5000 : Int32) ≤ x1 then (some (o_outs, o_outs, o_mades, o_thrown, o_blockFault, o_blockPlace, o_opened, o_literals, o_wanted, o_elementMany, o_literalMany, o_faultNumber, o_faultPlace, o_faultInner, o_faultInnerPlace, o_out_c, o_made_c, o_notes_c, o_elements_c)) else (ck x1 o_notes_n (ck x1 o_elements_n (f_X7_open_b73 K o_taped o_tape_n o_tape_c o_out_n o_made_n o_notes_n o_elements_n n o_outs o_mades o_thrown o_blockFault o_blockPlace o_opened o_literals o_wanted o_elementMany o_literalMany o_faultNumber o_faultPlace o_faultInner o_faultInnerPlace o_out_c o_made_c o_notes_c (upd o_elements_c x1.toNatClampNeg (o_notes_c x1.toNatClampNeg)) (x1 + (1 : Int32)))))))

/-- SnapHouseModel.open()I -/
def f_X7_open (K : Nat) (o_taped : Int32) (o_outs : Int32) (o_mades : Int32) (o_thrown : Int32) (o_blockFault : Int32) (o_blockPlace : Int32) (o_opened : Int32) (o_literals : Int32) (o_wanted : Int32) (o_elementMany : Int32) (o_literalMany : Int32) (o_faultNumber : Int32) (o_faultPlace : Int32) (o_faultInner : Int32) (o_faultInnerPlace : Int32) (o_tape_n : Nat) (o_tape_c : Nat → Int32) (o_out_n : Nat) (o_out_c : Nat → Int32) (o_made_n : Nat) (o_made_c : Nat → Int32) (o_notes_n : Nat) (o_notes_c : Nat → Int32) (o_elements_n : Nat) (o_elements_c : Nat → Int32) : Option (Int32 × Int32 × Int32 × Int32 × Int32 × Int32 × Int32 × Int32 × Int32 × Int32 × Int32 × Int32 × Int32 × Int32 × Int32 × (Nat → Int32) × (Nat → Int32) × (Nat → Int32) × (Nat → Int32)) := ((f_X7_openPart K (0 : Int32) o_blockFault o_blockPlace o_opened o_literals o_wanted o_tape_n o_tape_c o_made_n o_made_c o_notes_n o_notes_c (0 : Int32) o_taped).bind fun r1 => ((f_X7_told K o_faultNumber o_faultPlace o_faultInner o_faultInnerPlace r1.2.1 r1.2.2.1 (0 : Int32) (-1 : Int32)).bind fun r3 => (if r1.2.1 ≤ 0 then ((f_X7_give_o_made K o_outs o_out_n o_out_c o_made_n r1.2.2.2.2.2.2.1 r1.1).bind fun r6 => (f_X7_open_b73 K o_taped o_tape_n o_tape_c o_out_n o_made_n o_notes_n o_elements_n K r6.1 r1.1 (0 : Int32) r1.2.1 r1.2.2.1 r1.2.2.2.1 r1.2.2.2.2.1 r1.2.2.2.2.2.1 r1.2.2.2.1 r1.2.2.2.2.1 r3.1 r3.2.1 r3.2.2.1 r3.2.2.2 r6.2 r1.2.2.2.2.2.2.1 r1.2.2.2.2.2.2.2 o_elements_c (0 : Int32))) else (some ((-2 : Int32), o_outs, r1.1, (0 : Int32), r1.2.1, r1.2.2.1, r1.2.2.2.1, r1.2.2.2.2.1, r1.2.2.2.2.2.1, o_elementMany, o_literalMany, r3.1, r3.2.1, r3.2.2.1, r3.2.2.2, o_out_c, r1.2.2.2.2.2.2.1, r1.2.2.2.2.2.2.2, o_elements_c)))))

/-- SnapHouseModel.add(I)V -/
def f_X7_add (K : Nat) (o_mades : Int32) (o_isFull : Int32) (o_made_n : Nat) (o_made_c : Nat → Int32) (p1 : Int32) : Option (Int32 × Int32 × (Nat → Int32)) := (if o_mades = (24000 : Int32) then (some (o_mades, (1 : Int32), o_made_c)) else (ck o_mades o_made_n (some ((o_mades + (1 : Int32)), o_isFull, (upd o_made_c o_mades.toNatClampNeg (vp_nar .byte (p1.toInt8.toInt32)))))))

/-- SnapHouseModel.name(I)I -/
def f_X7_name (K : Nat) (p1 : Int32) : Option (Int32) := (if p1 = (0 : Int32) then (some (115 : Int32)) else (if p1 = (1 : Int32) then (some (78 : Int32)) else (if p1 = (2 : Int32) then (some (97 : Int32)) else (if p1 = (3 : Int32) then (some (80 : Int32)) else (if p1 = (4 : Int32) then (some (112 : Int32)) else (some (89 : Int32)))))))

def f_X7_sumOf_o_tape_b6 (K : Nat) (o_tape_n : Nat) (o_tape_c : Nat → Int32) (o_sums_n : Nat) (o_sums_c : Nat → Int32) (p2 : Int32) (p3 : Int32) : Nat → Int32 → Int32 → Option (Int32)
  | 0, _, _ => none
  | n + 1, x4, x5 => (if p3 ≤ x5 then (some (x4 ^^^ (-1 : Int32))) else (ck x5 o_tape_n (ck ((x4 ^^^ (o_tape_c x5.toNatClampNeg)) &&& (255 : Int32)) o_sums_n (f_X7_sumOf_o_tape_b6 K o_tape_n o_tape_c o_sums_n o_sums_c p2 p3 n ((o_sums_c ((x4 ^^^ (o_tape_c x5.toNatClampNeg)) &&& (255 : Int32)).toNatClampNeg) ^^^ (ushr x4 (8 : Int32))) (x5 + (1 : Int32))))))

/-- SnapHouseModel.sumOf([BII)I -/
def f_X7_sumOf_o_tape (K : Nat) (o_tape_n : Nat) (o_tape_c : Nat → Int32) (o_sums_n : Nat) (o_sums_c : Nat → Int32) (p2 : Int32) (p3 : Int32) : Option (Int32) := (f_X7_sumOf_o_tape_b6 K o_tape_n o_tape_c o_sums_n o_sums_c p2 p3 K (-1 : Int32) p2)

/-- SnapHouseModel.masked(I)I -/
def f_X7_masked (K : Nat) (p1 : Int32) : Option (Int32) := (some (((ushr p1 (15 : Int32)) ||| (p1 <<< ((17 : Int32) &&& 31))) + (-1568478504 : Int32)))

def f_X7_piece_b185 (K : Nat) (o_tape_n : Nat) (o_tape_c : Nat → Int32) (o_made_n : Nat) (o_packed_n : Nat) (o_latest_n : Nat) (o_ahead_n : Nat) (o_sums_n : Nat) (o_sums_c : Nat → Int32) (p1 : Int32) (p2 : Int32) : Nat → Int32 → Int32 → Int32 → (Nat → Int32) → (Nat → Int32) → (Nat → Int32) → (Nat → Int32) → Int32 → Option (Int32 × Int32 × Int32 × (Nat → Int32) × (Nat → Int32) × (Nat → Int32) × (Nat → Int32))
  | 0, _, _, _, _, _, _, _, _ => none
  | n + 1, o_mades, o_packs, o_isFull, o_made_c, o_packed_c, o_latest_c, o_ahead_c, x7 => (if p2 ≤ x7 then (some (o_mades, o_packs, o_isFull, o_made_c, o_packed_c, o_latest_c, o_ahead_c)) else (ck x7 o_tape_n ((f_X7_add K o_mades o_isFull o_made_n o_made_c (o_tape_c x7.toNatClampNeg)).bind fun r3 => (f_X7_piece_b185 K o_tape_n o_tape_c o_made_n o_packed_n o_latest_n o_ahead_n o_sums_n o_sums_c p1 p2 n r3.1 o_packs r3.2.1 r3.2.2 o_packed_c o_latest_c o_ahead_c (x7 + (1 : Int32))))))

def f_X7_piece_b153 (K : Nat) (o_tape_n : Nat) (o_tape_c : Nat → Int32) (o_made_n : Nat) (o_packed_n : Nat) (o_latest_n : Nat) (o_ahead_n : Nat) (o_sums_n : Nat) (o_sums_c : Nat → Int32) (p1 : Int32) (p2 : Int32) : Nat → Int32 → Int32 → Int32 → (Nat → Int32) → (Nat → Int32) → (Nat → Int32) → (Nat → Int32) → Int32 → Option (Int32 × Int32 × Int32 × (Nat → Int32) × (Nat → Int32) × (Nat → Int32) × (Nat → Int32))
  | 0, _, _, _, _, _, _, _, _ => none
  | n + 1, o_mades, o_packs, o_isFull, o_made_c, o_packed_c, o_latest_c, o_ahead_c, x7 => (if o_packs ≤ x7 then (some (o_mades, o_packs, o_isFull, o_made_c, o_packed_c, o_latest_c, o_ahead_c)) else (ck x7 o_packed_n ((f_X7_add K o_mades o_isFull o_made_n o_made_c (o_packed_c x7.toNatClampNeg)).bind fun r3 => (f_X7_piece_b153 K o_tape_n o_tape_c o_made_n o_packed_n o_latest_n o_ahead_n o_sums_n o_sums_c p1 p2 n r3.1 o_packs r3.2.1 r3.2.2 o_packed_c o_latest_c o_ahead_c (x7 + (1 : Int32))))))

def f_X7_piece_b117 (K : Nat) (o_tape_n : Nat) (o_tape_c : Nat → Int32) (o_made_n : Nat) (o_packed_n : Nat) (o_latest_n : Nat) (o_ahead_n : Nat) (o_sums_n : Nat) (o_sums_c : Nat → Int32) (p1 : Int32) (p2 : Int32) : Nat → Int32 → Int32 → Int32 → (Nat → Int32) → (Nat → Int32) → (Nat → Int32) → (Nat → Int32) → Int32 → Int32 → Int32 → Option (Int32 × Int32 × Int32 × (Nat → Int32) × (Nat → Int32) × (Nat → Int32) × (Nat → Int32))
  | 0, _, _, _, _, _, _, _, _, _, _ => none
  | n + 1, o_mades, o_packs, o_isFull, o_made_c, o_packed_c, o_latest_c, o_ahead_c, x4, x6, x7 => (if (4 : Int32) ≤ x7 then (if x4 = 0 then (f_X7_piece_b185 K o_tape_n o_tape_c o_made_n o_packed_n o_latest_n o_ahead_n o_sums_n o_sums_c p1 p2 K o_mades o_packs o_isFull o_made_c o_packed_c o_latest_c o_ahead_c p1) else (f_X7_piece_b153 K o_tape_n o_tape_c o_made_n o_packed_n o_latest_n o_ahead_n o_sums_n o_sums_c p1 p2 K o_mades o_packs o_isFull o_made_c o_packed_c o_latest_c o_ahead_c (0 : Int32))) else ((f_X7_add K o_mades o_isFull o_made_n o_made_c ((x6 >>> (((8 : Int32) * x7) &&& 31)) &&& (255 : Int32))).bind fun r3 => (f_X7_piece_b117 K o_tape_n o_tape_c o_made_n o_packed_n o_latest_n o_ahead_n o_sums_n o_sums_c p1 p2 n r3.1 o_packs r3.2.1 r3.2.2 o_packed_c o_latest_c o_ahead_c x4 x6 (x7 + (1 : Int32)))))

def f_X7_piece_b79 (K : Nat) (o_tape_n : Nat) (o_tape_c : Nat → Int32) (o_made_n : Nat) (o_packed_n : Nat) (o_latest_n : Nat) (o_ahead_n : Nat) (o_sums_n : Nat) (o_sums_c : Nat → Int32) (p1 : Int32) (p2 : Int32) (o_mades : Int32) (o_packs : Int32) (o_isFull : Int32) (o_made_c : Nat → Int32) (o_packed_c : Nat → Int32) (o_latest_c : Nat → Int32) (o_ahead_c : Nat → Int32) (x4 : Int32) (x5 : Int32) (x6 : Int32) (t0 : Int32) : Option (Int32 × Int32 × Int32 × (Nat → Int32) × (Nat → Int32) × (Nat → Int32) × (Nat → Int32)) := ((f_X7_add K o_mades o_isFull o_made_n o_made_c t0).bind fun r1 => ((f_X7_add K r1.1 r1.2.1 o_made_n r1.2.2 (x5 &&& (255 : Int32))).bind fun r3 => ((f_X7_add K r3.1 r3.2.1 o_made_n r3.2.2 ((x5 >>> ((8 : Int32) &&& 31)) &&& (255 : Int32))).bind fun r5 => ((f_X7_add K r5.1 r5.2.1 o_made_n r5.2.2 (x5 >>> ((16 : Int32) &&& 31))).bind fun r7 => (f_X7_piece_b117 K o_tape_n o_tape_c o_made_n o_packed_n o_latest_n o_ahead_n o_sums_n o_sums_c p1 p2 K r7.1 o_packs r7.2.1 r7.2.2 o_packed_c o_latest_c o_ahead_c x4 x6 (0 : Int32))))))

def f_X7_piece_b49 (K : Nat) (o_tape_n : Nat) (o_tape_c : Nat → Int32) (o_made_n : Nat) (o_packed_n : Nat) (o_latest_n : Nat) (o_ahead_n : Nat) (o_sums_n : Nat) (o_sums_c : Nat → Int32) (p1 : Int32) (p2 : Int32) (o_mades : Int32) (o_packs : Int32) (o_isFull : Int32) (o_made_c : Nat → Int32) (o_packed_c : Nat → Int32) (o_latest_c : Nat → Int32) (o_ahead_c : Nat → Int32) (x4 : Int32) (t0 : Int32) (t1 : Int32) : Option (Int32 × Int32 × Int32 × (Nat → Int32) × (Nat → Int32) × (Nat → Int32) × (Nat → Int32)) := ((f_X7_sumOf_o_tape K o_tape_n o_tape_c o_sums_n o_sums_c p1 p2).bind fun r1 => ((f_X7_masked K r1).bind fun r3 => (if x4 = 0 then (f_X7_piece_b79 K o_tape_n o_tape_c o_made_n o_packed_n o_latest_n o_ahead_n o_sums_n o_sums_c p1 p2 o_mades o_packs o_isFull o_made_c o_packed_c o_latest_c o_ahead_c x4 (t1 + t0) r3 (1 : Int32)) else (f_X7_piece_b79 K o_tape_n o_tape_c o_made_n o_packed_n o_latest_n o_ahead_n o_sums_n o_sums_c p1 p2 o_mades o_packs o_isFull o_made_c o_packed_c o_latest_c o_ahead_c x4 (t1 + t0) r3 (0 : Int32)))))

def f_X7_piece_b33 (K : Nat) (o_tape_n : Nat) (o_tape_c : Nat → Int32) (o_made_n : Nat) (o_packed_n : Nat) (o_latest_n : Nat) (o_ahead_n : Nat) (o_sums_n : Nat) (o_sums_c : Nat → Int32) (p1 : Int32) (p2 : Int32) (o_mades : Int32) (o_packs : Int32) (o_isFull : Int32) (o_made_c : Nat → Int32) (o_packed_c : Nat → Int32) (o_latest_c : Nat → Int32) (o_ahead_c : Nat → Int32) (x3 : Int32) (t0 : Int32) : Option (Int32 × Int32 × Int32 × (Nat → Int32) × (Nat → Int32) × (Nat → Int32) × (Nat → Int32)) := (if t0 = 0 then (f_X7_piece_b49 K o_tape_n o_tape_c o_made_n o_packed_n o_latest_n o_ahead_n o_sums_n o_sums_c p1 p2 o_mades o_packs o_isFull o_made_c o_packed_c o_latest_c o_ahead_c t0 x3 (4 : Int32)) else (f_X7_piece_b49 K o_tape_n o_tape_c o_made_n o_packed_n o_latest_n o_ahead_n o_sums_n o_sums_c p1 p2 o_mades o_packs o_isFull o_made_c o_packed_c o_latest_c o_ahead_c t0 o_packs (4 : Int32)))

/-- SnapHouseModel.piece(II)V -/
def f_X7_piece (K : Nat) (o_mades : Int32) (o_packs : Int32) (o_isFull : Int32) (o_tape_n : Nat) (o_tape_c : Nat → Int32) (o_made_n : Nat) (o_made_c : Nat → Int32) (o_packed_n : Nat) (o_packed_c : Nat → Int32) (o_latest_n : Nat) (o_latest_c : Nat → Int32) (o_ahead_n : Nat) (o_ahead_c : Nat → Int32) (o_sums_n : Nat) (o_sums_c : Nat → Int32) (p1 : Int32) (p2 : Int32) : Option (Int32 × Int32 × Int32 × (Nat → Int32) × (Nat → Int32) × (Nat → Int32) × (Nat → Int32)) := ((f_X7_pressPart K (0 : Int32) o_tape_n o_tape_c o_packed_n o_packed_c o_latest_n o_latest_c o_ahead_n o_ahead_c p1 p2).bind fun r1 => (if ((p2 - p1) - ((p2 - p1) / (8 : Int32))) ≤ r1.1 then (f_X7_piece_b33 K o_tape_n o_tape_c o_made_n o_packed_n o_latest_n o_ahead_n o_sums_n o_sums_c p1 p2 o_mades r1.1 o_isFull o_made_c r1.2.1 r1.2.2.1 r1.2.2.2 (p2 - p1) (0 : Int32)) else (f_X7_piece_b33 K o_tape_n o_tape_c o_made_n o_packed_n o_latest_n o_ahead_n o_sums_n o_sums_c p1 p2 o_mades r1.1 o_isFull o_made_c r1.2.1 r1.2.2.1 r1.2.2.2 (p2 - p1) (1 : Int32))))

def f_X7_stream_b124 (K : Nat) (o_taped : Int32) (o_tape_n : Nat) (o_tape_c : Nat → Int32) (o_out_n : Nat) (o_made_n : Nat) (o_packed_n : Nat) (o_latest_n : Nat) (o_ahead_n : Nat) (o_sums_n : Nat) (o_sums_c : Nat → Int32) (p1 : Int32) (o_outs : Int32) (o_mades : Int32) (o_packs : Int32) (o_thrown : Int32) (o_isFull : Int32) (o_out_c : Nat → Int32) (o_made_c : Nat → Int32) (o_packed_c : Nat → Int32) (o_latest_c : Nat → Int32) (o_ahead_c : Nat → Int32) : Option (Int32 × Int32 × Int32 × Int32 × Int32 × Int32 × (Nat → Int32) × (Nat → Int32) × (Nat → Int32) × (Nat → Int32) × (Nat → Int32)) := (if o_isFull = 0 then ((f_X7_give_o_made K o_outs o_out_n o_out_c o_made_n o_made_c o_mades).bind fun r2 => (some (r2.1, r2.1, o_mades, o_packs, o_thrown, o_isFull, r2.2, o_made_c, o_packed_c, o_latest_c, o_ahead_c))) else (some ((-1 : Int32), o_outs, o_mades, o_packs, o_thrown, o_isFull, o_out_c, o_made_c, o_packed_c, o_latest_c, o_ahead_c)))

def f_X7_stream_b114 (K : Nat) (o_taped : Int32) (o_tape_n : Nat) (o_tape_c : Nat → Int32) (o_out_n : Nat) (o_made_n : Nat) (o_packed_n : Nat) (o_latest_n : Nat) (o_ahead_n : Nat) (o_sums_n : Nat) (o_sums_c : Nat → Int32) (p1 : Int32) (k77 : Int32 → Int32 → Int32 → Int32 → Int32 → (Nat → Int32) → (Nat → Int32) → (Nat → Int32) → (Nat → Int32) → (Nat → Int32) → Int32 → Option (Int32 × Int32 × Int32 × Int32 × Int32 × Int32 × (Nat → Int32) × (Nat → Int32) × (Nat → Int32) × (Nat → Int32) × (Nat → Int32))) (o_outs : Int32) (o_mades : Int32) (o_packs : Int32) (o_thrown : Int32) (o_isFull : Int32) (o_out_c : Nat → Int32) (o_made_c : Nat → Int32) (o_packed_c : Nat → Int32) (o_latest_c : Nat → Int32) (o_ahead_c : Nat → Int32) (x2 : Int32) (t0 : Int32) (t1 : Int32) : Option (Int32 × Int32 × Int32 × Int32 × Int32 × Int32 × (Nat → Int32) × (Nat → Int32) × (Nat → Int32) × (Nat → Int32) × (Nat → Int32)) := ((f_X7_piece K o_mades o_packs o_isFull o_tape_n o_tape_c o_made_n o_made_c o_packed_n o_packed_c o_latest_n o_latest_c o_ahead_n o_ahead_c o_sums_n o_sums_c t1 t0).bind fun r1 => (k77 o_outs r1.1 r1.2.1 o_thrown r1.2.2.1 o_out_c r1.2.2.2.1 r1.2.2.2.2.1 r1.2.2.2.2.2.1 r1.2.2.2.2.2.2 (x2 + p1)))

def f_X7_stream_b77 (K : Nat) (o_taped : Int32) (o_tape_n : Nat) (o_tape_c : Nat → Int32) (o_out_n : Nat) (o_made_n : Nat) (o_packed_n : Nat) (o_latest_n : Nat) (o_ahead_n : Nat) (o_sums_n : Nat) (o_sums_c : Nat → Int32) (p1 : Int32) : Nat → Int32 → Int32 → Int32 → Int32 → Int32 → (Nat → Int32) → (Nat → Int32) → (Nat → Int32) → (Nat → Int32) → (Nat → Int32) → Int32 → Option (Int32 × Int32 × Int32 × Int32 × Int32 × Int32 × (Nat → Int32) × (Nat → Int32) × (Nat → Int32) × (Nat → Int32) × (Nat → Int32))
  | 0, _, _, _, _, _, _, _, _, _, _, _ => none
  | n + 1, o_outs, o_mades, o_packs, o_thrown, o_isFull, o_out_c, o_made_c, o_packed_c, o_latest_c, o_ahead_c, x2 => (if o_taped ≤ x2 then (f_X7_stream_b124 K o_taped o_tape_n o_tape_c o_out_n o_made_n o_packed_n o_latest_n o_ahead_n o_sums_n o_sums_c p1 o_outs o_mades o_packs o_thrown o_isFull o_out_c o_made_c o_packed_c o_latest_c o_ahead_c) else (if o_isFull = 0 then (if p1 ≤ (o_taped - x2) then (f_X7_stream_b114 K o_taped o_tape_n o_tape_c o_out_n o_made_n o_packed_n o_latest_n o_ahead_n o_sums_n o_sums_c p1 (f_X7_stream_b77 K o_taped o_tape_n o_tape_c o_out_n o_made_n o_packed_n o_latest_n o_ahead_n o_sums_n o_sums_c p1 n) o_outs o_mades o_packs o_thrown o_isFull o_out_c o_made_c o_packed_c o_latest_c o_ahead_c x2 (x2 + p1) x2) else (f_X7_stream_b114 K o_taped o_tape_n o_tape_c o_out_n o_made_n o_packed_n o_latest_n o_ahead_n o_sums_n o_sums_c p1 (f_X7_stream_b77 K o_taped o_tape_n o_tape_c o_out_n o_made_n o_packed_n o_latest_n o_ahead_n o_sums_n o_sums_c p1 n) o_outs o_mades o_packs o_thrown o_isFull o_out_c o_made_c o_packed_c o_latest_c o_ahead_c x2 o_taped x2)) else (f_X7_stream_b124 K o_taped o_tape_n o_tape_c o_out_n o_made_n o_packed_n o_latest_n o_ahead_n o_sums_n o_sums_c p1 o_outs o_mades o_packs o_thrown o_isFull o_out_c o_made_c o_packed_c o_latest_c o_ahead_c)))

def f_X7_stream_b54 (K : Nat) (o_taped : Int32) (o_tape_n : Nat) (o_tape_c : Nat → Int32) (o_out_n : Nat) (o_made_n : Nat) (o_packed_n : Nat) (o_latest_n : Nat) (o_ahead_n : Nat) (o_sums_n : Nat) (o_sums_c : Nat → Int32) (p1 : Int32) : Nat → Int32 → Int32 → Int32 → Int32 → Int32 → (Nat → Int32) → (Nat → Int32) → (Nat → Int32) → (Nat → Int32) → (Nat → Int32) → Int32 → Option (Int32 × Int32 × Int32 × Int32 × Int32 × Int32 × (Nat → Int32) × (Nat → Int32) × (Nat → Int32) × (Nat → Int32) × (Nat → Int32))
  | 0, _, _, _, _, _, _, _, _, _, _, _ => none
  | n + 1, o_outs, o_mades, o_packs, o_thrown, o_isFull, o_out_c, o_made_c, o_packed_c, o_latest_c, o_ahead_c, x2 => (if (6 : Int32) ≤ x2 then (f_X7_stream_b77 K o_taped o_tape_n o_tape_c o_out_n o_made_n o_packed_n o_latest_n o_ahead_n o_sums_n o_sums_c p1 K o_outs o_mades o_packs o_thrown o_isFull o_out_c o_made_c o_packed_c o_latest_c o_ahead_c (0 : Int32)) else ((f_X7_name K x2).bind fun r2 => ((f_X7_add K o_mades o_isFull o_made_n o_made_c r2).bind fun r4 => (f_X7_stream_b54 K o_taped o_tape_n o_tape_c o_out_n o_made_n o_packed_n o_latest_n o_ahead_n o_sums_n o_sums_c p1 n o_outs r4.1 o_packs o_thrown r4.2.1 o_out_c r4.2.2 o_packed_c o_latest_c o_ahead_c (x2 + (1 : Int32))))))

/-- SnapHouseModel.stream(I)I -/
def f_X7_stream (K : Nat) (o_taped : Int32) (o_outs : Int32) (o_mades : Int32) (o_packs : Int32) (o_thrown : Int32) (o_isFull : Int32) (o_tape_n : Nat) (o_tape_c : Nat → Int32) (o_out_n : Nat) (o_out_c : Nat → Int32) (o_made_n : Nat) (o_made_c : Nat → Int32) (o_packed_n : Nat) (o_packed_c : Nat → Int32) (o_latest_n : Nat) (o_latest_c : Nat → Int32) (o_ahead_n : Nat) (o_ahead_c : Nat → Int32) (o_sums_n : Nat) (o_sums_c : Nat → Int32) (p1 : Int32) : Option (Int32 × Int32 × Int32 × Int32 × Int32 × Int32 × (Nat → Int32) × (Nat → Int32) × (Nat → Int32) × (Nat → Int32) × (Nat → Int32)) := (if p1 < (1 : Int32) then (some ((-1 : Int32), o_outs, o_mades, o_packs, (0 : Int32), o_isFull, o_out_c, o_made_c, o_packed_c, o_latest_c, o_ahead_c)) else (if p1 ≤ (20000 : Int32) then ((f_X7_add K (0 : Int32) (0 : Int32) o_made_n o_made_c (255 : Int32)).bind fun r3 => ((f_X7_add K r3.1 r3.2.1 o_made_n r3.2.2 (6 : Int32)).bind fun r5 => ((f_X7_add K r5.1 r5.2.1 o_made_n r5.2.2 (0 : Int32)).bind fun r7 => ((f_X7_add K r7.1 r7.2.1 o_made_n r7.2.2 (0 : Int32)).bind fun r9 => (f_X7_stream_b54 K o_taped o_tape_n o_tape_c o_out_n o_made_n o_packed_n o_latest_n o_ahead_n o_sums_n o_sums_c p1 K o_outs r9.1 o_packs (0 : Int32) r9.2.1 o_out_c r9.2.2 o_packed_c o_latest_c o_ahead_c (0 : Int32)))))) else (some ((-1 : Int32), o_outs, o_mades, o_packs, (0 : Int32), o_isFull, o_out_c, o_made_c, o_packed_c, o_latest_c, o_ahead_c))))

def f_X7_isName_b2 (K : Nat) (o_tape_n : Nat) (o_tape_c : Nat → Int32) (p1 : Int32) : Nat → Int32 → Option (Int32)
  | 0, _ => none
  | n + 1, x2 => (if (6 : Int32) ≤ x2 then (some (1 : Int32)) else ((f_X7_at K o_tape_n o_tape_c (p1 + x2)).bind fun r2 => ((f_X7_name K x2).bind fun r4 => (if r2 = r4 then (f_X7_isName_b2 K o_tape_n o_tape_c p1 n (x2 + (1 : Int32))) else (some (0 : Int32))))))

/-- SnapHouseModel.isName(I)Z -/
def f_X7_isName (K : Nat) (o_tape_n : Nat) (o_tape_c : Nat → Int32) (p1 : Int32) : Option (Int32) := (f_X7_isName_b2 K o_tape_n o_tape_c p1 K (0 : Int32))

def f_X7_sumOf_o_made_b6 (K : Nat) (o_made_n : Nat) (o_made_c : Nat → Int32) (o_sums_n : Nat) (o_sums_c : Nat → Int32) (p2 : Int32) (p3 : Int32) : Nat → Int32 → Int32 → Option (Int32)
  | 0, _, _ => none
  | n + 1, x4, x5 => (if p3 ≤ x5 then (some (x4 ^^^ (-1 : Int32))) else (ck x5 o_made_n (ck ((x4 ^^^ (o_made_c x5.toNatClampNeg)) &&& (255 : Int32)) o_sums_n (f_X7_sumOf_o_made_b6 K o_made_n o_made_c o_sums_n o_sums_c p2 p3 n ((o_sums_c ((x4 ^^^ (o_made_c x5.toNatClampNeg)) &&& (255 : Int32)).toNatClampNeg) ^^^ (ushr x4 (8 : Int32))) (x5 + (1 : Int32))))))

/-- SnapHouseModel.sumOf([BII)I -/
def f_X7_sumOf_o_made (K : Nat) (o_made_n : Nat) (o_made_c : Nat → Int32) (o_sums_n : Nat) (o_sums_c : Nat → Int32) (p2 : Int32) (p3 : Int32) : Option (Int32) := (f_X7_sumOf_o_made_b6 K o_made_n o_made_c o_sums_n o_sums_c p2 p3 K (-1 : Int32) p2)

/-- SnapHouseModel.fourAt(I)I -/
def f_X7_fourAt (K : Nat) (o_tape_n : Nat) (o_tape_c : Nat → Int32) (p1 : Int32) : Option (Int32) := ((f_X7_at K o_tape_n o_tape_c p1).bind fun r1 => ((f_X7_at K o_tape_n o_tape_c (p1 + (1 : Int32))).bind fun r3 => ((f_X7_at K o_tape_n o_tape_c (p1 + (2 : Int32))).bind fun r5 => ((f_X7_at K o_tape_n o_tape_c (p1 + (3 : Int32))).bind fun r7 => (some (((r1 ||| (r3 <<< ((8 : Int32) &&& 31))) ||| (r5 <<< ((16 : Int32) &&& 31))) ||| (r7 <<< ((24 : Int32) &&& 31))))))))

def f_X7_bytesOf_b243 (K : Nat) (o_tape_n : Nat) (o_tape_c : Nat → Int32) (o_made_n : Nat) (o_notes_n : Nat) (o_sums_n : Nat) (o_sums_c : Nat → Int32) (o_before_n : Nat) (p1 : Int32) (p2 : Int32) (p3 : Int32) (p4 : Int32) (o_mades : Int32) (o_blockFault : Int32) (o_blockPlace : Int32) (o_opened : Int32) (o_literals : Int32) (o_wanted : Int32) (o_faultNumber : Int32) (o_faultPlace : Int32) (o_faultInner : Int32) (o_faultInnerPlace : Int32) (o_made_c : Nat → Int32) (o_notes_c : Nat → Int32) (o_before_c : Nat → Int32) (x5 : Int32) : Option (Int32 × Int32 × Int32 × Int32 × Int32 × Int32 × Int32 × Int32 × Int32 × Int32 × (Nat → Int32) × (Nat → Int32) × (Nat → Int32)) := ((f_X7_sumOf_o_made K o_made_n o_made_c o_sums_n o_sums_c x5 o_mades).bind fun r1 => ((f_X7_masked K r1).bind fun r3 => ((f_X7_fourAt K o_tape_n o_tape_c (p1 + (4 : Int32))).bind fun r5 => (if r3 = r5 then (some (o_mades, o_blockFault, o_blockPlace, o_opened, o_literals, o_wanted, o_faultNumber, o_faultPlace, o_faultInner, o_faultInnerPlace, o_made_c, o_notes_c, o_before_c)) else ((f_X7_told K o_faultNumber o_faultPlace o_faultInner o_faultInnerPlace (18 : Int32) p1 (0 : Int32) (-1 : Int32)).bind fun r8 => (some (o_mades, o_blockFault, o_blockPlace, o_opened, o_literals, o_wanted, r8.1, r8.2.1, r8.2.2.1, r8.2.2.2, o_made_c, o_notes_c, o_before_c)))))))

def f_X7_bytesOf_b204 (K : Nat) (o_tape_n : Nat) (o_tape_c : Nat → Int32) (o_made_n : Nat) (o_notes_n : Nat) (o_sums_n : Nat) (o_sums_c : Nat → Int32) (o_before_n : Nat) (p1 : Int32) (p2 : Int32) (p3 : Int32) (p4 : Int32) : Nat → Int32 → Int32 → Int32 → Int32 → Int32 → Int32 → Int32 → Int32 → Int32 → Int32 → (Nat → Int32) → (Nat → Int32) → (Nat → Int32) → Int32 → Int32 → Option (Int32 × Int32 × Int32 × Int32 × Int32 × Int32 × Int32 × Int32 × Int32 × Int32 × (Nat → Int32) × (Nat → Int32) × (Nat → Int32))
  | 0, _, _, _, _, _, _, _, _, _, _, _, _, _, _, _ => none
  | n + 1, o_mades, o_blockFault, o_blockPlace, o_opened, o_literals, o_wanted, o_faultNumber, o_faultPlace, o_faultInner, o_faultInnerPlace, o_made_c, o_notes_c, o_before_c, x5, x6 => (if p4 ≤ x6 then (f_X7_bytesOf_b243 K o_tape_n o_tape_c o_made_n o_notes_n o_sums_n o_sums_c o_before_n p1 p2 p3 p4 o_mades o_blockFault o_blockPlace o_opened o_literals o_wanted o_faultNumber o_faultPlace o_faultInner o_faultInnerPlace o_made_c o_notes_c o_before_c x5) else (ck x6 o_tape_n (ck o_mades o_made_n (f_X7_bytesOf_b204 K o_tape_n o_tape_c o_made_n o_notes_n o_sums_n o_sums_c o_before_n p1 p2 p3 p4 n (o_mades + (1 : Int32)) o_blockFault o_blockPlace o_opened o_literals o_wanted o_faultNumber o_faultPlace o_faultInner o_faultInnerPlace (upd o_made_c o_mades.toNatClampNeg (vp_nar .byte (o_tape_c x6.toNatClampNeg))) o_notes_c o_before_c x5 (x6 + (1 : Int32))))))

def f_X7_bytesOf_b139 (K : Nat) (o_tape_n : Nat) (o_tape_c : Nat → Int32) (o_made_n : Nat) (o_notes_n : Nat) (o_sums_n : Nat) (o_sums_c : Nat → Int32) (o_before_n : Nat) (p1 : Int32) (p2 : Int32) (p3 : Int32) (p4 : Int32) : Nat → Int32 → Int32 → Int32 → Int32 → Int32 → Int32 → Int32 → Int32 → Int32 → Int32 → (Nat → Int32) → (Nat → Int32) → (Nat → Int32) → Int32 → Int32 → Int32 → Option (Int32 × Int32 × Int32 × Int32 × Int32 × Int32 × Int32 × Int32 × Int32 × Int32 × (Nat → Int32) × (Nat → Int32) × (Nat → Int32))
  | 0, _, _, _, _, _, _, _, _, _, _, _, _, _, _, _, _ => none
  | n + 1, o_mades, o_blockFault, o_blockPlace, o_opened, o_literals, o_wanted, o_faultNumber, o_faultPlace, o_faultInner, o_faultInnerPlace, o_made_c, o_notes_c, o_before_c, x5, x6, x7 => (if x5 ≤ x7 then (f_X7_bytesOf_b243 K o_tape_n o_tape_c o_made_n o_notes_n o_sums_n o_sums_c o_before_n p1 p2 p3 p4 (x5 + x6) o_blockFault o_blockPlace o_opened o_literals o_wanted o_faultNumber o_faultPlace o_faultInner o_faultInnerPlace o_made_c o_notes_c o_before_c x5) else (ck x7 o_before_n (ck x7 o_made_n (f_X7_bytesOf_b139 K o_tape_n o_tape_c o_made_n o_notes_n o_sums_n o_sums_c o_before_n p1 p2 p3 p4 n o_mades o_blockFault o_blockPlace o_opened o_literals o_wanted o_faultNumber o_faultPlace o_faultInner o_faultInnerPlace (upd o_made_c x7.toNatClampNeg (vp_nar .byte (o_before_c x7.toNatClampNeg))) o_notes_c o_before_c x5 x6 (x7 + (1 : Int32))))))

def f_X7_bytesOf_b108 (K : Nat) (o_tape_n : Nat) (o_tape_c : Nat → Int32) (o_made_n : Nat) (o_notes_n : Nat) (o_sums_n : Nat) (o_sums_c : Nat → Int32) (o_before_n : Nat) (p1 : Int32) (p2 : Int32) (p3 : Int32) (p4 : Int32) : Nat → Int32 → Int32 → Int32 → Int32 → Int32 → Int32 → Int32 → Int32 → Int32 → Int32 → (Nat → Int32) → (Nat → Int32) → (Nat → Int32) → Int32 → Int32 → Int32 → Option (Int32 × Int32 × Int32 × Int32 × Int32 × Int32 × Int32 × Int32 × Int32 × Int32 × (Nat → Int32) × (Nat → Int32) × (Nat → Int32))
  | 0, _, _, _, _, _, _, _, _, _, _, _, _, _, _, _, _ => none
  | n + 1, o_mades, o_blockFault, o_blockPlace, o_opened, o_literals, o_wanted, o_faultNumber, o_faultPlace, o_faultInner, o_faultInnerPlace, o_made_c, o_notes_c, o_before_c, x5, x6, x7 => (if x7 < 0 then (f_X7_bytesOf_b139 K o_tape_n o_tape_c o_made_n o_notes_n o_sums_n o_sums_c o_before_n p1 p2 p3 p4 K o_mades o_blockFault o_blockPlace o_opened o_literals o_wanted o_faultNumber o_faultPlace o_faultInner o_faultInnerPlace o_made_c o_notes_c o_before_c x5 x6 (0 : Int32)) else (ck x7 o_made_n (ck (x5 + x7) o_made_n (f_X7_bytesOf_b108 K o_tape_n o_tape_c o_made_n o_notes_n o_sums_n o_sums_c o_before_n p1 p2 p3 p4 n o_mades o_blockFault o_blockPlace o_opened o_literals o_wanted o_faultNumber o_faultPlace o_faultInner o_faultInnerPlace (upd o_made_c (x5 + x7).toNatClampNeg (vp_nar .byte (o_made_c x7.toNatClampNeg))) o_notes_c o_before_c x5 x6 (x7 + (-1 : Int32))))))

def f_X7_bytesOf_b13 (K : Nat) (o_tape_n : Nat) (o_tape_c : Nat → Int32) (o_made_n : Nat) (o_notes_n : Nat) (o_sums_n : Nat) (o_sums_c : Nat → Int32) (o_before_n : Nat) (p1 : Int32) (p2 : Int32) (p3 : Int32) (p4 : Int32) : Nat → Int32 → Int32 → Int32 → Int32 → Int32 → Int32 → Int32 → Int32 → Int32 → Int32 → (Nat → Int32) → (Nat → Int32) → (Nat → Int32) → Int32 → Int32 → Option (Int32 × Int32 × Int32 × Int32 × Int32 × Int32 × Int32 × Int32 × Int32 × Int32 × (Nat → Int32) × (Nat → Int32) × (Nat → Int32))
  | 0, _, _, _, _, _, _, _, _, _, _, _, _, _, _, _ => none
  | n + 1, o_mades, o_blockFault, o_blockPlace, o_opened, o_literals, o_wanted, o_faultNumber, o_faultPlace, o_faultInner, o_faultInnerPlace, o_made_c, o_notes_c, o_before_c, x5, x6 => (if x5 ≤ x6 then ((f_X7_openPart K (0 : Int32) o_blockFault o_blockPlace o_opened o_literals o_wanted o_tape_n o_tape_c o_made_n o_made_c o_notes_n o_notes_c p3 p4).bind fun r2 => (if r2.2.1 ≤ 0 then (if (x5 + r2.1) ≤ (20000 : Int32) then (f_X7_bytesOf_b108 K o_tape_n o_tape_c o_made_n o_notes_n o_sums_n o_sums_c o_before_n p1 p2 p3 p4 K r2.1 r2.2.1 r2.2.2.1 r2.2.2.2.1 r2.2.2.2.2.1 r2.2.2.2.2.2.1 o_faultNumber o_faultPlace o_faultInner o_faultInnerPlace r2.2.2.2.2.2.2.1 r2.2.2.2.2.2.2.2 o_before_c x5 r2.1 (r2.1 - (1 : Int32))) else ((f_X7_told K o_faultNumber o_faultPlace o_faultInner o_faultInnerPlace (17 : Int32) p1 (0 : Int32) (-1 : Int32)).bind fun r6 => (some (r2.1, r2.2.1, r2.2.2.1, r2.2.2.2.1, r2.2.2.2.2.1, r2.2.2.2.2.2.1, r6.1, r6.2.1, r6.2.2.1, r6.2.2.2, r2.2.2.2.2.2.2.1, r2.2.2.2.2.2.2.2, o_before_c)))) else ((f_X7_told K o_faultNumber o_faultPlace o_faultInner o_faultInnerPlace (16 : Int32) p1 r2.2.1 r2.2.2.1).bind fun r8 => (some (r2.1, r2.2.1, r2.2.2.1, r2.2.2.2.1, r2.2.2.2.2.1, r2.2.2.2.2.2.1, r8.1, r8.2.1, r8.2.2.1, r8.2.2.2, r2.2.2.2.2.2.2.1, r2.2.2.2.2.2.2.2, o_before_c))))) else (ck x6 o_made_n (ck x6 o_before_n (f_X7_bytesOf_b13 K o_tape_n o_tape_c o_made_n o_notes_n o_sums_n o_sums_c o_before_n p1 p2 p3 p4 n o_mades o_blockFault o_blockPlace o_opened o_literals o_wanted o_faultNumber o_faultPlace o_faultInner o_faultInnerPlace o_made_c o_notes_c (upd o_before_c x6.toNatClampNeg (vp_nar .byte (o_made_c x6.toNatClampNeg))) x5 (x6 + (1 : Int32))))))

/-- SnapHouseModel.bytesOf(IIII)V -/
def f_X7_bytesOf (K : Nat) (o_mades : Int32) (o_blockFault : Int32) (o_blockPlace : Int32) (o_opened : Int32) (o_literals : Int32) (o_wanted : Int32) (o_faultNumber : Int32) (o_faultPlace : Int32) (o_faultInner : Int32) (o_faultInnerPlace : Int32) (o_tape_n : Nat) (o_tape_c : Nat → Int32) (o_made_n : Nat) (o_made_c : Nat → Int32) (o_notes_n : Nat) (o_notes_c : Nat → Int32) (o_sums_n : Nat) (o_sums_c : Nat → Int32) (o_before_n : Nat) (o_before_c : Nat → Int32) (p1 : Int32) (p2 : Int32) (p3 : Int32) (p4 : Int32) : Option (Int32 × Int32 × Int32 × Int32 × Int32 × Int32 × Int32 × Int32 × Int32 × Int32 × (Nat → Int32) × (Nat → Int32) × (Nat → Int32)) := (if p2 = 0 then (f_X7_bytesOf_b13 K o_tape_n o_tape_c o_made_n o_notes_n o_sums_n o_sums_c o_before_n p1 p2 p3 p4 K o_mades o_blockFault o_blockPlace o_opened o_literals o_wanted o_faultNumber o_faultPlace o_faultInner o_faultInnerPlace o_made_c o_notes_c o_before_c o_mades (0 : Int32)) else (if ((o_mades + p4) - p3) ≤ (20000 : Int32) then (f_X7_bytesOf_b204 K o_tape_n o_tape_c o_made_n o_notes_n o_sums_n o_sums_c o_before_n p1 p2 p3 p4 K o_mades o_blockFault o_blockPlace o_opened o_literals o_wanted o_faultNumber o_faultPlace o_faultInner o_faultInnerPlace o_made_c o_notes_c o_before_c o_mades p3) else ((f_X7_told K o_faultNumber o_faultPlace o_faultInner o_faultInnerPlace (17 : Int32) p1 (0 : Int32) (-1 : Int32)).bind fun r3 => (some (o_mades, o_blockFault, o_blockPlace, o_opened, o_literals, o_wanted, r3.1, r3.2.1, r3.2.2.1, r3.2.2.2, o_made_c, o_notes_c, o_before_c)))))
end
section
def f_X7_chunkAt_b334 (K : Nat) (o_taped : Int32) (o_tape_n : Nat) (o_tape_c : Nat → Int32) (o_made_n : Nat) (o_notes_n : Nat) (o_sums_n : Nat) (o_sums_c : Nat → Int32) (o_found_n : Nat) (o_before_n : Nat) (p1 : Int32) (o_mades : Int32) (o_blockFault : Int32) (o_blockPlace : Int32) (o_opened : Int32) (o_literals : Int32) (o_wanted : Int32) (o_faultNumber : Int32) (o_faultPlace : Int32) (o_faultInner : Int32) (o_faultInnerPlace : Int32) (o_foundMany : Int32) (o_skips : Int32) (o_made_c : Nat → Int32) (o_notes_c : Nat → Int32) (o_found_c : Nat → Int32) (o_before_c : Nat → Int32) (x4 : Int32) (x5 : Int32) (t0 : Int32) (t1 : Int32) : Option (Int32 × Int32 × Int32 × Int32 × Int32 × Int32 × Int32 × Int32 × Int32 × Int32 × Int32 × Int32 × Int32 × (Nat → Int32) × (Nat → Int32) × (Nat → Int32) × (Nat → Int32)) := (some ((x5 + x4), o_mades, o_blockFault, o_blockPlace, o_opened, o_literals, o_wanted, o_faultNumber, o_faultPlace, o_faultInner, o_faultInnerPlace, o_foundMany, (t1 + t0), o_made_c, o_notes_c, o_found_c, o_before_c))

def f_X7_chunkAt_b333 (K : Nat) (o_taped : Int32) (o_tape_n : Nat) (o_tape_c : Nat → Int32) (o_made_n : Nat) (o_notes_n : Nat) (o_sums_n : Nat) (o_sums_c : Nat → Int32) (o_found_n : Nat) (o_before_n : Nat) (p1 : Int32) (o_mades : Int32) (o_blockFault : Int32) (o_blockPlace : Int32) (o_opened : Int32) (o_literals : Int32) (o_wanted : Int32) (o_faultNumber : Int32) (o_faultPlace : Int32) (o_faultInner : Int32) (o_faultInnerPlace : Int32) (o_foundMany : Int32) (o_skips : Int32) (o_made_c : Nat → Int32) (o_notes_c : Nat → Int32) (o_found_c : Nat → Int32) (o_before_c : Nat → Int32) (x4 : Int32) (x5 : Int32) (t0 : Int32) : Option (Int32 × Int32 × Int32 × Int32 × Int32 × Int32 × Int32 × Int32 × Int32 × Int32 × Int32 × Int32 × Int32 × (Nat → Int32) × (Nat → Int32) × (Nat → Int32) × (Nat → Int32)) := (f_X7_chunkAt_b334 K o_taped o_tape_n o_tape_c o_made_n o_notes_n o_sums_n o_sums_c o_found_n o_before_n p1 o_mades o_blockFault o_blockPlace o_opened o_literals o_wanted o_faultNumber o_faultPlace o_faultInner o_faultInnerPlace o_foundMany o_skips o_made_c o_notes_c o_found_c o_before_c x4 x5 (0 : Int32) t0)

def f_X7_chunkAt_b301 (K : Nat) (o_taped : Int32) (o_tape_n : Nat) (o_tape_c : Nat → Int32) (o_made_n : Nat) (o_notes_n : Nat) (o_sums_n : Nat) (o_sums_c : Nat → Int32) (o_found_n : Nat) (o_before_n : Nat) (p1 : Int32) (o_mades : Int32) (o_blockFault : Int32) (o_blockPlace : Int32) (o_opened : Int32) (o_literals : Int32) (o_wanted : Int32) (o_faultNumber : Int32) (o_faultPlace : Int32) (o_faultInner : Int32) (o_faultInnerPlace : Int32) (o_foundMany : Int32) (o_skips : Int32) (o_made_c : Nat → Int32) (o_notes_c : Nat → Int32) (o_found_c : Nat → Int32) (o_before_c : Nat → Int32) (x2 : Int32) (x4 : Int32) (x5 : Int32) : Option (Int32 × Int32 × Int32 × Int32 × Int32 × Int32 × Int32 × Int32 × Int32 × Int32 × Int32 × Int32 × Int32 × (Nat → Int32) × (Nat → Int32) × (Nat → Int32) × (Nat → Int32)) := (if x2 ≤ (127 : Int32) then (f_X7_chunkAt_b333 K o_taped o_tape_n o_tape_c o_made_n o_notes_n o_sums_n o_sums_c o_found_n o_before_n p1 o_mades o_blockFault o_blockPlace o_opened o_literals o_wanted o_faultNumber o_faultPlace o_faultInner o_faultInnerPlace (o_foundMany + (1 : Int32)) o_skips o_made_c o_notes_c o_found_c o_before_c x4 x5 o_skips) else (if (255 : Int32) ≤ x2 then (f_X7_chunkAt_b333 K o_taped o_tape_n o_tape_c o_made_n o_notes_n o_sums_n o_sums_c o_found_n o_before_n p1 o_mades o_blockFault o_blockPlace o_opened o_literals o_wanted o_faultNumber o_faultPlace o_faultInner o_faultInnerPlace (o_foundMany + (1 : Int32)) o_skips o_made_c o_notes_c o_found_c o_before_c x4 x5 o_skips) else (f_X7_chunkAt_b334 K o_taped o_tape_n o_tape_c o_made_n o_notes_n o_sums_n o_sums_c o_found_n o_before_n p1 o_mades o_blockFault o_blockPlace o_opened o_literals o_wanted o_faultNumber o_faultPlace o_faultInner o_faultInnerPlace (o_foundMany + (1 : Int32)) o_skips o_made_c o_notes_c o_found_c o_before_c x4 x5 (1 : Int32) o_skips)))

def f_X7_chunkAt_b206 (K : Nat) (o_taped : Int32) (o_tape_n : Nat) (o_tape_c : Nat → Int32) (o_made_n : Nat) (o_notes_n : Nat) (o_sums_n : Nat) (o_sums_c : Nat → Int32) (o_found_n : Nat) (o_before_n : Nat) (p1 : Int32) (o_mades : Int32) (o_blockFault : Int32) (o_blockPlace : Int32) (o_opened : Int32) (o_literals : Int32) (o_wanted : Int32) (o_faultNumber : Int32) (o_faultPlace : Int32) (o_faultInner : Int32) (o_faultInnerPlace : Int32) (o_foundMany : Int32) (o_skips : Int32) (o_made_c : Nat → Int32) (o_notes_c : Nat → Int32) (o_found_c : Nat → Int32) (o_before_c : Nat → Int32) (x2 : Int32) (x4 : Int32) (x5 : Int32) (x6 : Int32) : Option (Int32 × Int32 × Int32 × Int32 × Int32 × Int32 × Int32 × Int32 × Int32 × Int32 × Int32 × Int32 × Int32 × (Nat → Int32) × (Nat → Int32) × (Nat → Int32) × (Nat → Int32)) := (if o_faultNumber ≤ 0 then (if (1000 : Int32) ≤ o_foundMany then (f_X7_chunkAt_b301 K o_taped o_tape_n o_tape_c o_made_n o_notes_n o_sums_n o_sums_c o_found_n o_before_n p1 o_mades o_blockFault o_blockPlace o_opened o_literals o_wanted o_faultNumber o_faultPlace o_faultInner o_faultInnerPlace o_foundMany o_skips o_made_c o_notes_c o_found_c o_before_c x2 x4 x5) else (ck ((5 : Int32) * o_foundMany) o_found_n (ck (((5 : Int32) * o_foundMany) + (1 : Int32)) o_found_n (ck (((5 : Int32) * o_foundMany) + (2 : Int32)) o_found_n (ck (((5 : Int32) * o_foundMany) + (3 : Int32)) o_found_n (ck (((5 : Int32) * o_foundMany) + (4 : Int32)) o_found_n (f_X7_chunkAt_b301 K o_taped o_tape_n o_tape_c o_made_n o_notes_n o_sums_n o_sums_c o_found_n o_before_n p1 o_mades o_blockFault o_blockPlace o_opened o_literals o_wanted o_faultNumber o_faultPlace o_faultInner o_faultInnerPlace o_foundMany o_skips o_made_c o_notes_c (upd (upd (upd (upd (upd o_found_c ((5 : Int32) * o_foundMany).toNatClampNeg x2) (((5 : Int32) * o_foundMany) + (1 : Int32)).toNatClampNeg p1) (((5 : Int32) * o_foundMany) + (2 : Int32)).toNatClampNeg x4) (((5 : Int32) * o_foundMany) + (3 : Int32)).toNatClampNeg (o_mades - x6)) (((5 : Int32) * o_foundMany) + (4 : Int32)).toNatClampNeg x6) o_before_c x2 x4 x5))))))) else (some (p1, o_mades, o_blockFault, o_blockPlace, o_opened, o_literals, o_wanted, o_faultNumber, o_faultPlace, o_faultInner, o_faultInnerPlace, o_foundMany, o_skips, o_made_c, o_notes_c, o_found_c, o_before_c)))

def f_X7_chunkAt_b171 (K : Nat) (o_taped : Int32) (o_tape_n : Nat) (o_tape_c : Nat → Int32) (o_made_n : Nat) (o_notes_n : Nat) (o_sums_n : Nat) (o_sums_c : Nat → Int32) (o_found_n : Nat) (o_before_n : Nat) (p1 : Int32) (o_mades : Int32) (o_blockFault : Int32) (o_blockPlace : Int32) (o_opened : Int32) (o_literals : Int32) (o_wanted : Int32) (o_faultNumber : Int32) (o_faultPlace : Int32) (o_faultInner : Int32) (o_faultInnerPlace : Int32) (o_foundMany : Int32) (o_skips : Int32) (o_made_c : Nat → Int32) (o_notes_c : Nat → Int32) (o_found_c : Nat → Int32) (o_before_c : Nat → Int32) (x2 : Int32) (x4 : Int32) (x5 : Int32) : Option (Int32 × Int32 × Int32 × Int32 × Int32 × Int32 × Int32 × Int32 × Int32 × Int32 × Int32 × Int32 × Int32 × (Nat → Int32) × (Nat → Int32) × (Nat → Int32) × (Nat → Int32)) := (if o_faultNumber ≤ 0 then (if (2 : Int32) ≤ x2 then (f_X7_chunkAt_b206 K o_taped o_tape_n o_tape_c o_made_n o_notes_n o_sums_n o_sums_c o_found_n o_before_n p1 o_mades o_blockFault o_blockPlace o_opened o_literals o_wanted o_faultNumber o_faultPlace o_faultInner o_faultInnerPlace o_foundMany o_skips o_made_c o_notes_c o_found_c o_before_c x2 x4 x5 o_mades) else ((f_X7_bytesOf K o_mades o_blockFault o_blockPlace o_opened o_literals o_wanted o_faultNumber o_faultPlace o_faultInner o_faultInnerPlace o_tape_n o_tape_c o_made_n o_made_c o_notes_n o_notes_c o_sums_n o_sums_c o_before_n o_before_c p1 x2 (x5 + (4 : Int32)) (x5 + x4)).bind fun r3 => (f_X7_chunkAt_b206 K o_taped o_tape_n o_tape_c o_made_n o_notes_n o_sums_n o_sums_c o_found_n o_before_n p1 r3.1 r3.2.1 r3.2.2.1 r3.2.2.2.1 r3.2.2.2.2.1 r3.2.2.2.2.2.1 r3.2.2.2.2.2.2.1 r3.2.2.2.2.2.2.2.1 r3.2.2.2.2.2.2.2.2.1 r3.2.2.2.2.2.2.2.2.2.1 o_foundMany o_skips r3.2.2.2.2.2.2.2.2.2.2.1 r3.2.2.2.2.2.2.2.2.2.2.2.1 o_found_c r3.2.2.2.2.2.2.2.2.2.2.2.2 x2 x4 x5 o_mades))) else (some (p1, o_mades, o_blockFault, o_blockPlace, o_opened, o_literals, o_wanted, o_faultNumber, o_faultPlace, o_faultInner, o_faultInnerPlace, o_foundMany, o_skips, o_made_c, o_notes_c, o_found_c, o_before_c)))

def f_X7_chunkAt_b151 (K : Nat) (o_taped : Int32) (o_tape_n : Nat) (o_tape_c : Nat → Int32) (o_made_n : Nat) (o_notes_n : Nat) (o_sums_n : Nat) (o_sums_c : Nat → Int32) (o_found_n : Nat) (o_before_n : Nat) (p1 : Int32) (o_mades : Int32) (o_blockFault : Int32) (o_blockPlace : Int32) (o_opened : Int32) (o_literals : Int32) (o_wanted : Int32) (o_faultNumber : Int32) (o_faultPlace : Int32) (o_faultInner : Int32) (o_faultInnerPlace : Int32) (o_foundMany : Int32) (o_skips : Int32) (o_made_c : Nat → Int32) (o_notes_c : Nat → Int32) (o_found_c : Nat → Int32) (o_before_c : Nat → Int32) (x2 : Int32) (x4 : Int32) (x5 : Int32) : Option (Int32 × Int32 × Int32 × Int32 × Int32 × Int32 × Int32 × Int32 × Int32 × Int32 × Int32 × Int32 × Int32 × (Nat → Int32) × (Nat → Int32) × (Nat → Int32) × (Nat → Int32)) := (if (2 : Int32) ≤ x2 then (f_X7_chunkAt_b171 K o_taped o_tape_n o_tape_c o_made_n o_notes_n o_sums_n o_sums_c o_found_n o_before_n p1 o_mades o_blockFault o_blockPlace o_opened o_literals o_wanted o_faultNumber o_faultPlace o_faultInner o_faultInnerPlace o_foundMany o_skips o_made_c o_notes_c o_found_c o_before_c x2 x4 x5) else (if (4 : Int32) ≤ x4 then (f_X7_chunkAt_b171 K o_taped o_tape_n o_tape_c o_made_n o_notes_n o_sums_n o_sums_c o_found_n o_before_n p1 o_mades o_blockFault o_blockPlace o_opened o_literals o_wanted o_faultNumber o_faultPlace o_faultInner o_faultInnerPlace o_foundMany o_skips o_made_c o_notes_c o_found_c o_before_c x2 x4 x5) else ((f_X7_told K o_faultNumber o_faultPlace o_faultInner o_faultInnerPlace (15 : Int32) p1 (0 : Int32) (-1 : Int32)).bind fun r3 => (f_X7_chunkAt_b171 K o_taped o_tape_n o_tape_c o_made_n o_notes_n o_sums_n o_sums_c o_found_n o_before_n p1 o_mades o_blockFault o_blockPlace o_opened o_literals o_wanted r3.1 r3.2.1 r3.2.2.1 r3.2.2.2 o_foundMany o_skips o_made_c o_notes_c o_found_c o_before_c x2 x4 x5))))

def f_X7_chunkAt_b130 (K : Nat) (o_taped : Int32) (o_tape_n : Nat) (o_tape_c : Nat → Int32) (o_made_n : Nat) (o_notes_n : Nat) (o_sums_n : Nat) (o_sums_c : Nat → Int32) (o_found_n : Nat) (o_before_n : Nat) (p1 : Int32) (o_mades : Int32) (o_blockFault : Int32) (o_blockPlace : Int32) (o_opened : Int32) (o_literals : Int32) (o_wanted : Int32) (o_faultNumber : Int32) (o_faultPlace : Int32) (o_faultInner : Int32) (o_faultInnerPlace : Int32) (o_foundMany : Int32) (o_skips : Int32) (o_made_c : Nat → Int32) (o_notes_c : Nat → Int32) (o_found_c : Nat → Int32) (o_before_c : Nat → Int32) (x2 : Int32) (x4 : Int32) (x5 : Int32) : Option (Int32 × Int32 × Int32 × Int32 × Int32 × Int32 × Int32 × Int32 × Int32 × Int32 × Int32 × Int32 × Int32 × (Nat → Int32) × (Nat → Int32) × (Nat → Int32) × (Nat → Int32)) := (if x2 ≤ (1 : Int32) then (f_X7_chunkAt_b151 K o_taped o_tape_n o_tape_c o_made_n o_notes_n o_sums_n o_sums_c o_found_n o_before_n p1 o_mades o_blockFault o_blockPlace o_opened o_literals o_wanted o_faultNumber o_faultPlace o_faultInner o_faultInnerPlace o_foundMany o_skips o_made_c o_notes_c o_found_c o_before_c x2 x4 x5) else (if (128 : Int32) ≤ x2 then (f_X7_chunkAt_b151 K o_taped o_tape_n o_tape_c o_made_n o_notes_n o_sums_n o_sums_c o_found_n o_before_n p1 o_mades o_blockFault o_blockPlace o_opened o_literals o_wanted o_faultNumber o_faultPlace o_faultInner o_faultInnerPlace o_foundMany o_skips o_made_c o_notes_c o_found_c o_before_c x2 x4 x5) else ((f_X7_told K o_faultNumber o_faultPlace o_faultInner o_faultInnerPlace (14 : Int32) p1 (0 : Int32) (-1 : Int32)).bind fun r3 => (f_X7_chunkAt_b151 K o_taped o_tape_n o_tape_c o_made_n o_notes_n o_sums_n o_sums_c o_found_n o_before_n p1 o_mades o_blockFault o_blockPlace o_opened o_literals o_wanted r3.1 r3.2.1 r3.2.2.1 r3.2.2.2 o_foundMany o_skips o_made_c o_notes_c o_found_c o_before_c x2 x4 x5))))

def f_X7_chunkAt_b121 (K : Nat) (o_taped : Int32) (o_tape_n : Nat) (o_tape_c : Nat → Int32) (o_made_n : Nat) (o_notes_n : Nat) (o_sums_n : Nat) (o_sums_c : Nat → Int32) (o_found_n : Nat) (o_before_n : Nat) (p1 : Int32) (o_mades : Int32) (o_blockFault : Int32) (o_blockPlace : Int32) (o_opened : Int32) (o_literals : Int32) (o_wanted : Int32) (o_faultNumber : Int32) (o_faultPlace : Int32) (o_faultInner : Int32) (o_faultInnerPlace : Int32) (o_foundMany : Int32) (o_skips : Int32) (o_made_c : Nat → Int32) (o_notes_c : Nat → Int32) (o_found_c : Nat → Int32) (o_before_c : Nat → Int32) (x2 : Int32) (x4 : Int32) (x5 : Int32) : Option (Int32 × Int32 × Int32 × Int32 × Int32 × Int32 × Int32 × Int32 × Int32 × Int32 × Int32 × Int32 × Int32 × (Nat → Int32) × (Nat → Int32) × (Nat → Int32) × (Nat → Int32)) := ((f_X7_told K o_faultNumber o_faultPlace o_faultInner o_faultInnerPlace (13 : Int32) p1 (0 : Int32) (-1 : Int32)).bind fun r1 => (f_X7_chunkAt_b130 K o_taped o_tape_n o_tape_c o_made_n o_notes_n o_sums_n o_sums_c o_found_n o_before_n p1 o_mades o_blockFault o_blockPlace o_opened o_literals o_wanted r1.1 r1.2.1 r1.2.2.1 r1.2.2.2 o_foundMany o_skips o_made_c o_notes_c o_found_c o_before_c x2 x4 x5))

def f_X7_chunkAt_b74 (K : Nat) (o_taped : Int32) (o_tape_n : Nat) (o_tape_c : Nat → Int32) (o_made_n : Nat) (o_notes_n : Nat) (o_sums_n : Nat) (o_sums_c : Nat → Int32) (o_found_n : Nat) (o_before_n : Nat) (p1 : Int32) (o_mades : Int32) (o_blockFault : Int32) (o_blockPlace : Int32) (o_opened : Int32) (o_literals : Int32) (o_wanted : Int32) (o_faultNumber : Int32) (o_faultPlace : Int32) (o_faultInner : Int32) (o_faultInnerPlace : Int32) (o_foundMany : Int32) (o_skips : Int32) (o_made_c : Nat → Int32) (o_notes_c : Nat → Int32) (o_found_c : Nat → Int32) (o_before_c : Nat → Int32) (x2 : Int32) (x3 : Int32) (t0 : Int32) : Option (Int32 × Int32 × Int32 × Int32 × Int32 × Int32 × Int32 × Int32 × Int32 × Int32 × Int32 × Int32 × Int32 × (Nat → Int32) × (Nat → Int32) × (Nat → Int32) × (Nat → Int32)) := (if t0 ≤ x3 then (if x2 = (255 : Int32) then (if t0 = (6 : Int32) then ((f_X7_isName K o_tape_n o_tape_c (p1 + (4 : Int32))).bind fun r4 => (if r4 = 0 then (f_X7_chunkAt_b121 K o_taped o_tape_n o_tape_c o_made_n o_notes_n o_sums_n o_sums_c o_found_n o_before_n p1 o_mades o_blockFault o_blockPlace o_opened o_literals o_wanted o_faultNumber o_faultPlace o_faultInner o_faultInnerPlace o_foundMany o_skips o_made_c o_notes_c o_found_c o_before_c x2 t0 (p1 + (4 : Int32))) else (f_X7_chunkAt_b130 K o_taped o_tape_n o_tape_c o_made_n o_notes_n o_sums_n o_sums_c o_found_n o_before_n p1 o_mades o_blockFault o_blockPlace o_opened o_literals o_wanted o_faultNumber o_faultPlace o_faultInner o_faultInnerPlace o_foundMany o_skips o_made_c o_notes_c o_found_c o_before_c x2 t0 (p1 + (4 : Int32))))) else (f_X7_chunkAt_b121 K o_taped o_tape_n o_tape_c o_made_n o_notes_n o_sums_n o_sums_c o_found_n o_before_n p1 o_mades o_blockFault o_blockPlace o_opened o_literals o_wanted o_faultNumber o_faultPlace o_faultInner o_faultInnerPlace o_foundMany o_skips o_made_c o_notes_c o_found_c o_before_c x2 t0 (p1 + (4 : Int32)))) else (f_X7_chunkAt_b130 K o_taped o_tape_n o_tape_c o_made_n o_notes_n o_sums_n o_sums_c o_found_n o_before_n p1 o_mades o_blockFault o_blockPlace o_opened o_literals o_wanted o_faultNumber o_faultPlace o_faultInner o_faultInnerPlace o_foundMany o_skips o_made_c o_notes_c o_found_c o_before_c x2 t0 (p1 + (4 : Int32)))) else ((f_X7_told K o_faultNumber o_faultPlace o_faultInner o_faultInnerPlace (12 : Int32) p1 (0 : Int32) (-1 : Int32)).bind fun r7 => (some (p1, o_mades, o_blockFault, o_blockPlace, o_opened, o_literals, o_wanted, r7.1, r7.2.1, r7.2.2.1, r7.2.2.2, o_foundMany, o_skips, o_made_c, o_notes_c, o_found_c, o_before_c))))

def f_X7_chunkAt_b28 (K : Nat) (o_taped : Int32) (o_tape_n : Nat) (o_tape_c : Nat → Int32) (o_made_n : Nat) (o_notes_n : Nat) (o_sums_n : Nat) (o_sums_c : Nat → Int32) (o_found_n : Nat) (o_before_n : Nat) (p1 : Int32) (o_mades : Int32) (o_blockFault : Int32) (o_blockPlace : Int32) (o_opened : Int32) (o_literals : Int32) (o_wanted : Int32) (o_faultNumber : Int32) (o_faultPlace : Int32) (o_faultInner : Int32) (o_faultInnerPlace : Int32) (o_foundMany : Int32) (o_skips : Int32) (o_made_c : Nat → Int32) (o_notes_c : Nat → Int32) (o_found_c : Nat → Int32) (o_before_c : Nat → Int32) (x2 : Int32) : Option (Int32 × Int32 × Int32 × Int32 × Int32 × Int32 × Int32 × Int32 × Int32 × Int32 × Int32 × Int32 × Int32 × (Nat → Int32) × (Nat → Int32) × (Nat → Int32) × (Nat → Int32)) := (if 0 ≤ ((o_taped - p1) - (4 : Int32)) then ((f_X7_at K o_tape_n o_tape_c (p1 + (1 : Int32))).bind fun r2 => ((f_X7_at K o_tape_n o_tape_c (p1 + (2 : Int32))).bind fun r4 => ((f_X7_at K o_tape_n o_tape_c (p1 + (3 : Int32))).bind fun r6 => (f_X7_chunkAt_b74 K o_taped o_tape_n o_tape_c o_made_n o_notes_n o_sums_n o_sums_c o_found_n o_before_n p1 o_mades o_blockFault o_blockPlace o_opened o_literals o_wanted o_faultNumber o_faultPlace o_faultInner o_faultInnerPlace o_foundMany o_skips o_made_c o_notes_c o_found_c o_before_c x2 ((o_taped - p1) - (4 : Int32)) ((r2 ||| (r4 <<< ((8 : Int32) &&& 31))) ||| (r6 <<< ((16 : Int32) &&& 31))))))) else (f_X7_chunkAt_b74 K o_taped o_tape_n o_tape_c o_made_n o_notes_n o_sums_n o_sums_c o_found_n o_before_n p1 o_mades o_blockFault o_blockPlace o_opened o_literals o_wanted o_faultNumber o_faultPlace o_faultInner o_faultInnerPlace o_foundMany o_skips o_made_c o_notes_c o_found_c o_before_c x2 ((o_taped - p1) - (4 : Int32)) (0 : Int32)))

/-- SnapHouseModel.chunkAt(I)I -/
def f_X7_chunkAt (K : Nat) (o_taped : Int32) (o_mades : Int32) (o_blockFault : Int32) (o_blockPlace : Int32) (o_opened : Int32) (o_literals : Int32) (o_wanted : Int32) (o_faultNumber : Int32) (o_faultPlace : Int32) (o_faultInner : Int32) (o_faultInnerPlace : Int32) (o_foundMany : Int32) (o_skips : Int32) (o_tape_n : Nat) (o_tape_c : Nat → Int32) (o_made_n : Nat) (o_made_c : Nat → Int32) (o_notes_n : Nat) (o_notes_c : Nat → Int32) (o_sums_n : Nat) (o_sums_c : Nat → Int32) (o_found_n : Nat) (o_found_c : Nat → Int32) (o_before_n : Nat) (o_before_c : Nat → Int32) (p1 : Int32) : Option (Int32 × Int32 × Int32 × Int32 × Int32 × Int32 × Int32 × Int32 × Int32 × Int32 × Int32 × Int32 × Int32 × (Nat → Int32) × (Nat → Int32) × (Nat → Int32) × (Nat → Int32)) := ((f_X7_at K o_tape_n o_tape_c p1).bind fun r1 => (if p1 = 0 then (if r1 = (255 : Int32) then (f_X7_chunkAt_b28 K o_taped o_tape_n o_tape_c o_made_n o_notes_n o_sums_n o_sums_c o_found_n o_before_n p1 o_mades o_blockFault o_blockPlace o_opened o_literals o_wanted o_faultNumber o_faultPlace o_faultInner o_faultInnerPlace o_foundMany o_skips o_made_c o_notes_c o_found_c o_before_c r1) else ((f_X7_told K o_faultNumber o_faultPlace o_faultInner o_faultInnerPlace (11 : Int32) p1 (0 : Int32) (-1 : Int32)).bind fun r5 => (some (p1, o_mades, o_blockFault, o_blockPlace, o_opened, o_literals, o_wanted, r5.1, r5.2.1, r5.2.2.1, r5.2.2.2, o_foundMany, o_skips, o_made_c, o_notes_c, o_found_c, o_before_c)))) else (f_X7_chunkAt_b28 K o_taped o_tape_n o_tape_c o_made_n o_notes_n o_sums_n o_sums_c o_found_n o_before_n p1 o_mades o_blockFault o_blockPlace o_opened o_literals o_wanted o_faultNumber o_faultPlace o_faultInner o_faultInnerPlace o_foundMany o_skips o_made_c o_notes_c o_found_c o_before_c r1)))

def f_X7_unstream_b110 (K : Nat) (o_taped : Int32) (o_tape_n : Nat) (o_tape_c : Nat → Int32) (o_out_n : Nat) (o_made_n : Nat) (o_notes_n : Nat) (o_chunks_n : Nat) (o_sums_n : Nat) (o_sums_c : Nat → Int32) (o_found_n : Nat) (o_before_n : Nat) : Nat → Int32 → Int32 → Int32 → Int32 → Int32 → Int32 → Int32 → Int32 → Int32 → Int32 → Int32 → Int32 → Int32 → Int32 → Int32 → Int32 → (Nat → Int32) → (Nat → Int32) → (Nat → Int32) → (Nat → Int32) → (Nat → Int32) → (Nat → Int32) → Int32 → Option (Int32 × Int32 × Int32 × Int32 × Int32 × Int32 × Int32 × Int32 × Int32 × Int32 × Int32 × Int32 × Int32 × Int32 × Int32 × Int32 × Int32 × (Nat → Int32) × (Nat → Int32) × (Nat → Int32) × (Nat → Int32) × (Nat → Int32) × (Nat → Int32))
  | 0, _, _, _, _, _, _, _, _, _, _, _, _, _, _, _, _, _, _, _, _, _, _, _ => none
  | n + 1, o_outs, o_mades, o_thrown, o_blockFault, o_blockPlace, o_opened, o_literals, o_wanted, o_chunkMany, o_skippedMany, o_faultNumber, o_faultPlace, o_faultInner, o_faultInnerPlace, o_foundMany, o_skips, o_out_c, o_made_c, o_notes_c, o_chunks_c, o_found_c, o_before_c, x2 => (if ((5 : Int32) * o_foundMany) ≤ x2 then (some (o_outs, o_outs, o_mades, o_thrown, o_blockFault, o_blockPlace, o_opened, o_literals, o_wanted, o_chunkMany, o_skippedMany, o_faultNumber, o_faultPlace, o_faultInner, o_faultInnerPlace, o_foundMany, o_skips, o_out_c, o_made_c, o_notes_c, o_chunks_c, o_found_c, o_before_c)) else (if (5000 : Int32) ≤ x2 then (some (o_outs, o_outs, o_mades, o_thrown, o_blockFault, o_blockPlace, o_opened, o_literals, o_wanted, o_chunkMany, o_skippedMany, o_faultNumber, o_faultPlace, o_faultInner, o_faultInnerPlace, o_foundMany, o_skips, o_out_c, o_made_c, o_notes_c, o_chunks_c, o_found_c, o_before_c)) else (ck x2 o_found_n (ck x2 o_chunks_n (f_X7_unstream_b110 K o_taped o_tape_n o_tape_c o_out_n o_made_n o_notes_n o_chunks_n o_sums_n o_sums_c o_found_n o_before_n n o_outs o_mades o_thrown o_blockFault o_blockPlace o_opened o_literals o_wanted o_chunkMany o_skippedMany o_faultNumber o_faultPlace o_faultInner o_faultInnerPlace o_foundMany o_skips o_out_c o_made_c o_notes_c (upd o_chunks_c x2.toNatClampNeg (o_found_c x2.toNatClampNeg)) o_found_c o_before_c (x2 + (1 : Int32)))))))

def f_X7_unstream_b70 (K : Nat) (o_taped : Int32) (o_tape_n : Nat) (o_tape_c : Nat → Int32) (o_out_n : Nat) (o_made_n : Nat) (o_notes_n : Nat) (o_chunks_n : Nat) (o_sums_n : Nat) (o_sums_c : Nat → Int32) (o_found_n : Nat) (o_before_n : Nat) (o_outs : Int32) (o_mades : Int32) (o_thrown : Int32) (o_blockFault : Int32) (o_blockPlace : Int32) (o_opened : Int32) (o_literals : Int32) (o_wanted : Int32) (o_chunkMany : Int32) (o_skippedMany : Int32) (o_faultNumber : Int32) (o_faultPlace : Int32) (o_faultInner : Int32) (o_faultInnerPlace : Int32) (o_foundMany : Int32) (o_skips : Int32) (o_out_c : Nat → Int32) (o_made_c : Nat → Int32) (o_notes_c : Nat → Int32) (o_chunks_c : Nat → Int32) (o_found_c : Nat → Int32) (o_before_c : Nat → Int32) : Option (Int32 × Int32 × Int32 × Int32 × Int32 × Int32 × Int32 × Int32 × Int32 × Int32 × Int32 × Int32 × Int32 × Int32 × Int32 × Int32 × Int32 × (Nat → Int32) × (Nat → Int32) × (Nat → Int32) × (Nat → Int32) × (Nat → Int32) × (Nat → Int32)) := (if o_faultNumber ≤ 0 then ((f_X7_give_o_made K o_outs o_out_n o_out_c o_made_n o_made_c o_mades).bind fun r2 => (f_X7_unstream_b110 K o_taped o_tape_n o_tape_c o_out_n o_made_n o_notes_n o_chunks_n o_sums_n o_sums_c o_found_n o_before_n K r2.1 o_mades o_thrown o_blockFault o_blockPlace o_opened o_literals o_wanted o_foundMany o_skips o_faultNumber o_faultPlace o_faultInner o_faultInnerPlace o_foundMany o_skips r2.2 o_made_c o_notes_c o_chunks_c o_found_c o_before_c (0 : Int32))) else (some ((-2 : Int32), o_outs, o_mades, o_thrown, o_blockFault, o_blockPlace, o_opened, o_literals, o_wanted, o_chunkMany, o_skippedMany, o_faultNumber, o_faultPlace, o_faultInner, o_faultInnerPlace, o_foundMany, o_skips, o_out_c, o_made_c, o_notes_c, o_chunks_c, o_found_c, o_before_c)))

def f_X7_unstream_b46 (K : Nat) (o_taped : Int32) (o_tape_n : Nat) (o_tape_c : Nat → Int32) (o_out_n : Nat) (o_made_n : Nat) (o_notes_n : Nat) (o_chunks_n : Nat) (o_sums_n : Nat) (o_sums_c : Nat → Int32) (o_found_n : Nat) (o_before_n : Nat) : Nat → Int32 → Int32 → Int32 → Int32 → Int32 → Int32 → Int32 → Int32 → Int32 → Int32 → Int32 → Int32 → Int32 → Int32 → Int32 → Int32 → (Nat → Int32) → (Nat → Int32) → (Nat → Int32) → (Nat → Int32) → (Nat → Int32) → (Nat → Int32) → Int32 → Option (Int32 × Int32 × Int32 × Int32 × Int32 × Int32 × Int32 × Int32 × Int32 × Int32 × Int32 × Int32 × Int32 × Int32 × Int32 × Int32 × Int32 × (Nat → Int32) × (Nat → Int32) × (Nat → Int32) × (Nat → Int32) × (Nat → Int32) × (Nat → Int32))
  | 0, _, _, _, _, _, _, _, _, _, _, _, _, _, _, _, _, _, _, _, _, _, _, _ => none
  | n + 1, o_outs, o_mades, o_thrown, o_blockFault, o_blockPlace, o_opened, o_literals, o_wanted, o_chunkMany, o_skippedMany, o_faultNumber, o_faultPlace, o_faultInner, o_faultInnerPlace, o_foundMany, o_skips, o_out_c, o_made_c, o_notes_c, o_chunks_c, o_found_c, o_before_c, x1 => (if o_taped ≤ x1 then (f_X7_unstream_b70 K o_taped o_tape_n o_tape_c o_out_n o_made_n o_notes_n o_chunks_n o_sums_n o_sums_c o_found_n o_before_n o_outs o_mades o_thrown o_blockFault o_blockPlace o_opened o_literals o_wanted o_chunkMany o_skippedMany o_faultNumber o_faultPlace o_faultInner o_faultInnerPlace o_foundMany o_skips o_out_c o_made_c o_notes_c o_chunks_c o_found_c o_before_c) else (if o_faultNumber = 0 then ((f_X7_chunkAt K o_taped o_mades o_blockFault o_blockPlace o_opened o_literals o_wanted o_faultNumber o_faultPlace o_faultInner o_faultInnerPlace o_foundMany o_skips o_tape_n o_tape_c o_made_n o_made_c o_notes_n o_notes_c o_sums_n o_sums_c o_found_n o_found_c o_before_n o_before_c x1).bind fun r3 => (f_X7_unstream_b46 K o_taped o_tape_n o_tape_c o_out_n o_made_n o_notes_n o_chunks_n o_sums_n o_sums_c o_found_n o_before_n n o_outs r3.2.1 o_thrown r3.2.2.1 r3.2.2.2.1 r3.2.2.2.2.1 r3.2.2.2.2.2.1 r3.2.2.2.2.2.2.1 o_chunkMany o_skippedMany r3.2.2.2.2.2.2.2.1 r3.2.2.2.2.2.2.2.2.1 r3.2.2.2.2.2.2.2.2.2.1 r3.2.2.2.2.2.2.2.2.2.2.1 r3.2.2.2.2.2.2.2.2.2.2.2.1 r3.2.2.2.2.2.2.2.2.2.2.2.2.1 o_out_c r3.2.2.2.2.2.2.2.2.2.2.2.2.2.1 r3.2.2.2.2.2.2.2.2.2.2.2.2.2.2.1 o_chunks_c r3.2.2.2.2.2.2.2.2.2.2.2.2.2.2.2.1 r3.2.2.2.2.2.2.2.2.2.2.2.2.2.2.2.2 r3.1)) else (f_X7_unstream_b70 K o_taped o_tape_n o_tape_c o_out_n o_made_n o_notes_n o_chunks_n o_sums_n o_sums_c o_found_n o_before_n o_outs o_mades o_thrown o_blockFault o_blockPlace o_opened o_literals o_wanted o_chunkMany o_skippedMany o_faultNumber o_faultPlace o_faultInner o_faultInnerPlace o_foundMany o_skips o_out_c o_made_c o_notes_c o_chunks_c o_found_c o_before_c)))

/-- SnapHouseModel.unstream()I -/
def f_X7_unstream (K : Nat) (o_taped : Int32) (o_outs : Int32) (o_mades : Int32) (o_thrown : Int32) (o_blockFault : Int32) (o_blockPlace : Int32) (o_opened : Int32) (o_literals : Int32) (o_wanted : Int32) (o_chunkMany : Int32) (o_skippedMany : Int32) (o_faultNumber : Int32) (o_faultPlace : Int32) (o_faultInner : Int32) (o_faultInnerPlace : Int32) (o_foundMany : Int32) (o_skips : Int32) (o_tape_n : Nat) (o_tape_c : Nat → Int32) (o_out_n : Nat) (o_out_c : Nat → Int32) (o_made_n : Nat) (o_made_c : Nat → Int32) (o_notes_n : Nat) (o_notes_c : Nat → Int32) (o_chunks_n : Nat) (o_chunks_c : Nat → Int32) (o_sums_n : Nat) (o_sums_c : Nat → Int32) (o_found_n : Nat) (o_found_c : Nat → Int32) (o_before_n : Nat) (o_before_c : Nat → Int32) : Option (Int32 × Int32 × Int32 × Int32 × Int32 × Int32 × Int32 × Int32 × Int32 × Int32 × Int32 × Int32 × Int32 × Int32 × Int32 × Int32 × Int32 × (Nat → Int32) × (Nat → Int32) × (Nat → Int32) × (Nat → Int32) × (Nat → Int32) × (Nat → Int32)) := ((f_X7_told K o_faultNumber o_faultPlace o_faultInner o_faultInnerPlace (0 : Int32) (-1 : Int32) (0 : Int32) (-1 : Int32)).bind fun r1 => (if o_taped = 0 then ((f_X7_told K r1.1 r1.2.1 r1.2.2.1 r1.2.2.2 (11 : Int32) (0 : Int32) (0 : Int32) (-1 : Int32)).bind fun r4 => (f_X7_unstream_b46 K o_taped o_tape_n o_tape_c o_out_n o_made_n o_notes_n o_chunks_n o_sums_n o_sums_c o_found_n o_before_n K o_outs (0 : Int32) (0 : Int32) o_blockFault o_blockPlace o_opened o_literals o_wanted o_chunkMany o_skippedMany r4.1 r4.2.1 r4.2.2.1 r4.2.2.2 (0 : Int32) (0 : Int32) o_out_c o_made_c o_notes_c o_chunks_c o_found_c o_before_c (0 : Int32))) else (f_X7_unstream_b46 K o_taped o_tape_n o_tape_c o_out_n o_made_n o_notes_n o_chunks_n o_sums_n o_sums_c o_found_n o_before_n K o_outs (0 : Int32) (0 : Int32) o_blockFault o_blockPlace o_opened o_literals o_wanted o_chunkMany o_skippedMany r1.1 r1.2.1 r1.2.2.1 r1.2.2.2 (0 : Int32) (0 : Int32) o_out_c o_made_c o_notes_c o_chunks_c o_found_c o_before_c (0 : Int32))))

/-- SnapHouseModel.fault(I)I -/
def f_X7_fault (K : Nat) (o_thrown : Int32) (o_faultNumber : Int32) (o_faultPlace : Int32) (o_faultInner : Int32) (o_faultInnerPlace : Int32) (p1 : Int32) : Option (Int32 × Int32) := (if 0 ≤ o_faultNumber then (if p1 = (0 : Int32) then (some (o_faultNumber, (0 : Int32))) else (if p1 = (1 : Int32) then (some (o_faultPlace, (0 : Int32))) else (if p1 = (2 : Int32) then (some (o_faultInner, (0 : Int32))) else (if p1 = (3 : Int32) then (some (o_faultInnerPlace, (0 : Int32))) else (some ((-1 : Int32), (0 : Int32))))))) else (some ((-1 : Int32), (0 : Int32))))

/-- SnapHouseModel.element(II)I -/
def f_X7_element (K : Nat) (o_thrown : Int32) (o_elementMany : Int32) (o_elements_n : Nat) (o_elements_c : Nat → Int32) (p1 : Int32) (p2 : Int32) : Option (Int32 × Int32) := (if p1 < 0 then (some ((-1 : Int32), (0 : Int32))) else (if o_elementMany ≤ p1 then (some ((-1 : Int32), (0 : Int32))) else (if (1000 : Int32) ≤ p1 then (some ((-1 : Int32), (0 : Int32))) else (if p2 < 0 then (some ((-1 : Int32), (0 : Int32))) else (if (5 : Int32) ≤ p2 then (some ((-1 : Int32), (0 : Int32))) else (ck (((5 : Int32) * p1) + p2) o_elements_n (some ((o_elements_c (((5 : Int32) * p1) + p2).toNatClampNeg), (0 : Int32)))))))))

/-- SnapHouseModel.chunk(II)I -/
def f_X7_chunk (K : Nat) (o_thrown : Int32) (o_chunkMany : Int32) (o_chunks_n : Nat) (o_chunks_c : Nat → Int32) (p1 : Int32) (p2 : Int32) : Option (Int32 × Int32) := (if p1 < 0 then (some ((-1 : Int32), (0 : Int32))) else (if o_chunkMany ≤ p1 then (some ((-1 : Int32), (0 : Int32))) else (if (1000 : Int32) ≤ p1 then (some ((-1 : Int32), (0 : Int32))) else (if p2 < 0 then (some ((-1 : Int32), (0 : Int32))) else (if (5 : Int32) ≤ p2 then (some ((-1 : Int32), (0 : Int32))) else (ck (((5 : Int32) * p1) + p2) o_chunks_n (some ((o_chunks_c (((5 : Int32) * p1) + p2).toNatClampNeg), (0 : Int32)))))))))

/-- SnapHouseModel.sum(IIZ)I -/
def f_X7_sum (K : Nat) (o_taped : Int32) (o_thrown : Int32) (o_tape_n : Nat) (o_tape_c : Nat → Int32) (o_sums_n : Nat) (o_sums_c : Nat → Int32) (p1 : Int32) (p2 : Int32) (p3 : Int32) : Option (Int32 × Int32) := (if p1 < 0 then (some ((0 : Int32), (0 : Int32))) else (if p2 < 0 then (some ((0 : Int32), (0 : Int32))) else (if o_taped < p1 then (some ((0 : Int32), (0 : Int32))) else (if p2 ≤ (o_taped - p1) then ((f_X7_sumOf_o_tape K o_tape_n o_tape_c o_sums_n o_sums_c p1 (p1 + p2)).bind fun r5 => (if p3 = 0 then (some (r5, (0 : Int32))) else ((f_X7_masked K r5).bind fun r8 => (some (r8, (0 : Int32)))))) else (some ((0 : Int32), (0 : Int32)))))))

/-- SnapHouseModel.about(I)I -/
def f_X7_about (K : Nat) (o_taped : Int32) (o_outs : Int32) (o_thrown : Int32) (o_elementMany : Int32) (o_literalMany : Int32) (o_chunkMany : Int32) (o_skippedMany : Int32) (p1 : Int32) : Option (Int32 × Int32) := (if p1 = (0 : Int32) then (some (o_taped, (0 : Int32))) else (if p1 = (1 : Int32) then (some (o_outs, (0 : Int32))) else (if p1 = (2 : Int32) then (some (o_elementMany, (0 : Int32))) else (if p1 = (3 : Int32) then (some (o_literalMany, (0 : Int32))) else (if p1 = (4 : Int32) then (some (o_chunkMany, (0 : Int32))) else (if p1 = (5 : Int32) then (some (o_skippedMany, (0 : Int32))) else (some ((-1 : Int32), (0 : Int32)))))))))

/-- SnapHouseModel.thrown()I -/
def f_X7_thrown (K : Nat) (o_thrown : Int32) : Option (Int32) := (some o_thrown)

def f_X7_out_b18 (K : Nat) (o_outs : Int32) (o_out_n : Nat) (o_out_c : Nat → Int32) (p1 : Int32) (o_thrown : Int32) (t0 : Int32) : Option (Int32 × Int32) := (if t0 = 0 then (ck p1 o_out_n (some (((o_out_c p1.toNatClampNeg) &&& (255 : Int32)), t0))) else (some ((0 : Int32), t0)))

def f_X7_out_b17 (K : Nat) (o_outs : Int32) (o_out_n : Nat) (o_out_c : Nat → Int32) (p1 : Int32) (o_thrown : Int32) : Option (Int32 × Int32) := (f_X7_out_b18 K o_outs o_out_n o_out_c p1 o_thrown (1 : Int32))

/-- SnapHouseModel.out(I)I -/
def f_X7_out (K : Nat) (o_outs : Int32) (o_thrown : Int32) (o_out_n : Nat) (o_out_c : Nat → Int32) (p1 : Int32) : Option (Int32 × Int32) := (if p1 < 0 then (f_X7_out_b17 K o_outs o_out_n o_out_c p1 o_thrown) else (if o_outs ≤ p1 then (f_X7_out_b17 K o_outs o_out_n o_out_c p1 o_thrown) else (f_X7_out_b18 K o_outs o_out_n o_out_c p1 o_thrown (0 : Int32))))
end
section
abbrev rm_X1_hasRoomFor : Room := { frames := 0, cells := 0, slots := 0, locals := 0 }

set_option maxHeartbeats 4000000 in
set_option maxRecDepth 100000 in
/-- SnapHouse$Bytes.hasRoomFor(I)Z -/
theorem c_X1_hasRoomFor (l : Launch) (g : GX) (h_o h_o_row : Nat) {K : Nat} (o_row_c : Nat → Int32) {o_count : Int32} {o_row_n : Nat} {p1 : Int32} {o : Int32} (hF : f_X1_hasRoomFor K o_count o_row_n p1 = some o) : mcI g l yX1_hasRoomFor wA_X1_hasRoomFor rm_X1_hasRoomFor [.ref h_o, .int p1] (wF_Bytes g h_o h_o_row o_count o_row_n o_row_c) o (wF_Bytes g h_o h_o_row o_count o_row_n o_row_c) 0 0 := by
  refine x_start (cc := cX1_hasRoomFor) (maxL := 2) (ret := (some .boolean)) (by decide) rfl (Nat.le_of_ble_eq_true rfl) ?_
  intro p e s m below meth c ls C0 hW hl
  have hl : lv_has ls 2 [(0, .ref h_o), (1, .int p1)] := hl
  unfold f_X1_hasRoomFor at hF
  refine lv_iload_n C0.x C0.b dX1_hasRoomFor_0 rfl (lv_at hl 1 rfl) ?_
  refine lv_if_lt (tgt := 22) C0.x C0.b dX1_hasRoomFor_1 (by decide) (fun c1 => ?_) (fun c1 => ?_)
  · have hF := it_t hF c1
    refine lv_iconst (v := (0 : Int32)) C0.x C0.b dX1_hasRoomFor_22 (by decide) ?_
    obtain rfl := Option.some.inj hF
    exact x_iret C0 hW (by decide) rfl dX1_hasRoomFor_23
  · have hF := it_f hF c1
    refine lv_iload_n C0.x C0.b dX1_hasRoomFor_4 rfl (lv_at hl 1 rfl) ?_
    refine lv_aload_n C0.x C0.b dX1_hasRoomFor_5 rfl (lv_at hl 0 rfl) ?_
    refine x_get C0 hW iw_X1 0 rfl rfl 0 (by decide) (List.mem_cons_of_mem _ wl_53) (v := .ref h_o_row) rfl dX1_hasRoomFor_6 ?_
    refine x_alen C0 hW 1 0 rfl rfl (v := (Int32.ofNat o_row_n)) rfl dX1_hasRoomFor_9 ?_
    refine lv_aload_n C0.x C0.b dX1_hasRoomFor_10 rfl (lv_at hl 0 rfl) ?_
    refine x_get C0 hW iw_X1 0 rfl rfl 1 (by decide) (List.mem_cons_of_mem _ wl_47) (v := .int o_count) rfl dX1_hasRoomFor_11 ?_
    refine lv_isub C0.x C0.b dX1_hasRoomFor_14 ?_
    refine lv_icmp_gt (tgt := 22) C0.x C0.b dX1_hasRoomFor_15 (by decide) (fun c2 => ?_) (fun c2 => ?_)
    · have hF := it_t hF c2
      refine lv_iconst (v := (0 : Int32)) C0.x C0.b dX1_hasRoomFor_22 (by decide) ?_
      obtain rfl := Option.some.inj hF
      exact x_iret C0 hW (by decide) rfl dX1_hasRoomFor_23
    · have hF := it_f hF c2
      refine lv_iconst (v := (1 : Int32)) C0.x C0.b dX1_hasRoomFor_18 (by decide) ?_
      refine lv_goto (tgt := 23) C0.x C0.b dX1_hasRoomFor_19 (by decide) ?_
      obtain rfl := Option.some.inj hF
      exact x_iret C0 hW (by decide) rfl dX1_hasRoomFor_23

abbrev rm_X1_put : Room := { frames := 0, cells := 0, slots := 0, locals := 0 }

set_option maxHeartbeats 4000000 in
set_option maxRecDepth 100000 in
/-- SnapHouse$Bytes.put(I)V -/
theorem c_X1_put (l : Launch) (g : GX) (h_o h_o_row : Nat) {K : Nat} {o_count : Int32} {o_row_n : Nat} {o_row_c : Nat → Int32} {p1 : Int32} {o : Int32 × (Nat → Int32)} (hF : f_X1_put K o_count o_row_n o_row_c p1 = some o) : mcV g l yX1_put wA_X1_put rm_X1_put [.ref h_o, .int p1] (wF_Bytes g h_o h_o_row o_count o_row_n o_row_c) (wF_Bytes g h_o h_o_row o.1 o_row_n o.2) 0 0 := by
  refine x_start (cc := cX1_put) (maxL := 2) (ret := none) (by decide) rfl (Nat.le_of_ble_eq_true rfl) ?_
  intro p e s m below meth c ls C0 hW hl
  have hl : lv_has ls 2 [(0, .ref h_o), (1, .int p1)] := hl
  unfold f_X1_put at hF
  refine lv_aload_n C0.x C0.b dX1_put_0 rfl (lv_at hl 0 rfl) ?_
  refine x_get C0 hW iw_X1 0 rfl rfl 1 (by decide) (List.mem_cons_of_mem _ wl_47) (v := .int o_count) rfl dX1_put_1 ?_
  refine lv_aload_n C0.x C0.b dX1_put_4 rfl (lv_at hl 0 rfl) ?_
  refine x_get C0 hW iw_X1 0 rfl rfl 0 (by decide) (List.mem_cons_of_mem _ wl_53) (v := .ref h_o_row) rfl dX1_put_5 ?_
  refine x_alen C0 hW 1 0 rfl rfl (v := (Int32.ofNat o_row_n)) rfl dX1_put_8 ?_
  refine lv_icmp_ge (tgt := 32) C0.x C0.b dX1_put_9 (by decide) (fun c1 => ?_) (fun c1 => ?_)
  · have hF := it_t hF c1
    obtain rfl := Option.some.inj hF
    exact x_vret C0 hW dX1_put_32
  · have hF := it_f hF c1
    refine lv_aload_n C0.x C0.b dX1_put_12 rfl (lv_at hl 0 rfl) ?_
    refine x_get C0 hW iw_X1 0 rfl rfl 0 (by decide) (List.mem_cons_of_mem _ wl_53) (v := .ref h_o_row) rfl dX1_put_13 ?_
    refine lv_aload_n C0.x C0.b dX1_put_16 rfl (lv_at hl 0 rfl) ?_
    refine x_get C0 hW iw_X1 0 rfl rfl 1 (by decide) (List.mem_cons_of_mem _ wl_47) (v := .int o_count) rfl dX1_put_17 ?_
    refine lv_iload_n C0.x C0.b dX1_put_20 rfl (lv_at hl 1 rfl) ?_
    obtain ⟨h2, hF⟩ := ck_some hF
    refine x_iast C0 hW 1 0 rfl rfl h2 dX1_put_21 (ws' := (wF_Bytes g h_o h_o_row o_count o_row_n (upd o_row_c o_count.toNatClampNeg p1))) rfl (fun H locs hW => ?_)
    refine lv_aload_n C0.x C0.b dX1_put_22 rfl (lv_at hl 0 rfl) ?_
    refine lv_dup C0.x C0.b dX1_put_23 rfl ?_
    refine x_get C0 hW iw_X1 0 rfl rfl 1 (by decide) (List.mem_cons_of_mem _ wl_47) (v := .int o_count) rfl dX1_put_24 ?_
    refine lv_iconst (v := (1 : Int32)) C0.x C0.b dX1_put_27 (by decide) ?_
    refine lv_iadd C0.x C0.b dX1_put_28 ?_
    refine x_put C0 hW iw_X1 tyX1 tyX1_ok nmX1 0 rfl rfl 1 (by decide) (List.mem_cons_of_mem _ wl_47) rfl (ty := .int) (v := .int (o_count + (1 : Int32))) (by decide +kernel) rfl rfl (Nat.le_of_ble_eq_true rfl) dX1_put_29 (ws' := (wF_Bytes g h_o h_o_row (o_count + (1 : Int32)) o_row_n (upd o_row_c o_count.toNatClampNeg p1))) rfl (fun H locs hW => ?_)
    obtain rfl := Option.some.inj hF
    exact x_vret C0 hW dX1_put_32

abbrev rm_X1_putHighestFirst : Room := { frames := 1, cells := 0, slots := 0, locals := 21 }

set_option maxHeartbeats 4000000 in
set_option maxRecDepth 100000 in
/-- SnapHouse$Bytes.putHighestFirst(I)V -/
theorem c_X1_putHighestFirst (l : Launch) (g : GX) (h_o h_o_row : Nat) {K : Nat} {o_count : Int32} {o_row_n : Nat} {o_row_c : Nat → Int32} {p1 : Int32} {o : Int32 × (Nat → Int32)} (hF : f_X1_putHighestFirst K o_count o_row_n o_row_c p1 = some o) : mcV g l yX1_putHighestFirst wA_X1_putHighestFirst rm_X1_putHighestFirst [.ref h_o, .int p1] (wF_Bytes g h_o h_o_row o_count o_row_n o_row_c) (wF_Bytes g h_o h_o_row o.1 o_row_n o.2) 0 0 := by
  refine x_start (cc := cX1_putHighestFirst) (maxL := 2) (ret := none) (by decide) rfl (Nat.le_of_ble_eq_true rfl) ?_
  intro p e s m below meth c ls C0 hW hl
  have hl : lv_has ls 2 [(0, .ref h_o), (1, .int p1)] := hl
  unfold f_X1_putHighestFirst at hF
  refine lv_aload_n C0.x C0.b dX1_putHighestFirst_0 rfl (lv_at hl 0 rfl) ?_
  refine lv_iload_n C0.x C0.b dX1_putHighestFirst_1 rfl (lv_at hl 1 rfl) ?_
  refine lv_bipush (v := (24 : Int32)) C0.x C0.b dX1_putHighestFirst_2 (by decide) ?_
  refine lv_iushr (v := (ushr p1 (24 : Int32))) C0.x C0.b dX1_putHighestFirst_4 rfl ?_
  obtain ⟨r1, e2, hF⟩ := ob hF
  refine go_v C0 hW [0, 1] [] [0, 1] (va_runV (As := [.int (ushr p1 (24 : Int32))]) (rest := []) C0.fix (c_X1_put l g h_o h_o_row e2 _) (cwV 1 C0.ts (gw_V wl_140 wl_141 wl_142 wl_15 wl_143) rfl rfl rfl (by decide +kernel) ⟨Nat.le_of_ble_eq_true rfl, Nat.le_of_ble_eq_true rfl⟩) (pcv_of C0 hW [0, 1] rfl (by decide) (q0 := 0) rfl rfl) rfl rfl hl.1 rfl (lv_room (Nat.le_of_ble_eq_true rfl)) dX1_putHighestFirst_5 ⟨Nat.le_of_ble_eq_true rfl, Nat.le_of_ble_eq_true rfl⟩) rfl rfl (by decide) (by decide) (ws' := (wF_Bytes g h_o h_o_row r1.1 o_row_n r1.2)) rfl (by decide) (fun H locs hW => ?_)
  refine lv_aload_n C0.x C0.b dX1_putHighestFirst_8 rfl (lv_at hl 0 rfl) ?_
  refine lv_iload_n C0.x C0.b dX1_putHighestFirst_9 rfl (lv_at hl 1 rfl) ?_
  refine lv_bipush (v := (16 : Int32)) C0.x C0.b dX1_putHighestFirst_10 (by decide) ?_
  refine lv_iushr (v := (ushr p1 (16 : Int32))) C0.x C0.b dX1_putHighestFirst_12 rfl ?_
  refine lv_sipush (v := (255 : Int32)) C0.x C0.b dX1_putHighestFirst_13 (by decide) ?_
  refine lv_iand C0.x C0.b dX1_putHighestFirst_16 ?_
  obtain ⟨r3, e4, hF⟩ := ob hF
  refine go_v C0 hW [0, 1] [] [0, 1] (va_runV (As := [.int ((ushr p1 (16 : Int32)) &&& (255 : Int32))]) (rest := []) C0.fix (c_X1_put l g h_o h_o_row e4 _) (cwV 1 C0.ts (gw_V wl_140 wl_141 wl_142 wl_15 wl_143) rfl rfl rfl (by decide +kernel) ⟨Nat.le_of_ble_eq_true rfl, Nat.le_of_ble_eq_true rfl⟩) (pcv_of C0 hW [0, 1] rfl (by decide) (q0 := 0) rfl rfl) rfl rfl hl.1 rfl (lv_room (Nat.le_of_ble_eq_true rfl)) dX1_putHighestFirst_17 ⟨Nat.le_of_ble_eq_true rfl, Nat.le_of_ble_eq_true rfl⟩) rfl rfl (by decide) (by decide) (ws' := (wF_Bytes g h_o h_o_row r3.1 o_row_n r3.2)) rfl (by decide) (fun H locs hW => ?_)
  refine lv_aload_n C0.x C0.b dX1_putHighestFirst_20 rfl (lv_at hl 0 rfl) ?_
  refine lv_iload_n C0.x C0.b dX1_putHighestFirst_21 rfl (lv_at hl 1 rfl) ?_
  refine lv_bipush (v := (8 : Int32)) C0.x C0.b dX1_putHighestFirst_22 (by decide) ?_
  refine lv_iushr (v := (ushr p1 (8 : Int32))) C0.x C0.b dX1_putHighestFirst_24 rfl ?_
  refine lv_sipush (v := (255 : Int32)) C0.x C0.b dX1_putHighestFirst_25 (by decide) ?_
  refine lv_iand C0.x C0.b dX1_putHighestFirst_28 ?_
  obtain ⟨r5, e6, hF⟩ := ob hF
  refine go_v C0 hW [0, 1] [] [0, 1] (va_runV (As := [.int ((ushr p1 (8 : Int32)) &&& (255 : Int32))]) (rest := []) C0.fix (c_X1_put l g h_o h_o_row e6 _) (cwV 1 C0.ts (gw_V wl_140 wl_141 wl_142 wl_15 wl_143) rfl rfl rfl (by decide +kernel) ⟨Nat.le_of_ble_eq_true rfl, Nat.le_of_ble_eq_true rfl⟩) (pcv_of C0 hW [0, 1] rfl (by decide) (q0 := 0) rfl rfl) rfl rfl hl.1 rfl (lv_room (Nat.le_of_ble_eq_true rfl)) dX1_putHighestFirst_29 ⟨Nat.le_of_ble_eq_true rfl, Nat.le_of_ble_eq_true rfl⟩) rfl rfl (by decide) (by decide) (ws' := (wF_Bytes g h_o h_o_row r5.1 o_row_n r5.2)) rfl (by decide) (fun H locs hW => ?_)
  refine lv_aload_n C0.x C0.b dX1_putHighestFirst_32 rfl (lv_at hl 0 rfl) ?_
  refine lv_iload_n C0.x C0.b dX1_putHighestFirst_33 rfl (lv_at hl 1 rfl) ?_
  refine lv_sipush (v := (255 : Int32)) C0.x C0.b dX1_putHighestFirst_34 (by decide) ?_
  refine lv_iand C0.x C0.b dX1_putHighestFirst_37 ?_
  obtain ⟨r7, e8, hF⟩ := ob hF
  refine go_v C0 hW [0, 1] [] [0, 1] (va_runV (As := [.int (p1 &&& (255 : Int32))]) (rest := []) C0.fix (c_X1_put l g h_o h_o_row e8 _) (cwV 1 C0.ts (gw_V wl_140 wl_141 wl_142 wl_15 wl_143) rfl rfl rfl (by decide +kernel) ⟨Nat.le_of_ble_eq_true rfl, Nat.le_of_ble_eq_true rfl⟩) (pcv_of C0 hW [0, 1] rfl (by decide) (q0 := 0) rfl rfl) rfl rfl hl.1 rfl (lv_room (Nat.le_of_ble_eq_true rfl)) dX1_putHighestFirst_38 ⟨Nat.le_of_ble_eq_true rfl, Nat.le_of_ble_eq_true rfl⟩) rfl rfl (by decide) (by decide) (ws' := (wF_Bytes g h_o h_o_row r7.1 o_row_n r7.2)) rfl (by decide) (fun H locs hW => ?_)
  obtain rfl := Option.some.inj hF
  exact x_vret C0 hW dX1_putHighestFirst_41

abbrev rm_X6_feed : Room := { frames := 2, cells := 0, slots := 0, locals := 42 }

set_option maxHeartbeats 4000000 in
set_option maxRecDepth 100000 in
/-- SnapHouse.feed(IIIII)I -/
theorem c_X6_feed (l : Launch) (g : GX) (h_o h_o_theTape h_o_theTape_row h_o_theOut h_o_theOut_row h_o_presser h_o_presser_block h_o_presser_block_row h_o_presser_slots h_o_streamMaker h_o_streamMaker_made h_o_streamMaker_made_row h_o_blockOpener h_o_blockOpener_given h_o_blockOpener_given_row h_o_blockOpener_elements h_o_blockOpener_elements_cells h_o_streamOpener h_o_streamOpener_given h_o_streamOpener_given_row h_o_streamOpener_chunks h_o_streamOpener_chunks_cells h_o_keptElements h_o_keptElements_cells h_o_keptChunks h_o_keptChunks_cells : Nat) {K : Nat} (o_faultNumber : Int32) (o_faultPlace : Int32) (o_faultOfBlock : Int32) (o_faultPlaceInBlock : Int32) (o_theOut_count : Int32) (o_theOut_row_n : Nat) (o_theOut_row_c : Nat → Int32) (o_presser_slotMask : Int32) (o_presser_block_count : Int32) (o_presser_block_row_n : Nat) (o_presser_block_row_c : Nat → Int32) (o_presser_slots_n : Nat) (o_presser_slots_c : Nat → Int32) (o_streamMaker_made_count : Int32) (o_streamMaker_made_row_n : Nat) (o_streamMaker_made_row_c : Nat → Int32) (o_blockOpener_fault : Int32) (o_blockOpener_place : Int32) (o_blockOpener_start : Int32) (o_blockOpener_end : Int32) (o_blockOpener_next : Int32) (o_blockOpener_length : Int32) (o_blockOpener_sort : Int32) (o_blockOpener_body : Int32) (o_blockOpener_size : Int64) (o_blockOpener_back : Int64) (o_blockOpener_given_count : Int32) (o_blockOpener_given_row_n : Nat) (o_blockOpener_given_row_c : Nat → Int32) (o_blockOpener_elements_count : Int32) (o_blockOpener_elements_marked : Int32) (o_blockOpener_elements_cells_n : Nat) (o_blockOpener_elements_cells_c : Nat → Int32) (o_streamOpener_fault : Int32) (o_streamOpener_place : Int32) (o_streamOpener_next : Int32) (o_streamOpener_type : Int32) (o_streamOpener_body : Int32) (o_streamOpener_size : Int32) (o_streamOpener_given_count : Int32) (o_streamOpener_given_row_n : Nat) (o_streamOpener_given_row_c : Nat → Int32) (o_streamOpener_chunks_count : Int32) (o_streamOpener_chunks_marked : Int32) (o_streamOpener_chunks_cells_n : Nat) (o_streamOpener_chunks_cells_c : Nat → Int32) (o_keptElements_count : Int32) (o_keptElements_marked : Int32) (o_keptElements_cells_n : Nat) (o_keptElements_cells_c : Nat → Int32) (o_keptChunks_count : Int32) (o_keptChunks_marked : Int32) (o_keptChunks_cells_n : Nat) (o_keptChunks_cells_c : Nat → Int32) {o_theTape_count : Int32} {o_theTape_row_n : Nat} {o_theTape_row_c : Nat → Int32} {p1 : Int32} {p2 : Int32} {p3 : Int32} {p4 : Int32} {p5 : Int32} {o : Int32 × Int32 × (Nat → Int32)} (hF : f_X6_feed K o_theTape_count o_theTape_row_n o_theTape_row_c p1 p2 p3 p4 p5 = some o) : mcI g l yX6_feed wA_X6_feed rm_X6_feed [.ref h_o, .int p1, .int p2, .int p3, .int p4, .int p5] (wF_SnapHouse g h_o h_o_theTape h_o_theTape_row h_o_theOut h_o_theOut_row h_o_presser h_o_presser_block h_o_presser_block_row h_o_presser_slots h_o_streamMaker h_o_streamMaker_made h_o_streamMaker_made_row h_o_blockOpener h_o_blockOpener_given h_o_blockOpener_given_row h_o_blockOpener_elements h_o_blockOpener_elements_cells h_o_streamOpener h_o_streamOpener_given h_o_streamOpener_given_row h_o_streamOpener_chunks h_o_streamOpener_chunks_cells h_o_keptElements h_o_keptElements_cells h_o_keptChunks h_o_keptChunks_cells o_faultNumber o_faultPlace o_faultOfBlock o_faultPlaceInBlock o_theTape_count o_theTape_row_n o_theTape_row_c o_theOut_count o_theOut_row_n o_theOut_row_c o_presser_slotMask o_presser_block_count o_presser_block_row_n o_presser_block_row_c o_presser_slots_n o_presser_slots_c o_streamMaker_made_count o_streamMaker_made_row_n o_streamMaker_made_row_c o_blockOpener_fault o_blockOpener_place o_blockOpener_start o_blockOpener_end o_blockOpener_next o_blockOpener_length o_blockOpener_sort o_blockOpener_body o_blockOpener_size o_blockOpener_back o_blockOpener_given_count o_blockOpener_given_row_n o_blockOpener_given_row_c o_blockOpener_elements_count o_blockOpener_elements_marked o_blockOpener_elements_cells_n o_blockOpener_elements_cells_c o_streamOpener_fault o_streamOpener_place o_streamOpener_next o_streamOpener_type o_streamOpener_body o_streamOpener_size o_streamOpener_given_count o_streamOpener_given_row_n o_streamOpener_given_row_c o_streamOpener_chunks_count o_streamOpener_chunks_marked o_streamOpener_chunks_cells_n o_streamOpener_chunks_cells_c o_keptElements_count o_keptElements_marked o_keptElements_cells_n o_keptElements_cells_c o_keptChunks_count o_keptChunks_marked o_keptChunks_cells_n o_keptChunks_cells_c) o.1 (wF_SnapHouse g h_o h_o_theTape h_o_theTape_row h_o_theOut h_o_theOut_row h_o_presser h_o_presser_block h_o_presser_block_row h_o_presser_slots h_o_streamMaker h_o_streamMaker_made h_o_streamMaker_made_row h_o_blockOpener h_o_blockOpener_given h_o_blockOpener_given_row h_o_blockOpener_elements h_o_blockOpener_elements_cells h_o_streamOpener h_o_streamOpener_given h_o_streamOpener_given_row h_o_streamOpener_chunks h_o_streamOpener_chunks_cells h_o_keptElements h_o_keptElements_cells h_o_keptChunks h_o_keptChunks_cells o_faultNumber o_faultPlace o_faultOfBlock o_faultPlaceInBlock o.2.1 o_theTape_row_n o.2.2 o_theOut_count o_theOut_row_n o_theOut_row_c o_presser_slotMask o_presser_block_count o_presser_block_row_n o_presser_block_row_c o_presser_slots_n o_presser_slots_c o_streamMaker_made_count o_streamMaker_made_row_n o_streamMaker_made_row_c o_blockOpener_fault o_blockOpener_place o_blockOpener_start o_blockOpener_end o_blockOpener_next o_blockOpener_length o_blockOpener_sort o_blockOpener_body o_blockOpener_size o_blockOpener_back o_blockOpener_given_count o_blockOpener_given_row_n o_blockOpener_given_row_c o_blockOpener_elements_count o_blockOpener_elements_marked o_blockOpener_elements_cells_n o_blockOpener_elements_cells_c o_streamOpener_fault o_streamOpener_place o_streamOpener_next o_streamOpener_type o_streamOpener_body o_streamOpener_size o_streamOpener_given_count o_streamOpener_given_row_n o_streamOpener_given_row_c o_streamOpener_chunks_count o_streamOpener_chunks_marked o_streamOpener_chunks_cells_n o_streamOpener_chunks_cells_c o_keptElements_count o_keptElements_marked o_keptElements_cells_n o_keptElements_cells_c o_keptChunks_count o_keptChunks_marked o_keptChunks_cells_n o_keptChunks_cells_c) 0 0 := by
  refine x_start (cc := cX6_feed) (maxL := 6) (ret := (some .int)) (by decide) rfl (Nat.le_of_ble_eq_true rfl) ?_
  intro p e s m below meth c ls C0 hW hl
  have hl : lv_has ls 6 [(0, .ref h_o), (1, .int p1), (2, .int p2), (3, .int p3), (4, .int p4), (5, .int p5)] := hl
  unfold f_X6_feed at hF
  refine lv_aload_n C0.x C0.b dX6_feed_0 rfl (lv_at hl 0 rfl) ?_
  refine x_get C0 hW iw_X6 0 rfl rfl 0 (by decide) (List.mem_cons_of_mem _ wl_16) (v := .ref h_o_theTape) rfl dX6_feed_1 ?_
  refine lv_bipush (v := (20 : Int32)) C0.x C0.b dX6_feed_4 (by decide) ?_
  obtain ⟨r1, e2, hF⟩ := ob hF
  refine go_i C0 hW [1, 2] [0, 3, 4, 5, 6, 7, 8, 9, 10, 11, 12, 13, 14, 15, 16, 17, 18, 19, 20, 21, 22, 23, 24, 25] [0, 24, 25, 1, 2, 3, 4, 5, 6, 7, 8, 9, 10, 11, 12, 13, 14, 15, 16, 17, 18, 19, 20, 21, 22, 23] (va_runV (As := [.int (20 : Int32)]) (rest := []) C0.fix (c_X1_hasRoomFor l g h_o_theTape h_o_theTape_row o_theTape_row_c e2 _) (cwV 1 C0.ts (gw_V wl_132 wl_133 wl_134 wl_15 wl_135) rfl rfl rfl (by decide +kernel) ⟨Nat.le_of_ble_eq_true rfl, Nat.le_of_ble_eq_true rfl⟩) (pcv_of C0 hW [1, 2] rfl (by decide) (q0 := 1) rfl rfl) rfl rfl hl.1 rfl (lv_room (Nat.le_of_ble_eq_true rfl)) dX6_feed_6 ⟨Nat.le_of_ble_eq_true rfl, Nat.le_of_ble_eq_true rfl⟩) rfl rfl (by decide) (by decide) (ws' := (wF_SnapHouse g h_o h_o_theTape h_o_theTape_row h_o_theOut h_o_theOut_row h_o_presser h_o_presser_block h_o_presser_block_row h_o_presser_slots h_o_streamMaker h_o_streamMaker_made h_o_streamMaker_made_row h_o_blockOpener h_o_blockOpener_given h_o_blockOpener_given_row h_o_blockOpener_elements h_o_blockOpener_elements_cells h_o_streamOpener h_o_streamOpener_given h_o_streamOpener_given_row h_o_streamOpener_chunks h_o_streamOpener_chunks_cells h_o_keptElements h_o_keptElements_cells h_o_keptChunks h_o_keptChunks_cells o_faultNumber o_faultPlace o_faultOfBlock o_faultPlaceInBlock o_theTape_count o_theTape_row_n o_theTape_row_c o_theOut_count o_theOut_row_n o_theOut_row_c o_presser_slotMask o_presser_block_count o_presser_block_row_n o_presser_block_row_c o_presser_slots_n o_presser_slots_c o_streamMaker_made_count o_streamMaker_made_row_n o_streamMaker_made_row_c o_blockOpener_fault o_blockOpener_place o_blockOpener_start o_blockOpener_end o_blockOpener_next o_blockOpener_length o_blockOpener_sort o_blockOpener_body o_blockOpener_size o_blockOpener_back o_blockOpener_given_count o_blockOpener_given_row_n o_blockOpener_given_row_c o_blockOpener_elements_count o_blockOpener_elements_marked o_blockOpener_elements_cells_n o_blockOpener_elements_cells_c o_streamOpener_fault o_streamOpener_place o_streamOpener_next o_streamOpener_type o_streamOpener_body o_streamOpener_size o_streamOpener_given_count o_streamOpener_given_row_n o_streamOpener_given_row_c o_streamOpener_chunks_count o_streamOpener_chunks_marked o_streamOpener_chunks_cells_n o_streamOpener_chunks_cells_c o_keptElements_count o_keptElements_marked o_keptElements_cells_n o_keptElements_cells_c o_keptChunks_count o_keptChunks_marked o_keptChunks_cells_n o_keptChunks_cells_c)) rfl (by decide) (fun H locs hW => ?_)
  refine lv_if_ne (tgt := 14) C0.x C0.b dX6_feed_9 (by decide) (fun c3 => ?_) (fun c3 => ?_)
  · have hF := it_f hF c3
    refine lv_aload_n C0.x C0.b dX6_feed_14 rfl (lv_at hl 0 rfl) ?_
    refine x_get C0 hW iw_X6 0 rfl rfl 0 (by decide) (List.mem_cons_of_mem _ wl_16) (v := .ref h_o_theTape) rfl dX6_feed_15 ?_
    refine lv_iload_n C0.x C0.b dX6_feed_18 rfl (lv_at hl 1 rfl) ?_
    obtain ⟨r4, e5, hF⟩ := ob hF
    refine go_v C0 hW [1, 2] [0, 3, 4, 5, 6, 7, 8, 9, 10, 11, 12, 13, 14, 15, 16, 17, 18, 19, 20, 21, 22, 23, 24, 25] [0, 24, 25, 1, 2, 3, 4, 5, 6, 7, 8, 9, 10, 11, 12, 13, 14, 15, 16, 17, 18, 19, 20, 21, 22, 23] (va_runV (As := [.int p1]) (rest := []) C0.fix (c_X1_putHighestFirst l g h_o_theTape h_o_theTape_row e5 _) (cwV 1 C0.ts (gw_V wl_136 wl_137 wl_138 wl_15 wl_139) rfl rfl rfl (by decide +kernel) ⟨Nat.le_of_ble_eq_true rfl, Nat.le_of_ble_eq_true rfl⟩) (pcv_of C0 hW [1, 2] rfl (by decide) (q0 := 1) rfl rfl) rfl rfl hl.1 rfl (lv_room (Nat.le_of_ble_eq_true rfl)) dX6_feed_19 ⟨Nat.le_of_ble_eq_true rfl, Nat.le_of_ble_eq_true rfl⟩) rfl rfl (by decide) (by decide) (ws' := (wF_SnapHouse g h_o h_o_theTape h_o_theTape_row h_o_theOut h_o_theOut_row h_o_presser h_o_presser_block h_o_presser_block_row h_o_presser_slots h_o_streamMaker h_o_streamMaker_made h_o_streamMaker_made_row h_o_blockOpener h_o_blockOpener_given h_o_blockOpener_given_row h_o_blockOpener_elements h_o_blockOpener_elements_cells h_o_streamOpener h_o_streamOpener_given h_o_streamOpener_given_row h_o_streamOpener_chunks h_o_streamOpener_chunks_cells h_o_keptElements h_o_keptElements_cells h_o_keptChunks h_o_keptChunks_cells o_faultNumber o_faultPlace o_faultOfBlock o_faultPlaceInBlock r4.1 o_theTape_row_n r4.2 o_theOut_count o_theOut_row_n o_theOut_row_c o_presser_slotMask o_presser_block_count o_presser_block_row_n o_presser_block_row_c o_presser_slots_n o_presser_slots_c o_streamMaker_made_count o_streamMaker_made_row_n o_streamMaker_made_row_c o_blockOpener_fault o_blockOpener_place o_blockOpener_start o_blockOpener_end o_blockOpener_next o_blockOpener_length o_blockOpener_sort o_blockOpener_body o_blockOpener_size o_blockOpener_back o_blockOpener_given_count o_blockOpener_given_row_n o_blockOpener_given_row_c o_blockOpener_elements_count o_blockOpener_elements_marked o_blockOpener_elements_cells_n o_blockOpener_elements_cells_c o_streamOpener_fault o_streamOpener_place o_streamOpener_next o_streamOpener_type o_streamOpener_body o_streamOpener_size o_streamOpener_given_count o_streamOpener_given_row_n o_streamOpener_given_row_c o_streamOpener_chunks_count o_streamOpener_chunks_marked o_streamOpener_chunks_cells_n o_streamOpener_chunks_cells_c o_keptElements_count o_keptElements_marked o_keptElements_cells_n o_keptElements_cells_c o_keptChunks_count o_keptChunks_marked o_keptChunks_cells_n o_keptChunks_cells_c)) rfl (by decide) (fun H locs hW => ?_)
    refine lv_aload_n C0.x C0.b dX6_feed_22 rfl (lv_at hl 0 rfl) ?_
    refine x_get C0 hW iw_X6 0 rfl rfl 0 (by decide) (List.mem_cons_of_mem _ wl_16) (v := .ref h_o_theTape) rfl dX6_feed_23 ?_
    refine lv_iload_n C0.x C0.b dX6_feed_26 rfl (lv_at hl 2 rfl) ?_
    obtain ⟨r6, e7, hF⟩ := ob hF
    refine go_v C0 hW [1, 2] [0, 3, 4, 5, 6, 7, 8, 9, 10, 11, 12, 13, 14, 15, 16, 17, 18, 19, 20, 21, 22, 23, 24, 25] [0, 24, 25, 1, 2, 3, 4, 5, 6, 7, 8, 9, 10, 11, 12, 13, 14, 15, 16, 17, 18, 19, 20, 21, 22, 23] (va_runV (As := [.int p2]) (rest := []) C0.fix (c_X1_putHighestFirst l g h_o_theTape h_o_theTape_row e7 _) (cwV 1 C0.ts (gw_V wl_136 wl_137 wl_138 wl_15 wl_139) rfl rfl rfl (by decide +kernel) ⟨Nat.le_of_ble_eq_true rfl, Nat.le_of_ble_eq_true rfl⟩) (pcv_of C0 hW [1, 2] rfl (by decide) (q0 := 1) rfl rfl) rfl rfl hl.1 rfl (lv_room (Nat.le_of_ble_eq_true rfl)) dX6_feed_27 ⟨Nat.le_of_ble_eq_true rfl, Nat.le_of_ble_eq_true rfl⟩) rfl rfl (by decide) (by decide) (ws' := (wF_SnapHouse g h_o h_o_theTape h_o_theTape_row h_o_theOut h_o_theOut_row h_o_presser h_o_presser_block h_o_presser_block_row h_o_presser_slots h_o_streamMaker h_o_streamMaker_made h_o_streamMaker_made_row h_o_blockOpener h_o_blockOpener_given h_o_blockOpener_given_row h_o_blockOpener_elements h_o_blockOpener_elements_cells h_o_streamOpener h_o_streamOpener_given h_o_streamOpener_given_row h_o_streamOpener_chunks h_o_streamOpener_chunks_cells h_o_keptElements h_o_keptElements_cells h_o_keptChunks h_o_keptChunks_cells o_faultNumber o_faultPlace o_faultOfBlock o_faultPlaceInBlock r6.1 o_theTape_row_n r6.2 o_theOut_count o_theOut_row_n o_theOut_row_c o_presser_slotMask o_presser_block_count o_presser_block_row_n o_presser_block_row_c o_presser_slots_n o_presser_slots_c o_streamMaker_made_count o_streamMaker_made_row_n o_streamMaker_made_row_c o_blockOpener_fault o_blockOpener_place o_blockOpener_start o_blockOpener_end o_blockOpener_next o_blockOpener_length o_blockOpener_sort o_blockOpener_body o_blockOpener_size o_blockOpener_back o_blockOpener_given_count o_blockOpener_given_row_n o_blockOpener_given_row_c o_blockOpener_elements_count o_blockOpener_elements_marked o_blockOpener_elements_cells_n o_blockOpener_elements_cells_c o_streamOpener_fault o_streamOpener_place o_streamOpener_next o_streamOpener_type o_streamOpener_body o_streamOpener_size o_streamOpener_given_count o_streamOpener_given_row_n o_streamOpener_given_row_c o_streamOpener_chunks_count o_streamOpener_chunks_marked o_streamOpener_chunks_cells_n o_streamOpener_chunks_cells_c o_keptElements_count o_keptElements_marked o_keptElements_cells_n o_keptElements_cells_c o_keptChunks_count o_keptChunks_marked o_keptChunks_cells_n o_keptChunks_cells_c)) rfl (by decide) (fun H locs hW => ?_)
    refine lv_aload_n C0.x C0.b dX6_feed_30 rfl (lv_at hl 0 rfl) ?_
    refine x_get C0 hW iw_X6 0 rfl rfl 0 (by decide) (List.mem_cons_of_mem _ wl_16) (v := .ref h_o_theTape) rfl dX6_feed_31 ?_
    refine lv_iload_n C0.x C0.b dX6_feed_34 rfl (lv_at hl 3 rfl) ?_
    obtain ⟨r8, e9, hF⟩ := ob hF
    refine go_v C0 hW [1, 2] [0, 3, 4, 5, 6, 7, 8, 9, 10, 11, 12, 13, 14, 15, 16, 17, 18, 19, 20, 21, 22, 23, 24, 25] [0, 24, 25, 1, 2, 3, 4, 5, 6, 7, 8, 9, 10, 11, 12, 13, 14, 15, 16, 17, 18, 19, 20, 21, 22, 23] (va_runV (As := [.int p3]) (rest := []) C0.fix (c_X1_putHighestFirst l g h_o_theTape h_o_theTape_row e9 _) (cwV 1 C0.ts (gw_V wl_136 wl_137 wl_138 wl_15 wl_139) rfl rfl rfl (by decide +kernel) ⟨Nat.le_of_ble_eq_true rfl, Nat.le_of_ble_eq_true rfl⟩) (pcv_of C0 hW [1, 2] rfl (by decide) (q0 := 1) rfl rfl) rfl rfl hl.1 rfl (lv_room (Nat.le_of_ble_eq_true rfl)) dX6_feed_35 ⟨Nat.le_of_ble_eq_true rfl, Nat.le_of_ble_eq_true rfl⟩) rfl rfl (by decide) (by decide) (ws' := (wF_SnapHouse g h_o h_o_theTape h_o_theTape_row h_o_theOut h_o_theOut_row h_o_presser h_o_presser_block h_o_presser_block_row h_o_presser_slots h_o_streamMaker h_o_streamMaker_made h_o_streamMaker_made_row h_o_blockOpener h_o_blockOpener_given h_o_blockOpener_given_row h_o_blockOpener_elements h_o_blockOpener_elements_cells h_o_streamOpener h_o_streamOpener_given h_o_streamOpener_given_row h_o_streamOpener_chunks h_o_streamOpener_chunks_cells h_o_keptElements h_o_keptElements_cells h_o_keptChunks h_o_keptChunks_cells o_faultNumber o_faultPlace o_faultOfBlock o_faultPlaceInBlock r8.1 o_theTape_row_n r8.2 o_theOut_count o_theOut_row_n o_theOut_row_c o_presser_slotMask o_presser_block_count o_presser_block_row_n o_presser_block_row_c o_presser_slots_n o_presser_slots_c o_streamMaker_made_count o_streamMaker_made_row_n o_streamMaker_made_row_c o_blockOpener_fault o_blockOpener_place o_blockOpener_start o_blockOpener_end o_blockOpener_next o_blockOpener_length o_blockOpener_sort o_blockOpener_body o_blockOpener_size o_blockOpener_back o_blockOpener_given_count o_blockOpener_given_row_n o_blockOpener_given_row_c o_blockOpener_elements_count o_blockOpener_elements_marked o_blockOpener_elements_cells_n o_blockOpener_elements_cells_c o_streamOpener_fault o_streamOpener_place o_streamOpener_next o_streamOpener_type o_streamOpener_body o_streamOpener_size o_streamOpener_given_count o_streamOpener_given_row_n o_streamOpener_given_row_c o_streamOpener_chunks_count o_streamOpener_chunks_marked o_streamOpener_chunks_cells_n o_streamOpener_chunks_cells_c o_keptElements_count o_keptElements_marked o_keptElements_cells_n o_keptElements_cells_c o_keptChunks_count o_keptChunks_marked o_keptChunks_cells_n o_keptChunks_cells_c)) rfl (by decide) (fun H locs hW => ?_)
    refine lv_aload_n C0.x C0.b dX6_feed_38 rfl (lv_at hl 0 rfl) ?_
    refine x_get C0 hW iw_X6 0 rfl rfl 0 (by decide) (List.mem_cons_of_mem _ wl_16) (v := .ref h_o_theTape) rfl dX6_feed_39 ?_
    refine lv_iload C0.x C0.b dX6_feed_42 (lv_at hl 4 rfl) ?_
    obtain ⟨r10, e11, hF⟩ := ob hF
    refine go_v C0 hW [1, 2] [0, 3, 4, 5, 6, 7, 8, 9, 10, 11, 12, 13, 14, 15, 16, 17, 18, 19, 20, 21, 22, 23, 24, 25] [0, 24, 25, 1, 2, 3, 4, 5, 6, 7, 8, 9, 10, 11, 12, 13, 14, 15, 16, 17, 18, 19, 20, 21, 22, 23] (va_runV (As := [.int p4]) (rest := []) C0.fix (c_X1_putHighestFirst l g h_o_theTape h_o_theTape_row e11 _) (cwV 1 C0.ts (gw_V wl_136 wl_137 wl_138 wl_15 wl_139) rfl rfl rfl (by decide +kernel) ⟨Nat.le_of_ble_eq_true rfl, Nat.le_of_ble_eq_true rfl⟩) (pcv_of C0 hW [1, 2] rfl (by decide) (q0 := 1) rfl rfl) rfl rfl hl.1 rfl (lv_room (Nat.le_of_ble_eq_true rfl)) dX6_feed_44 ⟨Nat.le_of_ble_eq_true rfl, Nat.le_of_ble_eq_true rfl⟩) rfl rfl (by decide) (by decide) (ws' := (wF_SnapHouse g h_o h_o_theTape h_o_theTape_row h_o_theOut h_o_theOut_row h_o_presser h_o_presser_block h_o_presser_block_row h_o_presser_slots h_o_streamMaker h_o_streamMaker_made h_o_streamMaker_made_row h_o_blockOpener h_o_blockOpener_given h_o_blockOpener_given_row h_o_blockOpener_elements h_o_blockOpener_elements_cells h_o_streamOpener h_o_streamOpener_given h_o_streamOpener_given_row h_o_streamOpener_chunks h_o_streamOpener_chunks_cells h_o_keptElements h_o_keptElements_cells h_o_keptChunks h_o_keptChunks_cells o_faultNumber o_faultPlace o_faultOfBlock o_faultPlaceInBlock r10.1 o_theTape_row_n r10.2 o_theOut_count o_theOut_row_n o_theOut_row_c o_presser_slotMask o_presser_block_count o_presser_block_row_n o_presser_block_row_c o_presser_slots_n o_presser_slots_c o_streamMaker_made_count o_streamMaker_made_row_n o_streamMaker_made_row_c o_blockOpener_fault o_blockOpener_place o_blockOpener_start o_blockOpener_end o_blockOpener_next o_blockOpener_length o_blockOpener_sort o_blockOpener_body o_blockOpener_size o_blockOpener_back o_blockOpener_given_count o_blockOpener_given_row_n o_blockOpener_given_row_c o_blockOpener_elements_count o_blockOpener_elements_marked o_blockOpener_elements_cells_n o_blockOpener_elements_cells_c o_streamOpener_fault o_streamOpener_place o_streamOpener_next o_streamOpener_type o_streamOpener_body o_streamOpener_size o_streamOpener_given_count o_streamOpener_given_row_n o_streamOpener_given_row_c o_streamOpener_chunks_count o_streamOpener_chunks_marked o_streamOpener_chunks_cells_n o_streamOpener_chunks_cells_c o_keptElements_count o_keptElements_marked o_keptElements_cells_n o_keptElements_cells_c o_keptChunks_count o_keptChunks_marked o_keptChunks_cells_n o_keptChunks_cells_c)) rfl (by decide) (fun H locs hW => ?_)
    refine lv_aload_n C0.x C0.b dX6_feed_47 rfl (lv_at hl 0 rfl) ?_
    refine x_get C0 hW iw_X6 0 rfl rfl 0 (by decide) (List.mem_cons_of_mem _ wl_16) (v := .ref h_o_theTape) rfl dX6_feed_48 ?_
    refine lv_iload C0.x C0.b dX6_feed_51 (lv_at hl 5 rfl) ?_
    obtain ⟨r12, e13, hF⟩ := ob hF
    refine go_v C0 hW [1, 2] [0, 3, 4, 5, 6, 7, 8, 9, 10, 11, 12, 13, 14, 15, 16, 17, 18, 19, 20, 21, 22, 23, 24, 25] [0, 24, 25, 1, 2, 3, 4, 5, 6, 7, 8, 9, 10, 11, 12, 13, 14, 15, 16, 17, 18, 19, 20, 21, 22, 23] (va_runV (As := [.int p5]) (rest := []) C0.fix (c_X1_putHighestFirst l g h_o_theTape h_o_theTape_row e13 _) (cwV 1 C0.ts (gw_V wl_136 wl_137 wl_138 wl_15 wl_139) rfl rfl rfl (by decide +kernel) ⟨Nat.le_of_ble_eq_true rfl, Nat.le_of_ble_eq_true rfl⟩) (pcv_of C0 hW [1, 2] rfl (by decide) (q0 := 1) rfl rfl) rfl rfl hl.1 rfl (lv_room (Nat.le_of_ble_eq_true rfl)) dX6_feed_53 ⟨Nat.le_of_ble_eq_true rfl, Nat.le_of_ble_eq_true rfl⟩) rfl rfl (by decide) (by decide) (ws' := (wF_SnapHouse g h_o h_o_theTape h_o_theTape_row h_o_theOut h_o_theOut_row h_o_presser h_o_presser_block h_o_presser_block_row h_o_presser_slots h_o_streamMaker h_o_streamMaker_made h_o_streamMaker_made_row h_o_blockOpener h_o_blockOpener_given h_o_blockOpener_given_row h_o_blockOpener_elements h_o_blockOpener_elements_cells h_o_streamOpener h_o_streamOpener_given h_o_streamOpener_given_row h_o_streamOpener_chunks h_o_streamOpener_chunks_cells h_o_keptElements h_o_keptElements_cells h_o_keptChunks h_o_keptChunks_cells o_faultNumber o_faultPlace o_faultOfBlock o_faultPlaceInBlock r12.1 o_theTape_row_n r12.2 o_theOut_count o_theOut_row_n o_theOut_row_c o_presser_slotMask o_presser_block_count o_presser_block_row_n o_presser_block_row_c o_presser_slots_n o_presser_slots_c o_streamMaker_made_count o_streamMaker_made_row_n o_streamMaker_made_row_c o_blockOpener_fault o_blockOpener_place o_blockOpener_start o_blockOpener_end o_blockOpener_next o_blockOpener_length o_blockOpener_sort o_blockOpener_body o_blockOpener_size o_blockOpener_back o_blockOpener_given_count o_blockOpener_given_row_n o_blockOpener_given_row_c o_blockOpener_elements_count o_blockOpener_elements_marked o_blockOpener_elements_cells_n o_blockOpener_elements_cells_c o_streamOpener_fault o_streamOpener_place o_streamOpener_next o_streamOpener_type o_streamOpener_body o_streamOpener_size o_streamOpener_given_count o_streamOpener_given_row_n o_streamOpener_given_row_c o_streamOpener_chunks_count o_streamOpener_chunks_marked o_streamOpener_chunks_cells_n o_streamOpener_chunks_cells_c o_keptElements_count o_keptElements_marked o_keptElements_cells_n o_keptElements_cells_c o_keptChunks_count o_keptChunks_marked o_keptChunks_cells_n o_keptChunks_cells_c)) rfl (by decide) (fun H locs hW => ?_)
    refine lv_aload_n C0.x C0.b dX6_feed_56 rfl (lv_at hl 0 rfl) ?_
    refine x_get C0 hW iw_X6 0 rfl rfl 0 (by decide) (List.mem_cons_of_mem _ wl_16) (v := .ref h_o_theTape) rfl dX6_feed_57 ?_
    refine x_getN C0 hW iw_X1 1 rfl rfl 1 (by decide) (List.mem_of_getElem? (i := 0) rfl) (v := .int r12.1) rfl dX6_feed_60 ?_
    obtain rfl := Option.some.inj hF
    exact x_iret C0 hW rfl rfl dX6_feed_63
  · have hF := it_t hF c3
    refine lv_iconst (v := (-1 : Int32)) C0.x C0.b dX6_feed_12 (by decide) ?_
    obtain rfl := Option.some.inj hF
    exact x_iret C0 hW rfl rfl dX6_feed_13

abbrev rm_X6_isByte : Room := { frames := 0, cells := 0, slots := 0, locals := 0 }

set_option maxHeartbeats 4000000 in
set_option maxRecDepth 100000 in
/-- SnapHouse.isByte(I)Z -/
theorem c_X6_isByte (l : Launch) (g : GX) {K : Nat} {p0 : Int32} {o : Int32} (hF : f_X6_isByte K p0 = some o) : mcI g l yX6_isByte wA_X6_isByte rm_X6_isByte [.int p0] (wF_ g) o (wF_ g) 0 0 := by
  refine x_start (cc := cX6_isByte) (maxL := 1) (ret := (some .boolean)) (by decide) rfl (Nat.le_of_ble_eq_true rfl) ?_
  intro p e s m below meth c ls C0 hW hl
  have hl : lv_has ls 1 [(0, .int p0)] := hl
  unfold f_X6_isByte at hF
  refine lv_iload_n C0.x C0.b dX6_isByte_0 rfl (lv_at hl 0 rfl) ?_
  refine lv_if_lt (tgt := 15) C0.x C0.b dX6_isByte_1 (by decide) (fun c1 => ?_) (fun c1 => ?_)
  · have hF := it_t hF c1
    refine lv_iconst (v := (0 : Int32)) C0.x C0.b dX6_isByte_15 (by decide) ?_
    obtain rfl := Option.some.inj hF
    exact x_iret C0 hW (by decide) rfl dX6_isByte_16
  · have hF := it_f hF c1
    refine lv_iload_n C0.x C0.b dX6_isByte_4 rfl (lv_at hl 0 rfl) ?_
    refine lv_sipush (v := (255 : Int32)) C0.x C0.b dX6_isByte_5 (by decide) ?_
    refine lv_icmp_gt (tgt := 15) C0.x C0.b dX6_isByte_8 (by decide) (fun c2 => ?_) (fun c2 => ?_)
    · have hF := it_t hF c2
      refine lv_iconst (v := (0 : Int32)) C0.x C0.b dX6_isByte_15 (by decide) ?_
      obtain rfl := Option.some.inj hF
      exact x_iret C0 hW (by decide) rfl dX6_isByte_16
    · have hF := it_f hF c2
      refine lv_iconst (v := (1 : Int32)) C0.x C0.b dX6_isByte_11 (by decide) ?_
      refine lv_goto (tgt := 16) C0.x C0.b dX6_isByte_12 (by decide) ?_
      obtain rfl := Option.some.inj hF
      exact x_iret C0 hW (by decide) rfl dX6_isByte_16

abbrev rm_X6_fill : Room := { frames := 1, cells := 0, slots := 0, locals := 21 }

set_option maxHeartbeats 4000000 in
set_option maxRecDepth 100000 in
theorem w_X6_fill_b22 (l : Launch) (g : GX) (h_o h_o_theTape h_o_theTape_row h_o_theOut h_o_theOut_row h_o_presser h_o_presser_block h_o_presser_block_row h_o_presser_slots h_o_streamMaker h_o_streamMaker_made h_o_streamMaker_made_row h_o_blockOpener h_o_blockOpener_given h_o_blockOpener_given_row h_o_blockOpener_elements h_o_blockOpener_elements_cells h_o_streamOpener h_o_streamOpener_given h_o_streamOpener_given_row h_o_streamOpener_chunks h_o_streamOpener_chunks_cells h_o_keptElements h_o_keptElements_cells h_o_keptChunks h_o_keptChunks_cells : Nat) {K : Nat} {o_theTape_row_n : Nat} {o_faultNumber : Int32} {o_faultPlace : Int32} {o_faultOfBlock : Int32} {o_faultPlaceInBlock : Int32} {o_theOut_count : Int32} {o_theOut_row_n : Nat} {o_theOut_row_c : Nat → Int32} {o_presser_slotMask : Int32} {o_presser_block_count : Int32} {o_presser_block_row_n : Nat} {o_presser_block_row_c : Nat → Int32} {o_presser_slots_n : Nat} {o_presser_slots_c : Nat → Int32} {o_streamMaker_made_count : Int32} {o_streamMaker_made_row_n : Nat} {o_streamMaker_made_row_c : Nat → Int32} {o_blockOpener_fault : Int32} {o_blockOpener_place : Int32} {o_blockOpener_start : Int32} {o_blockOpener_end : Int32} {o_blockOpener_next : Int32} {o_blockOpener_length : Int32} {o_blockOpener_sort : Int32} {o_blockOpener_body : Int32} {o_blockOpener_size : Int64} {o_blockOpener_back : Int64} {o_blockOpener_given_count : Int32} {o_blockOpener_given_row_n : Nat} {o_blockOpener_given_row_c : Nat → Int32} {o_blockOpener_elements_count : Int32} {o_blockOpener_elements_marked : Int32} {o_blockOpener_elements_cells_n : Nat} {o_blockOpener_elements_cells_c : Nat → Int32} {o_streamOpener_fault : Int32} {o_streamOpener_place : Int32} {o_streamOpener_next : Int32} {o_streamOpener_type : Int32} {o_streamOpener_body : Int32} {o_streamOpener_size : Int32} {o_streamOpener_given_count : Int32} {o_streamOpener_given_row_n : Nat} {o_streamOpener_given_row_c : Nat → Int32} {o_streamOpener_chunks_count : Int32} {o_streamOpener_chunks_marked : Int32} {o_streamOpener_chunks_cells_n : Nat} {o_streamOpener_chunks_cells_c : Nat → Int32} {o_keptElements_count : Int32} {o_keptElements_marked : Int32} {o_keptElements_cells_n : Nat} {o_keptElements_cells_c : Nat → Int32} {o_keptChunks_count : Int32} {o_keptChunks_marked : Int32} {o_keptChunks_cells_n : Nat} {o_keptChunks_cells_c : Nat → Int32} {p1 : Int32} {p2 : Int32} {o : Int32 × Int32 × (Nat → Int32)} {wc : va_W} {p : Program} {e : Env} {s : State} {m : MethodId} {args : Array Value} {below : List Frame} {meth : Method} {c : Code} (C0 : bx g p s m meth c args cX6_fill 4 (some .int) yX6_fill wA_X6_fill (va_A wc s.heap.size)) :
    ∀ (n : Nat) (o_theTape_count : Int32) (o_theTape_row_c : Nat → Int32) (x3 : Int32), f_X6_fill_b22 K o_theTape_row_n p1 p2 n o_theTape_count o_theTape_row_c x3 = some o → ∀ (H : Heap) (locs : List Loc) (ls : Array Slot), ww g (va_A wc s.heap.size) s (wF_SnapHouse g h_o h_o_theTape h_o_theTape_row h_o_theOut h_o_theOut_row h_o_presser h_o_presser_block h_o_presser_block_row h_o_presser_slots h_o_streamMaker h_o_streamMaker_made h_o_streamMaker_made_row h_o_blockOpener h_o_blockOpener_given h_o_blockOpener_given_row h_o_blockOpener_elements h_o_blockOpener_elements_cells h_o_streamOpener h_o_streamOpener_given h_o_streamOpener_given_row h_o_streamOpener_chunks h_o_streamOpener_chunks_cells h_o_keptElements h_o_keptElements_cells h_o_keptChunks h_o_keptChunks_cells o_faultNumber o_faultPlace o_faultOfBlock o_faultPlaceInBlock o_theTape_count o_theTape_row_n o_theTape_row_c o_theOut_count o_theOut_row_n o_theOut_row_c o_presser_slotMask o_presser_block_count o_presser_block_row_n o_presser_block_row_c o_presser_slots_n o_presser_slots_c o_streamMaker_made_count o_streamMaker_made_row_n o_streamMaker_made_row_c o_blockOpener_fault o_blockOpener_place o_blockOpener_start o_blockOpener_end o_blockOpener_next o_blockOpener_length o_blockOpener_sort o_blockOpener_body o_blockOpener_size o_blockOpener_back o_blockOpener_given_count o_blockOpener_given_row_n o_blockOpener_given_row_c o_blockOpener_elements_count o_blockOpener_elements_marked o_blockOpener_elements_cells_n o_blockOpener_elements_cells_c o_streamOpener_fault o_streamOpener_place o_streamOpener_next o_streamOpener_type o_streamOpener_body o_streamOpener_size o_streamOpener_given_count o_streamOpener_given_row_n o_streamOpener_given_row_c o_streamOpener_chunks_count o_streamOpener_chunks_marked o_streamOpener_chunks_cells_n o_streamOpener_chunks_cells_c o_keptElements_count o_keptElements_marked o_keptElements_cells_n o_keptElements_cells_c o_keptChunks_count o_keptChunks_marked o_keptChunks_cells_n o_keptChunks_cells_c) H locs → lv_has ls 4 [(0, .ref h_o), (1, .int p1), (2, .int p2), (3, .int x3)] → W p l e rm_X6_fill s m args below meth c H locs 0 0 (MQ below (qcI g wc s.heap.size o.1 (wF_SnapHouse g h_o h_o_theTape h_o_theTape_row h_o_theOut h_o_theOut_row h_o_presser h_o_presser_block h_o_presser_block_row h_o_presser_slots h_o_streamMaker h_o_streamMaker_made h_o_streamMaker_made_row h_o_blockOpener h_o_blockOpener_given h_o_blockOpener_given_row h_o_blockOpener_elements h_o_blockOpener_elements_cells h_o_streamOpener h_o_streamOpener_given h_o_streamOpener_given_row h_o_streamOpener_chunks h_o_streamOpener_chunks_cells h_o_keptElements h_o_keptElements_cells h_o_keptChunks h_o_keptChunks_cells o_faultNumber o_faultPlace o_faultOfBlock o_faultPlaceInBlock o.2.1 o_theTape_row_n o.2.2 o_theOut_count o_theOut_row_n o_theOut_row_c o_presser_slotMask o_presser_block_count o_presser_block_row_n o_presser_block_row_c o_presser_slots_n o_presser_slots_c o_streamMaker_made_count o_streamMaker_made_row_n o_streamMaker_made_row_c o_blockOpener_fault o_blockOpener_place o_blockOpener_start o_blockOpener_end o_blockOpener_next o_blockOpener_length o_blockOpener_sort o_blockOpener_body o_blockOpener_size o_blockOpener_back o_blockOpener_given_count o_blockOpener_given_row_n o_blockOpener_given_row_c o_blockOpener_elements_count o_blockOpener_elements_marked o_blockOpener_elements_cells_n o_blockOpener_elements_cells_c o_streamOpener_fault o_streamOpener_place o_streamOpener_next o_streamOpener_type o_streamOpener_body o_streamOpener_size o_streamOpener_given_count o_streamOpener_given_row_n o_streamOpener_given_row_c o_streamOpener_chunks_count o_streamOpener_chunks_marked o_streamOpener_chunks_cells_n o_streamOpener_chunks_cells_c o_keptElements_count o_keptElements_marked o_keptElements_cells_n o_keptElements_cells_c o_keptChunks_count o_keptChunks_marked o_keptChunks_cells_n o_keptChunks_cells_c)) args s 0 0 (va_A wc s.heap.size)) (F0 m 22 ls []) := by
  intro n
  induction n with
  | zero => intro o_theTape_count o_theTape_row_c x3 hF; cases (show (none : Option (Int32 × Int32 × (Nat → Int32))) = some o from hF)
  | succ n ih =>
    intro o_theTape_count o_theTape_row_c x3 hF H locs ls hW hl
    rw [f_X6_fill_b22] at hF
    refine lv_iload_n C0.x C0.b dX6_fill_22 rfl (lv_at hl 3 rfl) ?_
    refine lv_iload_n C0.x C0.b dX6_fill_23 rfl (lv_at hl 2 rfl) ?_
    refine lv_icmp_ge (tgt := 41) C0.x C0.b dX6_fill_24 (by decide) (fun c1 => ?_) (fun c1 => ?_)
    · have hF := it_t hF c1
      refine lv_aload_n C0.x C0.b dX6_fill_41 rfl (lv_at hl 0 rfl) ?_
      refine x_get C0 hW iw_X6 0 rfl rfl 0 (by decide) (List.mem_cons_of_mem _ wl_16) (v := .ref h_o_theTape) rfl dX6_fill_42 ?_
      refine x_getN C0 hW iw_X1 1 rfl rfl 1 (by decide) (List.mem_of_getElem? (i := 0) rfl) (v := .int o_theTape_count) rfl dX6_fill_45 ?_
      obtain rfl := Option.some.inj hF
      exact x_iret C0 hW rfl rfl dX6_fill_48
    · have hF := it_f hF c1
      refine lv_aload_n C0.x C0.b dX6_fill_27 rfl (lv_at hl 0 rfl) ?_
      refine x_get C0 hW iw_X6 0 rfl rfl 0 (by decide) (List.mem_cons_of_mem _ wl_16) (v := .ref h_o_theTape) rfl dX6_fill_28 ?_
      refine lv_iload_n C0.x C0.b dX6_fill_31 rfl (lv_at hl 1 rfl) ?_
      obtain ⟨r2, e3, hF⟩ := ob hF
      refine go_v C0 hW [1, 2] [0, 3, 4, 5, 6, 7, 8, 9, 10, 11, 12, 13, 14, 15, 16, 17, 18, 19, 20, 21, 22, 23, 24, 25] [0, 24, 25, 1, 2, 3, 4, 5, 6, 7, 8, 9, 10, 11, 12, 13, 14, 15, 16, 17, 18, 19, 20, 21, 22, 23] (va_runV (As := [.int p1]) (rest := []) C0.fix (c_X1_put l g h_o_theTape h_o_theTape_row e3 _) (cwV 1 C0.ts (gw_V wl_161 wl_141 wl_142 wl_15 wl_143) rfl rfl rfl (by decide +kernel) ⟨Nat.le_of_ble_eq_true rfl, Nat.le_of_ble_eq_true rfl⟩) (pcv_of C0 hW [1, 2] rfl (by decide) (q0 := 1) rfl rfl) rfl rfl hl.1 rfl (lv_room (Nat.le_of_ble_eq_true rfl)) dX6_fill_32 ⟨Nat.le_of_ble_eq_true rfl, Nat.le_of_ble_eq_true rfl⟩) rfl rfl (by decide) (by decide) (ws' := (wF_SnapHouse g h_o h_o_theTape h_o_theTape_row h_o_theOut h_o_theOut_row h_o_presser h_o_presser_block h_o_presser_block_row h_o_presser_slots h_o_streamMaker h_o_streamMaker_made h_o_streamMaker_made_row h_o_blockOpener h_o_blockOpener_given h_o_blockOpener_given_row h_o_blockOpener_elements h_o_blockOpener_elements_cells h_o_streamOpener h_o_streamOpener_given h_o_streamOpener_given_row h_o_streamOpener_chunks h_o_streamOpener_chunks_cells h_o_keptElements h_o_keptElements_cells h_o_keptChunks h_o_keptChunks_cells o_faultNumber o_faultPlace o_faultOfBlock o_faultPlaceInBlock r2.1 o_theTape_row_n r2.2 o_theOut_count o_theOut_row_n o_theOut_row_c o_presser_slotMask o_presser_block_count o_presser_block_row_n o_presser_block_row_c o_presser_slots_n o_presser_slots_c o_streamMaker_made_count o_streamMaker_made_row_n o_streamMaker_made_row_c o_blockOpener_fault o_blockOpener_place o_blockOpener_start o_blockOpener_end o_blockOpener_next o_blockOpener_length o_blockOpener_sort o_blockOpener_body o_blockOpener_size o_blockOpener_back o_blockOpener_given_count o_blockOpener_given_row_n o_blockOpener_given_row_c o_blockOpener_elements_count o_blockOpener_elements_marked o_blockOpener_elements_cells_n o_blockOpener_elements_cells_c o_streamOpener_fault o_streamOpener_place o_streamOpener_next o_streamOpener_type o_streamOpener_body o_streamOpener_size o_streamOpener_given_count o_streamOpener_given_row_n o_streamOpener_given_row_c o_streamOpener_chunks_count o_streamOpener_chunks_marked o_streamOpener_chunks_cells_n o_streamOpener_chunks_cells_c o_keptElements_count o_keptElements_marked o_keptElements_cells_n o_keptElements_cells_c o_keptChunks_count o_keptChunks_marked o_keptChunks_cells_n o_keptChunks_cells_c)) rfl (by decide) (fun H locs hW => ?_)
      refine lv_iinc (v := (x3 + (1 : Int32))) (lv' := [(3, .int (x3 + (1 : Int32))), (0, .ref h_o), (1, .int p1), (2, .int p2)]) C0.x C0.b dX6_fill_35 hl (k := 3) rfl rfl (by decide) rfl (fun ls hl => ?_)
      refine lv_goto (tgt := 22) C0.x C0.b dX6_fill_38 (by decide) ?_
      exact ih r2.1 r2.2 (x3 + (1 : Int32)) hF _ _ _ hW (lv_sub hl [1, 2, 3, 0] rfl)

set_option maxHeartbeats 4000000 in
set_option maxRecDepth 100000 in
/-- SnapHouse.fill(II)I -/
theorem c_X6_fill (l : Launch) (g : GX) (h_o h_o_theTape h_o_theTape_row h_o_theOut h_o_theOut_row h_o_presser h_o_presser_block h_o_presser_block_row h_o_presser_slots h_o_streamMaker h_o_streamMaker_made h_o_streamMaker_made_row h_o_blockOpener h_o_blockOpener_given h_o_blockOpener_given_row h_o_blockOpener_elements h_o_blockOpener_elements_cells h_o_streamOpener h_o_streamOpener_given h_o_streamOpener_given_row h_o_streamOpener_chunks h_o_streamOpener_chunks_cells h_o_keptElements h_o_keptElements_cells h_o_keptChunks h_o_keptChunks_cells : Nat) {K : Nat} (o_faultNumber : Int32) (o_faultPlace : Int32) (o_faultOfBlock : Int32) (o_faultPlaceInBlock : Int32) (o_theOut_count : Int32) (o_theOut_row_n : Nat) (o_theOut_row_c : Nat → Int32) (o_presser_slotMask : Int32) (o_presser_block_count : Int32) (o_presser_block_row_n : Nat) (o_presser_block_row_c : Nat → Int32) (o_presser_slots_n : Nat) (o_presser_slots_c : Nat → Int32) (o_streamMaker_made_count : Int32) (o_streamMaker_made_row_n : Nat) (o_streamMaker_made_row_c : Nat → Int32) (o_blockOpener_fault : Int32) (o_blockOpener_place : Int32) (o_blockOpener_start : Int32) (o_blockOpener_end : Int32) (o_blockOpener_next : Int32) (o_blockOpener_length : Int32) (o_blockOpener_sort : Int32) (o_blockOpener_body : Int32) (o_blockOpener_size : Int64) (o_blockOpener_back : Int64) (o_blockOpener_given_count : Int32) (o_blockOpener_given_row_n : Nat) (o_blockOpener_given_row_c : Nat → Int32) (o_blockOpener_elements_count : Int32) (o_blockOpener_elements_marked : Int32) (o_blockOpener_elements_cells_n : Nat) (o_blockOpener_elements_cells_c : Nat → Int32) (o_streamOpener_fault : Int32) (o_streamOpener_place : Int32) (o_streamOpener_next : Int32) (o_streamOpener_type : Int32) (o_streamOpener_body : Int32) (o_streamOpener_size : Int32) (o_streamOpener_given_count : Int32) (o_streamOpener_given_row_n : Nat) (o_streamOpener_given_row_c : Nat → Int32) (o_streamOpener_chunks_count : Int32) (o_streamOpener_chunks_marked : Int32) (o_streamOpener_chunks_cells_n : Nat) (o_streamOpener_chunks_cells_c : Nat → Int32) (o_keptElements_count : Int32) (o_keptElements_marked : Int32) (o_keptElements_cells_n : Nat) (o_keptElements_cells_c : Nat → Int32) (o_keptChunks_count : Int32) (o_keptChunks_marked : Int32) (o_keptChunks_cells_n : Nat) (o_keptChunks_cells_c : Nat → Int32) {o_theTape_count : Int32} {o_theTape_row_n : Nat} {o_theTape_row_c : Nat → Int32} {p1 : Int32} {p2 : Int32} {o : Int32 × Int32 × (Nat → Int32)} (hF : f_X6_fill K o_theTape_count o_theTape_row_n o_theTape_row_c p1 p2 = some o) : mcI g l yX6_fill wA_X6_fill rm_X6_fill [.ref h_o, .int p1, .int p2] (wF_SnapHouse g h_o h_o_theTape h_o_theTape_row h_o_theOut h_o_theOut_row h_o_presser h_o_presser_block h_o_presser_block_row h_o_presser_slots h_o_streamMaker h_o_streamMaker_made h_o_streamMaker_made_row h_o_blockOpener h_o_blockOpener_given h_o_blockOpener_given_row h_o_blockOpener_elements h_o_blockOpener_elements_cells h_o_streamOpener h_o_streamOpener_given h_o_streamOpener_given_row h_o_streamOpener_chunks h_o_streamOpener_chunks_cells h_o_keptElements h_o_keptElements_cells h_o_keptChunks h_o_keptChunks_cells o_faultNumber o_faultPlace o_faultOfBlock o_faultPlaceInBlock o_theTape_count o_theTape_row_n o_theTape_row_c o_theOut_count o_theOut_row_n o_theOut_row_c o_presser_slotMask o_presser_block_count o_presser_block_row_n o_presser_block_row_c o_presser_slots_n o_presser_slots_c o_streamMaker_made_count o_streamMaker_made_row_n o_streamMaker_made_row_c o_blockOpener_fault o_blockOpener_place o_blockOpener_start o_blockOpener_end o_blockOpener_next o_blockOpener_length o_blockOpener_sort o_blockOpener_body o_blockOpener_size o_blockOpener_back o_blockOpener_given_count o_blockOpener_given_row_n o_blockOpener_given_row_c o_blockOpener_elements_count o_blockOpener_elements_marked o_blockOpener_elements_cells_n o_blockOpener_elements_cells_c o_streamOpener_fault o_streamOpener_place o_streamOpener_next o_streamOpener_type o_streamOpener_body o_streamOpener_size o_streamOpener_given_count o_streamOpener_given_row_n o_streamOpener_given_row_c o_streamOpener_chunks_count o_streamOpener_chunks_marked o_streamOpener_chunks_cells_n o_streamOpener_chunks_cells_c o_keptElements_count o_keptElements_marked o_keptElements_cells_n o_keptElements_cells_c o_keptChunks_count o_keptChunks_marked o_keptChunks_cells_n o_keptChunks_cells_c) o.1 (wF_SnapHouse g h_o h_o_theTape h_o_theTape_row h_o_theOut h_o_theOut_row h_o_presser h_o_presser_block h_o_presser_block_row h_o_presser_slots h_o_streamMaker h_o_streamMaker_made h_o_streamMaker_made_row h_o_blockOpener h_o_blockOpener_given h_o_blockOpener_given_row h_o_blockOpener_elements h_o_blockOpener_elements_cells h_o_streamOpener h_o_streamOpener_given h_o_streamOpener_given_row h_o_streamOpener_chunks h_o_streamOpener_chunks_cells h_o_keptElements h_o_keptElements_cells h_o_keptChunks h_o_keptChunks_cells o_faultNumber o_faultPlace o_faultOfBlock o_faultPlaceInBlock o.2.1 o_theTape_row_n o.2.2 o_theOut_count o_theOut_row_n o_theOut_row_c o_presser_slotMask o_presser_block_count o_presser_block_row_n o_presser_block_row_c o_presser_slots_n o_presser_slots_c o_streamMaker_made_count o_streamMaker_made_row_n o_streamMaker_made_row_c o_blockOpener_fault o_blockOpener_place o_blockOpener_start o_blockOpener_end o_blockOpener_next o_blockOpener_length o_blockOpener_sort o_blockOpener_body o_blockOpener_size o_blockOpener_back o_blockOpener_given_count o_blockOpener_given_row_n o_blockOpener_given_row_c o_blockOpener_elements_count o_blockOpener_elements_marked o_blockOpener_elements_cells_n o_blockOpener_elements_cells_c o_streamOpener_fault o_streamOpener_place o_streamOpener_next o_streamOpener_type o_streamOpener_body o_streamOpener_size o_streamOpener_given_count o_streamOpener_given_row_n o_streamOpener_given_row_c o_streamOpener_chunks_count o_streamOpener_chunks_marked o_streamOpener_chunks_cells_n o_streamOpener_chunks_cells_c o_keptElements_count o_keptElements_marked o_keptElements_cells_n o_keptElements_cells_c o_keptChunks_count o_keptChunks_marked o_keptChunks_cells_n o_keptChunks_cells_c) 0 0 := by
  refine x_start (cc := cX6_fill) (maxL := 4) (ret := (some .int)) (by decide) rfl (Nat.le_of_ble_eq_true rfl) ?_
  intro p e s m below meth c ls C0 hW hl
  have hl : lv_has ls 4 [(0, .ref h_o), (1, .int p1), (2, .int p2)] := hl
  unfold f_X6_fill at hF
  refine lv_iload_n C0.x C0.b dX6_fill_0 rfl (lv_at hl 1 rfl) ?_
  obtain ⟨r1, e2, hF⟩ := ob hF
  refine go_i C0 hW [] [0, 1, 2, 3, 4, 5, 6, 7, 8, 9, 10, 11, 12, 13, 14, 15, 16, 17, 18, 19, 20, 21, 22, 23, 24, 25] [0, 1, 2, 3, 4, 5, 6, 7, 8, 9, 10, 11, 12, 13, 14, 15, 16, 17, 18, 19, 20, 21, 22, 23, 24, 25] (va_runS (As := [.int p1]) (rest := []) C0.fix (c_X6_isByte l g e2 _) (va_cwS 1 C0.ts (gw_S wl_158 wl_159 wl_2 wl_160) rfl rfl rfl (by decide +kernel) ⟨Nat.le_of_ble_eq_true rfl, Nat.le_of_ble_eq_true rfl⟩) (pcc_of C0 hW [] rfl (by decide)) rfl rfl hl.1 rfl (lv_room (Nat.le_of_ble_eq_true rfl)) dX6_fill_1 ⟨Nat.le_of_ble_eq_true rfl, Nat.le_of_ble_eq_true rfl⟩) rfl rfl (by decide) (by decide) (ws' := (wF_SnapHouse g h_o h_o_theTape h_o_theTape_row h_o_theOut h_o_theOut_row h_o_presser h_o_presser_block h_o_presser_block_row h_o_presser_slots h_o_streamMaker h_o_streamMaker_made h_o_streamMaker_made_row h_o_blockOpener h_o_blockOpener_given h_o_blockOpener_given_row h_o_blockOpener_elements h_o_blockOpener_elements_cells h_o_streamOpener h_o_streamOpener_given h_o_streamOpener_given_row h_o_streamOpener_chunks h_o_streamOpener_chunks_cells h_o_keptElements h_o_keptElements_cells h_o_keptChunks h_o_keptChunks_cells o_faultNumber o_faultPlace o_faultOfBlock o_faultPlaceInBlock o_theTape_count o_theTape_row_n o_theTape_row_c o_theOut_count o_theOut_row_n o_theOut_row_c o_presser_slotMask o_presser_block_count o_presser_block_row_n o_presser_block_row_c o_presser_slots_n o_presser_slots_c o_streamMaker_made_count o_streamMaker_made_row_n o_streamMaker_made_row_c o_blockOpener_fault o_blockOpener_place o_blockOpener_start o_blockOpener_end o_blockOpener_next o_blockOpener_length o_blockOpener_sort o_blockOpener_body o_blockOpener_size o_blockOpener_back o_blockOpener_given_count o_blockOpener_given_row_n o_blockOpener_given_row_c o_blockOpener_elements_count o_blockOpener_elements_marked o_blockOpener_elements_cells_n o_blockOpener_elements_cells_c o_streamOpener_fault o_streamOpener_place o_streamOpener_next o_streamOpener_type o_streamOpener_body o_streamOpener_size o_streamOpener_given_count o_streamOpener_given_row_n o_streamOpener_given_row_c o_streamOpener_chunks_count o_streamOpener_chunks_marked o_streamOpener_chunks_cells_n o_streamOpener_chunks_cells_c o_keptElements_count o_keptElements_marked o_keptElements_cells_n o_keptElements_cells_c o_keptChunks_count o_keptChunks_marked o_keptChunks_cells_n o_keptChunks_cells_c)) rfl (by decide) (fun H locs hW => ?_)
  refine lv_if_eq (tgt := 18) C0.x C0.b dX6_fill_4 (by decide) (fun c3 => ?_) (fun c3 => ?_)
  · have hF := it_t hF c3
    refine lv_iconst (v := (-1 : Int32)) C0.x C0.b dX6_fill_18 (by decide) ?_
    obtain rfl := Option.some.inj hF
    exact x_iret C0 hW rfl rfl dX6_fill_19
  · have hF := it_f hF c3
    refine lv_aload_n C0.x C0.b dX6_fill_7 rfl (lv_at hl 0 rfl) ?_
    refine x_get C0 hW iw_X6 0 rfl rfl 0 (by decide) (List.mem_cons_of_mem _ wl_16) (v := .ref h_o_theTape) rfl dX6_fill_8 ?_
    refine lv_iload_n C0.x C0.b dX6_fill_11 rfl (lv_at hl 2 rfl) ?_
    obtain ⟨r4, e5, hF⟩ := ob hF
    refine go_i C0 hW [1, 2] [0, 3, 4, 5, 6, 7, 8, 9, 10, 11, 12, 13, 14, 15, 16, 17, 18, 19, 20, 21, 22, 23, 24, 25] [0, 24, 25, 1, 2, 3, 4, 5, 6, 7, 8, 9, 10, 11, 12, 13, 14, 15, 16, 17, 18, 19, 20, 21, 22, 23] (va_runV (As := [.int p2]) (rest := []) C0.fix (c_X1_hasRoomFor l g h_o_theTape h_o_theTape_row o_theTape_row_c e5 _) (cwV 1 C0.ts (gw_V wl_132 wl_133 wl_134 wl_15 wl_135) rfl rfl rfl (by decide +kernel) ⟨Nat.le_of_ble_eq_true rfl, Nat.le_of_ble_eq_true rfl⟩) (pcv_of C0 hW [1, 2] rfl (by decide) (q0 := 1) rfl rfl) rfl rfl hl.1 rfl (lv_room (Nat.le_of_ble_eq_true rfl)) dX6_fill_12 ⟨Nat.le_of_ble_eq_true rfl, Nat.le_of_ble_eq_true rfl⟩) rfl rfl (by decide) (by decide) (ws' := (wF_SnapHouse g h_o h_o_theTape h_o_theTape_row h_o_theOut h_o_theOut_row h_o_presser h_o_presser_block h_o_presser_block_row h_o_presser_slots h_o_streamMaker h_o_streamMaker_made h_o_streamMaker_made_row h_o_blockOpener h_o_blockOpener_given h_o_blockOpener_given_row h_o_blockOpener_elements h_o_blockOpener_elements_cells h_o_streamOpener h_o_streamOpener_given h_o_streamOpener_given_row h_o_streamOpener_chunks h_o_streamOpener_chunks_cells h_o_keptElements h_o_keptElements_cells h_o_keptChunks h_o_keptChunks_cells o_faultNumber o_faultPlace o_faultOfBlock o_faultPlaceInBlock o_theTape_count o_theTape_row_n o_theTape_row_c o_theOut_count o_theOut_row_n o_theOut_row_c o_presser_slotMask o_presser_block_count o_presser_block_row_n o_presser_block_row_c o_presser_slots_n o_presser_slots_c o_streamMaker_made_count o_streamMaker_made_row_n o_streamMaker_made_row_c o_blockOpener_fault o_blockOpener_place o_blockOpener_start o_blockOpener_end o_blockOpener_next o_blockOpener_length o_blockOpener_sort o_blockOpener_body o_blockOpener_size o_blockOpener_back o_blockOpener_given_count o_blockOpener_given_row_n o_blockOpener_given_row_c o_blockOpener_elements_count o_blockOpener_elements_marked o_blockOpener_elements_cells_n o_blockOpener_elements_cells_c o_streamOpener_fault o_streamOpener_place o_streamOpener_next o_streamOpener_type o_streamOpener_body o_streamOpener_size o_streamOpener_given_count o_streamOpener_given_row_n o_streamOpener_given_row_c o_streamOpener_chunks_count o_streamOpener_chunks_marked o_streamOpener_chunks_cells_n o_streamOpener_chunks_cells_c o_keptElements_count o_keptElements_marked o_keptElements_cells_n o_keptElements_cells_c o_keptChunks_count o_keptChunks_marked o_keptChunks_cells_n o_keptChunks_cells_c)) rfl (by decide) (fun H locs hW => ?_)
    refine lv_if_ne (tgt := 20) C0.x C0.b dX6_fill_15 (by decide) (fun c6 => ?_) (fun c6 => ?_)
    · have hF := it_f hF c6
      refine lv_iconst (v := (0 : Int32)) C0.x C0.b dX6_fill_20 (by decide) ?_
      refine lv_istore_n (lv' := [(3, .int (0 : Int32)), (0, .ref h_o), (1, .int p1), (2, .int p2)]) C0.x C0.b dX6_fill_21 rfl hl (by decide) rfl (fun ls hl => ?_)
      exact w_X6_fill_b22 l g h_o h_o_theTape h_o_theTape_row h_o_theOut h_o_theOut_row h_o_presser h_o_presser_block h_o_presser_block_row h_o_presser_slots h_o_streamMaker h_o_streamMaker_made h_o_streamMaker_made_row h_o_blockOpener h_o_blockOpener_given h_o_blockOpener_given_row h_o_blockOpener_elements h_o_blockOpener_elements_cells h_o_streamOpener h_o_streamOpener_given h_o_streamOpener_given_row h_o_streamOpener_chunks h_o_streamOpener_chunks_cells h_o_keptElements h_o_keptElements_cells h_o_keptChunks h_o_keptChunks_cells C0 K o_theTape_count o_theTape_row_c (0 : Int32) hF _ _ _ hW (lv_sub hl [1, 2, 3, 0] rfl)
    · have hF := it_t hF c6
      refine lv_iconst (v := (-1 : Int32)) C0.x C0.b dX6_fill_18 (by decide) ?_
      obtain rfl := Option.some.inj hF
      exact x_iret C0 hW rfl rfl dX6_fill_19

abbrev rm_X1_hasPlace : Room := { frames := 0, cells := 0, slots := 0, locals := 0 }

set_option maxHeartbeats 4000000 in
set_option maxRecDepth 100000 in
/-- SnapHouse$Bytes.hasPlace(I)Z -/
theorem c_X1_hasPlace (l : Launch) (g : GX) (h_o h_o_row : Nat) {K : Nat} (o_row_n : Nat) (o_row_c : Nat → Int32) {o_count : Int32} {p1 : Int32} {o : Int32} (hF : f_X1_hasPlace K o_count p1 = some o) : mcI g l yX1_hasPlace wA_X1_hasPlace rm_X1_hasPlace [.ref h_o, .int p1] (wF_Bytes g h_o h_o_row o_count o_row_n o_row_c) o (wF_Bytes g h_o h_o_row o_count o_row_n o_row_c) 0 0 := by
  refine x_start (cc := cX1_hasPlace) (maxL := 2) (ret := (some .boolean)) (by decide) rfl (Nat.le_of_ble_eq_true rfl) ?_
  intro p e s m below meth c ls C0 hW hl
  have hl : lv_has ls 2 [(0, .ref h_o), (1, .int p1)] := hl
  unfold f_X1_hasPlace at hF
  refine lv_iload_n C0.x C0.b dX1_hasPlace_0 rfl (lv_at hl 1 rfl) ?_
  refine lv_if_lt (tgt := 16) C0.x C0.b dX1_hasPlace_1 (by decide) (fun c1 => ?_) (fun c1 => ?_)
  · have hF := it_t hF c1
    refine lv_iconst (v := (0 : Int32)) C0.x C0.b dX1_hasPlace_16 (by decide) ?_
    obtain rfl := Option.some.inj hF
    exact x_iret C0 hW (by decide) rfl dX1_hasPlace_17
  · have hF := it_f hF c1
    refine lv_iload_n C0.x C0.b dX1_hasPlace_4 rfl (lv_at hl 1 rfl) ?_
    refine lv_aload_n C0.x C0.b dX1_hasPlace_5 rfl (lv_at hl 0 rfl) ?_
    refine x_get C0 hW iw_X1 0 rfl rfl 1 (by decide) (List.mem_cons_of_mem _ wl_47) (v := .int o_count) rfl dX1_hasPlace_6 ?_
    refine lv_icmp_ge (tgt := 16) C0.x C0.b dX1_hasPlace_9 (by decide) (fun c2 => ?_) (fun c2 => ?_)
    · have hF := it_t hF c2
      refine lv_iconst (v := (0 : Int32)) C0.x C0.b dX1_hasPlace_16 (by decide) ?_
      obtain rfl := Option.some.inj hF
      exact x_iret C0 hW (by decide) rfl dX1_hasPlace_17
    · have hF := it_f hF c2
      refine lv_iconst (v := (1 : Int32)) C0.x C0.b dX1_hasPlace_12 (by decide) ?_
      refine lv_goto (tgt := 17) C0.x C0.b dX1_hasPlace_13 (by decide) ?_
      obtain rfl := Option.some.inj hF
      exact x_iret C0 hW (by decide) rfl dX1_hasPlace_17

abbrev rm_X1_putOwn : Room := { frames := 1, cells := 0, slots := 0, locals := 21 }

set_option maxHeartbeats 4000000 in
set_option maxRecDepth 100000 in
theorem w_X1_putOwn_b19 (l : Launch) (g : GX) (h_o h_o_row : Nat) {K : Nat} {o_row_n : Nat} {p1 : Int32} {p2 : Int32} {o : Int32 × (Nat → Int32)} {wc : va_W} {p : Program} {e : Env} {s : State} {m : MethodId} {args : Array Value} {below : List Frame} {meth : Method} {c : Code} (C0 : bx g p s m meth c args cX1_putOwn 4 none yX1_putOwn wA_X1_putOwn (va_A wc s.heap.size)) :
    ∀ (n : Nat) (o_count : Int32) (o_row_c : Nat → Int32) (x3 : Int32), f_X1_putOwn_b19 K o_row_n p1 p2 n o_count o_row_c x3 = some o → ∀ (H : Heap) (locs : List Loc) (ls : Array Slot), ww g (va_A wc s.heap.size) s (wF_Bytes g h_o h_o_row o_count o_row_n o_row_c) H locs → lv_has ls 4 [(0, .ref h_o), (1, .int p1), (2, .int p2), (3, .int x3)] → W p l e rm_X1_putOwn s m args below meth c H locs 0 0 (MQ below (qcV g wc s.heap.size (wF_Bytes g h_o h_o_row o.1 o_row_n o.2)) args s 0 0 (va_A wc s.heap.size)) (F0 m 19 ls []) := by
  intro n
  induction n with
  | zero => intro o_count o_row_c x3 hF; cases (show (none : Option (Int32 × (Nat → Int32))) = some o from hF)
  | succ n ih =>
    intro o_count o_row_c x3 hF H locs ls hW hl
    rw [f_X1_putOwn_b19] at hF
    refine lv_iload_n C0.x C0.b dX1_putOwn_19 rfl (lv_at hl 3 rfl) ?_
    refine lv_iload_n C0.x C0.b dX1_putOwn_20 rfl (lv_at hl 2 rfl) ?_
    refine lv_icmp_ge (tgt := 57) C0.x C0.b dX1_putOwn_21 (by decide) (fun c1 => ?_) (fun c1 => ?_)
    · have hF := it_t hF c1
      obtain rfl := Option.some.inj hF
      exact x_vret C0 hW dX1_putOwn_57
    · have hF := it_f hF c1
      refine lv_aload_n C0.x C0.b dX1_putOwn_24 rfl (lv_at hl 0 rfl) ?_
      refine x_get C0 hW iw_X1 0 rfl rfl 0 (by decide) (List.mem_cons_of_mem _ wl_53) (v := .ref h_o_row) rfl dX1_putOwn_25 ?_
      refine lv_aload_n C0.x C0.b dX1_putOwn_28 rfl (lv_at hl 0 rfl) ?_
      refine x_get C0 hW iw_X1 0 rfl rfl 1 (by decide) (List.mem_cons_of_mem _ wl_47) (v := .int o_count) rfl dX1_putOwn_29 ?_
      refine lv_aload_n C0.x C0.b dX1_putOwn_32 rfl (lv_at hl 0 rfl) ?_
      refine x_get C0 hW iw_X1 0 rfl rfl 0 (by decide) (List.mem_cons_of_mem _ wl_53) (v := .ref h_o_row) rfl dX1_putOwn_33 ?_
      refine lv_iload_n C0.x C0.b dX1_putOwn_36 rfl (lv_at hl 1 rfl) ?_
      refine lv_iload_n C0.x C0.b dX1_putOwn_37 rfl (lv_at hl 3 rfl) ?_
      refine lv_iadd C0.x C0.b dX1_putOwn_38 ?_
      obtain ⟨h2, hF⟩ := ck_some hF
      refine x_iald C0 hW 1 0 rfl rfl h2 dX1_putOwn_39 ?_
      obtain ⟨h3, hF⟩ := ck_some hF
      refine x_iast C0 hW 1 0 rfl rfl h3 dX1_putOwn_40 (ws' := (wF_Bytes g h_o h_o_row o_count o_row_n (upd o_row_c o_count.toNatClampNeg (o_row_c (p1 + x3).toNatClampNeg)))) rfl (fun H locs hW => ?_)
      refine lv_aload_n C0.x C0.b dX1_putOwn_41 rfl (lv_at hl 0 rfl) ?_
      refine lv_dup C0.x C0.b dX1_putOwn_42 rfl ?_
      refine x_get C0 hW iw_X1 0 rfl rfl 1 (by decide) (List.mem_cons_of_mem _ wl_47) (v := .int o_count) rfl dX1_putOwn_43 ?_
      refine lv_iconst (v := (1 : Int32)) C0.x C0.b dX1_putOwn_46 (by decide) ?_
      refine lv_iadd C0.x C0.b dX1_putOwn_47 ?_
      refine x_put C0 hW iw_X1 tyX1 tyX1_ok nmX1 0 rfl rfl 1 (by decide) (List.mem_cons_of_mem _ wl_47) rfl (ty := .int) (v := .int (o_count + (1 : Int32))) (by decide +kernel) rfl rfl (Nat.le_of_ble_eq_true rfl) dX1_putOwn_48 (ws' := (wF_Bytes g h_o h_o_row (o_count + (1 : Int32)) o_row_n (upd o_row_c o_count.toNatClampNeg (o_row_c (p1 + x3).toNatClampNeg)))) rfl (fun H locs hW => ?_)
      refine lv_iinc (v := (x3 + (1 : Int32))) (lv' := [(3, .int (x3 + (1 : Int32))), (0, .ref h_o), (1, .int p1), (2, .int p2)]) C0.x C0.b dX1_putOwn_51 hl (k := 3) rfl rfl (by decide) rfl (fun ls hl => ?_)
      refine lv_goto (tgt := 19) C0.x C0.b dX1_putOwn_54 (by decide) ?_
      exact ih (o_count + (1 : Int32)) (upd o_row_c o_count.toNatClampNeg (o_row_c (p1 + x3).toNatClampNeg)) (x3 + (1 : Int32)) hF _ _ _ hW (lv_sub hl [1, 2, 3, 0] rfl)

set_option maxHeartbeats 4000000 in
set_option maxRecDepth 100000 in
/-- SnapHouse$Bytes.putOwn(II)V -/
theorem c_X1_putOwn (l : Launch) (g : GX) (h_o h_o_row : Nat) {K : Nat} {o_count : Int32} {o_row_n : Nat} {o_row_c : Nat → Int32} {p1 : Int32} {p2 : Int32} {o : Int32 × (Nat → Int32)} (hF : f_X1_putOwn K o_count o_row_n o_row_c p1 p2 = some o) : mcV g l yX1_putOwn wA_X1_putOwn rm_X1_putOwn [.ref h_o, .int p1, .int p2] (wF_Bytes g h_o h_o_row o_count o_row_n o_row_c) (wF_Bytes g h_o h_o_row o.1 o_row_n o.2) 0 0 := by
  refine x_start (cc := cX1_putOwn) (maxL := 4) (ret := none) (by decide) rfl (Nat.le_of_ble_eq_true rfl) ?_
  intro p e s m below meth c ls C0 hW hl
  have hl : lv_has ls 4 [(0, .ref h_o), (1, .int p1), (2, .int p2)] := hl
  unfold f_X1_putOwn at hF
  refine lv_aload_n C0.x C0.b dX1_putOwn_0 rfl (lv_at hl 0 rfl) ?_
  refine lv_iload_n C0.x C0.b dX1_putOwn_1 rfl (lv_at hl 1 rfl) ?_
  obtain ⟨r1, e2, hF⟩ := ob hF
  refine go_i C0 hW [0, 1] [] [0, 1] (va_runV (As := [.int p1]) (rest := []) C0.fix (c_X1_hasPlace l g h_o h_o_row o_row_n o_row_c e2 _) (cwV 1 C0.ts (gw_V wl_178 wl_171 wl_172 wl_15 wl_173) rfl rfl rfl (by decide +kernel) ⟨Nat.le_of_ble_eq_true rfl, Nat.le_of_ble_eq_true rfl⟩) (pcv_of C0 hW [0, 1] rfl (by decide) (q0 := 0) rfl rfl) rfl rfl hl.1 rfl (lv_room (Nat.le_of_ble_eq_true rfl)) dX1_putOwn_2 ⟨Nat.le_of_ble_eq_true rfl, Nat.le_of_ble_eq_true rfl⟩) rfl rfl (by decide) (by decide) (ws' := (wF_Bytes g h_o h_o_row o_count o_row_n o_row_c)) rfl (by decide) (fun H locs hW => ?_)
  refine lv_if_eq (tgt := 16) C0.x C0.b dX1_putOwn_5 (by decide) (fun c3 => ?_) (fun c3 => ?_)
  · have hF := it_t hF c3
    obtain rfl := Option.some.inj hF
    exact x_vret C0 hW dX1_putOwn_16
  · have hF := it_f hF c3
    refine lv_aload_n C0.x C0.b dX1_putOwn_8 rfl (lv_at hl 0 rfl) ?_
    refine lv_iload_n C0.x C0.b dX1_putOwn_9 rfl (lv_at hl 2 rfl) ?_
    obtain ⟨r4, e5, hF⟩ := ob hF
    refine go_i C0 hW [0, 1] [] [0, 1] (va_runV (As := [.int p2]) (rest := []) C0.fix (c_X1_hasRoomFor l g h_o h_o_row o_row_c e5 _) (cwV 1 C0.ts (gw_V wl_179 wl_133 wl_134 wl_15 wl_135) rfl rfl rfl (by decide +kernel) ⟨Nat.le_of_ble_eq_true rfl, Nat.le_of_ble_eq_true rfl⟩) (pcv_of C0 hW [0, 1] rfl (by decide) (q0 := 0) rfl rfl) rfl rfl hl.1 rfl (lv_room (Nat.le_of_ble_eq_true rfl)) dX1_putOwn_10 ⟨Nat.le_of_ble_eq_true rfl, Nat.le_of_ble_eq_true rfl⟩) rfl rfl (by decide) (by decide) (ws' := (wF_Bytes g h_o h_o_row o_count o_row_n o_row_c)) rfl (by decide) (fun H locs hW => ?_)
    refine lv_if_ne (tgt := 17) C0.x C0.b dX1_putOwn_13 (by decide) (fun c6 => ?_) (fun c6 => ?_)
    · have hF := it_f hF c6
      refine lv_iconst (v := (0 : Int32)) C0.x C0.b dX1_putOwn_17 (by decide) ?_
      refine lv_istore_n (lv' := [(3, .int (0 : Int32)), (0, .ref h_o), (1, .int p1), (2, .int p2)]) C0.x C0.b dX1_putOwn_18 rfl hl (by decide) rfl (fun ls hl => ?_)
      exact w_X1_putOwn_b19 l g h_o h_o_row C0 K o_count o_row_c (0 : Int32) hF _ _ _ hW (lv_sub hl [1, 2, 3, 0] rfl)
    · have hF := it_t hF c6
      obtain rfl := Option.some.inj hF
      exact x_vret C0 hW dX1_putOwn_16

abbrev rm_X6_again : Room := { frames := 2, cells := 0, slots := 0, locals := 44 }

set_option maxHeartbeats 4000000 in
set_option maxRecDepth 100000 in
/-- SnapHouse.again(II)I -/
theorem c_X6_again (l : Launch) (g : GX) (h_o h_o_theTape h_o_theTape_row h_o_theOut h_o_theOut_row h_o_presser h_o_presser_block h_o_presser_block_row h_o_presser_slots h_o_streamMaker h_o_streamMaker_made h_o_streamMaker_made_row h_o_blockOpener h_o_blockOpener_given h_o_blockOpener_given_row h_o_blockOpener_elements h_o_blockOpener_elements_cells h_o_streamOpener h_o_streamOpener_given h_o_streamOpener_given_row h_o_streamOpener_chunks h_o_streamOpener_chunks_cells h_o_keptElements h_o_keptElements_cells h_o_keptChunks h_o_keptChunks_cells : Nat) {K : Nat} (o_faultNumber : Int32) (o_faultPlace : Int32) (o_faultOfBlock : Int32) (o_faultPlaceInBlock : Int32) (o_theOut_count : Int32) (o_theOut_row_n : Nat) (o_theOut_row_c : Nat → Int32) (o_presser_slotMask : Int32) (o_presser_block_count : Int32) (o_presser_block_row_n : Nat) (o_presser_block_row_c : Nat → Int32) (o_presser_slots_n : Nat) (o_presser_slots_c : Nat → Int32) (o_streamMaker_made_count : Int32) (o_streamMaker_made_row_n : Nat) (o_streamMaker_made_row_c : Nat → Int32) (o_blockOpener_fault : Int32) (o_blockOpener_place : Int32) (o_blockOpener_start : Int32) (o_blockOpener_end : Int32) (o_blockOpener_next : Int32) (o_blockOpener_length : Int32) (o_blockOpener_sort : Int32) (o_blockOpener_body : Int32) (o_blockOpener_size : Int64) (o_blockOpener_back : Int64) (o_blockOpener_given_count : Int32) (o_blockOpener_given_row_n : Nat) (o_blockOpener_given_row_c : Nat → Int32) (o_blockOpener_elements_count : Int32) (o_blockOpener_elements_marked : Int32) (o_blockOpener_elements_cells_n : Nat) (o_blockOpener_elements_cells_c : Nat → Int32) (o_streamOpener_fault : Int32) (o_streamOpener_place : Int32) (o_streamOpener_next : Int32) (o_streamOpener_type : Int32) (o_streamOpener_body : Int32) (o_streamOpener_size : Int32) (o_streamOpener_given_count : Int32) (o_streamOpener_given_row_n : Nat) (o_streamOpener_given_row_c : Nat → Int32) (o_streamOpener_chunks_count : Int32) (o_streamOpener_chunks_marked : Int32) (o_streamOpener_chunks_cells_n : Nat) (o_streamOpener_chunks_cells_c : Nat → Int32) (o_keptElements_count : Int32) (o_keptElements_marked : Int32) (o_keptElements_cells_n : Nat) (o_keptElements_cells_c : Nat → Int32) (o_keptChunks_count : Int32) (o_keptChunks_marked : Int32) (o_keptChunks_cells_n : Nat) (o_keptChunks_cells_c : Nat → Int32) {o_theTape_count : Int32} {o_theTape_row_n : Nat} {o_theTape_row_c : Nat → Int32} {p1 : Int32} {p2 : Int32} {o : Int32 × Int32 × (Nat → Int32)} (hF : f_X6_again K o_theTape_count o_theTape_row_n o_theTape_row_c p1 p2 = some o) : mcI g l yX6_again wA_X6_again rm_X6_again [.ref h_o, .int p1, .int p2] (wF_SnapHouse g h_o h_o_theTape h_o_theTape_row h_o_theOut h_o_theOut_row h_o_presser h_o_presser_block h_o_presser_block_row h_o_presser_slots h_o_streamMaker h_o_streamMaker_made h_o_streamMaker_made_row h_o_blockOpener h_o_blockOpener_given h_o_blockOpener_given_row h_o_blockOpener_elements h_o_blockOpener_elements_cells h_o_streamOpener h_o_streamOpener_given h_o_streamOpener_given_row h_o_streamOpener_chunks h_o_streamOpener_chunks_cells h_o_keptElements h_o_keptElements_cells h_o_keptChunks h_o_keptChunks_cells o_faultNumber o_faultPlace o_faultOfBlock o_faultPlaceInBlock o_theTape_count o_theTape_row_n o_theTape_row_c o_theOut_count o_theOut_row_n o_theOut_row_c o_presser_slotMask o_presser_block_count o_presser_block_row_n o_presser_block_row_c o_presser_slots_n o_presser_slots_c o_streamMaker_made_count o_streamMaker_made_row_n o_streamMaker_made_row_c o_blockOpener_fault o_blockOpener_place o_blockOpener_start o_blockOpener_end o_blockOpener_next o_blockOpener_length o_blockOpener_sort o_blockOpener_body o_blockOpener_size o_blockOpener_back o_blockOpener_given_count o_blockOpener_given_row_n o_blockOpener_given_row_c o_blockOpener_elements_count o_blockOpener_elements_marked o_blockOpener_elements_cells_n o_blockOpener_elements_cells_c o_streamOpener_fault o_streamOpener_place o_streamOpener_next o_streamOpener_type o_streamOpener_body o_streamOpener_size o_streamOpener_given_count o_streamOpener_given_row_n o_streamOpener_given_row_c o_streamOpener_chunks_count o_streamOpener_chunks_marked o_streamOpener_chunks_cells_n o_streamOpener_chunks_cells_c o_keptElements_count o_keptElements_marked o_keptElements_cells_n o_keptElements_cells_c o_keptChunks_count o_keptChunks_marked o_keptChunks_cells_n o_keptChunks_cells_c) o.1 (wF_SnapHouse g h_o h_o_theTape h_o_theTape_row h_o_theOut h_o_theOut_row h_o_presser h_o_presser_block h_o_presser_block_row h_o_presser_slots h_o_streamMaker h_o_streamMaker_made h_o_streamMaker_made_row h_o_blockOpener h_o_blockOpener_given h_o_blockOpener_given_row h_o_blockOpener_elements h_o_blockOpener_elements_cells h_o_streamOpener h_o_streamOpener_given h_o_streamOpener_given_row h_o_streamOpener_chunks h_o_streamOpener_chunks_cells h_o_keptElements h_o_keptElements_cells h_o_keptChunks h_o_keptChunks_cells o_faultNumber o_faultPlace o_faultOfBlock o_faultPlaceInBlock o.2.1 o_theTape_row_n o.2.2 o_theOut_count o_theOut_row_n o_theOut_row_c o_presser_slotMask o_presser_block_count o_presser_block_row_n o_presser_block_row_c o_presser_slots_n o_presser_slots_c o_streamMaker_made_count o_streamMaker_made_row_n o_streamMaker_made_row_c o_blockOpener_fault o_blockOpener_place o_blockOpener_start o_blockOpener_end o_blockOpener_next o_blockOpener_length o_blockOpener_sort o_blockOpener_body o_blockOpener_size o_blockOpener_back o_blockOpener_given_count o_blockOpener_given_row_n o_blockOpener_given_row_c o_blockOpener_elements_count o_blockOpener_elements_marked o_blockOpener_elements_cells_n o_blockOpener_elements_cells_c o_streamOpener_fault o_streamOpener_place o_streamOpener_next o_streamOpener_type o_streamOpener_body o_streamOpener_size o_streamOpener_given_count o_streamOpener_given_row_n o_streamOpener_given_row_c o_streamOpener_chunks_count o_streamOpener_chunks_marked o_streamOpener_chunks_cells_n o_streamOpener_chunks_cells_c o_keptElements_count o_keptElements_marked o_keptElements_cells_n o_keptElements_cells_c o_keptChunks_count o_keptChunks_marked o_keptChunks_cells_n o_keptChunks_cells_c) 0 0 := by
  refine x_start (cc := cX6_again) (maxL := 3) (ret := (some .int)) (by decide) rfl (Nat.le_of_ble_eq_true rfl) ?_
  intro p e s m below meth c ls C0 hW hl
  have hl : lv_has ls 3 [(0, .ref h_o), (1, .int p1), (2, .int p2)] := hl
  unfold f_X6_again at hF
  refine lv_aload_n C0.x C0.b dX6_again_0 rfl (lv_at hl 0 rfl) ?_
  refine x_get C0 hW iw_X6 0 rfl rfl 0 (by decide) (List.mem_cons_of_mem _ wl_16) (v := .ref h_o_theTape) rfl dX6_again_1 ?_
  refine lv_iload_n C0.x C0.b dX6_again_4 rfl (lv_at hl 1 rfl) ?_
  obtain ⟨r1, e2, hF⟩ := ob hF
  refine go_i C0 hW [1, 2] [0, 3, 4, 5, 6, 7, 8, 9, 10, 11, 12, 13, 14, 15, 16, 17, 18, 19, 20, 21, 22, 23, 24, 25] [0, 24, 25, 1, 2, 3, 4, 5, 6, 7, 8, 9, 10, 11, 12, 13, 14, 15, 16, 17, 18, 19, 20, 21, 22, 23] (va_runV (As := [.int p1]) (rest := []) C0.fix (c_X1_hasPlace l g h_o_theTape h_o_theTape_row o_theTape_row_n o_theTape_row_c e2 _) (cwV 1 C0.ts (gw_V wl_170 wl_171 wl_172 wl_15 wl_173) rfl rfl rfl (by decide +kernel) ⟨Nat.le_of_ble_eq_true rfl, Nat.le_of_ble_eq_true rfl⟩) (pcv_of C0 hW [1, 2] rfl (by decide) (q0 := 1) rfl rfl) rfl rfl hl.1 rfl (lv_room (Nat.le_of_ble_eq_true rfl)) dX6_again_5 ⟨Nat.le_of_ble_eq_true rfl, Nat.le_of_ble_eq_true rfl⟩) rfl rfl (by decide) (by decide) (ws' := (wF_SnapHouse g h_o h_o_theTape h_o_theTape_row h_o_theOut h_o_theOut_row h_o_presser h_o_presser_block h_o_presser_block_row h_o_presser_slots h_o_streamMaker h_o_streamMaker_made h_o_streamMaker_made_row h_o_blockOpener h_o_blockOpener_given h_o_blockOpener_given_row h_o_blockOpener_elements h_o_blockOpener_elements_cells h_o_streamOpener h_o_streamOpener_given h_o_streamOpener_given_row h_o_streamOpener_chunks h_o_streamOpener_chunks_cells h_o_keptElements h_o_keptElements_cells h_o_keptChunks h_o_keptChunks_cells o_faultNumber o_faultPlace o_faultOfBlock o_faultPlaceInBlock o_theTape_count o_theTape_row_n o_theTape_row_c o_theOut_count o_theOut_row_n o_theOut_row_c o_presser_slotMask o_presser_block_count o_presser_block_row_n o_presser_block_row_c o_presser_slots_n o_presser_slots_c o_streamMaker_made_count o_streamMaker_made_row_n o_streamMaker_made_row_c o_blockOpener_fault o_blockOpener_place o_blockOpener_start o_blockOpener_end o_blockOpener_next o_blockOpener_length o_blockOpener_sort o_blockOpener_body o_blockOpener_size o_blockOpener_back o_blockOpener_given_count o_blockOpener_given_row_n o_blockOpener_given_row_c o_blockOpener_elements_count o_blockOpener_elements_marked o_blockOpener_elements_cells_n o_blockOpener_elements_cells_c o_streamOpener_fault o_streamOpener_place o_streamOpener_next o_streamOpener_type o_streamOpener_body o_streamOpener_size o_streamOpener_given_count o_streamOpener_given_row_n o_streamOpener_given_row_c o_streamOpener_chunks_count o_streamOpener_chunks_marked o_streamOpener_chunks_cells_n o_streamOpener_chunks_cells_c o_keptElements_count o_keptElements_marked o_keptElements_cells_n o_keptElements_cells_c o_keptChunks_count o_keptChunks_marked o_keptChunks_cells_n o_keptChunks_cells_c)) rfl (by decide) (fun H locs hW => ?_)
  refine lv_if_eq (tgt := 22) C0.x C0.b dX6_again_8 (by decide) (fun c3 => ?_) (fun c3 => ?_)
  · have hF := it_t hF c3
    refine lv_iconst (v := (-1 : Int32)) C0.x C0.b dX6_again_22 (by decide) ?_
    obtain rfl := Option.some.inj hF
    exact x_iret C0 hW rfl rfl dX6_again_23
  · have hF := it_f hF c3
    refine lv_aload_n C0.x C0.b dX6_again_11 rfl (lv_at hl 0 rfl) ?_
    refine x_get C0 hW iw_X6 0 rfl rfl 0 (by decide) (List.mem_cons_of_mem _ wl_16) (v := .ref h_o_theTape) rfl dX6_again_12 ?_
    refine lv_iload_n C0.x C0.b dX6_again_15 rfl (lv_at hl 2 rfl) ?_
    obtain ⟨r4, e5, hF⟩ := ob hF
    refine go_i C0 hW [1, 2] [0, 3, 4, 5, 6, 7, 8, 9, 10, 11, 12, 13, 14, 15, 16, 17, 18, 19, 20, 21, 22, 23, 24, 25] [0, 24, 25, 1, 2, 3, 4, 5, 6, 7, 8, 9, 10, 11, 12, 13, 14, 15, 16, 17, 18, 19, 20, 21, 22, 23] (va_runV (As := [.int p2]) (rest := []) C0.fix (c_X1_hasRoomFor l g h_o_theTape h_o_theTape_row o_theTape_row_c e5 _) (cwV 1 C0.ts (gw_V wl_132 wl_133 wl_134 wl_15 wl_135) rfl rfl rfl (by decide +kernel) ⟨Nat.le_of_ble_eq_true rfl, Nat.le_of_ble_eq_true rfl⟩) (pcv_of C0 hW [1, 2] rfl (by decide) (q0 := 1) rfl rfl) rfl rfl hl.1 rfl (lv_room (Nat.le_of_ble_eq_true rfl)) dX6_again_16 ⟨Nat.le_of_ble_eq_true rfl, Nat.le_of_ble_eq_true rfl⟩) rfl rfl (by decide) (by decide) (ws' := (wF_SnapHouse g h_o h_o_theTape h_o_theTape_row h_o_theOut h_o_theOut_row h_o_presser h_o_presser_block h_o_presser_block_row h_o_presser_slots h_o_streamMaker h_o_streamMaker_made h_o_streamMaker_made_row h_o_blockOpener h_o_blockOpener_given h_o_blockOpener_given_row h_o_blockOpener_elements h_o_blockOpener_elements_cells h_o_streamOpener h_o_streamOpener_given h_o_streamOpener_given_row h_o_streamOpener_chunks h_o_streamOpener_chunks_cells h_o_keptElements h_o_keptElements_cells h_o_keptChunks h_o_keptChunks_cells o_faultNumber o_faultPlace o_faultOfBlock o_faultPlaceInBlock o_theTape_count o_theTape_row_n o_theTape_row_c o_theOut_count o_theOut_row_n o_theOut_row_c o_presser_slotMask o_presser_block_count o_presser_block_row_n o_presser_block_row_c o_presser_slots_n o_presser_slots_c o_streamMaker_made_count o_streamMaker_made_row_n o_streamMaker_made_row_c o_blockOpener_fault o_blockOpener_place o_blockOpener_start o_blockOpener_end o_blockOpener_next o_blockOpener_length o_blockOpener_sort o_blockOpener_body o_blockOpener_size o_blockOpener_back o_blockOpener_given_count o_blockOpener_given_row_n o_blockOpener_given_row_c o_blockOpener_elements_count o_blockOpener_elements_marked o_blockOpener_elements_cells_n o_blockOpener_elements_cells_c o_streamOpener_fault o_streamOpener_place o_streamOpener_next o_streamOpener_type o_streamOpener_body o_streamOpener_size o_streamOpener_given_count o_streamOpener_given_row_n o_streamOpener_given_row_c o_streamOpener_chunks_count o_streamOpener_chunks_marked o_streamOpener_chunks_cells_n o_streamOpener_chunks_cells_c o_keptElements_count o_keptElements_marked o_keptElements_cells_n o_keptElements_cells_c o_keptChunks_count o_keptChunks_marked o_keptChunks_cells_n o_keptChunks_cells_c)) rfl (by decide) (fun H locs hW => ?_)
    refine lv_if_ne (tgt := 24) C0.x C0.b dX6_again_19 (by decide) (fun c6 => ?_) (fun c6 => ?_)
    · have hF := it_f hF c6
      refine lv_aload_n C0.x C0.b dX6_again_24 rfl (lv_at hl 0 rfl) ?_
      refine x_get C0 hW iw_X6 0 rfl rfl 0 (by decide) (List.mem_cons_of_mem _ wl_16) (v := .ref h_o_theTape) rfl dX6_again_25 ?_
      refine lv_iload_n C0.x C0.b dX6_again_28 rfl (lv_at hl 1 rfl) ?_
      refine lv_iload_n C0.x C0.b dX6_again_29 rfl (lv_at hl 2 rfl) ?_
      obtain ⟨r7, e8, hF⟩ := ob hF
      refine go_v C0 hW [1, 2] [0, 3, 4, 5, 6, 7, 8, 9, 10, 11, 12, 13, 14, 15, 16, 17, 18, 19, 20, 21, 22, 23, 24, 25] [0, 24, 25, 1, 2, 3, 4, 5, 6, 7, 8, 9, 10, 11, 12, 13, 14, 15, 16, 17, 18, 19, 20, 21, 22, 23] (va_runV (As := [.int p1, .int p2]) (rest := []) C0.fix (c_X1_putOwn l g h_o_theTape h_o_theTape_row e8 _) (cwV 2 C0.ts (gw_V wl_174 wl_175 wl_176 wl_15 wl_177) rfl rfl rfl (by decide +kernel) ⟨Nat.le_of_ble_eq_true rfl, Nat.le_of_ble_eq_true rfl⟩) (pcv_of C0 hW [1, 2] rfl (by decide) (q0 := 1) rfl rfl) rfl rfl hl.1 rfl (lv_room (Nat.le_of_ble_eq_true rfl)) dX6_again_30 ⟨Nat.le_of_ble_eq_true rfl, Nat.le_of_ble_eq_true rfl⟩) rfl rfl (by decide) (by decide) (ws' := (wF_SnapHouse g h_o h_o_theTape h_o_theTape_row h_o_theOut h_o_theOut_row h_o_presser h_o_presser_block h_o_presser_block_row h_o_presser_slots h_o_streamMaker h_o_streamMaker_made h_o_streamMaker_made_row h_o_blockOpener h_o_blockOpener_given h_o_blockOpener_given_row h_o_blockOpener_elements h_o_blockOpener_elements_cells h_o_streamOpener h_o_streamOpener_given h_o_streamOpener_given_row h_o_streamOpener_chunks h_o_streamOpener_chunks_cells h_o_keptElements h_o_keptElements_cells h_o_keptChunks h_o_keptChunks_cells o_faultNumber o_faultPlace o_faultOfBlock o_faultPlaceInBlock r7.1 o_theTape_row_n r7.2 o_theOut_count o_theOut_row_n o_theOut_row_c o_presser_slotMask o_presser_block_count o_presser_block_row_n o_presser_block_row_c o_presser_slots_n o_presser_slots_c o_streamMaker_made_count o_streamMaker_made_row_n o_streamMaker_made_row_c o_blockOpener_fault o_blockOpener_place o_blockOpener_start o_blockOpener_end o_blockOpener_next o_blockOpener_length o_blockOpener_sort o_blockOpener_body o_blockOpener_size o_blockOpener_back o_blockOpener_given_count o_blockOpener_given_row_n o_blockOpener_given_row_c o_blockOpener_elements_count o_blockOpener_elements_marked o_blockOpener_elements_cells_n o_blockOpener_elements_cells_c o_streamOpener_fault o_streamOpener_place o_streamOpener_next o_streamOpener_type o_streamOpener_body o_streamOpener_size o_streamOpener_given_count o_streamOpener_given_row_n o_streamOpener_given_row_c o_streamOpener_chunks_count o_streamOpener_chunks_marked o_streamOpener_chunks_cells_n o_streamOpener_chunks_cells_c o_keptElements_count o_keptElements_marked o_keptElements_cells_n o_keptElements_cells_c o_keptChunks_count o_keptChunks_marked o_keptChunks_cells_n o_keptChunks_cells_c)) rfl (by decide) (fun H locs hW => ?_)
      refine lv_aload_n C0.x C0.b dX6_again_33 rfl (lv_at hl 0 rfl) ?_
      refine x_get C0 hW iw_X6 0 rfl rfl 0 (by decide) (List.mem_cons_of_mem _ wl_16) (v := .ref h_o_theTape) rfl dX6_again_34 ?_
      refine x_getN C0 hW iw_X1 1 rfl rfl 1 (by decide) (List.mem_of_getElem? (i := 0) rfl) (v := .int r7.1) rfl dX6_again_37 ?_
      obtain rfl := Option.some.inj hF
      exact x_iret C0 hW rfl rfl dX6_again_40
    · have hF := it_t hF c6
      refine lv_iconst (v := (-1 : Int32)) C0.x C0.b dX6_again_22 (by decide) ?_
      obtain rfl := Option.some.inj hF
      exact x_iret C0 hW rfl rfl dX6_again_23

abbrev rm_X1_has : Room := { frames := 0, cells := 0, slots := 0, locals := 0 }

set_option maxHeartbeats 4000000 in
set_option maxRecDepth 100000 in
/-- SnapHouse$Bytes.has(II)Z -/
theorem c_X1_has (l : Launch) (g : GX) (h_o h_o_row : Nat) {K : Nat} (o_row_n : Nat) (o_row_c : Nat → Int32) {o_count : Int32} {p1 : Int32} {p2 : Int32} {o : Int32} (hF : f_X1_has K o_count p1 p2 = some o) : mcI g l yX1_has wA_X1_has rm_X1_has [.ref h_o, .int p1, .int p2] (wF_Bytes g h_o h_o_row o_count o_row_n o_row_c) o (wF_Bytes g h_o h_o_row o_count o_row_n o_row_c) 0 0 := by
  refine x_start (cc := cX1_has) (maxL := 3) (ret := (some .boolean)) (by decide) rfl (Nat.le_of_ble_eq_true rfl) ?_
  intro p e s m below meth c ls C0 hW hl
  have hl : lv_has ls 3 [(0, .ref h_o), (1, .int p1), (2, .int p2)] := hl
  unfold f_X1_has at hF
  refine lv_iload_n C0.x C0.b dX1_has_0 rfl (lv_at hl 1 rfl) ?_
  refine lv_if_lt (tgt := 22) C0.x C0.b dX1_has_1 (by decide) (fun c1 => ?_) (fun c1 => ?_)
  · have hF := it_t hF c1
    refine lv_iconst (v := (0 : Int32)) C0.x C0.b dX1_has_22 (by decide) ?_
    obtain rfl := Option.some.inj hF
    exact x_iret C0 hW (by decide) rfl dX1_has_23
  · have hF := it_f hF c1
    refine lv_iload_n C0.x C0.b dX1_has_4 rfl (lv_at hl 2 rfl) ?_
    refine lv_if_lt (tgt := 22) C0.x C0.b dX1_has_5 (by decide) (fun c2 => ?_) (fun c2 => ?_)
    · have hF := it_t hF c2
      refine lv_iconst (v := (0 : Int32)) C0.x C0.b dX1_has_22 (by decide) ?_
      obtain rfl := Option.some.inj hF
      exact x_iret C0 hW (by decide) rfl dX1_has_23
    · have hF := it_f hF c2
      refine lv_iload_n C0.x C0.b dX1_has_8 rfl (lv_at hl 1 rfl) ?_
      refine lv_aload_n C0.x C0.b dX1_has_9 rfl (lv_at hl 0 rfl) ?_
      refine x_get C0 hW iw_X1 0 rfl rfl 1 (by decide) (List.mem_cons_of_mem _ wl_47) (v := .int o_count) rfl dX1_has_10 ?_
      refine lv_iload_n C0.x C0.b dX1_has_13 rfl (lv_at hl 2 rfl) ?_
      refine lv_isub C0.x C0.b dX1_has_14 ?_
      refine lv_icmp_gt (tgt := 22) C0.x C0.b dX1_has_15 (by decide) (fun c3 => ?_) (fun c3 => ?_)
      · have hF := it_t hF c3
        refine lv_iconst (v := (0 : Int32)) C0.x C0.b dX1_has_22 (by decide) ?_
        obtain rfl := Option.some.inj hF
        exact x_iret C0 hW (by decide) rfl dX1_has_23
      · have hF := it_f hF c3
        refine lv_iconst (v := (1 : Int32)) C0.x C0.b dX1_has_18 (by decide) ?_
        refine lv_goto (tgt := 23) C0.x C0.b dX1_has_19 (by decide) ?_
        obtain rfl := Option.some.inj hF
        exact x_iret C0 hW (by decide) rfl dX1_has_23
end
section
abbrev rm_X1_shorten : Room := { frames := 1, cells := 0, slots := 0, locals := 22 }

set_option maxHeartbeats 4000000 in
set_option maxRecDepth 100000 in
/-- SnapHouse$Bytes.shorten(I)V -/
theorem c_X1_shorten (l : Launch) (g : GX) (h_o h_o_row : Nat) {K : Nat} (o_row_n : Nat) (o_row_c : Nat → Int32) {o_count : Int32} {p1 : Int32} {o : Int32} (hF : f_X1_shorten K o_count p1 = some o) : mcV g l yX1_shorten wA_X1_shorten rm_X1_shorten [.ref h_o, .int p1] (wF_Bytes g h_o h_o_row o_count o_row_n o_row_c) (wF_Bytes g h_o h_o_row o o_row_n o_row_c) 0 0 := by
  refine x_start (cc := cX1_shorten) (maxL := 2) (ret := none) (by decide) rfl (Nat.le_of_ble_eq_true rfl) ?_
  intro p e s m below meth c ls C0 hW hl
  have hl : lv_has ls 2 [(0, .ref h_o), (1, .int p1)] := hl
  unfold f_X1_shorten at hF
  refine lv_aload_n C0.x C0.b dX1_shorten_0 rfl (lv_at hl 0 rfl) ?_
  refine lv_iconst (v := (0 : Int32)) C0.x C0.b dX1_shorten_1 (by decide) ?_
  refine lv_iload_n C0.x C0.b dX1_shorten_2 rfl (lv_at hl 1 rfl) ?_
  obtain ⟨r1, e2, hF⟩ := ob hF
  refine go_i C0 hW [0, 1] [] [0, 1] (va_runV (As := [.int (0 : Int32), .int p1]) (rest := []) C0.fix (c_X1_has l g h_o h_o_row o_row_n o_row_c e2 _) (cwV 2 C0.ts (gw_V wl_196 wl_189 wl_190 wl_15 wl_191) rfl rfl rfl (by decide +kernel) ⟨Nat.le_of_ble_eq_true rfl, Nat.le_of_ble_eq_true rfl⟩) (pcv_of C0 hW [0, 1] rfl (by decide) (q0 := 0) rfl rfl) rfl rfl hl.1 rfl (lv_room (Nat.le_of_ble_eq_true rfl)) dX1_shorten_3 ⟨Nat.le_of_ble_eq_true rfl, Nat.le_of_ble_eq_true rfl⟩) rfl rfl (by decide) (by decide) (ws' := (wF_Bytes g h_o h_o_row o_count o_row_n o_row_c)) rfl (by decide) (fun H locs hW => ?_)
  refine lv_if_eq (tgt := 14) C0.x C0.b dX1_shorten_6 (by decide) (fun c3 => ?_) (fun c3 => ?_)
  · have hF := it_t hF c3
    obtain rfl := Option.some.inj hF
    exact x_vret C0 hW dX1_shorten_14
  · have hF := it_f hF c3
    refine lv_aload_n C0.x C0.b dX1_shorten_9 rfl (lv_at hl 0 rfl) ?_
    refine lv_iload_n C0.x C0.b dX1_shorten_10 rfl (lv_at hl 1 rfl) ?_
    refine x_put C0 hW iw_X1 tyX1 tyX1_ok nmX1 0 rfl rfl 1 (by decide) (List.mem_cons_of_mem _ wl_47) rfl (ty := .int) (v := .int p1) (by decide +kernel) rfl rfl (Nat.le_of_ble_eq_true rfl) dX1_shorten_11 (ws' := (wF_Bytes g h_o h_o_row p1 o_row_n o_row_c)) rfl (fun H locs hW => ?_)
    obtain rfl := Option.some.inj hF
    exact x_vret C0 hW dX1_shorten_14

abbrev rm_X6_cut : Room := { frames := 2, cells := 0, slots := 0, locals := 43 }

set_option maxHeartbeats 4000000 in
set_option maxRecDepth 100000 in
/-- SnapHouse.cut(I)I -/
theorem c_X6_cut (l : Launch) (g : GX) (h_o h_o_theTape h_o_theTape_row h_o_theOut h_o_theOut_row h_o_presser h_o_presser_block h_o_presser_block_row h_o_presser_slots h_o_streamMaker h_o_streamMaker_made h_o_streamMaker_made_row h_o_blockOpener h_o_blockOpener_given h_o_blockOpener_given_row h_o_blockOpener_elements h_o_blockOpener_elements_cells h_o_streamOpener h_o_streamOpener_given h_o_streamOpener_given_row h_o_streamOpener_chunks h_o_streamOpener_chunks_cells h_o_keptElements h_o_keptElements_cells h_o_keptChunks h_o_keptChunks_cells : Nat) {K : Nat} (o_faultNumber : Int32) (o_faultPlace : Int32) (o_faultOfBlock : Int32) (o_faultPlaceInBlock : Int32) (o_theTape_row_n : Nat) (o_theTape_row_c : Nat → Int32) (o_theOut_count : Int32) (o_theOut_row_n : Nat) (o_theOut_row_c : Nat → Int32) (o_presser_slotMask : Int32) (o_presser_block_count : Int32) (o_presser_block_row_n : Nat) (o_presser_block_row_c : Nat → Int32) (o_presser_slots_n : Nat) (o_presser_slots_c : Nat → Int32) (o_streamMaker_made_count : Int32) (o_streamMaker_made_row_n : Nat) (o_streamMaker_made_row_c : Nat → Int32) (o_blockOpener_fault : Int32) (o_blockOpener_place : Int32) (o_blockOpener_start : Int32) (o_blockOpener_end : Int32) (o_blockOpener_next : Int32) (o_blockOpener_length : Int32) (o_blockOpener_sort : Int32) (o_blockOpener_body : Int32) (o_blockOpener_size : Int64) (o_blockOpener_back : Int64) (o_blockOpener_given_count : Int32) (o_blockOpener_given_row_n : Nat) (o_blockOpener_given_row_c : Nat → Int32) (o_blockOpener_elements_count : Int32) (o_blockOpener_elements_marked : Int32) (o_blockOpener_elements_cells_n : Nat) (o_blockOpener_elements_cells_c : Nat → Int32) (o_streamOpener_fault : Int32) (o_streamOpener_place : Int32) (o_streamOpener_next : Int32) (o_streamOpener_type : Int32) (o_streamOpener_body : Int32) (o_streamOpener_size : Int32) (o_streamOpener_given_count : Int32) (o_streamOpener_given_row_n : Nat) (o_streamOpener_given_row_c : Nat → Int32) (o_streamOpener_chunks_count : Int32) (o_streamOpener_chunks_marked : Int32) (o_streamOpener_chunks_cells_n : Nat) (o_streamOpener_chunks_cells_c : Nat → Int32) (o_keptElements_count : Int32) (o_keptElements_marked : Int32) (o_keptElements_cells_n : Nat) (o_keptElements_cells_c : Nat → Int32) (o_keptChunks_count : Int32) (o_keptChunks_marked : Int32) (o_keptChunks_cells_n : Nat) (o_keptChunks_cells_c : Nat → Int32) {o_theTape_count : Int32} {p1 : Int32} {o : Int32 × Int32} (hF : f_X6_cut K o_theTape_count p1 = some o) : mcI g l yX6_cut wA_X6_cut rm_X6_cut [.ref h_o, .int p1] (wF_SnapHouse g h_o h_o_theTape h_o_theTape_row h_o_theOut h_o_theOut_row h_o_presser h_o_presser_block h_o_presser_block_row h_o_presser_slots h_o_streamMaker h_o_streamMaker_made h_o_streamMaker_made_row h_o_blockOpener h_o_blockOpener_given h_o_blockOpener_given_row h_o_blockOpener_elements h_o_blockOpener_elements_cells h_o_streamOpener h_o_streamOpener_given h_o_streamOpener_given_row h_o_streamOpener_chunks h_o_streamOpener_chunks_cells h_o_keptElements h_o_keptElements_cells h_o_keptChunks h_o_keptChunks_cells o_faultNumber o_faultPlace o_faultOfBlock o_faultPlaceInBlock o_theTape_count o_theTape_row_n o_theTape_row_c o_theOut_count o_theOut_row_n o_theOut_row_c o_presser_slotMask o_presser_block_count o_presser_block_row_n o_presser_block_row_c o_presser_slots_n o_presser_slots_c o_streamMaker_made_count o_streamMaker_made_row_n o_streamMaker_made_row_c o_blockOpener_fault o_blockOpener_place o_blockOpener_start o_blockOpener_end o_blockOpener_next o_blockOpener_length o_blockOpener_sort o_blockOpener_body o_blockOpener_size o_blockOpener_back o_blockOpener_given_count o_blockOpener_given_row_n o_blockOpener_given_row_c o_blockOpener_elements_count o_blockOpener_elements_marked o_blockOpener_elements_cells_n o_blockOpener_elements_cells_c o_streamOpener_fault o_streamOpener_place o_streamOpener_next o_streamOpener_type o_streamOpener_body o_streamOpener_size o_streamOpener_given_count o_streamOpener_given_row_n o_streamOpener_given_row_c o_streamOpener_chunks_count o_streamOpener_chunks_marked o_streamOpener_chunks_cells_n o_streamOpener_chunks_cells_c o_keptElements_count o_keptElements_marked o_keptElements_cells_n o_keptElements_cells_c o_keptChunks_count o_keptChunks_marked o_keptChunks_cells_n o_keptChunks_cells_c) o.1 (wF_SnapHouse g h_o h_o_theTape h_o_theTape_row h_o_theOut h_o_theOut_row h_o_presser h_o_presser_block h_o_presser_block_row h_o_presser_slots h_o_streamMaker h_o_streamMaker_made h_o_streamMaker_made_row h_o_blockOpener h_o_blockOpener_given h_o_blockOpener_given_row h_o_blockOpener_elements h_o_blockOpener_elements_cells h_o_streamOpener h_o_streamOpener_given h_o_streamOpener_given_row h_o_streamOpener_chunks h_o_streamOpener_chunks_cells h_o_keptElements h_o_keptElements_cells h_o_keptChunks h_o_keptChunks_cells o_faultNumber o_faultPlace o_faultOfBlock o_faultPlaceInBlock o.2 o_theTape_row_n o_theTape_row_c o_theOut_count o_theOut_row_n o_theOut_row_c o_presser_slotMask o_presser_block_count o_presser_block_row_n o_presser_block_row_c o_presser_slots_n o_presser_slots_c o_streamMaker_made_count o_streamMaker_made_row_n o_streamMaker_made_row_c o_blockOpener_fault o_blockOpener_place o_blockOpener_start o_blockOpener_end o_blockOpener_next o_blockOpener_length o_blockOpener_sort o_blockOpener_body o_blockOpener_size o_blockOpener_back o_blockOpener_given_count o_blockOpener_given_row_n o_blockOpener_given_row_c o_blockOpener_elements_count o_blockOpener_elements_marked o_blockOpener_elements_cells_n o_blockOpener_elements_cells_c o_streamOpener_fault o_streamOpener_place o_streamOpener_next o_streamOpener_type o_streamOpener_body o_streamOpener_size o_streamOpener_given_count o_streamOpener_given_row_n o_streamOpener_given_row_c o_streamOpener_chunks_count o_streamOpener_chunks_marked o_streamOpener_chunks_cells_n o_streamOpener_chunks_cells_c o_keptElements_count o_keptElements_marked o_keptElements_cells_n o_keptElements_cells_c o_keptChunks_count o_keptChunks_marked o_keptChunks_cells_n o_keptChunks_cells_c) 0 0 := by
  refine x_start (cc := cX6_cut) (maxL := 2) (ret := (some .int)) (by decide) rfl (Nat.le_of_ble_eq_true rfl) ?_
  intro p e s m below meth c ls C0 hW hl
  have hl : lv_has ls 2 [(0, .ref h_o), (1, .int p1)] := hl
  unfold f_X6_cut at hF
  refine lv_aload_n C0.x C0.b dX6_cut_0 rfl (lv_at hl 0 rfl) ?_
  refine x_get C0 hW iw_X6 0 rfl rfl 0 (by decide) (List.mem_cons_of_mem _ wl_16) (v := .ref h_o_theTape) rfl dX6_cut_1 ?_
  refine lv_iconst (v := (0 : Int32)) C0.x C0.b dX6_cut_4 (by decide) ?_
  refine lv_iload_n C0.x C0.b dX6_cut_5 rfl (lv_at hl 1 rfl) ?_
  obtain ⟨r1, e2, hF⟩ := ob hF
  refine go_i C0 hW [1, 2] [0, 3, 4, 5, 6, 7, 8, 9, 10, 11, 12, 13, 14, 15, 16, 17, 18, 19, 20, 21, 22, 23, 24, 25] [0, 24, 25, 1, 2, 3, 4, 5, 6, 7, 8, 9, 10, 11, 12, 13, 14, 15, 16, 17, 18, 19, 20, 21, 22, 23] (va_runV (As := [.int (0 : Int32), .int p1]) (rest := []) C0.fix (c_X1_has l g h_o_theTape h_o_theTape_row o_theTape_row_n o_theTape_row_c e2 _) (cwV 2 C0.ts (gw_V wl_188 wl_189 wl_190 wl_15 wl_191) rfl rfl rfl (by decide +kernel) ⟨Nat.le_of_ble_eq_true rfl, Nat.le_of_ble_eq_true rfl⟩) (pcv_of C0 hW [1, 2] rfl (by decide) (q0 := 1) rfl rfl) rfl rfl hl.1 rfl (lv_room (Nat.le_of_ble_eq_true rfl)) dX6_cut_6 ⟨Nat.le_of_ble_eq_true rfl, Nat.le_of_ble_eq_true rfl⟩) rfl rfl (by decide) (by decide) (ws' := (wF_SnapHouse g h_o h_o_theTape h_o_theTape_row h_o_theOut h_o_theOut_row h_o_presser h_o_presser_block h_o_presser_block_row h_o_presser_slots h_o_streamMaker h_o_streamMaker_made h_o_streamMaker_made_row h_o_blockOpener h_o_blockOpener_given h_o_blockOpener_given_row h_o_blockOpener_elements h_o_blockOpener_elements_cells h_o_streamOpener h_o_streamOpener_given h_o_streamOpener_given_row h_o_streamOpener_chunks h_o_streamOpener_chunks_cells h_o_keptElements h_o_keptElements_cells h_o_keptChunks h_o_keptChunks_cells o_faultNumber o_faultPlace o_faultOfBlock o_faultPlaceInBlock o_theTape_count o_theTape_row_n o_theTape_row_c o_theOut_count o_theOut_row_n o_theOut_row_c o_presser_slotMask o_presser_block_count o_presser_block_row_n o_presser_block_row_c o_presser_slots_n o_presser_slots_c o_streamMaker_made_count o_streamMaker_made_row_n o_streamMaker_made_row_c o_blockOpener_fault o_blockOpener_place o_blockOpener_start o_blockOpener_end o_blockOpener_next o_blockOpener_length o_blockOpener_sort o_blockOpener_body o_blockOpener_size o_blockOpener_back o_blockOpener_given_count o_blockOpener_given_row_n o_blockOpener_given_row_c o_blockOpener_elements_count o_blockOpener_elements_marked o_blockOpener_elements_cells_n o_blockOpener_elements_cells_c o_streamOpener_fault o_streamOpener_place o_streamOpener_next o_streamOpener_type o_streamOpener_body o_streamOpener_size o_streamOpener_given_count o_streamOpener_given_row_n o_streamOpener_given_row_c o_streamOpener_chunks_count o_streamOpener_chunks_marked o_streamOpener_chunks_cells_n o_streamOpener_chunks_cells_c o_keptElements_count o_keptElements_marked o_keptElements_cells_n o_keptElements_cells_c o_keptChunks_count o_keptChunks_marked o_keptChunks_cells_n o_keptChunks_cells_c)) rfl (by decide) (fun H locs hW => ?_)
  refine lv_if_ne (tgt := 14) C0.x C0.b dX6_cut_9 (by decide) (fun c3 => ?_) (fun c3 => ?_)
  · have hF := it_f hF c3
    refine lv_aload_n C0.x C0.b dX6_cut_14 rfl (lv_at hl 0 rfl) ?_
    refine x_get C0 hW iw_X6 0 rfl rfl 0 (by decide) (List.mem_cons_of_mem _ wl_16) (v := .ref h_o_theTape) rfl dX6_cut_15 ?_
    refine lv_iload_n C0.x C0.b dX6_cut_18 rfl (lv_at hl 1 rfl) ?_
    obtain ⟨r4, e5, hF⟩ := ob hF
    refine go_v C0 hW [1, 2] [0, 3, 4, 5, 6, 7, 8, 9, 10, 11, 12, 13, 14, 15, 16, 17, 18, 19, 20, 21, 22, 23, 24, 25] [0, 24, 25, 1, 2, 3, 4, 5, 6, 7, 8, 9, 10, 11, 12, 13, 14, 15, 16, 17, 18, 19, 20, 21, 22, 23] (va_runV (As := [.int p1]) (rest := []) C0.fix (c_X1_shorten l g h_o_theTape h_o_theTape_row o_theTape_row_n o_theTape_row_c e5 _) (cwV 1 C0.ts (gw_V wl_192 wl_193 wl_194 wl_15 wl_195) rfl rfl rfl (by decide +kernel) ⟨Nat.le_of_ble_eq_true rfl, Nat.le_of_ble_eq_true rfl⟩) (pcv_of C0 hW [1, 2] rfl (by decide) (q0 := 1) rfl rfl) rfl rfl hl.1 rfl (lv_room (Nat.le_of_ble_eq_true rfl)) dX6_cut_19 ⟨Nat.le_of_ble_eq_true rfl, Nat.le_of_ble_eq_true rfl⟩) rfl rfl (by decide) (by decide) (ws' := (wF_SnapHouse g h_o h_o_theTape h_o_theTape_row h_o_theOut h_o_theOut_row h_o_presser h_o_presser_block h_o_presser_block_row h_o_presser_slots h_o_streamMaker h_o_streamMaker_made h_o_streamMaker_made_row h_o_blockOpener h_o_blockOpener_given h_o_blockOpener_given_row h_o_blockOpener_elements h_o_blockOpener_elements_cells h_o_streamOpener h_o_streamOpener_given h_o_streamOpener_given_row h_o_streamOpener_chunks h_o_streamOpener_chunks_cells h_o_keptElements h_o_keptElements_cells h_o_keptChunks h_o_keptChunks_cells o_faultNumber o_faultPlace o_faultOfBlock o_faultPlaceInBlock r4 o_theTape_row_n o_theTape_row_c o_theOut_count o_theOut_row_n o_theOut_row_c o_presser_slotMask o_presser_block_count o_presser_block_row_n o_presser_block_row_c o_presser_slots_n o_presser_slots_c o_streamMaker_made_count o_streamMaker_made_row_n o_streamMaker_made_row_c o_blockOpener_fault o_blockOpener_place o_blockOpener_start o_blockOpener_end o_blockOpener_next o_blockOpener_length o_blockOpener_sort o_blockOpener_body o_blockOpener_size o_blockOpener_back o_blockOpener_given_count o_blockOpener_given_row_n o_blockOpener_given_row_c o_blockOpener_elements_count o_blockOpener_elements_marked o_blockOpener_elements_cells_n o_blockOpener_elements_cells_c o_streamOpener_fault o_streamOpener_place o_streamOpener_next o_streamOpener_type o_streamOpener_body o_streamOpener_size o_streamOpener_given_count o_streamOpener_given_row_n o_streamOpener_given_row_c o_streamOpener_chunks_count o_streamOpener_chunks_marked o_streamOpener_chunks_cells_n o_streamOpener_chunks_cells_c o_keptElements_count o_keptElements_marked o_keptElements_cells_n o_keptElements_cells_c o_keptChunks_count o_keptChunks_marked o_keptChunks_cells_n o_keptChunks_cells_c)) rfl (by decide) (fun H locs hW => ?_)
    refine lv_iload_n C0.x C0.b dX6_cut_22 rfl (lv_at hl 1 rfl) ?_
    obtain rfl := Option.some.inj hF
    exact x_iret C0 hW rfl rfl dX6_cut_23
  · have hF := it_t hF c3
    refine lv_iconst (v := (-1 : Int32)) C0.x C0.b dX6_cut_12 (by decide) ?_
    obtain rfl := Option.some.inj hF
    exact x_iret C0 hW rfl rfl dX6_cut_13

abbrev rm_X1_at : Room := { frames := 0, cells := 0, slots := 0, locals := 0 }

set_option maxHeartbeats 4000000 in
set_option maxRecDepth 100000 in
/-- SnapHouse$Bytes.at(I)I -/
theorem c_X1_at (l : Launch) (g : GX) (h_o h_o_row : Nat) {K : Nat} {o_count : Int32} {o_row_n : Nat} {o_row_c : Nat → Int32} {p1 : Int32} {o : Int32} (hF : f_X1_at K o_count o_row_n o_row_c p1 = some o) : mcI g l yX1_at wA_X1_at rm_X1_at [.ref h_o, .int p1] (wF_Bytes g h_o h_o_row o_count o_row_n o_row_c) o (wF_Bytes g h_o h_o_row o_count o_row_n o_row_c) 0 0 := by
  refine x_start (cc := cX1_at) (maxL := 2) (ret := (some .int)) (by decide) rfl (Nat.le_of_ble_eq_true rfl) ?_
  intro p e s m below meth c ls C0 hW hl
  have hl : lv_has ls 2 [(0, .ref h_o), (1, .int p1)] := hl
  unfold f_X1_at at hF
  refine lv_iload_n C0.x C0.b dX1_at_0 rfl (lv_at hl 1 rfl) ?_
  refine lv_if_lt (tgt := 21) C0.x C0.b dX1_at_1 (by decide) (fun c1 => ?_) (fun c1 => ?_)
  · have hF := it_t hF c1
    refine lv_iconst (v := (-1 : Int32)) C0.x C0.b dX1_at_21 (by decide) ?_
    obtain rfl := Option.some.inj hF
    exact x_iret C0 hW rfl rfl dX1_at_22
  · have hF := it_f hF c1
    refine lv_iload_n C0.x C0.b dX1_at_4 rfl (lv_at hl 1 rfl) ?_
    refine lv_aload_n C0.x C0.b dX1_at_5 rfl (lv_at hl 0 rfl) ?_
    refine x_get C0 hW iw_X1 0 rfl rfl 1 (by decide) (List.mem_cons_of_mem _ wl_47) (v := .int o_count) rfl dX1_at_6 ?_
    refine lv_icmp_ge (tgt := 21) C0.x C0.b dX1_at_9 (by decide) (fun c2 => ?_) (fun c2 => ?_)
    · have hF := it_t hF c2
      refine lv_iconst (v := (-1 : Int32)) C0.x C0.b dX1_at_21 (by decide) ?_
      obtain rfl := Option.some.inj hF
      exact x_iret C0 hW rfl rfl dX1_at_22
    · have hF := it_f hF c2
      refine lv_aload_n C0.x C0.b dX1_at_12 rfl (lv_at hl 0 rfl) ?_
      refine x_get C0 hW iw_X1 0 rfl rfl 0 (by decide) (List.mem_cons_of_mem _ wl_53) (v := .ref h_o_row) rfl dX1_at_13 ?_
      refine lv_iload_n C0.x C0.b dX1_at_16 rfl (lv_at hl 1 rfl) ?_
      obtain ⟨h3, hF⟩ := ck_some hF
      refine x_iald C0 hW 1 0 rfl rfl h3 dX1_at_17 ?_
      refine lv_goto (tgt := 22) C0.x C0.b dX1_at_18 (by decide) ?_
      obtain rfl := Option.some.inj hF
      exact x_iret C0 hW rfl rfl dX1_at_22

abbrev rm_X1_change : Room := { frames := 1, cells := 0, slots := 0, locals := 21 }

set_option maxHeartbeats 4000000 in
set_option maxRecDepth 100000 in
/-- SnapHouse$Bytes.change(II)V -/
theorem c_X1_change (l : Launch) (g : GX) (h_o h_o_row : Nat) {K : Nat} {o_count : Int32} {o_row_n : Nat} {o_row_c : Nat → Int32} {p1 : Int32} {p2 : Int32} {o : (Nat → Int32)} (hF : f_X1_change K o_count o_row_n o_row_c p1 p2 = some o) : mcV g l yX1_change wA_X1_change rm_X1_change [.ref h_o, .int p1, .int p2] (wF_Bytes g h_o h_o_row o_count o_row_n o_row_c) (wF_Bytes g h_o h_o_row o_count o_row_n o) 0 0 := by
  refine x_start (cc := cX1_change) (maxL := 3) (ret := none) (by decide) rfl (Nat.le_of_ble_eq_true rfl) ?_
  intro p e s m below meth c ls C0 hW hl
  have hl : lv_has ls 3 [(0, .ref h_o), (1, .int p1), (2, .int p2)] := hl
  unfold f_X1_change at hF
  refine lv_aload_n C0.x C0.b dX1_change_0 rfl (lv_at hl 0 rfl) ?_
  refine lv_iload_n C0.x C0.b dX1_change_1 rfl (lv_at hl 1 rfl) ?_
  obtain ⟨r1, e2, hF⟩ := ob hF
  refine go_i C0 hW [0, 1] [] [0, 1] (va_runV (As := [.int p1]) (rest := []) C0.fix (c_X1_hasPlace l g h_o h_o_row o_row_n o_row_c e2 _) (cwV 1 C0.ts (gw_V wl_178 wl_171 wl_172 wl_15 wl_173) rfl rfl rfl (by decide +kernel) ⟨Nat.le_of_ble_eq_true rfl, Nat.le_of_ble_eq_true rfl⟩) (pcv_of C0 hW [0, 1] rfl (by decide) (q0 := 0) rfl rfl) rfl rfl hl.1 rfl (lv_room (Nat.le_of_ble_eq_true rfl)) dX1_change_2 ⟨Nat.le_of_ble_eq_true rfl, Nat.le_of_ble_eq_true rfl⟩) rfl rfl (by decide) (by decide) (ws' := (wF_Bytes g h_o h_o_row o_count o_row_n o_row_c)) rfl (by decide) (fun H locs hW => ?_)
  refine lv_if_eq (tgt := 15) C0.x C0.b dX1_change_5 (by decide) (fun c3 => ?_) (fun c3 => ?_)
  · have hF := it_t hF c3
    obtain rfl := Option.some.inj hF
    exact x_vret C0 hW dX1_change_15
  · have hF := it_f hF c3
    refine lv_aload_n C0.x C0.b dX1_change_8 rfl (lv_at hl 0 rfl) ?_
    refine x_get C0 hW iw_X1 0 rfl rfl 0 (by decide) (List.mem_cons_of_mem _ wl_53) (v := .ref h_o_row) rfl dX1_change_9 ?_
    refine lv_iload_n C0.x C0.b dX1_change_12 rfl (lv_at hl 1 rfl) ?_
    refine lv_iload_n C0.x C0.b dX1_change_13 rfl (lv_at hl 2 rfl) ?_
    obtain ⟨h4, hF⟩ := ck_some hF
    refine x_iast C0 hW 1 0 rfl rfl h4 dX1_change_14 (ws' := (wF_Bytes g h_o h_o_row o_count o_row_n (upd o_row_c p1.toNatClampNeg p2))) rfl (fun H locs hW => ?_)
    obtain rfl := Option.some.inj hF
    exact x_vret C0 hW dX1_change_15

abbrev rm_X6_set : Room := { frames := 2, cells := 0, slots := 0, locals := 43 }

set_option maxHeartbeats 4000000 in
set_option maxRecDepth 100000 in
/-- SnapHouse.set(II)I -/
theorem c_X6_set (l : Launch) (g : GX) (h_o h_o_theTape h_o_theTape_row h_o_theOut h_o_theOut_row h_o_presser h_o_presser_block h_o_presser_block_row h_o_presser_slots h_o_streamMaker h_o_streamMaker_made h_o_streamMaker_made_row h_o_blockOpener h_o_blockOpener_given h_o_blockOpener_given_row h_o_blockOpener_elements h_o_blockOpener_elements_cells h_o_streamOpener h_o_streamOpener_given h_o_streamOpener_given_row h_o_streamOpener_chunks h_o_streamOpener_chunks_cells h_o_keptElements h_o_keptElements_cells h_o_keptChunks h_o_keptChunks_cells : Nat) {K : Nat} (o_faultNumber : Int32) (o_faultPlace : Int32) (o_faultOfBlock : Int32) (o_faultPlaceInBlock : Int32) (o_theOut_count : Int32) (o_theOut_row_n : Nat) (o_theOut_row_c : Nat → Int32) (o_presser_slotMask : Int32) (o_presser_block_count : Int32) (o_presser_block_row_n : Nat) (o_presser_block_row_c : Nat → Int32) (o_presser_slots_n : Nat) (o_presser_slots_c : Nat → Int32) (o_streamMaker_made_count : Int32) (o_streamMaker_made_row_n : Nat) (o_streamMaker_made_row_c : Nat → Int32) (o_blockOpener_fault : Int32) (o_blockOpener_place : Int32) (o_blockOpener_start : Int32) (o_blockOpener_end : Int32) (o_blockOpener_next : Int32) (o_blockOpener_length : Int32) (o_blockOpener_sort : Int32) (o_blockOpener_body : Int32) (o_blockOpener_size : Int64) (o_blockOpener_back : Int64) (o_blockOpener_given_count : Int32) (o_blockOpener_given_row_n : Nat) (o_blockOpener_given_row_c : Nat → Int32) (o_blockOpener_elements_count : Int32) (o_blockOpener_elements_marked : Int32) (o_blockOpener_elements_cells_n : Nat) (o_blockOpener_elements_cells_c : Nat → Int32) (o_streamOpener_fault : Int32) (o_streamOpener_place : Int32) (o_streamOpener_next : Int32) (o_streamOpener_type : Int32) (o_streamOpener_body : Int32) (o_streamOpener_size : Int32) (o_streamOpener_given_count : Int32) (o_streamOpener_given_row_n : Nat) (o_streamOpener_given_row_c : Nat → Int32) (o_streamOpener_chunks_count : Int32) (o_streamOpener_chunks_marked : Int32) (o_streamOpener_chunks_cells_n : Nat) (o_streamOpener_chunks_cells_c : Nat → Int32) (o_keptElements_count : Int32) (o_keptElements_marked : Int32) (o_keptElements_cells_n : Nat) (o_keptElements_cells_c : Nat → Int32) (o_keptChunks_count : Int32) (o_keptChunks_marked : Int32) (o_keptChunks_cells_n : Nat) (o_keptChunks_cells_c : Nat → Int32) {o_theTape_count : Int32} {o_theTape_row_n : Nat} {o_theTape_row_c : Nat → Int32} {p1 : Int32} {p2 : Int32} {o : Int32 × (Nat → Int32)} (hF : f_X6_set K o_theTape_count o_theTape_row_n o_theTape_row_c p1 p2 = some o) : mcI g l yX6_set wA_X6_set rm_X6_set [.ref h_o, .int p1, .int p2] (wF_SnapHouse g h_o h_o_theTape h_o_theTape_row h_o_theOut h_o_theOut_row h_o_presser h_o_presser_block h_o_presser_block_row h_o_presser_slots h_o_streamMaker h_o_streamMaker_made h_o_streamMaker_made_row h_o_blockOpener h_o_blockOpener_given h_o_blockOpener_given_row h_o_blockOpener_elements h_o_blockOpener_elements_cells h_o_streamOpener h_o_streamOpener_given h_o_streamOpener_given_row h_o_streamOpener_chunks h_o_streamOpener_chunks_cells h_o_keptElements h_o_keptElements_cells h_o_keptChunks h_o_keptChunks_cells o_faultNumber o_faultPlace o_faultOfBlock o_faultPlaceInBlock o_theTape_count o_theTape_row_n o_theTape_row_c o_theOut_count o_theOut_row_n o_theOut_row_c o_presser_slotMask o_presser_block_count o_presser_block_row_n o_presser_block_row_c o_presser_slots_n o_presser_slots_c o_streamMaker_made_count o_streamMaker_made_row_n o_streamMaker_made_row_c o_blockOpener_fault o_blockOpener_place o_blockOpener_start o_blockOpener_end o_blockOpener_next o_blockOpener_length o_blockOpener_sort o_blockOpener_body o_blockOpener_size o_blockOpener_back o_blockOpener_given_count o_blockOpener_given_row_n o_blockOpener_given_row_c o_blockOpener_elements_count o_blockOpener_elements_marked o_blockOpener_elements_cells_n o_blockOpener_elements_cells_c o_streamOpener_fault o_streamOpener_place o_streamOpener_next o_streamOpener_type o_streamOpener_body o_streamOpener_size o_streamOpener_given_count o_streamOpener_given_row_n o_streamOpener_given_row_c o_streamOpener_chunks_count o_streamOpener_chunks_marked o_streamOpener_chunks_cells_n o_streamOpener_chunks_cells_c o_keptElements_count o_keptElements_marked o_keptElements_cells_n o_keptElements_cells_c o_keptChunks_count o_keptChunks_marked o_keptChunks_cells_n o_keptChunks_cells_c) o.1 (wF_SnapHouse g h_o h_o_theTape h_o_theTape_row h_o_theOut h_o_theOut_row h_o_presser h_o_presser_block h_o_presser_block_row h_o_presser_slots h_o_streamMaker h_o_streamMaker_made h_o_streamMaker_made_row h_o_blockOpener h_o_blockOpener_given h_o_blockOpener_given_row h_o_blockOpener_elements h_o_blockOpener_elements_cells h_o_streamOpener h_o_streamOpener_given h_o_streamOpener_given_row h_o_streamOpener_chunks h_o_streamOpener_chunks_cells h_o_keptElements h_o_keptElements_cells h_o_keptChunks h_o_keptChunks_cells o_faultNumber o_faultPlace o_faultOfBlock o_faultPlaceInBlock o_theTape_count o_theTape_row_n o.2 o_theOut_count o_theOut_row_n o_theOut_row_c o_presser_slotMask o_presser_block_count o_presser_block_row_n o_presser_block_row_c o_presser_slots_n o_presser_slots_c o_streamMaker_made_count o_streamMaker_made_row_n o_streamMaker_made_row_c o_blockOpener_fault o_blockOpener_place o_blockOpener_start o_blockOpener_end o_blockOpener_next o_blockOpener_length o_blockOpener_sort o_blockOpener_body o_blockOpener_size o_blockOpener_back o_blockOpener_given_count o_blockOpener_given_row_n o_blockOpener_given_row_c o_blockOpener_elements_count o_blockOpener_elements_marked o_blockOpener_elements_cells_n o_blockOpener_elements_cells_c o_streamOpener_fault o_streamOpener_place o_streamOpener_next o_streamOpener_type o_streamOpener_body o_streamOpener_size o_streamOpener_given_count o_streamOpener_given_row_n o_streamOpener_given_row_c o_streamOpener_chunks_count o_streamOpener_chunks_marked o_streamOpener_chunks_cells_n o_streamOpener_chunks_cells_c o_keptElements_count o_keptElements_marked o_keptElements_cells_n o_keptElements_cells_c o_keptChunks_count o_keptChunks_marked o_keptChunks_cells_n o_keptChunks_cells_c) 0 0 := by
  refine x_start (cc := cX6_set) (maxL := 4) (ret := (some .int)) (by decide) rfl (Nat.le_of_ble_eq_true rfl) ?_
  intro p e s m below meth c ls C0 hW hl
  have hl : lv_has ls 4 [(0, .ref h_o), (1, .int p1), (2, .int p2)] := hl
  unfold f_X6_set at hF
  refine lv_aload_n C0.x C0.b dX6_set_0 rfl (lv_at hl 0 rfl) ?_
  refine x_get C0 hW iw_X6 0 rfl rfl 0 (by decide) (List.mem_cons_of_mem _ wl_16) (v := .ref h_o_theTape) rfl dX6_set_1 ?_
  refine lv_iload_n C0.x C0.b dX6_set_4 rfl (lv_at hl 1 rfl) ?_
  obtain ⟨r1, e2, hF⟩ := ob hF
  refine go_i C0 hW [1, 2] [0, 3, 4, 5, 6, 7, 8, 9, 10, 11, 12, 13, 14, 15, 16, 17, 18, 19, 20, 21, 22, 23, 24, 25] [0, 24, 25, 1, 2, 3, 4, 5, 6, 7, 8, 9, 10, 11, 12, 13, 14, 15, 16, 17, 18, 19, 20, 21, 22, 23] (va_runV (As := [.int p1]) (rest := []) C0.fix (c_X1_hasPlace l g h_o_theTape h_o_theTape_row o_theTape_row_n o_theTape_row_c e2 _) (cwV 1 C0.ts (gw_V wl_170 wl_171 wl_172 wl_15 wl_173) rfl rfl rfl (by decide +kernel) ⟨Nat.le_of_ble_eq_true rfl, Nat.le_of_ble_eq_true rfl⟩) (pcv_of C0 hW [1, 2] rfl (by decide) (q0 := 1) rfl rfl) rfl rfl hl.1 rfl (lv_room (Nat.le_of_ble_eq_true rfl)) dX6_set_5 ⟨Nat.le_of_ble_eq_true rfl, Nat.le_of_ble_eq_true rfl⟩) rfl rfl (by decide) (by decide) (ws' := (wF_SnapHouse g h_o h_o_theTape h_o_theTape_row h_o_theOut h_o_theOut_row h_o_presser h_o_presser_block h_o_presser_block_row h_o_presser_slots h_o_streamMaker h_o_streamMaker_made h_o_streamMaker_made_row h_o_blockOpener h_o_blockOpener_given h_o_blockOpener_given_row h_o_blockOpener_elements h_o_blockOpener_elements_cells h_o_streamOpener h_o_streamOpener_given h_o_streamOpener_given_row h_o_streamOpener_chunks h_o_streamOpener_chunks_cells h_o_keptElements h_o_keptElements_cells h_o_keptChunks h_o_keptChunks_cells o_faultNumber o_faultPlace o_faultOfBlock o_faultPlaceInBlock o_theTape_count o_theTape_row_n o_theTape_row_c o_theOut_count o_theOut_row_n o_theOut_row_c o_presser_slotMask o_presser_block_count o_presser_block_row_n o_presser_block_row_c o_presser_slots_n o_presser_slots_c o_streamMaker_made_count o_streamMaker_made_row_n o_streamMaker_made_row_c o_blockOpener_fault o_blockOpener_place o_blockOpener_start o_blockOpener_end o_blockOpener_next o_blockOpener_length o_blockOpener_sort o_blockOpener_body o_blockOpener_size o_blockOpener_back o_blockOpener_given_count o_blockOpener_given_row_n o_blockOpener_given_row_c o_blockOpener_elements_count o_blockOpener_elements_marked o_blockOpener_elements_cells_n o_blockOpener_elements_cells_c o_streamOpener_fault o_streamOpener_place o_streamOpener_next o_streamOpener_type o_streamOpener_body o_streamOpener_size o_streamOpener_given_count o_streamOpener_given_row_n o_streamOpener_given_row_c o_streamOpener_chunks_count o_streamOpener_chunks_marked o_streamOpener_chunks_cells_n o_streamOpener_chunks_cells_c o_keptElements_count o_keptElements_marked o_keptElements_cells_n o_keptElements_cells_c o_keptChunks_count o_keptChunks_marked o_keptChunks_cells_n o_keptChunks_cells_c)) rfl (by decide) (fun H locs hW => ?_)
  refine lv_if_eq (tgt := 18) C0.x C0.b dX6_set_8 (by decide) (fun c3 => ?_) (fun c3 => ?_)
  · have hF := it_t hF c3
    refine lv_iconst (v := (-1 : Int32)) C0.x C0.b dX6_set_18 (by decide) ?_
    obtain rfl := Option.some.inj hF
    exact x_iret C0 hW rfl rfl dX6_set_19
  · have hF := it_f hF c3
    refine lv_iload_n C0.x C0.b dX6_set_11 rfl (lv_at hl 2 rfl) ?_
    obtain ⟨r4, e5, hF⟩ := ob hF
    refine go_i C0 hW [] [0, 1, 2, 3, 4, 5, 6, 7, 8, 9, 10, 11, 12, 13, 14, 15, 16, 17, 18, 19, 20, 21, 22, 23, 24, 25] [0, 1, 2, 3, 4, 5, 6, 7, 8, 9, 10, 11, 12, 13, 14, 15, 16, 17, 18, 19, 20, 21, 22, 23, 24, 25] (va_runS (As := [.int p2]) (rest := []) C0.fix (c_X6_isByte l g e5 _) (va_cwS 1 C0.ts (gw_S wl_158 wl_159 wl_2 wl_160) rfl rfl rfl (by decide +kernel) ⟨Nat.le_of_ble_eq_true rfl, Nat.le_of_ble_eq_true rfl⟩) (pcc_of C0 hW [] rfl (by decide)) rfl rfl hl.1 rfl (lv_room (Nat.le_of_ble_eq_true rfl)) dX6_set_12 ⟨Nat.le_of_ble_eq_true rfl, Nat.le_of_ble_eq_true rfl⟩) rfl rfl (by decide) (by decide) (ws' := (wF_SnapHouse g h_o h_o_theTape h_o_theTape_row h_o_theOut h_o_theOut_row h_o_presser h_o_presser_block h_o_presser_block_row h_o_presser_slots h_o_streamMaker h_o_streamMaker_made h_o_streamMaker_made_row h_o_blockOpener h_o_blockOpener_given h_o_blockOpener_given_row h_o_blockOpener_elements h_o_blockOpener_elements_cells h_o_streamOpener h_o_streamOpener_given h_o_streamOpener_given_row h_o_streamOpener_chunks h_o_streamOpener_chunks_cells h_o_keptElements h_o_keptElements_cells h_o_keptChunks h_o_keptChunks_cells o_faultNumber o_faultPlace o_faultOfBlock o_faultPlaceInBlock o_theTape_count o_theTape_row_n o_theTape_row_c o_theOut_count o_theOut_row_n o_theOut_row_c o_presser_slotMask o_presser_block_count o_presser_block_row_n o_presser_block_row_c o_presser_slots_n o_presser_slots_c o_streamMaker_made_count o_streamMaker_made_row_n o_streamMaker_made_row_c o_blockOpener_fault o_blockOpener_place o_blockOpener_start o_blockOpener_end o_blockOpener_next o_blockOpener_length o_blockOpener_sort o_blockOpener_body o_blockOpener_size o_blockOpener_back o_blockOpener_given_count o_blockOpener_given_row_n o_blockOpener_given_row_c o_blockOpener_elements_count o_blockOpener_elements_marked o_blockOpener_elements_cells_n o_blockOpener_elements_cells_c o_streamOpener_fault o_streamOpener_place o_streamOpener_next o_streamOpener_type o_streamOpener_body o_streamOpener_size o_streamOpener_given_count o_streamOpener_given_row_n o_streamOpener_given_row_c o_streamOpener_chunks_count o_streamOpener_chunks_marked o_streamOpener_chunks_cells_n o_streamOpener_chunks_cells_c o_keptElements_count o_keptElements_marked o_keptElements_cells_n o_keptElements_cells_c o_keptChunks_count o_keptChunks_marked o_keptChunks_cells_n o_keptChunks_cells_c)) rfl (by decide) (fun H locs hW => ?_)
    refine lv_if_ne (tgt := 20) C0.x C0.b dX6_set_15 (by decide) (fun c6 => ?_) (fun c6 => ?_)
    · have hF := it_f hF c6
      refine lv_aload_n C0.x C0.b dX6_set_20 rfl (lv_at hl 0 rfl) ?_
      refine x_get C0 hW iw_X6 0 rfl rfl 0 (by decide) (List.mem_cons_of_mem _ wl_16) (v := .ref h_o_theTape) rfl dX6_set_21 ?_
      refine lv_iload_n C0.x C0.b dX6_set_24 rfl (lv_at hl 1 rfl) ?_
      obtain ⟨r7, e8, hF⟩ := ob hF
      refine go_i C0 hW [1, 2] [0, 3, 4, 5, 6, 7, 8, 9, 10, 11, 12, 13, 14, 15, 16, 17, 18, 19, 20, 21, 22, 23, 24, 25] [0, 24, 25, 1, 2, 3, 4, 5, 6, 7, 8, 9, 10, 11, 12, 13, 14, 15, 16, 17, 18, 19, 20, 21, 22, 23] (va_runV (As := [.int p1]) (rest := []) C0.fix (c_X1_at l g h_o_theTape h_o_theTape_row e8 _) (cwV 1 C0.ts (gw_V wl_205 wl_206 wl_207 wl_15 wl_208) rfl rfl rfl (by decide +kernel) ⟨Nat.le_of_ble_eq_true rfl, Nat.le_of_ble_eq_true rfl⟩) (pcv_of C0 hW [1, 2] rfl (by decide) (q0 := 1) rfl rfl) rfl rfl hl.1 rfl (lv_room (Nat.le_of_ble_eq_true rfl)) dX6_set_25 ⟨Nat.le_of_ble_eq_true rfl, Nat.le_of_ble_eq_true rfl⟩) rfl rfl (by decide) (by decide) (ws' := (wF_SnapHouse g h_o h_o_theTape h_o_theTape_row h_o_theOut h_o_theOut_row h_o_presser h_o_presser_block h_o_presser_block_row h_o_presser_slots h_o_streamMaker h_o_streamMaker_made h_o_streamMaker_made_row h_o_blockOpener h_o_blockOpener_given h_o_blockOpener_given_row h_o_blockOpener_elements h_o_blockOpener_elements_cells h_o_streamOpener h_o_streamOpener_given h_o_streamOpener_given_row h_o_streamOpener_chunks h_o_streamOpener_chunks_cells h_o_keptElements h_o_keptElements_cells h_o_keptChunks h_o_keptChunks_cells o_faultNumber o_faultPlace o_faultOfBlock o_faultPlaceInBlock o_theTape_count o_theTape_row_n o_theTape_row_c o_theOut_count o_theOut_row_n o_theOut_row_c o_presser_slotMask o_presser_block_count o_presser_block_row_n o_presser_block_row_c o_presser_slots_n o_presser_slots_c o_streamMaker_made_count o_streamMaker_made_row_n o_streamMaker_made_row_c o_blockOpener_fault o_blockOpener_place o_blockOpener_start o_blockOpener_end o_blockOpener_next o_blockOpener_length o_blockOpener_sort o_blockOpener_body o_blockOpener_size o_blockOpener_back o_blockOpener_given_count o_blockOpener_given_row_n o_blockOpener_given_row_c o_blockOpener_elements_count o_blockOpener_elements_marked o_blockOpener_elements_cells_n o_blockOpener_elements_cells_c o_streamOpener_fault o_streamOpener_place o_streamOpener_next o_streamOpener_type o_streamOpener_body o_streamOpener_size o_streamOpener_given_count o_streamOpener_given_row_n o_streamOpener_given_row_c o_streamOpener_chunks_count o_streamOpener_chunks_marked o_streamOpener_chunks_cells_n o_streamOpener_chunks_cells_c o_keptElements_count o_keptElements_marked o_keptElements_cells_n o_keptElements_cells_c o_keptChunks_count o_keptChunks_marked o_keptChunks_cells_n o_keptChunks_cells_c)) rfl (by decide) (fun H locs hW => ?_)
      refine lv_istore_n (lv' := [(3, .int r7), (0, .ref h_o), (1, .int p1), (2, .int p2)]) C0.x C0.b dX6_set_28 rfl hl (by decide) rfl (fun ls hl => ?_)
      refine lv_aload_n C0.x C0.b dX6_set_29 rfl (lv_at hl 1 rfl) ?_
      refine x_get C0 hW iw_X6 0 rfl rfl 0 (by decide) (List.mem_cons_of_mem _ wl_16) (v := .ref h_o_theTape) rfl dX6_set_30 ?_
      refine lv_iload_n C0.x C0.b dX6_set_33 rfl (lv_at hl 2 rfl) ?_
      refine lv_iload_n C0.x C0.b dX6_set_34 rfl (lv_at hl 3 rfl) ?_
      obtain ⟨r9, e10, hF⟩ := ob hF
      refine go_v C0 hW [1, 2] [0, 3, 4, 5, 6, 7, 8, 9, 10, 11, 12, 13, 14, 15, 16, 17, 18, 19, 20, 21, 22, 23, 24, 25] [0, 24, 25, 1, 2, 3, 4, 5, 6, 7, 8, 9, 10, 11, 12, 13, 14, 15, 16, 17, 18, 19, 20, 21, 22, 23] (va_runV (As := [.int p1, .int p2]) (rest := []) C0.fix (c_X1_change l g h_o_theTape h_o_theTape_row e10 _) (cwV 2 C0.ts (gw_V wl_209 wl_210 wl_211 wl_15 wl_212) rfl rfl rfl (by decide +kernel) ⟨Nat.le_of_ble_eq_true rfl, Nat.le_of_ble_eq_true rfl⟩) (pcv_of C0 hW [1, 2] rfl (by decide) (q0 := 1) rfl rfl) rfl rfl hl.1 rfl (lv_room (Nat.le_of_ble_eq_true rfl)) dX6_set_35 ⟨Nat.le_of_ble_eq_true rfl, Nat.le_of_ble_eq_true rfl⟩) rfl rfl (by decide) (by decide) (ws' := (wF_SnapHouse g h_o h_o_theTape h_o_theTape_row h_o_theOut h_o_theOut_row h_o_presser h_o_presser_block h_o_presser_block_row h_o_presser_slots h_o_streamMaker h_o_streamMaker_made h_o_streamMaker_made_row h_o_blockOpener h_o_blockOpener_given h_o_blockOpener_given_row h_o_blockOpener_elements h_o_blockOpener_elements_cells h_o_streamOpener h_o_streamOpener_given h_o_streamOpener_given_row h_o_streamOpener_chunks h_o_streamOpener_chunks_cells h_o_keptElements h_o_keptElements_cells h_o_keptChunks h_o_keptChunks_cells o_faultNumber o_faultPlace o_faultOfBlock o_faultPlaceInBlock o_theTape_count o_theTape_row_n r9 o_theOut_count o_theOut_row_n o_theOut_row_c o_presser_slotMask o_presser_block_count o_presser_block_row_n o_presser_block_row_c o_presser_slots_n o_presser_slots_c o_streamMaker_made_count o_streamMaker_made_row_n o_streamMaker_made_row_c o_blockOpener_fault o_blockOpener_place o_blockOpener_start o_blockOpener_end o_blockOpener_next o_blockOpener_length o_blockOpener_sort o_blockOpener_body o_blockOpener_size o_blockOpener_back o_blockOpener_given_count o_blockOpener_given_row_n o_blockOpener_given_row_c o_blockOpener_elements_count o_blockOpener_elements_marked o_blockOpener_elements_cells_n o_blockOpener_elements_cells_c o_streamOpener_fault o_streamOpener_place o_streamOpener_next o_streamOpener_type o_streamOpener_body o_streamOpener_size o_streamOpener_given_count o_streamOpener_given_row_n o_streamOpener_given_row_c o_streamOpener_chunks_count o_streamOpener_chunks_marked o_streamOpener_chunks_cells_n o_streamOpener_chunks_cells_c o_keptElements_count o_keptElements_marked o_keptElements_cells_n o_keptElements_cells_c o_keptChunks_count o_keptChunks_marked o_keptChunks_cells_n o_keptChunks_cells_c)) rfl (by decide) (fun H locs hW => ?_)
      refine lv_iload_n C0.x C0.b dX6_set_38 rfl (lv_at hl 0 rfl) ?_
      obtain rfl := Option.some.inj hF
      exact x_iret C0 hW rfl rfl dX6_set_39
    · have hF := it_t hF c6
      refine lv_iconst (v := (-1 : Int32)) C0.x C0.b dX6_set_18 (by decide) ?_
      obtain rfl := Option.some.inj hF
      exact x_iret C0 hW rfl rfl dX6_set_19

abbrev rm_X1_putAll : Room := { frames := 1, cells := 0, slots := 0, locals := 22 }

set_option maxHeartbeats 4000000 in
set_option maxRecDepth 100000 in
/-- SnapHouse$Bytes.putAll(LSnapHouse$Bytes;II)V -/
theorem c_X1_putAll (l : Launch) (g : GX) (h_o h_o_row h_a h_a_row : Nat) {K : Nat} {o_count : Int32} {o_row_n : Nat} {o_row_c : Nat → Int32} {a_count : Int32} {a_row_n : Nat} {a_row_c : Nat → Int32} {p2 : Int32} {p3 : Int32} {o : Int32 × (Nat → Int32)} (hF : f_X1_putAll K o_count o_row_n o_row_c a_count a_row_n a_row_c p2 p3 = some o) : mcV g l yX1_putAll wA_X1_putAll rm_X1_putAll [.ref h_o, .ref h_a, .int p2, .int p3] (wF_Bytes_Bytes g h_o h_o_row h_a h_a_row o_count o_row_n o_row_c a_count a_row_n a_row_c) (wF_Bytes_Bytes g h_o h_o_row h_a h_a_row o.1 o_row_n o.2 a_count a_row_n a_row_c) 0 0 := by
  refine x_start (cc := cX1_putAll) (maxL := 4) (ret := none) (by decide) rfl (Nat.le_of_ble_eq_true rfl) ?_
  intro p e s m below meth c ls C0 hW hl
  have hl : lv_has ls 4 [(0, .ref h_o), (1, .ref h_a), (2, .int p2), (3, .int p3)] := hl
  unfold f_X1_putAll at hF
  refine lv_aload_n C0.x C0.b dX1_putAll_0 rfl (lv_at hl 1 rfl) ?_
  refine lv_iload_n C0.x C0.b dX1_putAll_1 rfl (lv_at hl 2 rfl) ?_
  refine lv_iload_n C0.x C0.b dX1_putAll_2 rfl (lv_at hl 3 rfl) ?_
  obtain ⟨r1, e2, hF⟩ := ob hF
  refine go_i C0 hW [2, 3] [0, 1] [0, 1, 2, 3] (va_runV (As := [.int p2, .int p3]) (rest := []) C0.fix (c_X1_has l g h_a h_a_row a_row_n a_row_c e2 _) (cwV 2 C0.ts (gw_V wl_196 wl_189 wl_190 wl_15 wl_191) rfl rfl rfl (by decide +kernel) ⟨Nat.le_of_ble_eq_true rfl, Nat.le_of_ble_eq_true rfl⟩) (pcv_of C0 hW [2, 3] rfl (by decide) (q0 := 2) rfl rfl) rfl rfl hl.1 rfl (lv_room (Nat.le_of_ble_eq_true rfl)) dX1_putAll_3 ⟨Nat.le_of_ble_eq_true rfl, Nat.le_of_ble_eq_true rfl⟩) rfl rfl (by decide) (by decide) (ws' := (wF_Bytes_Bytes g h_o h_o_row h_a h_a_row o_count o_row_n o_row_c a_count a_row_n a_row_c)) rfl (by decide) (fun H locs hW => ?_)
  refine lv_if_eq (tgt := 44) C0.x C0.b dX1_putAll_6 (by decide) (fun c3 => ?_) (fun c3 => ?_)
  · have hF := it_t hF c3
    obtain rfl := Option.some.inj hF
    exact x_vret C0 hW dX1_putAll_44
  · have hF := it_f hF c3
    refine lv_aload_n C0.x C0.b dX1_putAll_9 rfl (lv_at hl 0 rfl) ?_
    refine lv_iload_n C0.x C0.b dX1_putAll_10 rfl (lv_at hl 3 rfl) ?_
    obtain ⟨r4, e5, hF⟩ := ob hF
    refine go_i C0 hW [0, 1] [2, 3] [2, 3, 0, 1] (va_runV (As := [.int p3]) (rest := []) C0.fix (c_X1_hasRoomFor l g h_o h_o_row o_row_c e5 _) (cwV 1 C0.ts (gw_V wl_179 wl_133 wl_134 wl_15 wl_135) rfl rfl rfl (by decide +kernel) ⟨Nat.le_of_ble_eq_true rfl, Nat.le_of_ble_eq_true rfl⟩) (pcv_of C0 hW [0, 1] rfl (by decide) (q0 := 0) rfl rfl) rfl rfl hl.1 rfl (lv_room (Nat.le_of_ble_eq_true rfl)) dX1_putAll_11 ⟨Nat.le_of_ble_eq_true rfl, Nat.le_of_ble_eq_true rfl⟩) rfl rfl (by decide) (by decide) (ws' := (wF_Bytes_Bytes g h_o h_o_row h_a h_a_row o_count o_row_n o_row_c a_count a_row_n a_row_c)) rfl (by decide) (fun H locs hW => ?_)
    refine lv_if_eq (tgt := 44) C0.x C0.b dX1_putAll_14 (by decide) (fun c6 => ?_) (fun c6 => ?_)
    · have hF := it_t hF c6
      obtain rfl := Option.some.inj hF
      exact x_vret C0 hW dX1_putAll_44
    · have hF := it_f hF c6
      refine lv_aload_n C0.x C0.b dX1_putAll_17 rfl (lv_at hl 1 rfl) ?_
      refine x_get C0 hW iw_X1 2 rfl rfl 0 (by decide) (List.mem_cons_of_mem _ wl_53) (v := .ref h_a_row) rfl dX1_putAll_18 ?_
      refine lv_iload_n C0.x C0.b dX1_putAll_21 rfl (lv_at hl 2 rfl) ?_
      refine lv_aload_n C0.x C0.b dX1_putAll_22 rfl (lv_at hl 0 rfl) ?_
      refine x_get C0 hW iw_X1 0 rfl rfl 0 (by decide) (List.mem_cons_of_mem _ wl_53) (v := .ref h_o_row) rfl dX1_putAll_23 ?_
      refine lv_aload_n C0.x C0.b dX1_putAll_26 rfl (lv_at hl 0 rfl) ?_
      refine x_get C0 hW iw_X1 0 rfl rfl 1 (by decide) (List.mem_cons_of_mem _ wl_47) (v := .int o_count) rfl dX1_putAll_27 ?_
      refine lv_iload_n C0.x C0.b dX1_putAll_30 rfl (lv_at hl 3 rfl) ?_
      obtain ⟨h7, hF⟩ := ckc_some hF
      refine x_cpy C0 hW hl.1 (List.mem_cons_of_mem _ wl_229) (List.mem_cons_of_mem _ wl_230) (List.mem_cons_of_mem _ wl_231) (List.mem_cons_of_mem _ wl_232) 3 1 0 rfl rfl rfl h7 (Nat.le_of_ble_eq_true rfl) (Nat.le_of_ble_eq_true rfl) dX1_putAll_31 (ws' := (wF_Bytes_Bytes g h_o h_o_row h_a h_a_row o_count o_row_n (va_cpy a_row_c o_row_c p2.toNatClampNeg o_count.toNatClampNeg p3.toNatClampNeg) a_count a_row_n a_row_c)) rfl (fun H locs hW => ?_)
      refine lv_aload_n C0.x C0.b dX1_putAll_34 rfl (lv_at hl 0 rfl) ?_
      refine lv_dup C0.x C0.b dX1_putAll_35 rfl ?_
      refine x_get C0 hW iw_X1 0 rfl rfl 1 (by decide) (List.mem_cons_of_mem _ wl_47) (v := .int o_count) rfl dX1_putAll_36 ?_
      refine lv_iload_n C0.x C0.b dX1_putAll_39 rfl (lv_at hl 3 rfl) ?_
      refine lv_iadd C0.x C0.b dX1_putAll_40 ?_
      refine x_put C0 hW iw_X1 tyX1 tyX1_ok nmX1 0 rfl rfl 1 (by decide) (List.mem_cons_of_mem _ wl_47) rfl (ty := .int) (v := .int (o_count + p3)) (by decide +kernel) rfl rfl (Nat.le_of_ble_eq_true rfl) dX1_putAll_41 (ws' := (wF_Bytes_Bytes g h_o h_o_row h_a h_a_row (o_count + p3) o_row_n (va_cpy a_row_c o_row_c p2.toNatClampNeg o_count.toNatClampNeg p3.toNatClampNeg) a_count a_row_n a_row_c)) rfl (fun H locs hW => ?_)
      obtain rfl := Option.some.inj hF
      exact x_vret C0 hW dX1_putAll_44

abbrev rm_X1_become : Room := { frames := 2, cells := 0, slots := 0, locals := 45 }

set_option maxHeartbeats 4000000 in
set_option maxRecDepth 100000 in
/-- SnapHouse$Bytes.become(LSnapHouse$Bytes;)V -/
theorem c_X1_become (l : Launch) (g : GX) (h_o h_o_row h_a h_a_row : Nat) {K : Nat} {o_count : Int32} {o_row_n : Nat} {o_row_c : Nat → Int32} {a_count : Int32} {a_row_n : Nat} {a_row_c : Nat → Int32} {o : Int32 × (Nat → Int32)} (hF : f_X1_become K o_count o_row_n o_row_c a_count a_row_n a_row_c = some o) : mcV g l yX1_become wA_X1_become rm_X1_become [.ref h_o, .ref h_a] (wF_Bytes_Bytes g h_o h_o_row h_a h_a_row o_count o_row_n o_row_c a_count a_row_n a_row_c) (wF_Bytes_Bytes g h_o h_o_row h_a h_a_row o.1 o_row_n o.2 a_count a_row_n a_row_c) 0 0 := by
  refine x_start (cc := cX1_become) (maxL := 2) (ret := none) (by decide) rfl (Nat.le_of_ble_eq_true rfl) ?_
  intro p e s m below meth c ls C0 hW hl
  have hl : lv_has ls 2 [(0, .ref h_o), (1, .ref h_a)] := hl
  unfold f_X1_become at hF
  refine lv_aload_n C0.x C0.b dX1_become_0 rfl (lv_at hl 0 rfl) ?_
  refine lv_iconst (v := (0 : Int32)) C0.x C0.b dX1_become_1 (by decide) ?_
  refine x_put C0 hW iw_X1 tyX1 tyX1_ok nmX1 0 rfl rfl 1 (by decide) (List.mem_cons_of_mem _ wl_47) rfl (ty := .int) (v := .int (0 : Int32)) (by decide +kernel) rfl rfl (Nat.le_of_ble_eq_true rfl) dX1_become_2 (ws' := (wF_Bytes_Bytes g h_o h_o_row h_a h_a_row (0 : Int32) o_row_n o_row_c a_count a_row_n a_row_c)) rfl (fun H locs hW => ?_)
  refine lv_aload_n C0.x C0.b dX1_become_5 rfl (lv_at hl 0 rfl) ?_
  refine lv_aload_n C0.x C0.b dX1_become_6 rfl (lv_at hl 1 rfl) ?_
  refine lv_iconst (v := (0 : Int32)) C0.x C0.b dX1_become_7 (by decide) ?_
  refine lv_aload_n C0.x C0.b dX1_become_8 rfl (lv_at hl 1 rfl) ?_
  refine x_get C0 hW iw_X1 2 rfl rfl 1 (by decide) (List.mem_cons_of_mem _ wl_47) (v := .int a_count) rfl dX1_become_9 ?_
  obtain ⟨r1, e2, hF⟩ := ob hF
  refine go_v C0 hW [0, 1, 2, 3] [] [0, 1, 2, 3] (va_runV (As := [.ref h_a, .int (0 : Int32), .int a_count]) (rest := []) C0.fix (c_X1_putAll l g h_o h_o_row h_a h_a_row e2 _) (cwV 3 C0.ts (gw_V wl_225 wl_226 wl_227 wl_15 wl_228) rfl rfl rfl (by decide +kernel) ⟨Nat.le_of_ble_eq_true rfl, Nat.le_of_ble_eq_true rfl⟩) (pcv_of C0 hW [0, 1, 2, 3] rfl (by decide) (q0 := 0) rfl rfl) rfl rfl hl.1 rfl (lv_room (Nat.le_of_ble_eq_true rfl)) dX1_become_12 ⟨Nat.le_of_ble_eq_true rfl, Nat.le_of_ble_eq_true rfl⟩) rfl rfl (by decide) (by decide) (ws' := (wF_Bytes_Bytes g h_o h_o_row h_a h_a_row r1.1 o_row_n r1.2 a_count a_row_n a_row_c)) rfl (by decide) (fun H locs hW => ?_)
  obtain rfl := Option.some.inj hF
  exact x_vret C0 hW dX1_become_15

abbrev rm_X6_take : Room := { frames := 3, cells := 0, slots := 0, locals := 66 }

set_option maxHeartbeats 4000000 in
set_option maxRecDepth 100000 in
/-- SnapHouse.take()I -/
theorem c_X6_take (l : Launch) (g : GX) (h_o h_o_theTape h_o_theTape_row h_o_theOut h_o_theOut_row h_o_presser h_o_presser_block h_o_presser_block_row h_o_presser_slots h_o_streamMaker h_o_streamMaker_made h_o_streamMaker_made_row h_o_blockOpener h_o_blockOpener_given h_o_blockOpener_given_row h_o_blockOpener_elements h_o_blockOpener_elements_cells h_o_streamOpener h_o_streamOpener_given h_o_streamOpener_given_row h_o_streamOpener_chunks h_o_streamOpener_chunks_cells h_o_keptElements h_o_keptElements_cells h_o_keptChunks h_o_keptChunks_cells : Nat) {K : Nat} (o_faultNumber : Int32) (o_faultPlace : Int32) (o_faultOfBlock : Int32) (o_faultPlaceInBlock : Int32) (o_presser_slotMask : Int32) (o_presser_block_count : Int32) (o_presser_block_row_n : Nat) (o_presser_block_row_c : Nat → Int32) (o_presser_slots_n : Nat) (o_presser_slots_c : Nat → Int32) (o_streamMaker_made_count : Int32) (o_streamMaker_made_row_n : Nat) (o_streamMaker_made_row_c : Nat → Int32) (o_blockOpener_fault : Int32) (o_blockOpener_place : Int32) (o_blockOpener_start : Int32) (o_blockOpener_end : Int32) (o_blockOpener_next : Int32) (o_blockOpener_length : Int32) (o_blockOpener_sort : Int32) (o_blockOpener_body : Int32) (o_blockOpener_size : Int64) (o_blockOpener_back : Int64) (o_blockOpener_given_count : Int32) (o_blockOpener_given_row_n : Nat) (o_blockOpener_given_row_c : Nat → Int32) (o_blockOpener_elements_count : Int32) (o_blockOpener_elements_marked : Int32) (o_blockOpener_elements_cells_n : Nat) (o_blockOpener_elements_cells_c : Nat → Int32) (o_streamOpener_fault : Int32) (o_streamOpener_place : Int32) (o_streamOpener_next : Int32) (o_streamOpener_type : Int32) (o_streamOpener_body : Int32) (o_streamOpener_size : Int32) (o_streamOpener_given_count : Int32) (o_streamOpener_given_row_n : Nat) (o_streamOpener_given_row_c : Nat → Int32) (o_streamOpener_chunks_count : Int32) (o_streamOpener_chunks_marked : Int32) (o_streamOpener_chunks_cells_n : Nat) (o_streamOpener_chunks_cells_c : Nat → Int32) (o_keptElements_count : Int32) (o_keptElements_marked : Int32) (o_keptElements_cells_n : Nat) (o_keptElements_cells_c : Nat → Int32) (o_keptChunks_count : Int32) (o_keptChunks_marked : Int32) (o_keptChunks_cells_n : Nat) (o_keptChunks_cells_c : Nat → Int32) {o_theTape_count : Int32} {o_theTape_row_n : Nat} {o_theTape_row_c : Nat → Int32} {o_theOut_count : Int32} {o_theOut_row_n : Nat} {o_theOut_row_c : Nat → Int32} {o : Int32 × Int32 × (Nat → Int32)} (hF : f_X6_take K o_theTape_count o_theTape_row_n o_theTape_row_c o_theOut_count o_theOut_row_n o_theOut_row_c = some o) : mcI g l yX6_take wA_X6_take rm_X6_take [.ref h_o] (wF_SnapHouse g h_o h_o_theTape h_o_theTape_row h_o_theOut h_o_theOut_row h_o_presser h_o_presser_block h_o_presser_block_row h_o_presser_slots h_o_streamMaker h_o_streamMaker_made h_o_streamMaker_made_row h_o_blockOpener h_o_blockOpener_given h_o_blockOpener_given_row h_o_blockOpener_elements h_o_blockOpener_elements_cells h_o_streamOpener h_o_streamOpener_given h_o_streamOpener_given_row h_o_streamOpener_chunks h_o_streamOpener_chunks_cells h_o_keptElements h_o_keptElements_cells h_o_keptChunks h_o_keptChunks_cells o_faultNumber o_faultPlace o_faultOfBlock o_faultPlaceInBlock o_theTape_count o_theTape_row_n o_theTape_row_c o_theOut_count o_theOut_row_n o_theOut_row_c o_presser_slotMask o_presser_block_count o_presser_block_row_n o_presser_block_row_c o_presser_slots_n o_presser_slots_c o_streamMaker_made_count o_streamMaker_made_row_n o_streamMaker_made_row_c o_blockOpener_fault o_blockOpener_place o_blockOpener_start o_blockOpener_end o_blockOpener_next o_blockOpener_length o_blockOpener_sort o_blockOpener_body o_blockOpener_size o_blockOpener_back o_blockOpener_given_count o_blockOpener_given_row_n o_blockOpener_given_row_c o_blockOpener_elements_count o_blockOpener_elements_marked o_blockOpener_elements_cells_n o_blockOpener_elements_cells_c o_streamOpener_fault o_streamOpener_place o_streamOpener_next o_streamOpener_type o_streamOpener_body o_streamOpener_size o_streamOpener_given_count o_streamOpener_given_row_n o_streamOpener_given_row_c o_streamOpener_chunks_count o_streamOpener_chunks_marked o_streamOpener_chunks_cells_n o_streamOpener_chunks_cells_c o_keptElements_count o_keptElements_marked o_keptElements_cells_n o_keptElements_cells_c o_keptChunks_count o_keptChunks_marked o_keptChunks_cells_n o_keptChunks_cells_c) o.1 (wF_SnapHouse g h_o h_o_theTape h_o_theTape_row h_o_theOut h_o_theOut_row h_o_presser h_o_presser_block h_o_presser_block_row h_o_presser_slots h_o_streamMaker h_o_streamMaker_made h_o_streamMaker_made_row h_o_blockOpener h_o_blockOpener_given h_o_blockOpener_given_row h_o_blockOpener_elements h_o_blockOpener_elements_cells h_o_streamOpener h_o_streamOpener_given h_o_streamOpener_given_row h_o_streamOpener_chunks h_o_streamOpener_chunks_cells h_o_keptElements h_o_keptElements_cells h_o_keptChunks h_o_keptChunks_cells o_faultNumber o_faultPlace o_faultOfBlock o_faultPlaceInBlock o.2.1 o_theTape_row_n o.2.2 o_theOut_count o_theOut_row_n o_theOut_row_c o_presser_slotMask o_presser_block_count o_presser_block_row_n o_presser_block_row_c o_presser_slots_n o_presser_slots_c o_streamMaker_made_count o_streamMaker_made_row_n o_streamMaker_made_row_c o_blockOpener_fault o_blockOpener_place o_blockOpener_start o_blockOpener_end o_blockOpener_next o_blockOpener_length o_blockOpener_sort o_blockOpener_body o_blockOpener_size o_blockOpener_back o_blockOpener_given_count o_blockOpener_given_row_n o_blockOpener_given_row_c o_blockOpener_elements_count o_blockOpener_elements_marked o_blockOpener_elements_cells_n o_blockOpener_elements_cells_c o_streamOpener_fault o_streamOpener_place o_streamOpener_next o_streamOpener_type o_streamOpener_body o_streamOpener_size o_streamOpener_given_count o_streamOpener_given_row_n o_streamOpener_given_row_c o_streamOpener_chunks_count o_streamOpener_chunks_marked o_streamOpener_chunks_cells_n o_streamOpener_chunks_cells_c o_keptElements_count o_keptElements_marked o_keptElements_cells_n o_keptElements_cells_c o_keptChunks_count o_keptChunks_marked o_keptChunks_cells_n o_keptChunks_cells_c) 0 0 := by
  refine x_start (cc := cX6_take) (maxL := 1) (ret := (some .int)) (by decide) rfl (Nat.le_of_ble_eq_true rfl) ?_
  intro p e s m below meth c ls C0 hW hl
  have hl : lv_has ls 1 [(0, .ref h_o)] := hl
  unfold f_X6_take at hF
  refine lv_aload_n C0.x C0.b dX6_take_0 rfl (lv_at hl 0 rfl) ?_
  refine x_get C0 hW iw_X6 0 rfl rfl 1 (by decide) (List.mem_cons_of_mem _ wl_17) (v := .ref h_o_theOut) rfl dX6_take_1 ?_
  refine x_getN C0 hW iw_X1 3 rfl rfl 1 (by decide) (List.mem_of_getElem? (i := 0) rfl) (v := .int o_theOut_count) rfl dX6_take_4 ?_
  refine lv_sipush (v := (20000 : Int32)) C0.x C0.b dX6_take_7 (by decide) ?_
  refine lv_icmp_le (tgt := 15) C0.x C0.b dX6_take_10 (by decide) (fun c1 => ?_) (fun c1 => ?_)
  · have hF := it_t hF c1
    refine lv_aload_n C0.x C0.b dX6_take_15 rfl (lv_at hl 0 rfl) ?_
    refine x_get C0 hW iw_X6 0 rfl rfl 0 (by decide) (List.mem_cons_of_mem _ wl_16) (v := .ref h_o_theTape) rfl dX6_take_16 ?_
    refine lv_aload_n C0.x C0.b dX6_take_19 rfl (lv_at hl 0 rfl) ?_
    refine x_get C0 hW iw_X6 0 rfl rfl 1 (by decide) (List.mem_cons_of_mem _ wl_17) (v := .ref h_o_theOut) rfl dX6_take_20 ?_
    obtain ⟨r2, e3, hF⟩ := ob hF
    refine go_v C0 hW [1, 2, 3, 4] [0, 5, 6, 7, 8, 9, 10, 11, 12, 13, 14, 15, 16, 17, 18, 19, 20, 21, 22, 23, 24, 25] [0, 22, 23, 24, 25, 1, 2, 3, 4, 5, 6, 7, 8, 9, 10, 11, 12, 13, 14, 15, 16, 17, 18, 19, 20, 21] (va_runV (As := [.ref h_o_theOut]) (rest := []) C0.fix (c_X1_become l g h_o_theTape h_o_theTape_row h_o_theOut h_o_theOut_row e3 _) (cwV 1 C0.ts (gw_V wl_221 wl_222 wl_223 wl_15 wl_224) rfl rfl rfl (by decide +kernel) ⟨Nat.le_of_ble_eq_true rfl, Nat.le_of_ble_eq_true rfl⟩) (pcv_of C0 hW [1, 2, 3, 4] rfl (by decide) (q0 := 1) rfl rfl) rfl rfl hl.1 rfl (lv_room (Nat.le_of_ble_eq_true rfl)) dX6_take_23 ⟨Nat.le_of_ble_eq_true rfl, Nat.le_of_ble_eq_true rfl⟩) rfl rfl (by decide) (by decide) (ws' := (wF_SnapHouse g h_o h_o_theTape h_o_theTape_row h_o_theOut h_o_theOut_row h_o_presser h_o_presser_block h_o_presser_block_row h_o_presser_slots h_o_streamMaker h_o_streamMaker_made h_o_streamMaker_made_row h_o_blockOpener h_o_blockOpener_given h_o_blockOpener_given_row h_o_blockOpener_elements h_o_blockOpener_elements_cells h_o_streamOpener h_o_streamOpener_given h_o_streamOpener_given_row h_o_streamOpener_chunks h_o_streamOpener_chunks_cells h_o_keptElements h_o_keptElements_cells h_o_keptChunks h_o_keptChunks_cells o_faultNumber o_faultPlace o_faultOfBlock o_faultPlaceInBlock r2.1 o_theTape_row_n r2.2 o_theOut_count o_theOut_row_n o_theOut_row_c o_presser_slotMask o_presser_block_count o_presser_block_row_n o_presser_block_row_c o_presser_slots_n o_presser_slots_c o_streamMaker_made_count o_streamMaker_made_row_n o_streamMaker_made_row_c o_blockOpener_fault o_blockOpener_place o_blockOpener_start o_blockOpener_end o_blockOpener_next o_blockOpener_length o_blockOpener_sort o_blockOpener_body o_blockOpener_size o_blockOpener_back o_blockOpener_given_count o_blockOpener_given_row_n o_blockOpener_given_row_c o_blockOpener_elements_count o_blockOpener_elements_marked o_blockOpener_elements_cells_n o_blockOpener_elements_cells_c o_streamOpener_fault o_streamOpener_place o_streamOpener_next o_streamOpener_type o_streamOpener_body o_streamOpener_size o_streamOpener_given_count o_streamOpener_given_row_n o_streamOpener_given_row_c o_streamOpener_chunks_count o_streamOpener_chunks_marked o_streamOpener_chunks_cells_n o_streamOpener_chunks_cells_c o_keptElements_count o_keptElements_marked o_keptElements_cells_n o_keptElements_cells_c o_keptChunks_count o_keptChunks_marked o_keptChunks_cells_n o_keptChunks_cells_c)) rfl (by decide) (fun H locs hW => ?_)
    refine lv_aload_n C0.x C0.b dX6_take_26 rfl (lv_at hl 0 rfl) ?_
    refine x_get C0 hW iw_X6 0 rfl rfl 0 (by decide) (List.mem_cons_of_mem _ wl_16) (v := .ref h_o_theTape) rfl dX6_take_27 ?_
    refine x_getN C0 hW iw_X1 1 rfl rfl 1 (by decide) (List.mem_of_getElem? (i := 0) rfl) (v := .int r2.1) rfl dX6_take_30 ?_
    obtain rfl := Option.some.inj hF
    exact x_iret C0 hW rfl rfl dX6_take_33
  · have hF := it_f hF c1
    refine lv_iconst (v := (-1 : Int32)) C0.x C0.b dX6_take_13 (by decide) ?_
    obtain rfl := Option.some.inj hF
    exact x_iret C0 hW rfl rfl dX6_take_14

abbrev rm_X6_tape : Room := { frames := 1, cells := 0, slots := 0, locals := 21 }

set_option maxHeartbeats 4000000 in
set_option maxRecDepth 100000 in
/-- SnapHouse.tape(I)I -/
theorem c_X6_tape (l : Launch) (g : GX) (h_o h_o_theTape h_o_theTape_row h_o_theOut h_o_theOut_row h_o_presser h_o_presser_block h_o_presser_block_row h_o_presser_slots h_o_streamMaker h_o_streamMaker_made h_o_streamMaker_made_row h_o_blockOpener h_o_blockOpener_given h_o_blockOpener_given_row h_o_blockOpener_elements h_o_blockOpener_elements_cells h_o_streamOpener h_o_streamOpener_given h_o_streamOpener_given_row h_o_streamOpener_chunks h_o_streamOpener_chunks_cells h_o_keptElements h_o_keptElements_cells h_o_keptChunks h_o_keptChunks_cells : Nat) {K : Nat} (o_faultNumber : Int32) (o_faultPlace : Int32) (o_faultOfBlock : Int32) (o_faultPlaceInBlock : Int32) (o_theOut_count : Int32) (o_theOut_row_n : Nat) (o_theOut_row_c : Nat → Int32) (o_presser_slotMask : Int32) (o_presser_block_count : Int32) (o_presser_block_row_n : Nat) (o_presser_block_row_c : Nat → Int32) (o_presser_slots_n : Nat) (o_presser_slots_c : Nat → Int32) (o_streamMaker_made_count : Int32) (o_streamMaker_made_row_n : Nat) (o_streamMaker_made_row_c : Nat → Int32) (o_blockOpener_fault : Int32) (o_blockOpener_place : Int32) (o_blockOpener_start : Int32) (o_blockOpener_end : Int32) (o_blockOpener_next : Int32) (o_blockOpener_length : Int32) (o_blockOpener_sort : Int32) (o_blockOpener_body : Int32) (o_blockOpener_size : Int64) (o_blockOpener_back : Int64) (o_blockOpener_given_count : Int32) (o_blockOpener_given_row_n : Nat) (o_blockOpener_given_row_c : Nat → Int32) (o_blockOpener_elements_count : Int32) (o_blockOpener_elements_marked : Int32) (o_blockOpener_elements_cells_n : Nat) (o_blockOpener_elements_cells_c : Nat → Int32) (o_streamOpener_fault : Int32) (o_streamOpener_place : Int32) (o_streamOpener_next : Int32) (o_streamOpener_type : Int32) (o_streamOpener_body : Int32) (o_streamOpener_size : Int32) (o_streamOpener_given_count : Int32) (o_streamOpener_given_row_n : Nat) (o_streamOpener_given_row_c : Nat → Int32) (o_streamOpener_chunks_count : Int32) (o_streamOpener_chunks_marked : Int32) (o_streamOpener_chunks_cells_n : Nat) (o_streamOpener_chunks_cells_c : Nat → Int32) (o_keptElements_count : Int32) (o_keptElements_marked : Int32) (o_keptElements_cells_n : Nat) (o_keptElements_cells_c : Nat → Int32) (o_keptChunks_count : Int32) (o_keptChunks_marked : Int32) (o_keptChunks_cells_n : Nat) (o_keptChunks_cells_c : Nat → Int32) {o_theTape_count : Int32} {o_theTape_row_n : Nat} {o_theTape_row_c : Nat → Int32} {p1 : Int32} {o : Int32} (hF : f_X6_tape K o_theTape_count o_theTape_row_n o_theTape_row_c p1 = some o) : mcI g l yX6_tape wA_X6_tape rm_X6_tape [.ref h_o, .int p1] (wF_SnapHouse g h_o h_o_theTape h_o_theTape_row h_o_theOut h_o_theOut_row h_o_presser h_o_presser_block h_o_presser_block_row h_o_presser_slots h_o_streamMaker h_o_streamMaker_made h_o_streamMaker_made_row h_o_blockOpener h_o_blockOpener_given h_o_blockOpener_given_row h_o_blockOpener_elements h_o_blockOpener_elements_cells h_o_streamOpener h_o_streamOpener_given h_o_streamOpener_given_row h_o_streamOpener_chunks h_o_streamOpener_chunks_cells h_o_keptElements h_o_keptElements_cells h_o_keptChunks h_o_keptChunks_cells o_faultNumber o_faultPlace o_faultOfBlock o_faultPlaceInBlock o_theTape_count o_theTape_row_n o_theTape_row_c o_theOut_count o_theOut_row_n o_theOut_row_c o_presser_slotMask o_presser_block_count o_presser_block_row_n o_presser_block_row_c o_presser_slots_n o_presser_slots_c o_streamMaker_made_count o_streamMaker_made_row_n o_streamMaker_made_row_c o_blockOpener_fault o_blockOpener_place o_blockOpener_start o_blockOpener_end o_blockOpener_next o_blockOpener_length o_blockOpener_sort o_blockOpener_body o_blockOpener_size o_blockOpener_back o_blockOpener_given_count o_blockOpener_given_row_n o_blockOpener_given_row_c o_blockOpener_elements_count o_blockOpener_elements_marked o_blockOpener_elements_cells_n o_blockOpener_elements_cells_c o_streamOpener_fault o_streamOpener_place o_streamOpener_next o_streamOpener_type o_streamOpener_body o_streamOpener_size o_streamOpener_given_count o_streamOpener_given_row_n o_streamOpener_given_row_c o_streamOpener_chunks_count o_streamOpener_chunks_marked o_streamOpener_chunks_cells_n o_streamOpener_chunks_cells_c o_keptElements_count o_keptElements_marked o_keptElements_cells_n o_keptElements_cells_c o_keptChunks_count o_keptChunks_marked o_keptChunks_cells_n o_keptChunks_cells_c) o (wF_SnapHouse g h_o h_o_theTape h_o_theTape_row h_o_theOut h_o_theOut_row h_o_presser h_o_presser_block h_o_presser_block_row h_o_presser_slots h_o_streamMaker h_o_streamMaker_made h_o_streamMaker_made_row h_o_blockOpener h_o_blockOpener_given h_o_blockOpener_given_row h_o_blockOpener_elements h_o_blockOpener_elements_cells h_o_streamOpener h_o_streamOpener_given h_o_streamOpener_given_row h_o_streamOpener_chunks h_o_streamOpener_chunks_cells h_o_keptElements h_o_keptElements_cells h_o_keptChunks h_o_keptChunks_cells o_faultNumber o_faultPlace o_faultOfBlock o_faultPlaceInBlock o_theTape_count o_theTape_row_n o_theTape_row_c o_theOut_count o_theOut_row_n o_theOut_row_c o_presser_slotMask o_presser_block_count o_presser_block_row_n o_presser_block_row_c o_presser_slots_n o_presser_slots_c o_streamMaker_made_count o_streamMaker_made_row_n o_streamMaker_made_row_c o_blockOpener_fault o_blockOpener_place o_blockOpener_start o_blockOpener_end o_blockOpener_next o_blockOpener_length o_blockOpener_sort o_blockOpener_body o_blockOpener_size o_blockOpener_back o_blockOpener_given_count o_blockOpener_given_row_n o_blockOpener_given_row_c o_blockOpener_elements_count o_blockOpener_elements_marked o_blockOpener_elements_cells_n o_blockOpener_elements_cells_c o_streamOpener_fault o_streamOpener_place o_streamOpener_next o_streamOpener_type o_streamOpener_body o_streamOpener_size o_streamOpener_given_count o_streamOpener_given_row_n o_streamOpener_given_row_c o_streamOpener_chunks_count o_streamOpener_chunks_marked o_streamOpener_chunks_cells_n o_streamOpener_chunks_cells_c o_keptElements_count o_keptElements_marked o_keptElements_cells_n o_keptElements_cells_c o_keptChunks_count o_keptChunks_marked o_keptChunks_cells_n o_keptChunks_cells_c) 0 0 := by
  refine x_start (cc := cX6_tape) (maxL := 2) (ret := (some .int)) (by decide) rfl (Nat.le_of_ble_eq_true rfl) ?_
  intro p e s m below meth c ls C0 hW hl
  have hl : lv_has ls 2 [(0, .ref h_o), (1, .int p1)] := hl
  unfold f_X6_tape at hF
  refine lv_aload_n C0.x C0.b dX6_tape_0 rfl (lv_at hl 0 rfl) ?_
  refine x_get C0 hW iw_X6 0 rfl rfl 0 (by decide) (List.mem_cons_of_mem _ wl_16) (v := .ref h_o_theTape) rfl dX6_tape_1 ?_
  refine lv_iload_n C0.x C0.b dX6_tape_4 rfl (lv_at hl 1 rfl) ?_
  obtain ⟨r1, e2, hF⟩ := ob hF
  refine go_i C0 hW [1, 2] [0, 3, 4, 5, 6, 7, 8, 9, 10, 11, 12, 13, 14, 15, 16, 17, 18, 19, 20, 21, 22, 23, 24, 25] [0, 24, 25, 1, 2, 3, 4, 5, 6, 7, 8, 9, 10, 11, 12, 13, 14, 15, 16, 17, 18, 19, 20, 21, 22, 23] (va_runV (As := [.int p1]) (rest := []) C0.fix (c_X1_at l g h_o_theTape h_o_theTape_row e2 _) (cwV 1 C0.ts (gw_V wl_205 wl_206 wl_207 wl_15 wl_208) rfl rfl rfl (by decide +kernel) ⟨Nat.le_of_ble_eq_true rfl, Nat.le_of_ble_eq_true rfl⟩) (pcv_of C0 hW [1, 2] rfl (by decide) (q0 := 1) rfl rfl) rfl rfl hl.1 rfl (lv_room (Nat.le_of_ble_eq_true rfl)) dX6_tape_5 ⟨Nat.le_of_ble_eq_true rfl, Nat.le_of_ble_eq_true rfl⟩) rfl rfl (by decide) (by decide) (ws' := (wF_SnapHouse g h_o h_o_theTape h_o_theTape_row h_o_theOut h_o_theOut_row h_o_presser h_o_presser_block h_o_presser_block_row h_o_presser_slots h_o_streamMaker h_o_streamMaker_made h_o_streamMaker_made_row h_o_blockOpener h_o_blockOpener_given h_o_blockOpener_given_row h_o_blockOpener_elements h_o_blockOpener_elements_cells h_o_streamOpener h_o_streamOpener_given h_o_streamOpener_given_row h_o_streamOpener_chunks h_o_streamOpener_chunks_cells h_o_keptElements h_o_keptElements_cells h_o_keptChunks h_o_keptChunks_cells o_faultNumber o_faultPlace o_faultOfBlock o_faultPlaceInBlock o_theTape_count o_theTape_row_n o_theTape_row_c o_theOut_count o_theOut_row_n o_theOut_row_c o_presser_slotMask o_presser_block_count o_presser_block_row_n o_presser_block_row_c o_presser_slots_n o_presser_slots_c o_streamMaker_made_count o_streamMaker_made_row_n o_streamMaker_made_row_c o_blockOpener_fault o_blockOpener_place o_blockOpener_start o_blockOpener_end o_blockOpener_next o_blockOpener_length o_blockOpener_sort o_blockOpener_body o_blockOpener_size o_blockOpener_back o_blockOpener_given_count o_blockOpener_given_row_n o_blockOpener_given_row_c o_blockOpener_elements_count o_blockOpener_elements_marked o_blockOpener_elements_cells_n o_blockOpener_elements_cells_c o_streamOpener_fault o_streamOpener_place o_streamOpener_next o_streamOpener_type o_streamOpener_body o_streamOpener_size o_streamOpener_given_count o_streamOpener_given_row_n o_streamOpener_given_row_c o_streamOpener_chunks_count o_streamOpener_chunks_marked o_streamOpener_chunks_cells_n o_streamOpener_chunks_cells_c o_keptElements_count o_keptElements_marked o_keptElements_cells_n o_keptElements_cells_c o_keptChunks_count o_keptChunks_marked o_keptChunks_cells_n o_keptChunks_cells_c)) rfl (by decide) (fun H locs hW => ?_)
  obtain rfl := Option.some.inj hF
  exact x_iret C0 hW rfl rfl dX6_tape_8

abbrev rm_X2_putLength : Room := { frames := 1, cells := 0, slots := 0, locals := 21 }

set_option maxHeartbeats 4000000 in
set_option maxRecDepth 100000 in
theorem w_X2_putLength_b41 (l : Launch) (g : GX) (h_o h_o_block h_o_block_row h_o_slots : Nat) {K : Nat} {o_block_row_n : Nat} {o_slotMask : Int32} {o_slots_n : Nat} {o_slots_c : Nat → Int32} {p1 : Int32} {o : Int32 × (Nat → Int32)} {wc : va_W} {p : Program} {e : Env} {s : State} {m : MethodId} {args : Array Value} {below : List Frame} {meth : Method} {c : Code} (C0 : bx g p s m meth c args cX2_putLength 4 none yX2_putLength wA_X2_putLength (va_A wc s.heap.size)) :
    ∀ (o_block_count : Int32) (o_block_row_c : Nat → Int32) (x2 : Int32), f_X2_putLength_b41 K o_block_row_n p1 o_block_count o_block_row_c x2 = some o → ∀ (H : Heap) (locs : List Loc) (ls : Array Slot), ww g (va_A wc s.heap.size) s (wF_Presser g h_o h_o_block h_o_block_row h_o_slots o_slotMask o_block_count o_block_row_n o_block_row_c o_slots_n o_slots_c) H locs → lv_has ls 4 [(0, .ref h_o), (2, .int x2)] → W p l e rm_X2_putLength s m args below meth c H locs 0 0 (MQ below (qcV g wc s.heap.size (wF_Presser g h_o h_o_block h_o_block_row h_o_slots o_slotMask o.1 o_block_row_n o.2 o_slots_n o_slots_c)) args s 0 0 (va_A wc s.heap.size)) (F0 m 41 ls []) := by
  intro o_block_count o_block_row_c x2 hF H locs ls hW hl
  unfold f_X2_putLength_b41 at hF
  refine lv_aload_n C0.x C0.b dX2_putLength_41 rfl (lv_at hl 0 rfl) ?_
  refine x_get C0 hW iw_X2 0 rfl rfl 0 (by decide) (List.mem_cons_of_mem _ wl_58) (v := .ref h_o_block) rfl dX2_putLength_42 ?_
  refine lv_iload_n C0.x C0.b dX2_putLength_45 rfl (lv_at hl 1 rfl) ?_
  obtain ⟨r1, e2, hF⟩ := ob hF
  refine go_v C0 hW [1, 2] [0, 3] [0, 2, 3, 1] (va_runV (As := [.int x2]) (rest := []) C0.fix (c_X1_put l g h_o_block h_o_block_row e2 _) (cwV 1 C0.ts (gw_V wl_259 wl_141 wl_142 wl_15 wl_143) rfl rfl rfl (by decide +kernel) ⟨Nat.le_of_ble_eq_true rfl, Nat.le_of_ble_eq_true rfl⟩) (pcv_of C0 hW [1, 2] rfl (by decide) (q0 := 1) rfl rfl) rfl rfl hl.1 rfl (lv_room (Nat.le_of_ble_eq_true rfl)) dX2_putLength_46 ⟨Nat.le_of_ble_eq_true rfl, Nat.le_of_ble_eq_true rfl⟩) rfl rfl (by decide) (by decide) (ws' := (wF_Presser g h_o h_o_block h_o_block_row h_o_slots o_slotMask r1.1 o_block_row_n r1.2 o_slots_n o_slots_c)) rfl (by decide) (fun H locs hW => ?_)
  obtain rfl := Option.some.inj hF
  exact x_vret C0 hW dX2_putLength_49

set_option maxHeartbeats 4000000 in
set_option maxRecDepth 100000 in
theorem w_X2_putLength_b4 (l : Launch) (g : GX) (h_o h_o_block h_o_block_row h_o_slots : Nat) {K : Nat} {o_block_row_n : Nat} {o_slotMask : Int32} {o_slots_n : Nat} {o_slots_c : Nat → Int32} {p1 : Int32} {o : Int32 × (Nat → Int32)} {wc : va_W} {p : Program} {e : Env} {s : State} {m : MethodId} {args : Array Value} {below : List Frame} {meth : Method} {c : Code} (C0 : bx g p s m meth c args cX2_putLength 4 none yX2_putLength wA_X2_putLength (va_A wc s.heap.size)) :
    ∀ (n : Nat) (o_block_count : Int32) (o_block_row_c : Nat → Int32) (x2 : Int32) (x3 : Int32), f_X2_putLength_b4 K o_block_row_n p1 n o_block_count o_block_row_c x2 x3 = some o → ∀ (H : Heap) (locs : List Loc) (ls : Array Slot), ww g (va_A wc s.heap.size) s (wF_Presser g h_o h_o_block h_o_block_row h_o_slots o_slotMask o_block_count o_block_row_n o_block_row_c o_slots_n o_slots_c) H locs → lv_has ls 4 [(0, .ref h_o), (2, .int x2), (3, .int x3)] → W p l e rm_X2_putLength s m args below meth c H locs 0 0 (MQ below (qcV g wc s.heap.size (wF_Presser g h_o h_o_block h_o_block_row h_o_slots o_slotMask o.1 o_block_row_n o.2 o_slots_n o_slots_c)) args s 0 0 (va_A wc s.heap.size)) (F0 m 4 ls []) := by
  intro n
  induction n with
  | zero => intro o_block_count o_block_row_c x2 x3 hF; cases (show (none : Option (Int32 × (Nat → Int32))) = some o from hF)
  | succ n ih =>
    intro o_block_count o_block_row_c x2 x3 hF H locs ls hW hl
    rw [f_X2_putLength_b4] at hF
    refine lv_iload_n C0.x C0.b dX2_putLength_4 rfl (lv_at hl 2 rfl) ?_
    refine lv_iconst (v := (5 : Int32)) C0.x C0.b dX2_putLength_5 (by decide) ?_
    refine lv_icmp_ge (tgt := 41) C0.x C0.b dX2_putLength_6 (by decide) (fun c1 => ?_) (fun c1 => ?_)
    · have hF := it_t hF c1
      exact w_X2_putLength_b41 l g h_o h_o_block h_o_block_row h_o_slots C0 o_block_count o_block_row_c x2 hF _ _ _ hW (lv_sub hl [0, 1] rfl)
    · have hF := it_f hF c1
      refine lv_iload_n C0.x C0.b dX2_putLength_9 rfl (lv_at hl 1 rfl) ?_
      refine lv_bipush (v := (127 : Int32)) C0.x C0.b dX2_putLength_10 (by decide) ?_
      refine lv_icmp_le (tgt := 41) C0.x C0.b dX2_putLength_12 (by decide) (fun c2 => ?_) (fun c2 => ?_)
      · have hF := it_t hF c2
        exact w_X2_putLength_b41 l g h_o h_o_block h_o_block_row h_o_slots C0 o_block_count o_block_row_c x2 hF _ _ _ hW (lv_sub hl [0, 1] rfl)
      · have hF := it_f hF c2
        refine lv_aload_n C0.x C0.b dX2_putLength_15 rfl (lv_at hl 0 rfl) ?_
        refine x_get C0 hW iw_X2 0 rfl rfl 0 (by decide) (List.mem_cons_of_mem _ wl_58) (v := .ref h_o_block) rfl dX2_putLength_16 ?_
        refine lv_iload_n C0.x C0.b dX2_putLength_19 rfl (lv_at hl 1 rfl) ?_
        refine lv_bipush (v := (127 : Int32)) C0.x C0.b dX2_putLength_20 (by decide) ?_
        refine lv_iand C0.x C0.b dX2_putLength_22 ?_
        refine lv_sipush (v := (128 : Int32)) C0.x C0.b dX2_putLength_23 (by decide) ?_
        refine lv_ior C0.x C0.b dX2_putLength_26 ?_
        obtain ⟨r3, e4, hF⟩ := ob hF
        refine go_v C0 hW [1, 2] [0, 3] [0, 2, 3, 1] (va_runV (As := [.int ((x2 &&& (127 : Int32)) ||| (128 : Int32))]) (rest := []) C0.fix (c_X1_put l g h_o_block h_o_block_row e4 _) (cwV 1 C0.ts (gw_V wl_259 wl_141 wl_142 wl_15 wl_143) rfl rfl rfl (by decide +kernel) ⟨Nat.le_of_ble_eq_true rfl, Nat.le_of_ble_eq_true rfl⟩) (pcv_of C0 hW [1, 2] rfl (by decide) (q0 := 1) rfl rfl) rfl rfl hl.1 rfl (lv_room (Nat.le_of_ble_eq_true rfl)) dX2_putLength_27 ⟨Nat.le_of_ble_eq_true rfl, Nat.le_of_ble_eq_true rfl⟩) rfl rfl (by decide) (by decide) (ws' := (wF_Presser g h_o h_o_block h_o_block_row h_o_slots o_slotMask r3.1 o_block_row_n r3.2 o_slots_n o_slots_c)) rfl (by decide) (fun H locs hW => ?_)
        refine lv_iload_n C0.x C0.b dX2_putLength_30 rfl (lv_at hl 1 rfl) ?_
        refine lv_bipush (v := (7 : Int32)) C0.x C0.b dX2_putLength_31 (by decide) ?_
        refine lv_iushr (v := (ushr x2 (7 : Int32))) C0.x C0.b dX2_putLength_33 rfl ?_
        refine lv_istore_n (lv' := [(2, .int (ushr x2 (7 : Int32))), (0, .ref h_o), (3, .int x3)]) C0.x C0.b dX2_putLength_34 rfl hl (by decide) rfl (fun ls hl => ?_)
        refine lv_iinc (v := (x3 + (1 : Int32))) (lv' := [(3, .int (x3 + (1 : Int32))), (2, .int (ushr x2 (7 : Int32))), (0, .ref h_o)]) C0.x C0.b dX2_putLength_35 hl (k := 2) rfl rfl (by decide) rfl (fun ls hl => ?_)
        refine lv_goto (tgt := 4) C0.x C0.b dX2_putLength_38 (by decide) ?_
        exact ih r3.1 r3.2 (ushr x2 (7 : Int32)) (x3 + (1 : Int32)) hF _ _ _ hW (lv_sub hl [2, 1, 0] rfl)

set_option maxHeartbeats 4000000 in
set_option maxRecDepth 100000 in
/-- SnapHouse$Presser.putLength(I)V -/
theorem c_X2_putLength (l : Launch) (g : GX) (h_o h_o_block h_o_block_row h_o_slots : Nat) {K : Nat} (o_slotMask : Int32) (o_slots_n : Nat) (o_slots_c : Nat → Int32) {o_block_count : Int32} {o_block_row_n : Nat} {o_block_row_c : Nat → Int32} {p1 : Int32} {o : Int32 × (Nat → Int32)} (hF : f_X2_putLength K o_block_count o_block_row_n o_block_row_c p1 = some o) : mcV g l yX2_putLength wA_X2_putLength rm_X2_putLength [.ref h_o, .int p1] (wF_Presser g h_o h_o_block h_o_block_row h_o_slots o_slotMask o_block_count o_block_row_n o_block_row_c o_slots_n o_slots_c) (wF_Presser g h_o h_o_block h_o_block_row h_o_slots o_slotMask o.1 o_block_row_n o.2 o_slots_n o_slots_c) 0 0 := by
  refine x_start (cc := cX2_putLength) (maxL := 4) (ret := none) (by decide) rfl (Nat.le_of_ble_eq_true rfl) ?_
  intro p e s m below meth c ls C0 hW hl
  have hl : lv_has ls 4 [(0, .ref h_o), (1, .int p1)] := hl
  unfold f_X2_putLength at hF
  refine lv_iload_n C0.x C0.b dX2_putLength_0 rfl (lv_at hl 1 rfl) ?_
  refine lv_istore_n (lv' := [(2, .int p1), (0, .ref h_o), (1, .int p1)]) C0.x C0.b dX2_putLength_1 rfl hl (by decide) rfl (fun ls hl => ?_)
  refine lv_iconst (v := (0 : Int32)) C0.x C0.b dX2_putLength_2 (by decide) ?_
  refine lv_istore_n (lv' := [(3, .int (0 : Int32)), (2, .int p1), (0, .ref h_o), (1, .int p1)]) C0.x C0.b dX2_putLength_3 rfl hl (by decide) rfl (fun ls hl => ?_)
  exact w_X2_putLength_b4 l g h_o h_o_block h_o_block_row h_o_slots C0 K o_block_count o_block_row_c p1 (0 : Int32) hF _ _ _ hW (lv_sub hl [2, 1, 0] rfl)

abbrev rm_X2_freeSlots : Room := { frames := 0, cells := 0, slots := 0, locals := 0 }

set_option maxHeartbeats 4000000 in
set_option maxRecDepth 100000 in
theorem w_X2_freeSlots_b30 (l : Launch) (g : GX) (h_o h_o_block h_o_block_row h_o_slots : Nat) {K : Nat} {o_slots_n : Nat} {o_block_count : Int32} {o_block_row_n : Nat} {o_block_row_c : Nat → Int32} {p1 : Int32} {o : Int32 × (Nat → Int32)} {wc : va_W} {p : Program} {e : Env} {s : State} {m : MethodId} {args : Array Value} {below : List Frame} {meth : Method} {c : Code} (C0 : bx g p s m meth c args cX2_freeSlots 4 none yX2_freeSlots wA_X2_freeSlots (va_A wc s.heap.size)) :
    ∀ (n : Nat) (o_slotMask : Int32) (o_slots_c : Nat → Int32) (x2 : Int32) (x3 : Int32), f_X2_freeSlots_b30 K o_slots_n p1 n o_slotMask o_slots_c x2 x3 = some o → ∀ (H : Heap) (locs : List Loc) (ls : Array Slot), ww g (va_A wc s.heap.size) s (wF_Presser g h_o h_o_block h_o_block_row h_o_slots o_slotMask o_block_count o_block_row_n o_block_row_c o_slots_n o_slots_c) H locs → lv_has ls 4 [(0, .ref h_o), (2, .int x2), (3, .int x3)] → W p l e rm_X2_freeSlots s m args below meth c H locs 0 0 (MQ below (qcV g wc s.heap.size (wF_Presser g h_o h_o_block h_o_block_row h_o_slots o.1 o_block_count o_block_row_n o_block_row_c o_slots_n o.2)) args s 0 0 (va_A wc s.heap.size)) (F0 m 30 ls []) := by
  intro n
  induction n with
  | zero => intro o_slotMask o_slots_c x2 x3 hF; cases (show (none : Option (Int32 × (Nat → Int32))) = some o from hF)
  | succ n ih =>
    intro o_slotMask o_slots_c x2 x3 hF H locs ls hW hl
    rw [f_X2_freeSlots_b30] at hF
    refine lv_iload_n C0.x C0.b dX2_freeSlots_30 rfl (lv_at hl 2 rfl) ?_
    refine lv_iload_n C0.x C0.b dX2_freeSlots_31 rfl (lv_at hl 1 rfl) ?_
    refine lv_icmp_gt (tgt := 48) C0.x C0.b dX2_freeSlots_32 (by decide) (fun c1 => ?_) (fun c1 => ?_)
    · have hF := it_t hF c1
      refine lv_aload_n C0.x C0.b dX2_freeSlots_48 rfl (lv_at hl 0 rfl) ?_
      refine lv_iload_n C0.x C0.b dX2_freeSlots_49 rfl (lv_at hl 1 rfl) ?_
      refine x_put C0 hW iw_X2 tyX2 tyX2_ok nmX2 0 rfl rfl 2 (by decide) (List.mem_cons_of_mem _ wl_61) rfl (ty := .int) (v := .int x2) (by decide +kernel) rfl rfl (Nat.le_of_ble_eq_true rfl) dX2_freeSlots_50 (ws' := (wF_Presser g h_o h_o_block h_o_block_row h_o_slots x2 o_block_count o_block_row_n o_block_row_c o_slots_n o_slots_c)) rfl (fun H locs hW => ?_)
      obtain rfl := Option.some.inj hF
      exact x_vret C0 hW dX2_freeSlots_53
    · have hF := it_f hF c1
      refine lv_aload_n C0.x C0.b dX2_freeSlots_35 rfl (lv_at hl 0 rfl) ?_
      refine x_get C0 hW iw_X2 0 rfl rfl 1 (by decide) (List.mem_cons_of_mem _ wl_60) (v := .ref h_o_slots) rfl dX2_freeSlots_36 ?_
      refine lv_iload_n C0.x C0.b dX2_freeSlots_39 rfl (lv_at hl 2 rfl) ?_
      refine lv_iconst (v := (0 : Int32)) C0.x C0.b dX2_freeSlots_40 (by decide) ?_
      obtain ⟨h2, hF⟩ := ck_some hF
      refine x_iast C0 hW 3 0 rfl rfl h2 dX2_freeSlots_41 (ws' := (wF_Presser g h_o h_o_block h_o_block_row h_o_slots o_slotMask o_block_count o_block_row_n o_block_row_c o_slots_n (upd o_slots_c x3.toNatClampNeg (0 : Int32)))) rfl (fun H locs hW => ?_)
      refine lv_iinc (v := (x3 + (1 : Int32))) (lv' := [(3, .int (x3 + (1 : Int32))), (0, .ref h_o), (2, .int x2)]) C0.x C0.b dX2_freeSlots_42 hl (k := 2) rfl rfl (by decide) rfl (fun ls hl => ?_)
      refine lv_goto (tgt := 30) C0.x C0.b dX2_freeSlots_45 (by decide) ?_
      exact ih o_slotMask (upd o_slots_c x3.toNatClampNeg (0 : Int32)) x2 (x3 + (1 : Int32)) hF _ _ _ hW (lv_sub hl [1, 2, 0] rfl)

set_option maxHeartbeats 4000000 in
set_option maxRecDepth 100000 in
theorem w_X2_freeSlots_b3 (l : Launch) (g : GX) (h_o h_o_block h_o_block_row h_o_slots : Nat) {K : Nat} {o_slots_n : Nat} {o_block_count : Int32} {o_block_row_n : Nat} {o_block_row_c : Nat → Int32} {p1 : Int32} {o : Int32 × (Nat → Int32)} {wc : va_W} {p : Program} {e : Env} {s : State} {m : MethodId} {args : Array Value} {below : List Frame} {meth : Method} {c : Code} (C0 : bx g p s m meth c args cX2_freeSlots 4 none yX2_freeSlots wA_X2_freeSlots (va_A wc s.heap.size)) :
    ∀ (n : Nat) (o_slotMask : Int32) (o_slots_c : Nat → Int32) (x2 : Int32), f_X2_freeSlots_b3 K o_slots_n p1 n o_slotMask o_slots_c x2 = some o → ∀ (H : Heap) (locs : List Loc) (ls : Array Slot), ww g (va_A wc s.heap.size) s (wF_Presser g h_o h_o_block h_o_block_row h_o_slots o_slotMask o_block_count o_block_row_n o_block_row_c o_slots_n o_slots_c) H locs → lv_has ls 4 [(0, .ref h_o), (1, .int p1), (2, .int x2)] → W p l e rm_X2_freeSlots s m args below meth c H locs 0 0 (MQ below (qcV g wc s.heap.size (wF_Presser g h_o h_o_block h_o_block_row h_o_slots o.1 o_block_count o_block_row_n o_block_row_c o_slots_n o.2)) args s 0 0 (va_A wc s.heap.size)) (F0 m 3 ls []) := by
  intro n
  induction n with
  | zero => intro o_slotMask o_slots_c x2 hF; cases (show (none : Option (Int32 × (Nat → Int32))) = some o from hF)
  | succ n ih =>
    intro o_slotMask o_slots_c x2 hF H locs ls hW hl
    rw [f_X2_freeSlots_b3] at hF
    refine lv_iload_n C0.x C0.b dX2_freeSlots_3 rfl (lv_at hl 2 rfl) ?_
    refine lv_iload_n C0.x C0.b dX2_freeSlots_4 rfl (lv_at hl 1 rfl) ?_
    refine lv_iload_n C0.x C0.b dX2_freeSlots_5 rfl (lv_at hl 1 rfl) ?_
    refine lv_iconst (v := (4 : Int32)) C0.x C0.b dX2_freeSlots_6 (by decide) ?_
    refine lv_idiv C0.x C0.b dX2_freeSlots_7 (by decide) ?_
    refine lv_iadd C0.x C0.b dX2_freeSlots_8 ?_
    refine lv_icmp_ge (tgt := 28) C0.x C0.b dX2_freeSlots_9 (by decide) (fun c1 => ?_) (fun c1 => ?_)
    · have hF := it_t hF c1
      refine lv_iconst (v := (0 : Int32)) C0.x C0.b dX2_freeSlots_28 (by decide) ?_
      refine lv_istore_n (lv' := [(3, .int (0 : Int32)), (0, .ref h_o), (1, .int p1), (2, .int x2)]) C0.x C0.b dX2_freeSlots_29 rfl hl (by decide) rfl (fun ls hl => ?_)
      exact w_X2_freeSlots_b30 l g h_o h_o_block h_o_block_row h_o_slots C0 K o_slotMask o_slots_c x2 (0 : Int32) hF _ _ _ hW (lv_sub hl [1, 3, 0] rfl)
    · have hF := it_f hF c1
      refine lv_iload_n C0.x C0.b dX2_freeSlots_12 rfl (lv_at hl 2 rfl) ?_
      refine lv_sipush (v := (32767 : Int32)) C0.x C0.b dX2_freeSlots_13 (by decide) ?_
      refine lv_icmp_ge (tgt := 28) C0.x C0.b dX2_freeSlots_16 (by decide) (fun c2 => ?_) (fun c2 => ?_)
      · have hF := it_t hF c2
        refine lv_iconst (v := (0 : Int32)) C0.x C0.b dX2_freeSlots_28 (by decide) ?_
        refine lv_istore_n (lv' := [(3, .int (0 : Int32)), (0, .ref h_o), (1, .int p1), (2, .int x2)]) C0.x C0.b dX2_freeSlots_29 rfl hl (by decide) rfl (fun ls hl => ?_)
        exact w_X2_freeSlots_b30 l g h_o h_o_block h_o_block_row h_o_slots C0 K o_slotMask o_slots_c x2 (0 : Int32) hF _ _ _ hW (lv_sub hl [1, 3, 0] rfl)
      · have hF := it_f hF c2
        refine lv_iconst (v := (2 : Int32)) C0.x C0.b dX2_freeSlots_19 (by decide) ?_
        refine lv_iload_n C0.x C0.b dX2_freeSlots_20 rfl (lv_at hl 2 rfl) ?_
        refine lv_imul C0.x C0.b dX2_freeSlots_21 ?_
        refine lv_iconst (v := (1 : Int32)) C0.x C0.b dX2_freeSlots_22 (by decide) ?_
        refine lv_iadd C0.x C0.b dX2_freeSlots_23 ?_
        refine lv_istore_n (lv' := [(2, .int (((2 : Int32) * x2) + (1 : Int32))), (0, .ref h_o), (1, .int p1)]) C0.x C0.b dX2_freeSlots_24 rfl hl (by decide) rfl (fun ls hl => ?_)
        refine lv_goto (tgt := 3) C0.x C0.b dX2_freeSlots_25 (by decide) ?_
        exact ih o_slotMask o_slots_c (((2 : Int32) * x2) + (1 : Int32)) hF _ _ _ hW (lv_sub hl [1, 2, 0] rfl)

set_option maxHeartbeats 4000000 in
set_option maxRecDepth 100000 in
/-- SnapHouse$Presser.freeSlots(I)V -/
theorem c_X2_freeSlots (l : Launch) (g : GX) (h_o h_o_block h_o_block_row h_o_slots : Nat) {K : Nat} (o_block_count : Int32) (o_block_row_n : Nat) (o_block_row_c : Nat → Int32) {o_slotMask : Int32} {o_slots_n : Nat} {o_slots_c : Nat → Int32} {p1 : Int32} {o : Int32 × (Nat → Int32)} (hF : f_X2_freeSlots K o_slotMask o_slots_n o_slots_c p1 = some o) : mcV g l yX2_freeSlots wA_X2_freeSlots rm_X2_freeSlots [.ref h_o, .int p1] (wF_Presser g h_o h_o_block h_o_block_row h_o_slots o_slotMask o_block_count o_block_row_n o_block_row_c o_slots_n o_slots_c) (wF_Presser g h_o h_o_block h_o_block_row h_o_slots o.1 o_block_count o_block_row_n o_block_row_c o_slots_n o.2) 0 0 := by
  refine x_start (cc := cX2_freeSlots) (maxL := 4) (ret := none) (by decide) rfl (Nat.le_of_ble_eq_true rfl) ?_
  intro p e s m below meth c ls C0 hW hl
  have hl : lv_has ls 4 [(0, .ref h_o), (1, .int p1)] := hl
  unfold f_X2_freeSlots at hF
  refine lv_bipush (v := (15 : Int32)) C0.x C0.b dX2_freeSlots_0 (by decide) ?_
  refine lv_istore_n (lv' := [(2, .int (15 : Int32)), (0, .ref h_o), (1, .int p1)]) C0.x C0.b dX2_freeSlots_2 rfl hl (by decide) rfl (fun ls hl => ?_)
  exact w_X2_freeSlots_b3 l g h_o h_o_block h_o_block_row h_o_slots C0 K o_slotMask o_slots_c (15 : Int32) hF _ _ _ hW (lv_sub hl [1, 2, 0] rfl)

abbrev rm_X1_putLowestFirst : Room := { frames := 1, cells := 0, slots := 0, locals := 21 }

set_option maxHeartbeats 4000000 in
set_option maxRecDepth 100000 in
theorem w_X1_putLowestFirst_b2 (l : Launch) (g : GX) (h_o h_o_row : Nat) {K : Nat} {o_row_n : Nat} {p1 : Int32} {p2 : Int32} {o : Int32 × (Nat → Int32)} {wc : va_W} {p : Program} {e : Env} {s : State} {m : MethodId} {args : Array Value} {below : List Frame} {meth : Method} {c : Code} (C0 : bx g p s m meth c args cX1_putLowestFirst 4 none yX1_putLowestFirst wA_X1_putLowestFirst (va_A wc s.heap.size)) :
    ∀ (n : Nat) (o_count : Int32) (o_row_c : Nat → Int32) (x3 : Int32), f_X1_putLowestFirst_b2 K o_row_n p1 p2 n o_count o_row_c x3 = some o → ∀ (H : Heap) (locs : List Loc) (ls : Array Slot), ww g (va_A wc s.heap.size) s (wF_Bytes g h_o h_o_row o_count o_row_n o_row_c) H locs → lv_has ls 4 [(0, .ref h_o), (1, .int p1), (2, .int p2), (3, .int x3)] → W p l e rm_X1_putLowestFirst s m args below meth c H locs 0 0 (MQ below (qcV g wc s.heap.size (wF_Bytes g h_o h_o_row o.1 o_row_n o.2)) args s 0 0 (va_A wc s.heap.size)) (F0 m 2 ls []) := by
  intro n
  induction n with
  | zero => intro o_count o_row_c x3 hF; cases (show (none : Option (Int32 × (Nat → Int32))) = some o from hF)
  | succ n ih =>
    intro o_count o_row_c x3 hF H locs ls hW hl
    rw [f_X1_putLowestFirst_b2] at hF
    refine lv_iload_n C0.x C0.b dX1_putLowestFirst_2 rfl (lv_at hl 3 rfl) ?_
    refine lv_iload_n C0.x C0.b dX1_putLowestFirst_3 rfl (lv_at hl 2 rfl) ?_
    refine lv_icmp_ge (tgt := 27) C0.x C0.b dX1_putLowestFirst_4 (by decide) (fun c1 => ?_) (fun c1 => ?_)
    · have hF := it_t hF c1
      obtain rfl := Option.some.inj hF
      exact x_vret C0 hW dX1_putLowestFirst_27
    · have hF := it_f hF c1
      refine lv_aload_n C0.x C0.b dX1_putLowestFirst_7 rfl (lv_at hl 0 rfl) ?_
      refine lv_iload_n C0.x C0.b dX1_putLowestFirst_8 rfl (lv_at hl 1 rfl) ?_
      refine lv_bipush (v := (8 : Int32)) C0.x C0.b dX1_putLowestFirst_9 (by decide) ?_
      refine lv_iload_n C0.x C0.b dX1_putLowestFirst_11 rfl (lv_at hl 3 rfl) ?_
      refine lv_imul C0.x C0.b dX1_putLowestFirst_12 ?_
      refine lv_iushr (v := (ushr p1 ((8 : Int32) * x3))) C0.x C0.b dX1_putLowestFirst_13 rfl ?_
      refine lv_sipush (v := (255 : Int32)) C0.x C0.b dX1_putLowestFirst_14 (by decide) ?_
      refine lv_iand C0.x C0.b dX1_putLowestFirst_17 ?_
      obtain ⟨r2, e3, hF⟩ := ob hF
      refine go_v C0 hW [0, 1] [] [0, 1] (va_runV (As := [.int ((ushr p1 ((8 : Int32) * x3)) &&& (255 : Int32))]) (rest := []) C0.fix (c_X1_put l g h_o h_o_row e3 _) (cwV 1 C0.ts (gw_V wl_140 wl_141 wl_142 wl_15 wl_143) rfl rfl rfl (by decide +kernel) ⟨Nat.le_of_ble_eq_true rfl, Nat.le_of_ble_eq_true rfl⟩) (pcv_of C0 hW [0, 1] rfl (by decide) (q0 := 0) rfl rfl) rfl rfl hl.1 rfl (lv_room (Nat.le_of_ble_eq_true rfl)) dX1_putLowestFirst_18 ⟨Nat.le_of_ble_eq_true rfl, Nat.le_of_ble_eq_true rfl⟩) rfl rfl (by decide) (by decide) (ws' := (wF_Bytes g h_o h_o_row r2.1 o_row_n r2.2)) rfl (by decide) (fun H locs hW => ?_)
      refine lv_iinc (v := (x3 + (1 : Int32))) (lv' := [(3, .int (x3 + (1 : Int32))), (0, .ref h_o), (1, .int p1), (2, .int p2)]) C0.x C0.b dX1_putLowestFirst_21 hl (k := 3) rfl rfl (by decide) rfl (fun ls hl => ?_)
      refine lv_goto (tgt := 2) C0.x C0.b dX1_putLowestFirst_24 (by decide) ?_
      exact ih r2.1 r2.2 (x3 + (1 : Int32)) hF _ _ _ hW (lv_sub hl [1, 2, 3, 0] rfl)

set_option maxHeartbeats 4000000 in
set_option maxRecDepth 100000 in
/-- SnapHouse$Bytes.putLowestFirst(II)V -/
theorem c_X1_putLowestFirst (l : Launch) (g : GX) (h_o h_o_row : Nat) {K : Nat} {o_count : Int32} {o_row_n : Nat} {o_row_c : Nat → Int32} {p1 : Int32} {p2 : Int32} {o : Int32 × (Nat → Int32)} (hF : f_X1_putLowestFirst K o_count o_row_n o_row_c p1 p2 = some o) : mcV g l yX1_putLowestFirst wA_X1_putLowestFirst rm_X1_putLowestFirst [.ref h_o, .int p1, .int p2] (wF_Bytes g h_o h_o_row o_count o_row_n o_row_c) (wF_Bytes g h_o h_o_row o.1 o_row_n o.2) 0 0 := by
  refine x_start (cc := cX1_putLowestFirst) (maxL := 4) (ret := none) (by decide) rfl (Nat.le_of_ble_eq_true rfl) ?_
  intro p e s m below meth c ls C0 hW hl
  have hl : lv_has ls 4 [(0, .ref h_o), (1, .int p1), (2, .int p2)] := hl
  unfold f_X1_putLowestFirst at hF
  refine lv_iconst (v := (0 : Int32)) C0.x C0.b dX1_putLowestFirst_0 (by decide) ?_
  refine lv_istore_n (lv' := [(3, .int (0 : Int32)), (0, .ref h_o), (1, .int p1), (2, .int p2)]) C0.x C0.b dX1_putLowestFirst_1 rfl hl (by decide) rfl (fun ls hl => ?_)
  exact w_X1_putLowestFirst_b2 l g h_o h_o_row C0 K o_count o_row_c (0 : Int32) hF _ _ _ hW (lv_sub hl [1, 2, 3, 0] rfl)
end
