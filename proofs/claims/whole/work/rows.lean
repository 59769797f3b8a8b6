section
-- ===== PART A: goes FIRST, ahead of the names: the tables' words, and 'selects' of the private methods out of them =====
/-- a private method of a class that the tables say can be made, by its rows of tables_1 -/
def lw_okq (q : MethodName × Nat) : Prop := (q.1.cls ≠ "java/lang/invoke/MethodHandle" ∧ q.1.cls ≠ "java/lang/invoke/VarHandle") ∧ Cond.instantiable q.1.cls q.2 ∈ tables_1 ∧ Cond.privateMethod q.1 ∈ tables_1 ∧ Cond.instanceMethod q.1 ∈ tables_1
theorem lw_p0 : lw_okq (⟨"SnapHouse$Presser", "putLength", "(I)V"⟩, 3) := ⟨⟨by decide +kernel, by decide +kernel⟩, List.mem_of_getElem? (i := 46) (by decide +kernel), List.mem_of_getElem? (i := 318) (by decide +kernel), List.mem_of_getElem? (i := 319) (by decide +kernel)⟩
theorem lw_p1 : lw_okq (⟨"SnapHouse$Presser", "freeSlots", "(I)V"⟩, 3) := ⟨⟨by decide +kernel, by decide +kernel⟩, List.mem_of_getElem? (i := 46) (by decide +kernel), List.mem_of_getElem? (i := 323) (by decide +kernel), List.mem_of_getElem? (i := 324) (by decide +kernel)⟩
theorem lw_p2 : lw_okq (⟨"SnapHouse$Presser", "noteAndFind", "(LSnapHouse$Bytes;I)I"⟩, 3) := ⟨⟨by decide +kernel, by decide +kernel⟩, List.mem_of_getElem? (i := 46) (by decide +kernel), List.mem_of_getElem? (i := 327) (by decide +kernel), List.mem_of_getElem? (i := 328) (by decide +kernel)⟩
theorem lw_p3 : lw_okq (⟨"SnapHouse$Presser", "putLiteral", "(LSnapHouse$Bytes;II)V"⟩, 3) := ⟨⟨by decide +kernel, by decide +kernel⟩, List.mem_of_getElem? (i := 46) (by decide +kernel), List.mem_of_getElem? (i := 340) (by decide +kernel), List.mem_of_getElem? (i := 341) (by decide +kernel)⟩
theorem lw_p4 : lw_okq (⟨"SnapHouse$Presser", "putCopies", "(II)V"⟩, 3) := ⟨⟨by decide +kernel, by decide +kernel⟩, List.mem_of_getElem? (i := 46) (by decide +kernel), List.mem_of_getElem? (i := 349) (by decide +kernel), List.mem_of_getElem? (i := 350) (by decide +kernel)⟩
theorem lw_p5 : lw_okq (⟨"SnapHouse$Presser", "putCopy", "(II)V"⟩, 3) := ⟨⟨by decide +kernel, by decide +kernel⟩, List.mem_of_getElem? (i := 46) (by decide +kernel), List.mem_of_getElem? (i := 353) (by decide +kernel), List.mem_of_getElem? (i := 354) (by decide +kernel)⟩
theorem lw_p6 : lw_okq (⟨"SnapHouse$BlockOpener", "readLength", "(LSnapHouse$Bytes;)V"⟩, 12) := ⟨⟨by decide +kernel, by decide +kernel⟩, List.mem_of_getElem? (i := 80) (by decide +kernel), List.mem_of_getElem? (i := 370) (by decide +kernel), List.mem_of_getElem? (i := 371) (by decide +kernel)⟩
theorem lw_p7 : lw_okq (⟨"SnapHouse$BlockOpener", "fail", "(II)V"⟩, 12) := ⟨⟨by decide +kernel, by decide +kernel⟩, List.mem_of_getElem? (i := 80) (by decide +kernel), List.mem_of_getElem? (i := 376) (by decide +kernel), List.mem_of_getElem? (i := 377) (by decide +kernel)⟩
theorem lw_p8 : lw_okq (⟨"SnapHouse$BlockOpener", "readElement", "(LSnapHouse$Bytes;)V"⟩, 12) := ⟨⟨by decide +kernel, by decide +kernel⟩, List.mem_of_getElem? (i := 80) (by decide +kernel), List.mem_of_getElem? (i := 381) (by decide +kernel), List.mem_of_getElem? (i := 382) (by decide +kernel)⟩
theorem lw_p9 : lw_okq (⟨"SnapHouse$BlockOpener", "checkElement", "()V"⟩, 12) := ⟨⟨by decide +kernel, by decide +kernel⟩, List.mem_of_getElem? (i := 80) (by decide +kernel), List.mem_of_getElem? (i := 399) (by decide +kernel), List.mem_of_getElem? (i := 400) (by decide +kernel)⟩
theorem lw_p10 : lw_okq (⟨"SnapHouse$BlockOpener", "giveElement", "(LSnapHouse$Bytes;)V"⟩, 12) := ⟨⟨by decide +kernel, by decide +kernel⟩, List.mem_of_getElem? (i := 80) (by decide +kernel), List.mem_of_getElem? (i := 403) (by decide +kernel), List.mem_of_getElem? (i := 404) (by decide +kernel)⟩
theorem lw_p11 : lw_okq (⟨"SnapHouse", "keepFault", "(IIII)V"⟩, 12) := ⟨⟨by decide +kernel, by decide +kernel⟩, List.mem_of_getElem? (i := 17) (by decide +kernel), List.mem_of_getElem? (i := 413) (by decide +kernel), List.mem_of_getElem? (i := 414) (by decide +kernel)⟩
theorem lw_p12 : lw_okq (⟨"SnapHouse$StreamMaker", "putHeader", "(II)V"⟩, 1) := ⟨⟨by decide +kernel, by decide +kernel⟩, List.mem_of_getElem? (i := 67) (by decide +kernel), List.mem_of_getElem? (i := 434) (by decide +kernel), List.mem_of_getElem? (i := 435) (by decide +kernel)⟩
theorem lw_p13 : lw_okq (⟨"SnapHouse$StreamMaker", "putPiece", "(LSnapHouse$Bytes;IILSnapHouse$Bytes;)Z"⟩, 1) := ⟨⟨by decide +kernel, by decide +kernel⟩, List.mem_of_getElem? (i := 67) (by decide +kernel), List.mem_of_getElem? (i := 445) (by decide +kernel), List.mem_of_getElem? (i := 446) (by decide +kernel)⟩
theorem lw_p14 : lw_okq (⟨"SnapHouse$StreamOpener", "fail", "(I)V"⟩, 8) := ⟨⟨by decide +kernel, by decide +kernel⟩, List.mem_of_getElem? (i := 149) (by decide +kernel), List.mem_of_getElem? (i := 476) (by decide +kernel), List.mem_of_getElem? (i := 477) (by decide +kernel)⟩
theorem lw_p15 : lw_okq (⟨"SnapHouse$StreamOpener", "readHeader", "(LSnapHouse$Bytes;)V"⟩, 8) := ⟨⟨by decide +kernel, by decide +kernel⟩, List.mem_of_getElem? (i := 149) (by decide +kernel), List.mem_of_getElem? (i := 480) (by decide +kernel), List.mem_of_getElem? (i := 481) (by decide +kernel)⟩
def lw_privs_1 : List (MethodName × Nat) := [(⟨"SnapHouse$Presser", "putLength", "(I)V"⟩, 3), (⟨"SnapHouse$Presser", "freeSlots", "(I)V"⟩, 3), (⟨"SnapHouse$Presser", "noteAndFind", "(LSnapHouse$Bytes;I)I"⟩, 3), (⟨"SnapHouse$Presser", "putLiteral", "(LSnapHouse$Bytes;II)V"⟩, 3), (⟨"SnapHouse$Presser", "putCopies", "(II)V"⟩, 3), (⟨"SnapHouse$Presser", "putCopy", "(II)V"⟩, 3), (⟨"SnapHouse$BlockOpener", "readLength", "(LSnapHouse$Bytes;)V"⟩, 12), (⟨"SnapHouse$BlockOpener", "fail", "(II)V"⟩, 12), (⟨"SnapHouse$BlockOpener", "readElement", "(LSnapHouse$Bytes;)V"⟩, 12), (⟨"SnapHouse$BlockOpener", "checkElement", "()V"⟩, 12), (⟨"SnapHouse$BlockOpener", "giveElement", "(LSnapHouse$Bytes;)V"⟩, 12), (⟨"SnapHouse", "keepFault", "(IIII)V"⟩, 12), (⟨"SnapHouse$StreamMaker", "putHeader", "(II)V"⟩, 1), (⟨"SnapHouse$StreamMaker", "putPiece", "(LSnapHouse$Bytes;IILSnapHouse$Bytes;)Z"⟩, 1), (⟨"SnapHouse$StreamOpener", "fail", "(I)V"⟩, 8), (⟨"SnapHouse$StreamOpener", "readHeader", "(LSnapHouse$Bytes;)V"⟩, 8)]
theorem lw_r1 : ∀ q ∈ lw_privs_1, lw_okq q := List.forall_mem_cons.mpr ⟨lw_p0, List.forall_mem_cons.mpr ⟨lw_p1, List.forall_mem_cons.mpr ⟨lw_p2, List.forall_mem_cons.mpr ⟨lw_p3, List.forall_mem_cons.mpr ⟨lw_p4, List.forall_mem_cons.mpr ⟨lw_p5, List.forall_mem_cons.mpr ⟨lw_p6, List.forall_mem_cons.mpr ⟨lw_p7, List.forall_mem_cons.mpr ⟨lw_p8, List.forall_mem_cons.mpr ⟨lw_p9, List.forall_mem_cons.mpr ⟨lw_p10, List.forall_mem_cons.mpr ⟨lw_p11, List.forall_mem_cons.mpr ⟨lw_p12, List.forall_mem_cons.mpr ⟨lw_p13, List.forall_mem_cons.mpr ⟨lw_p14, List.forall_mem_cons.mpr ⟨lw_p15, fun _ h => absurd h List.not_mem_nil⟩⟩⟩⟩⟩⟩⟩⟩⟩⟩⟩⟩⟩⟩⟩⟩
theorem lw_p16 : lw_okq (⟨"SnapHouse$StreamOpener", "checkChunk", "(LSnapHouse$Bytes;)V"⟩, 8) := ⟨⟨by decide +kernel, by decide +kernel⟩, List.mem_of_getElem? (i := 149) (by decide +kernel), List.mem_of_getElem? (i := 485) (by decide +kernel), List.mem_of_getElem? (i := 486) (by decide +kernel)⟩
theorem lw_p17 : lw_okq (⟨"SnapHouse$StreamOpener", "isName", "(LSnapHouse$Bytes;)Z"⟩, 8) := ⟨⟨by decide +kernel, by decide +kernel⟩, List.mem_of_getElem? (i := 149) (by decide +kernel), List.mem_of_getElem? (i := 489) (by decide +kernel), List.mem_of_getElem? (i := 490) (by decide +kernel)⟩
theorem lw_p18 : lw_okq (⟨"SnapHouse$StreamOpener", "tellsBytes", "()Z"⟩, 8) := ⟨⟨by decide +kernel, by decide +kernel⟩, List.mem_of_getElem? (i := 149) (by decide +kernel), List.mem_of_getElem? (i := 494) (by decide +kernel), List.mem_of_getElem? (i := 495) (by decide +kernel)⟩
theorem lw_p19 : lw_okq (⟨"SnapHouse$StreamOpener", "openBytes", "(LSnapHouse$Bytes;LSnapHouse$BlockOpener;)V"⟩, 8) := ⟨⟨by decide +kernel, by decide +kernel⟩, List.mem_of_getElem? (i := 149) (by decide +kernel), List.mem_of_getElem? (i := 498) (by decide +kernel), List.mem_of_getElem? (i := 499) (by decide +kernel)⟩
theorem lw_p20 : lw_okq (⟨"SnapHouse$StreamOpener", "give", "(LSnapHouse$Bytes;LSnapHouse$Bytes;II)V"⟩, 8) := ⟨⟨by decide +kernel, by decide +kernel⟩, List.mem_of_getElem? (i := 149) (by decide +kernel), List.mem_of_getElem? (i := 502) (by decide +kernel), List.mem_of_getElem? (i := 503) (by decide +kernel)⟩
theorem lw_p21 : lw_okq (⟨"SnapHouse$StreamOpener", "keepChunk", "(I)V"⟩, 8) := ⟨⟨by decide +kernel, by decide +kernel⟩, List.mem_of_getElem? (i := 149) (by decide +kernel), List.mem_of_getElem? (i := 510) (by decide +kernel), List.mem_of_getElem? (i := 511) (by decide +kernel)⟩
theorem lw_p22 : lw_okq (⟨"java/lang/Throwable", "fillInStackTrace", "(I)Ljava/lang/Throwable;"⟩, 6) := ⟨⟨by decide +kernel, by decide +kernel⟩, List.mem_of_getElem? (i := 585) (by decide +kernel), List.mem_of_getElem? (i := 583) (by decide +kernel), List.mem_of_getElem? (i := 584) (by decide +kernel)⟩
theorem lw_p23 : lw_okq (⟨"SnapHouseModel", "word", "(I)V"⟩, 33) := ⟨⟨by decide +kernel, by decide +kernel⟩, List.mem_of_getElem? (i := 615) (by decide +kernel), List.mem_of_getElem? (i := 730) (by decide +kernel), List.mem_of_getElem? (i := 731) (by decide +kernel)⟩
theorem lw_p24 : lw_okq (⟨"SnapHouseModel", "pressPart", "(II)V"⟩, 33) := ⟨⟨by decide +kernel, by decide +kernel⟩, List.mem_of_getElem? (i := 615) (by decide +kernel), List.mem_of_getElem? (i := 766) (by decide +kernel), List.mem_of_getElem? (i := 767) (by decide +kernel)⟩
theorem lw_p25 : lw_okq (⟨"SnapHouseModel", "pack", "(I)V"⟩, 33) := ⟨⟨by decide +kernel, by decide +kernel⟩, List.mem_of_getElem? (i := 615) (by decide +kernel), List.mem_of_getElem? (i := 770) (by decide +kernel), List.mem_of_getElem? (i := 771) (by decide +kernel)⟩
theorem lw_p26 : lw_okq (⟨"SnapHouseModel", "keyOf", "(I)I"⟩, 33) := ⟨⟨by decide +kernel, by decide +kernel⟩, List.mem_of_getElem? (i := 615) (by decide +kernel), List.mem_of_getElem? (i := 774) (by decide +kernel), List.mem_of_getElem? (i := 775) (by decide +kernel)⟩
theorem lw_p27 : lw_okq (⟨"SnapHouseModel", "at", "(I)I"⟩, 33) := ⟨⟨by decide +kernel, by decide +kernel⟩, List.mem_of_getElem? (i := 615) (by decide +kernel), List.mem_of_getElem? (i := 778) (by decide +kernel), List.mem_of_getElem? (i := 779) (by decide +kernel)⟩
theorem lw_p28 : lw_okq (⟨"SnapHouseModel", "areFour", "(II)Z"⟩, 33) := ⟨⟨by decide +kernel, by decide +kernel⟩, List.mem_of_getElem? (i := 615) (by decide +kernel), List.mem_of_getElem? (i := 783) (by decide +kernel), List.mem_of_getElem? (i := 784) (by decide +kernel)⟩
theorem lw_p29 : lw_okq (⟨"SnapHouseModel", "literal", "(II)V"⟩, 33) := ⟨⟨by decide +kernel, by decide +kernel⟩, List.mem_of_getElem? (i := 615) (by decide +kernel), List.mem_of_getElem? (i := 787) (by decide +kernel), List.mem_of_getElem? (i := 788) (by decide +kernel)⟩
theorem lw_p30 : lw_okq (⟨"SnapHouseModel", "copies", "(II)V"⟩, 33) := ⟨⟨by decide +kernel, by decide +kernel⟩, List.mem_of_getElem? (i := 615) (by decide +kernel), List.mem_of_getElem? (i := 792) (by decide +kernel), List.mem_of_getElem? (i := 793) (by decide +kernel)⟩
theorem lw_p31 : lw_okq (⟨"SnapHouseModel", "copyTwo", "(II)V"⟩, 33) := ⟨⟨by decide +kernel, by decide +kernel⟩, List.mem_of_getElem? (i := 615) (by decide +kernel), List.mem_of_getElem? (i := 796) (by decide +kernel), List.mem_of_getElem? (i := 797) (by decide +kernel)⟩
def lw_privs_2 : List (MethodName × Nat) := [(⟨"SnapHouse$StreamOpener", "checkChunk", "(LSnapHouse$Bytes;)V"⟩, 8), (⟨"SnapHouse$StreamOpener", "isName", "(LSnapHouse$Bytes;)Z"⟩, 8), (⟨"SnapHouse$StreamOpener", "tellsBytes", "()Z"⟩, 8), (⟨"SnapHouse$StreamOpener", "openBytes", "(LSnapHouse$Bytes;LSnapHouse$BlockOpener;)V"⟩, 8), (⟨"SnapHouse$StreamOpener", "give", "(LSnapHouse$Bytes;LSnapHouse$Bytes;II)V"⟩, 8), (⟨"SnapHouse$StreamOpener", "keepChunk", "(I)V"⟩, 8), (⟨"java/lang/Throwable", "fillInStackTrace", "(I)Ljava/lang/Throwable;"⟩, 6), (⟨"SnapHouseModel", "word", "(I)V"⟩, 33), (⟨"SnapHouseModel", "pressPart", "(II)V"⟩, 33), (⟨"SnapHouseModel", "pack", "(I)V"⟩, 33), (⟨"SnapHouseModel", "keyOf", "(I)I"⟩, 33), (⟨"SnapHouseModel", "at", "(I)I"⟩, 33), (⟨"SnapHouseModel", "areFour", "(II)Z"⟩, 33), (⟨"SnapHouseModel", "literal", "(II)V"⟩, 33), (⟨"SnapHouseModel", "copies", "(II)V"⟩, 33), (⟨"SnapHouseModel", "copyTwo", "(II)V"⟩, 33)]
theorem lw_r2 : ∀ q ∈ lw_privs_2, lw_okq q := List.forall_mem_cons.mpr ⟨lw_p16, List.forall_mem_cons.mpr ⟨lw_p17, List.forall_mem_cons.mpr ⟨lw_p18, List.forall_mem_cons.mpr ⟨lw_p19, List.forall_mem_cons.mpr ⟨lw_p20, List.forall_mem_cons.mpr ⟨lw_p21, List.forall_mem_cons.mpr ⟨lw_p22, List.forall_mem_cons.mpr ⟨lw_p23, List.forall_mem_cons.mpr ⟨lw_p24, List.forall_mem_cons.mpr ⟨lw_p25, List.forall_mem_cons.mpr ⟨lw_p26, List.forall_mem_cons.mpr ⟨lw_p27, List.forall_mem_cons.mpr ⟨lw_p28, List.forall_mem_cons.mpr ⟨lw_p29, List.forall_mem_cons.mpr ⟨lw_p30, List.forall_mem_cons.mpr ⟨lw_p31, fun _ h => absurd h List.not_mem_nil⟩⟩⟩⟩⟩⟩⟩⟩⟩⟩⟩⟩⟩⟩⟩⟩
theorem lw_p32 : lw_okq (⟨"SnapHouseModel", "give", "([BI)V"⟩, 33) := ⟨⟨by decide +kernel, by decide +kernel⟩, List.mem_of_getElem? (i := 615) (by decide +kernel), List.mem_of_getElem? (i := 800) (by decide +kernel), List.mem_of_getElem? (i := 801) (by decide +kernel)⟩
theorem lw_p33 : lw_okq (⟨"SnapHouseModel", "openPart", "(II)V"⟩, 33) := ⟨⟨by decide +kernel, by decide +kernel⟩, List.mem_of_getElem? (i := 615) (by decide +kernel), List.mem_of_getElem? (i := 808) (by decide +kernel), List.mem_of_getElem? (i := 809) (by decide +kernel)⟩
theorem lw_p34 : lw_okq (⟨"SnapHouseModel", "bad", "(II)V"⟩, 33) := ⟨⟨by decide +kernel, by decide +kernel⟩, List.mem_of_getElem? (i := 615) (by decide +kernel), List.mem_of_getElem? (i := 812) (by decide +kernel), List.mem_of_getElem? (i := 813) (by decide +kernel)⟩
theorem lw_p35 : lw_okq (⟨"SnapHouseModel", "elementAt", "(IIII)I"⟩, 33) := ⟨⟨by decide +kernel, by decide +kernel⟩, List.mem_of_getElem? (i := 615) (by decide +kernel), List.mem_of_getElem? (i := 817) (by decide +kernel), List.mem_of_getElem? (i := 818) (by decide +kernel)⟩
theorem lw_p36 : lw_okq (⟨"SnapHouseModel", "told", "(IIII)V"⟩, 33) := ⟨⟨by decide +kernel, by decide +kernel⟩, List.mem_of_getElem? (i := 615) (by decide +kernel), List.mem_of_getElem? (i := 823) (by decide +kernel), List.mem_of_getElem? (i := 824) (by decide +kernel)⟩
theorem lw_p37 : lw_okq (⟨"SnapHouseModel", "sumOf", "([BII)I"⟩, 33) := ⟨⟨by decide +kernel, by decide +kernel⟩, List.mem_of_getElem? (i := 615) (by decide +kernel), List.mem_of_getElem? (i := 847) (by decide +kernel), List.mem_of_getElem? (i := 848) (by decide +kernel)⟩
theorem lw_p38 : lw_okq (⟨"SnapHouseModel", "masked", "(I)I"⟩, 33) := ⟨⟨by decide +kernel, by decide +kernel⟩, List.mem_of_getElem? (i := 615) (by decide +kernel), List.mem_of_getElem? (i := 851) (by decide +kernel), List.mem_of_getElem? (i := 852) (by decide +kernel)⟩
theorem lw_p39 : lw_okq (⟨"SnapHouseModel", "chunkAt", "(I)I"⟩, 33) := ⟨⟨by decide +kernel, by decide +kernel⟩, List.mem_of_getElem? (i := 615) (by decide +kernel), List.mem_of_getElem? (i := 860) (by decide +kernel), List.mem_of_getElem? (i := 861) (by decide +kernel)⟩
theorem lw_p40 : lw_okq (⟨"SnapHouseModel", "isName", "(I)Z"⟩, 33) := ⟨⟨by decide +kernel, by decide +kernel⟩, List.mem_of_getElem? (i := 615) (by decide +kernel), List.mem_of_getElem? (i := 864) (by decide +kernel), List.mem_of_getElem? (i := 865) (by decide +kernel)⟩
theorem lw_p41 : lw_okq (⟨"SnapHouseModel", "name", "(I)I"⟩, 33) := ⟨⟨by decide +kernel, by decide +kernel⟩, List.mem_of_getElem? (i := 615) (by decide +kernel), List.mem_of_getElem? (i := 868) (by decide +kernel), List.mem_of_getElem? (i := 869) (by decide +kernel)⟩
theorem lw_p42 : lw_okq (⟨"SnapHouseModel", "bytesOf", "(IIII)V"⟩, 33) := ⟨⟨by decide +kernel, by decide +kernel⟩, List.mem_of_getElem? (i := 615) (by decide +kernel), List.mem_of_getElem? (i := 872) (by decide +kernel), List.mem_of_getElem? (i := 873) (by decide +kernel)⟩
theorem lw_p43 : lw_okq (⟨"SnapHouseModel", "fourAt", "(I)I"⟩, 33) := ⟨⟨by decide +kernel, by decide +kernel⟩, List.mem_of_getElem? (i := 615) (by decide +kernel), List.mem_of_getElem? (i := 876) (by decide +kernel), List.mem_of_getElem? (i := 877) (by decide +kernel)⟩
theorem lw_p44 : lw_okq (⟨"SnapHouseModel", "add", "(I)V"⟩, 33) := ⟨⟨by decide +kernel, by decide +kernel⟩, List.mem_of_getElem? (i := 615) (by decide +kernel), List.mem_of_getElem? (i := 884) (by decide +kernel), List.mem_of_getElem? (i := 885) (by decide +kernel)⟩
theorem lw_p45 : lw_okq (⟨"SnapHouseModel", "piece", "(II)V"⟩, 33) := ⟨⟨by decide +kernel, by decide +kernel⟩, List.mem_of_getElem? (i := 615) (by decide +kernel), List.mem_of_getElem? (i := 888) (by decide +kernel), List.mem_of_getElem? (i := 889) (by decide +kernel)⟩
def lw_privs_3 : List (MethodName × Nat) := [(⟨"SnapHouseModel", "give", "([BI)V"⟩, 33), (⟨"SnapHouseModel", "openPart", "(II)V"⟩, 33), (⟨"SnapHouseModel", "bad", "(II)V"⟩, 33), (⟨"SnapHouseModel", "elementAt", "(IIII)I"⟩, 33), (⟨"SnapHouseModel", "told", "(IIII)V"⟩, 33), (⟨"SnapHouseModel", "sumOf", "([BII)I"⟩, 33), (⟨"SnapHouseModel", "masked", "(I)I"⟩, 33), (⟨"SnapHouseModel", "chunkAt", "(I)I"⟩, 33), (⟨"SnapHouseModel", "isName", "(I)Z"⟩, 33), (⟨"SnapHouseModel", "name", "(I)I"⟩, 33), (⟨"SnapHouseModel", "bytesOf", "(IIII)V"⟩, 33), (⟨"SnapHouseModel", "fourAt", "(I)I"⟩, 33), (⟨"SnapHouseModel", "add", "(I)V"⟩, 33), (⟨"SnapHouseModel", "piece", "(II)V"⟩, 33)]
theorem lw_r3 : ∀ q ∈ lw_privs_3, lw_okq q := List.forall_mem_cons.mpr ⟨lw_p32, List.forall_mem_cons.mpr ⟨lw_p33, List.forall_mem_cons.mpr ⟨lw_p34, List.forall_mem_cons.mpr ⟨lw_p35, List.forall_mem_cons.mpr ⟨lw_p36, List.forall_mem_cons.mpr ⟨lw_p37, List.forall_mem_cons.mpr ⟨lw_p38, List.forall_mem_cons.mpr ⟨lw_p39, List.forall_mem_cons.mpr ⟨lw_p40, List.forall_mem_cons.mpr ⟨lw_p41, List.forall_mem_cons.mpr ⟨lw_p42, List.forall_mem_cons.mpr ⟨lw_p43, List.forall_mem_cons.mpr ⟨lw_p44, List.forall_mem_cons.mpr ⟨lw_p45, fun _ h => absurd h List.not_mem_nil⟩⟩⟩⟩⟩⟩⟩⟩⟩⟩⟩⟩⟩⟩
def lw_privs : List (MethodName × Nat) := lw_privs_1 ++ (lw_privs_2 ++ (lw_privs_3))
def lw_tbl : List Cond := k2_sels lw_privs ++ tables_1
theorem lw_privs_ok : ∀ q ∈ lw_privs, lw_okq q := by
  show ∀ q ∈ lw_privs_1 ++ (lw_privs_2 ++ (lw_privs_3)), lw_okq q
  exact List.forall_mem_append.mpr ⟨lw_r1, List.forall_mem_append.mpr ⟨lw_r2, lw_r3⟩⟩
end
section
/-! ===== BEGIN words of one list among another's, by their places ===== -/
theorem goodIn_r {big : List Cond} (ws : List Cond) (ps : List Nat) (hp : ws = ps.filterMap (fun i => big[i]?)) (h : ws.all goodWord = true) : GoodIn big ws := by
  intro w hw
  have h1 := List.all_eq_true.mp h w hw
  rw [hp] at hw
  obtain ⟨i, -, hi⟩ := List.mem_filterMap.mp hw
  have hm : w ∈ big := by first | exact List.mem_of_getElem? hi | exact List.getElem?_mem hi
  exact ⟨hm, good_of_word h1⟩
theorem goodIn_app {big a b : List Cond} (ha : GoodIn big a) (hb : GoodIn big b) : GoodIn big (a ++ b) := fun w h => (List.mem_append.mp h).elim (ha w) (hb w)
theorem goodIn_ca {big a b : List Cond} {c : Cond} (ha : GoodIn big (c :: a)) (hb : GoodIn big b) : GoodIn big (c :: (a ++ b)) := fun w h => (List.mem_cons.mp h).elim (fun e => ha w (List.mem_cons.mpr (Or.inl e))) (fun h => (List.mem_append.mp h).elim (fun h => ha w (List.mem_cons.mpr (Or.inr h))) (hb w))
theorem goodIn_sub {big ws : List Cond} (hm : ∀ w ∈ ws, w ∈ big) (h : ws.all goodWord = true) : GoodIn big ws := fun w hw => ⟨hm w hw, good_of_word (List.all_eq_true.mp h w hw)⟩
/-! ===== END ===== -/
end
section
/-! ===== BEGIN printed: names, fields, word lists, decode rows ===== -/
def RX0 : String := "SnapHouse$BlockOpener"
def TX0 : u_T := fun k => match k with
  | 0 => ("SnapHouse$BlockOpener", "given", "LSnapHouse$Bytes;", true)
  | 1 => ("SnapHouse$BlockOpener", "elements", "LSnapHouse$Rows;", true)
  | 2 => ("SnapHouse$BlockOpener", "fault", "I", false)
  | 3 => ("SnapHouse$BlockOpener", "place", "I", false)
  | 4 => ("SnapHouse$BlockOpener", "start", "I", false)
  | 5 => ("SnapHouse$BlockOpener", "end", "I", false)
  | 6 => ("SnapHouse$BlockOpener", "next", "I", false)
  | 7 => ("SnapHouse$BlockOpener", "length", "I", false)
  | 8 => ("SnapHouse$BlockOpener", "sort", "I", false)
  | 9 => ("SnapHouse$BlockOpener", "body", "I", false)
  | 10 => ("SnapHouse$BlockOpener", "size", "J", false)
  | _ => ("SnapHouse$BlockOpener", "back", "J", false)
def tyX0 : Nat → FieldType := fun k => match k with
  | 0 => .object "SnapHouse$Bytes"
  | 1 => .object "SnapHouse$Rows"
  | 2 => .int
  | 3 => .int
  | 4 => .int
  | 5 => .int
  | 6 => .int
  | 7 => .int
  | 8 => .int
  | 9 => .int
  | 10 => .long
  | _ => .long
abbrev wsX00 : List Cond := u_ws RX0 TX0 12
theorem nmX0 : ∀ a, a < 12 → ∀ b, b < 12 → a ≠ b → (TX0 a).2.1 ≠ (TX0 b).2.1 := by decide +kernel
theorem tyX0_ok : ∀ k, k < 12 → parseFieldDescriptor (TX0 k).2.2.1 = some (tyX0 k) := by decide +kernel
abbrev cX0_init : ByteArray := prog_2_method_1_code
def yX0_init : MethodName := ⟨RX0, "<init>", "()V"⟩
abbrev cX0_openBlock : ByteArray := prog_2_method_2_code
def yX0_openBlock : MethodName := ⟨RX0, "openBlock", "(LSnapHouse$Bytes;II)V"⟩
abbrev cX0_fail : ByteArray := prog_2_method_3_code
def yX0_fail : MethodName := ⟨RX0, "fail", "(II)V"⟩
abbrev cX0_readLength : ByteArray := prog_2_method_4_code
def yX0_readLength : MethodName := ⟨RX0, "readLength", "(LSnapHouse$Bytes;)V"⟩
abbrev cX0_readElement : ByteArray := prog_2_method_5_code
def yX0_readElement : MethodName := ⟨RX0, "readElement", "(LSnapHouse$Bytes;)V"⟩
abbrev cX0_bytesBehindTag : ByteArray := prog_2_method_6_code
def yX0_bytesBehindTag : MethodName := ⟨RX0, "bytesBehindTag", "(II)I"⟩
abbrev cX0_sizeOf : ByteArray := prog_2_method_7_code
def yX0_sizeOf : MethodName := ⟨RX0, "sizeOf", "(IIJ)J"⟩
abbrev cX0_backOf : ByteArray := prog_2_method_8_code
def yX0_backOf : MethodName := ⟨RX0, "backOf", "(IIJ)J"⟩
abbrev cX0_checkElement : ByteArray := prog_2_method_9_code
def yX0_checkElement : MethodName := ⟨RX0, "checkElement", "()V"⟩
abbrev cX0_giveElement : ByteArray := prog_2_method_10_code
def yX0_giveElement : MethodName := ⟨RX0, "giveElement", "(LSnapHouse$Bytes;)V"⟩
def RX1 : String := "SnapHouse$Bytes"
def TX1 : u_T := fun k => match k with
  | 0 => ("SnapHouse$Bytes", "row", "[I", true)
  | _ => ("SnapHouse$Bytes", "count", "I", false)
def tyX1 : Nat → FieldType := fun k => match k with
  | 0 => .array .int
  | _ => .int
abbrev wsX10 : List Cond := u_ws RX1 TX1 2
theorem nmX1 : ∀ a, a < 2 → ∀ b, b < 2 → a ≠ b → (TX1 a).2.1 ≠ (TX1 b).2.1 := by decide +kernel
theorem tyX1_ok : ∀ k, k < 2 → parseFieldDescriptor (TX1 k).2.2.1 = some (tyX1 k) := by decide +kernel
abbrev cX1_init : ByteArray := prog_3_method_1_code
def yX1_init : MethodName := ⟨RX1, "<init>", "(I)V"⟩
abbrev cX1_hasRoomFor : ByteArray := prog_3_method_2_code
def yX1_hasRoomFor : MethodName := ⟨RX1, "hasRoomFor", "(I)Z"⟩
abbrev cX1_hasPlace : ByteArray := prog_3_method_3_code
def yX1_hasPlace : MethodName := ⟨RX1, "hasPlace", "(I)Z"⟩
abbrev cX1_has : ByteArray := prog_3_method_4_code
def yX1_has : MethodName := ⟨RX1, "has", "(II)Z"⟩
abbrev cX1_at : ByteArray := prog_3_method_5_code
def yX1_at : MethodName := ⟨RX1, "at", "(I)I"⟩
abbrev cX1_change : ByteArray := prog_3_method_6_code
def yX1_change : MethodName := ⟨RX1, "change", "(II)V"⟩
abbrev cX1_shorten : ByteArray := prog_3_method_7_code
def yX1_shorten : MethodName := ⟨RX1, "shorten", "(I)V"⟩
abbrev cX1_put : ByteArray := prog_3_method_8_code
def yX1_put : MethodName := ⟨RX1, "put", "(I)V"⟩
abbrev cX1_putHighestFirst : ByteArray := prog_3_method_9_code
def yX1_putHighestFirst : MethodName := ⟨RX1, "putHighestFirst", "(I)V"⟩
abbrev cX1_putLowestFirst : ByteArray := prog_3_method_10_code
def yX1_putLowestFirst : MethodName := ⟨RX1, "putLowestFirst", "(II)V"⟩
abbrev cX1_putAll : ByteArray := prog_3_method_11_code
def yX1_putAll : MethodName := ⟨RX1, "putAll", "(LSnapHouse$Bytes;II)V"⟩
abbrev cX1_putOwn : ByteArray := prog_3_method_12_code
def yX1_putOwn : MethodName := ⟨RX1, "putOwn", "(II)V"⟩
abbrev cX1_become : ByteArray := prog_3_method_13_code
def yX1_become : MethodName := ⟨RX1, "become", "(LSnapHouse$Bytes;)V"⟩
abbrev cX1_lowestFirst : ByteArray := prog_3_method_14_code
def yX1_lowestFirst : MethodName := ⟨RX1, "lowestFirst", "(II)J"⟩
abbrev cX1_fourFrom : ByteArray := prog_3_method_15_code
def yX1_fourFrom : MethodName := ⟨RX1, "fourFrom", "(I)I"⟩
abbrev cX1_crc : ByteArray := prog_3_method_16_code
def yX1_crc : MethodName := ⟨RX1, "crc", "(II)I"⟩
abbrev cX1_maskedCrc : ByteArray := prog_3_method_17_code
def yX1_maskedCrc : MethodName := ⟨RX1, "maskedCrc", "(II)I"⟩
def RX2 : String := "SnapHouse$Presser"
def TX2 : u_T := fun k => match k with
  | 0 => ("SnapHouse$Presser", "block", "LSnapHouse$Bytes;", true)
  | 1 => ("SnapHouse$Presser", "slots", "[I", true)
  | _ => ("SnapHouse$Presser", "slotMask", "I", false)
def tyX2 : Nat → FieldType := fun k => match k with
  | 0 => .object "SnapHouse$Bytes"
  | 1 => .array .int
  | _ => .int
abbrev wsX20 : List Cond := u_ws RX2 TX2 3
theorem nmX2 : ∀ a, a < 3 → ∀ b, b < 3 → a ≠ b → (TX2 a).2.1 ≠ (TX2 b).2.1 := by decide +kernel
theorem tyX2_ok : ∀ k, k < 3 → parseFieldDescriptor (TX2 k).2.2.1 = some (tyX2 k) := by decide +kernel
abbrev cX2_init : ByteArray := prog_4_method_1_code
def yX2_init : MethodName := ⟨RX2, "<init>", "()V"⟩
abbrev cX2_pressBlock : ByteArray := prog_4_method_2_code
def yX2_pressBlock : MethodName := ⟨RX2, "pressBlock", "(LSnapHouse$Bytes;II)V"⟩
abbrev cX2_putLength : ByteArray := prog_4_method_3_code
def yX2_putLength : MethodName := ⟨RX2, "putLength", "(I)V"⟩
abbrev cX2_freeSlots : ByteArray := prog_4_method_4_code
def yX2_freeSlots : MethodName := ⟨RX2, "freeSlots", "(I)V"⟩
abbrev cX2_noteAndFind : ByteArray := prog_4_method_5_code
def yX2_noteAndFind : MethodName := ⟨RX2, "noteAndFind", "(LSnapHouse$Bytes;I)I"⟩
abbrev cX2_countAlike : ByteArray := prog_4_method_6_code
def yX2_countAlike : MethodName := ⟨RX2, "countAlike", "(LSnapHouse$Bytes;III)I"⟩
abbrev cX2_putLiteral : ByteArray := prog_4_method_7_code
def yX2_putLiteral : MethodName := ⟨RX2, "putLiteral", "(LSnapHouse$Bytes;II)V"⟩
abbrev cX2_putCopies : ByteArray := prog_4_method_8_code
def yX2_putCopies : MethodName := ⟨RX2, "putCopies", "(II)V"⟩
abbrev cX2_putCopy : ByteArray := prog_4_method_9_code
def yX2_putCopy : MethodName := ⟨RX2, "putCopy", "(II)V"⟩
def RX3 : String := "SnapHouse$Rows"
def TX3 : u_T := fun k => match k with
  | 0 => ("SnapHouse$Rows", "cells", "[I", true)
  | 1 => ("SnapHouse$Rows", "count", "I", false)
  | _ => ("SnapHouse$Rows", "marked", "I", false)
def tyX3 : Nat → FieldType := fun k => match k with
  | 0 => .array .int
  | 1 => .int
  | _ => .int
abbrev wsX30 : List Cond := u_ws RX3 TX3 3
theorem nmX3 : ∀ a, a < 3 → ∀ b, b < 3 → a ≠ b → (TX3 a).2.1 ≠ (TX3 b).2.1 := by decide +kernel
theorem tyX3_ok : ∀ k, k < 3 → parseFieldDescriptor (TX3 k).2.2.1 = some (tyX3 k) := by decide +kernel
abbrev cX3_init : ByteArray := prog_5_method_1_code
def yX3_init : MethodName := ⟨RX3, "<init>", "()V"⟩
abbrev cX3_clear : ByteArray := prog_5_method_2_code
def yX3_clear : MethodName := ⟨RX3, "clear", "()V"⟩
abbrev cX3_add : ByteArray := prog_5_method_3_code
def yX3_add : MethodName := ⟨RX3, "add", "(IIIIIZ)V"⟩
abbrev cX3_cell : ByteArray := prog_5_method_4_code
def yX3_cell : MethodName := ⟨RX3, "cell", "(II)I"⟩
abbrev cX3_become : ByteArray := prog_5_method_5_code
def yX3_become : MethodName := ⟨RX3, "become", "(LSnapHouse$Rows;)V"⟩
def RX4 : String := "SnapHouse$StreamMaker"
def TX4 : u_T := fun k => match k with
  | _ => ("SnapHouse$StreamMaker", "made", "LSnapHouse$Bytes;", true)
def tyX4 : Nat → FieldType := fun k => match k with
  | _ => .object "SnapHouse$Bytes"
abbrev wsX40 : List Cond := u_ws RX4 TX4 1
theorem nmX4 : ∀ a, a < 1 → ∀ b, b < 1 → a ≠ b → (TX4 a).2.1 ≠ (TX4 b).2.1 := by decide +kernel
theorem tyX4_ok : ∀ k, k < 1 → parseFieldDescriptor (TX4 k).2.2.1 = some (tyX4 k) := by decide +kernel
abbrev cX4_init : ByteArray := prog_6_method_1_code
def yX4_init : MethodName := ⟨RX4, "<init>", "()V"⟩
abbrev cX4_makeStream : ByteArray := prog_6_method_2_code
def yX4_makeStream : MethodName := ⟨RX4, "makeStream", "(LSnapHouse$Bytes;ILSnapHouse$Presser;)Z"⟩
abbrev cX4_putPiece : ByteArray := prog_6_method_3_code
def yX4_putPiece : MethodName := ⟨RX4, "putPiece", "(LSnapHouse$Bytes;IILSnapHouse$Bytes;)Z"⟩
abbrev cX4_putHeader : ByteArray := prog_6_method_4_code
def yX4_putHeader : MethodName := ⟨RX4, "putHeader", "(II)V"⟩
def RX5 : String := "SnapHouse$StreamOpener"
def TX5 : u_T := fun k => match k with
  | 0 => ("SnapHouse$StreamOpener", "given", "LSnapHouse$Bytes;", true)
  | 1 => ("SnapHouse$StreamOpener", "chunks", "LSnapHouse$Rows;", true)
  | 2 => ("SnapHouse$StreamOpener", "fault", "I", false)
  | 3 => ("SnapHouse$StreamOpener", "place", "I", false)
  | 4 => ("SnapHouse$StreamOpener", "next", "I", false)
  | 5 => ("SnapHouse$StreamOpener", "type", "I", false)
  | 6 => ("SnapHouse$StreamOpener", "body", "I", false)
  | _ => ("SnapHouse$StreamOpener", "size", "I", false)
def tyX5 : Nat → FieldType := fun k => match k with
  | 0 => .object "SnapHouse$Bytes"
  | 1 => .object "SnapHouse$Rows"
  | 2 => .int
  | 3 => .int
  | 4 => .int
  | 5 => .int
  | 6 => .int
  | _ => .int
abbrev wsX50 : List Cond := u_ws RX5 TX5 8
theorem nmX5 : ∀ a, a < 8 → ∀ b, b < 8 → a ≠ b → (TX5 a).2.1 ≠ (TX5 b).2.1 := by decide +kernel
theorem tyX5_ok : ∀ k, k < 8 → parseFieldDescriptor (TX5 k).2.2.1 = some (tyX5 k) := by decide +kernel
abbrev cX5_init : ByteArray := prog_7_method_1_code
def yX5_init : MethodName := ⟨RX5, "<init>", "()V"⟩
abbrev cX5_openStream : ByteArray := prog_7_method_2_code
def yX5_openStream : MethodName := ⟨RX5, "openStream", "(LSnapHouse$Bytes;LSnapHouse$BlockOpener;)V"⟩
abbrev cX5_fail : ByteArray := prog_7_method_3_code
def yX5_fail : MethodName := ⟨RX5, "fail", "(I)V"⟩
abbrev cX5_readHeader : ByteArray := prog_7_method_4_code
def yX5_readHeader : MethodName := ⟨RX5, "readHeader", "(LSnapHouse$Bytes;)V"⟩
abbrev cX5_tellsBytes : ByteArray := prog_7_method_5_code
def yX5_tellsBytes : MethodName := ⟨RX5, "tellsBytes", "()Z"⟩
abbrev cX5_checkChunk : ByteArray := prog_7_method_6_code
def yX5_checkChunk : MethodName := ⟨RX5, "checkChunk", "(LSnapHouse$Bytes;)V"⟩
abbrev cX5_isName : ByteArray := prog_7_method_7_code
def yX5_isName : MethodName := ⟨RX5, "isName", "(LSnapHouse$Bytes;)Z"⟩
abbrev cX5_openBytes : ByteArray := prog_7_method_8_code
def yX5_openBytes : MethodName := ⟨RX5, "openBytes", "(LSnapHouse$Bytes;LSnapHouse$BlockOpener;)V"⟩
abbrev cX5_give : ByteArray := prog_7_method_9_code
def yX5_give : MethodName := ⟨RX5, "give", "(LSnapHouse$Bytes;LSnapHouse$Bytes;II)V"⟩
abbrev cX5_keepChunk : ByteArray := prog_7_method_10_code
def yX5_keepChunk : MethodName := ⟨RX5, "keepChunk", "(I)V"⟩
def RX6 : String := "SnapHouse"
def TX6 : u_T := fun k => match k with
  | 0 => ("SnapHouse", "theTape", "LSnapHouse$Bytes;", true)
  | 1 => ("SnapHouse", "theOut", "LSnapHouse$Bytes;", true)
  | 2 => ("SnapHouse", "presser", "LSnapHouse$Presser;", true)
  | 3 => ("SnapHouse", "streamMaker", "LSnapHouse$StreamMaker;", true)
  | 4 => ("SnapHouse", "blockOpener", "LSnapHouse$BlockOpener;", true)
  | 5 => ("SnapHouse", "streamOpener", "LSnapHouse$StreamOpener;", true)
  | 6 => ("SnapHouse", "keptElements", "LSnapHouse$Rows;", true)
  | 7 => ("SnapHouse", "keptChunks", "LSnapHouse$Rows;", true)
  | 8 => ("SnapHouse", "faultNumber", "I", false)
  | 9 => ("SnapHouse", "faultPlace", "I", false)
  | 10 => ("SnapHouse", "faultOfBlock", "I", false)
  | _ => ("SnapHouse", "faultPlaceInBlock", "I", false)
def tyX6 : Nat → FieldType := fun k => match k with
  | 0 => .object "SnapHouse$Bytes"
  | 1 => .object "SnapHouse$Bytes"
  | 2 => .object "SnapHouse$Presser"
  | 3 => .object "SnapHouse$StreamMaker"
  | 4 => .object "SnapHouse$BlockOpener"
  | 5 => .object "SnapHouse$StreamOpener"
  | 6 => .object "SnapHouse$Rows"
  | 7 => .object "SnapHouse$Rows"
  | 8 => .int
  | 9 => .int
  | 10 => .int
  | _ => .int
abbrev wsX60 : List Cond := u_ws RX6 TX6 12
theorem nmX6 : ∀ a, a < 12 → ∀ b, b < 12 → a ≠ b → (TX6 a).2.1 ≠ (TX6 b).2.1 := by decide +kernel
theorem tyX6_ok : ∀ k, k < 12 → parseFieldDescriptor (TX6 k).2.2.1 = some (tyX6 k) := by decide +kernel
abbrev cX6_init : ByteArray := prog_1_method_1_code
def yX6_init : MethodName := ⟨RX6, "<init>", "()V"⟩
abbrev cX6_feed : ByteArray := prog_1_method_2_code
def yX6_feed : MethodName := ⟨RX6, "feed", "(IIIII)I"⟩
abbrev cX6_fill : ByteArray := prog_1_method_3_code
def yX6_fill : MethodName := ⟨RX6, "fill", "(II)I"⟩
abbrev cX6_again : ByteArray := prog_1_method_4_code
def yX6_again : MethodName := ⟨RX6, "again", "(II)I"⟩
abbrev cX6_cut : ByteArray := prog_1_method_5_code
def yX6_cut : MethodName := ⟨RX6, "cut", "(I)I"⟩
abbrev cX6_set : ByteArray := prog_1_method_6_code
def yX6_set : MethodName := ⟨RX6, "set", "(II)I"⟩
abbrev cX6_take : ByteArray := prog_1_method_7_code
def yX6_take : MethodName := ⟨RX6, "take", "()I"⟩
abbrev cX6_tape : ByteArray := prog_1_method_8_code
def yX6_tape : MethodName := ⟨RX6, "tape", "(I)I"⟩
abbrev cX6_press : ByteArray := prog_1_method_9_code
def yX6_press : MethodName := ⟨RX6, "press", "()I"⟩
abbrev cX6_open : ByteArray := prog_1_method_10_code
def yX6_open : MethodName := ⟨RX6, "open", "()I"⟩
abbrev cX6_stream : ByteArray := prog_1_method_11_code
def yX6_stream : MethodName := ⟨RX6, "stream", "(I)I"⟩
abbrev cX6_unstream : ByteArray := prog_1_method_12_code
def yX6_unstream : MethodName := ⟨RX6, "unstream", "()I"⟩
abbrev cX6_fault : ByteArray := prog_1_method_13_code
def yX6_fault : MethodName := ⟨RX6, "fault", "(I)I"⟩
abbrev cX6_element : ByteArray := prog_1_method_14_code
def yX6_element : MethodName := ⟨RX6, "element", "(II)I"⟩
abbrev cX6_chunk : ByteArray := prog_1_method_15_code
def yX6_chunk : MethodName := ⟨RX6, "chunk", "(II)I"⟩
abbrev cX6_sum : ByteArray := prog_1_method_16_code
def yX6_sum : MethodName := ⟨RX6, "sum", "(IIZ)I"⟩
abbrev cX6_out : ByteArray := prog_1_method_17_code
def yX6_out : MethodName := ⟨RX6, "out", "(I)I"⟩
abbrev cX6_about : ByteArray := prog_1_method_18_code
def yX6_about : MethodName := ⟨RX6, "about", "(I)I"⟩
abbrev cX6_isByte : ByteArray := prog_1_method_19_code
def yX6_isByte : MethodName := ⟨RX6, "isByte", "(I)Z"⟩
abbrev cX6_keepFault : ByteArray := prog_1_method_20_code
def yX6_keepFault : MethodName := ⟨RX6, "keepFault", "(IIII)V"⟩
def RX7 : String := "SnapHouseModel"
def TX7 : u_T := fun k => match k with
  | 0 => ("SnapHouseModel", "tape", "[B", true)
  | 1 => ("SnapHouseModel", "out", "[B", true)
  | 2 => ("SnapHouseModel", "made", "[B", true)
  | 3 => ("SnapHouseModel", "packed", "[B", true)
  | 4 => ("SnapHouseModel", "taped", "I", false)
  | 5 => ("SnapHouseModel", "outs", "I", false)
  | 6 => ("SnapHouseModel", "mades", "I", false)
  | 7 => ("SnapHouseModel", "packs", "I", false)
  | 8 => ("SnapHouseModel", "thrown", "I", false)
  | 9 => ("SnapHouseModel", "latest", "[I", true)
  | 10 => ("SnapHouseModel", "ahead", "[I", true)
  | 11 => ("SnapHouseModel", "blockFault", "I", false)
  | 12 => ("SnapHouseModel", "blockPlace", "I", false)
  | 13 => ("SnapHouseModel", "opened", "I", false)
  | 14 => ("SnapHouseModel", "literals", "I", false)
  | 15 => ("SnapHouseModel", "notes", "[I", true)
  | 16 => ("SnapHouseModel", "wanted", "I", false)
  | 17 => ("SnapHouseModel", "elements", "[I", true)
  | 18 => ("SnapHouseModel", "chunks", "[I", true)
  | 19 => ("SnapHouseModel", "elementMany", "I", false)
  | 20 => ("SnapHouseModel", "literalMany", "I", false)
  | 21 => ("SnapHouseModel", "chunkMany", "I", false)
  | 22 => ("SnapHouseModel", "skippedMany", "I", false)
  | 23 => ("SnapHouseModel", "faultNumber", "I", false)
  | 24 => ("SnapHouseModel", "faultPlace", "I", false)
  | 25 => ("SnapHouseModel", "faultInner", "I", false)
  | 26 => ("SnapHouseModel", "faultInnerPlace", "I", false)
  | 27 => ("SnapHouseModel", "sums", "[I", true)
  | 28 => ("SnapHouseModel", "found", "[I", true)
  | 29 => ("SnapHouseModel", "foundMany", "I", false)
  | 30 => ("SnapHouseModel", "skips", "I", false)
  | 31 => ("SnapHouseModel", "before", "[B", true)
  | _ => ("SnapHouseModel", "isFull", "Z", false)
def tyX7 : Nat → FieldType := fun k => match k with
  | 0 => .array .byte
  | 1 => .array .byte
  | 2 => .array .byte
  | 3 => .array .byte
  | 4 => .int
  | 5 => .int
  | 6 => .int
  | 7 => .int
  | 8 => .int
  | 9 => .array .int
  | 10 => .array .int
  | 11 => .int
  | 12 => .int
  | 13 => .int
  | 14 => .int
  | 15 => .array .int
  | 16 => .int
  | 17 => .array .int
  | 18 => .array .int
  | 19 => .int
  | 20 => .int
  | 21 => .int
  | 22 => .int
  | 23 => .int
  | 24 => .int
  | 25 => .int
  | 26 => .int
  | 27 => .array .int
  | 28 => .array .int
  | 29 => .int
  | 30 => .int
  | 31 => .array .byte
  | _ => .boolean
abbrev wsX70 : List Cond := u_ws RX7 TX7 33
theorem nmX7 : ∀ a, a < 33 → ∀ b, b < 33 → a ≠ b → (TX7 a).2.1 ≠ (TX7 b).2.1 := by decide +kernel
theorem tyX7_ok : ∀ k, k < 33 → parseFieldDescriptor (TX7 k).2.2.1 = some (tyX7 k) := by decide +kernel
abbrev cX7_init : ByteArray := prog_9_method_1_code
def yX7_init : MethodName := ⟨RX7, "<init>", "()V"⟩
abbrev cX7_thrown : ByteArray := prog_9_method_2_code
def yX7_thrown : MethodName := ⟨RX7, "thrown", "()I"⟩
abbrev cX7_feed : ByteArray := prog_9_method_3_code
def yX7_feed : MethodName := ⟨RX7, "feed", "(IIIII)I"⟩
abbrev cX7_word : ByteArray := prog_9_method_4_code
def yX7_word : MethodName := ⟨RX7, "word", "(I)V"⟩
abbrev cX7_fill : ByteArray := prog_9_method_5_code
def yX7_fill : MethodName := ⟨RX7, "fill", "(II)I"⟩
abbrev cX7_again : ByteArray := prog_9_method_6_code
def yX7_again : MethodName := ⟨RX7, "again", "(II)I"⟩
abbrev cX7_cut : ByteArray := prog_9_method_7_code
def yX7_cut : MethodName := ⟨RX7, "cut", "(I)I"⟩
abbrev cX7_set : ByteArray := prog_9_method_8_code
def yX7_set : MethodName := ⟨RX7, "set", "(II)I"⟩
abbrev cX7_take : ByteArray := prog_9_method_9_code
def yX7_take : MethodName := ⟨RX7, "take", "()I"⟩
abbrev cX7_tape : ByteArray := prog_9_method_10_code
def yX7_tape : MethodName := ⟨RX7, "tape", "(I)I"⟩
abbrev cX7_out : ByteArray := prog_9_method_11_code
def yX7_out : MethodName := ⟨RX7, "out", "(I)I"⟩
abbrev cX7_at : ByteArray := prog_9_method_12_code
def yX7_at : MethodName := ⟨RX7, "at", "(I)I"⟩
abbrev cX7_keyOf : ByteArray := prog_9_method_13_code
def yX7_keyOf : MethodName := ⟨RX7, "keyOf", "(I)I"⟩
abbrev cX7_areFour : ByteArray := prog_9_method_14_code
def yX7_areFour : MethodName := ⟨RX7, "areFour", "(II)Z"⟩
abbrev cX7_pack : ByteArray := prog_9_method_15_code
def yX7_pack : MethodName := ⟨RX7, "pack", "(I)V"⟩
abbrev cX7_pressPart : ByteArray := prog_9_method_16_code
def yX7_pressPart : MethodName := ⟨RX7, "pressPart", "(II)V"⟩
abbrev cX7_literal : ByteArray := prog_9_method_17_code
def yX7_literal : MethodName := ⟨RX7, "literal", "(II)V"⟩
abbrev cX7_copyTwo : ByteArray := prog_9_method_18_code
def yX7_copyTwo : MethodName := ⟨RX7, "copyTwo", "(II)V"⟩
abbrev cX7_copies : ByteArray := prog_9_method_19_code
def yX7_copies : MethodName := ⟨RX7, "copies", "(II)V"⟩
abbrev cX7_give : ByteArray := prog_9_method_20_code
def yX7_give : MethodName := ⟨RX7, "give", "([BI)V"⟩
abbrev cX7_press : ByteArray := prog_9_method_21_code
def yX7_press : MethodName := ⟨RX7, "press", "()I"⟩
abbrev cX7_bad : ByteArray := prog_9_method_22_code
def yX7_bad : MethodName := ⟨RX7, "bad", "(II)V"⟩
abbrev cX7_openPart : ByteArray := prog_9_method_23_code
def yX7_openPart : MethodName := ⟨RX7, "openPart", "(II)V"⟩
abbrev cX7_elementAt : ByteArray := prog_9_method_24_code
def yX7_elementAt : MethodName := ⟨RX7, "elementAt", "(IIII)I"⟩
abbrev cX7_told : ByteArray := prog_9_method_25_code
def yX7_told : MethodName := ⟨RX7, "told", "(IIII)V"⟩
abbrev cX7_open : ByteArray := prog_9_method_26_code
def yX7_open : MethodName := ⟨RX7, "open", "()I"⟩
abbrev cX7_fault : ByteArray := prog_9_method_27_code
def yX7_fault : MethodName := ⟨RX7, "fault", "(I)I"⟩
abbrev cX7_element : ByteArray := prog_9_method_28_code
def yX7_element : MethodName := ⟨RX7, "element", "(II)I"⟩
abbrev cX7_chunk : ByteArray := prog_9_method_29_code
def yX7_chunk : MethodName := ⟨RX7, "chunk", "(II)I"⟩
abbrev cX7_about : ByteArray := prog_9_method_30_code
def yX7_about : MethodName := ⟨RX7, "about", "(I)I"⟩
abbrev cX7_sumOf : ByteArray := prog_9_method_31_code
def yX7_sumOf : MethodName := ⟨RX7, "sumOf", "([BII)I"⟩
abbrev cX7_masked : ByteArray := prog_9_method_32_code
def yX7_masked : MethodName := ⟨RX7, "masked", "(I)I"⟩
abbrev cX7_sum : ByteArray := prog_9_method_33_code
def yX7_sum : MethodName := ⟨RX7, "sum", "(IIZ)I"⟩
abbrev cX7_name : ByteArray := prog_9_method_34_code
def yX7_name : MethodName := ⟨RX7, "name", "(I)I"⟩
abbrev cX7_isName : ByteArray := prog_9_method_35_code
def yX7_isName : MethodName := ⟨RX7, "isName", "(I)Z"⟩
abbrev cX7_fourAt : ByteArray := prog_9_method_36_code
def yX7_fourAt : MethodName := ⟨RX7, "fourAt", "(I)I"⟩
abbrev cX7_unstream : ByteArray := prog_9_method_37_code
def yX7_unstream : MethodName := ⟨RX7, "unstream", "()I"⟩
abbrev cX7_chunkAt : ByteArray := prog_9_method_38_code
def yX7_chunkAt : MethodName := ⟨RX7, "chunkAt", "(I)I"⟩
abbrev cX7_bytesOf : ByteArray := prog_9_method_39_code
def yX7_bytesOf : MethodName := ⟨RX7, "bytesOf", "(IIII)V"⟩
abbrev cX7_add : ByteArray := prog_9_method_40_code
def yX7_add : MethodName := ⟨RX7, "add", "(I)V"⟩
abbrev cX7_stream : ByteArray := prog_9_method_41_code
def yX7_stream : MethodName := ⟨RX7, "stream", "(I)I"⟩
abbrev cX7_piece : ByteArray := prog_9_method_42_code
def yX7_piece : MethodName := ⟨RX7, "piece", "(II)V"⟩
def RJ6 : String := "java/lang/Integer"
def TJ6 : u_T := fun k => match k with
  | _ => ("", "", "", false)
def tyJ6 : Nat → FieldType := fun k => match k with
  | _ => .int
abbrev wsJ60 : List Cond := u_ws RJ6 TJ6 0
theorem nmJ6 : ∀ a, a < 0 → ∀ b, b < 0 → a ≠ b → (TJ6 a).2.1 ≠ (TJ6 b).2.1 := by decide +kernel
theorem tyJ6_ok : ∀ k, k < 0 → parseFieldDescriptor (TJ6 k).2.2.1 = some (tyJ6 k) := by decide +kernel
abbrev cJ6_rotateLeft_7cf53 : ByteArray := prog_11_method_50_code
def yJ6_rotateLeft_7cf53 : MethodName := ⟨RJ6, "rotateLeft", "(II)I"⟩
def RJ9 : String := "java/lang/Math"
def TJ9 : u_T := fun k => match k with
  | _ => ("", "", "", false)
def tyJ9 : Nat → FieldType := fun k => match k with
  | _ => .int
abbrev wsJ90 : List Cond := u_ws RJ9 TJ9 0
theorem nmJ9 : ∀ a, a < 0 → ∀ b, b < 0 → a ≠ b → (TJ9 a).2.1 ≠ (TJ9 b).2.1 := by decide +kernel
theorem tyJ9_ok : ∀ k, k < 0 → parseFieldDescriptor (TJ9 k).2.2.1 = some (tyJ9 k) := by decide +kernel
abbrev cJ9_max_7cf53 : ByteArray := prog_12_method_65_code
def yJ9_max_7cf53 : MethodName := ⟨RJ9, "max", "(II)I"⟩
abbrev cJ9_min_7cf53 : ByteArray := prog_12_method_69_code
def yJ9_min_7cf53 : MethodName := ⟨RJ9, "min", "(II)I"⟩
def RJ0 : String := "java/lang/String"
def TJ0 : u_T := fun k => match k with
  | _ => ("", "", "", false)
def tyJ0 : Nat → FieldType := fun k => match k with
  | _ => .int
abbrev wsJ00 : List Cond := u_ws RJ0 TJ0 0
theorem nmJ0 : ∀ a, a < 0 → ∀ b, b < 0 → a ≠ b → (TJ0 a).2.1 ≠ (TJ0 b).2.1 := by decide +kernel
theorem tyJ0_ok : ∀ k, k < 0 → parseFieldDescriptor (TJ0 k).2.2.1 = some (tyJ0 k) := by decide +kernel
def RJ10 : String := "java/lang/System"
def TJ10 : u_T := fun k => match k with
  | _ => ("", "", "", false)
def tyJ10 : Nat → FieldType := fun k => match k with
  | _ => .int
abbrev wsJ100 : List Cond := u_ws RJ10 TJ10 0
theorem nmJ10 : ∀ a, a < 0 → ∀ b, b < 0 → a ≠ b → (TJ10 a).2.1 ≠ (TJ10 b).2.1 := by decide +kernel
theorem tyJ10_ok : ∀ k, k < 0 → parseFieldDescriptor (TJ10 k).2.2.1 = some (tyJ10 k) := by decide +kernel
end
section
def RL : String := "SnapHouseLaw"
abbrev cL_out : ByteArray := method_3_code
def yL_out : MethodName := ⟨RL, "out", "(LSnapHouse;I[J)I"⟩
abbrev cL_law : ByteArray := code
def yL_law : MethodName := ⟨RL, "law", "([I)Z"⟩
def wsL_law0_r1 : List Cond := [Cond.classLink RL 8 RX6, Cond.instantiable RX6 12, Cond.initialized RX6, Cond.classLink RL 16 RX7, Cond.instantiable RX7 33, Cond.initialized RX7, Cond.arrayClass .long, Cond.methodLink RL 15 yX6_init, Cond.instanceMethod yX6_init, Cond.code yX6_init cX6_init 1 none, Cond.methodLink RX6 1 objectInit, Cond.instanceMethod objectInit, Cond.code objectInit ⟨#[0xb1]⟩ 1 none, Cond.classLink RX6 7 RX1, Cond.instantiable RX1 2, Cond.initialized RX1, Cond.fieldLink RX6 14 "SnapHouse" "theTape" "LSnapHouse$Bytes;", Cond.fieldLink RX6 18 "SnapHouse" "theOut" "LSnapHouse$Bytes;", Cond.classLink RX6 21 RX2, Cond.instantiable RX2 3, Cond.initialized RX2, Cond.fieldLink RX6 24 "SnapHouse" "presser" "LSnapHouse$Presser;", Cond.classLink RX6 28 RX4, Cond.instantiable RX4 1]
def wsL_law0_r2 : List Cond := [Cond.initialized RX4, Cond.fieldLink RX6 31 "SnapHouse" "streamMaker" "LSnapHouse$StreamMaker;", Cond.classLink RX6 35 RX0, Cond.instantiable RX0 12, Cond.initialized RX0, Cond.fieldLink RX6 38 "SnapHouse" "blockOpener" "LSnapHouse$BlockOpener;", Cond.classLink RX6 42 RX5, Cond.instantiable RX5 8, Cond.initialized RX5, Cond.fieldLink RX6 45 "SnapHouse" "streamOpener" "LSnapHouse$StreamOpener;", Cond.classLink RX6 49 RX3, Cond.instantiable RX3 3, Cond.initialized RX3, Cond.fieldLink RX6 52 "SnapHouse" "keptElements" "LSnapHouse$Rows;", Cond.fieldLink RX6 56 "SnapHouse" "keptChunks" "LSnapHouse$Rows;", Cond.fieldLink RX6 59 "SnapHouse" "faultNumber" "I", Cond.fieldLink RX6 63 "SnapHouse" "faultPlace" "I", Cond.fieldLink RX6 66 "SnapHouse" "faultOfBlock" "I", Cond.fieldLink RX6 69 "SnapHouse" "faultPlaceInBlock" "I", Cond.methodLink RX6 11 yX1_init, Cond.instanceMethod yX1_init, Cond.code yX1_init cX1_init 2 none, Cond.methodLink RX1 3 objectInit, Cond.fieldLink RX1 9 "SnapHouse$Bytes" "count" "I"]
def wsL_law0_r3 : List Cond := [Cond.methodLink RX1 15 Lib.Math.max.name, Cond.static Lib.Math.max.name, Cond.initialized "java/lang/Math", Cond.code Lib.Math.max.name Lib.Math.max.code 2 (some .int), Cond.arrayClass .int, Cond.fieldLink RX1 21 "SnapHouse$Bytes" "row" "[I", Cond.instanceMethod yX2_init, Cond.code yX2_init cX2_init 1 none, Cond.methodLink RX2 3 objectInit, Cond.classLink RX2 9 RX1, Cond.fieldLink RX2 14 "SnapHouse$Presser" "block" "LSnapHouse$Bytes;", Cond.constant RX2 20 (32768), Cond.fieldLink RX2 21 "SnapHouse$Presser" "slots" "[I", Cond.fieldLink RX2 25 "SnapHouse$Presser" "slotMask" "I", Cond.methodLink RX2 11 yX1_init, Cond.instanceMethod yX4_init, Cond.code yX4_init cX4_init 1 none, Cond.methodLink RX4 3 objectInit, Cond.classLink RX4 9 RX1, Cond.fieldLink RX4 14 "SnapHouse$StreamMaker" "made" "LSnapHouse$Bytes;", Cond.methodLink RX4 11 yX1_init, Cond.instanceMethod yX0_init, Cond.code yX0_init cX0_init 1 none, Cond.methodLink RX0 3 objectInit]
def wsL_law0_r4 : List Cond := [Cond.classLink RX0 9 RX1, Cond.fieldLink RX0 14 "SnapHouse$BlockOpener" "given" "LSnapHouse$Bytes;", Cond.classLink RX0 20 RX3, Cond.fieldLink RX0 23 "SnapHouse$BlockOpener" "elements" "LSnapHouse$Rows;", Cond.fieldLink RX0 27 "SnapHouse$BlockOpener" "fault" "I", Cond.fieldLink RX0 31 "SnapHouse$BlockOpener" "place" "I", Cond.fieldLink RX0 34 "SnapHouse$BlockOpener" "start" "I", Cond.fieldLink RX0 37 "SnapHouse$BlockOpener" "end" "I", Cond.fieldLink RX0 40 "SnapHouse$BlockOpener" "next" "I", Cond.fieldLink RX0 43 "SnapHouse$BlockOpener" "length" "I", Cond.fieldLink RX0 46 "SnapHouse$BlockOpener" "sort" "I", Cond.fieldLink RX0 49 "SnapHouse$BlockOpener" "body" "I", Cond.fieldLink RX0 52 "SnapHouse$BlockOpener" "size" "J", Cond.fieldLink RX0 56 "SnapHouse$BlockOpener" "back" "J", Cond.methodLink RX0 11 yX1_init, Cond.instanceMethod yX3_init, Cond.code yX3_init cX3_init 1 none, Cond.methodLink RX3 3 objectInit, Cond.fieldLink RX3 11 "SnapHouse$Rows" "cells" "[I", Cond.fieldLink RX3 15 "SnapHouse$Rows" "count" "I", Cond.fieldLink RX3 19 "SnapHouse$Rows" "marked" "I", Cond.instanceMethod yX5_init, Cond.code yX5_init cX5_init 1 none, Cond.methodLink RX5 3 objectInit]
def wsL_law0_r5 : List Cond := [Cond.classLink RX5 9 RX1, Cond.fieldLink RX5 14 "SnapHouse$StreamOpener" "given" "LSnapHouse$Bytes;", Cond.classLink RX5 20 RX3, Cond.fieldLink RX5 23 "SnapHouse$StreamOpener" "chunks" "LSnapHouse$Rows;", Cond.fieldLink RX5 27 "SnapHouse$StreamOpener" "fault" "I", Cond.fieldLink RX5 31 "SnapHouse$StreamOpener" "place" "I", Cond.fieldLink RX5 34 "SnapHouse$StreamOpener" "next" "I", Cond.fieldLink RX5 37 "SnapHouse$StreamOpener" "type" "I", Cond.fieldLink RX5 40 "SnapHouse$StreamOpener" "body" "I", Cond.fieldLink RX5 43 "SnapHouse$StreamOpener" "size" "I", Cond.methodLink RX5 11 yX1_init, Cond.methodLink RL 18 yX7_init, Cond.instanceMethod yX7_init, Cond.code yX7_init cX7_init 4 none, Cond.methodLink RX7 1 objectInit, Cond.arrayClass .byte, Cond.fieldLink RX7 7 "SnapHouseModel" "tape" "[B", Cond.fieldLink RX7 13 "SnapHouseModel" "out" "[B", Cond.fieldLink RX7 16 "SnapHouseModel" "made" "[B", Cond.fieldLink RX7 19 "SnapHouseModel" "packed" "[B", Cond.fieldLink RX7 22 "SnapHouseModel" "latest" "[I", Cond.fieldLink RX7 26 "SnapHouseModel" "ahead" "[I", Cond.fieldLink RX7 29 "SnapHouseModel" "notes" "[I", Cond.fieldLink RX7 32 "SnapHouseModel" "elements" "[I"]
def wsL_law0_r6 : List Cond := [Cond.fieldLink RX7 35 "SnapHouseModel" "chunks" "[I", Cond.fieldLink RX7 38 "SnapHouseModel" "faultNumber" "I", Cond.fieldLink RX7 42 "SnapHouseModel" "faultPlace" "I", Cond.fieldLink RX7 45 "SnapHouseModel" "faultInnerPlace" "I", Cond.fieldLink RX7 48 "SnapHouseModel" "sums" "[I", Cond.fieldLink RX7 51 "SnapHouseModel" "found" "[I", Cond.fieldLink RX7 54 "SnapHouseModel" "before" "[B", Cond.constant RX7 57 (-2097792136), Cond.methodLink RL 19 yX6_feed, Cond.instanceMethod yX6_feed, Cond.selects RX6 yX6_feed yX6_feed, Cond.code yX6_feed cX6_feed 6 (some .int), Cond.methodLink RX6 72 yX1_hasRoomFor, Cond.instanceMethod yX1_hasRoomFor, Cond.selects RX1 yX1_hasRoomFor yX1_hasRoomFor, Cond.code yX1_hasRoomFor cX1_hasRoomFor 2 (some .boolean), Cond.methodLink RX6 76 yX1_putHighestFirst, Cond.instanceMethod yX1_putHighestFirst, Cond.selects RX1 yX1_putHighestFirst yX1_putHighestFirst, Cond.code yX1_putHighestFirst cX1_putHighestFirst 2 none, Cond.methodLink RX1 33 yX1_put, Cond.instanceMethod yX1_put, Cond.selects RX1 yX1_put yX1_put, Cond.code yX1_put cX1_put 2 none]
def wsL_law0_r7 : List Cond := [Cond.methodLink RL 23 yX7_feed, Cond.instanceMethod yX7_feed, Cond.selects RX7 yX7_feed yX7_feed, Cond.code yX7_feed cX7_feed 6 (some .int), Cond.fieldLink RX7 58 "SnapHouseModel" "thrown" "I", Cond.fieldLink RX7 61 "SnapHouseModel" "taped" "I", Cond.methodLink RX7 64 yX7_word, Cond.instanceMethod yX7_word, Cond.selects RX7 yX7_word yX7_word, Cond.code yX7_word cX7_word 3 none, Cond.methodLink RL 24 yX6_fill, Cond.instanceMethod yX6_fill, Cond.selects RX6 yX6_fill yX6_fill, Cond.code yX6_fill cX6_fill 4 (some .int), Cond.methodLink RX6 82 yX6_isByte, Cond.static yX6_isByte, Cond.code yX6_isByte cX6_isByte 1 (some .boolean), Cond.methodLink RX6 85 yX1_put, Cond.methodLink RL 28 yX7_fill, Cond.instanceMethod yX7_fill, Cond.selects RX7 yX7_fill yX7_fill, Cond.code yX7_fill cX7_fill 4 (some .int), Cond.methodLink RL 29 yX6_again, Cond.instanceMethod yX6_again]
def wsL_law0_r8 : List Cond := [Cond.selects RX6 yX6_again yX6_again, Cond.code yX6_again cX6_again 3 (some .int), Cond.methodLink RX6 88 yX1_hasPlace, Cond.instanceMethod yX1_hasPlace, Cond.selects RX1 yX1_hasPlace yX1_hasPlace, Cond.code yX1_hasPlace cX1_hasPlace 2 (some .boolean), Cond.methodLink RX6 91 yX1_putOwn, Cond.instanceMethod yX1_putOwn, Cond.selects RX1 yX1_putOwn yX1_putOwn, Cond.code yX1_putOwn cX1_putOwn 4 none, Cond.methodLink RX1 25 yX1_hasPlace, Cond.methodLink RX1 37 yX1_hasRoomFor, Cond.methodLink RL 32 yX7_again, Cond.instanceMethod yX7_again, Cond.selects RX7 yX7_again yX7_again, Cond.code yX7_again cX7_again 4 (some .int), Cond.methodLink RL 33 yX6_cut, Cond.instanceMethod yX6_cut, Cond.selects RX6 yX6_cut yX6_cut, Cond.code yX6_cut cX6_cut 2 (some .int), Cond.methodLink RX6 95 yX1_has, Cond.instanceMethod yX1_has, Cond.selects RX1 yX1_has yX1_has, Cond.code yX1_has cX1_has 3 (some .boolean)]
def wsL_law0_r9 : List Cond := [Cond.methodLink RX6 99 yX1_shorten, Cond.instanceMethod yX1_shorten, Cond.selects RX1 yX1_shorten yX1_shorten, Cond.code yX1_shorten cX1_shorten 2 none, Cond.methodLink RX1 29 yX1_has, Cond.methodLink RL 36 yX7_cut, Cond.instanceMethod yX7_cut, Cond.selects RX7 yX7_cut yX7_cut, Cond.code yX7_cut cX7_cut 2 (some .int), Cond.methodLink RL 37 yX6_set, Cond.instanceMethod yX6_set, Cond.selects RX6 yX6_set yX6_set, Cond.code yX6_set cX6_set 4 (some .int), Cond.methodLink RX6 102 yX1_at, Cond.instanceMethod yX1_at, Cond.selects RX1 yX1_at yX1_at, Cond.code yX1_at cX1_at 2 (some .int), Cond.methodLink RX6 106 yX1_change, Cond.instanceMethod yX1_change, Cond.selects RX1 yX1_change yX1_change, Cond.code yX1_change cX1_change 3 none, Cond.methodLink RL 40 yX7_set, Cond.instanceMethod yX7_set, Cond.selects RX7 yX7_set yX7_set]
def wsL_law0_r10 : List Cond := [Cond.code yX7_set cX7_set 4 (some .int), Cond.methodLink RL 41 yX6_take, Cond.instanceMethod yX6_take, Cond.selects RX6 yX6_take yX6_take, Cond.code yX6_take cX6_take 1 (some .int), Cond.methodLink RX6 109 yX1_become, Cond.instanceMethod yX1_become, Cond.selects RX1 yX1_become yX1_become, Cond.code yX1_become cX1_become 2 none, Cond.methodLink RX1 46 yX1_putAll, Cond.instanceMethod yX1_putAll, Cond.selects RX1 yX1_putAll yX1_putAll, Cond.code yX1_putAll cX1_putAll 4 none, Cond.methodLink RX1 40 arraycopyName, Cond.native arraycopyName, Cond.static arraycopyName, Cond.initialized "java/lang/System", Cond.methodLink RL 45 yX7_take, Cond.instanceMethod yX7_take, Cond.selects RX7 yX7_take yX7_take, Cond.code yX7_take cX7_take 2 (some .int), Cond.fieldLink RX7 68 "SnapHouseModel" "outs" "I", Cond.methodLink RL 46 yX6_tape, Cond.instanceMethod yX6_tape]
def wsL_law0_r11 : List Cond := [Cond.selects RX6 yX6_tape yX6_tape, Cond.code yX6_tape cX6_tape 2 (some .int), Cond.methodLink RL 49 yX7_tape, Cond.instanceMethod yX7_tape, Cond.selects RX7 yX7_tape yX7_tape, Cond.code yX7_tape cX7_tape 2 (some .int), Cond.methodLink RL 50 yX6_press, Cond.instanceMethod yX6_press, Cond.selects RX6 yX6_press yX6_press, Cond.code yX6_press cX6_press 1 (some .int), Cond.methodLink RX6 113 yX2_pressBlock, Cond.instanceMethod yX2_pressBlock, Cond.selects RX2 yX2_pressBlock yX2_pressBlock, Cond.code yX2_pressBlock cX2_pressBlock 9 none, Cond.methodLink RX2 29 yX1_shorten, Cond.methodLink RX2 32 yX2_putLength, Cond.instanceMethod yX2_putLength, Cond.selects RX2 yX2_putLength yX2_putLength, Cond.code yX2_putLength cX2_putLength 4 none, Cond.methodLink RX2 54 yX1_put, Cond.methodLink RX2 35 yX2_freeSlots, Cond.instanceMethod yX2_freeSlots, Cond.selects RX2 yX2_freeSlots yX2_freeSlots, Cond.code yX2_freeSlots cX2_freeSlots 4 none]
def wsL_law0_r12 : List Cond := [Cond.methodLink RX2 38 yX2_noteAndFind, Cond.instanceMethod yX2_noteAndFind, Cond.selects RX2 yX2_noteAndFind yX2_noteAndFind, Cond.code yX2_noteAndFind cX2_noteAndFind 7 (some .int), Cond.constant RX2 61 (-1640531535), Cond.methodLink RX2 57 yX1_fourFrom, Cond.instanceMethod yX1_fourFrom, Cond.selects RX1 yX1_fourFrom yX1_fourFrom, Cond.code yX1_fourFrom cX1_fourFrom 2 (some .int), Cond.methodLink RX2 42 yX2_countAlike, Cond.static yX2_countAlike, Cond.code yX2_countAlike cX2_countAlike 5 (some .int), Cond.methodLink RX2 62 yX1_at, Cond.methodLink RX2 46 yX2_putLiteral, Cond.instanceMethod yX2_putLiteral, Cond.selects RX2 yX2_putLiteral yX2_putLiteral, Cond.code yX2_putLiteral cX2_putLiteral 6 none, Cond.methodLink RX2 65 yX1_putLowestFirst, Cond.instanceMethod yX1_putLowestFirst, Cond.selects RX1 yX1_putLowestFirst yX1_putLowestFirst, Cond.code yX1_putLowestFirst cX1_putLowestFirst 4 none, Cond.methodLink RX2 68 yX1_putAll, Cond.methodLink RX2 50 yX2_putCopies, Cond.instanceMethod yX2_putCopies]
def wsL_law0_r13 : List Cond := [Cond.selects RX2 yX2_putCopies yX2_putCopies, Cond.code yX2_putCopies cX2_putCopies 4 none, Cond.methodLink RX2 71 yX2_putCopy, Cond.instanceMethod yX2_putCopy, Cond.selects RX2 yX2_putCopy yX2_putCopy, Cond.code yX2_putCopy cX2_putCopy 3 none, Cond.methodLink RL 53 yX7_press, Cond.instanceMethod yX7_press, Cond.selects RX7 yX7_press yX7_press, Cond.code yX7_press cX7_press 1 (some .int), Cond.fieldLink RX7 76 "SnapHouseModel" "packs" "I", Cond.methodLink RX7 100 yX7_pressPart, Cond.instanceMethod yX7_pressPart, Cond.selects RX7 yX7_pressPart yX7_pressPart, Cond.code yX7_pressPart cX7_pressPart 11 none, Cond.methodLink RX7 79 yX7_pack, Cond.instanceMethod yX7_pack, Cond.selects RX7 yX7_pack yX7_pack, Cond.code yX7_pack cX7_pack 2 none, Cond.methodLink RX7 82 yX7_keyOf, Cond.instanceMethod yX7_keyOf, Cond.selects RX7 yX7_keyOf yX7_keyOf, Cond.code yX7_keyOf cX7_keyOf 3 (some .int), Cond.constant RX7 75 (506832829)]
def wsL_law0_r14 : List Cond := [Cond.methodLink RX7 71 yX7_at, Cond.instanceMethod yX7_at, Cond.selects RX7 yX7_at yX7_at, Cond.code yX7_at cX7_at 2 (some .int), Cond.methodLink RX7 85 yX7_areFour, Cond.instanceMethod yX7_areFour, Cond.selects RX7 yX7_areFour yX7_areFour, Cond.code yX7_areFour cX7_areFour 3 (some .boolean), Cond.methodLink RX7 89 yX7_literal, Cond.instanceMethod yX7_literal, Cond.selects RX7 yX7_literal yX7_literal, Cond.code yX7_literal cX7_literal 7 none, Cond.constant RX7 96 (65536), Cond.methodLink RX7 93 yX7_copies, Cond.instanceMethod yX7_copies, Cond.selects RX7 yX7_copies yX7_copies, Cond.code yX7_copies cX7_copies 4 none, Cond.methodLink RX7 97 yX7_copyTwo, Cond.instanceMethod yX7_copyTwo, Cond.selects RX7 yX7_copyTwo yX7_copyTwo, Cond.code yX7_copyTwo cX7_copyTwo 3 none, Cond.methodLink RX7 103 yX7_give, Cond.instanceMethod yX7_give, Cond.selects RX7 yX7_give yX7_give]
def wsL_law0_r15 : List Cond := [Cond.code yX7_give cX7_give 4 none, Cond.methodLink RL 54 yX6_open, Cond.instanceMethod yX6_open, Cond.selects RX6 yX6_open yX6_open, Cond.code yX6_open cX6_open 1 (some .int), Cond.methodLink RX6 120 yX0_openBlock, Cond.instanceMethod yX0_openBlock, Cond.selects RX0 yX0_openBlock yX0_openBlock, Cond.code yX0_openBlock cX0_openBlock 5 none, Cond.methodLink RX0 59 yX1_shorten, Cond.methodLink RX0 62 yX3_clear, Cond.instanceMethod yX3_clear, Cond.selects RX3 yX3_clear yX3_clear, Cond.code yX3_clear cX3_clear 1 none, Cond.methodLink RX0 65 yX0_readLength, Cond.instanceMethod yX0_readLength, Cond.selects RX0 yX0_readLength yX0_readLength, Cond.code yX0_readLength cX0_readLength 7 none, Cond.constantLong RX0 89 (4294967296), Cond.constantLong RX0 91 (20000), Cond.methodLink RX0 85 yX1_at, Cond.methodLink RX0 81 yX0_fail, Cond.instanceMethod yX0_fail, Cond.selects RX0 yX0_fail yX0_fail]
def wsL_law0_r16 : List Cond := [Cond.code yX0_fail cX0_fail 3 none, Cond.methodLink RX0 69 yX0_readElement, Cond.instanceMethod yX0_readElement, Cond.selects RX0 yX0_readElement yX0_readElement, Cond.code yX0_readElement cX0_readElement 7 none, Cond.methodLink RX0 93 yX0_bytesBehindTag, Cond.static yX0_bytesBehindTag, Cond.code yX0_bytesBehindTag cX0_bytesBehindTag 2 (some .int), Cond.methodLink RX0 97 yX1_lowestFirst, Cond.instanceMethod yX1_lowestFirst, Cond.selects RX1 yX1_lowestFirst yX1_lowestFirst, Cond.code yX1_lowestFirst cX1_lowestFirst 6 (some .long), Cond.methodLink RX1 50 yX1_at, Cond.methodLink RX0 101 yX0_sizeOf, Cond.static yX0_sizeOf, Cond.code yX0_sizeOf cX0_sizeOf 4 (some .long), Cond.methodLink RX0 105 yX0_backOf, Cond.static yX0_backOf, Cond.code yX0_backOf cX0_backOf 4 (some .long), Cond.methodLink RX0 72 yX0_checkElement, Cond.instanceMethod yX0_checkElement, Cond.selects RX0 yX0_checkElement yX0_checkElement, Cond.code yX0_checkElement cX0_checkElement 1 none, Cond.methodLink RX0 75 yX0_giveElement]
def wsL_law0_r17 : List Cond := [Cond.instanceMethod yX0_giveElement, Cond.selects RX0 yX0_giveElement yX0_giveElement, Cond.code yX0_giveElement cX0_giveElement 4 none, Cond.methodLink RX0 108 yX3_add, Cond.instanceMethod yX3_add, Cond.selects RX3 yX3_add yX3_add, Cond.code yX3_add cX3_add 8 none, Cond.methodLink RX0 112 yX1_putAll, Cond.methodLink RX0 116 yX1_putOwn, Cond.methodLink RX6 129 yX6_keepFault, Cond.instanceMethod yX6_keepFault, Cond.selects RX6 yX6_keepFault yX6_keepFault, Cond.code yX6_keepFault cX6_keepFault 5 none, Cond.methodLink RX6 139 yX3_become, Cond.instanceMethod yX3_become, Cond.selects RX3 yX3_become yX3_become, Cond.code yX3_become cX3_become 2 none, Cond.methodLink RX3 22 Lib.Math.min.name, Cond.static Lib.Math.min.name, Cond.code Lib.Math.min.name Lib.Math.min.code 2 (some .int), Cond.methodLink RX3 28 arraycopyName, Cond.methodLink RL 57 yX7_open, Cond.instanceMethod yX7_open, Cond.selects RX7 yX7_open yX7_open]
def wsL_law0_r18 : List Cond := [Cond.code yX7_open cX7_open 2 (some .int), Cond.fieldLink RX7 119 "SnapHouseModel" "mades" "I", Cond.fieldLink RX7 107 "SnapHouseModel" "blockFault" "I", Cond.fieldLink RX7 110 "SnapHouseModel" "blockPlace" "I", Cond.fieldLink RX7 113 "SnapHouseModel" "opened" "I", Cond.fieldLink RX7 148 "SnapHouseModel" "elementMany" "I", Cond.fieldLink RX7 116 "SnapHouseModel" "literals" "I", Cond.fieldLink RX7 151 "SnapHouseModel" "literalMany" "I", Cond.methodLink RX7 141 yX7_openPart, Cond.instanceMethod yX7_openPart, Cond.selects RX7 yX7_openPart yX7_openPart, Cond.code yX7_openPart cX7_openPart 9 none, Cond.constantLong RX7 125 (20000), Cond.fieldLink RX7 127 "SnapHouseModel" "wanted" "I", Cond.methodLink RX7 122 yX7_bad, Cond.instanceMethod yX7_bad, Cond.selects RX7 yX7_bad yX7_bad, Cond.code yX7_bad cX7_bad 3 none, Cond.methodLink RX7 130 yX7_elementAt, Cond.instanceMethod yX7_elementAt, Cond.selects RX7 yX7_elementAt yX7_elementAt, Cond.code yX7_elementAt cX7_elementAt 17 (some .int), Cond.constantLong RX7 134 (4), Cond.constantLong RX7 136 (256)]
def wsL_law0_r19 : List Cond := [Cond.methodLink RX7 144 yX7_told, Cond.instanceMethod yX7_told, Cond.selects RX7 yX7_told yX7_told, Cond.code yX7_told cX7_told 5 none, Cond.fieldLink RX7 138 "SnapHouseModel" "faultInner" "I", Cond.methodLink RL 58 yX6_stream, Cond.instanceMethod yX6_stream, Cond.selects RX6 yX6_stream yX6_stream, Cond.code yX6_stream cX6_stream 2 (some .int), Cond.methodLink RX6 142 yX4_makeStream, Cond.instanceMethod yX4_makeStream, Cond.selects RX4 yX4_makeStream yX4_makeStream, Cond.code yX4_makeStream cX4_makeStream 8 (some .boolean), Cond.methodLink RX4 34 Lib.Math.max.name, Cond.methodLink RX4 44 Lib.Math.min.name, Cond.methodLink RX4 20 yX1_shorten, Cond.methodLink RX4 23 yX4_putHeader, Cond.instanceMethod yX4_putHeader, Cond.selects RX4 yX4_putHeader yX4_putHeader, Cond.code yX4_putHeader cX4_putHeader 3 none, Cond.methodLink RX4 31 yX1_put, Cond.methodLink RX4 67 yX1_putLowestFirst, Cond.methodLink RX4 47 yX2_pressBlock, Cond.methodLink RX4 56 yX4_putPiece]
def wsL_law0_r20 : List Cond := [Cond.instanceMethod yX4_putPiece, Cond.selects RX4 yX4_putPiece yX4_putPiece, Cond.code yX4_putPiece cX4_putPiece 7 (some .boolean), Cond.methodLink RX4 60 yX1_hasRoomFor, Cond.methodLink RX4 64 yX1_maskedCrc, Cond.instanceMethod yX1_maskedCrc, Cond.selects RX1 yX1_maskedCrc yX1_maskedCrc, Cond.code yX1_maskedCrc cX1_maskedCrc 3 (some .int), Cond.constant RX1 65 (-1568478504), Cond.methodLink RX1 57 yX1_crc, Cond.instanceMethod yX1_crc, Cond.selects RX1 yX1_crc yX1_crc, Cond.code yX1_crc cX1_crc 5 (some .int), Cond.fieldLink RX1 54 "SnapHouse$Bytes" "CRC_STEPS" "[I", Cond.methodLink RX1 60 yJ6_rotateLeft_7cf53, Cond.static yJ6_rotateLeft_7cf53, Cond.initialized RJ6, Cond.code yJ6_rotateLeft_7cf53 cJ6_rotateLeft_7cf53 2 (some .int), Cond.methodLink RX4 70 yX1_putAll, Cond.methodLink RL 61 yX7_stream, Cond.instanceMethod yX7_stream, Cond.selects RX7 yX7_stream yX7_stream, Cond.code yX7_stream cX7_stream 3 (some .int), Cond.fieldLink RX7 190 "SnapHouseModel" "isFull" "Z"]
def wsL_law0_r21 : List Cond := [Cond.methodLink RX7 194 yX7_add, Cond.instanceMethod yX7_add, Cond.selects RX7 yX7_add yX7_add, Cond.code yX7_add cX7_add 2 none, Cond.methodLink RX7 168 yX7_name, Cond.instanceMethod yX7_name, Cond.selects RX7 yX7_name yX7_name, Cond.code yX7_name cX7_name 2 (some .int), Cond.methodLink RX7 197 yX7_piece, Cond.instanceMethod yX7_piece, Cond.selects RX7 yX7_piece yX7_piece, Cond.code yX7_piece cX7_piece 8 none, Cond.methodLink RX7 161 yX7_sumOf, Cond.instanceMethod yX7_sumOf, Cond.selects RX7 yX7_sumOf yX7_sumOf, Cond.code yX7_sumOf cX7_sumOf 6 (some .int), Cond.methodLink RX7 165 yX7_masked, Cond.instanceMethod yX7_masked, Cond.selects RX7 yX7_masked yX7_masked, Cond.code yX7_masked cX7_masked 2 (some .int), Cond.constant RX7 160 (-1568478504), Cond.methodLink RL 62 yX6_unstream, Cond.instanceMethod yX6_unstream, Cond.selects RX6 yX6_unstream yX6_unstream]
def wsL_law0_r22 : List Cond := [Cond.code yX6_unstream cX6_unstream 1 (some .int), Cond.methodLink RX6 149 yX5_openStream, Cond.instanceMethod yX5_openStream, Cond.selects RX5 yX5_openStream yX5_openStream, Cond.code yX5_openStream cX5_openStream 5 none, Cond.methodLink RX5 46 yX1_shorten, Cond.methodLink RX5 49 yX3_clear, Cond.methodLink RX5 52 yX1_at, Cond.methodLink RX5 56 yX5_fail, Cond.instanceMethod yX5_fail, Cond.selects RX5 yX5_fail yX5_fail, Cond.code yX5_fail cX5_fail 2 none, Cond.methodLink RX5 62 yX5_readHeader, Cond.instanceMethod yX5_readHeader, Cond.selects RX5 yX5_readHeader yX5_readHeader, Cond.code yX5_readHeader cX5_readHeader 2 none, Cond.methodLink RX5 80 yX1_lowestFirst, Cond.methodLink RX5 66 yX5_checkChunk, Cond.instanceMethod yX5_checkChunk, Cond.selects RX5 yX5_checkChunk yX5_checkChunk, Cond.code yX5_checkChunk cX5_checkChunk 2 none, Cond.methodLink RX5 84 yX5_isName, Cond.instanceMethod yX5_isName, Cond.selects RX5 yX5_isName yX5_isName]
def wsL_law0_r23 : List Cond := [Cond.code yX5_isName cX5_isName 8 (some .boolean), Cond.methodLink RX5 69 yX5_tellsBytes, Cond.instanceMethod yX5_tellsBytes, Cond.selects RX5 yX5_tellsBytes yX5_tellsBytes, Cond.code yX5_tellsBytes cX5_tellsBytes 1 (some .boolean), Cond.methodLink RX5 73 yX5_openBytes, Cond.instanceMethod yX5_openBytes, Cond.selects RX5 yX5_openBytes yX5_openBytes, Cond.code yX5_openBytes cX5_openBytes 5 none, Cond.methodLink RX5 92 yX5_give, Cond.instanceMethod yX5_give, Cond.selects RX5 yX5_give yX5_give, Cond.code yX5_give cX5_give 5 none, Cond.methodLink RX5 104 yX1_hasRoomFor, Cond.methodLink RX5 108 yX1_maskedCrc, Cond.methodLink RX5 112 yX1_putAll, Cond.methodLink RX5 96 yX0_openBlock, Cond.methodLink RX5 77 yX5_keepChunk, Cond.instanceMethod yX5_keepChunk, Cond.selects RX5 yX5_keepChunk yX5_keepChunk, Cond.code yX5_keepChunk cX5_keepChunk 3 none, Cond.methodLink RX5 115 yX3_add, Cond.methodLink RL 65 yX7_unstream, Cond.instanceMethod yX7_unstream]
def wsL_law0_r24 : List Cond := [Cond.selects RX7 yX7_unstream yX7_unstream, Cond.code yX7_unstream cX7_unstream 3 (some .int), Cond.fieldLink RX7 171 "SnapHouseModel" "foundMany" "I", Cond.fieldLink RX7 174 "SnapHouseModel" "skips" "I", Cond.fieldLink RX7 154 "SnapHouseModel" "chunkMany" "I", Cond.fieldLink RX7 157 "SnapHouseModel" "skippedMany" "I", Cond.methodLink RX7 177 yX7_chunkAt, Cond.instanceMethod yX7_chunkAt, Cond.selects RX7 yX7_chunkAt yX7_chunkAt, Cond.code yX7_chunkAt cX7_chunkAt 7 (some .int), Cond.methodLink RX7 180 yX7_isName, Cond.instanceMethod yX7_isName, Cond.selects RX7 yX7_isName yX7_isName, Cond.code yX7_isName cX7_isName 3 (some .boolean), Cond.methodLink RX7 184 yX7_bytesOf, Cond.instanceMethod yX7_bytesOf, Cond.selects RX7 yX7_bytesOf yX7_bytesOf, Cond.code yX7_bytesOf cX7_bytesOf 8 none, Cond.methodLink RX7 187 yX7_fourAt, Cond.instanceMethod yX7_fourAt, Cond.selects RX7 yX7_fourAt yX7_fourAt, Cond.code yX7_fourAt cX7_fourAt 2 (some .int), Cond.methodLink RL 66 yX6_fault, Cond.instanceMethod yX6_fault]
def wsL_law0_r25 : List Cond := [Cond.selects RX6 yX6_fault yX6_fault, Cond.code yX6_fault cX6_fault 2 (some .int), Cond.methodLink RL 69 yX7_fault, Cond.instanceMethod yX7_fault, Cond.selects RX7 yX7_fault yX7_fault, Cond.code yX7_fault cX7_fault 2 (some .int), Cond.methodLink RL 70 yX6_element, Cond.instanceMethod yX6_element, Cond.selects RX6 yX6_element yX6_element, Cond.code yX6_element cX6_element 3 (some .int), Cond.methodLink RX6 159 yX3_cell, Cond.instanceMethod yX3_cell, Cond.selects RX3 yX3_cell yX3_cell, Cond.code yX3_cell cX3_cell 3 (some .int), Cond.methodLink RL 73 yX7_element, Cond.instanceMethod yX7_element, Cond.selects RX7 yX7_element yX7_element, Cond.code yX7_element cX7_element 3 (some .int), Cond.methodLink RL 74 yX6_chunk, Cond.instanceMethod yX6_chunk, Cond.selects RX6 yX6_chunk yX6_chunk, Cond.code yX6_chunk cX6_chunk 3 (some .int), Cond.methodLink RL 77 yX7_chunk, Cond.instanceMethod yX7_chunk]
def wsL_law0_r26 : List Cond := [Cond.selects RX7 yX7_chunk yX7_chunk, Cond.code yX7_chunk cX7_chunk 3 (some .int), Cond.methodLink RL 78 yX6_sum, Cond.instanceMethod yX6_sum, Cond.selects RX6 yX6_sum yX6_sum, Cond.code yX6_sum cX6_sum 4 (some .int), Cond.methodLink RX6 163 yX1_maskedCrc, Cond.methodLink RX6 166 yX1_crc, Cond.methodLink RL 82 yX7_sum, Cond.instanceMethod yX7_sum, Cond.selects RX7 yX7_sum yX7_sum, Cond.code yX7_sum cX7_sum 5 (some .int), Cond.methodLink RL 83 yL_out, Cond.static yL_out, Cond.initialized RL, Cond.codeWith yL_out cL_out 4 (some .int) [(0, 9, 12, 13)], Cond.classLink RL 13 "java/util/NoSuchElementException", Cond.methodLink RL 7 yX6_out, Cond.instanceMethod yX6_out, Cond.selects RX6 yX6_out yX6_out, Cond.code yX6_out cX6_out 2 (some .int), Cond.classLink RX6 169 "java/util/NoSuchElementException", Cond.initialized "java/util/NoSuchElementException", Cond.methodLink RL 88 yX7_out]
def wsL_law0_r27 : List Cond := [Cond.instanceMethod yX7_out, Cond.selects RX7 yX7_out yX7_out, Cond.code yX7_out cX7_out 2 (some .int), Cond.methodLink RL 89 yX7_thrown, Cond.instanceMethod yX7_thrown, Cond.selects RX7 yX7_thrown yX7_thrown, Cond.code yX7_thrown cX7_thrown 1 (some .int), Cond.methodLink RL 92 yX6_about, Cond.instanceMethod yX6_about, Cond.selects RX6 yX6_about yX6_about, Cond.code yX6_about cX6_about 2 (some .int), Cond.methodLink RL 95 yX7_about, Cond.instanceMethod yX7_about, Cond.selects RX7 yX7_about yX7_about, Cond.code yX7_about cX7_about 2 (some .int)]
def wsL_law0 : List Cond := (wsL_law0_r1 ++ (wsL_law0_r2 ++ (wsL_law0_r3 ++ (wsL_law0_r4 ++ (wsL_law0_r5 ++ (wsL_law0_r6 ++ (wsL_law0_r7 ++ (wsL_law0_r8 ++ (wsL_law0_r9 ++ (wsL_law0_r10 ++ (wsL_law0_r11 ++ (wsL_law0_r12 ++ (wsL_law0_r13 ++ (wsL_law0_r14 ++ (wsL_law0_r15 ++ (wsL_law0_r16 ++ (wsL_law0_r17 ++ (wsL_law0_r18 ++ (wsL_law0_r19 ++ (wsL_law0_r20 ++ (wsL_law0_r21 ++ (wsL_law0_r22 ++ (wsL_law0_r23 ++ (wsL_law0_r24 ++ (wsL_law0_r25 ++ (wsL_law0_r26 ++ wsL_law0_r27)))))))))))))))))))))))))) ++ wsX60 ++ wsX70 ++ wsX10 ++ wsX20 ++ wsX40 ++ wsX00 ++ wsX50 ++ wsX30 ++ ([] : List Cond)
abbrev vwCl : List vw_C := [(RX0, TX0, 12), (RX1, TX1, 2), (RX2, TX2, 3), (RX3, TX3, 3), (RX4, TX4, 1), (RX5, TX5, 8), (RX6, TX6, 12), (RX7, TX7, 33)]
end
section
/-! THE BASE. One context g for all contracts: the classes' numbers, the classes of int, byte and long arrays, the two static tables' cells. A method's start (bx), its world (ww), its contract by a pure function (mcI, mcV, mcL, mcN): from the world wc it comes back with the answer r0 and the world wo. -/
abbrev GX : Type := va_G × (ClassId × ClassId × ClassId) × (Nat × Nat)
def tyx (g : GX) : List (ClassId × FieldType) := [(g.2.1.1, .int), (g.2.1.2.1, .byte), (g.2.1.2.2, .long)]
def nw_F : List (String × Nat × String × String × String × String) := [("SnapHouse", 79, "SnapHouse$Bytes", "count", "I", "SnapHouse"), ("SnapHouse", 117, "SnapHouse$Presser", "block", "LSnapHouse$Bytes;", "SnapHouse"), ("SnapHouse", 123, "SnapHouse$BlockOpener", "fault", "I", "SnapHouse"), ("SnapHouse", 126, "SnapHouse$BlockOpener", "place", "I", "SnapHouse"), ("SnapHouse", 133, "SnapHouse$BlockOpener", "given", "LSnapHouse$Bytes;", "SnapHouse"), ("SnapHouse", 136, "SnapHouse$BlockOpener", "elements", "LSnapHouse$Rows;", "SnapHouse"), ("SnapHouse", 146, "SnapHouse$StreamMaker", "made", "LSnapHouse$Bytes;", "SnapHouse"), ("SnapHouse", 153, "SnapHouse$StreamOpener", "fault", "I", "SnapHouse"), ("SnapHouse", 154, "SnapHouse$StreamOpener", "place", "I", "SnapHouse"), ("SnapHouse", 155, "SnapHouse$StreamOpener", "given", "LSnapHouse$Bytes;", "SnapHouse"), ("SnapHouse", 156, "SnapHouse$StreamOpener", "chunks", "LSnapHouse$Rows;", "SnapHouse"), ("SnapHouse", 176, "SnapHouse$Rows", "count", "I", "SnapHouse"), ("SnapHouse", 177, "SnapHouse$Rows", "marked", "I", "SnapHouse"), ("SnapHouse$BlockOpener", 78, "SnapHouse$Bytes", "count", "I", "SnapHouse"), ("SnapHouse$StreamMaker", 27, "SnapHouse", "NAME", "[I", "SnapHouse"), ("SnapHouse$StreamMaker", 40, "SnapHouse$Bytes", "count", "I", "SnapHouse"), ("SnapHouse$StreamMaker", 53, "SnapHouse$Presser", "block", "LSnapHouse$Bytes;", "SnapHouse"), ("SnapHouse$StreamOpener", 59, "SnapHouse$Bytes", "count", "I", "SnapHouse"), ("SnapHouse$StreamOpener", 88, "SnapHouse", "NAME", "[I", "SnapHouse"), ("SnapHouse$StreamOpener", 102, "SnapHouse$BlockOpener", "fault", "I", "SnapHouse"), ("SnapHouse$StreamOpener", 103, "SnapHouse$BlockOpener", "given", "LSnapHouse$Bytes;", "SnapHouse")]
def nw_M : List (String × Nat × MethodName × String) := [("SnapHouse", 23, ⟨"SnapHouse$Presser", "<init>", "()V"⟩, "SnapHouse"), ("SnapHouse", 30, ⟨"SnapHouse$StreamMaker", "<init>", "()V"⟩, "SnapHouse"), ("SnapHouse", 37, ⟨"SnapHouse$BlockOpener", "<init>", "()V"⟩, "SnapHouse"), ("SnapHouse", 44, ⟨"SnapHouse$StreamOpener", "<init>", "()V"⟩, "SnapHouse"), ("SnapHouse", 51, ⟨"SnapHouse$Rows", "<init>", "()V"⟩, "SnapHouse"), ("SnapHouse$BlockOpener", 22, ⟨"SnapHouse$Rows", "<init>", "()V"⟩, "SnapHouse"), ("SnapHouse$StreamOpener", 22, ⟨"SnapHouse$Rows", "<init>", "()V"⟩, "SnapHouse")]
def nw_mF (q : String × Nat × String × String × String × String) : Cond := .fieldLinkNest q.1 q.2.1 q.2.2.1 q.2.2.2.1 q.2.2.2.2.1 q.2.2.2.2.2
def nw_mM (q : String × Nat × MethodName × String) : Cond := .methodLinkNest q.1 q.2.1 q.2.2.1 q.2.2.2
/-- the words on private members of nest mates -/
def nz (U : State) : Prop := (∀ q ∈ nw_F, va_Nw (nw_mF q) U) ∧ (∀ q ∈ nw_M, va_Nw (nw_mM q) U)
theorem nz_warm {s U : State} (hW : s.WarmedH U.vm) (h : nz s) : nz U := ⟨fun q hq => va_Nw.warmF hW (h.1 q hq), fun q hq => va_Nw.warmM hW (h.2 q hq)⟩
theorem nz_same {s U : State} (hW : s.vm = U.vm) (h : nz s) : nz U := ⟨fun q hq => va_Nw.same rfl hW (h.1 q hq), fun q hq => va_Nw.same rfl hW (h.2 q hq)⟩
def tb_N : List Int32 := [115, 78, 97, 80, 112, 89]
def tb_C : List Int32 := [0, 274646895, 549293790, 820201905, 1098587580, 1361435347, 1640403810, 1905808397, (-2097792136), (-1834419177), (-1572096602), (-1307217207), (-1014159676), (-741088853), (-483350502), (-210866315)]
def tf_N (j : Nat) : Value := .int (tb_N.getD j 0)
def tf_C (j : Nat) : Value := .int (tb_C.getD j 0)
/-- the static tables, none of them a cell that may change -/
def zt (g : GX) (A : Nat → Prop) (U : State) (H : Heap) : Prop := va_Z "SnapHouse" "NAME" "[I" (.ref g.2.2.1) A U H ∧ va_T .int g.2.2.1 6 tf_N A U H ∧ va_Z "SnapHouse$Bytes" "CRC_STEPS" "[I" (.ref g.2.2.2) A U H ∧ va_T .int g.2.2.2 16 tf_C A U H
def zz (g : GX) (A : Nat → Prop) (U : State) (H : Heap) : Prop := nz U ∧ zt g A U H
theorem zz_to {g : GX} {A B : Nat → Prop} {s U : State} {H0 H : Heap} (h : zz g A s H0) (hW : s.WarmedH U.vm) (hq : ∀ a : Nat, a < H0.size → ¬ A a → H[a]? = H0[a]?) (hAB : ∀ q, B q → A q) : zz g B U H :=
  ⟨nz_warm hW h.1, ((h.2.1.kept hq).narrow hAB).moved hW.alike, ((h.2.2.1.kept hq).narrow hAB).moved hW.alike, ((h.2.2.2.1.kept hq).narrow hAB).moved hW.alike, ((h.2.2.2.2.kept hq).narrow hAB).moved hW.alike⟩
theorem zz_same {g : GX} {A : Nat → Prop} {s U : State} {H : Heap} (h : zz g A s H) (hW : s.vm = U.vm) : zz g A U H :=
  ⟨nz_same hW h.1, h.2.1.moved (by rw [hW]; exact Vm.Alike.refl _), h.2.2.1.moved (by rw [hW]; exact Vm.Alike.refl _), h.2.2.2.1.moved (by rw [hW]; exact Vm.Alike.refl _), h.2.2.2.2.moved (by rw [hW]; exact Vm.Alike.refl _)⟩
def ww (g : GX) (A : Nat → Prop) (s : State) (ws : va_W) (H : Heap) (locs : List Loc) : Prop := va_P g.1 vwCl ws H ∧ va_D A ws ∧ va_S A s.heap H locs
def bx (g : GX) (p : Program) (s : State) (m : MethodId) (meth : Method) (c : Code) (args : Array Value) (cc : ByteArray) (maxL : Nat) (ret : Option FieldType) (y : MethodName) (Ts : List Cond) (A : Nat → Prop) : Prop :=
  p.tables.exec = Jvm.exec ∧ c.code = cc ∧ meth.sig.returnType = ret ∧ c.maxLocals = maxL ∧ s.vm.findClass y.cls = some m.cls ∧ (∀ w ∈ Ts, w.before args s = true) ∧ (∀ q : Nat, s.heap.size ≤ q → A q) ∧ meth.locks = false ∧ va_K g.1 vwCl (tyx g) s ∧ zz g A s s.heap ∧ meth.name = y.name
def pcc (g : GX) (av : List Value) (wc : va_W) (sz : Nat) : Array Value → State → Prop :=
  va_Pc av (fun U => U.heap.size = sz ∧ va_P g.1 vwCl wc U.heap ∧ va_K g.1 vwCl (tyx g) U ∧ va_D (fun _ => True) wc ∧ zz g (va_A wc sz) U U.heap)
def wo_ (g : GX) (wc : va_W) (sz : Nat) (wo : va_W) (t : State) : Prop := va_P g.1 vwCl wo t.heap ∧ va_K g.1 vwCl (tyx g) t ∧ va_D (va_A wc sz) wo
def qcI (g : GX) (wc : va_W) (sz : Nat) (r0 : Int32) (wo : va_W) : Array Value → State → Outcome → State → Prop :=
  va_Qi (fun r (_ : Unit) => r = r0) (fun _ t => wo_ g wc sz wo t) (va_A wc sz)
def qcL (g : GX) (wc : va_W) (sz : Nat) (r0 : Int64) (wo : va_W) : Array Value → State → Outcome → State → Prop :=
  va_Ql (fun r (_ : Unit) => r = r0) (fun _ t => wo_ g wc sz wo t) (va_A wc sz)
def qcV (g : GX) (wc : va_W) (sz : Nat) (wo : va_W) : Array Value → State → Outcome → State → Prop :=
  va_Qv (fun (_ : Unit) => True) (fun _ t => wo_ g wc sz wo t) (va_A wc sz)
/-- a constructor: the cells that it makes have addresses u -/
def qcN (g : GX) (wc : va_W) (sz : Nat) {S : Type} (wo : S → va_W) : Array Value → State → Outcome → State → Prop :=
  va_Qv (fun (_ : S) => True) (fun u t => wo_ g wc sz (wo u) t) (va_A wc sz)
def mcI (g : GX) (l : Launch) (y : MethodName) (wsy : List Cond) (rm : Room) (av : List Value) (wc : va_W) (r0 : Int32) (wo : va_W) (mc ms : Nat) : Prop :=
  ∀ sz : Nat, Met l y wsy rm (pcc g av wc sz) (qcI g wc sz r0 wo) mc ms (va_A wc sz)
def mcL (g : GX) (l : Launch) (y : MethodName) (wsy : List Cond) (rm : Room) (av : List Value) (wc : va_W) (r0 : Int64) (wo : va_W) (mc ms : Nat) : Prop :=
  ∀ sz : Nat, Met l y wsy rm (pcc g av wc sz) (qcL g wc sz r0 wo) mc ms (va_A wc sz)
def mcV (g : GX) (l : Launch) (y : MethodName) (wsy : List Cond) (rm : Room) (av : List Value) (wc : va_W) (wo : va_W) (mc ms : Nat) : Prop :=
  ∀ sz : Nat, Met l y wsy rm (pcc g av wc sz) (qcV g wc sz wo) mc ms (va_A wc sz)
def mcN (g : GX) (l : Launch) (y : MethodName) (wsy : List Cond) (rm : Room) (av : List Value) (wc : va_W) {S : Type} (wo : S → va_W) (mc ms : Nat) : Prop :=
  ∀ sz : Nat, Met l y wsy rm (pcc g av wc sz) (qcN g wc sz wo) mc ms (va_A wc sz)
/-- pure helpers: a step out of an Option -/
def ck {α : Type} (i : Int32) (n : Nat) (k : Option α) : Option α := if i < 0 ∨ n ≤ i.toNatClampNeg then none else k
theorem ck_some {α : Type} {i : Int32} {n : Nat} {k : Option α} {o : α} (h : ck i n k = some o) : vp_in i n ∧ k = some o := by
  unfold ck at h
  by_cases hc : i < 0 ∨ n ≤ i.toNatClampNeg
  · rw [if_pos hc] at h; cases h
  · rw [if_neg hc] at h; exact ⟨hc, h⟩
theorem ob {α β : Type} {x : Option α} {k : α → Option β} {o : β} (h : x.bind k = some o) : ∃ a, x = some a ∧ k a = some o := by
  cases x with
  | none => cases h
  | some a => exact ⟨a, rfl, h⟩
theorem it_t {c : Prop} [Decidable c] {α : Type} {a b o : α} (h : (if c then a else b) = o) (hc : c) : a = o := by rw [if_pos hc] at h; exact h
theorem it_f {c : Prop} [Decidable c] {α : Type} {a b o : α} (h : (if c then a else b) = o) (hc : ¬ c) : b = o := by rw [if_neg hc] at h; exact h
/-- a copy of n cells: its ranges looked at -/
def ckc {α : Type} (sp dp n : Int32) (n0 n1 : Nat) (k : Option α) : Option α := if sp < 0 ∨ dp < 0 ∨ n < 0 ∨ n0 < sp.toNatClampNeg + n.toNatClampNeg ∨ n1 < dp.toNatClampNeg + n.toNatClampNeg then none else k
theorem ckc_some {α : Type} {sp dp n : Int32} {n0 n1 : Nat} {k : Option α} {o : α} (h : ckc sp dp n n0 n1 k = some o) : (¬ sp < 0 ∧ ¬ dp < 0 ∧ ¬ n < 0 ∧ sp.toNatClampNeg + n.toNatClampNeg ≤ n0 ∧ dp.toNatClampNeg + n.toNatClampNeg ≤ n1) ∧ k = some o := by
  unfold ckc at h
  by_cases hc : sp < 0 ∨ dp < 0 ∨ n < 0 ∨ n0 < sp.toNatClampNeg + n.toNatClampNeg ∨ n1 < dp.toNatClampNeg + n.toNatClampNeg
  · rw [if_pos hc] at h; cases h
  · rw [if_neg hc] at h
    refine ⟨⟨fun q => hc (Or.inl q), fun q => hc (Or.inr (Or.inl q)), fun q => hc (Or.inr (Or.inr (Or.inl q))), Nat.not_lt.mp fun q => hc (Or.inr (Or.inr (Or.inr (Or.inl q)))), Nat.not_lt.mp fun q => hc (Or.inr (Or.inr (Or.inr (Or.inr q))))⟩, h⟩
/-- a boolean answer -/
def ckb {α : Type} (v : Int32) (k : Option α) : Option α := if v = 0 ∨ v = 1 then k else none
theorem ckb_some {α : Type} {v : Int32} {k : Option α} {o : α} (h : ckb v k = some o) : (v = 0 ∨ v = 1) ∧ k = some o := by
  unfold ckb at h
  by_cases hc : v = 0 ∨ v = 1
  · rw [if_pos hc] at h; exact ⟨hc, h⟩
  · rw [if_neg hc] at h; cases h
theorem ckb_nar {v : Int32} (h : v = 0 ∨ v = 1) : narrow .boolean (.int v) = .int v := by
  rcases h with rfl | rfl <;> decide
def ushr (x y : Int32) : Int32 := (x.toUInt32 >>> (y.toUInt32 &&& Int32.toUInt32 31)).toInt32
def pick (ws : va_W) (is : List Nat) : va_W := is.filterMap (fun i => ws[i]?)
section XB
variable {g : GX} {p : Program} {l : Launch} {e : Env} {R : Room} {s : State} {m : MethodId} {args : Array Value} {below : List Frame} {meth : Method} {c : Code} {H : Heap} {locs : List Loc} {cells slots : Nat} {Q : State → Prop}
variable {cc : ByteArray} {maxL : Nat} {ret : Option FieldType} {y : MethodName} {Ts : List Cond} {A : Nat → Prop} {ws ws' : va_W} {pc : Nat} {ls : Array Slot} {rest : List Value} {a : Nat}
theorem bx.x (C : bx g p s m meth c args cc maxL ret y Ts A) : p.tables.exec = Jvm.exec := C.1
theorem bx.b (C : bx g p s m meth c args cc maxL ret y Ts A) : c.code = cc := C.2.1
theorem bx.r (C : bx g p s m meth c args cc maxL ret y Ts A) : meth.sig.returnType = ret := C.2.2.1
theorem bx.ml (C : bx g p s m meth c args cc maxL ret y Ts A) : c.maxLocals = maxL := C.2.2.2.1
theorem bx.own (C : bx g p s m meth c args cc maxL ret y Ts A) : s.vm.findClass y.cls = some m.cls := C.2.2.2.2.1
theorem bx.ts (C : bx g p s m meth c args cc maxL ret y Ts A) : ∀ w ∈ Ts, w.before args s = true := C.2.2.2.2.2.1
theorem bx.hA (C : bx g p s m meth c args cc maxL ret y Ts A) : ∀ q : Nat, s.heap.size ≤ q → A q := C.2.2.2.2.2.2.1
theorem bx.lk (C : bx g p s m meth c args cc maxL ret y Ts A) : meth.locks = false := C.2.2.2.2.2.2.2.1
theorem bx.K (C : bx g p s m meth c args cc maxL ret y Ts A) : va_K g.1 vwCl (tyx g) s := C.2.2.2.2.2.2.2.2.1
theorem bx.Z (C : bx g p s m meth c args cc maxL ret y Ts A) : zz g A s s.heap := C.2.2.2.2.2.2.2.2.2.1
theorem bx.nm (C : bx g p s m meth c args cc maxL ret y Ts A) : meth.name = y.name := C.2.2.2.2.2.2.2.2.2.2
theorem bx.fix (C : bx g p s m meth c args cc maxL ret y Ts A) : CallFix p m c cc maxL s args Ts y.cls := ⟨C.x, C.b, C.ml, C.own, C.ts⟩
theorem x_get (C0 : bx g p s m meth c args cc maxL ret y Ts A) (hW : ww g A s ws H locs) {C : String} {T : u_T} {N ci index : Nat} (hin : ∀ w ∈ u_ws C T N, w ∈ Ts) (q0 : Nat) {fs : List Value} (he : ws[q0]? = some (a, .inr (ci, fs))) (hc : vwCl[ci]? = some (C, T, N)) (k : Nat) (hk : k < N) (hlink : Cond.fieldLink y.cls index (T k).1 (T k).2.1 (T k).2.2.1 ∈ Ts) {v : Value} (hv : fs[k]? = some v) (hdg : decode cc pc = .ok (.getfield index, 3))
    (kk : W p l e R s m args below meth c H locs cells slots Q (F0 m (pc + 3) ls (v :: rest))) : W p l e R s m args below meth c H locs cells slots Q (F0 m pc ls (.ref a :: rest)) :=
  va_get C0.x C0.b C0.ts hin C0.own C0.K hW.1 q0 he hc k hk (C0.ts _ hlink) (fun _ h => h) hv hdg kk
theorem x_getN (C0 : bx g p s m meth c args cc maxL ret y Ts A) (hW : ww g A s ws H locs) {C host : String} {T : u_T} {N ci index : Nat} (hin : ∀ w ∈ u_ws C T N, w ∈ Ts) (q0 : Nat) {fs : List Value} (he : ws[q0]? = some (a, .inr (ci, fs))) (hc : vwCl[ci]? = some (C, T, N)) (k : Nat) (hk : k < N) (hlink : (y.cls, index, (T k).1, (T k).2.1, (T k).2.2.1, host) ∈ nw_F) {v : Value} (hv : fs[k]? = some v) (hdg : decode cc pc = .ok (.getfield index, 3))
    (kk : W p l e R s m args below meth c H locs cells slots Q (F0 m (pc + 3) ls (v :: rest))) : W p l e R s m args below meth c H locs cells slots Q (F0 m pc ls (.ref a :: rest)) :=
  va_getN C0.x C0.b C0.ts hin C0.own C0.K hW.1 q0 he hc k hk (va_Nw.use rfl (C0.Z.1.1 _ hlink)) (fun _ h => h) hv hdg kk
theorem x_put (C0 : bx g p s m meth c args cc maxL ret y Ts A) (hW : ww g A s ws H locs) {C : String} {T : u_T} {N ci index : Nat} (hin : ∀ w ∈ u_ws C T N, w ∈ Ts) (ty0 : Nat → FieldType) (hty : ∀ k, k < N → parseFieldDescriptor (T k).2.2.1 = some (ty0 k)) (hnm : ∀ a, a < N → ∀ b, b < N → a ≠ b → (T a).2.1 ≠ (T b).2.1) (q0 : Nat) {fs : List Value} (he : ws[q0]? = some (a, .inr (ci, fs))) (hc : vwCl[ci]? = some (C, T, N)) (k : Nat) (hk : k < N) (hlink : Cond.fieldLink y.cls index (T k).1 (T k).2.1 (T k).2.2.1 ∈ Ts) (hfin : (T k).2.2.2 = false) {ty : FieldType} {v : Value} (hd : parseFieldDescriptor (T k).2.2.1 = some ty) (hn : narrow ty v = v) (hfit : fits ty v = true) (hl : k < fs.length)
    (hdg : decode cc pc = .ok (.putfield index, 3)) (hws : ws.set q0 (a, .inr (ci, fs.set k v)) = ws') (kk : ∀ (H1 : Heap) (locs1 : List Loc), ww g A s ws' H1 locs1 → W p l e R s m args below meth c H1 locs1 cells slots Q (F0 m (pc + 3) ls rest)) : W p l e R s m args below meth c H locs cells slots Q (F0 m pc ls (v :: .ref a :: rest)) :=
  va_put C0.x C0.b C0.ts hin ty0 hty hnm C0.own C0.K hW.1 hW.2.1 hW.2.2 q0 he hc k hk (C0.ts _ hlink) (fun _ h => h) hfin hd hn hfit hl hdg (fun H1 l1 h1 h2 h3 => kk H1 l1 (hws ▸ ⟨h1, h2, h3⟩))
theorem x_putN (C0 : bx g p s m meth c args cc maxL ret y Ts A) (hW : ww g A s ws H locs) {C host : String} {T : u_T} {N ci index : Nat} (hin : ∀ w ∈ u_ws C T N, w ∈ Ts) (ty0 : Nat → FieldType) (hty : ∀ k, k < N → parseFieldDescriptor (T k).2.2.1 = some (ty0 k)) (hnm : ∀ a, a < N → ∀ b, b < N → a ≠ b → (T a).2.1 ≠ (T b).2.1) (q0 : Nat) {fs : List Value} (he : ws[q0]? = some (a, .inr (ci, fs))) (hc : vwCl[ci]? = some (C, T, N)) (k : Nat) (hk : k < N) (hlink : (y.cls, index, (T k).1, (T k).2.1, (T k).2.2.1, host) ∈ nw_F) (hfin : (T k).2.2.2 = false) {ty : FieldType} {v : Value} (hd : parseFieldDescriptor (T k).2.2.1 = some ty) (hn : narrow ty v = v) (hfit : fits ty v = true) (hl : k < fs.length)
    (hdg : decode cc pc = .ok (.putfield index, 3)) (hws : ws.set q0 (a, .inr (ci, fs.set k v)) = ws') (kk : ∀ (H1 : Heap) (locs1 : List Loc), ww g A s ws' H1 locs1 → W p l e R s m args below meth c H1 locs1 cells slots Q (F0 m (pc + 3) ls rest)) : W p l e R s m args below meth c H locs cells slots Q (F0 m pc ls (v :: .ref a :: rest)) :=
  va_putN C0.x C0.b C0.ts hin ty0 hty hnm C0.own C0.K hW.1 hW.2.1 hW.2.2 q0 he hc k hk (va_Nw.use rfl (C0.Z.1.1 _ hlink)) (fun _ h => h) hfin hd hn hfit hl hdg (fun H1 l1 h1 h2 h3 => kk H1 l1 (hws ▸ ⟨h1, h2, h3⟩))
theorem x_putF (C0 : bx g p s m meth c args cc maxL ret y Ts A) (hW : ww g A s ws H locs) {C : String} {T : u_T} {N ci index : Nat} (hin : ∀ w ∈ u_ws C T N, w ∈ Ts) (ty0 : Nat → FieldType) (hty : ∀ k, k < N → parseFieldDescriptor (T k).2.2.1 = some (ty0 k)) (hnm : ∀ a, a < N → ∀ b, b < N → a ≠ b → (T a).2.1 ≠ (T b).2.1) (q0 : Nat) {fs : List Value} (he : ws[q0]? = some (a, .inr (ci, fs))) (hc : vwCl[ci]? = some (C, T, N)) (k : Nat) (hk : k < N) (hlink : Cond.fieldLink y.cls index (T k).1 (T k).2.1 (T k).2.2.1 ∈ Ts) (hfin : (T k).2.2.2 = true) (hyn : y.name = "<init>") (hdecl : (T k).1 = y.cls) {ty : FieldType} {v : Value} (hd : parseFieldDescriptor (T k).2.2.1 = some ty) (hn : narrow ty v = v) (hfit : fits ty v = true) (hl : k < fs.length)
    (hdg : decode cc pc = .ok (.putfield index, 3)) (hws : ws.set q0 (a, .inr (ci, fs.set k v)) = ws') (kk : ∀ (H1 : Heap) (locs1 : List Loc), ww g A s ws' H1 locs1 → W p l e R s m args below meth c H1 locs1 cells slots Q (F0 m (pc + 3) ls rest)) : W p l e R s m args below meth c H locs cells slots Q (F0 m pc ls (v :: .ref a :: rest)) :=
  va_putF C0.x C0.b C0.ts hin ty0 hty hnm C0.own C0.K hW.1 hW.2.1 hW.2.2 q0 he hc k hk (C0.ts _ hlink) (fun _ h => h) hfin (C0.nm.trans hyn) hdecl hd hn hfit hl hdg (fun H1 l1 h1 h2 h3 => kk H1 l1 (hws ▸ ⟨h1, h2, h3⟩))
theorem x_iald (C0 : bx g p s m meth c args cc maxL ret y Ts A) (hW : ww g A s ws H locs) (q0 t0 : Nat) {cA : ClassId} {n : Nat} {f : Nat → Int32} (ha : ws[q0]? = some (a, .inl (cA, n, .inl f))) (ht : (tyx g)[t0]? = some (cA, .int)) {i : Int32} (hin : vp_in i n) (hdg : decode cc pc = .ok (.iaload, 1))
    (kk : W p l e R s m args below meth c H locs cells slots Q (F0 m (pc + 1) ls (.int (f i.toNatClampNeg) :: rest))) : W p l e R s m args below meth c H locs cells slots Q (F0 m pc ls (.int i :: .ref a :: rest)) :=
  va_iald C0.x C0.b C0.K hW.1 q0 t0 ha ht hin hdg kk
theorem x_iast (C0 : bx g p s m meth c args cc maxL ret y Ts A) (hW : ww g A s ws H locs) (q0 t0 : Nat) {cA : ClassId} {n : Nat} {f : Nat → Int32} (ha : ws[q0]? = some (a, .inl (cA, n, .inl f))) (ht : (tyx g)[t0]? = some (cA, .int)) {i : Int32} {x : Int32} (hin : vp_in i n) (hdg : decode cc pc = .ok (.iastore, 1)) (hws : ws.set q0 (a, .inl (cA, n, .inl (upd f i.toNatClampNeg x))) = ws')
    (kk : ∀ (H1 : Heap) (locs1 : List Loc), ww g A s ws' H1 locs1 → W p l e R s m args below meth c H1 locs1 cells slots Q (F0 m (pc + 1) ls rest)) : W p l e R s m args below meth c H locs cells slots Q (F0 m pc ls (.int x :: .int i :: .ref a :: rest)) :=
  va_iast C0.x C0.b C0.K hW.1 hW.2.1 hW.2.2 q0 t0 ha ht hin hdg (fun H1 l1 h1 h2 h3 => kk H1 l1 (hws ▸ ⟨h1, h2, h3⟩))
theorem x_alen (C0 : bx g p s m meth c args cc maxL ret y Ts A) (hW : ww g A s ws H locs) (q0 t0 : Nat) {cA : ClassId} {x : vp_A} (ha : ws[q0]? = some (a, .inl (cA, x))) {ty : FieldType} (ht : (tyx g)[t0]? = some (cA, ty)) {v : Int32} (hv : Int32.ofNat x.1 = v) (hdg : decode cc pc = .ok (.arraylength, 1))
    (kk : W p l e R s m args below meth c H locs cells slots Q (F0 m (pc + 1) ls (.int v :: rest))) : W p l e R s m args below meth c H locs cells slots Q (F0 m pc ls (.ref a :: rest)) :=
  va_alen C0.x C0.b C0.K hW.1 q0 t0 ha ht hv hdg kk
/-- one class for all arrays of a kind -/
theorem x_RA {U : State} {c1 c2 : ClassId} {ty : FieldType} (h1 : va_RA U c1 ty) (h2 : va_RA U c2 ty) : c1 = c2 := by
  cases ty with
  | object C =>
    obtain ⟨_, _, _, _, _, e1⟩ := h1
    obtain ⟨_, _, _, _, _, e2⟩ := h2
    exact Option.some.inj (e1.symm.trans e2)
  | _ => exact Option.some.inj (Eq.trans (Eq.symm h1) h2)
theorem x_newa (C0 : bx g p s m meth c args cc maxL ret y Ts A) (hW : ww g A s ws H locs) {atype : ArrayType} (harr : Cond.arrayClass (newarray.typeOf atype) ∈ Ts) {ty : FieldType} (hty : newarray.typeOf atype = ty) (t0 : Nat) {cA : ClassId} (ht : (tyx g)[t0]? = some (cA, ty))
    {n : Int32} {N' : Nat} {a0 : vp_A} (ha : ∀ cA : ClassId, vp_cell cA a0 = arrV cA N' (fun _ => defaultValue ty)) (hn : ¬ n < 0) (hN : n.toNatClampNeg = N') (hbytes : N' * componentBytes ty ≤ 536870912) (hcells : cells + 1 ≤ R.cells) (hslots : slots + N' ≤ R.slots) (hdg : decode cc pc = .ok (.newarray atype, 2))
    (kk : ∀ (q : Nat) (H1 : Heap), ww g A s (ws ++ [(q, .inl (cA, a0))]) H1 locs →
      W p l e R s m args below meth c H1 locs (cells + 1) (slots + N') Q (F0 m (pc + 2) ls (.ref q :: rest))) : W p l e R s m args below meth c H locs cells slots Q (F0 m pc ls (.int n :: rest)) := by
  refine va_newa C0.x C0.b (C0.ts _ harr) hty C0.K hW.1 hW.2.1 hW.2.2 C0.hA ha hn hN hbytes hcells hslots hdg (fun q cB H1 hK hP hD hS => ?_)
  have h1 := (C0.K.2 t0 _ ht).2
  have h2 := (hK.2 (tyx g).length (cB, ty) (by rw [List.getElem?_append_right (Nat.le_refl _), Nat.sub_self]; rfl)).2
  have e1 : cB = cA := x_RA h2 h1
  subst e1
  exact kk q H1 ⟨hP, hD, hS⟩
theorem x_new (C0 : bx g p s m meth c args cc maxL ret y Ts A) (hW : ww g A s ws H locs) {C : String} {T : u_T} {N ci index : Nat} (hin : ∀ w ∈ u_ws C T N, w ∈ Ts) (ty : Nat → FieldType) (hty : ∀ k, k < N → parseFieldDescriptor (T k).2.2.1 = some (ty k)) (hcl : Cond.classLink y.cls index C ∈ Ts) (hinst : Cond.instantiable C N ∈ Ts) (hini : Cond.initialized C ∈ Ts)
    (hc : vwCl[ci]? = some (C, T, N)) {fs : List Value} (hfs : ∀ j, j < N → defaultValue (ty j) = vp_V fs j) (hcells : cells + 1 ≤ R.cells) (hslots : slots + N ≤ R.slots) (hdg : decode cc pc = .ok (.new index, 3))
    (kk : ∀ (q : Nat) (H1 : Heap), ww g A s (ws ++ [(q, .inr (ci, fs))]) H1 locs →
      W p l e R s m args below meth c H1 locs (cells + 1) (slots + N) Q (F0 m (pc + 3) ls (.ref q :: rest))) : W p l e R s m args below meth c H locs cells slots Q (F0 m pc ls rest) :=
  va_new C0.x C0.b C0.ts hin ty hty C0.own (C0.ts _ hcl) (C0.ts _ hinst) (C0.ts _ hini) C0.K hW.1 hW.2.1 hW.2.2 C0.hA hc hfs hcells hslots hdg (fun q H1 h1 h2 h3 => kk q H1 ⟨h1, h2, h3⟩)
theorem x_cpy (C0 : bx g p s m meth c args cc maxL ret y Ts A) (hW : ww g A s ws H locs) (hls : ls.size = maxL) {index : Nat} (hlink : Cond.methodLink y.cls index arraycopyName ∈ Ts) (hnat : Cond.native arraycopyName ∈ Ts) (hstat : Cond.static arraycopyName ∈ Ts) (hini : Cond.initialized "java/lang/System" ∈ Ts)
    (q0 q1 t0 : Nat) {a0 : Nat} {c0 : ClassId} {n0 n1 : Nat} {f f1 : Nat → Int32} (ha0 : ws[q0]? = some (a0, .inl (c0, n0, .inl f))) (ha1 : ws[q1]? = some (a, .inl (c0, n1, .inl f1))) (ht0 : (tyx g)[t0]? = some (c0, .int))
    {sp dp n : Int32} (h : ¬ sp < 0 ∧ ¬ dp < 0 ∧ ¬ n < 0 ∧ sp.toNatClampNeg + n.toNatClampNeg ≤ n0 ∧ dp.toNatClampNeg + n.toNatClampNeg ≤ n1)
    (hframes : 1 ≤ R.frames) (hlocals : (rest.map fun v => v.category).sum + (nativeFrameWords "java/lang/System" "arraycopy" 5 + 11) ≤ R.locals) (hdg : decode cc pc = .ok (.invokestatic index, 3)) (hws : ws.set q1 (a, .inl (c0, n1, .inl (va_cpy f f1 sp.toNatClampNeg dp.toNatClampNeg n.toNatClampNeg))) = ws')
    (kk : ∀ (H1 : Heap) (locs1 : List Loc), ww g A s ws' H1 locs1 → W p l e R s m args below meth c H1 locs1 cells slots Q (F0 m (pc + 3) ls rest)) : W p l e R s m args below meth c H locs cells slots Q (F0 m pc ls (.int n :: .int dp :: .ref a :: .int sp :: .ref a0 :: rest)) :=
  va_copyi C0.x C0.b (C0.ml.trans hls.symm) C0.own (C0.ts _ hlink) (C0.ts _ hnat) (C0.ts _ hstat) (C0.ts _ hini) C0.K hW.1 hW.2.1 hW.2.2 q0 q1 t0 t0 ha0 ha1 ht0 ht0 rfl h.1 h.2.1 h.2.2.1 h.2.2.2.1 h.2.2.2.2 (fun _ _ => rfl) hframes hlocals hdg (fun H1 l1 h1 h2 h3 => kk H1 l1 (hws ▸ ⟨h1, h2, h3⟩))
end XB
section XC
variable {g : GX} {p : Program} {l : Launch} {e : Env} {R : Room} {s : State} {m : MethodId} {args : Array Value} {below : List Frame} {meth : Method} {c : Code} {H : Heap} {locs : List Loc} {cells slots : Nat} {Q : State → Prop}
variable {cc : ByteArray} {maxL : Nat} {ret : Option FieldType} {y : MethodName} {Ts : List Cond} {A : Nat → Prop} {ws ws' : va_W} {pc : Nat} {ls : Array Slot} {rest : List Value} {a : Nat}
theorem x_bald (C0 : bx g p s m meth c args cc maxL ret y Ts A) (hW : ww g A s ws H locs) (q0 t0 : Nat) {cA : ClassId} {n : Nat} {f : Nat → Int32} (ha : ws[q0]? = some (a, .inl (cA, n, .inl f))) (ht : (tyx g)[t0]? = some (cA, .byte)) {i : Int32} (hin : vp_in i n) (hdg : decode cc pc = .ok (.baload, 1))
    (kk : W p l e R s m args below meth c H locs cells slots Q (F0 m (pc + 1) ls (.int (f i.toNatClampNeg) :: rest))) : W p l e R s m args below meth c H locs cells slots Q (F0 m pc ls (.int i :: .ref a :: rest)) :=
  va_bald C0.x C0.b C0.K hW.1 q0 t0 ha ht hin hdg kk
theorem x_bast (C0 : bx g p s m meth c args cc maxL ret y Ts A) (hW : ww g A s ws H locs) (q0 t0 : Nat) {cA : ClassId} {n : Nat} {f : Nat → Int32} (ha : ws[q0]? = some (a, .inl (cA, n, .inl f))) (ht : (tyx g)[t0]? = some (cA, .byte)) {i : Int32} {x : Int32} (hin : vp_in i n) (hdg : decode cc pc = .ok (.bastore, 1)) (hws : ws.set q0 (a, .inl (cA, n, .inl (upd f i.toNatClampNeg (vp_nar .byte x)))) = ws')
    (kk : ∀ (H1 : Heap) (locs1 : List Loc), ww g A s ws' H1 locs1 → W p l e R s m args below meth c H1 locs1 cells slots Q (F0 m (pc + 1) ls rest)) : W p l e R s m args below meth c H locs cells slots Q (F0 m pc ls (.int x :: .int i :: .ref a :: rest)) :=
  va_bast C0.x C0.b C0.K hW.1 hW.2.1 hW.2.2 q0 t0 ha ht hin hdg (fun H1 l1 h1 h2 h3 => kk H1 l1 (hws ▸ ⟨h1, h2, h3⟩))
theorem x_last (C0 : bx g p s m meth c args cc maxL ret y Ts A) (hW : ww g A s ws H locs) (q0 t0 : Nat) {cA : ClassId} {n : Nat} {f : Nat → Int64} (ha : ws[q0]? = some (a, .inl (cA, n, .inr (.inl f)))) (ht : (tyx g)[t0]? = some (cA, .long)) {i : Int32} {x : Int64} (hin : vp_in i n) (hdg : decode cc pc = .ok (.lastore, 1)) (hws : ws.set q0 (a, .inl (cA, n, .inr (.inl (vp_updL f i.toNatClampNeg x)))) = ws')
    (kk : ∀ (H1 : Heap) (locs1 : List Loc), ww g A s ws' H1 locs1 → W p l e R s m args below meth c H1 locs1 cells slots Q (F0 m (pc + 1) ls rest)) : W p l e R s m args below meth c H locs cells slots Q (F0 m pc ls (.long x :: .int i :: .ref a :: rest)) :=
  va_last C0.x C0.b C0.K hW.1 hW.2.1 hW.2.2 q0 t0 ha ht hin hdg (fun H1 l1 h1 h2 h3 => kk H1 l1 (hws ▸ ⟨h1, h2, h3⟩))
/-- the static tables -/
theorem x_name (C0 : bx g p s m meth c args cc maxL ret y Ts A) (hW : ww g A s ws H locs) {index : Nat} {host : String} (hlink : (y.cls, index, "SnapHouse", "NAME", "[I", host) ∈ nw_F) (hdg : decode cc pc = .ok (.getstatic index, 3))
    (kk : W p l e R s m args below meth c H locs cells slots Q (F0 m (pc + 3) ls (.ref g.2.2.1 :: rest))) : W p l e R s m args below meth c H locs cells slots Q (F0 m pc ls rest) :=
  va_getsN C0.x C0.b C0.Z.2.1 hW.2.2 C0.own (va_Nw.use rfl (C0.Z.1.1 _ hlink)) (fun _ h => h) hdg kk
theorem x_crct (C0 : bx g p s m meth c args cc maxL ret y Ts A) (hW : ww g A s ws H locs) {index : Nat} (hlink : Cond.fieldLink y.cls index "SnapHouse$Bytes" "CRC_STEPS" "[I" ∈ Ts) (hdg : decode cc pc = .ok (.getstatic index, 3))
    (kk : W p l e R s m args below meth c H locs cells slots Q (F0 m (pc + 3) ls (.ref g.2.2.2 :: rest))) : W p l e R s m args below meth c H locs cells slots Q (F0 m pc ls rest) :=
  va_gets C0.x C0.b C0.Z.2.2.2.1 hW.2.2 C0.own (C0.ts _ hlink) (fun _ h => h) hdg kk
theorem x_nameld (C0 : bx g p s m meth c args cc maxL ret y Ts A) (hW : ww g A s ws H locs) {i : Int32} (hin : vp_in i 6) (hdg : decode cc pc = .ok (.iaload, 1))
    (kk : W p l e R s m args below meth c H locs cells slots Q (F0 m (pc + 1) ls (.int (tb_N.getD i.toNatClampNeg 0) :: rest))) : W p l e R s m args below meth c H locs cells slots Q (F0 m pc ls (.int i :: .ref g.2.2.1 :: rest)) :=
  va_ti C0.x C0.b C0.Z.2.2.1 hW.2.2 hin rfl hdg kk
theorem x_crcld (C0 : bx g p s m meth c args cc maxL ret y Ts A) (hW : ww g A s ws H locs) {i : Int32} (hin : vp_in i 16) (hdg : decode cc pc = .ok (.iaload, 1))
    (kk : W p l e R s m args below meth c H locs cells slots Q (F0 m (pc + 1) ls (.int (tb_C.getD i.toNatClampNeg 0) :: rest))) : W p l e R s m args below meth c H locs cells slots Q (F0 m pc ls (.int i :: .ref g.2.2.2 :: rest)) :=
  va_ti C0.x C0.b C0.Z.2.2.2.2 hW.2.2 hin rfl hdg kk
theorem x_namelen (C0 : bx g p s m meth c args cc maxL ret y Ts A) (hW : ww g A s ws H locs) (hdg : decode cc pc = .ok (.arraylength, 1))
    (kk : W p l e R s m args below meth c H locs cells slots Q (F0 m (pc + 1) ls (.int (Int32.ofNat 6) :: rest))) : W p l e R s m args below meth c H locs cells slots Q (F0 m pc ls (.ref g.2.2.1 :: rest)) :=
  va_tlen C0.x C0.b C0.Z.2.2.1 hW.2.2 rfl hdg kk
theorem x_max (C0 : bx g p s m meth c args cc maxL ret y Ts A) (hls : ls.size = maxL) {index : Nat} (hlink : Cond.methodLink y.cls index Lib.Math.max.name ∈ Ts) (hstat : Cond.static Lib.Math.max.name ∈ Ts) (hini : Cond.initialized "java/lang/Math" ∈ Ts) (hcode : Cond.code Lib.Math.max.name Lib.Math.max.code 2 (some .int) ∈ Ts)
    (hframes : 1 ≤ R.frames) (hlocals : (rest.map fun v => v.category).sum + 13 ≤ R.locals) (hc : cells ≤ R.cells) (hs : slots ≤ R.slots) {x z : Int32} (hdg : decode cc pc = .ok (.invokestatic index, 3))
    (kk : W p l e R s m args below meth c H locs cells slots Q (F0 m (pc + 3) ls (.int (if x < z then z else x) :: rest))) : W p l e R s m args below meth c H locs cells slots Q (F0 m pc ls (.int z :: .int x :: rest)) :=
  va_mmax C0.x C0.b (C0.ml.trans hls.symm) C0.own (C0.ts _ hlink) (C0.ts _ hstat) (C0.ts _ hini) (C0.ts _ hcode) hframes hlocals hc hs hdg kk
theorem x_min (C0 : bx g p s m meth c args cc maxL ret y Ts A) (hls : ls.size = maxL) {index : Nat} (hlink : Cond.methodLink y.cls index Lib.Math.min.name ∈ Ts) (hstat : Cond.static Lib.Math.min.name ∈ Ts) (hini : Cond.initialized "java/lang/Math" ∈ Ts) (hcode : Cond.code Lib.Math.min.name Lib.Math.min.code 2 (some .int) ∈ Ts)
    (hframes : 1 ≤ R.frames) (hlocals : (rest.map fun v => v.category).sum + 13 ≤ R.locals) (hc : cells ≤ R.cells) (hs : slots ≤ R.slots) {x z : Int32} (hdg : decode cc pc = .ok (.invokestatic index, 3))
    (kk : W p l e R s m args below meth c H locs cells slots Q (F0 m (pc + 3) ls (.int (if z < x then z else x) :: rest))) : W p l e R s m args below meth c H locs cells slots Q (F0 m pc ls (.int z :: .int x :: rest)) :=
  va_mmin C0.x C0.b (C0.ml.trans hls.symm) C0.own (C0.ts _ hlink) (C0.ts _ hstat) (C0.ts _ hini) (C0.ts _ hcode) hframes hlocals hc hs hdg kk
theorem x_obj (C0 : bx g p s m meth c args cc maxL ret y Ts A) (hls : ls.size = maxL) {index : Nat} (hlink : Cond.methodLink y.cls index objectInit ∈ Ts) (hinst : Cond.instanceMethod objectInit ∈ Ts) (hcode : Cond.code objectInit ⟨#[0xb1]⟩ 1 none ∈ Ts) (hdg : decode cc pc = .ok (.invokespecial index, 3))
    (hframes : 1 ≤ R.frames) (hlocals : 2 * (F0 m pc ls (.ref a :: rest)).monitorRoom + (rest.map fun v => v.category).sum + 12 ≤ R.locals)
    (kk : W p l e R s m args below meth c H locs cells slots Q (F0 m (pc + 3) ls rest)) : W p l e R s m args below meth c H locs cells slots Q (F0 m pc ls (.ref a :: rest)) :=
  W.objInit C0.x C0.b C0.own (C0.ts _ hlink) (C0.ts _ hinst) (C0.ts _ hcode) rfl (hls.trans C0.ml.symm) rfl hdg hframes hlocals kk
/-- BEFORE A CALL: the callee's cells are cut out -/
theorem pcc_of {wc : va_W} {av : List Value} (C0 : bx g p s m meth c args cc maxL ret y Ts A) (hW : ww g A s ws H locs) (isC : List Nat) (hC : isC.map (fun i => ws[i]?) = wc.map some) (hn : va_nd isC = true) : PreS s H (pcc g av wc H.size) av := by
  have hP : va_P g.1 vwCl wc H := hW.1.sub isC (by
    have : (isC.map (fun i => ws[i]?)).filterMap id = wc := by rw [hC, List.filterMap_map]; simp
    rw [← this, List.filterMap_map]; rfl)
  have hD := hW.2.1.sub isC hn hC
  have hF := va_free hW.2.1 hW.2.2 C0.hA isC hC
  refine ⟨fun a U g' mk q => ?_, fun U hU hWU => ?_⟩
  · obtain ⟨q0, q1, qP, qK, qD, qZ⟩ := q
    exact ⟨q0, q1, qP, va_K.moved (u := U) (U := U.calling g' mk a) (Vm.Alike.refl U.vm) qK, qD, zz_same qZ rfl⟩
  · exact ⟨rfl, by rw [hU], by rw [hU]; exact hP, va_K.moved hWU.alike C0.K, hD.weaken (fun _ _ _ _ => trivial), by rw [hU]; exact zz_to C0.Z hWU (fun a h1 h2 => hW.2.2.2.1 a h1 h2) hF⟩
theorem pcv_of {wc : va_W} {b ci q0 : Nat} {fs : List Value} {As : List Value} {q : vw_C} (C0 : bx g p s m meth c args cc maxL ret y Ts A) (hW : ww g A s ws H locs) (isC : List Nat) (hC : isC.map (fun i => ws[i]?) = wc.map some) (hn : va_nd isC = true) (he : ws[q0]? = some (b, .inr (ci, fs))) (hc : vwCl[ci]? = some q) : PreV s H q.1 b (pcc g (.ref b :: As) wc H.size) As :=
  ⟨(pcc_of C0 hW isC hC hn).1, va_recv C0.K hW.1 hc he, (pcc_of (av := .ref b :: As) C0 hW isC hC hn).2⟩
/-- BEHIND A CALL: the callee's new world beside the rest, in the order that is wanted -/
theorem ww_join {wc w1 : va_W} {H1 : Heap} {locs1 : List Loc} (C0 : bx g p s m meth c args cc maxL ret y Ts A) (hW : ww g A s ws H locs) (isC isR isF : List Nat) (hC : isC.map (fun i => ws[i]?) = wc.map some) (hR : isR.map (fun i => ws[i]?) = (pick ws isR).map some) (hn : va_nd isR = true) (hdis : ∀ i ∈ isR, i ∉ isC)
    (hk : ∀ q : Nat, q < H.size → ¬ va_A wc H.size q → H1[q]? = H[q]?) (hP1 : va_P g.1 vwCl w1 H1) (hD1 : va_D (va_A wc H.size) w1) (hS : va_S A s.heap H1 locs1) (hF : isF.map (fun i => (pick ws isR ++ w1)[i]?) = ws'.map some) (hnF : va_nd isF = true) : ww g A s ws' H1 locs1 := by
  obtain ⟨hP, hD⟩ := va_join hW.1 hW.2.1 isC isR hC hR hn hdis hk (va_free hW.2.1 hW.2.2 C0.hA isC hC) hP1 hD1
  refine ⟨hP.sub isF (by
    have : (isF.map (fun i => (pick ws isR ++ w1)[i]?)).filterMap id = ws' := by rw [hF, List.filterMap_map]; simp
    rw [← this, List.filterMap_map]; rfl), hD.sub isF hnF hF, hS⟩
section Go
variable {wc wo : va_W} {mc ms : Nat} {st0 : List Value} {av : Array Value}
theorem go_i {r0 : Int32} (C0 : bx g p s m meth c args cc maxL ret y Ts A) (hW : ww g A s ws H locs) (isC isR isF : List Nat) (hr : va_Run p l e R s m args below meth c H locs cells slots mc ms (F0 m pc ls st0) rest (qcI g wc H.size r0 wo av) (va_A wc H.size))
    (hC : isC.map (fun i => ws[i]?) = wc.map some) (hR : isR.map (fun i => ws[i]?) = (pick ws isR).map some) (hn : va_nd isR = true) (hdis : ∀ i ∈ isR, i ∉ isC) (hF : isF.map (fun i => (pick ws isR ++ wo)[i]?) = ws'.map some) (hnF : va_nd isF = true)
    (kk : ∀ (H1 : Heap) (locs1 : List Loc), ww g A s ws' H1 locs1 → W p l e R s m args below meth c H1 locs1 (cells + mc) (slots + ms) Q (F0 m (pc + 3) ls (.int r0 :: rest))) : W p l e R s m args below meth c H locs cells slots Q (F0 m pc ls st0) := by
  have hFc := va_free hW.2.1 hW.2.2 C0.hA isC hC
  refine va_calli hr hW.2.2 (fun q _ h => hFc q h) hFc (fun r u t H1 locs1 ht hvm hw hB hz1 hk1 hS => ?_)
  obtain ⟨hP1, hK1, hD1⟩ := hB
  rw [ht] at hP1
  subst hw
  exact kk H1 locs1 (ww_join C0 hW isC isR isF hC hR hn hdis hk1 hP1 hD1 hS hF hnF)
theorem go_l {r0 : Int64} (C0 : bx g p s m meth c args cc maxL ret y Ts A) (hW : ww g A s ws H locs) (isC isR isF : List Nat) (hr : va_Run p l e R s m args below meth c H locs cells slots mc ms (F0 m pc ls st0) rest (qcL g wc H.size r0 wo av) (va_A wc H.size))
    (hC : isC.map (fun i => ws[i]?) = wc.map some) (hR : isR.map (fun i => ws[i]?) = (pick ws isR).map some) (hn : va_nd isR = true) (hdis : ∀ i ∈ isR, i ∉ isC) (hF : isF.map (fun i => (pick ws isR ++ wo)[i]?) = ws'.map some) (hnF : va_nd isF = true)
    (kk : ∀ (H1 : Heap) (locs1 : List Loc), ww g A s ws' H1 locs1 → W p l e R s m args below meth c H1 locs1 (cells + mc) (slots + ms) Q (F0 m (pc + 3) ls (.long r0 :: rest))) : W p l e R s m args below meth c H locs cells slots Q (F0 m pc ls st0) := by
  have hFc := va_free hW.2.1 hW.2.2 C0.hA isC hC
  refine va_calll hr hW.2.2 (fun q _ h => hFc q h) hFc (fun r u t H1 locs1 ht hvm hw hB hz1 hk1 hS => ?_)
  obtain ⟨hP1, hK1, hD1⟩ := hB
  rw [ht] at hP1
  subst hw
  exact kk H1 locs1 (ww_join C0 hW isC isR isF hC hR hn hdis hk1 hP1 hD1 hS hF hnF)
theorem go_v (C0 : bx g p s m meth c args cc maxL ret y Ts A) (hW : ww g A s ws H locs) (isC isR isF : List Nat) (hr : va_Run p l e R s m args below meth c H locs cells slots mc ms (F0 m pc ls st0) rest (qcV g wc H.size wo av) (va_A wc H.size))
    (hC : isC.map (fun i => ws[i]?) = wc.map some) (hR : isR.map (fun i => ws[i]?) = (pick ws isR).map some) (hn : va_nd isR = true) (hdis : ∀ i ∈ isR, i ∉ isC) (hF : isF.map (fun i => (pick ws isR ++ wo)[i]?) = ws'.map some) (hnF : va_nd isF = true)
    (kk : ∀ (H1 : Heap) (locs1 : List Loc), ww g A s ws' H1 locs1 → W p l e R s m args below meth c H1 locs1 (cells + mc) (slots + ms) Q (F0 m (pc + 3) ls rest)) : W p l e R s m args below meth c H locs cells slots Q (F0 m pc ls st0) := by
  have hFc := va_free hW.2.1 hW.2.2 C0.hA isC hC
  refine va_callv hr hW.2.2 (fun q _ h => hFc q h) hFc (fun u t H1 locs1 ht hvm hw hB hz1 hk1 hS => ?_)
  obtain ⟨hP1, hK1, hD1⟩ := hB
  rw [ht] at hP1
  exact kk H1 locs1 (ww_join C0 hW isC isR isF hC hR hn hdis hk1 hP1 hD1 hS hF hnF)
theorem go_n {S : Type} {wo : S → va_W} {wsn : S → va_W} (C0 : bx g p s m meth c args cc maxL ret y Ts A) (hW : ww g A s ws H locs) (isC isR isF : List Nat) (hr : va_Run p l e R s m args below meth c H locs cells slots mc ms (F0 m pc ls st0) rest (qcN g wc H.size wo av) (va_A wc H.size))
    (hC : isC.map (fun i => ws[i]?) = wc.map some) (hR : isR.map (fun i => ws[i]?) = (pick ws isR).map some) (hn : va_nd isR = true) (hdis : ∀ i ∈ isR, i ∉ isC) (hF : ∀ u, isF.map (fun i => (pick ws isR ++ wo u)[i]?) = (wsn u).map some) (hnF : va_nd isF = true)
    (kk : ∀ (u : S) (H1 : Heap) (locs1 : List Loc), ww g A s (wsn u) H1 locs1 → W p l e R s m args below meth c H1 locs1 (cells + mc) (slots + ms) Q (F0 m (pc + 3) ls rest)) : W p l e R s m args below meth c H locs cells slots Q (F0 m pc ls st0) := by
  have hFc := va_free hW.2.1 hW.2.2 C0.hA isC hC
  refine va_callv hr hW.2.2 (fun q _ h => hFc q h) hFc (fun u t H1 locs1 ht hvm hw hB hz1 hk1 hS => ?_)
  obtain ⟨hP1, hK1, hD1⟩ := hB
  rw [ht] at hP1
  exact kk u H1 locs1 (ww_join C0 hW isC isR isF hC hR hn hdis hk1 hP1 hD1 hS (hF u) hnF)
end Go
/-- A METHOD'S ENDS -/
theorem x_iret {wc wo : va_W} {r0 v : Int32} {ty : FieldType} (C0 : bx g p s m meth c args cc maxL (some ty) y Ts (va_A wc s.heap.size)) (hW : ww g (va_A wc s.heap.size) s wo H locs) (hn : narrow ty (.int v) = .int v) (hv : v = r0) (hdg : decode cc pc = .ok (.ireturn, 1)) :
    W p l e R s m args below meth c H locs cells slots (MQ below (qcI g wc s.heap.size r0 wo) args s cells slots (va_A wc s.heap.size)) (F0 m pc ls [.int v]) :=
  have hlk := C0.lk
  W.zret C0.x C0.b C0.r hn (fun t ht hWt => ⟨⟨v, (), rfl, hv, by rw [ht]; exact hW.1, va_K.moved hWt.alike C0.K, hW.2.1⟩, hW.2.2.F ht⟩) hW.2.2.2.2 hdg hlk
theorem x_lret {wc wo : va_W} {r0 v : Int64} (C0 : bx g p s m meth c args cc maxL (some .long) y Ts (va_A wc s.heap.size)) (hW : ww g (va_A wc s.heap.size) s wo H locs) (hv : v = r0) (hdg : decode cc pc = .ok (.lreturn, 1)) :
    W p l e R s m args below meth c H locs cells slots (MQ below (qcL g wc s.heap.size r0 wo) args s cells slots (va_A wc s.heap.size)) (F0 m pc ls [.long v]) :=
  have hlk := C0.lk
  W.lret C0.x C0.b C0.r (fun t ht hWt => ⟨⟨v, (), rfl, hv, by rw [ht]; exact hW.1, va_K.moved hWt.alike C0.K, hW.2.1⟩, hW.2.2.F ht⟩) hW.2.2.2.2 hdg hlk
theorem x_vret {wc wo : va_W} (C0 : bx g p s m meth c args cc maxL none y Ts (va_A wc s.heap.size)) (hW : ww g (va_A wc s.heap.size) s wo H locs) (hdg : decode cc pc = .ok (.return_, 1)) :
    W p l e R s m args below meth c H locs cells slots (MQ below (qcV g wc s.heap.size wo) args s cells slots (va_A wc s.heap.size)) (F0 m pc ls []) :=
  have hlk := C0.lk
  W.vret C0.x C0.b C0.r (fun t ht hWt => ⟨⟨(), rfl, trivial, by rw [ht]; exact hW.1, va_K.moved hWt.alike C0.K, hW.2.1⟩, hW.2.2.F ht⟩) hW.2.2.2.2 hdg hlk
theorem x_nret {wc : va_W} {S : Type} {wo : S → va_W} (u : S) (C0 : bx g p s m meth c args cc maxL none y Ts (va_A wc s.heap.size)) (hW : ww g (va_A wc s.heap.size) s (wo u) H locs) (hdg : decode cc pc = .ok (.return_, 1)) :
    W p l e R s m args below meth c H locs cells slots (MQ below (qcN g wc s.heap.size wo) args s cells slots (va_A wc s.heap.size)) (F0 m pc ls []) :=
  have hlk := C0.lk
  W.vret C0.x C0.b C0.r (fun t ht hWt => ⟨⟨u, rfl, trivial, by rw [ht]; exact hW.1, va_K.moved hWt.alike C0.K, hW.2.1⟩, hW.2.2.F ht⟩) hW.2.2.2.2 hdg hlk
end XC
/-- A METHOD'S START: any contract out of a walk of its body -/
theorem x_start {g : GX} {l : Launch} {y : MethodName} {wsy wsy' : List Cond} {rm : Room} {av : List Value} {wc : va_W} {cc : ByteArray} {maxL : Nat} {ret : Option FieldType} {Qc : Nat → Array Value → State → Outcome → State → Prop} {mc ms : Nat} (hy : plainName y.cls = true) (hw : wsy = Cond.code y cc maxL ret :: wsy') (hn : (lg_sl av).length ≤ maxL)
    (body : ∀ (p : Program) (e : Env) (s : State) (m : MethodId) (below : List Frame) (meth : Method) (c : Code) (ls : Array Slot), bx g p s m meth c av.toArray cc maxL ret y wsy (va_A wc s.heap.size) → ww g (va_A wc s.heap.size) s wc s.heap [] → lv_has ls maxL (lv_args 0 av) →
      W p l e rm s m av.toArray below meth c s.heap [] 0 0 (MQ below (Qc s.heap.size) av.toArray s mc ms (va_A wc s.heap.size)) (F0 m 0 ls [])) : ∀ sz : Nat, Met l y wsy rm (pcc g av wc sz) (Qc sz) mc ms (va_A wc sz) := by
  intro sz
  refine Met.ofW (cc := cc) (maxL := maxL) (ret := ret) hy hw ?_
  intro p e s m args below meth c s₁ B hml hv
  obtain ⟨rfl, hsz, hP, hK, hD0, hZ⟩ := hv
  subst hsz
  have hl := lv_entry av (n := maxL) hn
  rw [lg_entry_eq]
  generalize (lg_sl av ++ List.replicate (maxL - (lg_sl av).length) Slot.unset).toArray = ls at hl ⊢
  exact body p e s m below meth c ls ⟨B.exec, B.bytes, B.returns, hml, findClass_of_methodNamed B.named, atoms_spec (ws := wsy) B.pre, fun q h => Or.inr h, B.notSynchronized, hK, hZ, (name_of_methodNamed B.named B.method).1⟩ ⟨hP, hD0.self, va_S.rf⟩ hl
end
section
set_option maxRecDepth 100000 in
theorem wall_good : ∀ w ∈ wsL_law0, (w.onTables && w.keeps) = true ∨ ∃ ty, w = .arrayClass ty := fun w h => good_of_word (List.all_eq_true.mp (by decide +kernel : wsL_law0.all goodWord = true) w h)
theorem iw_X6 {cw : Cond} : ∀ w ∈ u_ws RX6 TX6 12, w ∈ cw :: wsL_law0 := fun w h => List.mem_cons_of_mem _ (List.mem_append_left _ (List.mem_append_left _ (List.mem_append_left _ (List.mem_append_left _ (List.mem_append_left _ (List.mem_append_left _ (List.mem_append_left _ (List.mem_append_left _ (List.mem_append_right _ h)))))))))
theorem iw_X7 {cw : Cond} : ∀ w ∈ u_ws RX7 TX7 33, w ∈ cw :: wsL_law0 := fun w h => List.mem_cons_of_mem _ (List.mem_append_left _ (List.mem_append_left _ (List.mem_append_left _ (List.mem_append_left _ (List.mem_append_left _ (List.mem_append_left _ (List.mem_append_left _ (List.mem_append_right _ h))))))))
theorem iw_X1 {cw : Cond} : ∀ w ∈ u_ws RX1 TX1 2, w ∈ cw :: wsL_law0 := fun w h => List.mem_cons_of_mem _ (List.mem_append_left _ (List.mem_append_left _ (List.mem_append_left _ (List.mem_append_left _ (List.mem_append_left _ (List.mem_append_left _ (List.mem_append_right _ h)))))))
theorem iw_X2 {cw : Cond} : ∀ w ∈ u_ws RX2 TX2 3, w ∈ cw :: wsL_law0 := fun w h => List.mem_cons_of_mem _ (List.mem_append_left _ (List.mem_append_left _ (List.mem_append_left _ (List.mem_append_left _ (List.mem_append_left _ (List.mem_append_right _ h))))))
theorem iw_X4 {cw : Cond} : ∀ w ∈ u_ws RX4 TX4 1, w ∈ cw :: wsL_law0 := fun w h => List.mem_cons_of_mem _ (List.mem_append_left _ (List.mem_append_left _ (List.mem_append_left _ (List.mem_append_left _ (List.mem_append_right _ h)))))
theorem iw_X0 {cw : Cond} : ∀ w ∈ u_ws RX0 TX0 12, w ∈ cw :: wsL_law0 := fun w h => List.mem_cons_of_mem _ (List.mem_append_left _ (List.mem_append_left _ (List.mem_append_left _ (List.mem_append_right _ h))))
theorem iw_X5 {cw : Cond} : ∀ w ∈ u_ws RX5 TX5 8, w ∈ cw :: wsL_law0 := fun w h => List.mem_cons_of_mem _ (List.mem_append_left _ (List.mem_append_left _ (List.mem_append_right _ h)))
theorem iw_X3 {cw : Cond} : ∀ w ∈ u_ws RX3 TX3 3, w ∈ cw :: wsL_law0 := fun w h => List.mem_cons_of_mem _ (List.mem_append_left _ (List.mem_append_right _ h))
theorem gw_0 {cw cy : Cond} (h5 : cy ∈ wsL_law0) : GoodIn (cw :: wsL_law0) (cy :: wsL_law0) := by
  intro w h
  have hm : w ∈ wsL_law0 := (List.mem_cons.mp h).elim (fun e => e ▸ h5) id
  exact ⟨List.mem_cons_of_mem _ hm, wall_good w hm⟩
theorem gw_V {cw cy : Cond} {own C : String} {idx : Nat} {y : MethodName} (h1 : Cond.methodLink own idx y ∈ wsL_law0) (h2 : Cond.instanceMethod y ∈ wsL_law0) (h3 : Cond.selects C y y ∈ wsL_law0) (h4 : Cond.initialized C ∈ wsL_law0) (h5 : cy ∈ wsL_law0) : GoodIn (cw :: wsL_law0) (wsV own idx C y (cy :: wsL_law0)) := by
  intro w h
  unfold wsV at h
  rcases List.mem_append.mp h with h | h
  · have hm : w ∈ wsL_law0 := by
      simp only [List.mem_cons, List.not_mem_nil, or_false] at h
      rcases h with rfl | rfl | rfl | rfl
      · exact h1
      · exact h2
      · exact h3
      · exact h4
    exact ⟨List.mem_cons_of_mem _ hm, wall_good w hm⟩
  · exact gw_0 h5 w h
theorem gw_S {cw cy : Cond} {own : String} {idx : Nat} {y : MethodName} (h1 : Cond.methodLink own idx y ∈ wsL_law0) (h2 : Cond.static y ∈ wsL_law0) (h4 : Cond.initialized y.cls ∈ wsL_law0) (h5 : cy ∈ wsL_law0) : GoodIn (cw :: wsL_law0) (va_wsS own idx y (cy :: wsL_law0)) := by
  intro w h
  unfold va_wsS at h
  rcases List.mem_append.mp h with h | h
  · have hm : w ∈ wsL_law0 := by
      simp only [List.mem_cons, List.not_mem_nil, or_false] at h
      rcases h with rfl | rfl | rfl
      · exact h1
      · exact h2
      · exact h4
    exact ⟨List.mem_cons_of_mem _ hm, wall_good w hm⟩
  · exact gw_0 h5 w h
set_option maxRecDepth 100000 in
theorem wl_2 : Cond.initialized RX6 ∈ wsL_law0 := List.mem_of_getElem? (i := 2) rfl
set_option maxRecDepth 100000 in
theorem wl_5 : Cond.initialized RX7 ∈ wsL_law0 := List.mem_of_getElem? (i := 5) rfl
set_option maxRecDepth 100000 in
theorem wl_15 : Cond.initialized RX1 ∈ wsL_law0 := List.mem_of_getElem? (i := 15) rfl
set_option maxRecDepth 100000 in
theorem wl_16 : Cond.fieldLink RX6 14 "SnapHouse" "theTape" "LSnapHouse$Bytes;" ∈ wsL_law0 := List.mem_of_getElem? (i := 16) rfl
set_option maxRecDepth 100000 in
theorem wl_17 : Cond.fieldLink RX6 18 "SnapHouse" "theOut" "LSnapHouse$Bytes;" ∈ wsL_law0 := List.mem_of_getElem? (i := 17) rfl
set_option maxRecDepth 100000 in
theorem wl_20 : Cond.initialized RX2 ∈ wsL_law0 := List.mem_of_getElem? (i := 20) rfl
set_option maxRecDepth 100000 in
theorem wl_21 : Cond.fieldLink RX6 24 "SnapHouse" "presser" "LSnapHouse$Presser;" ∈ wsL_law0 := List.mem_of_getElem? (i := 21) rfl
set_option maxRecDepth 100000 in
theorem wl_24 : Cond.initialized RX4 ∈ wsL_law0 := List.mem_of_getElem? (i := 24) rfl
set_option maxRecDepth 100000 in
theorem wl_25 : Cond.fieldLink RX6 31 "SnapHouse" "streamMaker" "LSnapHouse$StreamMaker;" ∈ wsL_law0 := List.mem_of_getElem? (i := 25) rfl
set_option maxRecDepth 100000 in
theorem wl_28 : Cond.initialized RX0 ∈ wsL_law0 := List.mem_of_getElem? (i := 28) rfl
set_option maxRecDepth 100000 in
theorem wl_29 : Cond.fieldLink RX6 38 "SnapHouse" "blockOpener" "LSnapHouse$BlockOpener;" ∈ wsL_law0 := List.mem_of_getElem? (i := 29) rfl
set_option maxRecDepth 100000 in
theorem wl_32 : Cond.initialized RX5 ∈ wsL_law0 := List.mem_of_getElem? (i := 32) rfl
set_option maxRecDepth 100000 in
theorem wl_33 : Cond.fieldLink RX6 45 "SnapHouse" "streamOpener" "LSnapHouse$StreamOpener;" ∈ wsL_law0 := List.mem_of_getElem? (i := 33) rfl
set_option maxRecDepth 100000 in
theorem wl_36 : Cond.initialized RX3 ∈ wsL_law0 := List.mem_of_getElem? (i := 36) rfl
set_option maxRecDepth 100000 in
theorem wl_37 : Cond.fieldLink RX6 52 "SnapHouse" "keptElements" "LSnapHouse$Rows;" ∈ wsL_law0 := List.mem_of_getElem? (i := 37) rfl
set_option maxRecDepth 100000 in
theorem wl_38 : Cond.fieldLink RX6 56 "SnapHouse" "keptChunks" "LSnapHouse$Rows;" ∈ wsL_law0 := List.mem_of_getElem? (i := 38) rfl
set_option maxRecDepth 100000 in
theorem wl_39 : Cond.fieldLink RX6 59 "SnapHouse" "faultNumber" "I" ∈ wsL_law0 := List.mem_of_getElem? (i := 39) rfl
set_option maxRecDepth 100000 in
theorem wl_40 : Cond.fieldLink RX6 63 "SnapHouse" "faultPlace" "I" ∈ wsL_law0 := List.mem_of_getElem? (i := 40) rfl
set_option maxRecDepth 100000 in
theorem wl_41 : Cond.fieldLink RX6 66 "SnapHouse" "faultOfBlock" "I" ∈ wsL_law0 := List.mem_of_getElem? (i := 41) rfl
set_option maxRecDepth 100000 in
theorem wl_42 : Cond.fieldLink RX6 69 "SnapHouse" "faultPlaceInBlock" "I" ∈ wsL_law0 := List.mem_of_getElem? (i := 42) rfl
set_option maxRecDepth 100000 in
theorem wl_47 : Cond.fieldLink RX1 9 "SnapHouse$Bytes" "count" "I" ∈ wsL_law0 := List.mem_of_getElem? (i := 47) rfl
set_option maxRecDepth 100000 in
theorem wl_49 : Cond.static Lib.Math.max.name ∈ wsL_law0 := List.mem_of_getElem? (i := 49) rfl
set_option maxRecDepth 100000 in
theorem wl_50 : Cond.initialized "java/lang/Math" ∈ wsL_law0 := List.mem_of_getElem? (i := 50) rfl
set_option maxRecDepth 100000 in
theorem wl_51 : Cond.code Lib.Math.max.name Lib.Math.max.code 2 (some .int) ∈ wsL_law0 := List.mem_of_getElem? (i := 51) rfl
set_option maxRecDepth 100000 in
theorem wl_53 : Cond.fieldLink RX1 21 "SnapHouse$Bytes" "row" "[I" ∈ wsL_law0 := List.mem_of_getElem? (i := 53) rfl
set_option maxRecDepth 100000 in
theorem wl_58 : Cond.fieldLink RX2 14 "SnapHouse$Presser" "block" "LSnapHouse$Bytes;" ∈ wsL_law0 := List.mem_of_getElem? (i := 58) rfl
set_option maxRecDepth 100000 in
theorem wl_60 : Cond.fieldLink RX2 21 "SnapHouse$Presser" "slots" "[I" ∈ wsL_law0 := List.mem_of_getElem? (i := 60) rfl
set_option maxRecDepth 100000 in
theorem wl_61 : Cond.fieldLink RX2 25 "SnapHouse$Presser" "slotMask" "I" ∈ wsL_law0 := List.mem_of_getElem? (i := 61) rfl
set_option maxRecDepth 100000 in
theorem wl_67 : Cond.fieldLink RX4 14 "SnapHouse$StreamMaker" "made" "LSnapHouse$Bytes;" ∈ wsL_law0 := List.mem_of_getElem? (i := 67) rfl
set_option maxRecDepth 100000 in
theorem wl_73 : Cond.fieldLink RX0 14 "SnapHouse$BlockOpener" "given" "LSnapHouse$Bytes;" ∈ wsL_law0 := List.mem_of_getElem? (i := 73) rfl
set_option maxRecDepth 100000 in
theorem wl_75 : Cond.fieldLink RX0 23 "SnapHouse$BlockOpener" "elements" "LSnapHouse$Rows;" ∈ wsL_law0 := List.mem_of_getElem? (i := 75) rfl
set_option maxRecDepth 100000 in
theorem wl_76 : Cond.fieldLink RX0 27 "SnapHouse$BlockOpener" "fault" "I" ∈ wsL_law0 := List.mem_of_getElem? (i := 76) rfl
set_option maxRecDepth 100000 in
theorem wl_77 : Cond.fieldLink RX0 31 "SnapHouse$BlockOpener" "place" "I" ∈ wsL_law0 := List.mem_of_getElem? (i := 77) rfl
set_option maxRecDepth 100000 in
theorem wl_78 : Cond.fieldLink RX0 34 "SnapHouse$BlockOpener" "start" "I" ∈ wsL_law0 := List.mem_of_getElem? (i := 78) rfl
set_option maxRecDepth 100000 in
theorem wl_79 : Cond.fieldLink RX0 37 "SnapHouse$BlockOpener" "end" "I" ∈ wsL_law0 := List.mem_of_getElem? (i := 79) rfl
set_option maxRecDepth 100000 in
theorem wl_80 : Cond.fieldLink RX0 40 "SnapHouse$BlockOpener" "next" "I" ∈ wsL_law0 := List.mem_of_getElem? (i := 80) rfl
set_option maxRecDepth 100000 in
theorem wl_81 : Cond.fieldLink RX0 43 "SnapHouse$BlockOpener" "length" "I" ∈ wsL_law0 := List.mem_of_getElem? (i := 81) rfl
set_option maxRecDepth 100000 in
theorem wl_82 : Cond.fieldLink RX0 46 "SnapHouse$BlockOpener" "sort" "I" ∈ wsL_law0 := List.mem_of_getElem? (i := 82) rfl
set_option maxRecDepth 100000 in
theorem wl_83 : Cond.fieldLink RX0 49 "SnapHouse$BlockOpener" "body" "I" ∈ wsL_law0 := List.mem_of_getElem? (i := 83) rfl
set_option maxRecDepth 100000 in
theorem wl_84 : Cond.fieldLink RX0 52 "SnapHouse$BlockOpener" "size" "J" ∈ wsL_law0 := List.mem_of_getElem? (i := 84) rfl
set_option maxRecDepth 100000 in
theorem wl_85 : Cond.fieldLink RX0 56 "SnapHouse$BlockOpener" "back" "J" ∈ wsL_law0 := List.mem_of_getElem? (i := 85) rfl
set_option maxRecDepth 100000 in
theorem wl_90 : Cond.fieldLink RX3 11 "SnapHouse$Rows" "cells" "[I" ∈ wsL_law0 := List.mem_of_getElem? (i := 90) rfl
set_option maxRecDepth 100000 in
theorem wl_91 : Cond.fieldLink RX3 15 "SnapHouse$Rows" "count" "I" ∈ wsL_law0 := List.mem_of_getElem? (i := 91) rfl
set_option maxRecDepth 100000 in
theorem wl_92 : Cond.fieldLink RX3 19 "SnapHouse$Rows" "marked" "I" ∈ wsL_law0 := List.mem_of_getElem? (i := 92) rfl
set_option maxRecDepth 100000 in
theorem wl_97 : Cond.fieldLink RX5 14 "SnapHouse$StreamOpener" "given" "LSnapHouse$Bytes;" ∈ wsL_law0 := List.mem_of_getElem? (i := 97) rfl
set_option maxRecDepth 100000 in
theorem wl_99 : Cond.fieldLink RX5 23 "SnapHouse$StreamOpener" "chunks" "LSnapHouse$Rows;" ∈ wsL_law0 := List.mem_of_getElem? (i := 99) rfl
set_option maxRecDepth 100000 in
theorem wl_100 : Cond.fieldLink RX5 27 "SnapHouse$StreamOpener" "fault" "I" ∈ wsL_law0 := List.mem_of_getElem? (i := 100) rfl
set_option maxRecDepth 100000 in
theorem wl_101 : Cond.fieldLink RX5 31 "SnapHouse$StreamOpener" "place" "I" ∈ wsL_law0 := List.mem_of_getElem? (i := 101) rfl
set_option maxRecDepth 100000 in
theorem wl_102 : Cond.fieldLink RX5 34 "SnapHouse$StreamOpener" "next" "I" ∈ wsL_law0 := List.mem_of_getElem? (i := 102) rfl
set_option maxRecDepth 100000 in
theorem wl_103 : Cond.fieldLink RX5 37 "SnapHouse$StreamOpener" "type" "I" ∈ wsL_law0 := List.mem_of_getElem? (i := 103) rfl
set_option maxRecDepth 100000 in
theorem wl_104 : Cond.fieldLink RX5 40 "SnapHouse$StreamOpener" "body" "I" ∈ wsL_law0 := List.mem_of_getElem? (i := 104) rfl
set_option maxRecDepth 100000 in
theorem wl_105 : Cond.fieldLink RX5 43 "SnapHouse$StreamOpener" "size" "I" ∈ wsL_law0 := List.mem_of_getElem? (i := 105) rfl
set_option maxRecDepth 100000 in
theorem wl_112 : Cond.fieldLink RX7 7 "SnapHouseModel" "tape" "[B" ∈ wsL_law0 := List.mem_of_getElem? (i := 112) rfl
set_option maxRecDepth 100000 in
theorem wl_113 : Cond.fieldLink RX7 13 "SnapHouseModel" "out" "[B" ∈ wsL_law0 := List.mem_of_getElem? (i := 113) rfl
set_option maxRecDepth 100000 in
theorem wl_114 : Cond.fieldLink RX7 16 "SnapHouseModel" "made" "[B" ∈ wsL_law0 := List.mem_of_getElem? (i := 114) rfl
set_option maxRecDepth 100000 in
theorem wl_115 : Cond.fieldLink RX7 19 "SnapHouseModel" "packed" "[B" ∈ wsL_law0 := List.mem_of_getElem? (i := 115) rfl
set_option maxRecDepth 100000 in
theorem wl_116 : Cond.fieldLink RX7 22 "SnapHouseModel" "latest" "[I" ∈ wsL_law0 := List.mem_of_getElem? (i := 116) rfl
set_option maxRecDepth 100000 in
theorem wl_117 : Cond.fieldLink RX7 26 "SnapHouseModel" "ahead" "[I" ∈ wsL_law0 := List.mem_of_getElem? (i := 117) rfl
set_option maxRecDepth 100000 in
theorem wl_118 : Cond.fieldLink RX7 29 "SnapHouseModel" "notes" "[I" ∈ wsL_law0 := List.mem_of_getElem? (i := 118) rfl
set_option maxRecDepth 100000 in
theorem wl_119 : Cond.fieldLink RX7 32 "SnapHouseModel" "elements" "[I" ∈ wsL_law0 := List.mem_of_getElem? (i := 119) rfl
set_option maxRecDepth 100000 in
theorem wl_120 : Cond.fieldLink RX7 35 "SnapHouseModel" "chunks" "[I" ∈ wsL_law0 := List.mem_of_getElem? (i := 120) rfl
set_option maxRecDepth 100000 in
theorem wl_121 : Cond.fieldLink RX7 38 "SnapHouseModel" "faultNumber" "I" ∈ wsL_law0 := List.mem_of_getElem? (i := 121) rfl
set_option maxRecDepth 100000 in
theorem wl_122 : Cond.fieldLink RX7 42 "SnapHouseModel" "faultPlace" "I" ∈ wsL_law0 := List.mem_of_getElem? (i := 122) rfl
set_option maxRecDepth 100000 in
theorem wl_123 : Cond.fieldLink RX7 45 "SnapHouseModel" "faultInnerPlace" "I" ∈ wsL_law0 := List.mem_of_getElem? (i := 123) rfl
set_option maxRecDepth 100000 in
theorem wl_124 : Cond.fieldLink RX7 48 "SnapHouseModel" "sums" "[I" ∈ wsL_law0 := List.mem_of_getElem? (i := 124) rfl
set_option maxRecDepth 100000 in
theorem wl_125 : Cond.fieldLink RX7 51 "SnapHouseModel" "found" "[I" ∈ wsL_law0 := List.mem_of_getElem? (i := 125) rfl
set_option maxRecDepth 100000 in
theorem wl_126 : Cond.fieldLink RX7 54 "SnapHouseModel" "before" "[B" ∈ wsL_law0 := List.mem_of_getElem? (i := 126) rfl
set_option maxRecDepth 100000 in
theorem wl_132 : Cond.methodLink RX6 72 yX1_hasRoomFor ∈ wsL_law0 := List.mem_of_getElem? (i := 132) rfl
set_option maxRecDepth 100000 in
theorem wl_133 : Cond.instanceMethod yX1_hasRoomFor ∈ wsL_law0 := List.mem_of_getElem? (i := 133) rfl
set_option maxRecDepth 100000 in
theorem wl_134 : Cond.selects RX1 yX1_hasRoomFor yX1_hasRoomFor ∈ wsL_law0 := List.mem_of_getElem? (i := 134) rfl
set_option maxRecDepth 100000 in
theorem wl_135 : Cond.code yX1_hasRoomFor cX1_hasRoomFor 2 (some .boolean) ∈ wsL_law0 := List.mem_of_getElem? (i := 135) rfl
set_option maxRecDepth 100000 in
theorem wl_136 : Cond.methodLink RX6 76 yX1_putHighestFirst ∈ wsL_law0 := List.mem_of_getElem? (i := 136) rfl
set_option maxRecDepth 100000 in
theorem wl_137 : Cond.instanceMethod yX1_putHighestFirst ∈ wsL_law0 := List.mem_of_getElem? (i := 137) rfl
set_option maxRecDepth 100000 in
theorem wl_138 : Cond.selects RX1 yX1_putHighestFirst yX1_putHighestFirst ∈ wsL_law0 := List.mem_of_getElem? (i := 138) rfl
set_option maxRecDepth 100000 in
theorem wl_139 : Cond.code yX1_putHighestFirst cX1_putHighestFirst 2 none ∈ wsL_law0 := List.mem_of_getElem? (i := 139) rfl
set_option maxRecDepth 100000 in
theorem wl_140 : Cond.methodLink RX1 33 yX1_put ∈ wsL_law0 := List.mem_of_getElem? (i := 140) rfl
set_option maxRecDepth 100000 in
theorem wl_141 : Cond.instanceMethod yX1_put ∈ wsL_law0 := List.mem_of_getElem? (i := 141) rfl
set_option maxRecDepth 100000 in
theorem wl_142 : Cond.selects RX1 yX1_put yX1_put ∈ wsL_law0 := List.mem_of_getElem? (i := 142) rfl
set_option maxRecDepth 100000 in
theorem wl_143 : Cond.code yX1_put cX1_put 2 none ∈ wsL_law0 := List.mem_of_getElem? (i := 143) rfl
set_option maxRecDepth 100000 in
theorem wl_148 : Cond.fieldLink RX7 58 "SnapHouseModel" "thrown" "I" ∈ wsL_law0 := List.mem_of_getElem? (i := 148) rfl
set_option maxRecDepth 100000 in
theorem wl_149 : Cond.fieldLink RX7 61 "SnapHouseModel" "taped" "I" ∈ wsL_law0 := List.mem_of_getElem? (i := 149) rfl
set_option maxRecDepth 100000 in
theorem wl_150 : Cond.methodLink RX7 64 yX7_word ∈ wsL_law0 := List.mem_of_getElem? (i := 150) rfl
set_option maxRecDepth 100000 in
theorem wl_151 : Cond.instanceMethod yX7_word ∈ wsL_law0 := List.mem_of_getElem? (i := 151) rfl
set_option maxRecDepth 100000 in
theorem wl_152 : Cond.selects RX7 yX7_word yX7_word ∈ wsL_law0 := List.mem_of_getElem? (i := 152) rfl
set_option maxRecDepth 100000 in
theorem wl_153 : Cond.code yX7_word cX7_word 3 none ∈ wsL_law0 := List.mem_of_getElem? (i := 153) rfl
set_option maxRecDepth 100000 in
theorem wl_158 : Cond.methodLink RX6 82 yX6_isByte ∈ wsL_law0 := List.mem_of_getElem? (i := 158) rfl
set_option maxRecDepth 100000 in
theorem wl_159 : Cond.static yX6_isByte ∈ wsL_law0 := List.mem_of_getElem? (i := 159) rfl
set_option maxRecDepth 100000 in
theorem wl_160 : Cond.code yX6_isByte cX6_isByte 1 (some .boolean) ∈ wsL_law0 := List.mem_of_getElem? (i := 160) rfl
set_option maxRecDepth 100000 in
theorem wl_161 : Cond.methodLink RX6 85 yX1_put ∈ wsL_law0 := List.mem_of_getElem? (i := 161) rfl
set_option maxRecDepth 100000 in
theorem wl_170 : Cond.methodLink RX6 88 yX1_hasPlace ∈ wsL_law0 := List.mem_of_getElem? (i := 170) rfl
set_option maxRecDepth 100000 in
theorem wl_171 : Cond.instanceMethod yX1_hasPlace ∈ wsL_law0 := List.mem_of_getElem? (i := 171) rfl
set_option maxRecDepth 100000 in
theorem wl_172 : Cond.selects RX1 yX1_hasPlace yX1_hasPlace ∈ wsL_law0 := List.mem_of_getElem? (i := 172) rfl
set_option maxRecDepth 100000 in
theorem wl_173 : Cond.code yX1_hasPlace cX1_hasPlace 2 (some .boolean) ∈ wsL_law0 := List.mem_of_getElem? (i := 173) rfl
set_option maxRecDepth 100000 in
theorem wl_174 : Cond.methodLink RX6 91 yX1_putOwn ∈ wsL_law0 := List.mem_of_getElem? (i := 174) rfl
set_option maxRecDepth 100000 in
theorem wl_175 : Cond.instanceMethod yX1_putOwn ∈ wsL_law0 := List.mem_of_getElem? (i := 175) rfl
set_option maxRecDepth 100000 in
theorem wl_176 : Cond.selects RX1 yX1_putOwn yX1_putOwn ∈ wsL_law0 := List.mem_of_getElem? (i := 176) rfl
set_option maxRecDepth 100000 in
theorem wl_177 : Cond.code yX1_putOwn cX1_putOwn 4 none ∈ wsL_law0 := List.mem_of_getElem? (i := 177) rfl
set_option maxRecDepth 100000 in
theorem wl_178 : Cond.methodLink RX1 25 yX1_hasPlace ∈ wsL_law0 := List.mem_of_getElem? (i := 178) rfl
set_option maxRecDepth 100000 in
theorem wl_179 : Cond.methodLink RX1 37 yX1_hasRoomFor ∈ wsL_law0 := List.mem_of_getElem? (i := 179) rfl
set_option maxRecDepth 100000 in
theorem wl_188 : Cond.methodLink RX6 95 yX1_has ∈ wsL_law0 := List.mem_of_getElem? (i := 188) rfl
set_option maxRecDepth 100000 in
theorem wl_189 : Cond.instanceMethod yX1_has ∈ wsL_law0 := List.mem_of_getElem? (i := 189) rfl
set_option maxRecDepth 100000 in
theorem wl_190 : Cond.selects RX1 yX1_has yX1_has ∈ wsL_law0 := List.mem_of_getElem? (i := 190) rfl
set_option maxRecDepth 100000 in
theorem wl_191 : Cond.code yX1_has cX1_has 3 (some .boolean) ∈ wsL_law0 := List.mem_of_getElem? (i := 191) rfl
set_option maxRecDepth 100000 in
theorem wl_192 : Cond.methodLink RX6 99 yX1_shorten ∈ wsL_law0 := List.mem_of_getElem? (i := 192) rfl
set_option maxRecDepth 100000 in
theorem wl_193 : Cond.instanceMethod yX1_shorten ∈ wsL_law0 := List.mem_of_getElem? (i := 193) rfl
set_option maxRecDepth 100000 in
theorem wl_194 : Cond.selects RX1 yX1_shorten yX1_shorten ∈ wsL_law0 := List.mem_of_getElem? (i := 194) rfl
set_option maxRecDepth 100000 in
theorem wl_195 : Cond.code yX1_shorten cX1_shorten 2 none ∈ wsL_law0 := List.mem_of_getElem? (i := 195) rfl
set_option maxRecDepth 100000 in
theorem wl_196 : Cond.methodLink RX1 29 yX1_has ∈ wsL_law0 := List.mem_of_getElem? (i := 196) rfl
set_option maxRecDepth 100000 in
theorem wl_205 : Cond.methodLink RX6 102 yX1_at ∈ wsL_law0 := List.mem_of_getElem? (i := 205) rfl
set_option maxRecDepth 100000 in
theorem wl_206 : Cond.instanceMethod yX1_at ∈ wsL_law0 := List.mem_of_getElem? (i := 206) rfl
set_option maxRecDepth 100000 in
theorem wl_207 : Cond.selects RX1 yX1_at yX1_at ∈ wsL_law0 := List.mem_of_getElem? (i := 207) rfl
set_option maxRecDepth 100000 in
theorem wl_208 : Cond.code yX1_at cX1_at 2 (some .int) ∈ wsL_law0 := List.mem_of_getElem? (i := 208) rfl
set_option maxRecDepth 100000 in
theorem wl_209 : Cond.methodLink RX6 106 yX1_change ∈ wsL_law0 := List.mem_of_getElem? (i := 209) rfl
set_option maxRecDepth 100000 in
theorem wl_210 : Cond.instanceMethod yX1_change ∈ wsL_law0 := List.mem_of_getElem? (i := 210) rfl
set_option maxRecDepth 100000 in
theorem wl_211 : Cond.selects RX1 yX1_change yX1_change ∈ wsL_law0 := List.mem_of_getElem? (i := 211) rfl
set_option maxRecDepth 100000 in
theorem wl_212 : Cond.code yX1_change cX1_change 3 none ∈ wsL_law0 := List.mem_of_getElem? (i := 212) rfl
set_option maxRecDepth 100000 in
theorem wl_221 : Cond.methodLink RX6 109 yX1_become ∈ wsL_law0 := List.mem_of_getElem? (i := 221) rfl
set_option maxRecDepth 100000 in
theorem wl_222 : Cond.instanceMethod yX1_become ∈ wsL_law0 := List.mem_of_getElem? (i := 222) rfl
set_option maxRecDepth 100000 in
theorem wl_223 : Cond.selects RX1 yX1_become yX1_become ∈ wsL_law0 := List.mem_of_getElem? (i := 223) rfl
set_option maxRecDepth 100000 in
theorem wl_224 : Cond.code yX1_become cX1_become 2 none ∈ wsL_law0 := List.mem_of_getElem? (i := 224) rfl
set_option maxRecDepth 100000 in
theorem wl_225 : Cond.methodLink RX1 46 yX1_putAll ∈ wsL_law0 := List.mem_of_getElem? (i := 225) rfl
set_option maxRecDepth 100000 in
theorem wl_226 : Cond.instanceMethod yX1_putAll ∈ wsL_law0 := List.mem_of_getElem? (i := 226) rfl
set_option maxRecDepth 100000 in
theorem wl_227 : Cond.selects RX1 yX1_putAll yX1_putAll ∈ wsL_law0 := List.mem_of_getElem? (i := 227) rfl
set_option maxRecDepth 100000 in
theorem wl_228 : Cond.code yX1_putAll cX1_putAll 4 none ∈ wsL_law0 := List.mem_of_getElem? (i := 228) rfl
set_option maxRecDepth 100000 in
theorem wl_229 : Cond.methodLink RX1 40 arraycopyName ∈ wsL_law0 := List.mem_of_getElem? (i := 229) rfl
set_option maxRecDepth 100000 in
theorem wl_230 : Cond.native arraycopyName ∈ wsL_law0 := List.mem_of_getElem? (i := 230) rfl
set_option maxRecDepth 100000 in
theorem wl_231 : Cond.static arraycopyName ∈ wsL_law0 := List.mem_of_getElem? (i := 231) rfl
set_option maxRecDepth 100000 in
theorem wl_232 : Cond.initialized "java/lang/System" ∈ wsL_law0 := List.mem_of_getElem? (i := 232) rfl
set_option maxRecDepth 100000 in
theorem wl_237 : Cond.fieldLink RX7 68 "SnapHouseModel" "outs" "I" ∈ wsL_law0 := List.mem_of_getElem? (i := 237) rfl
set_option maxRecDepth 100000 in
theorem wl_250 : Cond.methodLink RX6 113 yX2_pressBlock ∈ wsL_law0 := List.mem_of_getElem? (i := 250) rfl
set_option maxRecDepth 100000 in
theorem wl_251 : Cond.instanceMethod yX2_pressBlock ∈ wsL_law0 := List.mem_of_getElem? (i := 251) rfl
set_option maxRecDepth 100000 in
theorem wl_252 : Cond.selects RX2 yX2_pressBlock yX2_pressBlock ∈ wsL_law0 := List.mem_of_getElem? (i := 252) rfl
set_option maxRecDepth 100000 in
theorem wl_253 : Cond.code yX2_pressBlock cX2_pressBlock 9 none ∈ wsL_law0 := List.mem_of_getElem? (i := 253) rfl
set_option maxRecDepth 100000 in
theorem wl_254 : Cond.methodLink RX2 29 yX1_shorten ∈ wsL_law0 := List.mem_of_getElem? (i := 254) rfl
set_option maxRecDepth 100000 in
theorem wl_255 : Cond.methodLink RX2 32 yX2_putLength ∈ wsL_law0 := List.mem_of_getElem? (i := 255) rfl
set_option maxRecDepth 100000 in
theorem wl_256 : Cond.instanceMethod yX2_putLength ∈ wsL_law0 := List.mem_of_getElem? (i := 256) rfl
set_option maxRecDepth 100000 in
theorem wl_257 : Cond.selects RX2 yX2_putLength yX2_putLength ∈ wsL_law0 := List.mem_of_getElem? (i := 257) rfl
set_option maxRecDepth 100000 in
theorem wl_258 : Cond.code yX2_putLength cX2_putLength 4 none ∈ wsL_law0 := List.mem_of_getElem? (i := 258) rfl
set_option maxRecDepth 100000 in
theorem wl_259 : Cond.methodLink RX2 54 yX1_put ∈ wsL_law0 := List.mem_of_getElem? (i := 259) rfl
set_option maxRecDepth 100000 in
theorem wl_260 : Cond.methodLink RX2 35 yX2_freeSlots ∈ wsL_law0 := List.mem_of_getElem? (i := 260) rfl
set_option maxRecDepth 100000 in
theorem wl_261 : Cond.instanceMethod yX2_freeSlots ∈ wsL_law0 := List.mem_of_getElem? (i := 261) rfl
set_option maxRecDepth 100000 in
theorem wl_262 : Cond.selects RX2 yX2_freeSlots yX2_freeSlots ∈ wsL_law0 := List.mem_of_getElem? (i := 262) rfl
set_option maxRecDepth 100000 in
theorem wl_263 : Cond.code yX2_freeSlots cX2_freeSlots 4 none ∈ wsL_law0 := List.mem_of_getElem? (i := 263) rfl
set_option maxRecDepth 100000 in
theorem wl_264 : Cond.methodLink RX2 38 yX2_noteAndFind ∈ wsL_law0 := List.mem_of_getElem? (i := 264) rfl
set_option maxRecDepth 100000 in
theorem wl_265 : Cond.instanceMethod yX2_noteAndFind ∈ wsL_law0 := List.mem_of_getElem? (i := 265) rfl
set_option maxRecDepth 100000 in
theorem wl_266 : Cond.selects RX2 yX2_noteAndFind yX2_noteAndFind ∈ wsL_law0 := List.mem_of_getElem? (i := 266) rfl
set_option maxRecDepth 100000 in
theorem wl_267 : Cond.code yX2_noteAndFind cX2_noteAndFind 7 (some .int) ∈ wsL_law0 := List.mem_of_getElem? (i := 267) rfl
set_option maxRecDepth 100000 in
theorem wl_268 : Cond.constant RX2 61 (-1640531535) ∈ wsL_law0 := List.mem_of_getElem? (i := 268) rfl
set_option maxRecDepth 100000 in
theorem wl_269 : Cond.methodLink RX2 57 yX1_fourFrom ∈ wsL_law0 := List.mem_of_getElem? (i := 269) rfl
set_option maxRecDepth 100000 in
theorem wl_270 : Cond.instanceMethod yX1_fourFrom ∈ wsL_law0 := List.mem_of_getElem? (i := 270) rfl
set_option maxRecDepth 100000 in
theorem wl_271 : Cond.selects RX1 yX1_fourFrom yX1_fourFrom ∈ wsL_law0 := List.mem_of_getElem? (i := 271) rfl
set_option maxRecDepth 100000 in
theorem wl_272 : Cond.code yX1_fourFrom cX1_fourFrom 2 (some .int) ∈ wsL_law0 := List.mem_of_getElem? (i := 272) rfl
set_option maxRecDepth 100000 in
theorem wl_273 : Cond.methodLink RX2 42 yX2_countAlike ∈ wsL_law0 := List.mem_of_getElem? (i := 273) rfl
set_option maxRecDepth 100000 in
theorem wl_274 : Cond.static yX2_countAlike ∈ wsL_law0 := List.mem_of_getElem? (i := 274) rfl
set_option maxRecDepth 100000 in
theorem wl_275 : Cond.code yX2_countAlike cX2_countAlike 5 (some .int) ∈ wsL_law0 := List.mem_of_getElem? (i := 275) rfl
set_option maxRecDepth 100000 in
theorem wl_276 : Cond.methodLink RX2 62 yX1_at ∈ wsL_law0 := List.mem_of_getElem? (i := 276) rfl
set_option maxRecDepth 100000 in
theorem wl_277 : Cond.methodLink RX2 46 yX2_putLiteral ∈ wsL_law0 := List.mem_of_getElem? (i := 277) rfl
set_option maxRecDepth 100000 in
theorem wl_278 : Cond.instanceMethod yX2_putLiteral ∈ wsL_law0 := List.mem_of_getElem? (i := 278) rfl
set_option maxRecDepth 100000 in
theorem wl_279 : Cond.selects RX2 yX2_putLiteral yX2_putLiteral ∈ wsL_law0 := List.mem_of_getElem? (i := 279) rfl
set_option maxRecDepth 100000 in
theorem wl_280 : Cond.code yX2_putLiteral cX2_putLiteral 6 none ∈ wsL_law0 := List.mem_of_getElem? (i := 280) rfl
set_option maxRecDepth 100000 in
theorem wl_281 : Cond.methodLink RX2 65 yX1_putLowestFirst ∈ wsL_law0 := List.mem_of_getElem? (i := 281) rfl
set_option maxRecDepth 100000 in
theorem wl_282 : Cond.instanceMethod yX1_putLowestFirst ∈ wsL_law0 := List.mem_of_getElem? (i := 282) rfl
set_option maxRecDepth 100000 in
theorem wl_283 : Cond.selects RX1 yX1_putLowestFirst yX1_putLowestFirst ∈ wsL_law0 := List.mem_of_getElem? (i := 283) rfl
set_option maxRecDepth 100000 in
theorem wl_284 : Cond.code yX1_putLowestFirst cX1_putLowestFirst 4 none ∈ wsL_law0 := List.mem_of_getElem? (i := 284) rfl
set_option maxRecDepth 100000 in
theorem wl_285 : Cond.methodLink RX2 68 yX1_putAll ∈ wsL_law0 := List.mem_of_getElem? (i := 285) rfl
set_option maxRecDepth 100000 in
theorem wl_286 : Cond.methodLink RX2 50 yX2_putCopies ∈ wsL_law0 := List.mem_of_getElem? (i := 286) rfl
set_option maxRecDepth 100000 in
theorem wl_287 : Cond.instanceMethod yX2_putCopies ∈ wsL_law0 := List.mem_of_getElem? (i := 287) rfl
set_option maxRecDepth 100000 in
theorem wl_288 : Cond.selects RX2 yX2_putCopies yX2_putCopies ∈ wsL_law0 := List.mem_of_getElem? (i := 288) rfl
set_option maxRecDepth 100000 in
theorem wl_289 : Cond.code yX2_putCopies cX2_putCopies 4 none ∈ wsL_law0 := List.mem_of_getElem? (i := 289) rfl
set_option maxRecDepth 100000 in
theorem wl_290 : Cond.methodLink RX2 71 yX2_putCopy ∈ wsL_law0 := List.mem_of_getElem? (i := 290) rfl
set_option maxRecDepth 100000 in
theorem wl_291 : Cond.instanceMethod yX2_putCopy ∈ wsL_law0 := List.mem_of_getElem? (i := 291) rfl
set_option maxRecDepth 100000 in
theorem wl_292 : Cond.selects RX2 yX2_putCopy yX2_putCopy ∈ wsL_law0 := List.mem_of_getElem? (i := 292) rfl
set_option maxRecDepth 100000 in
theorem wl_293 : Cond.code yX2_putCopy cX2_putCopy 3 none ∈ wsL_law0 := List.mem_of_getElem? (i := 293) rfl
set_option maxRecDepth 100000 in
theorem wl_298 : Cond.fieldLink RX7 76 "SnapHouseModel" "packs" "I" ∈ wsL_law0 := List.mem_of_getElem? (i := 298) rfl
set_option maxRecDepth 100000 in
theorem wl_299 : Cond.methodLink RX7 100 yX7_pressPart ∈ wsL_law0 := List.mem_of_getElem? (i := 299) rfl
set_option maxRecDepth 100000 in
theorem wl_300 : Cond.instanceMethod yX7_pressPart ∈ wsL_law0 := List.mem_of_getElem? (i := 300) rfl
set_option maxRecDepth 100000 in
theorem wl_301 : Cond.selects RX7 yX7_pressPart yX7_pressPart ∈ wsL_law0 := List.mem_of_getElem? (i := 301) rfl
set_option maxRecDepth 100000 in
theorem wl_302 : Cond.code yX7_pressPart cX7_pressPart 11 none ∈ wsL_law0 := List.mem_of_getElem? (i := 302) rfl
set_option maxRecDepth 100000 in
theorem wl_303 : Cond.methodLink RX7 79 yX7_pack ∈ wsL_law0 := List.mem_of_getElem? (i := 303) rfl
set_option maxRecDepth 100000 in
theorem wl_304 : Cond.instanceMethod yX7_pack ∈ wsL_law0 := List.mem_of_getElem? (i := 304) rfl
set_option maxRecDepth 100000 in
theorem wl_305 : Cond.selects RX7 yX7_pack yX7_pack ∈ wsL_law0 := List.mem_of_getElem? (i := 305) rfl
set_option maxRecDepth 100000 in
theorem wl_306 : Cond.code yX7_pack cX7_pack 2 none ∈ wsL_law0 := List.mem_of_getElem? (i := 306) rfl
set_option maxRecDepth 100000 in
theorem wl_307 : Cond.methodLink RX7 82 yX7_keyOf ∈ wsL_law0 := List.mem_of_getElem? (i := 307) rfl
set_option maxRecDepth 100000 in
theorem wl_308 : Cond.instanceMethod yX7_keyOf ∈ wsL_law0 := List.mem_of_getElem? (i := 308) rfl
set_option maxRecDepth 100000 in
theorem wl_309 : Cond.selects RX7 yX7_keyOf yX7_keyOf ∈ wsL_law0 := List.mem_of_getElem? (i := 309) rfl
set_option maxRecDepth 100000 in
theorem wl_310 : Cond.code yX7_keyOf cX7_keyOf 3 (some .int) ∈ wsL_law0 := List.mem_of_getElem? (i := 310) rfl
set_option maxRecDepth 100000 in
theorem wl_311 : Cond.constant RX7 75 (506832829) ∈ wsL_law0 := List.mem_of_getElem? (i := 311) rfl
set_option maxRecDepth 100000 in
theorem wl_312 : Cond.methodLink RX7 71 yX7_at ∈ wsL_law0 := List.mem_of_getElem? (i := 312) rfl
set_option maxRecDepth 100000 in
theorem wl_313 : Cond.instanceMethod yX7_at ∈ wsL_law0 := List.mem_of_getElem? (i := 313) rfl
set_option maxRecDepth 100000 in
theorem wl_314 : Cond.selects RX7 yX7_at yX7_at ∈ wsL_law0 := List.mem_of_getElem? (i := 314) rfl
set_option maxRecDepth 100000 in
theorem wl_315 : Cond.code yX7_at cX7_at 2 (some .int) ∈ wsL_law0 := List.mem_of_getElem? (i := 315) rfl
set_option maxRecDepth 100000 in
theorem wl_316 : Cond.methodLink RX7 85 yX7_areFour ∈ wsL_law0 := List.mem_of_getElem? (i := 316) rfl
set_option maxRecDepth 100000 in
theorem wl_317 : Cond.instanceMethod yX7_areFour ∈ wsL_law0 := List.mem_of_getElem? (i := 317) rfl
set_option maxRecDepth 100000 in
theorem wl_318 : Cond.selects RX7 yX7_areFour yX7_areFour ∈ wsL_law0 := List.mem_of_getElem? (i := 318) rfl
set_option maxRecDepth 100000 in
theorem wl_319 : Cond.code yX7_areFour cX7_areFour 3 (some .boolean) ∈ wsL_law0 := List.mem_of_getElem? (i := 319) rfl
set_option maxRecDepth 100000 in
theorem wl_320 : Cond.methodLink RX7 89 yX7_literal ∈ wsL_law0 := List.mem_of_getElem? (i := 320) rfl
set_option maxRecDepth 100000 in
theorem wl_321 : Cond.instanceMethod yX7_literal ∈ wsL_law0 := List.mem_of_getElem? (i := 321) rfl
set_option maxRecDepth 100000 in
theorem wl_322 : Cond.selects RX7 yX7_literal yX7_literal ∈ wsL_law0 := List.mem_of_getElem? (i := 322) rfl
set_option maxRecDepth 100000 in
theorem wl_323 : Cond.code yX7_literal cX7_literal 7 none ∈ wsL_law0 := List.mem_of_getElem? (i := 323) rfl
set_option maxRecDepth 100000 in
theorem wl_324 : Cond.constant RX7 96 (65536) ∈ wsL_law0 := List.mem_of_getElem? (i := 324) rfl
set_option maxRecDepth 100000 in
theorem wl_325 : Cond.methodLink RX7 93 yX7_copies ∈ wsL_law0 := List.mem_of_getElem? (i := 325) rfl
set_option maxRecDepth 100000 in
theorem wl_326 : Cond.instanceMethod yX7_copies ∈ wsL_law0 := List.mem_of_getElem? (i := 326) rfl
set_option maxRecDepth 100000 in
theorem wl_327 : Cond.selects RX7 yX7_copies yX7_copies ∈ wsL_law0 := List.mem_of_getElem? (i := 327) rfl
set_option maxRecDepth 100000 in
theorem wl_328 : Cond.code yX7_copies cX7_copies 4 none ∈ wsL_law0 := List.mem_of_getElem? (i := 328) rfl
set_option maxRecDepth 100000 in
theorem wl_329 : Cond.methodLink RX7 97 yX7_copyTwo ∈ wsL_law0 := List.mem_of_getElem? (i := 329) rfl
set_option maxRecDepth 100000 in
theorem wl_330 : Cond.instanceMethod yX7_copyTwo ∈ wsL_law0 := List.mem_of_getElem? (i := 330) rfl
set_option maxRecDepth 100000 in
theorem wl_331 : Cond.selects RX7 yX7_copyTwo yX7_copyTwo ∈ wsL_law0 := List.mem_of_getElem? (i := 331) rfl
set_option maxRecDepth 100000 in
theorem wl_332 : Cond.code yX7_copyTwo cX7_copyTwo 3 none ∈ wsL_law0 := List.mem_of_getElem? (i := 332) rfl
set_option maxRecDepth 100000 in
theorem wl_333 : Cond.methodLink RX7 103 yX7_give ∈ wsL_law0 := List.mem_of_getElem? (i := 333) rfl
set_option maxRecDepth 100000 in
theorem wl_334 : Cond.instanceMethod yX7_give ∈ wsL_law0 := List.mem_of_getElem? (i := 334) rfl
set_option maxRecDepth 100000 in
theorem wl_335 : Cond.selects RX7 yX7_give yX7_give ∈ wsL_law0 := List.mem_of_getElem? (i := 335) rfl
set_option maxRecDepth 100000 in
theorem wl_336 : Cond.code yX7_give cX7_give 4 none ∈ wsL_law0 := List.mem_of_getElem? (i := 336) rfl
set_option maxRecDepth 100000 in
theorem wl_341 : Cond.methodLink RX6 120 yX0_openBlock ∈ wsL_law0 := List.mem_of_getElem? (i := 341) rfl
set_option maxRecDepth 100000 in
theorem wl_342 : Cond.instanceMethod yX0_openBlock ∈ wsL_law0 := List.mem_of_getElem? (i := 342) rfl
set_option maxRecDepth 100000 in
theorem wl_343 : Cond.selects RX0 yX0_openBlock yX0_openBlock ∈ wsL_law0 := List.mem_of_getElem? (i := 343) rfl
set_option maxRecDepth 100000 in
theorem wl_344 : Cond.code yX0_openBlock cX0_openBlock 5 none ∈ wsL_law0 := List.mem_of_getElem? (i := 344) rfl
set_option maxRecDepth 100000 in
theorem wl_345 : Cond.methodLink RX0 59 yX1_shorten ∈ wsL_law0 := List.mem_of_getElem? (i := 345) rfl
set_option maxRecDepth 100000 in
theorem wl_346 : Cond.methodLink RX0 62 yX3_clear ∈ wsL_law0 := List.mem_of_getElem? (i := 346) rfl
set_option maxRecDepth 100000 in
theorem wl_347 : Cond.instanceMethod yX3_clear ∈ wsL_law0 := List.mem_of_getElem? (i := 347) rfl
set_option maxRecDepth 100000 in
theorem wl_348 : Cond.selects RX3 yX3_clear yX3_clear ∈ wsL_law0 := List.mem_of_getElem? (i := 348) rfl
set_option maxRecDepth 100000 in
theorem wl_349 : Cond.code yX3_clear cX3_clear 1 none ∈ wsL_law0 := List.mem_of_getElem? (i := 349) rfl
set_option maxRecDepth 100000 in
theorem wl_350 : Cond.methodLink RX0 65 yX0_readLength ∈ wsL_law0 := List.mem_of_getElem? (i := 350) rfl
set_option maxRecDepth 100000 in
theorem wl_351 : Cond.instanceMethod yX0_readLength ∈ wsL_law0 := List.mem_of_getElem? (i := 351) rfl
set_option maxRecDepth 100000 in
theorem wl_352 : Cond.selects RX0 yX0_readLength yX0_readLength ∈ wsL_law0 := List.mem_of_getElem? (i := 352) rfl
set_option maxRecDepth 100000 in
theorem wl_353 : Cond.code yX0_readLength cX0_readLength 7 none ∈ wsL_law0 := List.mem_of_getElem? (i := 353) rfl
set_option maxRecDepth 100000 in
theorem wl_354 : Cond.constantLong RX0 89 (4294967296) ∈ wsL_law0 := List.mem_of_getElem? (i := 354) rfl
set_option maxRecDepth 100000 in
theorem wl_355 : Cond.constantLong RX0 91 (20000) ∈ wsL_law0 := List.mem_of_getElem? (i := 355) rfl
set_option maxRecDepth 100000 in
theorem wl_356 : Cond.methodLink RX0 85 yX1_at ∈ wsL_law0 := List.mem_of_getElem? (i := 356) rfl
set_option maxRecDepth 100000 in
theorem wl_357 : Cond.methodLink RX0 81 yX0_fail ∈ wsL_law0 := List.mem_of_getElem? (i := 357) rfl
set_option maxRecDepth 100000 in
theorem wl_358 : Cond.instanceMethod yX0_fail ∈ wsL_law0 := List.mem_of_getElem? (i := 358) rfl
set_option maxRecDepth 100000 in
theorem wl_359 : Cond.selects RX0 yX0_fail yX0_fail ∈ wsL_law0 := List.mem_of_getElem? (i := 359) rfl
set_option maxRecDepth 100000 in
theorem wl_360 : Cond.code yX0_fail cX0_fail 3 none ∈ wsL_law0 := List.mem_of_getElem? (i := 360) rfl
set_option maxRecDepth 100000 in
theorem wl_361 : Cond.methodLink RX0 69 yX0_readElement ∈ wsL_law0 := List.mem_of_getElem? (i := 361) rfl
set_option maxRecDepth 100000 in
theorem wl_362 : Cond.instanceMethod yX0_readElement ∈ wsL_law0 := List.mem_of_getElem? (i := 362) rfl
set_option maxRecDepth 100000 in
theorem wl_363 : Cond.selects RX0 yX0_readElement yX0_readElement ∈ wsL_law0 := List.mem_of_getElem? (i := 363) rfl
set_option maxRecDepth 100000 in
theorem wl_364 : Cond.code yX0_readElement cX0_readElement 7 none ∈ wsL_law0 := List.mem_of_getElem? (i := 364) rfl
set_option maxRecDepth 100000 in
theorem wl_365 : Cond.methodLink RX0 93 yX0_bytesBehindTag ∈ wsL_law0 := List.mem_of_getElem? (i := 365) rfl
set_option maxRecDepth 100000 in
theorem wl_366 : Cond.static yX0_bytesBehindTag ∈ wsL_law0 := List.mem_of_getElem? (i := 366) rfl
set_option maxRecDepth 100000 in
theorem wl_367 : Cond.code yX0_bytesBehindTag cX0_bytesBehindTag 2 (some .int) ∈ wsL_law0 := List.mem_of_getElem? (i := 367) rfl
set_option maxRecDepth 100000 in
theorem wl_368 : Cond.methodLink RX0 97 yX1_lowestFirst ∈ wsL_law0 := List.mem_of_getElem? (i := 368) rfl
set_option maxRecDepth 100000 in
theorem wl_369 : Cond.instanceMethod yX1_lowestFirst ∈ wsL_law0 := List.mem_of_getElem? (i := 369) rfl
set_option maxRecDepth 100000 in
theorem wl_370 : Cond.selects RX1 yX1_lowestFirst yX1_lowestFirst ∈ wsL_law0 := List.mem_of_getElem? (i := 370) rfl
set_option maxRecDepth 100000 in
theorem wl_371 : Cond.code yX1_lowestFirst cX1_lowestFirst 6 (some .long) ∈ wsL_law0 := List.mem_of_getElem? (i := 371) rfl
set_option maxRecDepth 100000 in
theorem wl_372 : Cond.methodLink RX1 50 yX1_at ∈ wsL_law0 := List.mem_of_getElem? (i := 372) rfl
set_option maxRecDepth 100000 in
theorem wl_373 : Cond.methodLink RX0 101 yX0_sizeOf ∈ wsL_law0 := List.mem_of_getElem? (i := 373) rfl
set_option maxRecDepth 100000 in
theorem wl_374 : Cond.static yX0_sizeOf ∈ wsL_law0 := List.mem_of_getElem? (i := 374) rfl
set_option maxRecDepth 100000 in
theorem wl_375 : Cond.code yX0_sizeOf cX0_sizeOf 4 (some .long) ∈ wsL_law0 := List.mem_of_getElem? (i := 375) rfl
set_option maxRecDepth 100000 in
theorem wl_376 : Cond.methodLink RX0 105 yX0_backOf ∈ wsL_law0 := List.mem_of_getElem? (i := 376) rfl
set_option maxRecDepth 100000 in
theorem wl_377 : Cond.static yX0_backOf ∈ wsL_law0 := List.mem_of_getElem? (i := 377) rfl
set_option maxRecDepth 100000 in
theorem wl_378 : Cond.code yX0_backOf cX0_backOf 4 (some .long) ∈ wsL_law0 := List.mem_of_getElem? (i := 378) rfl
set_option maxRecDepth 100000 in
theorem wl_379 : Cond.methodLink RX0 72 yX0_checkElement ∈ wsL_law0 := List.mem_of_getElem? (i := 379) rfl
set_option maxRecDepth 100000 in
theorem wl_380 : Cond.instanceMethod yX0_checkElement ∈ wsL_law0 := List.mem_of_getElem? (i := 380) rfl
set_option maxRecDepth 100000 in
theorem wl_381 : Cond.selects RX0 yX0_checkElement yX0_checkElement ∈ wsL_law0 := List.mem_of_getElem? (i := 381) rfl
set_option maxRecDepth 100000 in
theorem wl_382 : Cond.code yX0_checkElement cX0_checkElement 1 none ∈ wsL_law0 := List.mem_of_getElem? (i := 382) rfl
set_option maxRecDepth 100000 in
theorem wl_383 : Cond.methodLink RX0 75 yX0_giveElement ∈ wsL_law0 := List.mem_of_getElem? (i := 383) rfl
set_option maxRecDepth 100000 in
theorem wl_384 : Cond.instanceMethod yX0_giveElement ∈ wsL_law0 := List.mem_of_getElem? (i := 384) rfl
set_option maxRecDepth 100000 in
theorem wl_385 : Cond.selects RX0 yX0_giveElement yX0_giveElement ∈ wsL_law0 := List.mem_of_getElem? (i := 385) rfl
set_option maxRecDepth 100000 in
theorem wl_386 : Cond.code yX0_giveElement cX0_giveElement 4 none ∈ wsL_law0 := List.mem_of_getElem? (i := 386) rfl
set_option maxRecDepth 100000 in
theorem wl_387 : Cond.methodLink RX0 108 yX3_add ∈ wsL_law0 := List.mem_of_getElem? (i := 387) rfl
set_option maxRecDepth 100000 in
theorem wl_388 : Cond.instanceMethod yX3_add ∈ wsL_law0 := List.mem_of_getElem? (i := 388) rfl
set_option maxRecDepth 100000 in
theorem wl_389 : Cond.selects RX3 yX3_add yX3_add ∈ wsL_law0 := List.mem_of_getElem? (i := 389) rfl
set_option maxRecDepth 100000 in
theorem wl_390 : Cond.code yX3_add cX3_add 8 none ∈ wsL_law0 := List.mem_of_getElem? (i := 390) rfl
set_option maxRecDepth 100000 in
theorem wl_391 : Cond.methodLink RX0 112 yX1_putAll ∈ wsL_law0 := List.mem_of_getElem? (i := 391) rfl
set_option maxRecDepth 100000 in
theorem wl_392 : Cond.methodLink RX0 116 yX1_putOwn ∈ wsL_law0 := List.mem_of_getElem? (i := 392) rfl
set_option maxRecDepth 100000 in
theorem wl_393 : Cond.methodLink RX6 129 yX6_keepFault ∈ wsL_law0 := List.mem_of_getElem? (i := 393) rfl
set_option maxRecDepth 100000 in
theorem wl_394 : Cond.instanceMethod yX6_keepFault ∈ wsL_law0 := List.mem_of_getElem? (i := 394) rfl
set_option maxRecDepth 100000 in
theorem wl_395 : Cond.selects RX6 yX6_keepFault yX6_keepFault ∈ wsL_law0 := List.mem_of_getElem? (i := 395) rfl
set_option maxRecDepth 100000 in
theorem wl_396 : Cond.code yX6_keepFault cX6_keepFault 5 none ∈ wsL_law0 := List.mem_of_getElem? (i := 396) rfl
set_option maxRecDepth 100000 in
theorem wl_397 : Cond.methodLink RX6 139 yX3_become ∈ wsL_law0 := List.mem_of_getElem? (i := 397) rfl
set_option maxRecDepth 100000 in
theorem wl_398 : Cond.instanceMethod yX3_become ∈ wsL_law0 := List.mem_of_getElem? (i := 398) rfl
set_option maxRecDepth 100000 in
theorem wl_399 : Cond.selects RX3 yX3_become yX3_become ∈ wsL_law0 := List.mem_of_getElem? (i := 399) rfl
set_option maxRecDepth 100000 in
theorem wl_400 : Cond.code yX3_become cX3_become 2 none ∈ wsL_law0 := List.mem_of_getElem? (i := 400) rfl
set_option maxRecDepth 100000 in
theorem wl_401 : Cond.methodLink RX3 22 Lib.Math.min.name ∈ wsL_law0 := List.mem_of_getElem? (i := 401) rfl
set_option maxRecDepth 100000 in
theorem wl_402 : Cond.static Lib.Math.min.name ∈ wsL_law0 := List.mem_of_getElem? (i := 402) rfl
set_option maxRecDepth 100000 in
theorem wl_403 : Cond.code Lib.Math.min.name Lib.Math.min.code 2 (some .int) ∈ wsL_law0 := List.mem_of_getElem? (i := 403) rfl
set_option maxRecDepth 100000 in
theorem wl_404 : Cond.methodLink RX3 28 arraycopyName ∈ wsL_law0 := List.mem_of_getElem? (i := 404) rfl
set_option maxRecDepth 100000 in
theorem wl_409 : Cond.fieldLink RX7 119 "SnapHouseModel" "mades" "I" ∈ wsL_law0 := List.mem_of_getElem? (i := 409) rfl
set_option maxRecDepth 100000 in
theorem wl_410 : Cond.fieldLink RX7 107 "SnapHouseModel" "blockFault" "I" ∈ wsL_law0 := List.mem_of_getElem? (i := 410) rfl
set_option maxRecDepth 100000 in
theorem wl_411 : Cond.fieldLink RX7 110 "SnapHouseModel" "blockPlace" "I" ∈ wsL_law0 := List.mem_of_getElem? (i := 411) rfl
set_option maxRecDepth 100000 in
theorem wl_412 : Cond.fieldLink RX7 113 "SnapHouseModel" "opened" "I" ∈ wsL_law0 := List.mem_of_getElem? (i := 412) rfl
set_option maxRecDepth 100000 in
theorem wl_413 : Cond.fieldLink RX7 148 "SnapHouseModel" "elementMany" "I" ∈ wsL_law0 := List.mem_of_getElem? (i := 413) rfl
set_option maxRecDepth 100000 in
theorem wl_414 : Cond.fieldLink RX7 116 "SnapHouseModel" "literals" "I" ∈ wsL_law0 := List.mem_of_getElem? (i := 414) rfl
set_option maxRecDepth 100000 in
theorem wl_415 : Cond.fieldLink RX7 151 "SnapHouseModel" "literalMany" "I" ∈ wsL_law0 := List.mem_of_getElem? (i := 415) rfl
set_option maxRecDepth 100000 in
theorem wl_416 : Cond.methodLink RX7 141 yX7_openPart ∈ wsL_law0 := List.mem_of_getElem? (i := 416) rfl
set_option maxRecDepth 100000 in
theorem wl_417 : Cond.instanceMethod yX7_openPart ∈ wsL_law0 := List.mem_of_getElem? (i := 417) rfl
set_option maxRecDepth 100000 in
theorem wl_418 : Cond.selects RX7 yX7_openPart yX7_openPart ∈ wsL_law0 := List.mem_of_getElem? (i := 418) rfl
set_option maxRecDepth 100000 in
theorem wl_419 : Cond.code yX7_openPart cX7_openPart 9 none ∈ wsL_law0 := List.mem_of_getElem? (i := 419) rfl
set_option maxRecDepth 100000 in
theorem wl_420 : Cond.constantLong RX7 125 (20000) ∈ wsL_law0 := List.mem_of_getElem? (i := 420) rfl
set_option maxRecDepth 100000 in
theorem wl_421 : Cond.fieldLink RX7 127 "SnapHouseModel" "wanted" "I" ∈ wsL_law0 := List.mem_of_getElem? (i := 421) rfl
set_option maxRecDepth 100000 in
theorem wl_422 : Cond.methodLink RX7 122 yX7_bad ∈ wsL_law0 := List.mem_of_getElem? (i := 422) rfl
set_option maxRecDepth 100000 in
theorem wl_423 : Cond.instanceMethod yX7_bad ∈ wsL_law0 := List.mem_of_getElem? (i := 423) rfl
set_option maxRecDepth 100000 in
theorem wl_424 : Cond.selects RX7 yX7_bad yX7_bad ∈ wsL_law0 := List.mem_of_getElem? (i := 424) rfl
set_option maxRecDepth 100000 in
theorem wl_425 : Cond.code yX7_bad cX7_bad 3 none ∈ wsL_law0 := List.mem_of_getElem? (i := 425) rfl
set_option maxRecDepth 100000 in
theorem wl_426 : Cond.methodLink RX7 130 yX7_elementAt ∈ wsL_law0 := List.mem_of_getElem? (i := 426) rfl
set_option maxRecDepth 100000 in
theorem wl_427 : Cond.instanceMethod yX7_elementAt ∈ wsL_law0 := List.mem_of_getElem? (i := 427) rfl
set_option maxRecDepth 100000 in
theorem wl_428 : Cond.selects RX7 yX7_elementAt yX7_elementAt ∈ wsL_law0 := List.mem_of_getElem? (i := 428) rfl
set_option maxRecDepth 100000 in
theorem wl_429 : Cond.code yX7_elementAt cX7_elementAt 17 (some .int) ∈ wsL_law0 := List.mem_of_getElem? (i := 429) rfl
set_option maxRecDepth 100000 in
theorem wl_430 : Cond.constantLong RX7 134 (4) ∈ wsL_law0 := List.mem_of_getElem? (i := 430) rfl
set_option maxRecDepth 100000 in
theorem wl_431 : Cond.constantLong RX7 136 (256) ∈ wsL_law0 := List.mem_of_getElem? (i := 431) rfl
set_option maxRecDepth 100000 in
theorem wl_432 : Cond.methodLink RX7 144 yX7_told ∈ wsL_law0 := List.mem_of_getElem? (i := 432) rfl
set_option maxRecDepth 100000 in
theorem wl_433 : Cond.instanceMethod yX7_told ∈ wsL_law0 := List.mem_of_getElem? (i := 433) rfl
set_option maxRecDepth 100000 in
theorem wl_434 : Cond.selects RX7 yX7_told yX7_told ∈ wsL_law0 := List.mem_of_getElem? (i := 434) rfl
set_option maxRecDepth 100000 in
theorem wl_435 : Cond.code yX7_told cX7_told 5 none ∈ wsL_law0 := List.mem_of_getElem? (i := 435) rfl
set_option maxRecDepth 100000 in
theorem wl_436 : Cond.fieldLink RX7 138 "SnapHouseModel" "faultInner" "I" ∈ wsL_law0 := List.mem_of_getElem? (i := 436) rfl
set_option maxRecDepth 100000 in
theorem wl_441 : Cond.methodLink RX6 142 yX4_makeStream ∈ wsL_law0 := List.mem_of_getElem? (i := 441) rfl
set_option maxRecDepth 100000 in
theorem wl_442 : Cond.instanceMethod yX4_makeStream ∈ wsL_law0 := List.mem_of_getElem? (i := 442) rfl
set_option maxRecDepth 100000 in
theorem wl_443 : Cond.selects RX4 yX4_makeStream yX4_makeStream ∈ wsL_law0 := List.mem_of_getElem? (i := 443) rfl
set_option maxRecDepth 100000 in
theorem wl_444 : Cond.code yX4_makeStream cX4_makeStream 8 (some .boolean) ∈ wsL_law0 := List.mem_of_getElem? (i := 444) rfl
set_option maxRecDepth 100000 in
theorem wl_445 : Cond.methodLink RX4 34 Lib.Math.max.name ∈ wsL_law0 := List.mem_of_getElem? (i := 445) rfl
set_option maxRecDepth 100000 in
theorem wl_446 : Cond.methodLink RX4 44 Lib.Math.min.name ∈ wsL_law0 := List.mem_of_getElem? (i := 446) rfl
set_option maxRecDepth 100000 in
theorem wl_447 : Cond.methodLink RX4 20 yX1_shorten ∈ wsL_law0 := List.mem_of_getElem? (i := 447) rfl
set_option maxRecDepth 100000 in
theorem wl_448 : Cond.methodLink RX4 23 yX4_putHeader ∈ wsL_law0 := List.mem_of_getElem? (i := 448) rfl
set_option maxRecDepth 100000 in
theorem wl_449 : Cond.instanceMethod yX4_putHeader ∈ wsL_law0 := List.mem_of_getElem? (i := 449) rfl
set_option maxRecDepth 100000 in
theorem wl_450 : Cond.selects RX4 yX4_putHeader yX4_putHeader ∈ wsL_law0 := List.mem_of_getElem? (i := 450) rfl
set_option maxRecDepth 100000 in
theorem wl_451 : Cond.code yX4_putHeader cX4_putHeader 3 none ∈ wsL_law0 := List.mem_of_getElem? (i := 451) rfl
set_option maxRecDepth 100000 in
theorem wl_452 : Cond.methodLink RX4 31 yX1_put ∈ wsL_law0 := List.mem_of_getElem? (i := 452) rfl
set_option maxRecDepth 100000 in
theorem wl_453 : Cond.methodLink RX4 67 yX1_putLowestFirst ∈ wsL_law0 := List.mem_of_getElem? (i := 453) rfl
set_option maxRecDepth 100000 in
theorem wl_454 : Cond.methodLink RX4 47 yX2_pressBlock ∈ wsL_law0 := List.mem_of_getElem? (i := 454) rfl
set_option maxRecDepth 100000 in
theorem wl_455 : Cond.methodLink RX4 56 yX4_putPiece ∈ wsL_law0 := List.mem_of_getElem? (i := 455) rfl
set_option maxRecDepth 100000 in
theorem wl_456 : Cond.instanceMethod yX4_putPiece ∈ wsL_law0 := List.mem_of_getElem? (i := 456) rfl
set_option maxRecDepth 100000 in
theorem wl_457 : Cond.selects RX4 yX4_putPiece yX4_putPiece ∈ wsL_law0 := List.mem_of_getElem? (i := 457) rfl
set_option maxRecDepth 100000 in
theorem wl_458 : Cond.code yX4_putPiece cX4_putPiece 7 (some .boolean) ∈ wsL_law0 := List.mem_of_getElem? (i := 458) rfl
set_option maxRecDepth 100000 in
theorem wl_459 : Cond.methodLink RX4 60 yX1_hasRoomFor ∈ wsL_law0 := List.mem_of_getElem? (i := 459) rfl
set_option maxRecDepth 100000 in
theorem wl_460 : Cond.methodLink RX4 64 yX1_maskedCrc ∈ wsL_law0 := List.mem_of_getElem? (i := 460) rfl
set_option maxRecDepth 100000 in
theorem wl_461 : Cond.instanceMethod yX1_maskedCrc ∈ wsL_law0 := List.mem_of_getElem? (i := 461) rfl
set_option maxRecDepth 100000 in
theorem wl_462 : Cond.selects RX1 yX1_maskedCrc yX1_maskedCrc ∈ wsL_law0 := List.mem_of_getElem? (i := 462) rfl
set_option maxRecDepth 100000 in
theorem wl_463 : Cond.code yX1_maskedCrc cX1_maskedCrc 3 (some .int) ∈ wsL_law0 := List.mem_of_getElem? (i := 463) rfl
set_option maxRecDepth 100000 in
theorem wl_464 : Cond.constant RX1 65 (-1568478504) ∈ wsL_law0 := List.mem_of_getElem? (i := 464) rfl
set_option maxRecDepth 100000 in
theorem wl_465 : Cond.methodLink RX1 57 yX1_crc ∈ wsL_law0 := List.mem_of_getElem? (i := 465) rfl
set_option maxRecDepth 100000 in
theorem wl_466 : Cond.instanceMethod yX1_crc ∈ wsL_law0 := List.mem_of_getElem? (i := 466) rfl
set_option maxRecDepth 100000 in
theorem wl_467 : Cond.selects RX1 yX1_crc yX1_crc ∈ wsL_law0 := List.mem_of_getElem? (i := 467) rfl
set_option maxRecDepth 100000 in
theorem wl_468 : Cond.code yX1_crc cX1_crc 5 (some .int) ∈ wsL_law0 := List.mem_of_getElem? (i := 468) rfl
set_option maxRecDepth 100000 in
theorem wl_469 : Cond.fieldLink RX1 54 "SnapHouse$Bytes" "CRC_STEPS" "[I" ∈ wsL_law0 := List.mem_of_getElem? (i := 469) rfl
set_option maxRecDepth 100000 in
theorem wl_470 : Cond.methodLink RX1 60 yJ6_rotateLeft_7cf53 ∈ wsL_law0 := List.mem_of_getElem? (i := 470) rfl
set_option maxRecDepth 100000 in
theorem wl_471 : Cond.static yJ6_rotateLeft_7cf53 ∈ wsL_law0 := List.mem_of_getElem? (i := 471) rfl
set_option maxRecDepth 100000 in
theorem wl_472 : Cond.initialized RJ6 ∈ wsL_law0 := List.mem_of_getElem? (i := 472) rfl
set_option maxRecDepth 100000 in
theorem wl_473 : Cond.code yJ6_rotateLeft_7cf53 cJ6_rotateLeft_7cf53 2 (some .int) ∈ wsL_law0 := List.mem_of_getElem? (i := 473) rfl
set_option maxRecDepth 100000 in
theorem wl_474 : Cond.methodLink RX4 70 yX1_putAll ∈ wsL_law0 := List.mem_of_getElem? (i := 474) rfl
set_option maxRecDepth 100000 in
theorem wl_479 : Cond.fieldLink RX7 190 "SnapHouseModel" "isFull" "Z" ∈ wsL_law0 := List.mem_of_getElem? (i := 479) rfl
set_option maxRecDepth 100000 in
theorem wl_480 : Cond.methodLink RX7 194 yX7_add ∈ wsL_law0 := List.mem_of_getElem? (i := 480) rfl
set_option maxRecDepth 100000 in
theorem wl_481 : Cond.instanceMethod yX7_add ∈ wsL_law0 := List.mem_of_getElem? (i := 481) rfl
set_option maxRecDepth 100000 in
theorem wl_482 : Cond.selects RX7 yX7_add yX7_add ∈ wsL_law0 := List.mem_of_getElem? (i := 482) rfl
set_option maxRecDepth 100000 in
theorem wl_483 : Cond.code yX7_add cX7_add 2 none ∈ wsL_law0 := List.mem_of_getElem? (i := 483) rfl
set_option maxRecDepth 100000 in
theorem wl_484 : Cond.methodLink RX7 168 yX7_name ∈ wsL_law0 := List.mem_of_getElem? (i := 484) rfl
set_option maxRecDepth 100000 in
theorem wl_485 : Cond.instanceMethod yX7_name ∈ wsL_law0 := List.mem_of_getElem? (i := 485) rfl
set_option maxRecDepth 100000 in
theorem wl_486 : Cond.selects RX7 yX7_name yX7_name ∈ wsL_law0 := List.mem_of_getElem? (i := 486) rfl
set_option maxRecDepth 100000 in
theorem wl_487 : Cond.code yX7_name cX7_name 2 (some .int) ∈ wsL_law0 := List.mem_of_getElem? (i := 487) rfl
set_option maxRecDepth 100000 in
theorem wl_488 : Cond.methodLink RX7 197 yX7_piece ∈ wsL_law0 := List.mem_of_getElem? (i := 488) rfl
set_option maxRecDepth 100000 in
theorem wl_489 : Cond.instanceMethod yX7_piece ∈ wsL_law0 := List.mem_of_getElem? (i := 489) rfl
set_option maxRecDepth 100000 in
theorem wl_490 : Cond.selects RX7 yX7_piece yX7_piece ∈ wsL_law0 := List.mem_of_getElem? (i := 490) rfl
set_option maxRecDepth 100000 in
theorem wl_491 : Cond.code yX7_piece cX7_piece 8 none ∈ wsL_law0 := List.mem_of_getElem? (i := 491) rfl
set_option maxRecDepth 100000 in
theorem wl_492 : Cond.methodLink RX7 161 yX7_sumOf ∈ wsL_law0 := List.mem_of_getElem? (i := 492) rfl
set_option maxRecDepth 100000 in
theorem wl_493 : Cond.instanceMethod yX7_sumOf ∈ wsL_law0 := List.mem_of_getElem? (i := 493) rfl
set_option maxRecDepth 100000 in
theorem wl_494 : Cond.selects RX7 yX7_sumOf yX7_sumOf ∈ wsL_law0 := List.mem_of_getElem? (i := 494) rfl
set_option maxRecDepth 100000 in
theorem wl_495 : Cond.code yX7_sumOf cX7_sumOf 6 (some .int) ∈ wsL_law0 := List.mem_of_getElem? (i := 495) rfl
set_option maxRecDepth 100000 in
theorem wl_496 : Cond.methodLink RX7 165 yX7_masked ∈ wsL_law0 := List.mem_of_getElem? (i := 496) rfl
set_option maxRecDepth 100000 in
theorem wl_497 : Cond.instanceMethod yX7_masked ∈ wsL_law0 := List.mem_of_getElem? (i := 497) rfl
set_option maxRecDepth 100000 in
theorem wl_498 : Cond.selects RX7 yX7_masked yX7_masked ∈ wsL_law0 := List.mem_of_getElem? (i := 498) rfl
set_option maxRecDepth 100000 in
theorem wl_499 : Cond.code yX7_masked cX7_masked 2 (some .int) ∈ wsL_law0 := List.mem_of_getElem? (i := 499) rfl
set_option maxRecDepth 100000 in
theorem wl_500 : Cond.constant RX7 160 (-1568478504) ∈ wsL_law0 := List.mem_of_getElem? (i := 500) rfl
set_option maxRecDepth 100000 in
theorem wl_505 : Cond.methodLink RX6 149 yX5_openStream ∈ wsL_law0 := List.mem_of_getElem? (i := 505) rfl
set_option maxRecDepth 100000 in
theorem wl_506 : Cond.instanceMethod yX5_openStream ∈ wsL_law0 := List.mem_of_getElem? (i := 506) rfl
set_option maxRecDepth 100000 in
theorem wl_507 : Cond.selects RX5 yX5_openStream yX5_openStream ∈ wsL_law0 := List.mem_of_getElem? (i := 507) rfl
set_option maxRecDepth 100000 in
theorem wl_508 : Cond.code yX5_openStream cX5_openStream 5 none ∈ wsL_law0 := List.mem_of_getElem? (i := 508) rfl
set_option maxRecDepth 100000 in
theorem wl_509 : Cond.methodLink RX5 46 yX1_shorten ∈ wsL_law0 := List.mem_of_getElem? (i := 509) rfl
set_option maxRecDepth 100000 in
theorem wl_510 : Cond.methodLink RX5 49 yX3_clear ∈ wsL_law0 := List.mem_of_getElem? (i := 510) rfl
set_option maxRecDepth 100000 in
theorem wl_511 : Cond.methodLink RX5 52 yX1_at ∈ wsL_law0 := List.mem_of_getElem? (i := 511) rfl
set_option maxRecDepth 100000 in
theorem wl_512 : Cond.methodLink RX5 56 yX5_fail ∈ wsL_law0 := List.mem_of_getElem? (i := 512) rfl
set_option maxRecDepth 100000 in
theorem wl_513 : Cond.instanceMethod yX5_fail ∈ wsL_law0 := List.mem_of_getElem? (i := 513) rfl
set_option maxRecDepth 100000 in
theorem wl_514 : Cond.selects RX5 yX5_fail yX5_fail ∈ wsL_law0 := List.mem_of_getElem? (i := 514) rfl
set_option maxRecDepth 100000 in
theorem wl_515 : Cond.code yX5_fail cX5_fail 2 none ∈ wsL_law0 := List.mem_of_getElem? (i := 515) rfl
set_option maxRecDepth 100000 in
theorem wl_516 : Cond.methodLink RX5 62 yX5_readHeader ∈ wsL_law0 := List.mem_of_getElem? (i := 516) rfl
set_option maxRecDepth 100000 in
theorem wl_517 : Cond.instanceMethod yX5_readHeader ∈ wsL_law0 := List.mem_of_getElem? (i := 517) rfl
set_option maxRecDepth 100000 in
theorem wl_518 : Cond.selects RX5 yX5_readHeader yX5_readHeader ∈ wsL_law0 := List.mem_of_getElem? (i := 518) rfl
set_option maxRecDepth 100000 in
theorem wl_519 : Cond.code yX5_readHeader cX5_readHeader 2 none ∈ wsL_law0 := List.mem_of_getElem? (i := 519) rfl
set_option maxRecDepth 100000 in
theorem wl_520 : Cond.methodLink RX5 80 yX1_lowestFirst ∈ wsL_law0 := List.mem_of_getElem? (i := 520) rfl
set_option maxRecDepth 100000 in
theorem wl_521 : Cond.methodLink RX5 66 yX5_checkChunk ∈ wsL_law0 := List.mem_of_getElem? (i := 521) rfl
set_option maxRecDepth 100000 in
theorem wl_522 : Cond.instanceMethod yX5_checkChunk ∈ wsL_law0 := List.mem_of_getElem? (i := 522) rfl
set_option maxRecDepth 100000 in
theorem wl_523 : Cond.selects RX5 yX5_checkChunk yX5_checkChunk ∈ wsL_law0 := List.mem_of_getElem? (i := 523) rfl
set_option maxRecDepth 100000 in
theorem wl_524 : Cond.code yX5_checkChunk cX5_checkChunk 2 none ∈ wsL_law0 := List.mem_of_getElem? (i := 524) rfl
set_option maxRecDepth 100000 in
theorem wl_525 : Cond.methodLink RX5 84 yX5_isName ∈ wsL_law0 := List.mem_of_getElem? (i := 525) rfl
set_option maxRecDepth 100000 in
theorem wl_526 : Cond.instanceMethod yX5_isName ∈ wsL_law0 := List.mem_of_getElem? (i := 526) rfl
set_option maxRecDepth 100000 in
theorem wl_527 : Cond.selects RX5 yX5_isName yX5_isName ∈ wsL_law0 := List.mem_of_getElem? (i := 527) rfl
set_option maxRecDepth 100000 in
theorem wl_528 : Cond.code yX5_isName cX5_isName 8 (some .boolean) ∈ wsL_law0 := List.mem_of_getElem? (i := 528) rfl
set_option maxRecDepth 100000 in
theorem wl_529 : Cond.methodLink RX5 69 yX5_tellsBytes ∈ wsL_law0 := List.mem_of_getElem? (i := 529) rfl
set_option maxRecDepth 100000 in
theorem wl_530 : Cond.instanceMethod yX5_tellsBytes ∈ wsL_law0 := List.mem_of_getElem? (i := 530) rfl
set_option maxRecDepth 100000 in
theorem wl_531 : Cond.selects RX5 yX5_tellsBytes yX5_tellsBytes ∈ wsL_law0 := List.mem_of_getElem? (i := 531) rfl
set_option maxRecDepth 100000 in
theorem wl_532 : Cond.code yX5_tellsBytes cX5_tellsBytes 1 (some .boolean) ∈ wsL_law0 := List.mem_of_getElem? (i := 532) rfl
set_option maxRecDepth 100000 in
theorem wl_533 : Cond.methodLink RX5 73 yX5_openBytes ∈ wsL_law0 := List.mem_of_getElem? (i := 533) rfl
set_option maxRecDepth 100000 in
theorem wl_534 : Cond.instanceMethod yX5_openBytes ∈ wsL_law0 := List.mem_of_getElem? (i := 534) rfl
set_option maxRecDepth 100000 in
theorem wl_535 : Cond.selects RX5 yX5_openBytes yX5_openBytes ∈ wsL_law0 := List.mem_of_getElem? (i := 535) rfl
set_option maxRecDepth 100000 in
theorem wl_536 : Cond.code yX5_openBytes cX5_openBytes 5 none ∈ wsL_law0 := List.mem_of_getElem? (i := 536) rfl
set_option maxRecDepth 100000 in
theorem wl_537 : Cond.methodLink RX5 92 yX5_give ∈ wsL_law0 := List.mem_of_getElem? (i := 537) rfl
set_option maxRecDepth 100000 in
theorem wl_538 : Cond.instanceMethod yX5_give ∈ wsL_law0 := List.mem_of_getElem? (i := 538) rfl
set_option maxRecDepth 100000 in
theorem wl_539 : Cond.selects RX5 yX5_give yX5_give ∈ wsL_law0 := List.mem_of_getElem? (i := 539) rfl
set_option maxRecDepth 100000 in
theorem wl_540 : Cond.code yX5_give cX5_give 5 none ∈ wsL_law0 := List.mem_of_getElem? (i := 540) rfl
set_option maxRecDepth 100000 in
theorem wl_541 : Cond.methodLink RX5 104 yX1_hasRoomFor ∈ wsL_law0 := List.mem_of_getElem? (i := 541) rfl
set_option maxRecDepth 100000 in
theorem wl_542 : Cond.methodLink RX5 108 yX1_maskedCrc ∈ wsL_law0 := List.mem_of_getElem? (i := 542) rfl
set_option maxRecDepth 100000 in
theorem wl_543 : Cond.methodLink RX5 112 yX1_putAll ∈ wsL_law0 := List.mem_of_getElem? (i := 543) rfl
set_option maxRecDepth 100000 in
theorem wl_544 : Cond.methodLink RX5 96 yX0_openBlock ∈ wsL_law0 := List.mem_of_getElem? (i := 544) rfl
set_option maxRecDepth 100000 in
theorem wl_545 : Cond.methodLink RX5 77 yX5_keepChunk ∈ wsL_law0 := List.mem_of_getElem? (i := 545) rfl
set_option maxRecDepth 100000 in
theorem wl_546 : Cond.instanceMethod yX5_keepChunk ∈ wsL_law0 := List.mem_of_getElem? (i := 546) rfl
set_option maxRecDepth 100000 in
theorem wl_547 : Cond.selects RX5 yX5_keepChunk yX5_keepChunk ∈ wsL_law0 := List.mem_of_getElem? (i := 547) rfl
set_option maxRecDepth 100000 in
theorem wl_548 : Cond.code yX5_keepChunk cX5_keepChunk 3 none ∈ wsL_law0 := List.mem_of_getElem? (i := 548) rfl
set_option maxRecDepth 100000 in
theorem wl_549 : Cond.methodLink RX5 115 yX3_add ∈ wsL_law0 := List.mem_of_getElem? (i := 549) rfl
set_option maxRecDepth 100000 in
theorem wl_554 : Cond.fieldLink RX7 171 "SnapHouseModel" "foundMany" "I" ∈ wsL_law0 := List.mem_of_getElem? (i := 554) rfl
set_option maxRecDepth 100000 in
theorem wl_555 : Cond.fieldLink RX7 174 "SnapHouseModel" "skips" "I" ∈ wsL_law0 := List.mem_of_getElem? (i := 555) rfl
set_option maxRecDepth 100000 in
theorem wl_556 : Cond.fieldLink RX7 154 "SnapHouseModel" "chunkMany" "I" ∈ wsL_law0 := List.mem_of_getElem? (i := 556) rfl
set_option maxRecDepth 100000 in
theorem wl_557 : Cond.fieldLink RX7 157 "SnapHouseModel" "skippedMany" "I" ∈ wsL_law0 := List.mem_of_getElem? (i := 557) rfl
set_option maxRecDepth 100000 in
theorem wl_558 : Cond.methodLink RX7 177 yX7_chunkAt ∈ wsL_law0 := List.mem_of_getElem? (i := 558) rfl
set_option maxRecDepth 100000 in
theorem wl_559 : Cond.instanceMethod yX7_chunkAt ∈ wsL_law0 := List.mem_of_getElem? (i := 559) rfl
set_option maxRecDepth 100000 in
theorem wl_560 : Cond.selects RX7 yX7_chunkAt yX7_chunkAt ∈ wsL_law0 := List.mem_of_getElem? (i := 560) rfl
set_option maxRecDepth 100000 in
theorem wl_561 : Cond.code yX7_chunkAt cX7_chunkAt 7 (some .int) ∈ wsL_law0 := List.mem_of_getElem? (i := 561) rfl
set_option maxRecDepth 100000 in
theorem wl_562 : Cond.methodLink RX7 180 yX7_isName ∈ wsL_law0 := List.mem_of_getElem? (i := 562) rfl
set_option maxRecDepth 100000 in
theorem wl_563 : Cond.instanceMethod yX7_isName ∈ wsL_law0 := List.mem_of_getElem? (i := 563) rfl
set_option maxRecDepth 100000 in
theorem wl_564 : Cond.selects RX7 yX7_isName yX7_isName ∈ wsL_law0 := List.mem_of_getElem? (i := 564) rfl
set_option maxRecDepth 100000 in
theorem wl_565 : Cond.code yX7_isName cX7_isName 3 (some .boolean) ∈ wsL_law0 := List.mem_of_getElem? (i := 565) rfl
set_option maxRecDepth 100000 in
theorem wl_566 : Cond.methodLink RX7 184 yX7_bytesOf ∈ wsL_law0 := List.mem_of_getElem? (i := 566) rfl
set_option maxRecDepth 100000 in
theorem wl_567 : Cond.instanceMethod yX7_bytesOf ∈ wsL_law0 := List.mem_of_getElem? (i := 567) rfl
set_option maxRecDepth 100000 in
theorem wl_568 : Cond.selects RX7 yX7_bytesOf yX7_bytesOf ∈ wsL_law0 := List.mem_of_getElem? (i := 568) rfl
set_option maxRecDepth 100000 in
theorem wl_569 : Cond.code yX7_bytesOf cX7_bytesOf 8 none ∈ wsL_law0 := List.mem_of_getElem? (i := 569) rfl
set_option maxRecDepth 100000 in
theorem wl_570 : Cond.methodLink RX7 187 yX7_fourAt ∈ wsL_law0 := List.mem_of_getElem? (i := 570) rfl
set_option maxRecDepth 100000 in
theorem wl_571 : Cond.instanceMethod yX7_fourAt ∈ wsL_law0 := List.mem_of_getElem? (i := 571) rfl
set_option maxRecDepth 100000 in
theorem wl_572 : Cond.selects RX7 yX7_fourAt yX7_fourAt ∈ wsL_law0 := List.mem_of_getElem? (i := 572) rfl
set_option maxRecDepth 100000 in
theorem wl_573 : Cond.code yX7_fourAt cX7_fourAt 2 (some .int) ∈ wsL_law0 := List.mem_of_getElem? (i := 573) rfl
set_option maxRecDepth 100000 in
theorem wl_586 : Cond.methodLink RX6 159 yX3_cell ∈ wsL_law0 := List.mem_of_getElem? (i := 586) rfl
set_option maxRecDepth 100000 in
theorem wl_587 : Cond.instanceMethod yX3_cell ∈ wsL_law0 := List.mem_of_getElem? (i := 587) rfl
set_option maxRecDepth 100000 in
theorem wl_588 : Cond.selects RX3 yX3_cell yX3_cell ∈ wsL_law0 := List.mem_of_getElem? (i := 588) rfl
set_option maxRecDepth 100000 in
theorem wl_589 : Cond.code yX3_cell cX3_cell 3 (some .int) ∈ wsL_law0 := List.mem_of_getElem? (i := 589) rfl
set_option maxRecDepth 100000 in
theorem wl_606 : Cond.methodLink RX6 163 yX1_maskedCrc ∈ wsL_law0 := List.mem_of_getElem? (i := 606) rfl
set_option maxRecDepth 100000 in
theorem wl_607 : Cond.methodLink RX6 166 yX1_crc ∈ wsL_law0 := List.mem_of_getElem? (i := 607) rfl
abbrev wA_J6_rotateLeft_7cf53 : List Cond := .code yJ6_rotateLeft_7cf53 cJ6_rotateLeft_7cf53 2 (some .int) :: wsL_law0
abbrev wA_X0_backOf : List Cond := .code yX0_backOf cX0_backOf 4 (some .long) :: wsL_law0
abbrev wA_X0_bytesBehindTag : List Cond := .code yX0_bytesBehindTag cX0_bytesBehindTag 2 (some .int) :: wsL_law0
abbrev wA_X0_checkElement : List Cond := .code yX0_checkElement cX0_checkElement 1 none :: wsL_law0
abbrev wA_X0_fail : List Cond := .code yX0_fail cX0_fail 3 none :: wsL_law0
abbrev wA_X0_giveElement : List Cond := .code yX0_giveElement cX0_giveElement 4 none :: wsL_law0
abbrev wA_X0_openBlock : List Cond := .code yX0_openBlock cX0_openBlock 5 none :: wsL_law0
abbrev wA_X0_readElement : List Cond := .code yX0_readElement cX0_readElement 7 none :: wsL_law0
abbrev wA_X0_readLength : List Cond := .code yX0_readLength cX0_readLength 7 none :: wsL_law0
abbrev wA_X0_sizeOf : List Cond := .code yX0_sizeOf cX0_sizeOf 4 (some .long) :: wsL_law0
abbrev wA_X1_at : List Cond := .code yX1_at cX1_at 2 (some .int) :: wsL_law0
abbrev wA_X1_become : List Cond := .code yX1_become cX1_become 2 none :: wsL_law0
abbrev wA_X1_change : List Cond := .code yX1_change cX1_change 3 none :: wsL_law0
abbrev wA_X1_crc : List Cond := .code yX1_crc cX1_crc 5 (some .int) :: wsL_law0
abbrev wA_X1_fourFrom : List Cond := .code yX1_fourFrom cX1_fourFrom 2 (some .int) :: wsL_law0
abbrev wA_X1_has : List Cond := .code yX1_has cX1_has 3 (some .boolean) :: wsL_law0
abbrev wA_X1_hasPlace : List Cond := .code yX1_hasPlace cX1_hasPlace 2 (some .boolean) :: wsL_law0
abbrev wA_X1_hasRoomFor : List Cond := .code yX1_hasRoomFor cX1_hasRoomFor 2 (some .boolean) :: wsL_law0
abbrev wA_X1_lowestFirst : List Cond := .code yX1_lowestFirst cX1_lowestFirst 6 (some .long) :: wsL_law0
abbrev wA_X1_maskedCrc : List Cond := .code yX1_maskedCrc cX1_maskedCrc 3 (some .int) :: wsL_law0
abbrev wA_X1_put : List Cond := .code yX1_put cX1_put 2 none :: wsL_law0
abbrev wA_X1_putAll : List Cond := .code yX1_putAll cX1_putAll 4 none :: wsL_law0
abbrev wA_X1_putHighestFirst : List Cond := .code yX1_putHighestFirst cX1_putHighestFirst 2 none :: wsL_law0
abbrev wA_X1_putLowestFirst : List Cond := .code yX1_putLowestFirst cX1_putLowestFirst 4 none :: wsL_law0
abbrev wA_X1_putOwn : List Cond := .code yX1_putOwn cX1_putOwn 4 none :: wsL_law0
abbrev wA_X1_shorten : List Cond := .code yX1_shorten cX1_shorten 2 none :: wsL_law0
abbrev wA_X2_countAlike : List Cond := .code yX2_countAlike cX2_countAlike 5 (some .int) :: wsL_law0
abbrev wA_X2_freeSlots : List Cond := .code yX2_freeSlots cX2_freeSlots 4 none :: wsL_law0
abbrev wA_X2_noteAndFind : List Cond := .code yX2_noteAndFind cX2_noteAndFind 7 (some .int) :: wsL_law0
abbrev wA_X2_pressBlock : List Cond := .code yX2_pressBlock cX2_pressBlock 9 none :: wsL_law0
abbrev wA_X2_putCopies : List Cond := .code yX2_putCopies cX2_putCopies 4 none :: wsL_law0
abbrev wA_X2_putCopy : List Cond := .code yX2_putCopy cX2_putCopy 3 none :: wsL_law0
abbrev wA_X2_putLength : List Cond := .code yX2_putLength cX2_putLength 4 none :: wsL_law0
abbrev wA_X2_putLiteral : List Cond := .code yX2_putLiteral cX2_putLiteral 6 none :: wsL_law0
abbrev wA_X3_add : List Cond := .code yX3_add cX3_add 8 none :: wsL_law0
abbrev wA_X3_become : List Cond := .code yX3_become cX3_become 2 none :: wsL_law0
abbrev wA_X3_cell : List Cond := .code yX3_cell cX3_cell 3 (some .int) :: wsL_law0
abbrev wA_X3_clear : List Cond := .code yX3_clear cX3_clear 1 none :: wsL_law0
abbrev wA_X4_makeStream : List Cond := .code yX4_makeStream cX4_makeStream 8 (some .boolean) :: wsL_law0
abbrev wA_X4_putHeader : List Cond := .code yX4_putHeader cX4_putHeader 3 none :: wsL_law0
abbrev wA_X4_putPiece : List Cond := .code yX4_putPiece cX4_putPiece 7 (some .boolean) :: wsL_law0
abbrev wA_X5_checkChunk : List Cond := .code yX5_checkChunk cX5_checkChunk 2 none :: wsL_law0
abbrev wA_X5_fail : List Cond := .code yX5_fail cX5_fail 2 none :: wsL_law0
abbrev wA_X5_give : List Cond := .code yX5_give cX5_give 5 none :: wsL_law0
abbrev wA_X5_isName : List Cond := .code yX5_isName cX5_isName 8 (some .boolean) :: wsL_law0
abbrev wA_X5_keepChunk : List Cond := .code yX5_keepChunk cX5_keepChunk 3 none :: wsL_law0
abbrev wA_X5_openBytes : List Cond := .code yX5_openBytes cX5_openBytes 5 none :: wsL_law0
abbrev wA_X5_openStream : List Cond := .code yX5_openStream cX5_openStream 5 none :: wsL_law0
abbrev wA_X5_readHeader : List Cond := .code yX5_readHeader cX5_readHeader 2 none :: wsL_law0
abbrev wA_X5_tellsBytes : List Cond := .code yX5_tellsBytes cX5_tellsBytes 1 (some .boolean) :: wsL_law0
abbrev wA_X6_about : List Cond := .code yX6_about cX6_about 2 (some .int) :: wsL_law0
abbrev wA_X6_again : List Cond := .code yX6_again cX6_again 3 (some .int) :: wsL_law0
abbrev wA_X6_chunk : List Cond := .code yX6_chunk cX6_chunk 3 (some .int) :: wsL_law0
abbrev wA_X6_cut : List Cond := .code yX6_cut cX6_cut 2 (some .int) :: wsL_law0
abbrev wA_X6_element : List Cond := .code yX6_element cX6_element 3 (some .int) :: wsL_law0
abbrev wA_X6_fault : List Cond := .code yX6_fault cX6_fault 2 (some .int) :: wsL_law0
abbrev wA_X6_feed : List Cond := .code yX6_feed cX6_feed 6 (some .int) :: wsL_law0
abbrev wA_X6_fill : List Cond := .code yX6_fill cX6_fill 4 (some .int) :: wsL_law0
abbrev wA_X6_isByte : List Cond := .code yX6_isByte cX6_isByte 1 (some .boolean) :: wsL_law0
abbrev wA_X6_keepFault : List Cond := .code yX6_keepFault cX6_keepFault 5 none :: wsL_law0
abbrev wA_X6_open : List Cond := .code yX6_open cX6_open 1 (some .int) :: wsL_law0
abbrev wA_X6_press : List Cond := .code yX6_press cX6_press 1 (some .int) :: wsL_law0
abbrev wA_X6_set : List Cond := .code yX6_set cX6_set 4 (some .int) :: wsL_law0
abbrev wA_X6_stream : List Cond := .code yX6_stream cX6_stream 2 (some .int) :: wsL_law0
abbrev wA_X6_sum : List Cond := .code yX6_sum cX6_sum 4 (some .int) :: wsL_law0
abbrev wA_X6_take : List Cond := .code yX6_take cX6_take 1 (some .int) :: wsL_law0
abbrev wA_X6_tape : List Cond := .code yX6_tape cX6_tape 2 (some .int) :: wsL_law0
abbrev wA_X6_unstream : List Cond := .code yX6_unstream cX6_unstream 1 (some .int) :: wsL_law0
abbrev wA_X7_about : List Cond := .code yX7_about cX7_about 2 (some .int) :: wsL_law0
abbrev wA_X7_add : List Cond := .code yX7_add cX7_add 2 none :: wsL_law0
abbrev wA_X7_again : List Cond := .code yX7_again cX7_again 4 (some .int) :: wsL_law0
abbrev wA_X7_areFour : List Cond := .code yX7_areFour cX7_areFour 3 (some .boolean) :: wsL_law0
abbrev wA_X7_at : List Cond := .code yX7_at cX7_at 2 (some .int) :: wsL_law0
abbrev wA_X7_bad : List Cond := .code yX7_bad cX7_bad 3 none :: wsL_law0
abbrev wA_X7_bytesOf : List Cond := .code yX7_bytesOf cX7_bytesOf 8 none :: wsL_law0
abbrev wA_X7_chunk : List Cond := .code yX7_chunk cX7_chunk 3 (some .int) :: wsL_law0
abbrev wA_X7_chunkAt : List Cond := .code yX7_chunkAt cX7_chunkAt 7 (some .int) :: wsL_law0
abbrev wA_X7_copies : List Cond := .code yX7_copies cX7_copies 4 none :: wsL_law0
abbrev wA_X7_copyTwo : List Cond := .code yX7_copyTwo cX7_copyTwo 3 none :: wsL_law0
abbrev wA_X7_cut : List Cond := .code yX7_cut cX7_cut 2 (some .int) :: wsL_law0
abbrev wA_X7_element : List Cond := .code yX7_element cX7_element 3 (some .int) :: wsL_law0
abbrev wA_X7_elementAt : List Cond := .code yX7_elementAt cX7_elementAt 17 (some .int) :: wsL_law0
abbrev wA_X7_fault : List Cond := .code yX7_fault cX7_fault 2 (some .int) :: wsL_law0
abbrev wA_X7_feed : List Cond := .code yX7_feed cX7_feed 6 (some .int) :: wsL_law0
abbrev wA_X7_fill : List Cond := .code yX7_fill cX7_fill 4 (some .int) :: wsL_law0
abbrev wA_X7_fourAt : List Cond := .code yX7_fourAt cX7_fourAt 2 (some .int) :: wsL_law0
abbrev wA_X7_give : List Cond := .code yX7_give cX7_give 4 none :: wsL_law0
abbrev wA_X7_isName : List Cond := .code yX7_isName cX7_isName 3 (some .boolean) :: wsL_law0
abbrev wA_X7_keyOf : List Cond := .code yX7_keyOf cX7_keyOf 3 (some .int) :: wsL_law0
abbrev wA_X7_literal : List Cond := .code yX7_literal cX7_literal 7 none :: wsL_law0
abbrev wA_X7_masked : List Cond := .code yX7_masked cX7_masked 2 (some .int) :: wsL_law0
abbrev wA_X7_name : List Cond := .code yX7_name cX7_name 2 (some .int) :: wsL_law0
abbrev wA_X7_open : List Cond := .code yX7_open cX7_open 2 (some .int) :: wsL_law0
abbrev wA_X7_openPart : List Cond := .code yX7_openPart cX7_openPart 9 none :: wsL_law0
abbrev wA_X7_out : List Cond := .code yX7_out cX7_out 2 (some .int) :: wsL_law0
abbrev wA_X7_pack : List Cond := .code yX7_pack cX7_pack 2 none :: wsL_law0
abbrev wA_X7_piece : List Cond := .code yX7_piece cX7_piece 8 none :: wsL_law0
abbrev wA_X7_press : List Cond := .code yX7_press cX7_press 1 (some .int) :: wsL_law0
abbrev wA_X7_pressPart : List Cond := .code yX7_pressPart cX7_pressPart 11 none :: wsL_law0
abbrev wA_X7_set : List Cond := .code yX7_set cX7_set 4 (some .int) :: wsL_law0
abbrev wA_X7_stream : List Cond := .code yX7_stream cX7_stream 3 (some .int) :: wsL_law0
abbrev wA_X7_sum : List Cond := .code yX7_sum cX7_sum 5 (some .int) :: wsL_law0
abbrev wA_X7_sumOf : List Cond := .code yX7_sumOf cX7_sumOf 6 (some .int) :: wsL_law0
abbrev wA_X7_take : List Cond := .code yX7_take cX7_take 2 (some .int) :: wsL_law0
abbrev wA_X7_tape : List Cond := .code yX7_tape cX7_tape 2 (some .int) :: wsL_law0
abbrev wA_X7_thrown : List Cond := .code yX7_thrown cX7_thrown 1 (some .int) :: wsL_law0
abbrev wA_X7_told : List Cond := .code yX7_told cX7_told 5 none :: wsL_law0
abbrev wA_X7_unstream : List Cond := .code yX7_unstream cX7_unstream 3 (some .int) :: wsL_law0
abbrev wA_X7_word : List Cond := .code yX7_word cX7_word 3 none :: wsL_law0
end
section
abbrev wF_SnapHouse (g : GX) (h_o h_o_theTape h_o_theTape_row h_o_theOut h_o_theOut_row h_o_presser h_o_presser_block h_o_presser_block_row h_o_presser_slots h_o_streamMaker h_o_streamMaker_made h_o_streamMaker_made_row h_o_blockOpener h_o_blockOpener_given h_o_blockOpener_given_row h_o_blockOpener_elements h_o_blockOpener_elements_cells h_o_streamOpener h_o_streamOpener_given h_o_streamOpener_given_row h_o_streamOpener_chunks h_o_streamOpener_chunks_cells h_o_keptElements h_o_keptElements_cells h_o_keptChunks h_o_keptChunks_cells : Nat) (o_faultNumber : Int32) (o_faultPlace : Int32) (o_faultOfBlock : Int32) (o_faultPlaceInBlock : Int32) (o_theTape_count : Int32) (o_theTape_row_n : Nat) (o_theTape_row_c : Nat → Int32) (o_theOut_count : Int32) (o_theOut_row_n : Nat) (o_theOut_row_c : Nat → Int32) (o_presser_slotMask : Int32) (o_presser_block_count : Int32) (o_presser_block_row_n : Nat) (o_presser_block_row_c : Nat → Int32) (o_presser_slots_n : Nat) (o_presser_slots_c : Nat → Int32) (o_streamMaker_made_count : Int32) (o_streamMaker_made_row_n : Nat) (o_streamMaker_made_row_c : Nat → Int32) (o_blockOpener_fault : Int32) (o_blockOpener_place : Int32) (o_blockOpener_start : Int32) (o_blockOpener_end : Int32) (o_blockOpener_next : Int32) (o_blockOpener_length : Int32) (o_blockOpener_sort : Int32) (o_blockOpener_body : Int32) (o_blockOpener_size : Int64) (o_blockOpener_back : Int64) (o_blockOpener_given_count : Int32) (o_blockOpener_given_row_n : Nat) (o_blockOpener_given_row_c : Nat → Int32) (o_blockOpener_elements_count : Int32) (o_blockOpener_elements_marked : Int32) (o_blockOpener_elements_cells_n : Nat) (o_blockOpener_elements_cells_c : Nat → Int32) (o_streamOpener_fault : Int32) (o_streamOpener_place : Int32) (o_streamOpener_next : Int32) (o_streamOpener_type : Int32) (o_streamOpener_body : Int32) (o_streamOpener_size : Int32) (o_streamOpener_given_count : Int32) (o_streamOpener_given_row_n : Nat) (o_streamOpener_given_row_c : Nat → Int32) (o_streamOpener_chunks_count : Int32) (o_streamOpener_chunks_marked : Int32) (o_streamOpener_chunks_cells_n : Nat) (o_streamOpener_chunks_cells_c : Nat → Int32) (o_keptElements_count : Int32) (o_keptElements_marked : Int32) (o_keptElements_cells_n : Nat) (o_keptElements_cells_c : Nat → Int32) (o_keptChunks_count : Int32) (o_keptChunks_marked : Int32) (o_keptChunks_cells_n : Nat) (o_keptChunks_cells_c : Nat → Int32) : va_W := [(h_o, .inr (6, [.ref h_o_theTape, .ref h_o_theOut, .ref h_o_presser, .ref h_o_streamMaker, .ref h_o_blockOpener, .ref h_o_streamOpener, .ref h_o_keptElements, .ref h_o_keptChunks, .int o_faultNumber, .int o_faultPlace, .int o_faultOfBlock, .int o_faultPlaceInBlock])), (h_o_theTape, .inr (1, [.ref h_o_theTape_row, .int o_theTape_count])), (h_o_theTape_row, .inl (g.2.1.1, o_theTape_row_n, .inl o_theTape_row_c)), (h_o_theOut, .inr (1, [.ref h_o_theOut_row, .int o_theOut_count])), (h_o_theOut_row, .inl (g.2.1.1, o_theOut_row_n, .inl o_theOut_row_c)), (h_o_presser, .inr (2, [.ref h_o_presser_block, .ref h_o_presser_slots, .int o_presser_slotMask])), (h_o_presser_block, .inr (1, [.ref h_o_presser_block_row, .int o_presser_block_count])), (h_o_presser_block_row, .inl (g.2.1.1, o_presser_block_row_n, .inl o_presser_block_row_c)), (h_o_presser_slots, .inl (g.2.1.1, o_presser_slots_n, .inl o_presser_slots_c)), (h_o_streamMaker, .inr (4, [.ref h_o_streamMaker_made])), (h_o_streamMaker_made, .inr (1, [.ref h_o_streamMaker_made_row, .int o_streamMaker_made_count])), (h_o_streamMaker_made_row, .inl (g.2.1.1, o_streamMaker_made_row_n, .inl o_streamMaker_made_row_c)), (h_o_blockOpener, .inr (0, [.ref h_o_blockOpener_given, .ref h_o_blockOpener_elements, .int o_blockOpener_fault, .int o_blockOpener_place, .int o_blockOpener_start, .int o_blockOpener_end, .int o_blockOpener_next, .int o_blockOpener_length, .int o_blockOpener_sort, .int o_blockOpener_body, .long o_blockOpener_size, .long o_blockOpener_back])), (h_o_blockOpener_given, .inr (1, [.ref h_o_blockOpener_given_row, .int o_blockOpener_given_count])), (h_o_blockOpener_given_row, .inl (g.2.1.1, o_blockOpener_given_row_n, .inl o_blockOpener_given_row_c)), (h_o_blockOpener_elements, .inr (3, [.ref h_o_blockOpener_elements_cells, .int o_blockOpener_elements_count, .int o_blockOpener_elements_marked])), (h_o_blockOpener_elements_cells, .inl (g.2.1.1, o_blockOpener_elements_cells_n, .inl o_blockOpener_elements_cells_c)), (h_o_streamOpener, .inr (5, [.ref h_o_streamOpener_given, .ref h_o_streamOpener_chunks, .int o_streamOpener_fault, .int o_streamOpener_place, .int o_streamOpener_next, .int o_streamOpener_type, .int o_streamOpener_body, .int o_streamOpener_size])), (h_o_streamOpener_given, .inr (1, [.ref h_o_streamOpener_given_row, .int o_streamOpener_given_count])), (h_o_streamOpener_given_row, .inl (g.2.1.1, o_streamOpener_given_row_n, .inl o_streamOpener_given_row_c)), (h_o_streamOpener_chunks, .inr (3, [.ref h_o_streamOpener_chunks_cells, .int o_streamOpener_chunks_count, .int o_streamOpener_chunks_marked])), (h_o_streamOpener_chunks_cells, .inl (g.2.1.1, o_streamOpener_chunks_cells_n, .inl o_streamOpener_chunks_cells_c)), (h_o_keptElements, .inr (3, [.ref h_o_keptElements_cells, .int o_keptElements_count, .int o_keptElements_marked])), (h_o_keptElements_cells, .inl (g.2.1.1, o_keptElements_cells_n, .inl o_keptElements_cells_c)), (h_o_keptChunks, .inr (3, [.ref h_o_keptChunks_cells, .int o_keptChunks_count, .int o_keptChunks_marked])), (h_o_keptChunks_cells, .inl (g.2.1.1, o_keptChunks_cells_n, .inl o_keptChunks_cells_c))]
abbrev wF_Bytes (g : GX) (h_o h_o_row : Nat) (o_count : Int32) (o_row_n : Nat) (o_row_c : Nat → Int32) : va_W := [(h_o, .inr (1, [.ref h_o_row, .int o_count])), (h_o_row, .inl (g.2.1.1, o_row_n, .inl o_row_c))]
abbrev wF_ (_ : GX) : va_W := []
abbrev wF_Bytes_Bytes (g : GX) (h_o h_o_row h_a h_a_row : Nat) (o_count : Int32) (o_row_n : Nat) (o_row_c : Nat → Int32) (a_count : Int32) (a_row_n : Nat) (a_row_c : Nat → Int32) : va_W := [(h_o, .inr (1, [.ref h_o_row, .int o_count])), (h_o_row, .inl (g.2.1.1, o_row_n, .inl o_row_c)), (h_a, .inr (1, [.ref h_a_row, .int a_count])), (h_a_row, .inl (g.2.1.1, a_row_n, .inl a_row_c))]
abbrev wF_Presser_Bytes (g : GX) (h_o h_o_block h_o_block_row h_o_slots h_a h_a_row : Nat) (o_slotMask : Int32) (o_block_count : Int32) (o_block_row_n : Nat) (o_block_row_c : Nat → Int32) (o_slots_n : Nat) (o_slots_c : Nat → Int32) (a_count : Int32) (a_row_n : Nat) (a_row_c : Nat → Int32) : va_W := [(h_o, .inr (2, [.ref h_o_block, .ref h_o_slots, .int o_slotMask])), (h_o_block, .inr (1, [.ref h_o_block_row, .int o_block_count])), (h_o_block_row, .inl (g.2.1.1, o_block_row_n, .inl o_block_row_c)), (h_o_slots, .inl (g.2.1.1, o_slots_n, .inl o_slots_c)), (h_a, .inr (1, [.ref h_a_row, .int a_count])), (h_a_row, .inl (g.2.1.1, a_row_n, .inl a_row_c))]
abbrev wF_Presser (g : GX) (h_o h_o_block h_o_block_row h_o_slots : Nat) (o_slotMask : Int32) (o_block_count : Int32) (o_block_row_n : Nat) (o_block_row_c : Nat → Int32) (o_slots_n : Nat) (o_slots_c : Nat → Int32) : va_W := [(h_o, .inr (2, [.ref h_o_block, .ref h_o_slots, .int o_slotMask])), (h_o_block, .inr (1, [.ref h_o_block_row, .int o_block_count])), (h_o_block_row, .inl (g.2.1.1, o_block_row_n, .inl o_block_row_c)), (h_o_slots, .inl (g.2.1.1, o_slots_n, .inl o_slots_c))]
abbrev wF_BlockOpener_Bytes (g : GX) (h_o h_o_given h_o_given_row h_o_elements h_o_elements_cells h_a h_a_row : Nat) (o_fault : Int32) (o_place : Int32) (o_start : Int32) (o_end : Int32) (o_next : Int32) (o_length : Int32) (o_sort : Int32) (o_body : Int32) (o_size : Int64) (o_back : Int64) (o_given_count : Int32) (o_given_row_n : Nat) (o_given_row_c : Nat → Int32) (o_elements_count : Int32) (o_elements_marked : Int32) (o_elements_cells_n : Nat) (o_elements_cells_c : Nat → Int32) (a_count : Int32) (a_row_n : Nat) (a_row_c : Nat → Int32) : va_W := [(h_o, .inr (0, [.ref h_o_given, .ref h_o_elements, .int o_fault, .int o_place, .int o_start, .int o_end, .int o_next, .int o_length, .int o_sort, .int o_body, .long o_size, .long o_back])), (h_o_given, .inr (1, [.ref h_o_given_row, .int o_given_count])), (h_o_given_row, .inl (g.2.1.1, o_given_row_n, .inl o_given_row_c)), (h_o_elements, .inr (3, [.ref h_o_elements_cells, .int o_elements_count, .int o_elements_marked])), (h_o_elements_cells, .inl (g.2.1.1, o_elements_cells_n, .inl o_elements_cells_c)), (h_a, .inr (1, [.ref h_a_row, .int a_count])), (h_a_row, .inl (g.2.1.1, a_row_n, .inl a_row_c))]
abbrev wF_Rows (g : GX) (h_o h_o_cells : Nat) (o_count : Int32) (o_marked : Int32) (o_cells_n : Nat) (o_cells_c : Nat → Int32) : va_W := [(h_o, .inr (3, [.ref h_o_cells, .int o_count, .int o_marked])), (h_o_cells, .inl (g.2.1.1, o_cells_n, .inl o_cells_c))]
abbrev wF_BlockOpener (g : GX) (h_o h_o_given h_o_given_row h_o_elements h_o_elements_cells : Nat) (o_fault : Int32) (o_place : Int32) (o_start : Int32) (o_end : Int32) (o_next : Int32) (o_length : Int32) (o_sort : Int32) (o_body : Int32) (o_size : Int64) (o_back : Int64) (o_given_count : Int32) (o_given_row_n : Nat) (o_given_row_c : Nat → Int32) (o_elements_count : Int32) (o_elements_marked : Int32) (o_elements_cells_n : Nat) (o_elements_cells_c : Nat → Int32) : va_W := [(h_o, .inr (0, [.ref h_o_given, .ref h_o_elements, .int o_fault, .int o_place, .int o_start, .int o_end, .int o_next, .int o_length, .int o_sort, .int o_body, .long o_size, .long o_back])), (h_o_given, .inr (1, [.ref h_o_given_row, .int o_given_count])), (h_o_given_row, .inl (g.2.1.1, o_given_row_n, .inl o_given_row_c)), (h_o_elements, .inr (3, [.ref h_o_elements_cells, .int o_elements_count, .int o_elements_marked])), (h_o_elements_cells, .inl (g.2.1.1, o_elements_cells_n, .inl o_elements_cells_c))]
abbrev wF_Rows_Rows (g : GX) (h_o h_o_cells h_a h_a_cells : Nat) (o_count : Int32) (o_marked : Int32) (o_cells_n : Nat) (o_cells_c : Nat → Int32) (a_count : Int32) (a_marked : Int32) (a_cells_n : Nat) (a_cells_c : Nat → Int32) : va_W := [(h_o, .inr (3, [.ref h_o_cells, .int o_count, .int o_marked])), (h_o_cells, .inl (g.2.1.1, o_cells_n, .inl o_cells_c)), (h_a, .inr (3, [.ref h_a_cells, .int a_count, .int a_marked])), (h_a_cells, .inl (g.2.1.1, a_cells_n, .inl a_cells_c))]
abbrev wF_StreamMaker_Bytes_Presser (g : GX) (h_o h_o_made h_o_made_row h_a h_a_row h_b h_b_block h_b_block_row h_b_slots : Nat) (o_made_count : Int32) (o_made_row_n : Nat) (o_made_row_c : Nat → Int32) (a_count : Int32) (a_row_n : Nat) (a_row_c : Nat → Int32) (b_slotMask : Int32) (b_block_count : Int32) (b_block_row_n : Nat) (b_block_row_c : Nat → Int32) (b_slots_n : Nat) (b_slots_c : Nat → Int32) : va_W := [(h_o, .inr (4, [.ref h_o_made])), (h_o_made, .inr (1, [.ref h_o_made_row, .int o_made_count])), (h_o_made_row, .inl (g.2.1.1, o_made_row_n, .inl o_made_row_c)), (h_a, .inr (1, [.ref h_a_row, .int a_count])), (h_a_row, .inl (g.2.1.1, a_row_n, .inl a_row_c)), (h_b, .inr (2, [.ref h_b_block, .ref h_b_slots, .int b_slotMask])), (h_b_block, .inr (1, [.ref h_b_block_row, .int b_block_count])), (h_b_block_row, .inl (g.2.1.1, b_block_row_n, .inl b_block_row_c)), (h_b_slots, .inl (g.2.1.1, b_slots_n, .inl b_slots_c))]
abbrev wF_StreamMaker (g : GX) (h_o h_o_made h_o_made_row : Nat) (o_made_count : Int32) (o_made_row_n : Nat) (o_made_row_c : Nat → Int32) : va_W := [(h_o, .inr (4, [.ref h_o_made])), (h_o_made, .inr (1, [.ref h_o_made_row, .int o_made_count])), (h_o_made_row, .inl (g.2.1.1, o_made_row_n, .inl o_made_row_c))]
abbrev wF_StreamMaker_Bytes_Bytes (g : GX) (h_o h_o_made h_o_made_row h_a h_a_row h_b h_b_row : Nat) (o_made_count : Int32) (o_made_row_n : Nat) (o_made_row_c : Nat → Int32) (a_count : Int32) (a_row_n : Nat) (a_row_c : Nat → Int32) (b_count : Int32) (b_row_n : Nat) (b_row_c : Nat → Int32) : va_W := [(h_o, .inr (4, [.ref h_o_made])), (h_o_made, .inr (1, [.ref h_o_made_row, .int o_made_count])), (h_o_made_row, .inl (g.2.1.1, o_made_row_n, .inl o_made_row_c)), (h_a, .inr (1, [.ref h_a_row, .int a_count])), (h_a_row, .inl (g.2.1.1, a_row_n, .inl a_row_c)), (h_b, .inr (1, [.ref h_b_row, .int b_count])), (h_b_row, .inl (g.2.1.1, b_row_n, .inl b_row_c))]
abbrev wF_StreamOpener_Bytes_BlockOpener (g : GX) (h_o h_o_given h_o_given_row h_o_chunks h_o_chunks_cells h_a h_a_row h_b h_b_given h_b_given_row h_b_elements h_b_elements_cells : Nat) (o_fault : Int32) (o_place : Int32) (o_next : Int32) (o_type : Int32) (o_body : Int32) (o_size : Int32) (o_given_count : Int32) (o_given_row_n : Nat) (o_given_row_c : Nat → Int32) (o_chunks_count : Int32) (o_chunks_marked : Int32) (o_chunks_cells_n : Nat) (o_chunks_cells_c : Nat → Int32) (a_count : Int32) (a_row_n : Nat) (a_row_c : Nat → Int32) (b_fault : Int32) (b_place : Int32) (b_start : Int32) (b_end : Int32) (b_next : Int32) (b_length : Int32) (b_sort : Int32) (b_body : Int32) (b_size : Int64) (b_back : Int64) (b_given_count : Int32) (b_given_row_n : Nat) (b_given_row_c : Nat → Int32) (b_elements_count : Int32) (b_elements_marked : Int32) (b_elements_cells_n : Nat) (b_elements_cells_c : Nat → Int32) : va_W := [(h_o, .inr (5, [.ref h_o_given, .ref h_o_chunks, .int o_fault, .int o_place, .int o_next, .int o_type, .int o_body, .int o_size])), (h_o_given, .inr (1, [.ref h_o_given_row, .int o_given_count])), (h_o_given_row, .inl (g.2.1.1, o_given_row_n, .inl o_given_row_c)), (h_o_chunks, .inr (3, [.ref h_o_chunks_cells, .int o_chunks_count, .int o_chunks_marked])), (h_o_chunks_cells, .inl (g.2.1.1, o_chunks_cells_n, .inl o_chunks_cells_c)), (h_a, .inr (1, [.ref h_a_row, .int a_count])), (h_a_row, .inl (g.2.1.1, a_row_n, .inl a_row_c)), (h_b, .inr (0, [.ref h_b_given, .ref h_b_elements, .int b_fault, .int b_place, .int b_start, .int b_end, .int b_next, .int b_length, .int b_sort, .int b_body, .long b_size, .long b_back])), (h_b_given, .inr (1, [.ref h_b_given_row, .int b_given_count])), (h_b_given_row, .inl (g.2.1.1, b_given_row_n, .inl b_given_row_c)), (h_b_elements, .inr (3, [.ref h_b_elements_cells, .int b_elements_count, .int b_elements_marked])), (h_b_elements_cells, .inl (g.2.1.1, b_elements_cells_n, .inl b_elements_cells_c))]
abbrev wF_StreamOpener (g : GX) (h_o h_o_given h_o_given_row h_o_chunks h_o_chunks_cells : Nat) (o_fault : Int32) (o_place : Int32) (o_next : Int32) (o_type : Int32) (o_body : Int32) (o_size : Int32) (o_given_count : Int32) (o_given_row_n : Nat) (o_given_row_c : Nat → Int32) (o_chunks_count : Int32) (o_chunks_marked : Int32) (o_chunks_cells_n : Nat) (o_chunks_cells_c : Nat → Int32) : va_W := [(h_o, .inr (5, [.ref h_o_given, .ref h_o_chunks, .int o_fault, .int o_place, .int o_next, .int o_type, .int o_body, .int o_size])), (h_o_given, .inr (1, [.ref h_o_given_row, .int o_given_count])), (h_o_given_row, .inl (g.2.1.1, o_given_row_n, .inl o_given_row_c)), (h_o_chunks, .inr (3, [.ref h_o_chunks_cells, .int o_chunks_count, .int o_chunks_marked])), (h_o_chunks_cells, .inl (g.2.1.1, o_chunks_cells_n, .inl o_chunks_cells_c))]
abbrev wF_StreamOpener_Bytes (g : GX) (h_o h_o_given h_o_given_row h_o_chunks h_o_chunks_cells h_a h_a_row : Nat) (o_fault : Int32) (o_place : Int32) (o_next : Int32) (o_type : Int32) (o_body : Int32) (o_size : Int32) (o_given_count : Int32) (o_given_row_n : Nat) (o_given_row_c : Nat → Int32) (o_chunks_count : Int32) (o_chunks_marked : Int32) (o_chunks_cells_n : Nat) (o_chunks_cells_c : Nat → Int32) (a_count : Int32) (a_row_n : Nat) (a_row_c : Nat → Int32) : va_W := [(h_o, .inr (5, [.ref h_o_given, .ref h_o_chunks, .int o_fault, .int o_place, .int o_next, .int o_type, .int o_body, .int o_size])), (h_o_given, .inr (1, [.ref h_o_given_row, .int o_given_count])), (h_o_given_row, .inl (g.2.1.1, o_given_row_n, .inl o_given_row_c)), (h_o_chunks, .inr (3, [.ref h_o_chunks_cells, .int o_chunks_count, .int o_chunks_marked])), (h_o_chunks_cells, .inl (g.2.1.1, o_chunks_cells_n, .inl o_chunks_cells_c)), (h_a, .inr (1, [.ref h_a_row, .int a_count])), (h_a_row, .inl (g.2.1.1, a_row_n, .inl a_row_c))]
abbrev wF_StreamOpener_Bytes_Bytes (g : GX) (h_o h_o_given h_o_given_row h_o_chunks h_o_chunks_cells h_a h_a_row h_b h_b_row : Nat) (o_fault : Int32) (o_place : Int32) (o_next : Int32) (o_type : Int32) (o_body : Int32) (o_size : Int32) (o_given_count : Int32) (o_given_row_n : Nat) (o_given_row_c : Nat → Int32) (o_chunks_count : Int32) (o_chunks_marked : Int32) (o_chunks_cells_n : Nat) (o_chunks_cells_c : Nat → Int32) (a_count : Int32) (a_row_n : Nat) (a_row_c : Nat → Int32) (b_count : Int32) (b_row_n : Nat) (b_row_c : Nat → Int32) : va_W := [(h_o, .inr (5, [.ref h_o_given, .ref h_o_chunks, .int o_fault, .int o_place, .int o_next, .int o_type, .int o_body, .int o_size])), (h_o_given, .inr (1, [.ref h_o_given_row, .int o_given_count])), (h_o_given_row, .inl (g.2.1.1, o_given_row_n, .inl o_given_row_c)), (h_o_chunks, .inr (3, [.ref h_o_chunks_cells, .int o_chunks_count, .int o_chunks_marked])), (h_o_chunks_cells, .inl (g.2.1.1, o_chunks_cells_n, .inl o_chunks_cells_c)), (h_a, .inr (1, [.ref h_a_row, .int a_count])), (h_a_row, .inl (g.2.1.1, a_row_n, .inl a_row_c)), (h_b, .inr (1, [.ref h_b_row, .int b_count])), (h_b_row, .inl (g.2.1.1, b_row_n, .inl b_row_c))]
abbrev wF_SnapHouseModel (g : GX) (h_o h_o_tape h_o_out h_o_made h_o_packed h_o_latest h_o_ahead h_o_notes h_o_elements h_o_chunks h_o_sums h_o_found h_o_before : Nat) (o_taped : Int32) (o_outs : Int32) (o_mades : Int32) (o_packs : Int32) (o_thrown : Int32) (o_blockFault : Int32) (o_blockPlace : Int32) (o_opened : Int32) (o_literals : Int32) (o_wanted : Int32) (o_elementMany : Int32) (o_literalMany : Int32) (o_chunkMany : Int32) (o_skippedMany : Int32) (o_faultNumber : Int32) (o_faultPlace : Int32) (o_faultInner : Int32) (o_faultInnerPlace : Int32) (o_foundMany : Int32) (o_skips : Int32) (o_isFull : Int32) (o_tape_n : Nat) (o_tape_c : Nat → Int32) (o_out_n : Nat) (o_out_c : Nat → Int32) (o_made_n : Nat) (o_made_c : Nat → Int32) (o_packed_n : Nat) (o_packed_c : Nat → Int32) (o_latest_n : Nat) (o_latest_c : Nat → Int32) (o_ahead_n : Nat) (o_ahead_c : Nat → Int32) (o_notes_n : Nat) (o_notes_c : Nat → Int32) (o_elements_n : Nat) (o_elements_c : Nat → Int32) (o_chunks_n : Nat) (o_chunks_c : Nat → Int32) (o_sums_n : Nat) (o_sums_c : Nat → Int32) (o_found_n : Nat) (o_found_c : Nat → Int32) (o_before_n : Nat) (o_before_c : Nat → Int32) : va_W := [(h_o, .inr (7, [.ref h_o_tape, .ref h_o_out, .ref h_o_made, .ref h_o_packed, .int o_taped, .int o_outs, .int o_mades, .int o_packs, .int o_thrown, .ref h_o_latest, .ref h_o_ahead, .int o_blockFault, .int o_blockPlace, .int o_opened, .int o_literals, .ref h_o_notes, .int o_wanted, .ref h_o_elements, .ref h_o_chunks, .int o_elementMany, .int o_literalMany, .int o_chunkMany, .int o_skippedMany, .int o_faultNumber, .int o_faultPlace, .int o_faultInner, .int o_faultInnerPlace, .ref h_o_sums, .ref h_o_found, .int o_foundMany, .int o_skips, .ref h_o_before, .int o_isFull])), (h_o_tape, .inl (g.2.1.2.1, o_tape_n, .inl o_tape_c)), (h_o_out, .inl (g.2.1.2.1, o_out_n, .inl o_out_c)), (h_o_made, .inl (g.2.1.2.1, o_made_n, .inl o_made_c)), (h_o_packed, .inl (g.2.1.2.1, o_packed_n, .inl o_packed_c)), (h_o_latest, .inl (g.2.1.1, o_latest_n, .inl o_latest_c)), (h_o_ahead, .inl (g.2.1.1, o_ahead_n, .inl o_ahead_c)), (h_o_notes, .inl (g.2.1.1, o_notes_n, .inl o_notes_c)), (h_o_elements, .inl (g.2.1.1, o_elements_n, .inl o_elements_c)), (h_o_chunks, .inl (g.2.1.1, o_chunks_n, .inl o_chunks_c)), (h_o_sums, .inl (g.2.1.1, o_sums_n, .inl o_sums_c)), (h_o_found, .inl (g.2.1.1, o_found_n, .inl o_found_c)), (h_o_before, .inl (g.2.1.2.1, o_before_n, .inl o_before_c))]
end
