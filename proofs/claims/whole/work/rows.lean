section
-- ===== PART A: goes FIRST, ahead of the names: the tables' words, and 'selects' of the private methods out of them =====
/-- a private method of a class that the tables say can be made, by its rows of tables_1 -/
def lw_okq (q : MethodName × Nat) : Prop := (q.1.cls ≠ "java/lang/invoke/MethodHandle" ∧ q.1.cls ≠ "java/lang/invoke/VarHandle") ∧ Cond.instantiable q.1.cls q.2 ∈ tables_1 ∧ Cond.privateMethod q.1 ∈ tables_1 ∧ Cond.instanceMethod q.1 ∈ tables_1
theorem lw_p0 : lw_okq (⟨"MovieBoxes", "look", "()V"⟩, 7) := ⟨⟨by decide +kernel, by decide +kernel⟩, List.mem_of_getElem? (i := 11) (by decide +kernel), List.mem_of_getElem? (i := 242) (by decide +kernel), List.mem_of_getElem? (i := 243) (by decide +kernel)⟩
theorem lw_p1 : lw_okq (⟨"MovieBoxes$Layout", "openHolder", "(II)I"⟩, 3) := ⟨⟨by decide +kernel, by decide +kernel⟩, List.mem_of_getElem? (i := 33) (by decide +kernel), List.mem_of_getElem? (i := 250) (by decide +kernel), List.mem_of_getElem? (i := 251) (by decide +kernel)⟩
theorem lw_p2 : lw_okq (⟨"MovieBoxes$Layout", "readBox", "(III)Z"⟩, 3) := ⟨⟨by decide +kernel, by decide +kernel⟩, List.mem_of_getElem? (i := 33) (by decide +kernel), List.mem_of_getElem? (i := 263) (by decide +kernel), List.mem_of_getElem? (i := 264) (by decide +kernel)⟩
theorem lw_p3 : lw_okq (⟨"MovieBoxes$Layout", "note", "(IIII)V"⟩, 3) := ⟨⟨by decide +kernel, by decide +kernel⟩, List.mem_of_getElem? (i := 33) (by decide +kernel), List.mem_of_getElem? (i := 272) (by decide +kernel), List.mem_of_getElem? (i := 273) (by decide +kernel)⟩
theorem lw_p4 : lw_okq (⟨"MovieBoxes$Layout", "countIn", "(II)I"⟩, 3) := ⟨⟨by decide +kernel, by decide +kernel⟩, List.mem_of_getElem? (i := 33) (by decide +kernel), List.mem_of_getElem? (i := 294) (by decide +kernel), List.mem_of_getElem? (i := 295) (by decide +kernel)⟩
theorem lw_p5 : lw_okq (⟨"MovieBoxes$Layout", "trackKindsHold", "(I)Z"⟩, 3) := ⟨⟨by decide +kernel, by decide +kernel⟩, List.mem_of_getElem? (i := 33) (by decide +kernel), List.mem_of_getElem? (i := 302) (by decide +kernel), List.mem_of_getElem? (i := 303) (by decide +kernel)⟩
theorem lw_p6 : lw_okq (⟨"MovieBoxes", "bindTracks", "()V"⟩, 7) := ⟨⟨by decide +kernel, by decide +kernel⟩, List.mem_of_getElem? (i := 11) (by decide +kernel), List.mem_of_getElem? (i := 306) (by decide +kernel), List.mem_of_getElem? (i := 307) (by decide +kernel)⟩
theorem lw_p7 : lw_okq (⟨"MovieBoxes", "tableFault", "()I"⟩, 7) := ⟨⟨by decide +kernel, by decide +kernel⟩, List.mem_of_getElem? (i := 11) (by decide +kernel), List.mem_of_getElem? (i := 337) (by decide +kernel), List.mem_of_getElem? (i := 338) (by decide +kernel)⟩
theorem lw_p8 : lw_okq (⟨"MovieBoxes$Track", "everyChunkRowHasSamples", "()Z"⟩, 10) := ⟨⟨by decide +kernel, by decide +kernel⟩, List.mem_of_getElem? (i := 52) (by decide +kernel), List.mem_of_getElem? (i := 366) (by decide +kernel), List.mem_of_getElem? (i := 367) (by decide +kernel)⟩
theorem lw_p9 : lw_okq (⟨"MovieBoxes$Track", "chunkRowsMeetChunks", "()Z"⟩, 10) := ⟨⟨by decide +kernel, by decide +kernel⟩, List.mem_of_getElem? (i := 52) (by decide +kernel), List.mem_of_getElem? (i := 386) (by decide +kernel), List.mem_of_getElem? (i := 387) (by decide +kernel)⟩
theorem lw_p10 : lw_okq (⟨"MovieBoxes$Track", "samplesInChunks", "()I"⟩, 10) := ⟨⟨by decide +kernel, by decide +kernel⟩, List.mem_of_getElem? (i := 52) (by decide +kernel), List.mem_of_getElem? (i := 390) (by decide +kernel), List.mem_of_getElem? (i := 391) (by decide +kernel)⟩
theorem lw_p11 : lw_okq (⟨"MovieBoxes$Track", "syncsStayWithin", "(I)Z"⟩, 10) := ⟨⟨by decide +kernel, by decide +kernel⟩, List.mem_of_getElem? (i := 52) (by decide +kernel), List.mem_of_getElem? (i := 394) (by decide +kernel), List.mem_of_getElem? (i := 395) (by decide +kernel)⟩
theorem lw_p12 : lw_okq (⟨"MovieBoxes$Track", "chunkRow", "(II)I"⟩, 10) := ⟨⟨by decide +kernel, by decide +kernel⟩, List.mem_of_getElem? (i := 52) (by decide +kernel), List.mem_of_getElem? (i := 402) (by decide +kernel), List.mem_of_getElem? (i := 403) (by decide +kernel)⟩
theorem lw_p13 : lw_okq (⟨"MovieBoxes$Track", "bytesOf", "(II)I"⟩, 10) := ⟨⟨by decide +kernel, by decide +kernel⟩, List.mem_of_getElem? (i := 52) (by decide +kernel), List.mem_of_getElem? (i := 414) (by decide +kernel), List.mem_of_getElem? (i := 415) (by decide +kernel)⟩
theorem lw_p14 : lw_okq (⟨"MovieBoxes$Track", "spreadDurations", "()V"⟩, 10) := ⟨⟨by decide +kernel, by decide +kernel⟩, List.mem_of_getElem? (i := 52) (by decide +kernel), List.mem_of_getElem? (i := 430) (by decide +kernel), List.mem_of_getElem? (i := 431) (by decide +kernel)⟩
theorem lw_p15 : lw_okq (⟨"MovieBoxes$Track", "spreadShifts", "()V"⟩, 10) := ⟨⟨by decide +kernel, by decide +kernel⟩, List.mem_of_getElem? (i := 52) (by decide +kernel), List.mem_of_getElem? (i := 434) (by decide +kernel), List.mem_of_getElem? (i := 435) (by decide +kernel)⟩
def lw_privs_1 : List (MethodName × Nat) := [(⟨"MovieBoxes", "look", "()V"⟩, 7), (⟨"MovieBoxes$Layout", "openHolder", "(II)I"⟩, 3), (⟨"MovieBoxes$Layout", "readBox", "(III)Z"⟩, 3), (⟨"MovieBoxes$Layout", "note", "(IIII)V"⟩, 3), (⟨"MovieBoxes$Layout", "countIn", "(II)I"⟩, 3), (⟨"MovieBoxes$Layout", "trackKindsHold", "(I)Z"⟩, 3), (⟨"MovieBoxes", "bindTracks", "()V"⟩, 7), (⟨"MovieBoxes", "tableFault", "()I"⟩, 7), (⟨"MovieBoxes$Track", "everyChunkRowHasSamples", "()Z"⟩, 10), (⟨"MovieBoxes$Track", "chunkRowsMeetChunks", "()Z"⟩, 10), (⟨"MovieBoxes$Track", "samplesInChunks", "()I"⟩, 10), (⟨"MovieBoxes$Track", "syncsStayWithin", "(I)Z"⟩, 10), (⟨"MovieBoxes$Track", "chunkRow", "(II)I"⟩, 10), (⟨"MovieBoxes$Track", "bytesOf", "(II)I"⟩, 10), (⟨"MovieBoxes$Track", "spreadDurations", "()V"⟩, 10), (⟨"MovieBoxes$Track", "spreadShifts", "()V"⟩, 10)]
theorem lw_r1 : ∀ q ∈ lw_privs_1, lw_okq q := List.forall_mem_cons.mpr ⟨lw_p0, List.forall_mem_cons.mpr ⟨lw_p1, List.forall_mem_cons.mpr ⟨lw_p2, List.forall_mem_cons.mpr ⟨lw_p3, List.forall_mem_cons.mpr ⟨lw_p4, List.forall_mem_cons.mpr ⟨lw_p5, List.forall_mem_cons.mpr ⟨lw_p6, List.forall_mem_cons.mpr ⟨lw_p7, List.forall_mem_cons.mpr ⟨lw_p8, List.forall_mem_cons.mpr ⟨lw_p9, List.forall_mem_cons.mpr ⟨lw_p10, List.forall_mem_cons.mpr ⟨lw_p11, List.forall_mem_cons.mpr ⟨lw_p12, List.forall_mem_cons.mpr ⟨lw_p13, List.forall_mem_cons.mpr ⟨lw_p14, List.forall_mem_cons.mpr ⟨lw_p15, fun _ h => absurd h List.not_mem_nil⟩⟩⟩⟩⟩⟩⟩⟩⟩⟩⟩⟩⟩⟩⟩⟩
theorem lw_p16 : lw_okq (⟨"MovieBoxes$Track", "spreadSyncs", "()V"⟩, 10) := ⟨⟨by decide +kernel, by decide +kernel⟩, List.mem_of_getElem? (i := 52) (by decide +kernel), List.mem_of_getElem? (i := 438) (by decide +kernel), List.mem_of_getElem? (i := 439) (by decide +kernel)⟩
theorem lw_p17 : lw_okq (⟨"MovieBoxes$Track", "spreadChunks", "()V"⟩, 10) := ⟨⟨by decide +kernel, by decide +kernel⟩, List.mem_of_getElem? (i := 52) (by decide +kernel), List.mem_of_getElem? (i := 442) (by decide +kernel), List.mem_of_getElem? (i := 443) (by decide +kernel)⟩
theorem lw_p18 : lw_okq (⟨"MovieBoxes", "boxesAreKnown", "()Z"⟩, 7) := ⟨⟨by decide +kernel, by decide +kernel⟩, List.mem_of_getElem? (i := 11) (by decide +kernel), List.mem_of_getElem? (i := 450) (by decide +kernel), List.mem_of_getElem? (i := 451) (by decide +kernel)⟩
theorem lw_p19 : lw_okq (⟨"MovieBoxes", "soundTrack", "(I)LMovieBoxes$Track;"⟩, 7) := ⟨⟨by decide +kernel, by decide +kernel⟩, List.mem_of_getElem? (i := 11) (by decide +kernel), List.mem_of_getElem? (i := 466) (by decide +kernel), List.mem_of_getElem? (i := 467) (by decide +kernel)⟩
theorem lw_p20 : lw_okq (⟨"MovieBoxes$Track", "mediaTime", "(I)I"⟩, 10) := ⟨⟨by decide +kernel, by decide +kernel⟩, List.mem_of_getElem? (i := 52) (by decide +kernel), List.mem_of_getElem? (i := 490) (by decide +kernel), List.mem_of_getElem? (i := 491) (by decide +kernel)⟩
theorem lw_p21 : lw_okq (⟨"MovieBoxes$Mover", "behindMovie", "()I"⟩, 8) := ⟨⟨by decide +kernel, by decide +kernel⟩, List.mem_of_getElem? (i := 137) (by decide +kernel), List.mem_of_getElem? (i := 503) (by decide +kernel), List.mem_of_getElem? (i := 504) (by decide +kernel)⟩
theorem lw_p22 : lw_okq (⟨"MovieBoxes$Mover", "settleWidths", "()V"⟩, 8) := ⟨⟨by decide +kernel, by decide +kernel⟩, List.mem_of_getElem? (i := 137) (by decide +kernel), List.mem_of_getElem? (i := 509) (by decide +kernel), List.mem_of_getElem? (i := 510) (by decide +kernel)⟩
theorem lw_p23 : lw_okq (⟨"MovieBoxes$Mover", "measure", "()V"⟩, 8) := ⟨⟨by decide +kernel, by decide +kernel⟩, List.mem_of_getElem? (i := 137) (by decide +kernel), List.mem_of_getElem? (i := 513) (by decide +kernel), List.mem_of_getElem? (i := 514) (by decide +kernel)⟩
theorem lw_p24 : lw_okq (⟨"MovieBoxes$Mover", "ownPayload", "(I)I"⟩, 8) := ⟨⟨by decide +kernel, by decide +kernel⟩, List.mem_of_getElem? (i := 137) (by decide +kernel), List.mem_of_getElem? (i := 517) (by decide +kernel), List.mem_of_getElem? (i := 518) (by decide +kernel)⟩
theorem lw_p25 : lw_okq (⟨"MovieBoxes$Mover", "rowsOf", "(I)I"⟩, 8) := ⟨⟨by decide +kernel, by decide +kernel⟩, List.mem_of_getElem? (i := 137) (by decide +kernel), List.mem_of_getElem? (i := 523) (by decide +kernel), List.mem_of_getElem? (i := 524) (by decide +kernel)⟩
theorem lw_p26 : lw_okq (⟨"MovieBoxes$Mover", "newHeader", "(I)I"⟩, 8) := ⟨⟨by decide +kernel, by decide +kernel⟩, List.mem_of_getElem? (i := 137) (by decide +kernel), List.mem_of_getElem? (i := 529) (by decide +kernel), List.mem_of_getElem? (i := 530) (by decide +kernel)⟩
theorem lw_p27 : lw_okq (⟨"MovieBoxes$Mover", "newSize", "(I)I"⟩, 8) := ⟨⟨by decide +kernel, by decide +kernel⟩, List.mem_of_getElem? (i := 137) (by decide +kernel), List.mem_of_getElem? (i := 533) (by decide +kernel), List.mem_of_getElem? (i := 534) (by decide +kernel)⟩
theorem lw_p28 : lw_okq (⟨"MovieBoxes$Mover", "widenSome", "()Z"⟩, 8) := ⟨⟨by decide +kernel, by decide +kernel⟩, List.mem_of_getElem? (i := 137) (by decide +kernel), List.mem_of_getElem? (i := 537) (by decide +kernel), List.mem_of_getElem? (i := 538) (by decide +kernel)⟩
theorem lw_p29 : lw_okq (⟨"MovieBoxes$Mover", "outgrowsBytes", "(I)Z"⟩, 8) := ⟨⟨by decide +kernel, by decide +kernel⟩, List.mem_of_getElem? (i := 137) (by decide +kernel), List.mem_of_getElem? (i := 541) (by decide +kernel), List.mem_of_getElem? (i := 542) (by decide +kernel)⟩
theorem lw_p30 : lw_okq (⟨"MovieBoxes$Mover", "oldPlace", "(II)I"⟩, 8) := ⟨⟨by decide +kernel, by decide +kernel⟩, List.mem_of_getElem? (i := 137) (by decide +kernel), List.mem_of_getElem? (i := 545) (by decide +kernel), List.mem_of_getElem? (i := 546) (by decide +kernel)⟩
theorem lw_p31 : lw_okq (⟨"MovieBoxes$Mover", "newPlace", "(I)I"⟩, 8) := ⟨⟨by decide +kernel, by decide +kernel⟩, List.mem_of_getElem? (i := 137) (by decide +kernel), List.mem_of_getElem? (i := 550) (by decide +kernel), List.mem_of_getElem? (i := 551) (by decide +kernel)⟩
def lw_privs_2 : List (MethodName × Nat) := [(⟨"MovieBoxes$Track", "spreadSyncs", "()V"⟩, 10), (⟨"MovieBoxes$Track", "spreadChunks", "()V"⟩, 10), (⟨"MovieBoxes", "boxesAreKnown", "()Z"⟩, 7), (⟨"MovieBoxes", "soundTrack", "(I)LMovieBoxes$Track;"⟩, 7), (⟨"MovieBoxes$Track", "mediaTime", "(I)I"⟩, 10), (⟨"MovieBoxes$Mover", "behindMovie", "()I"⟩, 8), (⟨"MovieBoxes$Mover", "settleWidths", "()V"⟩, 8), (⟨"MovieBoxes$Mover", "measure", "()V"⟩, 8), (⟨"MovieBoxes$Mover", "ownPayload", "(I)I"⟩, 8), (⟨"MovieBoxes$Mover", "rowsOf", "(I)I"⟩, 8), (⟨"MovieBoxes$Mover", "newHeader", "(I)I"⟩, 8), (⟨"MovieBoxes$Mover", "newSize", "(I)I"⟩, 8), (⟨"MovieBoxes$Mover", "widenSome", "()Z"⟩, 8), (⟨"MovieBoxes$Mover", "outgrowsBytes", "(I)Z"⟩, 8), (⟨"MovieBoxes$Mover", "oldPlace", "(II)I"⟩, 8), (⟨"MovieBoxes$Mover", "newPlace", "(I)I"⟩, 8)]
theorem lw_r2 : ∀ q ∈ lw_privs_2, lw_okq q := List.forall_mem_cons.mpr ⟨lw_p16, List.forall_mem_cons.mpr ⟨lw_p17, List.forall_mem_cons.mpr ⟨lw_p18, List.forall_mem_cons.mpr ⟨lw_p19, List.forall_mem_cons.mpr ⟨lw_p20, List.forall_mem_cons.mpr ⟨lw_p21, List.forall_mem_cons.mpr ⟨lw_p22, List.forall_mem_cons.mpr ⟨lw_p23, List.forall_mem_cons.mpr ⟨lw_p24, List.forall_mem_cons.mpr ⟨lw_p25, List.forall_mem_cons.mpr ⟨lw_p26, List.forall_mem_cons.mpr ⟨lw_p27, List.forall_mem_cons.mpr ⟨lw_p28, List.forall_mem_cons.mpr ⟨lw_p29, List.forall_mem_cons.mpr ⟨lw_p30, List.forall_mem_cons.mpr ⟨lw_p31, fun _ h => absurd h List.not_mem_nil⟩⟩⟩⟩⟩⟩⟩⟩⟩⟩⟩⟩⟩⟩⟩⟩
theorem lw_p32 : lw_okq (⟨"MovieBoxes$Mover", "writeBox", "(I)V"⟩, 8) := ⟨⟨by decide +kernel, by decide +kernel⟩, List.mem_of_getElem? (i := 137) (by decide +kernel), List.mem_of_getElem? (i := 563) (by decide +kernel), List.mem_of_getElem? (i := 564) (by decide +kernel)⟩
theorem lw_p33 : lw_okq (⟨"MovieBoxes$Mover", "writeHeader", "(I)V"⟩, 8) := ⟨⟨by decide +kernel, by decide +kernel⟩, List.mem_of_getElem? (i := 137) (by decide +kernel), List.mem_of_getElem? (i := 567) (by decide +kernel), List.mem_of_getElem? (i := 568) (by decide +kernel)⟩
theorem lw_p34 : lw_okq (⟨"MovieBoxes$Mover", "writePlaces", "(I)V"⟩, 8) := ⟨⟨by decide +kernel, by decide +kernel⟩, List.mem_of_getElem? (i := 137) (by decide +kernel), List.mem_of_getElem? (i := 576) (by decide +kernel), List.mem_of_getElem? (i := 577) (by decide +kernel)⟩
theorem lw_p35 : lw_okq (⟨"MovieBoxesModel", "read", "()I"⟩, 21) := ⟨⟨by decide +kernel, by decide +kernel⟩, List.mem_of_getElem? (i := 588) (by decide +kernel), List.mem_of_getElem? (i := 683) (by decide +kernel), List.mem_of_getElem? (i := 684) (by decide +kernel)⟩
theorem lw_p36 : lw_okq (⟨"MovieBoxesModel", "readOne", "(III)Z"⟩, 21) := ⟨⟨by decide +kernel, by decide +kernel⟩, List.mem_of_getElem? (i := 588) (by decide +kernel), List.mem_of_getElem? (i := 687) (by decide +kernel), List.mem_of_getElem? (i := 688) (by decide +kernel)⟩
theorem lw_p37 : lw_okq (⟨"MovieBoxesModel", "isHolder", "(I)Z"⟩, 21) := ⟨⟨by decide +kernel, by decide +kernel⟩, List.mem_of_getElem? (i := 588) (by decide +kernel), List.mem_of_getElem? (i := 691) (by decide +kernel), List.mem_of_getElem? (i := 692) (by decide +kernel)⟩
theorem lw_p38 : lw_okq (⟨"MovieBoxesModel", "kindsWrong", "()Z"⟩, 21) := ⟨⟨by decide +kernel, by decide +kernel⟩, List.mem_of_getElem? (i := 588) (by decide +kernel), List.mem_of_getElem? (i := 695) (by decide +kernel), List.mem_of_getElem? (i := 696) (by decide +kernel)⟩
theorem lw_p39 : lw_okq (⟨"MovieBoxesModel", "rowsWrong", "(II)Z"⟩, 21) := ⟨⟨by decide +kernel, by decide +kernel⟩, List.mem_of_getElem? (i := 588) (by decide +kernel), List.mem_of_getElem? (i := 702) (by decide +kernel), List.mem_of_getElem? (i := 703) (by decide +kernel)⟩
theorem lw_p40 : lw_okq (⟨"MovieBoxesModel", "payLength", "(I)I"⟩, 21) := ⟨⟨by decide +kernel, by decide +kernel⟩, List.mem_of_getElem? (i := 588) (by decide +kernel), List.mem_of_getElem? (i := 706) (by decide +kernel), List.mem_of_getElem? (i := 707) (by decide +kernel)⟩
theorem lw_p41 : lw_okq (⟨"MovieBoxesModel", "pay", "(II)I"⟩, 21) := ⟨⟨by decide +kernel, by decide +kernel⟩, List.mem_of_getElem? (i := 588) (by decide +kernel), List.mem_of_getElem? (i := 710) (by decide +kernel), List.mem_of_getElem? (i := 711) (by decide +kernel)⟩
theorem lw_p42 : lw_okq (⟨"MovieBoxesModel", "countsWrong", "(I)Z"⟩, 21) := ⟨⟨by decide +kernel, by decide +kernel⟩, List.mem_of_getElem? (i := 588) (by decide +kernel), List.mem_of_getElem? (i := 714) (by decide +kernel), List.mem_of_getElem? (i := 715) (by decide +kernel)⟩
theorem lw_p43 : lw_okq (⟨"MovieBoxesModel", "sampleCount", "(I)I"⟩, 21) := ⟨⟨by decide +kernel, by decide +kernel⟩, List.mem_of_getElem? (i := 588) (by decide +kernel), List.mem_of_getElem? (i := 718) (by decide +kernel), List.mem_of_getElem? (i := 719) (by decide +kernel)⟩
theorem lw_p44 : lw_okq (⟨"MovieBoxesModel", "total", "(I)I"⟩, 21) := ⟨⟨by decide +kernel, by decide +kernel⟩, List.mem_of_getElem? (i := 588) (by decide +kernel), List.mem_of_getElem? (i := 722) (by decide +kernel), List.mem_of_getElem? (i := 723) (by decide +kernel)⟩
theorem lw_p45 : lw_okq (⟨"MovieBoxesModel", "chunkCount", "(I)I"⟩, 21) := ⟨⟨by decide +kernel, by decide +kernel⟩, List.mem_of_getElem? (i := 588) (by decide +kernel), List.mem_of_getElem? (i := 726) (by decide +kernel), List.mem_of_getElem? (i := 727) (by decide +kernel)⟩
theorem lw_p46 : lw_okq (⟨"MovieBoxesModel", "placesBox", "(I)I"⟩, 21) := ⟨⟨by decide +kernel, by decide +kernel⟩, List.mem_of_getElem? (i := 588) (by decide +kernel), List.mem_of_getElem? (i := 730) (by decide +kernel), List.mem_of_getElem? (i := 731) (by decide +kernel)⟩
theorem lw_p47 : lw_okq (⟨"MovieBoxesModel", "many", "(II)I"⟩, 21) := ⟨⟨by decide +kernel, by decide +kernel⟩, List.mem_of_getElem? (i := 588) (by decide +kernel), List.mem_of_getElem? (i := 734) (by decide +kernel), List.mem_of_getElem? (i := 735) (by decide +kernel)⟩
def lw_privs_3 : List (MethodName × Nat) := [(⟨"MovieBoxes$Mover", "writeBox", "(I)V"⟩, 8), (⟨"MovieBoxes$Mover", "writeHeader", "(I)V"⟩, 8), (⟨"MovieBoxes$Mover", "writePlaces", "(I)V"⟩, 8), (⟨"MovieBoxesModel", "read", "()I"⟩, 21), (⟨"MovieBoxesModel", "readOne", "(III)Z"⟩, 21), (⟨"MovieBoxesModel", "isHolder", "(I)Z"⟩, 21), (⟨"MovieBoxesModel", "kindsWrong", "()Z"⟩, 21), (⟨"MovieBoxesModel", "rowsWrong", "(II)Z"⟩, 21), (⟨"MovieBoxesModel", "payLength", "(I)I"⟩, 21), (⟨"MovieBoxesModel", "pay", "(II)I"⟩, 21), (⟨"MovieBoxesModel", "countsWrong", "(I)Z"⟩, 21), (⟨"MovieBoxesModel", "sampleCount", "(I)I"⟩, 21), (⟨"MovieBoxesModel", "total", "(I)I"⟩, 21), (⟨"MovieBoxesModel", "chunkCount", "(I)I"⟩, 21), (⟨"MovieBoxesModel", "placesBox", "(I)I"⟩, 21), (⟨"MovieBoxesModel", "many", "(II)I"⟩, 21)]
theorem lw_r3 : ∀ q ∈ lw_privs_3, lw_okq q := List.forall_mem_cons.mpr ⟨lw_p32, List.forall_mem_cons.mpr ⟨lw_p33, List.forall_mem_cons.mpr ⟨lw_p34, List.forall_mem_cons.mpr ⟨lw_p35, List.forall_mem_cons.mpr ⟨lw_p36, List.forall_mem_cons.mpr ⟨lw_p37, List.forall_mem_cons.mpr ⟨lw_p38, List.forall_mem_cons.mpr ⟨lw_p39, List.forall_mem_cons.mpr ⟨lw_p40, List.forall_mem_cons.mpr ⟨lw_p41, List.forall_mem_cons.mpr ⟨lw_p42, List.forall_mem_cons.mpr ⟨lw_p43, List.forall_mem_cons.mpr ⟨lw_p44, List.forall_mem_cons.mpr ⟨lw_p45, List.forall_mem_cons.mpr ⟨lw_p46, List.forall_mem_cons.mpr ⟨lw_p47, fun _ h => absurd h List.not_mem_nil⟩⟩⟩⟩⟩⟩⟩⟩⟩⟩⟩⟩⟩⟩⟩⟩
theorem lw_p48 : lw_okq (⟨"MovieBoxesModel", "rowOf", "(II)I"⟩, 21) := ⟨⟨by decide +kernel, by decide +kernel⟩, List.mem_of_getElem? (i := 588) (by decide +kernel), List.mem_of_getElem? (i := 738) (by decide +kernel), List.mem_of_getElem? (i := 739) (by decide +kernel)⟩
theorem lw_p49 : lw_okq (⟨"MovieBoxesModel", "settle", "(I)Z"⟩, 21) := ⟨⟨by decide +kernel, by decide +kernel⟩, List.mem_of_getElem? (i := 588) (by decide +kernel), List.mem_of_getElem? (i := 742) (by decide +kernel), List.mem_of_getElem? (i := 743) (by decide +kernel)⟩
theorem lw_p50 : lw_okq (⟨"MovieBoxesModel", "sizeOf", "(II)I"⟩, 21) := ⟨⟨by decide +kernel, by decide +kernel⟩, List.mem_of_getElem? (i := 588) (by decide +kernel), List.mem_of_getElem? (i := 746) (by decide +kernel), List.mem_of_getElem? (i := 747) (by decide +kernel)⟩
theorem lw_p51 : lw_okq (⟨"MovieBoxesModel", "chunkPlace", "(II)I"⟩, 21) := ⟨⟨by decide +kernel, by decide +kernel⟩, List.mem_of_getElem? (i := 588) (by decide +kernel), List.mem_of_getElem? (i := 750) (by decide +kernel), List.mem_of_getElem? (i := 751) (by decide +kernel)⟩
theorem lw_p52 : lw_okq (⟨"MovieBoxesModel", "dataBox", "(II)I"⟩, 21) := ⟨⟨by decide +kernel, by decide +kernel⟩, List.mem_of_getElem? (i := 588) (by decide +kernel), List.mem_of_getElem? (i := 754) (by decide +kernel), List.mem_of_getElem? (i := 755) (by decide +kernel)⟩
theorem lw_p53 : lw_okq (⟨"MovieBoxesModel", "isTrack", "(I)Z"⟩, 21) := ⟨⟨by decide +kernel, by decide +kernel⟩, List.mem_of_getElem? (i := 588) (by decide +kernel), List.mem_of_getElem? (i := 775) (by decide +kernel), List.mem_of_getElem? (i := 776) (by decide +kernel)⟩
theorem lw_p54 : lw_okq (⟨"MovieBoxesModel", "inChunk", "(III)I"⟩, 21) := ⟨⟨by decide +kernel, by decide +kernel⟩, List.mem_of_getElem? (i := 588) (by decide +kernel), List.mem_of_getElem? (i := 783) (by decide +kernel), List.mem_of_getElem? (i := 784) (by decide +kernel)⟩
theorem lw_p55 : lw_okq (⟨"MovieBoxesModel", "decodeTime", "(II)I"⟩, 21) := ⟨⟨by decide +kernel, by decide +kernel⟩, List.mem_of_getElem? (i := 588) (by decide +kernel), List.mem_of_getElem? (i := 787) (by decide +kernel), List.mem_of_getElem? (i := 788) (by decide +kernel)⟩
theorem lw_p56 : lw_okq (⟨"MovieBoxesModel", "durationOf", "(II)I"⟩, 21) := ⟨⟨by decide +kernel, by decide +kernel⟩, List.mem_of_getElem? (i := 588) (by decide +kernel), List.mem_of_getElem? (i := 791) (by decide +kernel), List.mem_of_getElem? (i := 792) (by decide +kernel)⟩
theorem lw_p57 : lw_okq (⟨"MovieBoxesModel", "runValue", "(II)I"⟩, 21) := ⟨⟨by decide +kernel, by decide +kernel⟩, List.mem_of_getElem? (i := 588) (by decide +kernel), List.mem_of_getElem? (i := 795) (by decide +kernel), List.mem_of_getElem? (i := 796) (by decide +kernel)⟩
theorem lw_p58 : lw_okq (⟨"MovieBoxesModel", "shiftOf", "(II)I"⟩, 21) := ⟨⟨by decide +kernel, by decide +kernel⟩, List.mem_of_getElem? (i := 588) (by decide +kernel), List.mem_of_getElem? (i := 799) (by decide +kernel), List.mem_of_getElem? (i := 800) (by decide +kernel)⟩
theorem lw_p59 : lw_okq (⟨"MovieBoxesModel", "isSync", "(II)I"⟩, 21) := ⟨⟨by decide +kernel, by decide +kernel⟩, List.mem_of_getElem? (i := 588) (by decide +kernel), List.mem_of_getElem? (i := 803) (by decide +kernel), List.mem_of_getElem? (i := 804) (by decide +kernel)⟩
theorem lw_p60 : lw_okq (⟨"MovieBoxesModel", "mediaTime", "(II)I"⟩, 21) := ⟨⟨by decide +kernel, by decide +kernel⟩, List.mem_of_getElem? (i := 588) (by decide +kernel), List.mem_of_getElem? (i := 811) (by decide +kernel), List.mem_of_getElem? (i := 812) (by decide +kernel)⟩
theorem lw_p61 : lw_okq (⟨"MovieBoxesModel", "firstData", "()I"⟩, 21) := ⟨⟨by decide +kernel, by decide +kernel⟩, List.mem_of_getElem? (i := 588) (by decide +kernel), List.mem_of_getElem? (i := 819) (by decide +kernel), List.mem_of_getElem? (i := 820) (by decide +kernel)⟩
theorem lw_p62 : lw_okq (⟨"MovieBoxesModel", "layout", "(I)I"⟩, 21) := ⟨⟨by decide +kernel, by decide +kernel⟩, List.mem_of_getElem? (i := 588) (by decide +kernel), List.mem_of_getElem? (i := 823) (by decide +kernel), List.mem_of_getElem? (i := 824) (by decide +kernel)⟩
theorem lw_p63 : lw_okq (⟨"MovieBoxesModel", "tooNarrow", "(I)I"⟩, 21) := ⟨⟨by decide +kernel, by decide +kernel⟩, List.mem_of_getElem? (i := 588) (by decide +kernel), List.mem_of_getElem? (i := 827) (by decide +kernel), List.mem_of_getElem? (i := 828) (by decide +kernel)⟩
def lw_privs_4 : List (MethodName × Nat) := [(⟨"MovieBoxesModel", "rowOf", "(II)I"⟩, 21), (⟨"MovieBoxesModel", "settle", "(I)Z"⟩, 21), (⟨"MovieBoxesModel", "sizeOf", "(II)I"⟩, 21), (⟨"MovieBoxesModel", "chunkPlace", "(II)I"⟩, 21), (⟨"MovieBoxesModel", "dataBox", "(II)I"⟩, 21), (⟨"MovieBoxesModel", "isTrack", "(I)Z"⟩, 21), (⟨"MovieBoxesModel", "inChunk", "(III)I"⟩, 21), (⟨"MovieBoxesModel", "decodeTime", "(II)I"⟩, 21), (⟨"MovieBoxesModel", "durationOf", "(II)I"⟩, 21), (⟨"MovieBoxesModel", "runValue", "(II)I"⟩, 21), (⟨"MovieBoxesModel", "shiftOf", "(II)I"⟩, 21), (⟨"MovieBoxesModel", "isSync", "(II)I"⟩, 21), (⟨"MovieBoxesModel", "mediaTime", "(II)I"⟩, 21), (⟨"MovieBoxesModel", "firstData", "()I"⟩, 21), (⟨"MovieBoxesModel", "layout", "(I)I"⟩, 21), (⟨"MovieBoxesModel", "tooNarrow", "(I)I"⟩, 21)]
theorem lw_r4 : ∀ q ∈ lw_privs_4, lw_okq q := List.forall_mem_cons.mpr ⟨lw_p48, List.forall_mem_cons.mpr ⟨lw_p49, List.forall_mem_cons.mpr ⟨lw_p50, List.forall_mem_cons.mpr ⟨lw_p51, List.forall_mem_cons.mpr ⟨lw_p52, List.forall_mem_cons.mpr ⟨lw_p53, List.forall_mem_cons.mpr ⟨lw_p54, List.forall_mem_cons.mpr ⟨lw_p55, List.forall_mem_cons.mpr ⟨lw_p56, List.forall_mem_cons.mpr ⟨lw_p57, List.forall_mem_cons.mpr ⟨lw_p58, List.forall_mem_cons.mpr ⟨lw_p59, List.forall_mem_cons.mpr ⟨lw_p60, List.forall_mem_cons.mpr ⟨lw_p61, List.forall_mem_cons.mpr ⟨lw_p62, List.forall_mem_cons.mpr ⟨lw_p63, fun _ h => absurd h List.not_mem_nil⟩⟩⟩⟩⟩⟩⟩⟩⟩⟩⟩⟩⟩⟩⟩⟩
theorem lw_p64 : lw_okq (⟨"MovieBoxesModel", "newPlace", "(III)I"⟩, 21) := ⟨⟨by decide +kernel, by decide +kernel⟩, List.mem_of_getElem? (i := 588) (by decide +kernel), List.mem_of_getElem? (i := 831) (by decide +kernel), List.mem_of_getElem? (i := 832) (by decide +kernel)⟩
theorem lw_p65 : lw_okq (⟨"MovieBoxesModel", "write", "(III)V"⟩, 21) := ⟨⟨by decide +kernel, by decide +kernel⟩, List.mem_of_getElem? (i := 588) (by decide +kernel), List.mem_of_getElem? (i := 835) (by decide +kernel), List.mem_of_getElem? (i := 836) (by decide +kernel)⟩
theorem lw_p66 : lw_okq (⟨"MovieBoxesModel", "put", "(I)V"⟩, 21) := ⟨⟨by decide +kernel, by decide +kernel⟩, List.mem_of_getElem? (i := 588) (by decide +kernel), List.mem_of_getElem? (i := 839) (by decide +kernel), List.mem_of_getElem? (i := 840) (by decide +kernel)⟩
theorem lw_p67 : lw_okq (⟨"MovieBoxesModel", "writeBox", "(III)V"⟩, 21) := ⟨⟨by decide +kernel, by decide +kernel⟩, List.mem_of_getElem? (i := 588) (by decide +kernel), List.mem_of_getElem? (i := 843) (by decide +kernel), List.mem_of_getElem? (i := 844) (by decide +kernel)⟩
def lw_privs_5 : List (MethodName × Nat) := [(⟨"MovieBoxesModel", "newPlace", "(III)I"⟩, 21), (⟨"MovieBoxesModel", "write", "(III)V"⟩, 21), (⟨"MovieBoxesModel", "put", "(I)V"⟩, 21), (⟨"MovieBoxesModel", "writeBox", "(III)V"⟩, 21)]
theorem lw_r5 : ∀ q ∈ lw_privs_5, lw_okq q := List.forall_mem_cons.mpr ⟨lw_p64, List.forall_mem_cons.mpr ⟨lw_p65, List.forall_mem_cons.mpr ⟨lw_p66, List.forall_mem_cons.mpr ⟨lw_p67, fun _ h => absurd h List.not_mem_nil⟩⟩⟩⟩
def lw_privs : List (MethodName × Nat) := lw_privs_1 ++ (lw_privs_2 ++ (lw_privs_3 ++ (lw_privs_4 ++ (lw_privs_5))))
def lw_tbl : List Cond := k2_sels lw_privs ++ tables_1
theorem lw_privs_ok : ∀ q ∈ lw_privs, lw_okq q := by
  show ∀ q ∈ lw_privs_1 ++ (lw_privs_2 ++ (lw_privs_3 ++ (lw_privs_4 ++ (lw_privs_5)))), lw_okq q
  exact List.forall_mem_append.mpr ⟨lw_r1, List.forall_mem_append.mpr ⟨lw_r2, List.forall_mem_append.mpr ⟨lw_r3, List.forall_mem_append.mpr ⟨lw_r4, lw_r5⟩⟩⟩⟩
end
section
/-! the words of the tables that stay (all but arrayOver) -/
def TR : String := "MovieBoxes$Track"
def TY : List FieldType := [.int, .boolean, .object TR, .array .int]
def WS : List Cond := lw_tbl.filter goodWord
theorem ws_good : ∀ w ∈ WS, (w.onTables && w.keeps) = true ∨ ∃ ty, w = .arrayClass ty := fun w hw => good_of_word (List.mem_filter.mp hw).2
theorem ws_tbl : ∀ w ∈ WS, w ∈ lw_tbl := fun w hw => (List.mem_filter.mp hw).1
theorem ws_1 {w : Cond} (h : w ∈ tables_1_1) (hg : goodWord w = true) : w ∈ WS := List.mem_filter.mpr ⟨List.mem_append_right _ (List.mem_append_left _ (h)), hg⟩
theorem ws_2 {w : Cond} (h : w ∈ tables_1_2) (hg : goodWord w = true) : w ∈ WS := List.mem_filter.mpr ⟨List.mem_append_right _ (List.mem_append_right _ (List.mem_append_left _ (h))), hg⟩
theorem ws_3 {w : Cond} (h : w ∈ tables_1_3) (hg : goodWord w = true) : w ∈ WS := List.mem_filter.mpr ⟨List.mem_append_right _ (List.mem_append_right _ (List.mem_append_right _ (List.mem_append_left _ (h)))), hg⟩
theorem ws_4 {w : Cond} (h : w ∈ tables_1_4) (hg : goodWord w = true) : w ∈ WS := List.mem_filter.mpr ⟨List.mem_append_right _ (List.mem_append_right _ (List.mem_append_right _ (List.mem_append_right _ (h)))), hg⟩
theorem ws_s1 {q : MethodName × Nat} (h : q ∈ lw_privs_1) (hg : goodWord (Cond.selects q.1.cls q.1 q.1) = true) : Cond.selects q.1.cls q.1 q.1 ∈ WS := List.mem_filter.mpr ⟨List.mem_append_left _ (List.mem_map.mpr ⟨q, List.mem_append_left _ (h), rfl⟩), hg⟩
theorem ws_s2 {q : MethodName × Nat} (h : q ∈ lw_privs_2) (hg : goodWord (Cond.selects q.1.cls q.1 q.1) = true) : Cond.selects q.1.cls q.1 q.1 ∈ WS := List.mem_filter.mpr ⟨List.mem_append_left _ (List.mem_map.mpr ⟨q, List.mem_append_right _ (List.mem_append_left _ (h)), rfl⟩), hg⟩
theorem ws_s3 {q : MethodName × Nat} (h : q ∈ lw_privs_3) (hg : goodWord (Cond.selects q.1.cls q.1 q.1) = true) : Cond.selects q.1.cls q.1 q.1 ∈ WS := List.mem_filter.mpr ⟨List.mem_append_left _ (List.mem_map.mpr ⟨q, List.mem_append_right _ (List.mem_append_right _ (List.mem_append_left _ (h))), rfl⟩), hg⟩
theorem ws_s4 {q : MethodName × Nat} (h : q ∈ lw_privs_4) (hg : goodWord (Cond.selects q.1.cls q.1 q.1) = true) : Cond.selects q.1.cls q.1 q.1 ∈ WS := List.mem_filter.mpr ⟨List.mem_append_left _ (List.mem_map.mpr ⟨q, List.mem_append_right _ (List.mem_append_right _ (List.mem_append_right _ (List.mem_append_left _ (h)))), rfl⟩), hg⟩
theorem ws_s5 {q : MethodName × Nat} (h : q ∈ lw_privs_5) (hg : goodWord (Cond.selects q.1.cls q.1 q.1) = true) : Cond.selects q.1.cls q.1 q.1 ∈ WS := List.mem_filter.mpr ⟨List.mem_append_left _ (List.mem_map.mpr ⟨q, List.mem_append_right _ (List.mem_append_right _ (List.mem_append_right _ (List.mem_append_right _ (h)))), rfl⟩), hg⟩
end
section
def fd_M : u_T := fun k => match k with
  | 0 => ("MovieBoxes", "file", "LMovieBoxes$Bytes;", true)
  | 1 => ("MovieBoxes", "layout", "LMovieBoxes$Layout;", true)
  | 2 => ("MovieBoxes", "trackRow", "[LMovieBoxes$Track;", true)
  | 3 => ("MovieBoxes", "mover", "LMovieBoxes$Mover;", true)
  | 4 => ("MovieBoxes", "trackCount", "I", false)
  | 5 => ("MovieBoxes", "fault", "I", false)
  | _ => ("MovieBoxes", "stale", "Z", false)
def ft_M : Nat → FieldType := fun k => match k with
  | 0 => .object "MovieBoxes$Bytes"
  | 1 => .object "MovieBoxes$Layout"
  | 2 => .array (.object "MovieBoxes$Track")
  | 3 => .object "MovieBoxes$Mover"
  | 4 => .int
  | 5 => .int
  | _ => .boolean
theorem fn_M : ∀ a, a < 7 → ∀ b, b < 7 → a ≠ b → (fd_M a).2.1 ≠ (fd_M b).2.1 := by decide +kernel
theorem fo_M : ∀ k, k < 7 → parseFieldDescriptor (fd_M k).2.2.1 = some (ft_M k) := by decide +kernel
theorem fi_M : ∀ w ∈ u_ws "MovieBoxes" fd_M 7, w ∈ WS := by
  intro w hw
  obtain ⟨k, hk, rfl⟩ := List.mem_map.mp hw
  have hk := List.mem_range.mp hk
  match k, hk with
  | 0, _ => exact ws_1 (List.mem_of_getElem? (i := 177) rfl) rfl
  | 1, _ => exact ws_1 (List.mem_of_getElem? (i := 179) rfl) rfl
  | 2, _ => exact ws_1 (List.mem_of_getElem? (i := 181) rfl) rfl
  | 3, _ => exact ws_1 (List.mem_of_getElem? (i := 183) rfl) rfl
  | 4, _ => exact ws_1 (List.mem_of_getElem? (i := 185) rfl) rfl
  | 5, _ => exact ws_1 (List.mem_of_getElem? (i := 187) rfl) rfl
  | 6, _ => exact ws_1 (List.mem_of_getElem? (i := 189) rfl) rfl
def fd_B : u_T := fun k => match k with
  | 0 => ("MovieBoxes$Bytes", "cells", "[I", true)
  | _ => ("MovieBoxes$Bytes", "count", "I", false)
def ft_B : Nat → FieldType := fun k => match k with
  | 0 => .array .int
  | _ => .int
theorem fn_B : ∀ a, a < 2 → ∀ b, b < 2 → a ≠ b → (fd_B a).2.1 ≠ (fd_B b).2.1 := by decide +kernel
theorem fo_B : ∀ k, k < 2 → parseFieldDescriptor (fd_B k).2.2.1 = some (ft_B k) := by decide +kernel
theorem fi_B : ∀ w ∈ u_ws "MovieBoxes$Bytes" fd_B 2, w ∈ WS := by
  intro w hw
  obtain ⟨k, hk, rfl⟩ := List.mem_map.mp hw
  have hk := List.mem_range.mp hk
  match k, hk with
  | 0, _ => exact ws_1 (List.mem_of_getElem? (i := 26) rfl) rfl
  | 1, _ => exact ws_1 (List.mem_of_getElem? (i := 28) rfl) rfl
def fd_L : u_T := fun k => match k with
  | 0 => ("MovieBoxes$Layout", "file", "LMovieBoxes$Bytes;", true)
  | 1 => ("MovieBoxes$Layout", "columns", "[[I", true)
  | _ => ("MovieBoxes$Layout", "count", "I", false)
def ft_L : Nat → FieldType := fun k => match k with
  | 0 => .object "MovieBoxes$Bytes"
  | 1 => .array (.array .int)
  | _ => .int
theorem fn_L : ∀ a, a < 3 → ∀ b, b < 3 → a ≠ b → (fd_L a).2.1 ≠ (fd_L b).2.1 := by decide +kernel
theorem fo_L : ∀ k, k < 3 → parseFieldDescriptor (fd_L k).2.2.1 = some (ft_L k) := by decide +kernel
theorem fi_L : ∀ w ∈ u_ws "MovieBoxes$Layout" fd_L 3, w ∈ WS := by
  intro w hw
  obtain ⟨k, hk, rfl⟩ := List.mem_map.mp hw
  have hk := List.mem_range.mp hk
  match k, hk with
  | 0, _ => exact ws_1 (List.mem_of_getElem? (i := 43) rfl) rfl
  | 1, _ => exact ws_1 (List.mem_of_getElem? (i := 45) rfl) rfl
  | 2, _ => exact ws_1 (List.mem_of_getElem? (i := 47) rfl) rfl
def fd_T : u_T := fun k => match k with
  | 0 => ("MovieBoxes$Table", "file", "LMovieBoxes$Bytes;", true)
  | 1 => ("MovieBoxes$Table", "present", "Z", false)
  | 2 => ("MovieBoxes$Table", "start", "I", false)
  | 3 => ("MovieBoxes$Table", "payload", "I", false)
  | 4 => ("MovieBoxes$Table", "width", "I", false)
  | _ => ("MovieBoxes$Table", "rows", "I", false)
def ft_T : Nat → FieldType := fun k => match k with
  | 0 => .object "MovieBoxes$Bytes"
  | 1 => .boolean
  | 2 => .int
  | 3 => .int
  | 4 => .int
  | _ => .int
theorem fn_T : ∀ a, a < 6 → ∀ b, b < 6 → a ≠ b → (fd_T a).2.1 ≠ (fd_T b).2.1 := by decide +kernel
theorem fo_T : ∀ k, k < 6 → parseFieldDescriptor (fd_T k).2.2.1 = some (ft_T k) := by decide +kernel
theorem fi_T : ∀ w ∈ u_ws "MovieBoxes$Table" fd_T 6, w ∈ WS := by
  intro w hw
  obtain ⟨k, hk, rfl⟩ := List.mem_map.mp hw
  have hk := List.mem_range.mp hk
  match k, hk with
  | 0, _ => exact ws_1 (List.mem_of_getElem? (i := 69) rfl) rfl
  | 1, _ => exact ws_1 (List.mem_of_getElem? (i := 71) rfl) rfl
  | 2, _ => exact ws_1 (List.mem_of_getElem? (i := 73) rfl) rfl
  | 3, _ => exact ws_1 (List.mem_of_getElem? (i := 75) rfl) rfl
  | 4, _ => exact ws_1 (List.mem_of_getElem? (i := 77) rfl) rfl
  | 5, _ => exact ws_1 (List.mem_of_getElem? (i := 79) rfl) rfl
def fd_Z : u_T := fun k => match k with
  | 0 => ("MovieBoxes$SizeTable", "file", "LMovieBoxes$Bytes;", true)
  | 1 => ("MovieBoxes$SizeTable", "start", "I", false)
  | 2 => ("MovieBoxes$SizeTable", "payload", "I", false)
  | 3 => ("MovieBoxes$SizeTable", "fixed", "I", false)
  | _ => ("MovieBoxes$SizeTable", "count", "I", false)
def ft_Z : Nat → FieldType := fun k => match k with
  | 0 => .object "MovieBoxes$Bytes"
  | 1 => .int
  | 2 => .int
  | 3 => .int
  | _ => .int
theorem fn_Z : ∀ a, a < 5 → ∀ b, b < 5 → a ≠ b → (fd_Z a).2.1 ≠ (fd_Z b).2.1 := by decide +kernel
theorem fo_Z : ∀ k, k < 5 → parseFieldDescriptor (fd_Z k).2.2.1 = some (ft_Z k) := by decide +kernel
theorem fi_Z : ∀ w ∈ u_ws "MovieBoxes$SizeTable" fd_Z 5, w ∈ WS := by
  intro w hw
  obtain ⟨k, hk, rfl⟩ := List.mem_map.mp hw
  have hk := List.mem_range.mp hk
  match k, hk with
  | 0, _ => exact ws_1 (List.mem_of_getElem? (i := 93) rfl) rfl
  | 1, _ => exact ws_1 (List.mem_of_getElem? (i := 95) rfl) rfl
  | 2, _ => exact ws_1 (List.mem_of_getElem? (i := 97) rfl) rfl
  | 3, _ => exact ws_1 (List.mem_of_getElem? (i := 99) rfl) rfl
  | 4, _ => exact ws_1 (List.mem_of_getElem? (i := 101) rfl) rfl
def fd_K : u_T := fun k => match k with
  | 0 => ("MovieBoxes$Track", "layout", "LMovieBoxes$Layout;", true)
  | 1 => ("MovieBoxes$Track", "durations", "LMovieBoxes$Table;", true)
  | 2 => ("MovieBoxes$Track", "shifts", "LMovieBoxes$Table;", true)
  | 3 => ("MovieBoxes$Track", "chunks", "LMovieBoxes$Table;", true)
  | 4 => ("MovieBoxes$Track", "places", "LMovieBoxes$Table;", true)
  | 5 => ("MovieBoxes$Track", "syncs", "LMovieBoxes$Table;", true)
  | 6 => ("MovieBoxes$Track", "edits", "LMovieBoxes$Table;", true)
  | 7 => ("MovieBoxes$Track", "sizes", "LMovieBoxes$SizeTable;", true)
  | 8 => ("MovieBoxes$Track", "columns", "[[I", true)
  | _ => ("MovieBoxes$Track", "count", "I", false)
def ft_K : Nat → FieldType := fun k => match k with
  | 0 => .object "MovieBoxes$Layout"
  | 1 => .object "MovieBoxes$Table"
  | 2 => .object "MovieBoxes$Table"
  | 3 => .object "MovieBoxes$Table"
  | 4 => .object "MovieBoxes$Table"
  | 5 => .object "MovieBoxes$Table"
  | 6 => .object "MovieBoxes$Table"
  | 7 => .object "MovieBoxes$SizeTable"
  | 8 => .array (.array .int)
  | _ => .int
theorem fn_K : ∀ a, a < 10 → ∀ b, b < 10 → a ≠ b → (fd_K a).2.1 ≠ (fd_K b).2.1 := by decide +kernel
theorem fo_K : ∀ k, k < 10 → parseFieldDescriptor (fd_K k).2.2.1 = some (ft_K k) := by decide +kernel
theorem fi_K : ∀ w ∈ u_ws "MovieBoxes$Track" fd_K 10, w ∈ WS := by
  intro w hw
  obtain ⟨k, hk, rfl⟩ := List.mem_map.mp hw
  have hk := List.mem_range.mp hk
  match k, hk with
  | 0, _ => exact ws_1 (List.mem_of_getElem? (i := 115) rfl) rfl
  | 1, _ => exact ws_1 (List.mem_of_getElem? (i := 117) rfl) rfl
  | 2, _ => exact ws_1 (List.mem_of_getElem? (i := 119) rfl) rfl
  | 3, _ => exact ws_1 (List.mem_of_getElem? (i := 121) rfl) rfl
  | 4, _ => exact ws_1 (List.mem_of_getElem? (i := 123) rfl) rfl
  | 5, _ => exact ws_1 (List.mem_of_getElem? (i := 125) rfl) rfl
  | 6, _ => exact ws_1 (List.mem_of_getElem? (i := 127) rfl) rfl
  | 7, _ => exact ws_1 (List.mem_of_getElem? (i := 129) rfl) rfl
  | 8, _ => exact ws_1 (List.mem_of_getElem? (i := 131) rfl) rfl
  | 9, _ => exact ws_1 (List.mem_of_getElem? (i := 133) rfl) rfl
def fd_V : u_T := fun k => match k with
  | 0 => ("MovieBoxes$Mover", "file", "LMovieBoxes$Bytes;", true)
  | 1 => ("MovieBoxes$Mover", "layout", "LMovieBoxes$Layout;", true)
  | 2 => ("MovieBoxes$Mover", "outcome", "LMovieBoxes$Bytes;", true)
  | 3 => ("MovieBoxes$Mover", "widened", "[Z", true)
  | 4 => ("MovieBoxes$Mover", "payloads", "[I", true)
  | 5 => ("MovieBoxes$Mover", "headers", "[I", true)
  | 6 => ("MovieBoxes$Mover", "movie", "I", false)
  | _ => ("MovieBoxes$Mover", "movieEnd", "I", false)
def ft_V : Nat → FieldType := fun k => match k with
  | 0 => .object "MovieBoxes$Bytes"
  | 1 => .object "MovieBoxes$Layout"
  | 2 => .object "MovieBoxes$Bytes"
  | 3 => .array .boolean
  | 4 => .array .int
  | 5 => .array .int
  | 6 => .int
  | _ => .int
theorem fn_V : ∀ a, a < 8 → ∀ b, b < 8 → a ≠ b → (fd_V a).2.1 ≠ (fd_V b).2.1 := by decide +kernel
theorem fo_V : ∀ k, k < 8 → parseFieldDescriptor (fd_V k).2.2.1 = some (ft_V k) := by decide +kernel
theorem fi_V : ∀ w ∈ u_ws "MovieBoxes$Mover" fd_V 8, w ∈ WS := by
  intro w hw
  obtain ⟨k, hk, rfl⟩ := List.mem_map.mp hw
  have hk := List.mem_range.mp hk
  match k, hk with
  | 0, _ => exact ws_1 (List.mem_of_getElem? (i := 152) rfl) rfl
  | 1, _ => exact ws_1 (List.mem_of_getElem? (i := 154) rfl) rfl
  | 2, _ => exact ws_1 (List.mem_of_getElem? (i := 156) rfl) rfl
  | 3, _ => exact ws_1 (List.mem_of_getElem? (i := 158) rfl) rfl
  | 4, _ => exact ws_1 (List.mem_of_getElem? (i := 160) rfl) rfl
  | 5, _ => exact ws_1 (List.mem_of_getElem? (i := 162) rfl) rfl
  | 6, _ => exact ws_1 (List.mem_of_getElem? (i := 164) rfl) rfl
  | 7, _ => exact ws_1 (List.mem_of_getElem? (i := 166) rfl) rfl
def fd_R : u_T := fun k => match k with
  | 0 => ("MovieBoxesModel", "file", "[I", true)
  | 1 => ("MovieBoxesModel", "size", "I", false)
  | 2 => ("MovieBoxesModel", "count", "I", false)
  | 3 => ("MovieBoxesModel", "at", "[I", true)
  | 4 => ("MovieBoxesModel", "len", "[I", true)
  | 5 => ("MovieBoxesModel", "type", "[I", true)
  | 6 => ("MovieBoxesModel", "head", "[I", true)
  | 7 => ("MovieBoxesModel", "level", "[I", true)
  | 8 => ("MovieBoxesModel", "holder", "[I", true)
  | 9 => ("MovieBoxesModel", "end", "[I", true)
  | 10 => ("MovieBoxesModel", "open", "[I", true)
  | 11 => ("MovieBoxesModel", "movie", "I", false)
  | 12 => ("MovieBoxesModel", "trackCount", "I", false)
  | 13 => ("MovieBoxesModel", "trackBox", "[I", true)
  | 14 => ("MovieBoxesModel", "table", "[I", true)
  | 15 => ("MovieBoxesModel", "home", "[I", true)
  | 16 => ("MovieBoxesModel", "newHead", "[I", true)
  | 17 => ("MovieBoxesModel", "newLen", "[I", true)
  | 18 => ("MovieBoxesModel", "inner", "[I", true)
  | 19 => ("MovieBoxesModel", "out", "[I", true)
  | _ => ("MovieBoxesModel", "outSize", "I", false)
def ft_R : Nat → FieldType := fun k => match k with
  | 0 => .array .int
  | 1 => .int
  | 2 => .int
  | 3 => .array .int
  | 4 => .array .int
  | 5 => .array .int
  | 6 => .array .int
  | 7 => .array .int
  | 8 => .array .int
  | 9 => .array .int
  | 10 => .array .int
  | 11 => .int
  | 12 => .int
  | 13 => .array .int
  | 14 => .array .int
  | 15 => .array .int
  | 16 => .array .int
  | 17 => .array .int
  | 18 => .array .int
  | 19 => .array .int
  | _ => .int
theorem fn_R : ∀ a, a < 21 → ∀ b, b < 21 → a ≠ b → (fd_R a).2.1 ≠ (fd_R b).2.1 := by decide +kernel
theorem fo_R : ∀ k, k < 21 → parseFieldDescriptor (fd_R k).2.2.1 = some (ft_R k) := by decide +kernel
theorem fi_R : ∀ w ∈ u_ws "MovieBoxesModel" fd_R 21, w ∈ WS := by
  intro w hw
  obtain ⟨k, hk, rfl⟩ := List.mem_map.mp hw
  have hk := List.mem_range.mp hk
  match k, hk with
  | 0, _ => exact ws_3 (List.mem_of_getElem? (i := 134) rfl) rfl
  | 1, _ => exact ws_3 (List.mem_of_getElem? (i := 136) rfl) rfl
  | 2, _ => exact ws_3 (List.mem_of_getElem? (i := 138) rfl) rfl
  | 3, _ => exact ws_3 (List.mem_of_getElem? (i := 140) rfl) rfl
  | 4, _ => exact ws_3 (List.mem_of_getElem? (i := 142) rfl) rfl
  | 5, _ => exact ws_3 (List.mem_of_getElem? (i := 144) rfl) rfl
  | 6, _ => exact ws_3 (List.mem_of_getElem? (i := 146) rfl) rfl
  | 7, _ => exact ws_3 (List.mem_of_getElem? (i := 148) rfl) rfl
  | 8, _ => exact ws_3 (List.mem_of_getElem? (i := 150) rfl) rfl
  | 9, _ => exact ws_3 (List.mem_of_getElem? (i := 152) rfl) rfl
  | 10, _ => exact ws_3 (List.mem_of_getElem? (i := 154) rfl) rfl
  | 11, _ => exact ws_3 (List.mem_of_getElem? (i := 156) rfl) rfl
  | 12, _ => exact ws_3 (List.mem_of_getElem? (i := 158) rfl) rfl
  | 13, _ => exact ws_3 (List.mem_of_getElem? (i := 160) rfl) rfl
  | 14, _ => exact ws_3 (List.mem_of_getElem? (i := 162) rfl) rfl
  | 15, _ => exact ws_3 (List.mem_of_getElem? (i := 164) rfl) rfl
  | 16, _ => exact ws_3 (List.mem_of_getElem? (i := 166) rfl) rfl
  | 17, _ => exact ws_3 (List.mem_of_getElem? (i := 168) rfl) rfl
  | 18, _ => exact ws_3 (List.mem_of_getElem? (i := 170) rfl) rfl
  | 19, _ => exact ws_3 (List.mem_of_getElem? (i := 172) rfl) rfl
  | 20, _ => exact ws_3 (List.mem_of_getElem? (i := 174) rfl) rfl
  | k + 21, h => exact absurd h (by omega)
abbrev classes : List vw_C := [("MovieBoxes", fd_M, 7), ("MovieBoxes$Bytes", fd_B, 2), ("MovieBoxes$Layout", fd_L, 3), ("MovieBoxes$Table", fd_T, 6), ("MovieBoxes$SizeTable", fd_Z, 5), ("MovieBoxes$Track", fd_K, 10), ("MovieBoxes$Mover", fd_V, 8), ("MovieBoxesModel", fd_R, 21)]
end
section
abbrev mx_Y : Type := MethodName × ByteArray × Nat × Option FieldType × Nat
abbrev bb_M_init : ByteArray := prog_1_method_1_code
abbrev Y_M_init : mx_Y := (⟨"MovieBoxes", "<init>", "()V"⟩, bb_M_init, 2, none, 3)
abbrev bb_B_init : ByteArray := prog_2_method_1_code
abbrev Y_B_init : mx_Y := (⟨"MovieBoxes$Bytes", "<init>", "()V"⟩, bb_B_init, 1, none, 1)
abbrev bb_L_init : ByteArray := prog_3_method_1_code
abbrev Y_L_init : mx_Y := (⟨"MovieBoxes$Layout", "<init>", "(LMovieBoxes$Bytes;)V"⟩, bb_L_init, 2, none, 1)
abbrev bb_K_init : ByteArray := prog_7_method_1_code
abbrev Y_K_init : mx_Y := (⟨"MovieBoxes$Track", "<init>", "(LMovieBoxes$Bytes;LMovieBoxes$Layout;)V"⟩, bb_K_init, 3, none, 2)
abbrev bb_T_init : ByteArray := prog_6_method_1_code
abbrev Y_T_init : mx_Y := (⟨"MovieBoxes$Table", "<init>", "(LMovieBoxes$Bytes;)V"⟩, bb_T_init, 2, none, 1)
abbrev bb_Z_init : ByteArray := prog_5_method_1_code
abbrev Y_Z_init : mx_Y := (⟨"MovieBoxes$SizeTable", "<init>", "(LMovieBoxes$Bytes;)V"⟩, bb_Z_init, 2, none, 1)
abbrev bb_V_init : ByteArray := prog_4_method_1_code
abbrev Y_V_init : mx_Y := (⟨"MovieBoxes$Mover", "<init>", "(LMovieBoxes$Bytes;LMovieBoxes$Layout;)V"⟩, bb_V_init, 3, none, 2)
abbrev bb_M_append : ByteArray := prog_1_method_2_code
abbrev Y_M_append : mx_Y := (⟨"MovieBoxes", "append", "(JI)I"⟩, bb_M_append, 5, (some .int), 1)
abbrev bb_B_size : ByteArray := prog_2_method_2_code
abbrev Y_B_size : mx_Y := (⟨"MovieBoxes$Bytes", "size", "()I"⟩, bb_B_size, 1, (some .int), 0)
abbrev bb_B_add : ByteArray := prog_2_method_7_code
abbrev Y_B_add : mx_Y := (⟨"MovieBoxes$Bytes", "add", "(I)V"⟩, bb_B_add, 2, none, 0)
abbrev bb_M_poke : ByteArray := prog_1_method_3_code
abbrev Y_M_poke : mx_Y := (⟨"MovieBoxes", "poke", "(II)I"⟩, bb_M_poke, 4, (some .int), 2)
abbrev bb_B_has : ByteArray := prog_2_method_3_code
abbrev Y_B_has : mx_Y := (⟨"MovieBoxes$Bytes", "has", "(I)Z"⟩, bb_B_has, 2, (some .boolean), 0)
abbrev bb_B_at : ByteArray := prog_2_method_4_code
abbrev Y_B_at : mx_Y := (⟨"MovieBoxes$Bytes", "at", "(I)I"⟩, bb_B_at, 2, (some .int), 0)
abbrev bb_B_put : ByteArray := prog_2_method_6_code
abbrev Y_B_put : mx_Y := (⟨"MovieBoxes$Bytes", "put", "(II)V"⟩, bb_B_put, 3, none, 1)
abbrev bb_M_cut : ByteArray := prog_1_method_4_code
abbrev Y_M_cut : mx_Y := (⟨"MovieBoxes", "cut", "(I)Z"⟩, bb_M_cut, 2, (some .boolean), 1)
abbrev bb_B_keep : ByteArray := prog_2_method_10_code
abbrev Y_B_keep : mx_Y := (⟨"MovieBoxes$Bytes", "keep", "(I)V"⟩, bb_B_keep, 2, none, 0)
abbrev bb_M_length : ByteArray := prog_1_method_5_code
abbrev Y_M_length : mx_Y := (⟨"MovieBoxes", "length", "()I"⟩, bb_M_length, 1, (some .int), 1)
abbrev bb_M_peek : ByteArray := prog_1_method_6_code
abbrev Y_M_peek : mx_Y := (⟨"MovieBoxes", "peek", "(I)I"⟩, bb_M_peek, 2, (some .int), 1)
abbrev bb_M_check : ByteArray := prog_1_method_7_code
abbrev Y_M_check : mx_Y := (⟨"MovieBoxes", "check", "()I"⟩, bb_M_check, 1, (some .int), 6)
abbrev bb_M_look : ByteArray := prog_1_method_15_code
abbrev Y_M_look : mx_Y := (⟨"MovieBoxes", "look", "()V"⟩, bb_M_look, 2, none, 5)
abbrev bb_L_read : ByteArray := prog_3_method_8_code
abbrev Y_L_read : mx_Y := (⟨"MovieBoxes$Layout", "read", "()I"⟩, bb_L_read, 7, (some .int), 4)
abbrev bb_L_openHolder : ByteArray := prog_3_method_9_code
abbrev Y_L_openHolder : mx_Y := (⟨"MovieBoxes$Layout", "openHolder", "(II)I"⟩, bb_L_openHolder, 5, (some .int), 1)
abbrev bb_L_endOf : ByteArray := prog_3_method_4_code
abbrev Y_L_endOf : mx_Y := (⟨"MovieBoxes$Layout", "endOf", "(I)I"⟩, bb_L_endOf, 2, (some .int), 0)
abbrev bb_L_of : ByteArray := prog_3_method_3_code
abbrev Y_L_of : mx_Y := (⟨"MovieBoxes$Layout", "of", "(II)I"⟩, bb_L_of, 3, (some .int), 0)
abbrev bb_L_readBox : ByteArray := prog_3_method_10_code
abbrev Y_L_readBox : mx_Y := (⟨"MovieBoxes$Layout", "readBox", "(III)Z"⟩, bb_L_readBox, 7, (some .boolean), 3)
abbrev bb_B_pairAt : ByteArray := prog_2_method_5_code
abbrev Y_B_pairAt : mx_Y := (⟨"MovieBoxes$Bytes", "pairAt", "(I)I"⟩, bb_B_pairAt, 2, (some .int), 0)
abbrev bb_L_note : ByteArray := prog_3_method_11_code
abbrev Y_L_note : mx_Y := (⟨"MovieBoxes$Layout", "note", "(IIII)V"⟩, bb_L_note, 7, none, 2)
abbrev bb_L_kindOf : ByteArray := prog_3_method_12_code
abbrev Y_L_kindOf : mx_Y := (⟨"MovieBoxes$Layout", "kindOf", "(II)I"⟩, bb_L_kindOf, 3, (some .int), 1)
abbrev bb_L_isTable : ByteArray := prog_3_method_13_code
abbrev Y_L_isTable : mx_Y := (⟨"MovieBoxes$Layout", "isTable", "(I)Z"⟩, bb_L_isTable, 1, (some .boolean), 0)
abbrev bb_L_holdsBoxes : ByteArray := prog_3_method_7_code
abbrev Y_L_holdsBoxes : mx_Y := (⟨"MovieBoxes$Layout", "holdsBoxes", "(I)Z"⟩, bb_L_holdsBoxes, 3, (some .boolean), 1)
abbrev bb_L_payloadOf : ByteArray := prog_3_method_5_code
abbrev Y_L_payloadOf : mx_Y := (⟨"MovieBoxes$Layout", "payloadOf", "(I)I"⟩, bb_L_payloadOf, 2, (some .int), 0)
abbrev bb_L_kindsHold : ByteArray := prog_3_method_16_code
abbrev Y_L_kindsHold : mx_Y := (⟨"MovieBoxes$Layout", "kindsHold", "()Z"⟩, bb_L_kindsHold, 3, (some .boolean), 2)
abbrev bb_L_countIn : ByteArray := prog_3_method_15_code
abbrev Y_L_countIn : mx_Y := (⟨"MovieBoxes$Layout", "countIn", "(II)I"⟩, bb_L_countIn, 5, (some .int), 0)
abbrev bb_L_find : ByteArray := prog_3_method_14_code
abbrev Y_L_find : mx_Y := (⟨"MovieBoxes$Layout", "find", "(II)I"⟩, bb_L_find, 4, (some .int), 0)
abbrev bb_L_trackKindsHold : ByteArray := prog_3_method_17_code
abbrev Y_L_trackKindsHold : mx_Y := (⟨"MovieBoxes$Layout", "trackKindsHold", "(I)Z"⟩, bb_L_trackKindsHold, 2, (some .boolean), 1)
abbrev bb_M_bindTracks : ByteArray := prog_1_method_18_code
abbrev Y_M_bindTracks : mx_Y := (⟨"MovieBoxes", "bindTracks", "()V"⟩, bb_M_bindTracks, 2, none, 3)
abbrev bb_L_size : ByteArray := prog_3_method_2_code
abbrev Y_L_size : mx_Y := (⟨"MovieBoxes$Layout", "size", "()I"⟩, bb_L_size, 1, (some .int), 0)
abbrev bb_K_bind : ByteArray := prog_7_method_2_code
abbrev Y_K_bind : mx_Y := (⟨"MovieBoxes$Track", "bind", "(I)V"⟩, bb_K_bind, 3, none, 2)
abbrev bb_T_bind : ByteArray := prog_6_method_2_code
abbrev Y_T_bind : mx_Y := (⟨"MovieBoxes$Table", "bind", "(LMovieBoxes$Layout;II)V"⟩, bb_T_bind, 4, none, 1)
abbrev bb_L_payloadSizeOf : ByteArray := prog_3_method_6_code
abbrev Y_L_payloadSizeOf : mx_Y := (⟨"MovieBoxes$Layout", "payloadSizeOf", "(I)I"⟩, bb_L_payloadSizeOf, 2, (some .int), 0)
abbrev bb_Z_bind : ByteArray := prog_5_method_2_code
abbrev Y_Z_bind : mx_Y := (⟨"MovieBoxes$SizeTable", "bind", "(LMovieBoxes$Layout;I)V"⟩, bb_Z_bind, 3, none, 1)
abbrev bb_M_tableFault : ByteArray := prog_1_method_19_code
abbrev Y_M_tableFault : mx_Y := (⟨"MovieBoxes", "tableFault", "()I"⟩, bb_M_tableFault, 2, (some .int), 4)
abbrev bb_K_rowsHold : ByteArray := prog_7_method_3_code
abbrev Y_K_rowsHold : mx_Y := (⟨"MovieBoxes$Track", "rowsHold", "()Z"⟩, bb_K_rowsHold, 1, (some .boolean), 3)
abbrev bb_Z_lengthHolds : ByteArray := prog_5_method_4_code
abbrev Y_Z_lengthHolds : mx_Y := (⟨"MovieBoxes$SizeTable", "lengthHolds", "()Z"⟩, bb_Z_lengthHolds, 1, (some .boolean), 0)
abbrev bb_T_lengthHolds : ByteArray := prog_6_method_4_code
abbrev Y_T_lengthHolds : mx_Y := (⟨"MovieBoxes$Table", "lengthHolds", "()Z"⟩, bb_T_lengthHolds, 1, (some .boolean), 0)
abbrev bb_T_rows : ByteArray := prog_6_method_5_code
abbrev Y_T_rows : mx_Y := (⟨"MovieBoxes$Table", "rows", "()I"⟩, bb_T_rows, 1, (some .int), 0)
abbrev bb_T_value : ByteArray := prog_6_method_6_code
abbrev Y_T_value : mx_Y := (⟨"MovieBoxes$Table", "value", "(II)I"⟩, bb_T_value, 3, (some .int), 1)
abbrev bb_T_grows : ByteArray := prog_6_method_9_code
abbrev Y_T_grows : mx_Y := (⟨"MovieBoxes$Table", "grows", "()Z"⟩, bb_T_grows, 2, (some .boolean), 2)
abbrev bb_K_everyChunkRowHasSamples : ByteArray := prog_7_method_4_code
abbrev Y_K_everyChunkRowHasSamples : mx_Y := (⟨"MovieBoxes$Track", "everyChunkRowHasSamples", "()Z"⟩, bb_K_everyChunkRowHasSamples, 2, (some .boolean), 2)
abbrev bb_K_countsHold : ByteArray := prog_7_method_5_code
abbrev Y_K_countsHold : mx_Y := (⟨"MovieBoxes$Track", "countsHold", "()Z"⟩, bb_K_countsHold, 2, (some .boolean), 3)
abbrev bb_Z_count : ByteArray := prog_5_method_3_code
abbrev Y_Z_count : mx_Y := (⟨"MovieBoxes$SizeTable", "count", "()I"⟩, bb_Z_count, 1, (some .int), 0)
abbrev bb_T_totalOfCounts : ByteArray := prog_6_method_8_code
abbrev Y_T_totalOfCounts : mx_Y := (⟨"MovieBoxes$Table", "totalOfCounts", "()I"⟩, bb_T_totalOfCounts, 3, (some .int), 2)
abbrev bb_T_isPresent : ByteArray := prog_6_method_3_code
abbrev Y_T_isPresent : mx_Y := (⟨"MovieBoxes$Table", "isPresent", "()Z"⟩, bb_T_isPresent, 1, (some .boolean), 0)
abbrev bb_K_chunkRowsMeetChunks : ByteArray := prog_7_method_6_code
abbrev Y_K_chunkRowsMeetChunks : mx_Y := (⟨"MovieBoxes$Track", "chunkRowsMeetChunks", "()Z"⟩, bb_K_chunkRowsMeetChunks, 2, (some .boolean), 2)
abbrev bb_K_samplesInChunks : ByteArray := prog_7_method_7_code
abbrev Y_K_samplesInChunks : mx_Y := (⟨"MovieBoxes$Track", "samplesInChunks", "()I"⟩, bb_K_samplesInChunks, 5, (some .int), 2)
abbrev bb_K_syncsStayWithin : ByteArray := prog_7_method_8_code
abbrev Y_K_syncsStayWithin : mx_Y := (⟨"MovieBoxes$Track", "syncsStayWithin", "(I)Z"⟩, bb_K_syncsStayWithin, 3, (some .boolean), 2)
abbrev bb_K_dataHolds : ByteArray := prog_7_method_9_code
abbrev Y_K_dataHolds : mx_Y := (⟨"MovieBoxes$Track", "dataHolds", "()Z"⟩, bb_K_dataHolds, 7, (some .boolean), 3)
abbrev bb_K_chunkRow : ByteArray := prog_7_method_10_code
abbrev Y_K_chunkRow : mx_Y := (⟨"MovieBoxes$Track", "chunkRow", "(II)I"⟩, bb_K_chunkRow, 4, (some .int), 2)
abbrev bb_T_number : ByteArray := prog_6_method_7_code
abbrev Y_T_number : mx_Y := (⟨"MovieBoxes$Table", "number", "(I)I"⟩, bb_T_number, 2, (some .int), 2)
abbrev bb_L_dataAround : ByteArray := prog_3_method_18_code
abbrev Y_L_dataAround : mx_Y := (⟨"MovieBoxes$Layout", "dataAround", "(I)I"⟩, bb_L_dataAround, 5, (some .int), 0)
abbrev bb_K_bytesOf : ByteArray := prog_7_method_11_code
abbrev Y_K_bytesOf : mx_Y := (⟨"MovieBoxes$Track", "bytesOf", "(II)I"⟩, bb_K_bytesOf, 5, (some .int), 2)
abbrev bb_Z_sizeOf : ByteArray := prog_5_method_5_code
abbrev Y_Z_sizeOf : mx_Y := (⟨"MovieBoxes$SizeTable", "sizeOf", "(I)I"⟩, bb_Z_sizeOf, 2, (some .int), 1)
abbrev bb_K_spread : ByteArray := prog_7_method_12_code
abbrev Y_K_spread : mx_Y := (⟨"MovieBoxes$Track", "spread", "()V"⟩, bb_K_spread, 1, none, 4)
abbrev bb_J_min : ByteArray := prog_10_method_69_code
abbrev Y_J_min : mx_Y := (⟨"java/lang/Math", "min", "(II)I"⟩, bb_J_min, 2, (some .int), 0)
abbrev bb_K_spreadDurations : ByteArray := prog_7_method_13_code
abbrev Y_K_spreadDurations : mx_Y := (⟨"MovieBoxes$Track", "spreadDurations", "()V"⟩, bb_K_spreadDurations, 6, none, 2)
abbrev bb_K_spreadShifts : ByteArray := prog_7_method_14_code
abbrev Y_K_spreadShifts : mx_Y := (⟨"MovieBoxes$Track", "spreadShifts", "()V"⟩, bb_K_spreadShifts, 5, none, 2)
abbrev bb_K_spreadSyncs : ByteArray := prog_7_method_15_code
abbrev Y_K_spreadSyncs : mx_Y := (⟨"MovieBoxes$Track", "spreadSyncs", "()V"⟩, bb_K_spreadSyncs, 4, none, 2)
abbrev bb_K_spreadChunks : ByteArray := prog_7_method_16_code
abbrev Y_K_spreadChunks : mx_Y := (⟨"MovieBoxes$Track", "spreadChunks", "()V"⟩, bb_K_spreadChunks, 6, none, 3)
abbrev bb_M_boxes : ByteArray := prog_1_method_8_code
abbrev Y_M_boxes : mx_Y := (⟨"MovieBoxes", "boxes", "()I"⟩, bb_M_boxes, 1, (some .int), 6)
abbrev bb_M_boxesAreKnown : ByteArray := prog_1_method_16_code
abbrev Y_M_boxesAreKnown : mx_Y := (⟨"MovieBoxes", "boxesAreKnown", "()Z"⟩, bb_M_boxesAreKnown, 1, (some .boolean), 0)
abbrev bb_M_box : ByteArray := prog_1_method_9_code
abbrev Y_M_box : mx_Y := (⟨"MovieBoxes", "box", "(II)I"⟩, bb_M_box, 3, (some .int), 6)
abbrev bb_M_tracks : ByteArray := prog_1_method_10_code
abbrev Y_M_tracks : mx_Y := (⟨"MovieBoxes", "tracks", "()I"⟩, bb_M_tracks, 1, (some .int), 6)
abbrev bb_M_samples : ByteArray := prog_1_method_11_code
abbrev Y_M_samples : mx_Y := (⟨"MovieBoxes", "samples", "(I)I"⟩, bb_M_samples, 3, (some .int), 6)
abbrev bb_M_soundTrack : ByteArray := prog_1_method_17_code
abbrev Y_M_soundTrack : mx_Y := (⟨"MovieBoxes", "soundTrack", "(I)LMovieBoxes$Track;"⟩, bb_M_soundTrack, 2, (some (.object "MovieBoxes$Track")), 0)
abbrev bb_K_sampleCount : ByteArray := prog_7_method_17_code
abbrev Y_K_sampleCount : mx_Y := (⟨"MovieBoxes$Track", "sampleCount", "()I"⟩, bb_K_sampleCount, 1, (some .int), 0)
abbrev bb_M_sample : ByteArray := prog_1_method_12_code
abbrev Y_M_sample : mx_Y := (⟨"MovieBoxes", "sample", "(III)I"⟩, bb_M_sample, 5, (some .int), 6)
abbrev bb_K_of : ByteArray := prog_7_method_18_code
abbrev Y_K_of : mx_Y := (⟨"MovieBoxes$Track", "of", "(II)I"⟩, bb_K_of, 3, (some .int), 0)
abbrev bb_M_shown : ByteArray := prog_1_method_13_code
abbrev Y_M_shown : mx_Y := (⟨"MovieBoxes", "shown", "(II)I"⟩, bb_M_shown, 4, (some .int), 6)
abbrev bb_K_shownAt : ByteArray := prog_7_method_19_code
abbrev Y_K_shownAt : mx_Y := (⟨"MovieBoxes$Track", "shownAt", "(I)I"⟩, bb_K_shownAt, 5, (some .int), 3)
abbrev bb_K_mediaTime : ByteArray := prog_7_method_20_code
abbrev Y_K_mediaTime : mx_Y := (⟨"MovieBoxes$Track", "mediaTime", "(I)I"⟩, bb_K_mediaTime, 6, (some .int), 2)
abbrev bb_M_fastStart : ByteArray := prog_1_method_14_code
abbrev Y_M_fastStart : mx_Y := (⟨"MovieBoxes", "fastStart", "()I"⟩, bb_M_fastStart, 4, (some .int), 6)
abbrev bb_V_move : ByteArray := prog_4_method_2_code
abbrev Y_V_move : mx_Y := (⟨"MovieBoxes$Mover", "move", "(II)I"⟩, bb_V_move, 6, (some .int), 5)
abbrev bb_V_behindMovie : ByteArray := prog_4_method_3_code
abbrev Y_V_behindMovie : mx_Y := (⟨"MovieBoxes$Mover", "behindMovie", "()I"⟩, bb_V_behindMovie, 2, (some .int), 1)
abbrev bb_V_settleWidths : ByteArray := prog_4_method_4_code
abbrev Y_V_settleWidths : mx_Y := (⟨"MovieBoxes$Mover", "settleWidths", "()V"⟩, bb_V_settleWidths, 2, none, 4)
abbrev bb_V_measure : ByteArray := prog_4_method_5_code
abbrev Y_V_measure : mx_Y := (⟨"MovieBoxes$Mover", "measure", "()V"⟩, bb_V_measure, 3, none, 3)
abbrev bb_V_ownPayload : ByteArray := prog_4_method_6_code
abbrev Y_V_ownPayload : mx_Y := (⟨"MovieBoxes$Mover", "ownPayload", "(I)I"⟩, bb_V_ownPayload, 3, (some .int), 2)
abbrev bb_V_rowsOf : ByteArray := prog_4_method_9_code
abbrev Y_V_rowsOf : mx_Y := (⟨"MovieBoxes$Mover", "rowsOf", "(I)I"⟩, bb_V_rowsOf, 2, (some .int), 1)
abbrev bb_V_newHeader : ByteArray := prog_4_method_7_code
abbrev Y_V_newHeader : mx_Y := (⟨"MovieBoxes$Mover", "newHeader", "(I)I"⟩, bb_V_newHeader, 4, (some .int), 1)
abbrev bb_V_newSize : ByteArray := prog_4_method_8_code
abbrev Y_V_newSize : mx_Y := (⟨"MovieBoxes$Mover", "newSize", "(I)I"⟩, bb_V_newSize, 2, (some .int), 0)
abbrev bb_V_widenSome : ByteArray := prog_4_method_10_code
abbrev Y_V_widenSome : mx_Y := (⟨"MovieBoxes$Mover", "widenSome", "()Z"⟩, bb_V_widenSome, 3, (some .boolean), 3)
abbrev bb_V_outgrowsBytes : ByteArray := prog_4_method_11_code
abbrev Y_V_outgrowsBytes : mx_Y := (⟨"MovieBoxes$Mover", "outgrowsBytes", "(I)Z"⟩, bb_V_outgrowsBytes, 3, (some .boolean), 2)
abbrev bb_V_oldPlace : ByteArray := prog_4_method_12_code
abbrev Y_V_oldPlace : mx_Y := (⟨"MovieBoxes$Mover", "oldPlace", "(II)I"⟩, bb_V_oldPlace, 5, (some .int), 1)
abbrev bb_V_newPlace : ByteArray := prog_4_method_13_code
abbrev Y_V_newPlace : mx_Y := (⟨"MovieBoxes$Mover", "newPlace", "(I)I"⟩, bb_V_newPlace, 4, (some .int), 1)
abbrev bb_B_addPart : ByteArray := prog_2_method_9_code
abbrev Y_B_addPart : mx_Y := (⟨"MovieBoxes$Bytes", "addPart", "(LMovieBoxes$Bytes;II)V"⟩, bb_B_addPart, 5, none, 1)
abbrev bb_V_writeBox : ByteArray := prog_4_method_14_code
abbrev Y_V_writeBox : mx_Y := (⟨"MovieBoxes$Mover", "writeBox", "(I)V"⟩, bb_V_writeBox, 3, none, 3)
abbrev bb_V_writeHeader : ByteArray := prog_4_method_15_code
abbrev Y_V_writeHeader : mx_Y := (⟨"MovieBoxes$Mover", "writeHeader", "(I)V"⟩, bb_V_writeHeader, 4, none, 2)
abbrev bb_B_addPair : ByteArray := prog_2_method_8_code
abbrev Y_B_addPair : mx_Y := (⟨"MovieBoxes$Bytes", "addPair", "(I)V"⟩, bb_B_addPair, 2, none, 1)
abbrev bb_V_writePlaces : ByteArray := prog_4_method_16_code
abbrev Y_V_writePlaces : mx_Y := (⟨"MovieBoxes$Mover", "writePlaces", "(I)V"⟩, bb_V_writePlaces, 5, none, 2)
abbrev bb_B_become : ByteArray := prog_2_method_11_code
abbrev Y_B_become : mx_Y := (⟨"MovieBoxes$Bytes", "become", "(LMovieBoxes$Bytes;)V"⟩, bb_B_become, 2, none, 2)
abbrev bb_R_init : ByteArray := prog_9_method_1_code
abbrev Y_R_init : mx_Y := (⟨"MovieBoxesModel", "<init>", "()V"⟩, bb_R_init, 1, none, 1)
abbrev bb_R_append : ByteArray := prog_9_method_2_code
abbrev Y_R_append : mx_Y := (⟨"MovieBoxesModel", "append", "(JI)I"⟩, bb_R_append, 5, (some .int), 0)
abbrev bb_R_poke : ByteArray := prog_9_method_3_code
abbrev Y_R_poke : mx_Y := (⟨"MovieBoxesModel", "poke", "(II)I"⟩, bb_R_poke, 4, (some .int), 0)
abbrev bb_R_cut : ByteArray := prog_9_method_4_code
abbrev Y_R_cut : mx_Y := (⟨"MovieBoxesModel", "cut", "(I)Z"⟩, bb_R_cut, 2, (some .boolean), 0)
abbrev bb_R_length : ByteArray := prog_9_method_5_code
abbrev Y_R_length : mx_Y := (⟨"MovieBoxesModel", "length", "()I"⟩, bb_R_length, 1, (some .int), 0)
abbrev bb_R_peek : ByteArray := prog_9_method_6_code
abbrev Y_R_peek : mx_Y := (⟨"MovieBoxesModel", "peek", "(I)I"⟩, bb_R_peek, 2, (some .int), 0)
abbrev bb_R_check : ByteArray := prog_9_method_13_code
abbrev Y_R_check : mx_Y := (⟨"MovieBoxesModel", "check", "()I"⟩, bb_R_check, 7, (some .int), 4)
abbrev bb_R_read : ByteArray := prog_9_method_7_code
abbrev Y_R_read : mx_Y := (⟨"MovieBoxesModel", "read", "()I"⟩, bb_R_read, 5, (some .int), 1)
abbrev bb_R_readOne : ByteArray := prog_9_method_8_code
abbrev Y_R_readOne : mx_Y := (⟨"MovieBoxesModel", "readOne", "(III)Z"⟩, bb_R_readOne, 7, (some .boolean), 0)
abbrev bb_R_isHolder : ByteArray := prog_9_method_9_code
abbrev Y_R_isHolder : mx_Y := (⟨"MovieBoxesModel", "isHolder", "(I)Z"⟩, bb_R_isHolder, 2, (some .boolean), 0)
abbrev bb_R_kindsWrong : ByteArray := prog_9_method_14_code
abbrev Y_R_kindsWrong : mx_Y := (⟨"MovieBoxesModel", "kindsWrong", "()Z"⟩, bb_R_kindsWrong, 6, (some .boolean), 1)
abbrev bb_R_kindOf : ByteArray := prog_9_method_12_code
abbrev Y_R_kindOf : mx_Y := (⟨"MovieBoxesModel", "kindOf", "(I)I"⟩, bb_R_kindOf, 1, (some .int), 0)
abbrev bb_R_rowsWrong : ByteArray := prog_9_method_15_code
abbrev Y_R_rowsWrong : mx_Y := (⟨"MovieBoxesModel", "rowsWrong", "(II)Z"⟩, bb_R_rowsWrong, 10, (some .boolean), 1)
abbrev bb_R_payLength : ByteArray := prog_9_method_11_code
abbrev Y_R_payLength : mx_Y := (⟨"MovieBoxesModel", "payLength", "(I)I"⟩, bb_R_payLength, 2, (some .int), 0)
abbrev bb_R_pay : ByteArray := prog_9_method_10_code
abbrev Y_R_pay : mx_Y := (⟨"MovieBoxesModel", "pay", "(II)I"⟩, bb_R_pay, 3, (some .int), 0)
abbrev bb_R_countsWrong : ByteArray := prog_9_method_17_code
abbrev Y_R_countsWrong : mx_Y := (⟨"MovieBoxesModel", "countsWrong", "(I)Z"⟩, bb_R_countsWrong, 12, (some .boolean), 3)
abbrev bb_R_sampleCount : ByteArray := prog_9_method_18_code
abbrev Y_R_sampleCount : mx_Y := (⟨"MovieBoxesModel", "sampleCount", "(I)I"⟩, bb_R_sampleCount, 2, (some .int), 1)
abbrev bb_R_total : ByteArray := prog_9_method_16_code
abbrev Y_R_total : mx_Y := (⟨"MovieBoxesModel", "total", "(I)I"⟩, bb_R_total, 4, (some .int), 1)
abbrev bb_R_chunkCount : ByteArray := prog_9_method_21_code
abbrev Y_R_chunkCount : mx_Y := (⟨"MovieBoxesModel", "chunkCount", "(I)I"⟩, bb_R_chunkCount, 3, (some .int), 1)
abbrev bb_R_placesBox : ByteArray := prog_9_method_20_code
abbrev Y_R_placesBox : mx_Y := (⟨"MovieBoxesModel", "placesBox", "(I)I"⟩, bb_R_placesBox, 3, (some .int), 0)
abbrev bb_R_many : ByteArray := prog_9_method_24_code
abbrev Y_R_many : mx_Y := (⟨"MovieBoxesModel", "many", "(II)I"⟩, bb_R_many, 4, (some .int), 2)
abbrev bb_R_rowOf : ByteArray := prog_9_method_23_code
abbrev Y_R_rowOf : mx_Y := (⟨"MovieBoxesModel", "rowOf", "(II)I"⟩, bb_R_rowOf, 6, (some .int), 1)
abbrev bb_R_settle : ByteArray := prog_9_method_26_code
abbrev Y_R_settle : mx_Y := (⟨"MovieBoxesModel", "settle", "(I)Z"⟩, bb_R_settle, 8, (some .boolean), 3)
abbrev bb_R_sizeOf : ByteArray := prog_9_method_19_code
abbrev Y_R_sizeOf : mx_Y := (⟨"MovieBoxesModel", "sizeOf", "(II)I"⟩, bb_R_sizeOf, 5, (some .int), 1)
abbrev bb_R_chunkPlace : ByteArray := prog_9_method_22_code
abbrev Y_R_chunkPlace : mx_Y := (⟨"MovieBoxesModel", "chunkPlace", "(II)I"⟩, bb_R_chunkPlace, 4, (some .int), 1)
abbrev bb_R_dataBox : ByteArray := prog_9_method_25_code
abbrev Y_R_dataBox : mx_Y := (⟨"MovieBoxesModel", "dataBox", "(II)I"⟩, bb_R_dataBox, 4, (some .int), 0)
abbrev bb_R_boxes : ByteArray := prog_9_method_27_code
abbrev Y_R_boxes : mx_Y := (⟨"MovieBoxesModel", "boxes", "()I"⟩, bb_R_boxes, 2, (some .int), 2)
abbrev bb_R_box : ByteArray := prog_9_method_28_code
abbrev Y_R_box : mx_Y := (⟨"MovieBoxesModel", "box", "(II)I"⟩, bb_R_box, 4, (some .int), 2)
abbrev bb_R_tracks : ByteArray := prog_9_method_29_code
abbrev Y_R_tracks : mx_Y := (⟨"MovieBoxesModel", "tracks", "()I"⟩, bb_R_tracks, 2, (some .int), 5)
abbrev bb_R_samples : ByteArray := prog_9_method_31_code
abbrev Y_R_samples : mx_Y := (⟨"MovieBoxesModel", "samples", "(I)I"⟩, bb_R_samples, 2, (some .int), 6)
abbrev bb_R_isTrack : ByteArray := prog_9_method_30_code
abbrev Y_R_isTrack : mx_Y := (⟨"MovieBoxesModel", "isTrack", "(I)Z"⟩, bb_R_isTrack, 3, (some .boolean), 5)
abbrev bb_R_sample : ByteArray := prog_9_method_38_code
abbrev Y_R_sample : mx_Y := (⟨"MovieBoxesModel", "sample", "(III)I"⟩, bb_R_sample, 4, (some .int), 6)
abbrev bb_R_inChunk : ByteArray := prog_9_method_36_code
abbrev Y_R_inChunk : mx_Y := (⟨"MovieBoxesModel", "inChunk", "(III)I"⟩, bb_R_inChunk, 9, (some .int), 3)
abbrev bb_R_decodeTime : ByteArray := prog_9_method_35_code
abbrev Y_R_decodeTime : mx_Y := (⟨"MovieBoxesModel", "decodeTime", "(II)I"⟩, bb_R_decodeTime, 5, (some .int), 3)
abbrev bb_R_durationOf : ByteArray := prog_9_method_33_code
abbrev Y_R_durationOf : mx_Y := (⟨"MovieBoxesModel", "durationOf", "(II)I"⟩, bb_R_durationOf, 3, (some .int), 2)
abbrev bb_R_runValue : ByteArray := prog_9_method_32_code
abbrev Y_R_runValue : mx_Y := (⟨"MovieBoxesModel", "runValue", "(II)I"⟩, bb_R_runValue, 5, (some .int), 1)
abbrev bb_R_shiftOf : ByteArray := prog_9_method_34_code
abbrev Y_R_shiftOf : mx_Y := (⟨"MovieBoxesModel", "shiftOf", "(II)I"⟩, bb_R_shiftOf, 5, (some .int), 2)
abbrev bb_R_isSync : ByteArray := prog_9_method_37_code
abbrev Y_R_isSync : mx_Y := (⟨"MovieBoxesModel", "isSync", "(II)I"⟩, bb_R_isSync, 7, (some .int), 1)
abbrev bb_R_shown : ByteArray := prog_9_method_40_code
abbrev Y_R_shown : mx_Y := (⟨"MovieBoxesModel", "shown", "(II)I"⟩, bb_R_shown, 8, (some .int), 6)
abbrev bb_R_mediaTime : ByteArray := prog_9_method_39_code
abbrev Y_R_mediaTime : mx_Y := (⟨"MovieBoxesModel", "mediaTime", "(II)I"⟩, bb_R_mediaTime, 8, (some .int), 1)
abbrev bb_R_fastStart : ByteArray := prog_9_method_45_code
abbrev Y_R_fastStart : mx_Y := (⟨"MovieBoxesModel", "fastStart", "()I"⟩, bb_R_fastStart, 6, (some .int), 5)
abbrev bb_R_firstData : ByteArray := prog_9_method_44_code
abbrev Y_R_firstData : mx_Y := (⟨"MovieBoxesModel", "firstData", "()I"⟩, bb_R_firstData, 2, (some .int), 0)
abbrev bb_R_layout : ByteArray := prog_9_method_41_code
abbrev Y_R_layout : mx_Y := (⟨"MovieBoxesModel", "layout", "(I)I"⟩, bb_R_layout, 6, (some .int), 1)
abbrev bb_R_tooNarrow : ByteArray := prog_9_method_43_code
abbrev Y_R_tooNarrow : mx_Y := (⟨"MovieBoxesModel", "tooNarrow", "(I)I"⟩, bb_R_tooNarrow, 6, (some .int), 3)
abbrev bb_R_newPlace : ByteArray := prog_9_method_42_code
abbrev Y_R_newPlace : mx_Y := (⟨"MovieBoxesModel", "newPlace", "(III)I"⟩, bb_R_newPlace, 6, (some .int), 2)
abbrev bb_R_write : ByteArray := prog_9_method_47_code
abbrev Y_R_write : mx_Y := (⟨"MovieBoxesModel", "write", "(III)V"⟩, bb_R_write, 5, none, 4)
abbrev bb_R_put : ByteArray := prog_9_method_46_code
abbrev Y_R_put : mx_Y := (⟨"MovieBoxesModel", "put", "(I)V"⟩, bb_R_put, 2, none, 0)
abbrev bb_R_writeBox : ByteArray := prog_9_method_48_code
abbrev Y_R_writeBox : mx_Y := (⟨"MovieBoxesModel", "writeBox", "(III)V"⟩, bb_R_writeBox, 9, none, 3)
abbrev bb_W_law : ByteArray := code
abbrev Y_W_law : mx_Y := (⟨"MovieBoxesLaw", "law", "([I)Z"⟩, bb_W_law, 4, (some .boolean), 7)
end
section
theorem dc_M_init_0 : decode bb_M_init 0 = .ok (.aload_n 0, 1) := by decide +kernel
theorem dc_M_init_1 : decode bb_M_init 1 = .ok (.invokespecial 1, 3) := by decide +kernel
theorem dc_M_init_4 : decode bb_M_init 4 = .ok (.aload_n 0, 1) := by decide +kernel
theorem dc_M_init_5 : decode bb_M_init 5 = .ok (.new 7, 3) := by decide +kernel
theorem dc_M_init_8 : decode bb_M_init 8 = .ok (.dup, 1) := by decide +kernel
theorem dc_M_init_9 : decode bb_M_init 9 = .ok (.invokespecial 9, 3) := by decide +kernel
theorem dc_M_init_12 : decode bb_M_init 12 = .ok (.putfield 10, 3) := by decide +kernel
theorem dc_M_init_15 : decode bb_M_init 15 = .ok (.aload_n 0, 1) := by decide +kernel
theorem dc_M_init_16 : decode bb_M_init 16 = .ok (.new 16, 3) := by decide +kernel
theorem dc_M_init_19 : decode bb_M_init 19 = .ok (.dup, 1) := by decide +kernel
theorem dc_M_init_20 : decode bb_M_init 20 = .ok (.aload_n 0, 1) := by decide +kernel
theorem dc_M_init_21 : decode bb_M_init 21 = .ok (.getfield 10, 3) := by decide +kernel
theorem dc_M_init_24 : decode bb_M_init 24 = .ok (.invokespecial 18, 3) := by decide +kernel
theorem dc_M_init_27 : decode bb_M_init 27 = .ok (.putfield 21, 3) := by decide +kernel
theorem dc_M_init_30 : decode bb_M_init 30 = .ok (.aload_n 0, 1) := by decide +kernel
theorem dc_M_init_31 : decode bb_M_init 31 = .ok (.iconst 2, 1) := by decide +kernel
theorem dc_M_init_32 : decode bb_M_init 32 = .ok (.anewarray 25, 3) := by decide +kernel
theorem dc_M_init_35 : decode bb_M_init 35 = .ok (.putfield 27, 3) := by decide +kernel
theorem dc_M_init_38 : decode bb_M_init 38 = .ok (.iconst 0, 1) := by decide +kernel
theorem dc_M_init_39 : decode bb_M_init 39 = .ok (.istore_n 1, 1) := by decide +kernel
theorem dc_M_init_40 : decode bb_M_init 40 = .ok (.iload_n 1, 1) := by decide +kernel
theorem dc_M_init_41 : decode bb_M_init 41 = .ok (.iconst 2, 1) := by decide +kernel
theorem dc_M_init_42 : decode bb_M_init 42 = .ok (.if_icmp .ge 30, 3) := by decide +kernel
theorem dc_M_init_45 : decode bb_M_init 45 = .ok (.aload_n 0, 1) := by decide +kernel
theorem dc_M_init_46 : decode bb_M_init 46 = .ok (.getfield 27, 3) := by decide +kernel
theorem dc_M_init_49 : decode bb_M_init 49 = .ok (.iload_n 1, 1) := by decide +kernel
theorem dc_M_init_50 : decode bb_M_init 50 = .ok (.new 25, 3) := by decide +kernel
theorem dc_M_init_53 : decode bb_M_init 53 = .ok (.dup, 1) := by decide +kernel
theorem dc_M_init_54 : decode bb_M_init 54 = .ok (.aload_n 0, 1) := by decide +kernel
theorem dc_M_init_55 : decode bb_M_init 55 = .ok (.getfield 10, 3) := by decide +kernel
theorem dc_M_init_58 : decode bb_M_init 58 = .ok (.aload_n 0, 1) := by decide +kernel
theorem dc_M_init_59 : decode bb_M_init 59 = .ok (.getfield 21, 3) := by decide +kernel
theorem dc_M_init_62 : decode bb_M_init 62 = .ok (.invokespecial 31, 3) := by decide +kernel
theorem dc_M_init_65 : decode bb_M_init 65 = .ok (.aastore, 1) := by decide +kernel
theorem dc_M_init_66 : decode bb_M_init 66 = .ok (.iinc 1 1, 3) := by decide +kernel
theorem dc_M_init_69 : decode bb_M_init 69 = .ok (.goto (-29), 3) := by decide +kernel
theorem dc_M_init_72 : decode bb_M_init 72 = .ok (.aload_n 0, 1) := by decide +kernel
theorem dc_M_init_73 : decode bb_M_init 73 = .ok (.new 34, 3) := by decide +kernel
theorem dc_M_init_76 : decode bb_M_init 76 = .ok (.dup, 1) := by decide +kernel
theorem dc_M_init_77 : decode bb_M_init 77 = .ok (.aload_n 0, 1) := by decide +kernel
theorem dc_M_init_78 : decode bb_M_init 78 = .ok (.getfield 10, 3) := by decide +kernel
theorem dc_M_init_81 : decode bb_M_init 81 = .ok (.aload_n 0, 1) := by decide +kernel
theorem dc_M_init_82 : decode bb_M_init 82 = .ok (.getfield 21, 3) := by decide +kernel
theorem dc_M_init_85 : decode bb_M_init 85 = .ok (.invokespecial 36, 3) := by decide +kernel
theorem dc_M_init_88 : decode bb_M_init 88 = .ok (.putfield 37, 3) := by decide +kernel
theorem dc_M_init_91 : decode bb_M_init 91 = .ok (.aload_n 0, 1) := by decide +kernel
theorem dc_M_init_92 : decode bb_M_init 92 = .ok (.iconst 0, 1) := by decide +kernel
theorem dc_M_init_93 : decode bb_M_init 93 = .ok (.putfield 41, 3) := by decide +kernel
theorem dc_M_init_96 : decode bb_M_init 96 = .ok (.aload_n 0, 1) := by decide +kernel
theorem dc_M_init_97 : decode bb_M_init 97 = .ok (.iconst 0, 1) := by decide +kernel
theorem dc_M_init_98 : decode bb_M_init 98 = .ok (.putfield 45, 3) := by decide +kernel
theorem dc_M_init_101 : decode bb_M_init 101 = .ok (.aload_n 0, 1) := by decide +kernel
theorem dc_M_init_102 : decode bb_M_init 102 = .ok (.iconst 1, 1) := by decide +kernel
theorem dc_M_init_103 : decode bb_M_init 103 = .ok (.putfield 48, 3) := by decide +kernel
theorem dc_M_init_106 : decode bb_M_init 106 = .ok (.return_, 1) := by decide +kernel
theorem dc_B_init_0 : decode bb_B_init 0 = .ok (.aload_n 0, 1) := by decide +kernel
theorem dc_B_init_1 : decode bb_B_init 1 = .ok (.invokespecial 3, 3) := by decide +kernel
theorem dc_B_init_4 : decode bb_B_init 4 = .ok (.aload_n 0, 1) := by decide +kernel
theorem dc_B_init_5 : decode bb_B_init 5 = .ok (.sipush 1000, 3) := by decide +kernel
theorem dc_B_init_8 : decode bb_B_init 8 = .ok (.newarray .int, 2) := by decide +kernel
theorem dc_B_init_10 : decode bb_B_init 10 = .ok (.putfield 9, 3) := by decide +kernel
theorem dc_B_init_13 : decode bb_B_init 13 = .ok (.aload_n 0, 1) := by decide +kernel
theorem dc_B_init_14 : decode bb_B_init 14 = .ok (.iconst 0, 1) := by decide +kernel
theorem dc_B_init_15 : decode bb_B_init 15 = .ok (.putfield 15, 3) := by decide +kernel
theorem dc_B_init_18 : decode bb_B_init 18 = .ok (.return_, 1) := by decide +kernel
theorem dc_L_init_0 : decode bb_L_init 0 = .ok (.aload_n 0, 1) := by decide +kernel
theorem dc_L_init_1 : decode bb_L_init 1 = .ok (.invokespecial 3, 3) := by decide +kernel
theorem dc_L_init_4 : decode bb_L_init 4 = .ok (.aload_n 0, 1) := by decide +kernel
theorem dc_L_init_5 : decode bb_L_init 5 = .ok (.aload_n 1, 1) := by decide +kernel
theorem dc_L_init_6 : decode bb_L_init 6 = .ok (.putfield 9, 3) := by decide +kernel
theorem dc_L_init_9 : decode bb_L_init 9 = .ok (.aload_n 0, 1) := by decide +kernel
theorem dc_L_init_10 : decode bb_L_init 10 = .ok (.bipush 7, 2) := by decide +kernel
theorem dc_L_init_12 : decode bb_L_init 12 = .ok (.bipush 20, 2) := by decide +kernel
theorem dc_L_init_14 : decode bb_L_init 14 = .ok (.multianewarray 15 2, 4) := by decide +kernel
theorem dc_L_init_18 : decode bb_L_init 18 = .ok (.putfield 17, 3) := by decide +kernel
theorem dc_L_init_21 : decode bb_L_init 21 = .ok (.aload_n 0, 1) := by decide +kernel
theorem dc_L_init_22 : decode bb_L_init 22 = .ok (.iconst 0, 1) := by decide +kernel
theorem dc_L_init_23 : decode bb_L_init 23 = .ok (.putfield 20, 3) := by decide +kernel
theorem dc_L_init_26 : decode bb_L_init 26 = .ok (.return_, 1) := by decide +kernel
theorem dc_K_init_0 : decode bb_K_init 0 = .ok (.aload_n 0, 1) := by decide +kernel
theorem dc_K_init_1 : decode bb_K_init 1 = .ok (.invokespecial 3, 3) := by decide +kernel
theorem dc_K_init_4 : decode bb_K_init 4 = .ok (.aload_n 0, 1) := by decide +kernel
theorem dc_K_init_5 : decode bb_K_init 5 = .ok (.aload_n 2, 1) := by decide +kernel
theorem dc_K_init_6 : decode bb_K_init 6 = .ok (.putfield 9, 3) := by decide +kernel
theorem dc_K_init_9 : decode bb_K_init 9 = .ok (.aload_n 0, 1) := by decide +kernel
theorem dc_K_init_10 : decode bb_K_init 10 = .ok (.new 15, 3) := by decide +kernel
theorem dc_K_init_13 : decode bb_K_init 13 = .ok (.dup, 1) := by decide +kernel
theorem dc_K_init_14 : decode bb_K_init 14 = .ok (.aload_n 1, 1) := by decide +kernel
theorem dc_K_init_15 : decode bb_K_init 15 = .ok (.invokespecial 17, 3) := by decide +kernel
theorem dc_K_init_18 : decode bb_K_init 18 = .ok (.putfield 20, 3) := by decide +kernel
theorem dc_K_init_21 : decode bb_K_init 21 = .ok (.aload_n 0, 1) := by decide +kernel
theorem dc_K_init_22 : decode bb_K_init 22 = .ok (.new 15, 3) := by decide +kernel
theorem dc_K_init_25 : decode bb_K_init 25 = .ok (.dup, 1) := by decide +kernel
theorem dc_K_init_26 : decode bb_K_init 26 = .ok (.aload_n 1, 1) := by decide +kernel
theorem dc_K_init_27 : decode bb_K_init 27 = .ok (.invokespecial 17, 3) := by decide +kernel
theorem dc_K_init_30 : decode bb_K_init 30 = .ok (.putfield 24, 3) := by decide +kernel
theorem dc_K_init_33 : decode bb_K_init 33 = .ok (.aload_n 0, 1) := by decide +kernel
theorem dc_K_init_34 : decode bb_K_init 34 = .ok (.new 15, 3) := by decide +kernel
theorem dc_K_init_37 : decode bb_K_init 37 = .ok (.dup, 1) := by decide +kernel
theorem dc_K_init_38 : decode bb_K_init 38 = .ok (.aload_n 1, 1) := by decide +kernel
theorem dc_K_init_39 : decode bb_K_init 39 = .ok (.invokespecial 17, 3) := by decide +kernel
theorem dc_K_init_42 : decode bb_K_init 42 = .ok (.putfield 27, 3) := by decide +kernel
theorem dc_K_init_45 : decode bb_K_init 45 = .ok (.aload_n 0, 1) := by decide +kernel
theorem dc_K_init_46 : decode bb_K_init 46 = .ok (.new 15, 3) := by decide +kernel
theorem dc_K_init_49 : decode bb_K_init 49 = .ok (.dup, 1) := by decide +kernel
theorem dc_K_init_50 : decode bb_K_init 50 = .ok (.aload_n 1, 1) := by decide +kernel
theorem dc_K_init_51 : decode bb_K_init 51 = .ok (.invokespecial 17, 3) := by decide +kernel
theorem dc_K_init_54 : decode bb_K_init 54 = .ok (.putfield 30, 3) := by decide +kernel
theorem dc_K_init_57 : decode bb_K_init 57 = .ok (.aload_n 0, 1) := by decide +kernel
theorem dc_K_init_58 : decode bb_K_init 58 = .ok (.new 15, 3) := by decide +kernel
theorem dc_K_init_61 : decode bb_K_init 61 = .ok (.dup, 1) := by decide +kernel
theorem dc_K_init_62 : decode bb_K_init 62 = .ok (.aload_n 1, 1) := by decide +kernel
theorem dc_K_init_63 : decode bb_K_init 63 = .ok (.invokespecial 17, 3) := by decide +kernel
theorem dc_K_init_66 : decode bb_K_init 66 = .ok (.putfield 33, 3) := by decide +kernel
theorem dc_K_init_69 : decode bb_K_init 69 = .ok (.aload_n 0, 1) := by decide +kernel
theorem dc_K_init_70 : decode bb_K_init 70 = .ok (.new 15, 3) := by decide +kernel
theorem dc_K_init_73 : decode bb_K_init 73 = .ok (.dup, 1) := by decide +kernel
theorem dc_K_init_74 : decode bb_K_init 74 = .ok (.aload_n 1, 1) := by decide +kernel
theorem dc_K_init_75 : decode bb_K_init 75 = .ok (.invokespecial 17, 3) := by decide +kernel
theorem dc_K_init_78 : decode bb_K_init 78 = .ok (.putfield 36, 3) := by decide +kernel
theorem dc_K_init_81 : decode bb_K_init 81 = .ok (.aload_n 0, 1) := by decide +kernel
theorem dc_K_init_82 : decode bb_K_init 82 = .ok (.new 39, 3) := by decide +kernel
theorem dc_K_init_85 : decode bb_K_init 85 = .ok (.dup, 1) := by decide +kernel
theorem dc_K_init_86 : decode bb_K_init 86 = .ok (.aload_n 1, 1) := by decide +kernel
theorem dc_K_init_87 : decode bb_K_init 87 = .ok (.invokespecial 41, 3) := by decide +kernel
theorem dc_K_init_90 : decode bb_K_init 90 = .ok (.putfield 42, 3) := by decide +kernel
theorem dc_K_init_93 : decode bb_K_init 93 = .ok (.aload_n 0, 1) := by decide +kernel
theorem dc_K_init_94 : decode bb_K_init 94 = .ok (.bipush 7, 2) := by decide +kernel
theorem dc_K_init_96 : decode bb_K_init 96 = .ok (.sipush 255, 3) := by decide +kernel
theorem dc_K_init_99 : decode bb_K_init 99 = .ok (.multianewarray 46 2, 4) := by decide +kernel
theorem dc_K_init_103 : decode bb_K_init 103 = .ok (.putfield 48, 3) := by decide +kernel
theorem dc_K_init_106 : decode bb_K_init 106 = .ok (.aload_n 0, 1) := by decide +kernel
theorem dc_K_init_107 : decode bb_K_init 107 = .ok (.iconst 0, 1) := by decide +kernel
theorem dc_K_init_108 : decode bb_K_init 108 = .ok (.putfield 51, 3) := by decide +kernel
theorem dc_K_init_111 : decode bb_K_init 111 = .ok (.return_, 1) := by decide +kernel
theorem dc_T_init_0 : decode bb_T_init 0 = .ok (.aload_n 0, 1) := by decide +kernel
theorem dc_T_init_1 : decode bb_T_init 1 = .ok (.invokespecial 1, 3) := by decide +kernel
theorem dc_T_init_4 : decode bb_T_init 4 = .ok (.aload_n 0, 1) := by decide +kernel
theorem dc_T_init_5 : decode bb_T_init 5 = .ok (.aload_n 1, 1) := by decide +kernel
theorem dc_T_init_6 : decode bb_T_init 6 = .ok (.putfield 7, 3) := by decide +kernel
theorem dc_T_init_9 : decode bb_T_init 9 = .ok (.aload_n 0, 1) := by decide +kernel
theorem dc_T_init_10 : decode bb_T_init 10 = .ok (.iconst 0, 1) := by decide +kernel
theorem dc_T_init_11 : decode bb_T_init 11 = .ok (.putfield 13, 3) := by decide +kernel
theorem dc_T_init_14 : decode bb_T_init 14 = .ok (.aload_n 0, 1) := by decide +kernel
theorem dc_T_init_15 : decode bb_T_init 15 = .ok (.iconst 0, 1) := by decide +kernel
theorem dc_T_init_16 : decode bb_T_init 16 = .ok (.putfield 17, 3) := by decide +kernel
theorem dc_T_init_19 : decode bb_T_init 19 = .ok (.aload_n 0, 1) := by decide +kernel
theorem dc_T_init_20 : decode bb_T_init 20 = .ok (.iconst 0, 1) := by decide +kernel
theorem dc_T_init_21 : decode bb_T_init 21 = .ok (.putfield 21, 3) := by decide +kernel
theorem dc_T_init_24 : decode bb_T_init 24 = .ok (.aload_n 0, 1) := by decide +kernel
theorem dc_T_init_25 : decode bb_T_init 25 = .ok (.iconst 0, 1) := by decide +kernel
theorem dc_T_init_26 : decode bb_T_init 26 = .ok (.putfield 24, 3) := by decide +kernel
theorem dc_T_init_29 : decode bb_T_init 29 = .ok (.aload_n 0, 1) := by decide +kernel
theorem dc_T_init_30 : decode bb_T_init 30 = .ok (.iconst 0, 1) := by decide +kernel
theorem dc_T_init_31 : decode bb_T_init 31 = .ok (.putfield 27, 3) := by decide +kernel
theorem dc_T_init_34 : decode bb_T_init 34 = .ok (.return_, 1) := by decide +kernel
theorem dc_Z_init_0 : decode bb_Z_init 0 = .ok (.aload_n 0, 1) := by decide +kernel
theorem dc_Z_init_1 : decode bb_Z_init 1 = .ok (.invokespecial 1, 3) := by decide +kernel
theorem dc_Z_init_4 : decode bb_Z_init 4 = .ok (.aload_n 0, 1) := by decide +kernel
theorem dc_Z_init_5 : decode bb_Z_init 5 = .ok (.aload_n 1, 1) := by decide +kernel
theorem dc_Z_init_6 : decode bb_Z_init 6 = .ok (.putfield 7, 3) := by decide +kernel
theorem dc_Z_init_9 : decode bb_Z_init 9 = .ok (.aload_n 0, 1) := by decide +kernel
theorem dc_Z_init_10 : decode bb_Z_init 10 = .ok (.iconst 0, 1) := by decide +kernel
theorem dc_Z_init_11 : decode bb_Z_init 11 = .ok (.putfield 13, 3) := by decide +kernel
theorem dc_Z_init_14 : decode bb_Z_init 14 = .ok (.aload_n 0, 1) := by decide +kernel
theorem dc_Z_init_15 : decode bb_Z_init 15 = .ok (.iconst 0, 1) := by decide +kernel
theorem dc_Z_init_16 : decode bb_Z_init 16 = .ok (.putfield 17, 3) := by decide +kernel
theorem dc_Z_init_19 : decode bb_Z_init 19 = .ok (.aload_n 0, 1) := by decide +kernel
theorem dc_Z_init_20 : decode bb_Z_init 20 = .ok (.iconst 0, 1) := by decide +kernel
theorem dc_Z_init_21 : decode bb_Z_init 21 = .ok (.putfield 20, 3) := by decide +kernel
theorem dc_Z_init_24 : decode bb_Z_init 24 = .ok (.aload_n 0, 1) := by decide +kernel
theorem dc_Z_init_25 : decode bb_Z_init 25 = .ok (.iconst 0, 1) := by decide +kernel
theorem dc_Z_init_26 : decode bb_Z_init 26 = .ok (.putfield 23, 3) := by decide +kernel
theorem dc_Z_init_29 : decode bb_Z_init 29 = .ok (.return_, 1) := by decide +kernel
theorem dc_V_init_0 : decode bb_V_init 0 = .ok (.aload_n 0, 1) := by decide +kernel
theorem dc_V_init_1 : decode bb_V_init 1 = .ok (.invokespecial 3, 3) := by decide +kernel
theorem dc_V_init_4 : decode bb_V_init 4 = .ok (.aload_n 0, 1) := by decide +kernel
theorem dc_V_init_5 : decode bb_V_init 5 = .ok (.aload_n 1, 1) := by decide +kernel
theorem dc_V_init_6 : decode bb_V_init 6 = .ok (.putfield 9, 3) := by decide +kernel
theorem dc_V_init_9 : decode bb_V_init 9 = .ok (.aload_n 0, 1) := by decide +kernel
theorem dc_V_init_10 : decode bb_V_init 10 = .ok (.aload_n 2, 1) := by decide +kernel
theorem dc_V_init_11 : decode bb_V_init 11 = .ok (.putfield 15, 3) := by decide +kernel
theorem dc_V_init_14 : decode bb_V_init 14 = .ok (.aload_n 0, 1) := by decide +kernel
theorem dc_V_init_15 : decode bb_V_init 15 = .ok (.new 19, 3) := by decide +kernel
theorem dc_V_init_18 : decode bb_V_init 18 = .ok (.dup, 1) := by decide +kernel
theorem dc_V_init_19 : decode bb_V_init 19 = .ok (.invokespecial 21, 3) := by decide +kernel
theorem dc_V_init_22 : decode bb_V_init 22 = .ok (.putfield 22, 3) := by decide +kernel
theorem dc_V_init_25 : decode bb_V_init 25 = .ok (.aload_n 0, 1) := by decide +kernel
theorem dc_V_init_26 : decode bb_V_init 26 = .ok (.bipush 20, 2) := by decide +kernel
theorem dc_V_init_28 : decode bb_V_init 28 = .ok (.newarray .boolean, 2) := by decide +kernel
theorem dc_V_init_30 : decode bb_V_init 30 = .ok (.putfield 25, 3) := by decide +kernel
theorem dc_V_init_33 : decode bb_V_init 33 = .ok (.aload_n 0, 1) := by decide +kernel
theorem dc_V_init_34 : decode bb_V_init 34 = .ok (.bipush 20, 2) := by decide +kernel
theorem dc_V_init_36 : decode bb_V_init 36 = .ok (.newarray .int, 2) := by decide +kernel
theorem dc_V_init_38 : decode bb_V_init 38 = .ok (.putfield 29, 3) := by decide +kernel
theorem dc_V_init_41 : decode bb_V_init 41 = .ok (.aload_n 0, 1) := by decide +kernel
theorem dc_V_init_42 : decode bb_V_init 42 = .ok (.bipush 20, 2) := by decide +kernel
theorem dc_V_init_44 : decode bb_V_init 44 = .ok (.newarray .int, 2) := by decide +kernel
theorem dc_V_init_46 : decode bb_V_init 46 = .ok (.putfield 33, 3) := by decide +kernel
theorem dc_V_init_49 : decode bb_V_init 49 = .ok (.aload_n 0, 1) := by decide +kernel
theorem dc_V_init_50 : decode bb_V_init 50 = .ok (.iconst 0, 1) := by decide +kernel
theorem dc_V_init_51 : decode bb_V_init 51 = .ok (.putfield 36, 3) := by decide +kernel
theorem dc_V_init_54 : decode bb_V_init 54 = .ok (.aload_n 0, 1) := by decide +kernel
theorem dc_V_init_55 : decode bb_V_init 55 = .ok (.iconst 0, 1) := by decide +kernel
theorem dc_V_init_56 : decode bb_V_init 56 = .ok (.putfield 40, 3) := by decide +kernel
theorem dc_V_init_59 : decode bb_V_init 59 = .ok (.return_, 1) := by decide +kernel
theorem dc_M_append_0 : decode bb_M_append 0 = .ok (.iload_n 3, 1) := by decide +kernel
theorem dc_M_append_1 : decode bb_M_append 1 = .ok (.iconst 1, 1) := by decide +kernel
theorem dc_M_append_2 : decode bb_M_append 2 = .ok (.if_icmp .lt 9, 3) := by decide +kernel
theorem dc_M_append_5 : decode bb_M_append 5 = .ok (.iload_n 3, 1) := by decide +kernel
theorem dc_M_append_6 : decode bb_M_append 6 = .ok (.bipush 8, 2) := by decide +kernel
theorem dc_M_append_8 : decode bb_M_append 8 = .ok (.if_icmp .le 5, 3) := by decide +kernel
theorem dc_M_append_11 : decode bb_M_append 11 = .ok (.iconst (-1), 1) := by decide +kernel
theorem dc_M_append_12 : decode bb_M_append 12 = .ok (.ireturn, 1) := by decide +kernel
theorem dc_M_append_13 : decode bb_M_append 13 = .ok (.aload_n 0, 1) := by decide +kernel
theorem dc_M_append_14 : decode bb_M_append 14 = .ok (.getfield 10, 3) := by decide +kernel
theorem dc_M_append_17 : decode bb_M_append 17 = .ok (.invokevirtual 52, 3) := by decide +kernel
theorem dc_M_append_20 : decode bb_M_append 20 = .ok (.iload_n 3, 1) := by decide +kernel
theorem dc_M_append_21 : decode bb_M_append 21 = .ok (.iadd, 1) := by decide +kernel
theorem dc_M_append_22 : decode bb_M_append 22 = .ok (.sipush 1000, 3) := by decide +kernel
theorem dc_M_append_25 : decode bb_M_append 25 = .ok (.if_icmp .le 6, 3) := by decide +kernel
theorem dc_M_append_28 : decode bb_M_append 28 = .ok (.bipush (-2), 2) := by decide +kernel
theorem dc_M_append_30 : decode bb_M_append 30 = .ok (.ireturn, 1) := by decide +kernel
theorem dc_M_append_31 : decode bb_M_append 31 = .ok (.iload_n 3, 1) := by decide +kernel
theorem dc_M_append_32 : decode bb_M_append 32 = .ok (.iconst 1, 1) := by decide +kernel
theorem dc_M_append_33 : decode bb_M_append 33 = .ok (.isub, 1) := by decide +kernel
theorem dc_M_append_34 : decode bb_M_append 34 = .ok (.istore 4, 2) := by decide +kernel
theorem dc_M_append_36 : decode bb_M_append 36 = .ok (.iload 4, 2) := by decide +kernel
theorem dc_M_append_38 : decode bb_M_append 38 = .ok (.ifCond .lt 24, 3) := by decide +kernel
theorem dc_M_append_41 : decode bb_M_append 41 = .ok (.aload_n 0, 1) := by decide +kernel
theorem dc_M_append_42 : decode bb_M_append 42 = .ok (.getfield 10, 3) := by decide +kernel
theorem dc_M_append_45 : decode bb_M_append 45 = .ok (.lload_n 1, 1) := by decide +kernel
theorem dc_M_append_46 : decode bb_M_append 46 = .ok (.bipush 8, 2) := by decide +kernel
theorem dc_M_append_48 : decode bb_M_append 48 = .ok (.iload 4, 2) := by decide +kernel
theorem dc_M_append_50 : decode bb_M_append 50 = .ok (.imul, 1) := by decide +kernel
theorem dc_M_append_51 : decode bb_M_append 51 = .ok (.lshr, 1) := by decide +kernel
theorem dc_M_append_52 : decode bb_M_append 52 = .ok (.l2i, 1) := by decide +kernel
theorem dc_M_append_53 : decode bb_M_append 53 = .ok (.invokevirtual 56, 3) := by decide +kernel
theorem dc_M_append_56 : decode bb_M_append 56 = .ok (.iinc 4 (-1), 3) := by decide +kernel
theorem dc_M_append_59 : decode bb_M_append 59 = .ok (.goto (-23), 3) := by decide +kernel
theorem dc_M_append_62 : decode bb_M_append 62 = .ok (.aload_n 0, 1) := by decide +kernel
theorem dc_M_append_63 : decode bb_M_append 63 = .ok (.iconst 1, 1) := by decide +kernel
theorem dc_M_append_64 : decode bb_M_append 64 = .ok (.putfield 48, 3) := by decide +kernel
theorem dc_M_append_67 : decode bb_M_append 67 = .ok (.aload_n 0, 1) := by decide +kernel
theorem dc_M_append_68 : decode bb_M_append 68 = .ok (.getfield 10, 3) := by decide +kernel
theorem dc_M_append_71 : decode bb_M_append 71 = .ok (.invokevirtual 52, 3) := by decide +kernel
theorem dc_M_append_74 : decode bb_M_append 74 = .ok (.ireturn, 1) := by decide +kernel
theorem dc_B_size_0 : decode bb_B_size 0 = .ok (.aload_n 0, 1) := by decide +kernel
theorem dc_B_size_1 : decode bb_B_size 1 = .ok (.getfield 15, 3) := by decide +kernel
theorem dc_B_size_4 : decode bb_B_size 4 = .ok (.ireturn, 1) := by decide +kernel
theorem dc_B_add_0 : decode bb_B_add 0 = .ok (.aload_n 0, 1) := by decide +kernel
theorem dc_B_add_1 : decode bb_B_add 1 = .ok (.getfield 15, 3) := by decide +kernel
theorem dc_B_add_4 : decode bb_B_add 4 = .ok (.sipush 1000, 3) := by decide +kernel
theorem dc_B_add_7 : decode bb_B_add 7 = .ok (.if_icmp .ge 27, 3) := by decide +kernel
theorem dc_B_add_10 : decode bb_B_add 10 = .ok (.aload_n 0, 1) := by decide +kernel
theorem dc_B_add_11 : decode bb_B_add 11 = .ok (.getfield 9, 3) := by decide +kernel
theorem dc_B_add_14 : decode bb_B_add 14 = .ok (.aload_n 0, 1) := by decide +kernel
theorem dc_B_add_15 : decode bb_B_add 15 = .ok (.getfield 15, 3) := by decide +kernel
theorem dc_B_add_18 : decode bb_B_add 18 = .ok (.iload_n 1, 1) := by decide +kernel
theorem dc_B_add_19 : decode bb_B_add 19 = .ok (.sipush 255, 3) := by decide +kernel
theorem dc_B_add_22 : decode bb_B_add 22 = .ok (.iand, 1) := by decide +kernel
theorem dc_B_add_23 : decode bb_B_add 23 = .ok (.iastore, 1) := by decide +kernel
theorem dc_B_add_24 : decode bb_B_add 24 = .ok (.aload_n 0, 1) := by decide +kernel
theorem dc_B_add_25 : decode bb_B_add 25 = .ok (.dup, 1) := by decide +kernel
theorem dc_B_add_26 : decode bb_B_add 26 = .ok (.getfield 15, 3) := by decide +kernel
theorem dc_B_add_29 : decode bb_B_add 29 = .ok (.iconst 1, 1) := by decide +kernel
theorem dc_B_add_30 : decode bb_B_add 30 = .ok (.iadd, 1) := by decide +kernel
theorem dc_B_add_31 : decode bb_B_add 31 = .ok (.putfield 15, 3) := by decide +kernel
theorem dc_B_add_34 : decode bb_B_add 34 = .ok (.return_, 1) := by decide +kernel
theorem dc_M_poke_0 : decode bb_M_poke 0 = .ok (.aload_n 0, 1) := by decide +kernel
theorem dc_M_poke_1 : decode bb_M_poke 1 = .ok (.getfield 10, 3) := by decide +kernel
theorem dc_M_poke_4 : decode bb_M_poke 4 = .ok (.iload_n 1, 1) := by decide +kernel
theorem dc_M_poke_5 : decode bb_M_poke 5 = .ok (.invokevirtual 60, 3) := by decide +kernel
theorem dc_M_poke_8 : decode bb_M_poke 8 = .ok (.ifCond .eq 14, 3) := by decide +kernel
theorem dc_M_poke_11 : decode bb_M_poke 11 = .ok (.iload_n 2, 1) := by decide +kernel
theorem dc_M_poke_12 : decode bb_M_poke 12 = .ok (.ifCond .lt 10, 3) := by decide +kernel
theorem dc_M_poke_15 : decode bb_M_poke 15 = .ok (.iload_n 2, 1) := by decide +kernel
theorem dc_M_poke_16 : decode bb_M_poke 16 = .ok (.sipush 255, 3) := by decide +kernel
theorem dc_M_poke_19 : decode bb_M_poke 19 = .ok (.if_icmp .le 7, 3) := by decide +kernel
theorem dc_M_poke_22 : decode bb_M_poke 22 = .ok (.sipush (-1000), 3) := by decide +kernel
theorem dc_M_poke_25 : decode bb_M_poke 25 = .ok (.ireturn, 1) := by decide +kernel
theorem dc_M_poke_26 : decode bb_M_poke 26 = .ok (.aload_n 0, 1) := by decide +kernel
theorem dc_M_poke_27 : decode bb_M_poke 27 = .ok (.getfield 10, 3) := by decide +kernel
theorem dc_M_poke_30 : decode bb_M_poke 30 = .ok (.iload_n 1, 1) := by decide +kernel
theorem dc_M_poke_31 : decode bb_M_poke 31 = .ok (.invokevirtual 64, 3) := by decide +kernel
theorem dc_M_poke_34 : decode bb_M_poke 34 = .ok (.istore_n 3, 1) := by decide +kernel
theorem dc_M_poke_35 : decode bb_M_poke 35 = .ok (.aload_n 0, 1) := by decide +kernel
theorem dc_M_poke_36 : decode bb_M_poke 36 = .ok (.getfield 10, 3) := by decide +kernel
theorem dc_M_poke_39 : decode bb_M_poke 39 = .ok (.iload_n 1, 1) := by decide +kernel
theorem dc_M_poke_40 : decode bb_M_poke 40 = .ok (.iload_n 2, 1) := by decide +kernel
theorem dc_M_poke_41 : decode bb_M_poke 41 = .ok (.invokevirtual 68, 3) := by decide +kernel
theorem dc_M_poke_44 : decode bb_M_poke 44 = .ok (.aload_n 0, 1) := by decide +kernel
theorem dc_M_poke_45 : decode bb_M_poke 45 = .ok (.iconst 1, 1) := by decide +kernel
theorem dc_M_poke_46 : decode bb_M_poke 46 = .ok (.putfield 48, 3) := by decide +kernel
theorem dc_M_poke_49 : decode bb_M_poke 49 = .ok (.iload_n 3, 1) := by decide +kernel
theorem dc_M_poke_50 : decode bb_M_poke 50 = .ok (.ireturn, 1) := by decide +kernel
theorem dc_B_has_0 : decode bb_B_has 0 = .ok (.iload_n 1, 1) := by decide +kernel
theorem dc_B_has_1 : decode bb_B_has 1 = .ok (.ifCond .lt 15, 3) := by decide +kernel
theorem dc_B_has_4 : decode bb_B_has 4 = .ok (.iload_n 1, 1) := by decide +kernel
theorem dc_B_has_5 : decode bb_B_has 5 = .ok (.aload_n 0, 1) := by decide +kernel
theorem dc_B_has_6 : decode bb_B_has 6 = .ok (.getfield 15, 3) := by decide +kernel
theorem dc_B_has_9 : decode bb_B_has 9 = .ok (.if_icmp .ge 7, 3) := by decide +kernel
theorem dc_B_has_12 : decode bb_B_has 12 = .ok (.iconst 1, 1) := by decide +kernel
theorem dc_B_has_13 : decode bb_B_has 13 = .ok (.goto 4, 3) := by decide +kernel
theorem dc_B_has_16 : decode bb_B_has 16 = .ok (.iconst 0, 1) := by decide +kernel
theorem dc_B_has_17 : decode bb_B_has 17 = .ok (.ireturn, 1) := by decide +kernel
theorem dc_B_at_0 : decode bb_B_at 0 = .ok (.iload_n 1, 1) := by decide +kernel
theorem dc_B_at_1 : decode bb_B_at 1 = .ok (.ifCond .lt 20, 3) := by decide +kernel
theorem dc_B_at_4 : decode bb_B_at 4 = .ok (.iload_n 1, 1) := by decide +kernel
theorem dc_B_at_5 : decode bb_B_at 5 = .ok (.aload_n 0, 1) := by decide +kernel
theorem dc_B_at_6 : decode bb_B_at 6 = .ok (.getfield 15, 3) := by decide +kernel
theorem dc_B_at_9 : decode bb_B_at 9 = .ok (.if_icmp .ge 12, 3) := by decide +kernel
theorem dc_B_at_12 : decode bb_B_at 12 = .ok (.aload_n 0, 1) := by decide +kernel
theorem dc_B_at_13 : decode bb_B_at 13 = .ok (.getfield 9, 3) := by decide +kernel
theorem dc_B_at_16 : decode bb_B_at 16 = .ok (.iload_n 1, 1) := by decide +kernel
theorem dc_B_at_17 : decode bb_B_at 17 = .ok (.iaload, 1) := by decide +kernel
theorem dc_B_at_18 : decode bb_B_at 18 = .ok (.goto 6, 3) := by decide +kernel
theorem dc_B_at_21 : decode bb_B_at 21 = .ok (.sipush (-1000), 3) := by decide +kernel
theorem dc_B_at_24 : decode bb_B_at 24 = .ok (.ireturn, 1) := by decide +kernel
theorem dc_B_put_0 : decode bb_B_put 0 = .ok (.aload_n 0, 1) := by decide +kernel
theorem dc_B_put_1 : decode bb_B_put 1 = .ok (.iload_n 1, 1) := by decide +kernel
theorem dc_B_put_2 : decode bb_B_put 2 = .ok (.invokevirtual 19, 3) := by decide +kernel
theorem dc_B_put_5 : decode bb_B_put 5 = .ok (.ifCond .eq 14, 3) := by decide +kernel
theorem dc_B_put_8 : decode bb_B_put 8 = .ok (.aload_n 0, 1) := by decide +kernel
theorem dc_B_put_9 : decode bb_B_put 9 = .ok (.getfield 9, 3) := by decide +kernel
theorem dc_B_put_12 : decode bb_B_put 12 = .ok (.iload_n 1, 1) := by decide +kernel
theorem dc_B_put_13 : decode bb_B_put 13 = .ok (.iload_n 2, 1) := by decide +kernel
theorem dc_B_put_14 : decode bb_B_put 14 = .ok (.sipush 255, 3) := by decide +kernel
theorem dc_B_put_17 : decode bb_B_put 17 = .ok (.iand, 1) := by decide +kernel
theorem dc_B_put_18 : decode bb_B_put 18 = .ok (.iastore, 1) := by decide +kernel
theorem dc_B_put_19 : decode bb_B_put 19 = .ok (.return_, 1) := by decide +kernel
theorem dc_M_cut_0 : decode bb_M_cut 0 = .ok (.iload_n 1, 1) := by decide +kernel
theorem dc_M_cut_1 : decode bb_M_cut 1 = .ok (.ifCond .lt 14, 3) := by decide +kernel
theorem dc_M_cut_4 : decode bb_M_cut 4 = .ok (.iload_n 1, 1) := by decide +kernel
theorem dc_M_cut_5 : decode bb_M_cut 5 = .ok (.aload_n 0, 1) := by decide +kernel
theorem dc_M_cut_6 : decode bb_M_cut 6 = .ok (.getfield 10, 3) := by decide +kernel
theorem dc_M_cut_9 : decode bb_M_cut 9 = .ok (.invokevirtual 52, 3) := by decide +kernel
theorem dc_M_cut_12 : decode bb_M_cut 12 = .ok (.if_icmp .le 5, 3) := by decide +kernel
theorem dc_M_cut_15 : decode bb_M_cut 15 = .ok (.iconst 0, 1) := by decide +kernel
theorem dc_M_cut_16 : decode bb_M_cut 16 = .ok (.ireturn, 1) := by decide +kernel
theorem dc_M_cut_17 : decode bb_M_cut 17 = .ok (.aload_n 0, 1) := by decide +kernel
theorem dc_M_cut_18 : decode bb_M_cut 18 = .ok (.getfield 10, 3) := by decide +kernel
theorem dc_M_cut_21 : decode bb_M_cut 21 = .ok (.iload_n 1, 1) := by decide +kernel
theorem dc_M_cut_22 : decode bb_M_cut 22 = .ok (.invokevirtual 72, 3) := by decide +kernel
theorem dc_M_cut_25 : decode bb_M_cut 25 = .ok (.aload_n 0, 1) := by decide +kernel
theorem dc_M_cut_26 : decode bb_M_cut 26 = .ok (.iconst 1, 1) := by decide +kernel
theorem dc_M_cut_27 : decode bb_M_cut 27 = .ok (.putfield 48, 3) := by decide +kernel
theorem dc_M_cut_30 : decode bb_M_cut 30 = .ok (.iconst 1, 1) := by decide +kernel
theorem dc_M_cut_31 : decode bb_M_cut 31 = .ok (.ireturn, 1) := by decide +kernel
theorem dc_B_keep_0 : decode bb_B_keep 0 = .ok (.iload_n 1, 1) := by decide +kernel
theorem dc_B_keep_1 : decode bb_B_keep 1 = .ok (.ifCond .lt 16, 3) := by decide +kernel
theorem dc_B_keep_4 : decode bb_B_keep 4 = .ok (.iload_n 1, 1) := by decide +kernel
theorem dc_B_keep_5 : decode bb_B_keep 5 = .ok (.aload_n 0, 1) := by decide +kernel
theorem dc_B_keep_6 : decode bb_B_keep 6 = .ok (.getfield 15, 3) := by decide +kernel
theorem dc_B_keep_9 : decode bb_B_keep 9 = .ok (.if_icmp .gt 8, 3) := by decide +kernel
theorem dc_B_keep_12 : decode bb_B_keep 12 = .ok (.aload_n 0, 1) := by decide +kernel
theorem dc_B_keep_13 : decode bb_B_keep 13 = .ok (.iload_n 1, 1) := by decide +kernel
theorem dc_B_keep_14 : decode bb_B_keep 14 = .ok (.putfield 15, 3) := by decide +kernel
theorem dc_B_keep_17 : decode bb_B_keep 17 = .ok (.return_, 1) := by decide +kernel
theorem dc_M_length_0 : decode bb_M_length 0 = .ok (.aload_n 0, 1) := by decide +kernel
theorem dc_M_length_1 : decode bb_M_length 1 = .ok (.getfield 10, 3) := by decide +kernel
theorem dc_M_length_4 : decode bb_M_length 4 = .ok (.invokevirtual 52, 3) := by decide +kernel
theorem dc_M_length_7 : decode bb_M_length 7 = .ok (.ireturn, 1) := by decide +kernel
theorem dc_M_peek_0 : decode bb_M_peek 0 = .ok (.aload_n 0, 1) := by decide +kernel
theorem dc_M_peek_1 : decode bb_M_peek 1 = .ok (.getfield 10, 3) := by decide +kernel
theorem dc_M_peek_4 : decode bb_M_peek 4 = .ok (.iload_n 1, 1) := by decide +kernel
theorem dc_M_peek_5 : decode bb_M_peek 5 = .ok (.invokevirtual 64, 3) := by decide +kernel
theorem dc_M_peek_8 : decode bb_M_peek 8 = .ok (.ireturn, 1) := by decide +kernel
theorem dc_M_check_0 : decode bb_M_check 0 = .ok (.aload_n 0, 1) := by decide +kernel
theorem dc_M_check_1 : decode bb_M_check 1 = .ok (.invokevirtual 75, 3) := by decide +kernel
theorem dc_M_check_4 : decode bb_M_check 4 = .ok (.aload_n 0, 1) := by decide +kernel
theorem dc_M_check_5 : decode bb_M_check 5 = .ok (.getfield 45, 3) := by decide +kernel
theorem dc_M_check_8 : decode bb_M_check 8 = .ok (.ireturn, 1) := by decide +kernel
theorem dc_M_look_0 : decode bb_M_look 0 = .ok (.aload_n 0, 1) := by decide +kernel
theorem dc_M_look_1 : decode bb_M_look 1 = .ok (.getfield 48, 3) := by decide +kernel
theorem dc_M_look_4 : decode bb_M_look 4 = .ok (.ifCond .ne 4, 3) := by decide +kernel
theorem dc_M_look_7 : decode bb_M_look 7 = .ok (.return_, 1) := by decide +kernel
theorem dc_M_look_8 : decode bb_M_look 8 = .ok (.aload_n 0, 1) := by decide +kernel
theorem dc_M_look_9 : decode bb_M_look 9 = .ok (.iconst 0, 1) := by decide +kernel
theorem dc_M_look_10 : decode bb_M_look 10 = .ok (.putfield 48, 3) := by decide +kernel
theorem dc_M_look_13 : decode bb_M_look 13 = .ok (.aload_n 0, 1) := by decide +kernel
theorem dc_M_look_14 : decode bb_M_look 14 = .ok (.iconst 0, 1) := by decide +kernel
theorem dc_M_look_15 : decode bb_M_look 15 = .ok (.putfield 41, 3) := by decide +kernel
theorem dc_M_look_18 : decode bb_M_look 18 = .ok (.aload_n 0, 1) := by decide +kernel
theorem dc_M_look_19 : decode bb_M_look 19 = .ok (.aload_n 0, 1) := by decide +kernel
theorem dc_M_look_20 : decode bb_M_look 20 = .ok (.getfield 21, 3) := by decide +kernel
theorem dc_M_look_23 : decode bb_M_look 23 = .ok (.invokevirtual 104, 3) := by decide +kernel
theorem dc_M_look_26 : decode bb_M_look 26 = .ok (.putfield 45, 3) := by decide +kernel
theorem dc_M_look_29 : decode bb_M_look 29 = .ok (.aload_n 0, 1) := by decide +kernel
theorem dc_M_look_30 : decode bb_M_look 30 = .ok (.getfield 45, 3) := by decide +kernel
theorem dc_M_look_33 : decode bb_M_look 33 = .ok (.ifCond .ne 18, 3) := by decide +kernel
theorem dc_M_look_36 : decode bb_M_look 36 = .ok (.aload_n 0, 1) := by decide +kernel
theorem dc_M_look_37 : decode bb_M_look 37 = .ok (.getfield 21, 3) := by decide +kernel
theorem dc_M_look_40 : decode bb_M_look 40 = .ok (.invokevirtual 107, 3) := by decide +kernel
theorem dc_M_look_43 : decode bb_M_look 43 = .ok (.ifCond .ne 8, 3) := by decide +kernel
theorem dc_M_look_46 : decode bb_M_look 46 = .ok (.aload_n 0, 1) := by decide +kernel
theorem dc_M_look_47 : decode bb_M_look 47 = .ok (.iconst 3, 1) := by decide +kernel
theorem dc_M_look_48 : decode bb_M_look 48 = .ok (.putfield 45, 3) := by decide +kernel
theorem dc_M_look_51 : decode bb_M_look 51 = .ok (.aload_n 0, 1) := by decide +kernel
theorem dc_M_look_52 : decode bb_M_look 52 = .ok (.getfield 45, 3) := by decide +kernel
theorem dc_M_look_55 : decode bb_M_look 55 = .ok (.ifCond .ne 15, 3) := by decide +kernel
theorem dc_M_look_58 : decode bb_M_look 58 = .ok (.aload_n 0, 1) := by decide +kernel
theorem dc_M_look_59 : decode bb_M_look 59 = .ok (.invokevirtual 110, 3) := by decide +kernel
theorem dc_M_look_62 : decode bb_M_look 62 = .ok (.aload_n 0, 1) := by decide +kernel
theorem dc_M_look_63 : decode bb_M_look 63 = .ok (.aload_n 0, 1) := by decide +kernel
theorem dc_M_look_64 : decode bb_M_look 64 = .ok (.invokevirtual 113, 3) := by decide +kernel
theorem dc_M_look_67 : decode bb_M_look 67 = .ok (.putfield 45, 3) := by decide +kernel
theorem dc_M_look_70 : decode bb_M_look 70 = .ok (.iconst 0, 1) := by decide +kernel
theorem dc_M_look_71 : decode bb_M_look 71 = .ok (.istore_n 1, 1) := by decide +kernel
theorem dc_M_look_72 : decode bb_M_look 72 = .ok (.iload_n 1, 1) := by decide +kernel
theorem dc_M_look_73 : decode bb_M_look 73 = .ok (.aload_n 0, 1) := by decide +kernel
theorem dc_M_look_74 : decode bb_M_look 74 = .ok (.getfield 41, 3) := by decide +kernel
theorem dc_M_look_77 : decode bb_M_look 77 = .ok (.if_icmp .ge 25, 3) := by decide +kernel
theorem dc_M_look_80 : decode bb_M_look 80 = .ok (.aload_n 0, 1) := by decide +kernel
theorem dc_M_look_81 : decode bb_M_look 81 = .ok (.getfield 45, 3) := by decide +kernel
theorem dc_M_look_84 : decode bb_M_look 84 = .ok (.ifCond .ne 18, 3) := by decide +kernel
theorem dc_M_look_87 : decode bb_M_look 87 = .ok (.aload_n 0, 1) := by decide +kernel
theorem dc_M_look_88 : decode bb_M_look 88 = .ok (.getfield 27, 3) := by decide +kernel
theorem dc_M_look_91 : decode bb_M_look 91 = .ok (.iload_n 1, 1) := by decide +kernel
theorem dc_M_look_92 : decode bb_M_look 92 = .ok (.aaload, 1) := by decide +kernel
theorem dc_M_look_93 : decode bb_M_look 93 = .ok (.invokevirtual 116, 3) := by decide +kernel
theorem dc_M_look_96 : decode bb_M_look 96 = .ok (.iinc 1 1, 3) := by decide +kernel
theorem dc_M_look_99 : decode bb_M_look 99 = .ok (.goto (-27), 3) := by decide +kernel
theorem dc_M_look_102 : decode bb_M_look 102 = .ok (.return_, 1) := by decide +kernel
theorem dc_L_read_0 : decode bb_L_read 0 = .ok (.aload_n 0, 1) := by decide +kernel
theorem dc_L_read_1 : decode bb_L_read 1 = .ok (.iconst 0, 1) := by decide +kernel
theorem dc_L_read_2 : decode bb_L_read 2 = .ok (.putfield 20, 3) := by decide +kernel
theorem dc_L_read_5 : decode bb_L_read 5 = .ok (.iconst 0, 1) := by decide +kernel
theorem dc_L_read_6 : decode bb_L_read 6 = .ok (.istore_n 1, 1) := by decide +kernel
theorem dc_L_read_7 : decode bb_L_read 7 = .ok (.iconst (-1), 1) := by decide +kernel
theorem dc_L_read_8 : decode bb_L_read 8 = .ok (.istore_n 2, 1) := by decide +kernel
theorem dc_L_read_9 : decode bb_L_read 9 = .ok (.iconst 0, 1) := by decide +kernel
theorem dc_L_read_10 : decode bb_L_read 10 = .ok (.istore_n 3, 1) := by decide +kernel
theorem dc_L_read_11 : decode bb_L_read 11 = .ok (.iload_n 3, 1) := by decide +kernel
theorem dc_L_read_12 : decode bb_L_read 12 = .ok (.bipush 20, 2) := by decide +kernel
theorem dc_L_read_14 : decode bb_L_read 14 = .ok (.if_icmp .gt 121, 3) := by decide +kernel
theorem dc_L_read_17 : decode bb_L_read 17 = .ok (.aload_n 0, 1) := by decide +kernel
theorem dc_L_read_18 : decode bb_L_read 18 = .ok (.iload_n 2, 1) := by decide +kernel
theorem dc_L_read_19 : decode bb_L_read 19 = .ok (.iload_n 1, 1) := by decide +kernel
theorem dc_L_read_20 : decode bb_L_read 20 = .ok (.invokevirtual 28, 3) := by decide +kernel
theorem dc_L_read_23 : decode bb_L_read 23 = .ok (.istore_n 2, 1) := by decide +kernel
theorem dc_L_read_24 : decode bb_L_read 24 = .ok (.iload_n 2, 1) := by decide +kernel
theorem dc_L_read_25 : decode bb_L_read 25 = .ok (.iconst (-1), 1) := by decide +kernel
theorem dc_L_read_26 : decode bb_L_read 26 = .ok (.if_icmp .ne 13, 3) := by decide +kernel
theorem dc_L_read_29 : decode bb_L_read 29 = .ok (.aload_n 0, 1) := by decide +kernel
theorem dc_L_read_30 : decode bb_L_read 30 = .ok (.getfield 9, 3) := by decide +kernel
theorem dc_L_read_33 : decode bb_L_read 33 = .ok (.invokevirtual 31, 3) := by decide +kernel
theorem dc_L_read_36 : decode bb_L_read 36 = .ok (.goto 8, 3) := by decide +kernel
theorem dc_L_read_39 : decode bb_L_read 39 = .ok (.aload_n 0, 1) := by decide +kernel
theorem dc_L_read_40 : decode bb_L_read 40 = .ok (.iload_n 2, 1) := by decide +kernel
theorem dc_L_read_41 : decode bb_L_read 41 = .ok (.invokevirtual 37, 3) := by decide +kernel
theorem dc_L_read_44 : decode bb_L_read 44 = .ok (.istore 4, 2) := by decide +kernel
theorem dc_L_read_46 : decode bb_L_read 46 = .ok (.iload_n 1, 1) := by decide +kernel
theorem dc_L_read_47 : decode bb_L_read 47 = .ok (.iload 4, 2) := by decide +kernel
theorem dc_L_read_49 : decode bb_L_read 49 = .ok (.if_icmp .lt 5, 3) := by decide +kernel
theorem dc_L_read_52 : decode bb_L_read 52 = .ok (.iconst 0, 1) := by decide +kernel
theorem dc_L_read_53 : decode bb_L_read 53 = .ok (.ireturn, 1) := by decide +kernel
theorem dc_L_read_54 : decode bb_L_read 54 = .ok (.aload_n 0, 1) := by decide +kernel
theorem dc_L_read_55 : decode bb_L_read 55 = .ok (.getfield 20, 3) := by decide +kernel
theorem dc_L_read_58 : decode bb_L_read 58 = .ok (.bipush 20, 2) := by decide +kernel
theorem dc_L_read_60 : decode bb_L_read 60 = .ok (.if_icmp .lt 5, 3) := by decide +kernel
theorem dc_L_read_63 : decode bb_L_read 63 = .ok (.iconst 2, 1) := by decide +kernel
theorem dc_L_read_64 : decode bb_L_read 64 = .ok (.ireturn, 1) := by decide +kernel
theorem dc_L_read_65 : decode bb_L_read 65 = .ok (.aload_n 0, 1) := by decide +kernel
theorem dc_L_read_66 : decode bb_L_read 66 = .ok (.iload_n 1, 1) := by decide +kernel
theorem dc_L_read_67 : decode bb_L_read 67 = .ok (.iload 4, 2) := by decide +kernel
theorem dc_L_read_69 : decode bb_L_read 69 = .ok (.iload_n 1, 1) := by decide +kernel
theorem dc_L_read_70 : decode bb_L_read 70 = .ok (.isub, 1) := by decide +kernel
theorem dc_L_read_71 : decode bb_L_read 71 = .ok (.iload_n 2, 1) := by decide +kernel
theorem dc_L_read_72 : decode bb_L_read 72 = .ok (.invokevirtual 41, 3) := by decide +kernel
theorem dc_L_read_75 : decode bb_L_read 75 = .ok (.ifCond .ne 5, 3) := by decide +kernel
theorem dc_L_read_78 : decode bb_L_read 78 = .ok (.iconst 1, 1) := by decide +kernel
theorem dc_L_read_79 : decode bb_L_read 79 = .ok (.ireturn, 1) := by decide +kernel
theorem dc_L_read_80 : decode bb_L_read 80 = .ok (.aload_n 0, 1) := by decide +kernel
theorem dc_L_read_81 : decode bb_L_read 81 = .ok (.getfield 20, 3) := by decide +kernel
theorem dc_L_read_84 : decode bb_L_read 84 = .ok (.iconst 1, 1) := by decide +kernel
theorem dc_L_read_85 : decode bb_L_read 85 = .ok (.isub, 1) := by decide +kernel
theorem dc_L_read_86 : decode bb_L_read 86 = .ok (.istore 5, 2) := by decide +kernel
theorem dc_L_read_88 : decode bb_L_read 88 = .ok (.aload_n 0, 1) := by decide +kernel
theorem dc_L_read_89 : decode bb_L_read 89 = .ok (.iload 5, 2) := by decide +kernel
theorem dc_L_read_91 : decode bb_L_read 91 = .ok (.invokevirtual 45, 3) := by decide +kernel
theorem dc_L_read_94 : decode bb_L_read 94 = .ok (.istore 6, 2) := by decide +kernel
theorem dc_L_read_96 : decode bb_L_read 96 = .ok (.iload 6, 2) := by decide +kernel
theorem dc_L_read_98 : decode bb_L_read 98 = .ok (.ifCond .eq 8, 3) := by decide +kernel
theorem dc_L_read_101 : decode bb_L_read 101 = .ok (.iload 5, 2) := by decide +kernel
theorem dc_L_read_103 : decode bb_L_read 103 = .ok (.goto 4, 3) := by decide +kernel
theorem dc_L_read_106 : decode bb_L_read 106 = .ok (.iload_n 2, 1) := by decide +kernel
theorem dc_L_read_107 : decode bb_L_read 107 = .ok (.istore_n 2, 1) := by decide +kernel
theorem dc_L_read_108 : decode bb_L_read 108 = .ok (.iload 6, 2) := by decide +kernel
theorem dc_L_read_110 : decode bb_L_read 110 = .ok (.ifCond .eq 12, 3) := by decide +kernel
theorem dc_L_read_113 : decode bb_L_read 113 = .ok (.aload_n 0, 1) := by decide +kernel
theorem dc_L_read_114 : decode bb_L_read 114 = .ok (.iload 5, 2) := by decide +kernel
theorem dc_L_read_116 : decode bb_L_read 116 = .ok (.invokevirtual 49, 3) := by decide +kernel
theorem dc_L_read_119 : decode bb_L_read 119 = .ok (.goto 9, 3) := by decide +kernel
theorem dc_L_read_122 : decode bb_L_read 122 = .ok (.aload_n 0, 1) := by decide +kernel
theorem dc_L_read_123 : decode bb_L_read 123 = .ok (.iload 5, 2) := by decide +kernel
theorem dc_L_read_125 : decode bb_L_read 125 = .ok (.invokevirtual 37, 3) := by decide +kernel
theorem dc_L_read_128 : decode bb_L_read 128 = .ok (.istore_n 1, 1) := by decide +kernel
theorem dc_L_read_129 : decode bb_L_read 129 = .ok (.iinc 3 1, 3) := by decide +kernel
theorem dc_L_read_132 : decode bb_L_read 132 = .ok (.goto (-121), 3) := by decide +kernel
theorem dc_L_read_135 : decode bb_L_read 135 = .ok (.iconst 2, 1) := by decide +kernel
theorem dc_L_read_136 : decode bb_L_read 136 = .ok (.ireturn, 1) := by decide +kernel
theorem dc_L_openHolder_0 : decode bb_L_openHolder 0 = .ok (.iload_n 1, 1) := by decide +kernel
theorem dc_L_openHolder_1 : decode bb_L_openHolder 1 = .ok (.istore_n 3, 1) := by decide +kernel
theorem dc_L_openHolder_2 : decode bb_L_openHolder 2 = .ok (.iconst 0, 1) := by decide +kernel
theorem dc_L_openHolder_3 : decode bb_L_openHolder 3 = .ok (.istore 4, 2) := by decide +kernel
theorem dc_L_openHolder_5 : decode bb_L_openHolder 5 = .ok (.iload 4, 2) := by decide +kernel
theorem dc_L_openHolder_7 : decode bb_L_openHolder 7 = .ok (.iconst 2, 1) := by decide +kernel
theorem dc_L_openHolder_8 : decode bb_L_openHolder 8 = .ok (.if_icmp .ge 30, 3) := by decide +kernel
theorem dc_L_openHolder_11 : decode bb_L_openHolder 11 = .ok (.iload_n 3, 1) := by decide +kernel
theorem dc_L_openHolder_12 : decode bb_L_openHolder 12 = .ok (.iconst (-1), 1) := by decide +kernel
theorem dc_L_openHolder_13 : decode bb_L_openHolder 13 = .ok (.if_icmp .eq 25, 3) := by decide +kernel
theorem dc_L_openHolder_16 : decode bb_L_openHolder 16 = .ok (.iload_n 2, 1) := by decide +kernel
theorem dc_L_openHolder_17 : decode bb_L_openHolder 17 = .ok (.aload_n 0, 1) := by decide +kernel
theorem dc_L_openHolder_18 : decode bb_L_openHolder 18 = .ok (.iload_n 3, 1) := by decide +kernel
theorem dc_L_openHolder_19 : decode bb_L_openHolder 19 = .ok (.invokevirtual 37, 3) := by decide +kernel
theorem dc_L_openHolder_22 : decode bb_L_openHolder 22 = .ok (.if_icmp .lt 16, 3) := by decide +kernel
theorem dc_L_openHolder_25 : decode bb_L_openHolder 25 = .ok (.aload_n 0, 1) := by decide +kernel
theorem dc_L_openHolder_26 : decode bb_L_openHolder 26 = .ok (.iload_n 3, 1) := by decide +kernel
theorem dc_L_openHolder_27 : decode bb_L_openHolder 27 = .ok (.iconst 5, 1) := by decide +kernel
theorem dc_L_openHolder_28 : decode bb_L_openHolder 28 = .ok (.invokevirtual 24, 3) := by decide +kernel
theorem dc_L_openHolder_31 : decode bb_L_openHolder 31 = .ok (.istore_n 3, 1) := by decide +kernel
theorem dc_L_openHolder_32 : decode bb_L_openHolder 32 = .ok (.iinc 4 1, 3) := by decide +kernel
theorem dc_L_openHolder_35 : decode bb_L_openHolder 35 = .ok (.goto (-30), 3) := by decide +kernel
theorem dc_L_openHolder_38 : decode bb_L_openHolder 38 = .ok (.iload_n 3, 1) := by decide +kernel
theorem dc_L_openHolder_39 : decode bb_L_openHolder 39 = .ok (.ireturn, 1) := by decide +kernel
theorem dc_L_endOf_0 : decode bb_L_endOf 0 = .ok (.iload_n 1, 1) := by decide +kernel
theorem dc_L_endOf_1 : decode bb_L_endOf 1 = .ok (.ifCond .lt 31, 3) := by decide +kernel
theorem dc_L_endOf_4 : decode bb_L_endOf 4 = .ok (.iload_n 1, 1) := by decide +kernel
theorem dc_L_endOf_5 : decode bb_L_endOf 5 = .ok (.aload_n 0, 1) := by decide +kernel
theorem dc_L_endOf_6 : decode bb_L_endOf 6 = .ok (.getfield 20, 3) := by decide +kernel
theorem dc_L_endOf_9 : decode bb_L_endOf 9 = .ok (.if_icmp .ge 23, 3) := by decide +kernel
theorem dc_L_endOf_12 : decode bb_L_endOf 12 = .ok (.aload_n 0, 1) := by decide +kernel
theorem dc_L_endOf_13 : decode bb_L_endOf 13 = .ok (.getfield 17, 3) := by decide +kernel
theorem dc_L_endOf_16 : decode bb_L_endOf 16 = .ok (.iconst 0, 1) := by decide +kernel
theorem dc_L_endOf_17 : decode bb_L_endOf 17 = .ok (.aaload, 1) := by decide +kernel
theorem dc_L_endOf_18 : decode bb_L_endOf 18 = .ok (.iload_n 1, 1) := by decide +kernel
theorem dc_L_endOf_19 : decode bb_L_endOf 19 = .ok (.iaload, 1) := by decide +kernel
theorem dc_L_endOf_20 : decode bb_L_endOf 20 = .ok (.aload_n 0, 1) := by decide +kernel
theorem dc_L_endOf_21 : decode bb_L_endOf 21 = .ok (.getfield 17, 3) := by decide +kernel
theorem dc_L_endOf_24 : decode bb_L_endOf 24 = .ok (.iconst 1, 1) := by decide +kernel
theorem dc_L_endOf_25 : decode bb_L_endOf 25 = .ok (.aaload, 1) := by decide +kernel
theorem dc_L_endOf_26 : decode bb_L_endOf 26 = .ok (.iload_n 1, 1) := by decide +kernel
theorem dc_L_endOf_27 : decode bb_L_endOf 27 = .ok (.iaload, 1) := by decide +kernel
theorem dc_L_endOf_28 : decode bb_L_endOf 28 = .ok (.iadd, 1) := by decide +kernel
theorem dc_L_endOf_29 : decode bb_L_endOf 29 = .ok (.goto 6, 3) := by decide +kernel
theorem dc_L_endOf_32 : decode bb_L_endOf 32 = .ok (.sipush (-1000), 3) := by decide +kernel
theorem dc_L_endOf_35 : decode bb_L_endOf 35 = .ok (.ireturn, 1) := by decide +kernel
theorem dc_L_of_0 : decode bb_L_of 0 = .ok (.iload_n 1, 1) := by decide +kernel
theorem dc_L_of_1 : decode bb_L_of 1 = .ok (.ifCond .lt 21, 3) := by decide +kernel
theorem dc_L_of_4 : decode bb_L_of 4 = .ok (.iload_n 1, 1) := by decide +kernel
theorem dc_L_of_5 : decode bb_L_of 5 = .ok (.aload_n 0, 1) := by decide +kernel
theorem dc_L_of_6 : decode bb_L_of 6 = .ok (.getfield 20, 3) := by decide +kernel
theorem dc_L_of_9 : decode bb_L_of 9 = .ok (.if_icmp .ge 13, 3) := by decide +kernel
theorem dc_L_of_12 : decode bb_L_of 12 = .ok (.iload_n 2, 1) := by decide +kernel
theorem dc_L_of_13 : decode bb_L_of 13 = .ok (.ifCond .lt 9, 3) := by decide +kernel
theorem dc_L_of_16 : decode bb_L_of 16 = .ok (.iload_n 2, 1) := by decide +kernel
theorem dc_L_of_17 : decode bb_L_of 17 = .ok (.bipush 7, 2) := by decide +kernel
theorem dc_L_of_19 : decode bb_L_of 19 = .ok (.if_icmp .lt 7, 3) := by decide +kernel
theorem dc_L_of_22 : decode bb_L_of 22 = .ok (.sipush (-1000), 3) := by decide +kernel
theorem dc_L_of_25 : decode bb_L_of 25 = .ok (.ireturn, 1) := by decide +kernel
theorem dc_L_of_26 : decode bb_L_of 26 = .ok (.aload_n 0, 1) := by decide +kernel
theorem dc_L_of_27 : decode bb_L_of 27 = .ok (.getfield 17, 3) := by decide +kernel
theorem dc_L_of_30 : decode bb_L_of 30 = .ok (.iload_n 2, 1) := by decide +kernel
theorem dc_L_of_31 : decode bb_L_of 31 = .ok (.aaload, 1) := by decide +kernel
theorem dc_L_of_32 : decode bb_L_of 32 = .ok (.iload_n 1, 1) := by decide +kernel
theorem dc_L_of_33 : decode bb_L_of 33 = .ok (.iaload, 1) := by decide +kernel
theorem dc_L_of_34 : decode bb_L_of 34 = .ok (.ireturn, 1) := by decide +kernel
theorem dc_L_readBox_0 : decode bb_L_readBox 0 = .ok (.iload_n 2, 1) := by decide +kernel
theorem dc_L_readBox_1 : decode bb_L_readBox 1 = .ok (.iconst 2, 1) := by decide +kernel
theorem dc_L_readBox_2 : decode bb_L_readBox 2 = .ok (.if_icmp .ge 5, 3) := by decide +kernel
theorem dc_L_readBox_5 : decode bb_L_readBox 5 = .ok (.iconst 0, 1) := by decide +kernel
theorem dc_L_readBox_6 : decode bb_L_readBox 6 = .ok (.ireturn, 1) := by decide +kernel
theorem dc_L_readBox_7 : decode bb_L_readBox 7 = .ok (.aload_n 0, 1) := by decide +kernel
theorem dc_L_readBox_8 : decode bb_L_readBox 8 = .ok (.getfield 9, 3) := by decide +kernel
theorem dc_L_readBox_11 : decode bb_L_readBox 11 = .ok (.iload_n 1, 1) := by decide +kernel
theorem dc_L_readBox_12 : decode bb_L_readBox 12 = .ok (.invokevirtual 52, 3) := by decide +kernel
theorem dc_L_readBox_15 : decode bb_L_readBox 15 = .ok (.istore 4, 2) := by decide +kernel
theorem dc_L_readBox_17 : decode bb_L_readBox 17 = .ok (.iload 4, 2) := by decide +kernel
theorem dc_L_readBox_19 : decode bb_L_readBox 19 = .ok (.iconst 1, 1) := by decide +kernel
theorem dc_L_readBox_20 : decode bb_L_readBox 20 = .ok (.if_icmp .ne 7, 3) := by decide +kernel
theorem dc_L_readBox_23 : decode bb_L_readBox 23 = .ok (.iconst 4, 1) := by decide +kernel
theorem dc_L_readBox_24 : decode bb_L_readBox 24 = .ok (.goto 4, 3) := by decide +kernel
theorem dc_L_readBox_27 : decode bb_L_readBox 27 = .ok (.iconst 2, 1) := by decide +kernel
theorem dc_L_readBox_28 : decode bb_L_readBox 28 = .ok (.istore 5, 2) := by decide +kernel
theorem dc_L_readBox_30 : decode bb_L_readBox 30 = .ok (.iload_n 2, 1) := by decide +kernel
theorem dc_L_readBox_31 : decode bb_L_readBox 31 = .ok (.iload 5, 2) := by decide +kernel
theorem dc_L_readBox_33 : decode bb_L_readBox 33 = .ok (.if_icmp .lt 13, 3) := by decide +kernel
theorem dc_L_readBox_36 : decode bb_L_readBox 36 = .ok (.iload 4, 2) := by decide +kernel
theorem dc_L_readBox_38 : decode bb_L_readBox 38 = .ok (.ifCond .ne 10, 3) := by decide +kernel
theorem dc_L_readBox_41 : decode bb_L_readBox 41 = .ok (.iload_n 3, 1) := by decide +kernel
theorem dc_L_readBox_42 : decode bb_L_readBox 42 = .ok (.iconst (-1), 1) := by decide +kernel
theorem dc_L_readBox_43 : decode bb_L_readBox 43 = .ok (.if_icmp .eq 5, 3) := by decide +kernel
theorem dc_L_readBox_46 : decode bb_L_readBox 46 = .ok (.iconst 0, 1) := by decide +kernel
theorem dc_L_readBox_47 : decode bb_L_readBox 47 = .ok (.ireturn, 1) := by decide +kernel
theorem dc_L_readBox_48 : decode bb_L_readBox 48 = .ok (.iload 4, 2) := by decide +kernel
theorem dc_L_readBox_50 : decode bb_L_readBox 50 = .ok (.istore 6, 2) := by decide +kernel
theorem dc_L_readBox_52 : decode bb_L_readBox 52 = .ok (.iload 4, 2) := by decide +kernel
theorem dc_L_readBox_54 : decode bb_L_readBox 54 = .ok (.iconst 1, 1) := by decide +kernel
theorem dc_L_readBox_55 : decode bb_L_readBox 55 = .ok (.if_icmp .ne 18, 3) := by decide +kernel
theorem dc_L_readBox_58 : decode bb_L_readBox 58 = .ok (.aload_n 0, 1) := by decide +kernel
theorem dc_L_readBox_59 : decode bb_L_readBox 59 = .ok (.getfield 9, 3) := by decide +kernel
theorem dc_L_readBox_62 : decode bb_L_readBox 62 = .ok (.iload_n 1, 1) := by decide +kernel
theorem dc_L_readBox_63 : decode bb_L_readBox 63 = .ok (.iconst 2, 1) := by decide +kernel
theorem dc_L_readBox_64 : decode bb_L_readBox 64 = .ok (.iadd, 1) := by decide +kernel
theorem dc_L_readBox_65 : decode bb_L_readBox 65 = .ok (.invokevirtual 55, 3) := by decide +kernel
theorem dc_L_readBox_68 : decode bb_L_readBox 68 = .ok (.istore 6, 2) := by decide +kernel
theorem dc_L_readBox_70 : decode bb_L_readBox 70 = .ok (.goto 11, 3) := by decide +kernel
theorem dc_L_readBox_73 : decode bb_L_readBox 73 = .ok (.iload 4, 2) := by decide +kernel
theorem dc_L_readBox_75 : decode bb_L_readBox 75 = .ok (.ifCond .ne 6, 3) := by decide +kernel
theorem dc_L_readBox_78 : decode bb_L_readBox 78 = .ok (.iload_n 2, 1) := by decide +kernel
theorem dc_L_readBox_79 : decode bb_L_readBox 79 = .ok (.istore 6, 2) := by decide +kernel
theorem dc_L_readBox_81 : decode bb_L_readBox 81 = .ok (.iload 6, 2) := by decide +kernel
theorem dc_L_readBox_83 : decode bb_L_readBox 83 = .ok (.iload 5, 2) := by decide +kernel
theorem dc_L_readBox_85 : decode bb_L_readBox 85 = .ok (.if_icmp .lt 9, 3) := by decide +kernel
theorem dc_L_readBox_88 : decode bb_L_readBox 88 = .ok (.iload 6, 2) := by decide +kernel
theorem dc_L_readBox_90 : decode bb_L_readBox 90 = .ok (.iload_n 2, 1) := by decide +kernel
theorem dc_L_readBox_91 : decode bb_L_readBox 91 = .ok (.if_icmp .le 5, 3) := by decide +kernel
theorem dc_L_readBox_94 : decode bb_L_readBox 94 = .ok (.iconst 0, 1) := by decide +kernel
theorem dc_L_readBox_95 : decode bb_L_readBox 95 = .ok (.ireturn, 1) := by decide +kernel
theorem dc_L_readBox_96 : decode bb_L_readBox 96 = .ok (.aload_n 0, 1) := by decide +kernel
theorem dc_L_readBox_97 : decode bb_L_readBox 97 = .ok (.iload_n 1, 1) := by decide +kernel
theorem dc_L_readBox_98 : decode bb_L_readBox 98 = .ok (.iload 6, 2) := by decide +kernel
theorem dc_L_readBox_100 : decode bb_L_readBox 100 = .ok (.iload 5, 2) := by decide +kernel
theorem dc_L_readBox_102 : decode bb_L_readBox 102 = .ok (.iload_n 3, 1) := by decide +kernel
theorem dc_L_readBox_103 : decode bb_L_readBox 103 = .ok (.invokevirtual 58, 3) := by decide +kernel
theorem dc_L_readBox_106 : decode bb_L_readBox 106 = .ok (.iconst 1, 1) := by decide +kernel
theorem dc_L_readBox_107 : decode bb_L_readBox 107 = .ok (.ireturn, 1) := by decide +kernel
theorem dc_B_pairAt_0 : decode bb_B_pairAt 0 = .ok (.iload_n 1, 1) := by decide +kernel
theorem dc_B_pairAt_1 : decode bb_B_pairAt 1 = .ok (.ifCond .lt 35, 3) := by decide +kernel
theorem dc_B_pairAt_4 : decode bb_B_pairAt 4 = .ok (.iload_n 1, 1) := by decide +kernel
theorem dc_B_pairAt_5 : decode bb_B_pairAt 5 = .ok (.aload_n 0, 1) := by decide +kernel
theorem dc_B_pairAt_6 : decode bb_B_pairAt 6 = .ok (.getfield 15, 3) := by decide +kernel
theorem dc_B_pairAt_9 : decode bb_B_pairAt 9 = .ok (.iconst 1, 1) := by decide +kernel
theorem dc_B_pairAt_10 : decode bb_B_pairAt 10 = .ok (.isub, 1) := by decide +kernel
theorem dc_B_pairAt_11 : decode bb_B_pairAt 11 = .ok (.if_icmp .ge 25, 3) := by decide +kernel
theorem dc_B_pairAt_14 : decode bb_B_pairAt 14 = .ok (.aload_n 0, 1) := by decide +kernel
theorem dc_B_pairAt_15 : decode bb_B_pairAt 15 = .ok (.getfield 9, 3) := by decide +kernel
theorem dc_B_pairAt_18 : decode bb_B_pairAt 18 = .ok (.iload_n 1, 1) := by decide +kernel
theorem dc_B_pairAt_19 : decode bb_B_pairAt 19 = .ok (.iaload, 1) := by decide +kernel
theorem dc_B_pairAt_20 : decode bb_B_pairAt 20 = .ok (.sipush 256, 3) := by decide +kernel
theorem dc_B_pairAt_23 : decode bb_B_pairAt 23 = .ok (.imul, 1) := by decide +kernel
theorem dc_B_pairAt_24 : decode bb_B_pairAt 24 = .ok (.aload_n 0, 1) := by decide +kernel
theorem dc_B_pairAt_25 : decode bb_B_pairAt 25 = .ok (.getfield 9, 3) := by decide +kernel
theorem dc_B_pairAt_28 : decode bb_B_pairAt 28 = .ok (.iload_n 1, 1) := by decide +kernel
theorem dc_B_pairAt_29 : decode bb_B_pairAt 29 = .ok (.iconst 1, 1) := by decide +kernel
theorem dc_B_pairAt_30 : decode bb_B_pairAt 30 = .ok (.iadd, 1) := by decide +kernel
theorem dc_B_pairAt_31 : decode bb_B_pairAt 31 = .ok (.iaload, 1) := by decide +kernel
theorem dc_B_pairAt_32 : decode bb_B_pairAt 32 = .ok (.iadd, 1) := by decide +kernel
theorem dc_B_pairAt_33 : decode bb_B_pairAt 33 = .ok (.goto 6, 3) := by decide +kernel
theorem dc_B_pairAt_36 : decode bb_B_pairAt 36 = .ok (.sipush (-1000), 3) := by decide +kernel
theorem dc_B_pairAt_39 : decode bb_B_pairAt 39 = .ok (.ireturn, 1) := by decide +kernel
theorem dc_L_note_0 : decode bb_L_note 0 = .ok (.aload_n 0, 1) := by decide +kernel
theorem dc_L_note_1 : decode bb_L_note 1 = .ok (.getfield 20, 3) := by decide +kernel
theorem dc_L_note_4 : decode bb_L_note 4 = .ok (.bipush 20, 2) := by decide +kernel
theorem dc_L_note_6 : decode bb_L_note 6 = .ok (.if_icmp .lt 4, 3) := by decide +kernel
theorem dc_L_note_9 : decode bb_L_note 9 = .ok (.return_, 1) := by decide +kernel
theorem dc_L_note_10 : decode bb_L_note 10 = .ok (.aload_n 0, 1) := by decide +kernel
theorem dc_L_note_11 : decode bb_L_note 11 = .ok (.getfield 9, 3) := by decide +kernel
theorem dc_L_note_14 : decode bb_L_note 14 = .ok (.iload_n 1, 1) := by decide +kernel
theorem dc_L_note_15 : decode bb_L_note 15 = .ok (.iconst 1, 1) := by decide +kernel
theorem dc_L_note_16 : decode bb_L_note 16 = .ok (.iadd, 1) := by decide +kernel
theorem dc_L_note_17 : decode bb_L_note 17 = .ok (.invokevirtual 52, 3) := by decide +kernel
theorem dc_L_note_20 : decode bb_L_note 20 = .ok (.istore 5, 2) := by decide +kernel
theorem dc_L_note_22 : decode bb_L_note 22 = .ok (.iload 4, 2) := by decide +kernel
theorem dc_L_note_24 : decode bb_L_note 24 = .ok (.iconst (-1), 1) := by decide +kernel
theorem dc_L_note_25 : decode bb_L_note 25 = .ok (.if_icmp .ne 7, 3) := by decide +kernel
theorem dc_L_note_28 : decode bb_L_note 28 = .ok (.iconst 0, 1) := by decide +kernel
theorem dc_L_note_29 : decode bb_L_note 29 = .ok (.goto 12, 3) := by decide +kernel
theorem dc_L_note_32 : decode bb_L_note 32 = .ok (.aload_n 0, 1) := by decide +kernel
theorem dc_L_note_33 : decode bb_L_note 33 = .ok (.iload 4, 2) := by decide +kernel
theorem dc_L_note_35 : decode bb_L_note 35 = .ok (.iconst 4, 1) := by decide +kernel
theorem dc_L_note_36 : decode bb_L_note 36 = .ok (.invokevirtual 24, 3) := by decide +kernel
theorem dc_L_note_39 : decode bb_L_note 39 = .ok (.iconst 1, 1) := by decide +kernel
theorem dc_L_note_40 : decode bb_L_note 40 = .ok (.iadd, 1) := by decide +kernel
theorem dc_L_note_41 : decode bb_L_note 41 = .ok (.istore 6, 2) := by decide +kernel
theorem dc_L_note_43 : decode bb_L_note 43 = .ok (.aload_n 0, 1) := by decide +kernel
theorem dc_L_note_44 : decode bb_L_note 44 = .ok (.getfield 17, 3) := by decide +kernel
theorem dc_L_note_47 : decode bb_L_note 47 = .ok (.iconst 0, 1) := by decide +kernel
theorem dc_L_note_48 : decode bb_L_note 48 = .ok (.aaload, 1) := by decide +kernel
theorem dc_L_note_49 : decode bb_L_note 49 = .ok (.aload_n 0, 1) := by decide +kernel
theorem dc_L_note_50 : decode bb_L_note 50 = .ok (.getfield 20, 3) := by decide +kernel
theorem dc_L_note_53 : decode bb_L_note 53 = .ok (.iload_n 1, 1) := by decide +kernel
theorem dc_L_note_54 : decode bb_L_note 54 = .ok (.iastore, 1) := by decide +kernel
theorem dc_L_note_55 : decode bb_L_note 55 = .ok (.aload_n 0, 1) := by decide +kernel
theorem dc_L_note_56 : decode bb_L_note 56 = .ok (.getfield 17, 3) := by decide +kernel
theorem dc_L_note_59 : decode bb_L_note 59 = .ok (.iconst 1, 1) := by decide +kernel
theorem dc_L_note_60 : decode bb_L_note 60 = .ok (.aaload, 1) := by decide +kernel
theorem dc_L_note_61 : decode bb_L_note 61 = .ok (.aload_n 0, 1) := by decide +kernel
theorem dc_L_note_62 : decode bb_L_note 62 = .ok (.getfield 20, 3) := by decide +kernel
theorem dc_L_note_65 : decode bb_L_note 65 = .ok (.iload_n 2, 1) := by decide +kernel
theorem dc_L_note_66 : decode bb_L_note 66 = .ok (.iastore, 1) := by decide +kernel
theorem dc_L_note_67 : decode bb_L_note 67 = .ok (.aload_n 0, 1) := by decide +kernel
theorem dc_L_note_68 : decode bb_L_note 68 = .ok (.getfield 17, 3) := by decide +kernel
theorem dc_L_note_71 : decode bb_L_note 71 = .ok (.iconst 2, 1) := by decide +kernel
theorem dc_L_note_72 : decode bb_L_note 72 = .ok (.aaload, 1) := by decide +kernel
theorem dc_L_note_73 : decode bb_L_note 73 = .ok (.aload_n 0, 1) := by decide +kernel
theorem dc_L_note_74 : decode bb_L_note 74 = .ok (.getfield 20, 3) := by decide +kernel
theorem dc_L_note_77 : decode bb_L_note 77 = .ok (.iload 5, 2) := by decide +kernel
theorem dc_L_note_79 : decode bb_L_note 79 = .ok (.iastore, 1) := by decide +kernel
theorem dc_L_note_80 : decode bb_L_note 80 = .ok (.aload_n 0, 1) := by decide +kernel
theorem dc_L_note_81 : decode bb_L_note 81 = .ok (.getfield 17, 3) := by decide +kernel
theorem dc_L_note_84 : decode bb_L_note 84 = .ok (.iconst 3, 1) := by decide +kernel
theorem dc_L_note_85 : decode bb_L_note 85 = .ok (.aaload, 1) := by decide +kernel
theorem dc_L_note_86 : decode bb_L_note 86 = .ok (.aload_n 0, 1) := by decide +kernel
theorem dc_L_note_87 : decode bb_L_note 87 = .ok (.getfield 20, 3) := by decide +kernel
theorem dc_L_note_90 : decode bb_L_note 90 = .ok (.iload_n 3, 1) := by decide +kernel
theorem dc_L_note_91 : decode bb_L_note 91 = .ok (.iastore, 1) := by decide +kernel
theorem dc_L_note_92 : decode bb_L_note 92 = .ok (.aload_n 0, 1) := by decide +kernel
theorem dc_L_note_93 : decode bb_L_note 93 = .ok (.getfield 17, 3) := by decide +kernel
theorem dc_L_note_96 : decode bb_L_note 96 = .ok (.iconst 4, 1) := by decide +kernel
theorem dc_L_note_97 : decode bb_L_note 97 = .ok (.aaload, 1) := by decide +kernel
theorem dc_L_note_98 : decode bb_L_note 98 = .ok (.aload_n 0, 1) := by decide +kernel
theorem dc_L_note_99 : decode bb_L_note 99 = .ok (.getfield 20, 3) := by decide +kernel
theorem dc_L_note_102 : decode bb_L_note 102 = .ok (.iload 6, 2) := by decide +kernel
theorem dc_L_note_104 : decode bb_L_note 104 = .ok (.iastore, 1) := by decide +kernel
theorem dc_L_note_105 : decode bb_L_note 105 = .ok (.aload_n 0, 1) := by decide +kernel
theorem dc_L_note_106 : decode bb_L_note 106 = .ok (.getfield 17, 3) := by decide +kernel
theorem dc_L_note_109 : decode bb_L_note 109 = .ok (.iconst 5, 1) := by decide +kernel
theorem dc_L_note_110 : decode bb_L_note 110 = .ok (.aaload, 1) := by decide +kernel
theorem dc_L_note_111 : decode bb_L_note 111 = .ok (.aload_n 0, 1) := by decide +kernel
theorem dc_L_note_112 : decode bb_L_note 112 = .ok (.getfield 20, 3) := by decide +kernel
theorem dc_L_note_115 : decode bb_L_note 115 = .ok (.iload 4, 2) := by decide +kernel
theorem dc_L_note_117 : decode bb_L_note 117 = .ok (.iastore, 1) := by decide +kernel
theorem dc_L_note_118 : decode bb_L_note 118 = .ok (.aload_n 0, 1) := by decide +kernel
theorem dc_L_note_119 : decode bb_L_note 119 = .ok (.getfield 17, 3) := by decide +kernel
theorem dc_L_note_122 : decode bb_L_note 122 = .ok (.bipush 6, 2) := by decide +kernel
theorem dc_L_note_124 : decode bb_L_note 124 = .ok (.aaload, 1) := by decide +kernel
theorem dc_L_note_125 : decode bb_L_note 125 = .ok (.aload_n 0, 1) := by decide +kernel
theorem dc_L_note_126 : decode bb_L_note 126 = .ok (.getfield 20, 3) := by decide +kernel
theorem dc_L_note_129 : decode bb_L_note 129 = .ok (.iload 5, 2) := by decide +kernel
theorem dc_L_note_131 : decode bb_L_note 131 = .ok (.iload 6, 2) := by decide +kernel
theorem dc_L_note_133 : decode bb_L_note 133 = .ok (.invokestatic 62, 3) := by decide +kernel
theorem dc_L_note_136 : decode bb_L_note 136 = .ok (.iastore, 1) := by decide +kernel
theorem dc_L_note_137 : decode bb_L_note 137 = .ok (.aload_n 0, 1) := by decide +kernel
theorem dc_L_note_138 : decode bb_L_note 138 = .ok (.dup, 1) := by decide +kernel
theorem dc_L_note_139 : decode bb_L_note 139 = .ok (.getfield 20, 3) := by decide +kernel
theorem dc_L_note_142 : decode bb_L_note 142 = .ok (.iconst 1, 1) := by decide +kernel
theorem dc_L_note_143 : decode bb_L_note 143 = .ok (.iadd, 1) := by decide +kernel
theorem dc_L_note_144 : decode bb_L_note 144 = .ok (.putfield 20, 3) := by decide +kernel
theorem dc_L_note_147 : decode bb_L_note 147 = .ok (.return_, 1) := by decide +kernel
theorem dc_L_kindOf_0 : decode bb_L_kindOf 0 = .ok (.iload_n 1, 1) := by decide +kernel
theorem dc_L_kindOf_1 : decode bb_L_kindOf 1 = .ok (.ifCond .ne 24, 3) := by decide +kernel
theorem dc_L_kindOf_4 : decode bb_L_kindOf 4 = .ok (.iload_n 0, 1) := by decide +kernel
theorem dc_L_kindOf_5 : decode bb_L_kindOf 5 = .ok (.bipush 77, 2) := by decide +kernel
theorem dc_L_kindOf_7 : decode bb_L_kindOf 7 = .ok (.if_icmp .eq 9, 3) := by decide +kernel
theorem dc_L_kindOf_10 : decode bb_L_kindOf 10 = .ok (.iload_n 0, 1) := by decide +kernel
theorem dc_L_kindOf_11 : decode bb_L_kindOf 11 = .ok (.bipush 68, 2) := by decide +kernel
theorem dc_L_kindOf_13 : decode bb_L_kindOf 13 = .ok (.if_icmp .ne 7, 3) := by decide +kernel
theorem dc_L_kindOf_16 : decode bb_L_kindOf 16 = .ok (.iconst 1, 1) := by decide +kernel
theorem dc_L_kindOf_17 : decode bb_L_kindOf 17 = .ok (.goto 4, 3) := by decide +kernel
theorem dc_L_kindOf_20 : decode bb_L_kindOf 20 = .ok (.iconst 0, 1) := by decide +kernel
theorem dc_L_kindOf_21 : decode bb_L_kindOf 21 = .ok (.istore_n 2, 1) := by decide +kernel
theorem dc_L_kindOf_22 : decode bb_L_kindOf 22 = .ok (.goto 28, 3) := by decide +kernel
theorem dc_L_kindOf_25 : decode bb_L_kindOf 25 = .ok (.iload_n 1, 1) := by decide +kernel
theorem dc_L_kindOf_26 : decode bb_L_kindOf 26 = .ok (.iconst 1, 1) := by decide +kernel
theorem dc_L_kindOf_27 : decode bb_L_kindOf 27 = .ok (.if_icmp .ne 18, 3) := by decide +kernel
theorem dc_L_kindOf_30 : decode bb_L_kindOf 30 = .ok (.iload_n 0, 1) := by decide +kernel
theorem dc_L_kindOf_31 : decode bb_L_kindOf 31 = .ok (.bipush 84, 2) := by decide +kernel
theorem dc_L_kindOf_33 : decode bb_L_kindOf 33 = .ok (.if_icmp .ne 7, 3) := by decide +kernel
theorem dc_L_kindOf_36 : decode bb_L_kindOf 36 = .ok (.iconst 1, 1) := by decide +kernel
theorem dc_L_kindOf_37 : decode bb_L_kindOf 37 = .ok (.goto 4, 3) := by decide +kernel
theorem dc_L_kindOf_40 : decode bb_L_kindOf 40 = .ok (.iconst 0, 1) := by decide +kernel
theorem dc_L_kindOf_41 : decode bb_L_kindOf 41 = .ok (.istore_n 2, 1) := by decide +kernel
theorem dc_L_kindOf_42 : decode bb_L_kindOf 42 = .ok (.goto 8, 3) := by decide +kernel
theorem dc_L_kindOf_45 : decode bb_L_kindOf 45 = .ok (.iload_n 0, 1) := by decide +kernel
theorem dc_L_kindOf_46 : decode bb_L_kindOf 46 = .ok (.invokestatic 65, 3) := by decide +kernel
theorem dc_L_kindOf_49 : decode bb_L_kindOf 49 = .ok (.istore_n 2, 1) := by decide +kernel
theorem dc_L_kindOf_50 : decode bb_L_kindOf 50 = .ok (.iload_n 2, 1) := by decide +kernel
theorem dc_L_kindOf_51 : decode bb_L_kindOf 51 = .ok (.ifCond .eq 7, 3) := by decide +kernel
theorem dc_L_kindOf_54 : decode bb_L_kindOf 54 = .ok (.iload_n 0, 1) := by decide +kernel
theorem dc_L_kindOf_55 : decode bb_L_kindOf 55 = .ok (.goto 4, 3) := by decide +kernel
theorem dc_L_kindOf_58 : decode bb_L_kindOf 58 = .ok (.iconst (-1), 1) := by decide +kernel
theorem dc_L_kindOf_59 : decode bb_L_kindOf 59 = .ok (.ireturn, 1) := by decide +kernel
theorem dc_L_isTable_0 : decode bb_L_isTable 0 = .ok (.iload_n 0, 1) := by decide +kernel
theorem dc_L_isTable_1 : decode bb_L_isTable 1 = .ok (.lookupswitch 77 #[(79, 75), (99, 75), (101, 75), (107, 75), (111, 75), (115, 75), (121, 75), (122, 75)], 75) := by decide +kernel
theorem dc_L_isTable_76 : decode bb_L_isTable 76 = .ok (.iconst 1, 1) := by decide +kernel
theorem dc_L_isTable_77 : decode bb_L_isTable 77 = .ok (.ireturn, 1) := by decide +kernel
theorem dc_L_isTable_78 : decode bb_L_isTable 78 = .ok (.iconst 0, 1) := by decide +kernel
theorem dc_L_isTable_79 : decode bb_L_isTable 79 = .ok (.ireturn, 1) := by decide +kernel
theorem dc_L_holdsBoxes_0 : decode bb_L_holdsBoxes 0 = .ok (.aload_n 0, 1) := by decide +kernel
theorem dc_L_holdsBoxes_1 : decode bb_L_holdsBoxes 1 = .ok (.iload_n 1, 1) := by decide +kernel
theorem dc_L_holdsBoxes_2 : decode bb_L_holdsBoxes 2 = .ok (.bipush 6, 2) := by decide +kernel
theorem dc_L_holdsBoxes_4 : decode bb_L_holdsBoxes 4 = .ok (.invokevirtual 24, 3) := by decide +kernel
theorem dc_L_holdsBoxes_7 : decode bb_L_holdsBoxes 7 = .ok (.istore_n 2, 1) := by decide +kernel
theorem dc_L_holdsBoxes_8 : decode bb_L_holdsBoxes 8 = .ok (.iload_n 2, 1) := by decide +kernel
theorem dc_L_holdsBoxes_9 : decode bb_L_holdsBoxes 9 = .ok (.bipush 77, 2) := by decide +kernel
theorem dc_L_holdsBoxes_11 : decode bb_L_holdsBoxes 11 = .ok (.if_icmp .eq 9, 3) := by decide +kernel
theorem dc_L_holdsBoxes_14 : decode bb_L_holdsBoxes 14 = .ok (.iload_n 2, 1) := by decide +kernel
theorem dc_L_holdsBoxes_15 : decode bb_L_holdsBoxes 15 = .ok (.bipush 84, 2) := by decide +kernel
theorem dc_L_holdsBoxes_17 : decode bb_L_holdsBoxes 17 = .ok (.if_icmp .ne 7, 3) := by decide +kernel
theorem dc_L_holdsBoxes_20 : decode bb_L_holdsBoxes 20 = .ok (.iconst 1, 1) := by decide +kernel
theorem dc_L_holdsBoxes_21 : decode bb_L_holdsBoxes 21 = .ok (.goto 4, 3) := by decide +kernel
theorem dc_L_holdsBoxes_24 : decode bb_L_holdsBoxes 24 = .ok (.iconst 0, 1) := by decide +kernel
theorem dc_L_holdsBoxes_25 : decode bb_L_holdsBoxes 25 = .ok (.ireturn, 1) := by decide +kernel
theorem dc_L_payloadOf_0 : decode bb_L_payloadOf 0 = .ok (.iload_n 1, 1) := by decide +kernel
theorem dc_L_payloadOf_1 : decode bb_L_payloadOf 1 = .ok (.ifCond .lt 31, 3) := by decide +kernel
theorem dc_L_payloadOf_4 : decode bb_L_payloadOf 4 = .ok (.iload_n 1, 1) := by decide +kernel
theorem dc_L_payloadOf_5 : decode bb_L_payloadOf 5 = .ok (.aload_n 0, 1) := by decide +kernel
theorem dc_L_payloadOf_6 : decode bb_L_payloadOf 6 = .ok (.getfield 20, 3) := by decide +kernel
theorem dc_L_payloadOf_9 : decode bb_L_payloadOf 9 = .ok (.if_icmp .ge 23, 3) := by decide +kernel
theorem dc_L_payloadOf_12 : decode bb_L_payloadOf 12 = .ok (.aload_n 0, 1) := by decide +kernel
theorem dc_L_payloadOf_13 : decode bb_L_payloadOf 13 = .ok (.getfield 17, 3) := by decide +kernel
theorem dc_L_payloadOf_16 : decode bb_L_payloadOf 16 = .ok (.iconst 0, 1) := by decide +kernel
theorem dc_L_payloadOf_17 : decode bb_L_payloadOf 17 = .ok (.aaload, 1) := by decide +kernel
theorem dc_L_payloadOf_18 : decode bb_L_payloadOf 18 = .ok (.iload_n 1, 1) := by decide +kernel
theorem dc_L_payloadOf_19 : decode bb_L_payloadOf 19 = .ok (.iaload, 1) := by decide +kernel
theorem dc_L_payloadOf_20 : decode bb_L_payloadOf 20 = .ok (.aload_n 0, 1) := by decide +kernel
theorem dc_L_payloadOf_21 : decode bb_L_payloadOf 21 = .ok (.getfield 17, 3) := by decide +kernel
theorem dc_L_payloadOf_24 : decode bb_L_payloadOf 24 = .ok (.iconst 3, 1) := by decide +kernel
theorem dc_L_payloadOf_25 : decode bb_L_payloadOf 25 = .ok (.aaload, 1) := by decide +kernel
theorem dc_L_payloadOf_26 : decode bb_L_payloadOf 26 = .ok (.iload_n 1, 1) := by decide +kernel
theorem dc_L_payloadOf_27 : decode bb_L_payloadOf 27 = .ok (.iaload, 1) := by decide +kernel
theorem dc_L_payloadOf_28 : decode bb_L_payloadOf 28 = .ok (.iadd, 1) := by decide +kernel
theorem dc_L_payloadOf_29 : decode bb_L_payloadOf 29 = .ok (.goto 6, 3) := by decide +kernel
theorem dc_L_payloadOf_32 : decode bb_L_payloadOf 32 = .ok (.sipush (-1000), 3) := by decide +kernel
theorem dc_L_payloadOf_35 : decode bb_L_payloadOf 35 = .ok (.ireturn, 1) := by decide +kernel
theorem dc_L_kindsHold_0 : decode bb_L_kindsHold 0 = .ok (.aload_n 0, 1) := by decide +kernel
theorem dc_L_kindsHold_1 : decode bb_L_kindsHold 1 = .ok (.iconst (-1), 1) := by decide +kernel
theorem dc_L_kindsHold_2 : decode bb_L_kindsHold 2 = .ok (.bipush 77, 2) := by decide +kernel
theorem dc_L_kindsHold_4 : decode bb_L_kindsHold 4 = .ok (.invokevirtual 68, 3) := by decide +kernel
theorem dc_L_kindsHold_7 : decode bb_L_kindsHold 7 = .ok (.iconst 1, 1) := by decide +kernel
theorem dc_L_kindsHold_8 : decode bb_L_kindsHold 8 = .ok (.if_icmp .eq 5, 3) := by decide +kernel
theorem dc_L_kindsHold_11 : decode bb_L_kindsHold 11 = .ok (.iconst 0, 1) := by decide +kernel
theorem dc_L_kindsHold_12 : decode bb_L_kindsHold 12 = .ok (.ireturn, 1) := by decide +kernel
theorem dc_L_kindsHold_13 : decode bb_L_kindsHold 13 = .ok (.aload_n 0, 1) := by decide +kernel
theorem dc_L_kindsHold_14 : decode bb_L_kindsHold 14 = .ok (.aload_n 0, 1) := by decide +kernel
theorem dc_L_kindsHold_15 : decode bb_L_kindsHold 15 = .ok (.iconst (-1), 1) := by decide +kernel
theorem dc_L_kindsHold_16 : decode bb_L_kindsHold 16 = .ok (.bipush 77, 2) := by decide +kernel
theorem dc_L_kindsHold_18 : decode bb_L_kindsHold 18 = .ok (.invokevirtual 71, 3) := by decide +kernel
theorem dc_L_kindsHold_21 : decode bb_L_kindsHold 21 = .ok (.bipush 84, 2) := by decide +kernel
theorem dc_L_kindsHold_23 : decode bb_L_kindsHold 23 = .ok (.invokevirtual 68, 3) := by decide +kernel
theorem dc_L_kindsHold_26 : decode bb_L_kindsHold 26 = .ok (.istore_n 1, 1) := by decide +kernel
theorem dc_L_kindsHold_27 : decode bb_L_kindsHold 27 = .ok (.iload_n 1, 1) := by decide +kernel
theorem dc_L_kindsHold_28 : decode bb_L_kindsHold 28 = .ok (.iconst 1, 1) := by decide +kernel
theorem dc_L_kindsHold_29 : decode bb_L_kindsHold 29 = .ok (.if_icmp .lt 8, 3) := by decide +kernel
theorem dc_L_kindsHold_32 : decode bb_L_kindsHold 32 = .ok (.iload_n 1, 1) := by decide +kernel
theorem dc_L_kindsHold_33 : decode bb_L_kindsHold 33 = .ok (.iconst 2, 1) := by decide +kernel
theorem dc_L_kindsHold_34 : decode bb_L_kindsHold 34 = .ok (.if_icmp .le 5, 3) := by decide +kernel
theorem dc_L_kindsHold_37 : decode bb_L_kindsHold 37 = .ok (.iconst 0, 1) := by decide +kernel
theorem dc_L_kindsHold_38 : decode bb_L_kindsHold 38 = .ok (.ireturn, 1) := by decide +kernel
theorem dc_L_kindsHold_39 : decode bb_L_kindsHold 39 = .ok (.iconst 0, 1) := by decide +kernel
theorem dc_L_kindsHold_40 : decode bb_L_kindsHold 40 = .ok (.istore_n 2, 1) := by decide +kernel
theorem dc_L_kindsHold_41 : decode bb_L_kindsHold 41 = .ok (.iload_n 2, 1) := by decide +kernel
theorem dc_L_kindsHold_42 : decode bb_L_kindsHold 42 = .ok (.aload_n 0, 1) := by decide +kernel
theorem dc_L_kindsHold_43 : decode bb_L_kindsHold 43 = .ok (.getfield 20, 3) := by decide +kernel
theorem dc_L_kindsHold_46 : decode bb_L_kindsHold 46 = .ok (.if_icmp .ge 33, 3) := by decide +kernel
theorem dc_L_kindsHold_49 : decode bb_L_kindsHold 49 = .ok (.aload_n 0, 1) := by decide +kernel
theorem dc_L_kindsHold_50 : decode bb_L_kindsHold 50 = .ok (.getfield 17, 3) := by decide +kernel
theorem dc_L_kindsHold_53 : decode bb_L_kindsHold 53 = .ok (.bipush 6, 2) := by decide +kernel
theorem dc_L_kindsHold_55 : decode bb_L_kindsHold 55 = .ok (.aaload, 1) := by decide +kernel
theorem dc_L_kindsHold_56 : decode bb_L_kindsHold 56 = .ok (.iload_n 2, 1) := by decide +kernel
theorem dc_L_kindsHold_57 : decode bb_L_kindsHold 57 = .ok (.iaload, 1) := by decide +kernel
theorem dc_L_kindsHold_58 : decode bb_L_kindsHold 58 = .ok (.bipush 84, 2) := by decide +kernel
theorem dc_L_kindsHold_60 : decode bb_L_kindsHold 60 = .ok (.if_icmp .ne 13, 3) := by decide +kernel
theorem dc_L_kindsHold_63 : decode bb_L_kindsHold 63 = .ok (.aload_n 0, 1) := by decide +kernel
theorem dc_L_kindsHold_64 : decode bb_L_kindsHold 64 = .ok (.iload_n 2, 1) := by decide +kernel
theorem dc_L_kindsHold_65 : decode bb_L_kindsHold 65 = .ok (.invokevirtual 74, 3) := by decide +kernel
theorem dc_L_kindsHold_68 : decode bb_L_kindsHold 68 = .ok (.ifCond .ne 5, 3) := by decide +kernel
theorem dc_L_kindsHold_71 : decode bb_L_kindsHold 71 = .ok (.iconst 0, 1) := by decide +kernel
theorem dc_L_kindsHold_72 : decode bb_L_kindsHold 72 = .ok (.ireturn, 1) := by decide +kernel
theorem dc_L_kindsHold_73 : decode bb_L_kindsHold 73 = .ok (.iinc 2 1, 3) := by decide +kernel
theorem dc_L_kindsHold_76 : decode bb_L_kindsHold 76 = .ok (.goto (-35), 3) := by decide +kernel
theorem dc_L_kindsHold_79 : decode bb_L_kindsHold 79 = .ok (.iconst 1, 1) := by decide +kernel
theorem dc_L_kindsHold_80 : decode bb_L_kindsHold 80 = .ok (.ireturn, 1) := by decide +kernel
theorem dc_L_countIn_0 : decode bb_L_countIn 0 = .ok (.iconst 0, 1) := by decide +kernel
theorem dc_L_countIn_1 : decode bb_L_countIn 1 = .ok (.istore_n 3, 1) := by decide +kernel
theorem dc_L_countIn_2 : decode bb_L_countIn 2 = .ok (.iconst 0, 1) := by decide +kernel
theorem dc_L_countIn_3 : decode bb_L_countIn 3 = .ok (.istore 4, 2) := by decide +kernel
theorem dc_L_countIn_5 : decode bb_L_countIn 5 = .ok (.iload 4, 2) := by decide +kernel
theorem dc_L_countIn_7 : decode bb_L_countIn 7 = .ok (.aload_n 0, 1) := by decide +kernel
theorem dc_L_countIn_8 : decode bb_L_countIn 8 = .ok (.getfield 20, 3) := by decide +kernel
theorem dc_L_countIn_11 : decode bb_L_countIn 11 = .ok (.if_icmp .ge 39, 3) := by decide +kernel
theorem dc_L_countIn_14 : decode bb_L_countIn 14 = .ok (.aload_n 0, 1) := by decide +kernel
theorem dc_L_countIn_15 : decode bb_L_countIn 15 = .ok (.getfield 17, 3) := by decide +kernel
theorem dc_L_countIn_18 : decode bb_L_countIn 18 = .ok (.iconst 5, 1) := by decide +kernel
theorem dc_L_countIn_19 : decode bb_L_countIn 19 = .ok (.aaload, 1) := by decide +kernel
theorem dc_L_countIn_20 : decode bb_L_countIn 20 = .ok (.iload 4, 2) := by decide +kernel
theorem dc_L_countIn_22 : decode bb_L_countIn 22 = .ok (.iaload, 1) := by decide +kernel
theorem dc_L_countIn_23 : decode bb_L_countIn 23 = .ok (.iload_n 1, 1) := by decide +kernel
theorem dc_L_countIn_24 : decode bb_L_countIn 24 = .ok (.if_icmp .ne 20, 3) := by decide +kernel
theorem dc_L_countIn_27 : decode bb_L_countIn 27 = .ok (.aload_n 0, 1) := by decide +kernel
theorem dc_L_countIn_28 : decode bb_L_countIn 28 = .ok (.getfield 17, 3) := by decide +kernel
theorem dc_L_countIn_31 : decode bb_L_countIn 31 = .ok (.bipush 6, 2) := by decide +kernel
theorem dc_L_countIn_33 : decode bb_L_countIn 33 = .ok (.aaload, 1) := by decide +kernel
theorem dc_L_countIn_34 : decode bb_L_countIn 34 = .ok (.iload 4, 2) := by decide +kernel
theorem dc_L_countIn_36 : decode bb_L_countIn 36 = .ok (.iaload, 1) := by decide +kernel
theorem dc_L_countIn_37 : decode bb_L_countIn 37 = .ok (.iload_n 2, 1) := by decide +kernel
theorem dc_L_countIn_38 : decode bb_L_countIn 38 = .ok (.if_icmp .ne 6, 3) := by decide +kernel
theorem dc_L_countIn_41 : decode bb_L_countIn 41 = .ok (.iinc 3 1, 3) := by decide +kernel
theorem dc_L_countIn_44 : decode bb_L_countIn 44 = .ok (.iinc 4 1, 3) := by decide +kernel
theorem dc_L_countIn_47 : decode bb_L_countIn 47 = .ok (.goto (-42), 3) := by decide +kernel
theorem dc_L_countIn_50 : decode bb_L_countIn 50 = .ok (.iload_n 3, 1) := by decide +kernel
theorem dc_L_countIn_51 : decode bb_L_countIn 51 = .ok (.ireturn, 1) := by decide +kernel
theorem dc_L_find_0 : decode bb_L_find 0 = .ok (.iconst 0, 1) := by decide +kernel
theorem dc_L_find_1 : decode bb_L_find 1 = .ok (.istore_n 3, 1) := by decide +kernel
theorem dc_L_find_2 : decode bb_L_find 2 = .ok (.iload_n 3, 1) := by decide +kernel
theorem dc_L_find_3 : decode bb_L_find 3 = .ok (.aload_n 0, 1) := by decide +kernel
theorem dc_L_find_4 : decode bb_L_find 4 = .ok (.getfield 20, 3) := by decide +kernel
theorem dc_L_find_7 : decode bb_L_find 7 = .ok (.if_icmp .ge 36, 3) := by decide +kernel
theorem dc_L_find_10 : decode bb_L_find 10 = .ok (.aload_n 0, 1) := by decide +kernel
theorem dc_L_find_11 : decode bb_L_find 11 = .ok (.getfield 17, 3) := by decide +kernel
theorem dc_L_find_14 : decode bb_L_find 14 = .ok (.iconst 5, 1) := by decide +kernel
theorem dc_L_find_15 : decode bb_L_find 15 = .ok (.aaload, 1) := by decide +kernel
theorem dc_L_find_16 : decode bb_L_find 16 = .ok (.iload_n 3, 1) := by decide +kernel
theorem dc_L_find_17 : decode bb_L_find 17 = .ok (.iaload, 1) := by decide +kernel
theorem dc_L_find_18 : decode bb_L_find 18 = .ok (.iload_n 1, 1) := by decide +kernel
theorem dc_L_find_19 : decode bb_L_find 19 = .ok (.if_icmp .ne 18, 3) := by decide +kernel
theorem dc_L_find_22 : decode bb_L_find 22 = .ok (.aload_n 0, 1) := by decide +kernel
theorem dc_L_find_23 : decode bb_L_find 23 = .ok (.getfield 17, 3) := by decide +kernel
theorem dc_L_find_26 : decode bb_L_find 26 = .ok (.bipush 6, 2) := by decide +kernel
theorem dc_L_find_28 : decode bb_L_find 28 = .ok (.aaload, 1) := by decide +kernel
theorem dc_L_find_29 : decode bb_L_find 29 = .ok (.iload_n 3, 1) := by decide +kernel
theorem dc_L_find_30 : decode bb_L_find 30 = .ok (.iaload, 1) := by decide +kernel
theorem dc_L_find_31 : decode bb_L_find 31 = .ok (.iload_n 2, 1) := by decide +kernel
theorem dc_L_find_32 : decode bb_L_find 32 = .ok (.if_icmp .ne 5, 3) := by decide +kernel
theorem dc_L_find_35 : decode bb_L_find 35 = .ok (.iload_n 3, 1) := by decide +kernel
theorem dc_L_find_36 : decode bb_L_find 36 = .ok (.ireturn, 1) := by decide +kernel
theorem dc_L_find_37 : decode bb_L_find 37 = .ok (.iinc 3 1, 3) := by decide +kernel
theorem dc_L_find_40 : decode bb_L_find 40 = .ok (.goto (-38), 3) := by decide +kernel
theorem dc_L_find_43 : decode bb_L_find 43 = .ok (.iconst (-1), 1) := by decide +kernel
theorem dc_L_find_44 : decode bb_L_find 44 = .ok (.ireturn, 1) := by decide +kernel
theorem dc_L_trackKindsHold_0 : decode bb_L_trackKindsHold 0 = .ok (.aload_n 0, 1) := by decide +kernel
theorem dc_L_trackKindsHold_1 : decode bb_L_trackKindsHold 1 = .ok (.iload_n 1, 1) := by decide +kernel
theorem dc_L_trackKindsHold_2 : decode bb_L_trackKindsHold 2 = .ok (.bipush 115, 2) := by decide +kernel
theorem dc_L_trackKindsHold_4 : decode bb_L_trackKindsHold 4 = .ok (.invokevirtual 68, 3) := by decide +kernel
theorem dc_L_trackKindsHold_7 : decode bb_L_trackKindsHold 7 = .ok (.iconst 1, 1) := by decide +kernel
theorem dc_L_trackKindsHold_8 : decode bb_L_trackKindsHold 8 = .ok (.if_icmp .ne 81, 3) := by decide +kernel
theorem dc_L_trackKindsHold_11 : decode bb_L_trackKindsHold 11 = .ok (.aload_n 0, 1) := by decide +kernel
theorem dc_L_trackKindsHold_12 : decode bb_L_trackKindsHold 12 = .ok (.iload_n 1, 1) := by decide +kernel
theorem dc_L_trackKindsHold_13 : decode bb_L_trackKindsHold 13 = .ok (.bipush 107, 2) := by decide +kernel
theorem dc_L_trackKindsHold_15 : decode bb_L_trackKindsHold 15 = .ok (.invokevirtual 68, 3) := by decide +kernel
theorem dc_L_trackKindsHold_18 : decode bb_L_trackKindsHold 18 = .ok (.iconst 1, 1) := by decide +kernel
theorem dc_L_trackKindsHold_19 : decode bb_L_trackKindsHold 19 = .ok (.if_icmp .ne 70, 3) := by decide +kernel
theorem dc_L_trackKindsHold_22 : decode bb_L_trackKindsHold 22 = .ok (.aload_n 0, 1) := by decide +kernel
theorem dc_L_trackKindsHold_23 : decode bb_L_trackKindsHold 23 = .ok (.iload_n 1, 1) := by decide +kernel
theorem dc_L_trackKindsHold_24 : decode bb_L_trackKindsHold 24 = .ok (.bipush 122, 2) := by decide +kernel
theorem dc_L_trackKindsHold_26 : decode bb_L_trackKindsHold 26 = .ok (.invokevirtual 68, 3) := by decide +kernel
theorem dc_L_trackKindsHold_29 : decode bb_L_trackKindsHold 29 = .ok (.iconst 1, 1) := by decide +kernel
theorem dc_L_trackKindsHold_30 : decode bb_L_trackKindsHold 30 = .ok (.if_icmp .ne 59, 3) := by decide +kernel
theorem dc_L_trackKindsHold_33 : decode bb_L_trackKindsHold 33 = .ok (.aload_n 0, 1) := by decide +kernel
theorem dc_L_trackKindsHold_34 : decode bb_L_trackKindsHold 34 = .ok (.iload_n 1, 1) := by decide +kernel
theorem dc_L_trackKindsHold_35 : decode bb_L_trackKindsHold 35 = .ok (.bipush 111, 2) := by decide +kernel
theorem dc_L_trackKindsHold_37 : decode bb_L_trackKindsHold 37 = .ok (.invokevirtual 68, 3) := by decide +kernel
theorem dc_L_trackKindsHold_40 : decode bb_L_trackKindsHold 40 = .ok (.aload_n 0, 1) := by decide +kernel
theorem dc_L_trackKindsHold_41 : decode bb_L_trackKindsHold 41 = .ok (.iload_n 1, 1) := by decide +kernel
theorem dc_L_trackKindsHold_42 : decode bb_L_trackKindsHold 42 = .ok (.bipush 79, 2) := by decide +kernel
theorem dc_L_trackKindsHold_44 : decode bb_L_trackKindsHold 44 = .ok (.invokevirtual 68, 3) := by decide +kernel
theorem dc_L_trackKindsHold_47 : decode bb_L_trackKindsHold 47 = .ok (.iadd, 1) := by decide +kernel
theorem dc_L_trackKindsHold_48 : decode bb_L_trackKindsHold 48 = .ok (.iconst 1, 1) := by decide +kernel
theorem dc_L_trackKindsHold_49 : decode bb_L_trackKindsHold 49 = .ok (.if_icmp .ne 40, 3) := by decide +kernel
theorem dc_L_trackKindsHold_52 : decode bb_L_trackKindsHold 52 = .ok (.aload_n 0, 1) := by decide +kernel
theorem dc_L_trackKindsHold_53 : decode bb_L_trackKindsHold 53 = .ok (.iload_n 1, 1) := by decide +kernel
theorem dc_L_trackKindsHold_54 : decode bb_L_trackKindsHold 54 = .ok (.bipush 99, 2) := by decide +kernel
theorem dc_L_trackKindsHold_56 : decode bb_L_trackKindsHold 56 = .ok (.invokevirtual 68, 3) := by decide +kernel
theorem dc_L_trackKindsHold_59 : decode bb_L_trackKindsHold 59 = .ok (.iconst 1, 1) := by decide +kernel
theorem dc_L_trackKindsHold_60 : decode bb_L_trackKindsHold 60 = .ok (.if_icmp .gt 29, 3) := by decide +kernel
theorem dc_L_trackKindsHold_63 : decode bb_L_trackKindsHold 63 = .ok (.aload_n 0, 1) := by decide +kernel
theorem dc_L_trackKindsHold_64 : decode bb_L_trackKindsHold 64 = .ok (.iload_n 1, 1) := by decide +kernel
theorem dc_L_trackKindsHold_65 : decode bb_L_trackKindsHold 65 = .ok (.bipush 121, 2) := by decide +kernel
theorem dc_L_trackKindsHold_67 : decode bb_L_trackKindsHold 67 = .ok (.invokevirtual 68, 3) := by decide +kernel
theorem dc_L_trackKindsHold_70 : decode bb_L_trackKindsHold 70 = .ok (.iconst 1, 1) := by decide +kernel
theorem dc_L_trackKindsHold_71 : decode bb_L_trackKindsHold 71 = .ok (.if_icmp .gt 18, 3) := by decide +kernel
theorem dc_L_trackKindsHold_74 : decode bb_L_trackKindsHold 74 = .ok (.aload_n 0, 1) := by decide +kernel
theorem dc_L_trackKindsHold_75 : decode bb_L_trackKindsHold 75 = .ok (.iload_n 1, 1) := by decide +kernel
theorem dc_L_trackKindsHold_76 : decode bb_L_trackKindsHold 76 = .ok (.bipush 101, 2) := by decide +kernel
theorem dc_L_trackKindsHold_78 : decode bb_L_trackKindsHold 78 = .ok (.invokevirtual 68, 3) := by decide +kernel
theorem dc_L_trackKindsHold_81 : decode bb_L_trackKindsHold 81 = .ok (.iconst 1, 1) := by decide +kernel
theorem dc_L_trackKindsHold_82 : decode bb_L_trackKindsHold 82 = .ok (.if_icmp .gt 7, 3) := by decide +kernel
theorem dc_L_trackKindsHold_85 : decode bb_L_trackKindsHold 85 = .ok (.iconst 1, 1) := by decide +kernel
theorem dc_L_trackKindsHold_86 : decode bb_L_trackKindsHold 86 = .ok (.goto 4, 3) := by decide +kernel
theorem dc_L_trackKindsHold_89 : decode bb_L_trackKindsHold 89 = .ok (.iconst 0, 1) := by decide +kernel
theorem dc_L_trackKindsHold_90 : decode bb_L_trackKindsHold 90 = .ok (.ireturn, 1) := by decide +kernel
theorem dc_M_bindTracks_0 : decode bb_M_bindTracks 0 = .ok (.iconst 0, 1) := by decide +kernel
theorem dc_M_bindTracks_1 : decode bb_M_bindTracks 1 = .ok (.istore_n 1, 1) := by decide +kernel
theorem dc_M_bindTracks_2 : decode bb_M_bindTracks 2 = .ok (.iload_n 1, 1) := by decide +kernel
theorem dc_M_bindTracks_3 : decode bb_M_bindTracks 3 = .ok (.aload_n 0, 1) := by decide +kernel
theorem dc_M_bindTracks_4 : decode bb_M_bindTracks 4 = .ok (.getfield 21, 3) := by decide +kernel
theorem dc_M_bindTracks_7 : decode bb_M_bindTracks 7 = .ok (.invokevirtual 82, 3) := by decide +kernel
theorem dc_M_bindTracks_10 : decode bb_M_bindTracks 10 = .ok (.if_icmp .ge 55, 3) := by decide +kernel
theorem dc_M_bindTracks_13 : decode bb_M_bindTracks 13 = .ok (.aload_n 0, 1) := by decide +kernel
theorem dc_M_bindTracks_14 : decode bb_M_bindTracks 14 = .ok (.getfield 41, 3) := by decide +kernel
theorem dc_M_bindTracks_17 : decode bb_M_bindTracks 17 = .ok (.iconst 2, 1) := by decide +kernel
theorem dc_M_bindTracks_18 : decode bb_M_bindTracks 18 = .ok (.if_icmp .ge 47, 3) := by decide +kernel
theorem dc_M_bindTracks_21 : decode bb_M_bindTracks 21 = .ok (.aload_n 0, 1) := by decide +kernel
theorem dc_M_bindTracks_22 : decode bb_M_bindTracks 22 = .ok (.getfield 21, 3) := by decide +kernel
theorem dc_M_bindTracks_25 : decode bb_M_bindTracks 25 = .ok (.iload_n 1, 1) := by decide +kernel
theorem dc_M_bindTracks_26 : decode bb_M_bindTracks 26 = .ok (.bipush 6, 2) := by decide +kernel
theorem dc_M_bindTracks_28 : decode bb_M_bindTracks 28 = .ok (.invokevirtual 83, 3) := by decide +kernel
theorem dc_M_bindTracks_31 : decode bb_M_bindTracks 31 = .ok (.bipush 84, 2) := by decide +kernel
theorem dc_M_bindTracks_33 : decode bb_M_bindTracks 33 = .ok (.if_icmp .ne 26, 3) := by decide +kernel
theorem dc_M_bindTracks_36 : decode bb_M_bindTracks 36 = .ok (.aload_n 0, 1) := by decide +kernel
theorem dc_M_bindTracks_37 : decode bb_M_bindTracks 37 = .ok (.getfield 27, 3) := by decide +kernel
theorem dc_M_bindTracks_40 : decode bb_M_bindTracks 40 = .ok (.aload_n 0, 1) := by decide +kernel
theorem dc_M_bindTracks_41 : decode bb_M_bindTracks 41 = .ok (.getfield 41, 3) := by decide +kernel
theorem dc_M_bindTracks_44 : decode bb_M_bindTracks 44 = .ok (.aaload, 1) := by decide +kernel
theorem dc_M_bindTracks_45 : decode bb_M_bindTracks 45 = .ok (.iload_n 1, 1) := by decide +kernel
theorem dc_M_bindTracks_46 : decode bb_M_bindTracks 46 = .ok (.invokevirtual 119, 3) := by decide +kernel
theorem dc_M_bindTracks_49 : decode bb_M_bindTracks 49 = .ok (.aload_n 0, 1) := by decide +kernel
theorem dc_M_bindTracks_50 : decode bb_M_bindTracks 50 = .ok (.dup, 1) := by decide +kernel
theorem dc_M_bindTracks_51 : decode bb_M_bindTracks 51 = .ok (.getfield 41, 3) := by decide +kernel
theorem dc_M_bindTracks_54 : decode bb_M_bindTracks 54 = .ok (.iconst 1, 1) := by decide +kernel
theorem dc_M_bindTracks_55 : decode bb_M_bindTracks 55 = .ok (.iadd, 1) := by decide +kernel
theorem dc_M_bindTracks_56 : decode bb_M_bindTracks 56 = .ok (.putfield 41, 3) := by decide +kernel
theorem dc_M_bindTracks_59 : decode bb_M_bindTracks 59 = .ok (.iinc 1 1, 3) := by decide +kernel
theorem dc_M_bindTracks_62 : decode bb_M_bindTracks 62 = .ok (.goto (-60), 3) := by decide +kernel
theorem dc_M_bindTracks_65 : decode bb_M_bindTracks 65 = .ok (.return_, 1) := by decide +kernel
theorem dc_L_size_0 : decode bb_L_size 0 = .ok (.aload_n 0, 1) := by decide +kernel
theorem dc_L_size_1 : decode bb_L_size 1 = .ok (.getfield 20, 3) := by decide +kernel
theorem dc_L_size_4 : decode bb_L_size 4 = .ok (.ireturn, 1) := by decide +kernel
theorem dc_K_bind_0 : decode bb_K_bind 0 = .ok (.aload_n 0, 1) := by decide +kernel
theorem dc_K_bind_1 : decode bb_K_bind 1 = .ok (.getfield 20, 3) := by decide +kernel
theorem dc_K_bind_4 : decode bb_K_bind 4 = .ok (.aload_n 0, 1) := by decide +kernel
theorem dc_K_bind_5 : decode bb_K_bind 5 = .ok (.getfield 9, 3) := by decide +kernel
theorem dc_K_bind_8 : decode bb_K_bind 8 = .ok (.aload_n 0, 1) := by decide +kernel
theorem dc_K_bind_9 : decode bb_K_bind 9 = .ok (.getfield 9, 3) := by decide +kernel
theorem dc_K_bind_12 : decode bb_K_bind 12 = .ok (.iload_n 1, 1) := by decide +kernel
theorem dc_K_bind_13 : decode bb_K_bind 13 = .ok (.bipush 115, 2) := by decide +kernel
theorem dc_K_bind_15 : decode bb_K_bind 15 = .ok (.invokevirtual 55, 3) := by decide +kernel
theorem dc_K_bind_18 : decode bb_K_bind 18 = .ok (.iconst 2, 1) := by decide +kernel
theorem dc_K_bind_19 : decode bb_K_bind 19 = .ok (.invokevirtual 61, 3) := by decide +kernel
theorem dc_K_bind_22 : decode bb_K_bind 22 = .ok (.aload_n 0, 1) := by decide +kernel
theorem dc_K_bind_23 : decode bb_K_bind 23 = .ok (.getfield 24, 3) := by decide +kernel
theorem dc_K_bind_26 : decode bb_K_bind 26 = .ok (.aload_n 0, 1) := by decide +kernel
theorem dc_K_bind_27 : decode bb_K_bind 27 = .ok (.getfield 9, 3) := by decide +kernel
theorem dc_K_bind_30 : decode bb_K_bind 30 = .ok (.aload_n 0, 1) := by decide +kernel
theorem dc_K_bind_31 : decode bb_K_bind 31 = .ok (.getfield 9, 3) := by decide +kernel
theorem dc_K_bind_34 : decode bb_K_bind 34 = .ok (.iload_n 1, 1) := by decide +kernel
theorem dc_K_bind_35 : decode bb_K_bind 35 = .ok (.bipush 99, 2) := by decide +kernel
theorem dc_K_bind_37 : decode bb_K_bind 37 = .ok (.invokevirtual 55, 3) := by decide +kernel
theorem dc_K_bind_40 : decode bb_K_bind 40 = .ok (.iconst 2, 1) := by decide +kernel
theorem dc_K_bind_41 : decode bb_K_bind 41 = .ok (.invokevirtual 61, 3) := by decide +kernel
theorem dc_K_bind_44 : decode bb_K_bind 44 = .ok (.aload_n 0, 1) := by decide +kernel
theorem dc_K_bind_45 : decode bb_K_bind 45 = .ok (.getfield 27, 3) := by decide +kernel
theorem dc_K_bind_48 : decode bb_K_bind 48 = .ok (.aload_n 0, 1) := by decide +kernel
theorem dc_K_bind_49 : decode bb_K_bind 49 = .ok (.getfield 9, 3) := by decide +kernel
theorem dc_K_bind_52 : decode bb_K_bind 52 = .ok (.aload_n 0, 1) := by decide +kernel
theorem dc_K_bind_53 : decode bb_K_bind 53 = .ok (.getfield 9, 3) := by decide +kernel
theorem dc_K_bind_56 : decode bb_K_bind 56 = .ok (.iload_n 1, 1) := by decide +kernel
theorem dc_K_bind_57 : decode bb_K_bind 57 = .ok (.bipush 107, 2) := by decide +kernel
theorem dc_K_bind_59 : decode bb_K_bind 59 = .ok (.invokevirtual 55, 3) := by decide +kernel
theorem dc_K_bind_62 : decode bb_K_bind 62 = .ok (.iconst 3, 1) := by decide +kernel
theorem dc_K_bind_63 : decode bb_K_bind 63 = .ok (.invokevirtual 61, 3) := by decide +kernel
theorem dc_K_bind_66 : decode bb_K_bind 66 = .ok (.aload_n 0, 1) := by decide +kernel
theorem dc_K_bind_67 : decode bb_K_bind 67 = .ok (.getfield 33, 3) := by decide +kernel
theorem dc_K_bind_70 : decode bb_K_bind 70 = .ok (.aload_n 0, 1) := by decide +kernel
theorem dc_K_bind_71 : decode bb_K_bind 71 = .ok (.getfield 9, 3) := by decide +kernel
theorem dc_K_bind_74 : decode bb_K_bind 74 = .ok (.aload_n 0, 1) := by decide +kernel
theorem dc_K_bind_75 : decode bb_K_bind 75 = .ok (.getfield 9, 3) := by decide +kernel
theorem dc_K_bind_78 : decode bb_K_bind 78 = .ok (.iload_n 1, 1) := by decide +kernel
theorem dc_K_bind_79 : decode bb_K_bind 79 = .ok (.bipush 121, 2) := by decide +kernel
theorem dc_K_bind_81 : decode bb_K_bind 81 = .ok (.invokevirtual 55, 3) := by decide +kernel
theorem dc_K_bind_84 : decode bb_K_bind 84 = .ok (.iconst 1, 1) := by decide +kernel
theorem dc_K_bind_85 : decode bb_K_bind 85 = .ok (.invokevirtual 61, 3) := by decide +kernel
theorem dc_K_bind_88 : decode bb_K_bind 88 = .ok (.aload_n 0, 1) := by decide +kernel
theorem dc_K_bind_89 : decode bb_K_bind 89 = .ok (.getfield 36, 3) := by decide +kernel
theorem dc_K_bind_92 : decode bb_K_bind 92 = .ok (.aload_n 0, 1) := by decide +kernel
theorem dc_K_bind_93 : decode bb_K_bind 93 = .ok (.getfield 9, 3) := by decide +kernel
theorem dc_K_bind_96 : decode bb_K_bind 96 = .ok (.aload_n 0, 1) := by decide +kernel
theorem dc_K_bind_97 : decode bb_K_bind 97 = .ok (.getfield 9, 3) := by decide +kernel
theorem dc_K_bind_100 : decode bb_K_bind 100 = .ok (.iload_n 1, 1) := by decide +kernel
theorem dc_K_bind_101 : decode bb_K_bind 101 = .ok (.bipush 101, 2) := by decide +kernel
theorem dc_K_bind_103 : decode bb_K_bind 103 = .ok (.invokevirtual 55, 3) := by decide +kernel
theorem dc_K_bind_106 : decode bb_K_bind 106 = .ok (.iconst 2, 1) := by decide +kernel
theorem dc_K_bind_107 : decode bb_K_bind 107 = .ok (.invokevirtual 61, 3) := by decide +kernel
theorem dc_K_bind_110 : decode bb_K_bind 110 = .ok (.aload_n 0, 1) := by decide +kernel
theorem dc_K_bind_111 : decode bb_K_bind 111 = .ok (.getfield 42, 3) := by decide +kernel
theorem dc_K_bind_114 : decode bb_K_bind 114 = .ok (.aload_n 0, 1) := by decide +kernel
theorem dc_K_bind_115 : decode bb_K_bind 115 = .ok (.getfield 9, 3) := by decide +kernel
theorem dc_K_bind_118 : decode bb_K_bind 118 = .ok (.aload_n 0, 1) := by decide +kernel
theorem dc_K_bind_119 : decode bb_K_bind 119 = .ok (.getfield 9, 3) := by decide +kernel
theorem dc_K_bind_122 : decode bb_K_bind 122 = .ok (.iload_n 1, 1) := by decide +kernel
theorem dc_K_bind_123 : decode bb_K_bind 123 = .ok (.bipush 122, 2) := by decide +kernel
theorem dc_K_bind_125 : decode bb_K_bind 125 = .ok (.invokevirtual 55, 3) := by decide +kernel
theorem dc_K_bind_128 : decode bb_K_bind 128 = .ok (.invokevirtual 65, 3) := by decide +kernel
theorem dc_K_bind_131 : decode bb_K_bind 131 = .ok (.aload_n 0, 1) := by decide +kernel
theorem dc_K_bind_132 : decode bb_K_bind 132 = .ok (.getfield 9, 3) := by decide +kernel
theorem dc_K_bind_135 : decode bb_K_bind 135 = .ok (.iload_n 1, 1) := by decide +kernel
theorem dc_K_bind_136 : decode bb_K_bind 136 = .ok (.bipush 111, 2) := by decide +kernel
theorem dc_K_bind_138 : decode bb_K_bind 138 = .ok (.invokevirtual 55, 3) := by decide +kernel
theorem dc_K_bind_141 : decode bb_K_bind 141 = .ok (.istore_n 2, 1) := by decide +kernel
theorem dc_K_bind_142 : decode bb_K_bind 142 = .ok (.iload_n 2, 1) := by decide +kernel
theorem dc_K_bind_143 : decode bb_K_bind 143 = .ok (.iconst (-1), 1) := by decide +kernel
theorem dc_K_bind_144 : decode bb_K_bind 144 = .ok (.if_icmp .eq 19, 3) := by decide +kernel
theorem dc_K_bind_147 : decode bb_K_bind 147 = .ok (.aload_n 0, 1) := by decide +kernel
theorem dc_K_bind_148 : decode bb_K_bind 148 = .ok (.getfield 30, 3) := by decide +kernel
theorem dc_K_bind_151 : decode bb_K_bind 151 = .ok (.aload_n 0, 1) := by decide +kernel
theorem dc_K_bind_152 : decode bb_K_bind 152 = .ok (.getfield 9, 3) := by decide +kernel
theorem dc_K_bind_155 : decode bb_K_bind 155 = .ok (.iload_n 2, 1) := by decide +kernel
theorem dc_K_bind_156 : decode bb_K_bind 156 = .ok (.iconst 1, 1) := by decide +kernel
theorem dc_K_bind_157 : decode bb_K_bind 157 = .ok (.invokevirtual 61, 3) := by decide +kernel
theorem dc_K_bind_160 : decode bb_K_bind 160 = .ok (.goto 25, 3) := by decide +kernel
theorem dc_K_bind_163 : decode bb_K_bind 163 = .ok (.aload_n 0, 1) := by decide +kernel
theorem dc_K_bind_164 : decode bb_K_bind 164 = .ok (.getfield 30, 3) := by decide +kernel
theorem dc_K_bind_167 : decode bb_K_bind 167 = .ok (.aload_n 0, 1) := by decide +kernel
theorem dc_K_bind_168 : decode bb_K_bind 168 = .ok (.getfield 9, 3) := by decide +kernel
theorem dc_K_bind_171 : decode bb_K_bind 171 = .ok (.aload_n 0, 1) := by decide +kernel
theorem dc_K_bind_172 : decode bb_K_bind 172 = .ok (.getfield 9, 3) := by decide +kernel
theorem dc_K_bind_175 : decode bb_K_bind 175 = .ok (.iload_n 1, 1) := by decide +kernel
theorem dc_K_bind_176 : decode bb_K_bind 176 = .ok (.bipush 79, 2) := by decide +kernel
theorem dc_K_bind_178 : decode bb_K_bind 178 = .ok (.invokevirtual 55, 3) := by decide +kernel
theorem dc_K_bind_181 : decode bb_K_bind 181 = .ok (.iconst 2, 1) := by decide +kernel
theorem dc_K_bind_182 : decode bb_K_bind 182 = .ok (.invokevirtual 61, 3) := by decide +kernel
theorem dc_K_bind_185 : decode bb_K_bind 185 = .ok (.aload_n 0, 1) := by decide +kernel
theorem dc_K_bind_186 : decode bb_K_bind 186 = .ok (.iconst 0, 1) := by decide +kernel
theorem dc_K_bind_187 : decode bb_K_bind 187 = .ok (.putfield 51, 3) := by decide +kernel
theorem dc_K_bind_190 : decode bb_K_bind 190 = .ok (.return_, 1) := by decide +kernel
theorem dc_T_bind_0 : decode bb_T_bind 0 = .ok (.aload_n 0, 1) := by decide +kernel
theorem dc_T_bind_1 : decode bb_T_bind 1 = .ok (.iload_n 2, 1) := by decide +kernel
theorem dc_T_bind_2 : decode bb_T_bind 2 = .ok (.iconst (-1), 1) := by decide +kernel
theorem dc_T_bind_3 : decode bb_T_bind 3 = .ok (.if_icmp .eq 7, 3) := by decide +kernel
theorem dc_T_bind_6 : decode bb_T_bind 6 = .ok (.iconst 1, 1) := by decide +kernel
theorem dc_T_bind_7 : decode bb_T_bind 7 = .ok (.goto 4, 3) := by decide +kernel
theorem dc_T_bind_10 : decode bb_T_bind 10 = .ok (.iconst 0, 1) := by decide +kernel
theorem dc_T_bind_11 : decode bb_T_bind 11 = .ok (.putfield 13, 3) := by decide +kernel
theorem dc_T_bind_14 : decode bb_T_bind 14 = .ok (.aload_n 0, 1) := by decide +kernel
theorem dc_T_bind_15 : decode bb_T_bind 15 = .ok (.aload_n 0, 1) := by decide +kernel
theorem dc_T_bind_16 : decode bb_T_bind 16 = .ok (.getfield 13, 3) := by decide +kernel
theorem dc_T_bind_19 : decode bb_T_bind 19 = .ok (.ifCond .eq 11, 3) := by decide +kernel
theorem dc_T_bind_22 : decode bb_T_bind 22 = .ok (.aload_n 1, 1) := by decide +kernel
theorem dc_T_bind_23 : decode bb_T_bind 23 = .ok (.iload_n 2, 1) := by decide +kernel
theorem dc_T_bind_24 : decode bb_T_bind 24 = .ok (.invokevirtual 32, 3) := by decide +kernel
theorem dc_T_bind_27 : decode bb_T_bind 27 = .ok (.goto 4, 3) := by decide +kernel
theorem dc_T_bind_30 : decode bb_T_bind 30 = .ok (.iconst 0, 1) := by decide +kernel
theorem dc_T_bind_31 : decode bb_T_bind 31 = .ok (.putfield 17, 3) := by decide +kernel
theorem dc_T_bind_34 : decode bb_T_bind 34 = .ok (.aload_n 0, 1) := by decide +kernel
theorem dc_T_bind_35 : decode bb_T_bind 35 = .ok (.aload_n 0, 1) := by decide +kernel
theorem dc_T_bind_36 : decode bb_T_bind 36 = .ok (.getfield 13, 3) := by decide +kernel
theorem dc_T_bind_39 : decode bb_T_bind 39 = .ok (.ifCond .eq 11, 3) := by decide +kernel
theorem dc_T_bind_42 : decode bb_T_bind 42 = .ok (.aload_n 1, 1) := by decide +kernel
theorem dc_T_bind_43 : decode bb_T_bind 43 = .ok (.iload_n 2, 1) := by decide +kernel
theorem dc_T_bind_44 : decode bb_T_bind 44 = .ok (.invokevirtual 36, 3) := by decide +kernel
theorem dc_T_bind_47 : decode bb_T_bind 47 = .ok (.goto 4, 3) := by decide +kernel
theorem dc_T_bind_50 : decode bb_T_bind 50 = .ok (.iconst 0, 1) := by decide +kernel
theorem dc_T_bind_51 : decode bb_T_bind 51 = .ok (.putfield 21, 3) := by decide +kernel
theorem dc_T_bind_54 : decode bb_T_bind 54 = .ok (.aload_n 0, 1) := by decide +kernel
theorem dc_T_bind_55 : decode bb_T_bind 55 = .ok (.iload_n 3, 1) := by decide +kernel
theorem dc_T_bind_56 : decode bb_T_bind 56 = .ok (.putfield 24, 3) := by decide +kernel
theorem dc_T_bind_59 : decode bb_T_bind 59 = .ok (.aload_n 0, 1) := by decide +kernel
theorem dc_T_bind_60 : decode bb_T_bind 60 = .ok (.aload_n 0, 1) := by decide +kernel
theorem dc_T_bind_61 : decode bb_T_bind 61 = .ok (.getfield 21, 3) := by decide +kernel
theorem dc_T_bind_64 : decode bb_T_bind 64 = .ok (.iconst 1, 1) := by decide +kernel
theorem dc_T_bind_65 : decode bb_T_bind 65 = .ok (.if_icmp .lt 17, 3) := by decide +kernel
theorem dc_T_bind_68 : decode bb_T_bind 68 = .ok (.aload_n 0, 1) := by decide +kernel
theorem dc_T_bind_69 : decode bb_T_bind 69 = .ok (.getfield 7, 3) := by decide +kernel
theorem dc_T_bind_72 : decode bb_T_bind 72 = .ok (.aload_n 0, 1) := by decide +kernel
theorem dc_T_bind_73 : decode bb_T_bind 73 = .ok (.getfield 17, 3) := by decide +kernel
theorem dc_T_bind_76 : decode bb_T_bind 76 = .ok (.invokevirtual 39, 3) := by decide +kernel
theorem dc_T_bind_79 : decode bb_T_bind 79 = .ok (.goto 4, 3) := by decide +kernel
theorem dc_T_bind_82 : decode bb_T_bind 82 = .ok (.iconst 0, 1) := by decide +kernel
theorem dc_T_bind_83 : decode bb_T_bind 83 = .ok (.putfield 27, 3) := by decide +kernel
theorem dc_T_bind_86 : decode bb_T_bind 86 = .ok (.return_, 1) := by decide +kernel
theorem dc_L_payloadSizeOf_0 : decode bb_L_payloadSizeOf 0 = .ok (.iload_n 1, 1) := by decide +kernel
theorem dc_L_payloadSizeOf_1 : decode bb_L_payloadSizeOf 1 = .ok (.ifCond .lt 31, 3) := by decide +kernel
theorem dc_L_payloadSizeOf_4 : decode bb_L_payloadSizeOf 4 = .ok (.iload_n 1, 1) := by decide +kernel
theorem dc_L_payloadSizeOf_5 : decode bb_L_payloadSizeOf 5 = .ok (.aload_n 0, 1) := by decide +kernel
theorem dc_L_payloadSizeOf_6 : decode bb_L_payloadSizeOf 6 = .ok (.getfield 20, 3) := by decide +kernel
theorem dc_L_payloadSizeOf_9 : decode bb_L_payloadSizeOf 9 = .ok (.if_icmp .ge 23, 3) := by decide +kernel
theorem dc_L_payloadSizeOf_12 : decode bb_L_payloadSizeOf 12 = .ok (.aload_n 0, 1) := by decide +kernel
theorem dc_L_payloadSizeOf_13 : decode bb_L_payloadSizeOf 13 = .ok (.getfield 17, 3) := by decide +kernel
theorem dc_L_payloadSizeOf_16 : decode bb_L_payloadSizeOf 16 = .ok (.iconst 1, 1) := by decide +kernel
theorem dc_L_payloadSizeOf_17 : decode bb_L_payloadSizeOf 17 = .ok (.aaload, 1) := by decide +kernel
theorem dc_L_payloadSizeOf_18 : decode bb_L_payloadSizeOf 18 = .ok (.iload_n 1, 1) := by decide +kernel
theorem dc_L_payloadSizeOf_19 : decode bb_L_payloadSizeOf 19 = .ok (.iaload, 1) := by decide +kernel
theorem dc_L_payloadSizeOf_20 : decode bb_L_payloadSizeOf 20 = .ok (.aload_n 0, 1) := by decide +kernel
theorem dc_L_payloadSizeOf_21 : decode bb_L_payloadSizeOf 21 = .ok (.getfield 17, 3) := by decide +kernel
theorem dc_L_payloadSizeOf_24 : decode bb_L_payloadSizeOf 24 = .ok (.iconst 3, 1) := by decide +kernel
theorem dc_L_payloadSizeOf_25 : decode bb_L_payloadSizeOf 25 = .ok (.aaload, 1) := by decide +kernel
theorem dc_L_payloadSizeOf_26 : decode bb_L_payloadSizeOf 26 = .ok (.iload_n 1, 1) := by decide +kernel
theorem dc_L_payloadSizeOf_27 : decode bb_L_payloadSizeOf 27 = .ok (.iaload, 1) := by decide +kernel
theorem dc_L_payloadSizeOf_28 : decode bb_L_payloadSizeOf 28 = .ok (.isub, 1) := by decide +kernel
theorem dc_L_payloadSizeOf_29 : decode bb_L_payloadSizeOf 29 = .ok (.goto 6, 3) := by decide +kernel
theorem dc_L_payloadSizeOf_32 : decode bb_L_payloadSizeOf 32 = .ok (.sipush (-1000), 3) := by decide +kernel
theorem dc_L_payloadSizeOf_35 : decode bb_L_payloadSizeOf 35 = .ok (.ireturn, 1) := by decide +kernel
theorem dc_Z_bind_0 : decode bb_Z_bind 0 = .ok (.aload_n 0, 1) := by decide +kernel
theorem dc_Z_bind_1 : decode bb_Z_bind 1 = .ok (.aload_n 1, 1) := by decide +kernel
theorem dc_Z_bind_2 : decode bb_Z_bind 2 = .ok (.iload_n 2, 1) := by decide +kernel
theorem dc_Z_bind_3 : decode bb_Z_bind 3 = .ok (.invokevirtual 26, 3) := by decide +kernel
theorem dc_Z_bind_6 : decode bb_Z_bind 6 = .ok (.putfield 13, 3) := by decide +kernel
theorem dc_Z_bind_9 : decode bb_Z_bind 9 = .ok (.aload_n 0, 1) := by decide +kernel
theorem dc_Z_bind_10 : decode bb_Z_bind 10 = .ok (.aload_n 1, 1) := by decide +kernel
theorem dc_Z_bind_11 : decode bb_Z_bind 11 = .ok (.iload_n 2, 1) := by decide +kernel
theorem dc_Z_bind_12 : decode bb_Z_bind 12 = .ok (.invokevirtual 32, 3) := by decide +kernel
theorem dc_Z_bind_15 : decode bb_Z_bind 15 = .ok (.putfield 17, 3) := by decide +kernel
theorem dc_Z_bind_18 : decode bb_Z_bind 18 = .ok (.aload_n 0, 1) := by decide +kernel
theorem dc_Z_bind_19 : decode bb_Z_bind 19 = .ok (.aload_n 0, 1) := by decide +kernel
theorem dc_Z_bind_20 : decode bb_Z_bind 20 = .ok (.getfield 17, 3) := by decide +kernel
theorem dc_Z_bind_23 : decode bb_Z_bind 23 = .ok (.iconst 2, 1) := by decide +kernel
theorem dc_Z_bind_24 : decode bb_Z_bind 24 = .ok (.if_icmp .lt 17, 3) := by decide +kernel
theorem dc_Z_bind_27 : decode bb_Z_bind 27 = .ok (.aload_n 0, 1) := by decide +kernel
theorem dc_Z_bind_28 : decode bb_Z_bind 28 = .ok (.getfield 7, 3) := by decide +kernel
theorem dc_Z_bind_31 : decode bb_Z_bind 31 = .ok (.aload_n 0, 1) := by decide +kernel
theorem dc_Z_bind_32 : decode bb_Z_bind 32 = .ok (.getfield 13, 3) := by decide +kernel
theorem dc_Z_bind_35 : decode bb_Z_bind 35 = .ok (.invokevirtual 35, 3) := by decide +kernel
theorem dc_Z_bind_38 : decode bb_Z_bind 38 = .ok (.goto 4, 3) := by decide +kernel
theorem dc_Z_bind_41 : decode bb_Z_bind 41 = .ok (.iconst 0, 1) := by decide +kernel
theorem dc_Z_bind_42 : decode bb_Z_bind 42 = .ok (.putfield 20, 3) := by decide +kernel
theorem dc_Z_bind_45 : decode bb_Z_bind 45 = .ok (.aload_n 0, 1) := by decide +kernel
theorem dc_Z_bind_46 : decode bb_Z_bind 46 = .ok (.aload_n 0, 1) := by decide +kernel
theorem dc_Z_bind_47 : decode bb_Z_bind 47 = .ok (.getfield 17, 3) := by decide +kernel
theorem dc_Z_bind_50 : decode bb_Z_bind 50 = .ok (.iconst 2, 1) := by decide +kernel
theorem dc_Z_bind_51 : decode bb_Z_bind 51 = .ok (.if_icmp .lt 19, 3) := by decide +kernel
theorem dc_Z_bind_54 : decode bb_Z_bind 54 = .ok (.aload_n 0, 1) := by decide +kernel
theorem dc_Z_bind_55 : decode bb_Z_bind 55 = .ok (.getfield 7, 3) := by decide +kernel
theorem dc_Z_bind_58 : decode bb_Z_bind 58 = .ok (.aload_n 0, 1) := by decide +kernel
theorem dc_Z_bind_59 : decode bb_Z_bind 59 = .ok (.getfield 13, 3) := by decide +kernel
theorem dc_Z_bind_62 : decode bb_Z_bind 62 = .ok (.iconst 1, 1) := by decide +kernel
theorem dc_Z_bind_63 : decode bb_Z_bind 63 = .ok (.iadd, 1) := by decide +kernel
theorem dc_Z_bind_64 : decode bb_Z_bind 64 = .ok (.invokevirtual 35, 3) := by decide +kernel
theorem dc_Z_bind_67 : decode bb_Z_bind 67 = .ok (.goto 4, 3) := by decide +kernel
theorem dc_Z_bind_70 : decode bb_Z_bind 70 = .ok (.iconst 0, 1) := by decide +kernel
theorem dc_Z_bind_71 : decode bb_Z_bind 71 = .ok (.putfield 23, 3) := by decide +kernel
theorem dc_Z_bind_74 : decode bb_Z_bind 74 = .ok (.return_, 1) := by decide +kernel
theorem dc_M_tableFault_0 : decode bb_M_tableFault 0 = .ok (.iconst 0, 1) := by decide +kernel
theorem dc_M_tableFault_1 : decode bb_M_tableFault 1 = .ok (.istore_n 1, 1) := by decide +kernel
theorem dc_M_tableFault_2 : decode bb_M_tableFault 2 = .ok (.iload_n 1, 1) := by decide +kernel
theorem dc_M_tableFault_3 : decode bb_M_tableFault 3 = .ok (.aload_n 0, 1) := by decide +kernel
theorem dc_M_tableFault_4 : decode bb_M_tableFault 4 = .ok (.getfield 41, 3) := by decide +kernel
theorem dc_M_tableFault_7 : decode bb_M_tableFault 7 = .ok (.if_icmp .ge 23, 3) := by decide +kernel
theorem dc_M_tableFault_10 : decode bb_M_tableFault 10 = .ok (.aload_n 0, 1) := by decide +kernel
theorem dc_M_tableFault_11 : decode bb_M_tableFault 11 = .ok (.getfield 27, 3) := by decide +kernel
theorem dc_M_tableFault_14 : decode bb_M_tableFault 14 = .ok (.iload_n 1, 1) := by decide +kernel
theorem dc_M_tableFault_15 : decode bb_M_tableFault 15 = .ok (.aaload, 1) := by decide +kernel
theorem dc_M_tableFault_16 : decode bb_M_tableFault 16 = .ok (.invokevirtual 122, 3) := by decide +kernel
theorem dc_M_tableFault_19 : decode bb_M_tableFault 19 = .ok (.ifCond .ne 5, 3) := by decide +kernel
theorem dc_M_tableFault_22 : decode bb_M_tableFault 22 = .ok (.iconst 4, 1) := by decide +kernel
theorem dc_M_tableFault_23 : decode bb_M_tableFault 23 = .ok (.ireturn, 1) := by decide +kernel
theorem dc_M_tableFault_24 : decode bb_M_tableFault 24 = .ok (.iinc 1 1, 3) := by decide +kernel
theorem dc_M_tableFault_27 : decode bb_M_tableFault 27 = .ok (.goto (-25), 3) := by decide +kernel
theorem dc_M_tableFault_30 : decode bb_M_tableFault 30 = .ok (.iconst 0, 1) := by decide +kernel
theorem dc_M_tableFault_31 : decode bb_M_tableFault 31 = .ok (.istore_n 1, 1) := by decide +kernel
theorem dc_M_tableFault_32 : decode bb_M_tableFault 32 = .ok (.iload_n 1, 1) := by decide +kernel
theorem dc_M_tableFault_33 : decode bb_M_tableFault 33 = .ok (.aload_n 0, 1) := by decide +kernel
theorem dc_M_tableFault_34 : decode bb_M_tableFault 34 = .ok (.getfield 41, 3) := by decide +kernel
theorem dc_M_tableFault_37 : decode bb_M_tableFault 37 = .ok (.if_icmp .ge 23, 3) := by decide +kernel
theorem dc_M_tableFault_40 : decode bb_M_tableFault 40 = .ok (.aload_n 0, 1) := by decide +kernel
theorem dc_M_tableFault_41 : decode bb_M_tableFault 41 = .ok (.getfield 27, 3) := by decide +kernel
theorem dc_M_tableFault_44 : decode bb_M_tableFault 44 = .ok (.iload_n 1, 1) := by decide +kernel
theorem dc_M_tableFault_45 : decode bb_M_tableFault 45 = .ok (.aaload, 1) := by decide +kernel
theorem dc_M_tableFault_46 : decode bb_M_tableFault 46 = .ok (.invokevirtual 125, 3) := by decide +kernel
theorem dc_M_tableFault_49 : decode bb_M_tableFault 49 = .ok (.ifCond .ne 5, 3) := by decide +kernel
theorem dc_M_tableFault_52 : decode bb_M_tableFault 52 = .ok (.iconst 5, 1) := by decide +kernel
theorem dc_M_tableFault_53 : decode bb_M_tableFault 53 = .ok (.ireturn, 1) := by decide +kernel
theorem dc_M_tableFault_54 : decode bb_M_tableFault 54 = .ok (.iinc 1 1, 3) := by decide +kernel
theorem dc_M_tableFault_57 : decode bb_M_tableFault 57 = .ok (.goto (-25), 3) := by decide +kernel
theorem dc_M_tableFault_60 : decode bb_M_tableFault 60 = .ok (.iconst 0, 1) := by decide +kernel
theorem dc_M_tableFault_61 : decode bb_M_tableFault 61 = .ok (.istore_n 1, 1) := by decide +kernel
theorem dc_M_tableFault_62 : decode bb_M_tableFault 62 = .ok (.iload_n 1, 1) := by decide +kernel
theorem dc_M_tableFault_63 : decode bb_M_tableFault 63 = .ok (.aload_n 0, 1) := by decide +kernel
theorem dc_M_tableFault_64 : decode bb_M_tableFault 64 = .ok (.getfield 41, 3) := by decide +kernel
theorem dc_M_tableFault_67 : decode bb_M_tableFault 67 = .ok (.if_icmp .ge 24, 3) := by decide +kernel
theorem dc_M_tableFault_70 : decode bb_M_tableFault 70 = .ok (.aload_n 0, 1) := by decide +kernel
theorem dc_M_tableFault_71 : decode bb_M_tableFault 71 = .ok (.getfield 27, 3) := by decide +kernel
theorem dc_M_tableFault_74 : decode bb_M_tableFault 74 = .ok (.iload_n 1, 1) := by decide +kernel
theorem dc_M_tableFault_75 : decode bb_M_tableFault 75 = .ok (.aaload, 1) := by decide +kernel
theorem dc_M_tableFault_76 : decode bb_M_tableFault 76 = .ok (.invokevirtual 128, 3) := by decide +kernel
theorem dc_M_tableFault_79 : decode bb_M_tableFault 79 = .ok (.ifCond .ne 6, 3) := by decide +kernel
theorem dc_M_tableFault_82 : decode bb_M_tableFault 82 = .ok (.bipush 6, 2) := by decide +kernel
theorem dc_M_tableFault_84 : decode bb_M_tableFault 84 = .ok (.ireturn, 1) := by decide +kernel
theorem dc_M_tableFault_85 : decode bb_M_tableFault 85 = .ok (.iinc 1 1, 3) := by decide +kernel
theorem dc_M_tableFault_88 : decode bb_M_tableFault 88 = .ok (.goto (-26), 3) := by decide +kernel
theorem dc_M_tableFault_91 : decode bb_M_tableFault 91 = .ok (.iconst 0, 1) := by decide +kernel
theorem dc_M_tableFault_92 : decode bb_M_tableFault 92 = .ok (.ireturn, 1) := by decide +kernel
theorem dc_K_rowsHold_0 : decode bb_K_rowsHold 0 = .ok (.aload_n 0, 1) := by decide +kernel
theorem dc_K_rowsHold_1 : decode bb_K_rowsHold 1 = .ok (.getfield 42, 3) := by decide +kernel
theorem dc_K_rowsHold_4 : decode bb_K_rowsHold 4 = .ok (.invokevirtual 68, 3) := by decide +kernel
theorem dc_K_rowsHold_7 : decode bb_K_rowsHold 7 = .ok (.ifCond .eq 139, 3) := by decide +kernel
theorem dc_K_rowsHold_10 : decode bb_K_rowsHold 10 = .ok (.aload_n 0, 1) := by decide +kernel
theorem dc_K_rowsHold_11 : decode bb_K_rowsHold 11 = .ok (.getfield 20, 3) := by decide +kernel
theorem dc_K_rowsHold_14 : decode bb_K_rowsHold 14 = .ok (.invokevirtual 72, 3) := by decide +kernel
theorem dc_K_rowsHold_17 : decode bb_K_rowsHold 17 = .ok (.ifCond .eq 129, 3) := by decide +kernel
theorem dc_K_rowsHold_20 : decode bb_K_rowsHold 20 = .ok (.aload_n 0, 1) := by decide +kernel
theorem dc_K_rowsHold_21 : decode bb_K_rowsHold 21 = .ok (.getfield 24, 3) := by decide +kernel
theorem dc_K_rowsHold_24 : decode bb_K_rowsHold 24 = .ok (.invokevirtual 72, 3) := by decide +kernel
theorem dc_K_rowsHold_27 : decode bb_K_rowsHold 27 = .ok (.ifCond .eq 119, 3) := by decide +kernel
theorem dc_K_rowsHold_30 : decode bb_K_rowsHold 30 = .ok (.aload_n 0, 1) := by decide +kernel
theorem dc_K_rowsHold_31 : decode bb_K_rowsHold 31 = .ok (.getfield 27, 3) := by decide +kernel
theorem dc_K_rowsHold_34 : decode bb_K_rowsHold 34 = .ok (.invokevirtual 72, 3) := by decide +kernel
theorem dc_K_rowsHold_37 : decode bb_K_rowsHold 37 = .ok (.ifCond .eq 109, 3) := by decide +kernel
theorem dc_K_rowsHold_40 : decode bb_K_rowsHold 40 = .ok (.aload_n 0, 1) := by decide +kernel
theorem dc_K_rowsHold_41 : decode bb_K_rowsHold 41 = .ok (.getfield 30, 3) := by decide +kernel
theorem dc_K_rowsHold_44 : decode bb_K_rowsHold 44 = .ok (.invokevirtual 72, 3) := by decide +kernel
theorem dc_K_rowsHold_47 : decode bb_K_rowsHold 47 = .ok (.ifCond .eq 99, 3) := by decide +kernel
theorem dc_K_rowsHold_50 : decode bb_K_rowsHold 50 = .ok (.aload_n 0, 1) := by decide +kernel
theorem dc_K_rowsHold_51 : decode bb_K_rowsHold 51 = .ok (.getfield 33, 3) := by decide +kernel
theorem dc_K_rowsHold_54 : decode bb_K_rowsHold 54 = .ok (.invokevirtual 72, 3) := by decide +kernel
theorem dc_K_rowsHold_57 : decode bb_K_rowsHold 57 = .ok (.ifCond .eq 89, 3) := by decide +kernel
theorem dc_K_rowsHold_60 : decode bb_K_rowsHold 60 = .ok (.aload_n 0, 1) := by decide +kernel
theorem dc_K_rowsHold_61 : decode bb_K_rowsHold 61 = .ok (.getfield 36, 3) := by decide +kernel
theorem dc_K_rowsHold_64 : decode bb_K_rowsHold 64 = .ok (.invokevirtual 72, 3) := by decide +kernel
theorem dc_K_rowsHold_67 : decode bb_K_rowsHold 67 = .ok (.ifCond .eq 79, 3) := by decide +kernel
theorem dc_K_rowsHold_70 : decode bb_K_rowsHold 70 = .ok (.aload_n 0, 1) := by decide +kernel
theorem dc_K_rowsHold_71 : decode bb_K_rowsHold 71 = .ok (.getfield 27, 3) := by decide +kernel
theorem dc_K_rowsHold_74 : decode bb_K_rowsHold 74 = .ok (.invokevirtual 73, 3) := by decide +kernel
theorem dc_K_rowsHold_77 : decode bb_K_rowsHold 77 = .ok (.ifCond .eq 16, 3) := by decide +kernel
theorem dc_K_rowsHold_80 : decode bb_K_rowsHold 80 = .ok (.aload_n 0, 1) := by decide +kernel
theorem dc_K_rowsHold_81 : decode bb_K_rowsHold 81 = .ok (.getfield 27, 3) := by decide +kernel
theorem dc_K_rowsHold_84 : decode bb_K_rowsHold 84 = .ok (.iconst 0, 1) := by decide +kernel
theorem dc_K_rowsHold_85 : decode bb_K_rowsHold 85 = .ok (.iconst 0, 1) := by decide +kernel
theorem dc_K_rowsHold_86 : decode bb_K_rowsHold 86 = .ok (.invokevirtual 77, 3) := by decide +kernel
theorem dc_K_rowsHold_89 : decode bb_K_rowsHold 89 = .ok (.iconst 1, 1) := by decide +kernel
theorem dc_K_rowsHold_90 : decode bb_K_rowsHold 90 = .ok (.if_icmp .ne 56, 3) := by decide +kernel
theorem dc_K_rowsHold_93 : decode bb_K_rowsHold 93 = .ok (.aload_n 0, 1) := by decide +kernel
theorem dc_K_rowsHold_94 : decode bb_K_rowsHold 94 = .ok (.getfield 27, 3) := by decide +kernel
theorem dc_K_rowsHold_97 : decode bb_K_rowsHold 97 = .ok (.invokevirtual 80, 3) := by decide +kernel
theorem dc_K_rowsHold_100 : decode bb_K_rowsHold 100 = .ok (.ifCond .eq 46, 3) := by decide +kernel
theorem dc_K_rowsHold_103 : decode bb_K_rowsHold 103 = .ok (.aload_n 0, 1) := by decide +kernel
theorem dc_K_rowsHold_104 : decode bb_K_rowsHold 104 = .ok (.invokevirtual 83, 3) := by decide +kernel
theorem dc_K_rowsHold_107 : decode bb_K_rowsHold 107 = .ok (.ifCond .eq 39, 3) := by decide +kernel
theorem dc_K_rowsHold_110 : decode bb_K_rowsHold 110 = .ok (.aload_n 0, 1) := by decide +kernel
theorem dc_K_rowsHold_111 : decode bb_K_rowsHold 111 = .ok (.getfield 33, 3) := by decide +kernel
theorem dc_K_rowsHold_114 : decode bb_K_rowsHold 114 = .ok (.invokevirtual 73, 3) := by decide +kernel
theorem dc_K_rowsHold_117 : decode bb_K_rowsHold 117 = .ok (.ifCond .eq 15, 3) := by decide +kernel
theorem dc_K_rowsHold_120 : decode bb_K_rowsHold 120 = .ok (.aload_n 0, 1) := by decide +kernel
theorem dc_K_rowsHold_121 : decode bb_K_rowsHold 121 = .ok (.getfield 33, 3) := by decide +kernel
theorem dc_K_rowsHold_124 : decode bb_K_rowsHold 124 = .ok (.iconst 0, 1) := by decide +kernel
theorem dc_K_rowsHold_125 : decode bb_K_rowsHold 125 = .ok (.iconst 0, 1) := by decide +kernel
theorem dc_K_rowsHold_126 : decode bb_K_rowsHold 126 = .ok (.invokevirtual 77, 3) := by decide +kernel
theorem dc_K_rowsHold_129 : decode bb_K_rowsHold 129 = .ok (.ifCond .eq 17, 3) := by decide +kernel
theorem dc_K_rowsHold_132 : decode bb_K_rowsHold 132 = .ok (.aload_n 0, 1) := by decide +kernel
theorem dc_K_rowsHold_133 : decode bb_K_rowsHold 133 = .ok (.getfield 33, 3) := by decide +kernel
theorem dc_K_rowsHold_136 : decode bb_K_rowsHold 136 = .ok (.invokevirtual 80, 3) := by decide +kernel
theorem dc_K_rowsHold_139 : decode bb_K_rowsHold 139 = .ok (.ifCond .eq 7, 3) := by decide +kernel
theorem dc_K_rowsHold_142 : decode bb_K_rowsHold 142 = .ok (.iconst 1, 1) := by decide +kernel
theorem dc_K_rowsHold_143 : decode bb_K_rowsHold 143 = .ok (.goto 4, 3) := by decide +kernel
theorem dc_K_rowsHold_146 : decode bb_K_rowsHold 146 = .ok (.iconst 0, 1) := by decide +kernel
theorem dc_K_rowsHold_147 : decode bb_K_rowsHold 147 = .ok (.ireturn, 1) := by decide +kernel
theorem dc_Z_lengthHolds_0 : decode bb_Z_lengthHolds 0 = .ok (.aload_n 0, 1) := by decide +kernel
theorem dc_Z_lengthHolds_1 : decode bb_Z_lengthHolds 1 = .ok (.getfield 17, 3) := by decide +kernel
theorem dc_Z_lengthHolds_4 : decode bb_Z_lengthHolds 4 = .ok (.iconst 2, 1) := by decide +kernel
theorem dc_Z_lengthHolds_5 : decode bb_Z_lengthHolds 5 = .ok (.if_icmp .lt 31, 3) := by decide +kernel
theorem dc_Z_lengthHolds_8 : decode bb_Z_lengthHolds 8 = .ok (.aload_n 0, 1) := by decide +kernel
theorem dc_Z_lengthHolds_9 : decode bb_Z_lengthHolds 9 = .ok (.getfield 17, 3) := by decide +kernel
theorem dc_Z_lengthHolds_12 : decode bb_Z_lengthHolds 12 = .ok (.iconst 2, 1) := by decide +kernel
theorem dc_Z_lengthHolds_13 : decode bb_Z_lengthHolds 13 = .ok (.aload_n 0, 1) := by decide +kernel
theorem dc_Z_lengthHolds_14 : decode bb_Z_lengthHolds 14 = .ok (.getfield 20, 3) := by decide +kernel
theorem dc_Z_lengthHolds_17 : decode bb_Z_lengthHolds 17 = .ok (.ifCond .ne 10, 3) := by decide +kernel
theorem dc_Z_lengthHolds_20 : decode bb_Z_lengthHolds 20 = .ok (.aload_n 0, 1) := by decide +kernel
theorem dc_Z_lengthHolds_21 : decode bb_Z_lengthHolds 21 = .ok (.getfield 23, 3) := by decide +kernel
theorem dc_Z_lengthHolds_24 : decode bb_Z_lengthHolds 24 = .ok (.goto 4, 3) := by decide +kernel
theorem dc_Z_lengthHolds_27 : decode bb_Z_lengthHolds 27 = .ok (.iconst 0, 1) := by decide +kernel
theorem dc_Z_lengthHolds_28 : decode bb_Z_lengthHolds 28 = .ok (.iadd, 1) := by decide +kernel
theorem dc_Z_lengthHolds_29 : decode bb_Z_lengthHolds 29 = .ok (.if_icmp .ne 7, 3) := by decide +kernel
theorem dc_Z_lengthHolds_32 : decode bb_Z_lengthHolds 32 = .ok (.iconst 1, 1) := by decide +kernel
theorem dc_Z_lengthHolds_33 : decode bb_Z_lengthHolds 33 = .ok (.goto 4, 3) := by decide +kernel
theorem dc_Z_lengthHolds_36 : decode bb_Z_lengthHolds 36 = .ok (.iconst 0, 1) := by decide +kernel
theorem dc_Z_lengthHolds_37 : decode bb_Z_lengthHolds 37 = .ok (.ireturn, 1) := by decide +kernel
theorem dc_T_lengthHolds_0 : decode bb_T_lengthHolds 0 = .ok (.aload_n 0, 1) := by decide +kernel
theorem dc_T_lengthHolds_1 : decode bb_T_lengthHolds 1 = .ok (.getfield 13, 3) := by decide +kernel
theorem dc_T_lengthHolds_4 : decode bb_T_lengthHolds 4 = .ok (.ifCond .eq 29, 3) := by decide +kernel
theorem dc_T_lengthHolds_7 : decode bb_T_lengthHolds 7 = .ok (.aload_n 0, 1) := by decide +kernel
theorem dc_T_lengthHolds_8 : decode bb_T_lengthHolds 8 = .ok (.getfield 21, 3) := by decide +kernel
theorem dc_T_lengthHolds_11 : decode bb_T_lengthHolds 11 = .ok (.iconst 1, 1) := by decide +kernel
theorem dc_T_lengthHolds_12 : decode bb_T_lengthHolds 12 = .ok (.if_icmp .lt 25, 3) := by decide +kernel
theorem dc_T_lengthHolds_15 : decode bb_T_lengthHolds 15 = .ok (.aload_n 0, 1) := by decide +kernel
theorem dc_T_lengthHolds_16 : decode bb_T_lengthHolds 16 = .ok (.getfield 21, 3) := by decide +kernel
theorem dc_T_lengthHolds_19 : decode bb_T_lengthHolds 19 = .ok (.iconst 1, 1) := by decide +kernel
theorem dc_T_lengthHolds_20 : decode bb_T_lengthHolds 20 = .ok (.aload_n 0, 1) := by decide +kernel
theorem dc_T_lengthHolds_21 : decode bb_T_lengthHolds 21 = .ok (.getfield 27, 3) := by decide +kernel
theorem dc_T_lengthHolds_24 : decode bb_T_lengthHolds 24 = .ok (.aload_n 0, 1) := by decide +kernel
theorem dc_T_lengthHolds_25 : decode bb_T_lengthHolds 25 = .ok (.getfield 24, 3) := by decide +kernel
theorem dc_T_lengthHolds_28 : decode bb_T_lengthHolds 28 = .ok (.imul, 1) := by decide +kernel
theorem dc_T_lengthHolds_29 : decode bb_T_lengthHolds 29 = .ok (.iadd, 1) := by decide +kernel
theorem dc_T_lengthHolds_30 : decode bb_T_lengthHolds 30 = .ok (.if_icmp .ne 7, 3) := by decide +kernel
theorem dc_T_lengthHolds_33 : decode bb_T_lengthHolds 33 = .ok (.iconst 1, 1) := by decide +kernel
theorem dc_T_lengthHolds_34 : decode bb_T_lengthHolds 34 = .ok (.goto 4, 3) := by decide +kernel
theorem dc_T_lengthHolds_37 : decode bb_T_lengthHolds 37 = .ok (.iconst 0, 1) := by decide +kernel
theorem dc_T_lengthHolds_38 : decode bb_T_lengthHolds 38 = .ok (.ireturn, 1) := by decide +kernel
theorem dc_T_rows_0 : decode bb_T_rows 0 = .ok (.aload_n 0, 1) := by decide +kernel
theorem dc_T_rows_1 : decode bb_T_rows 1 = .ok (.getfield 27, 3) := by decide +kernel
theorem dc_T_rows_4 : decode bb_T_rows 4 = .ok (.ireturn, 1) := by decide +kernel
theorem dc_T_value_0 : decode bb_T_value 0 = .ok (.aload_n 0, 1) := by decide +kernel
theorem dc_T_value_1 : decode bb_T_value 1 = .ok (.getfield 7, 3) := by decide +kernel
theorem dc_T_value_4 : decode bb_T_value 4 = .ok (.aload_n 0, 1) := by decide +kernel
theorem dc_T_value_5 : decode bb_T_value 5 = .ok (.getfield 17, 3) := by decide +kernel
theorem dc_T_value_8 : decode bb_T_value 8 = .ok (.iconst 1, 1) := by decide +kernel
theorem dc_T_value_9 : decode bb_T_value 9 = .ok (.iadd, 1) := by decide +kernel
theorem dc_T_value_10 : decode bb_T_value 10 = .ok (.iload_n 1, 1) := by decide +kernel
theorem dc_T_value_11 : decode bb_T_value 11 = .ok (.aload_n 0, 1) := by decide +kernel
theorem dc_T_value_12 : decode bb_T_value 12 = .ok (.getfield 24, 3) := by decide +kernel
theorem dc_T_value_15 : decode bb_T_value 15 = .ok (.imul, 1) := by decide +kernel
theorem dc_T_value_16 : decode bb_T_value 16 = .ok (.iadd, 1) := by decide +kernel
theorem dc_T_value_17 : decode bb_T_value 17 = .ok (.iload_n 2, 1) := by decide +kernel
theorem dc_T_value_18 : decode bb_T_value 18 = .ok (.iadd, 1) := by decide +kernel
theorem dc_T_value_19 : decode bb_T_value 19 = .ok (.invokevirtual 39, 3) := by decide +kernel
theorem dc_T_value_22 : decode bb_T_value 22 = .ok (.ireturn, 1) := by decide +kernel
theorem dc_T_grows_0 : decode bb_T_grows 0 = .ok (.iconst 1, 1) := by decide +kernel
theorem dc_T_grows_1 : decode bb_T_grows 1 = .ok (.istore_n 1, 1) := by decide +kernel
theorem dc_T_grows_2 : decode bb_T_grows 2 = .ok (.iload_n 1, 1) := by decide +kernel
theorem dc_T_grows_3 : decode bb_T_grows 3 = .ok (.aload_n 0, 1) := by decide +kernel
theorem dc_T_grows_4 : decode bb_T_grows 4 = .ok (.getfield 27, 3) := by decide +kernel
theorem dc_T_grows_7 : decode bb_T_grows 7 = .ok (.if_icmp .ge 28, 3) := by decide +kernel
theorem dc_T_grows_10 : decode bb_T_grows 10 = .ok (.aload_n 0, 1) := by decide +kernel
theorem dc_T_grows_11 : decode bb_T_grows 11 = .ok (.iload_n 1, 1) := by decide +kernel
theorem dc_T_grows_12 : decode bb_T_grows 12 = .ok (.iconst 0, 1) := by decide +kernel
theorem dc_T_grows_13 : decode bb_T_grows 13 = .ok (.invokevirtual 44, 3) := by decide +kernel
theorem dc_T_grows_16 : decode bb_T_grows 16 = .ok (.aload_n 0, 1) := by decide +kernel
theorem dc_T_grows_17 : decode bb_T_grows 17 = .ok (.iload_n 1, 1) := by decide +kernel
theorem dc_T_grows_18 : decode bb_T_grows 18 = .ok (.iconst 1, 1) := by decide +kernel
theorem dc_T_grows_19 : decode bb_T_grows 19 = .ok (.isub, 1) := by decide +kernel
theorem dc_T_grows_20 : decode bb_T_grows 20 = .ok (.iconst 0, 1) := by decide +kernel
theorem dc_T_grows_21 : decode bb_T_grows 21 = .ok (.invokevirtual 44, 3) := by decide +kernel
theorem dc_T_grows_24 : decode bb_T_grows 24 = .ok (.if_icmp .gt 5, 3) := by decide +kernel
theorem dc_T_grows_27 : decode bb_T_grows 27 = .ok (.iconst 0, 1) := by decide +kernel
theorem dc_T_grows_28 : decode bb_T_grows 28 = .ok (.ireturn, 1) := by decide +kernel
theorem dc_T_grows_29 : decode bb_T_grows 29 = .ok (.iinc 1 1, 3) := by decide +kernel
theorem dc_T_grows_32 : decode bb_T_grows 32 = .ok (.goto (-30), 3) := by decide +kernel
theorem dc_T_grows_35 : decode bb_T_grows 35 = .ok (.iconst 1, 1) := by decide +kernel
theorem dc_T_grows_36 : decode bb_T_grows 36 = .ok (.ireturn, 1) := by decide +kernel
end
section
theorem dc_K_everyChunkRowHasSamples_0 : decode bb_K_everyChunkRowHasSamples 0 = .ok (.iconst 0, 1) := by decide +kernel
theorem dc_K_everyChunkRowHasSamples_1 : decode bb_K_everyChunkRowHasSamples 1 = .ok (.istore_n 1, 1) := by decide +kernel
theorem dc_K_everyChunkRowHasSamples_2 : decode bb_K_everyChunkRowHasSamples 2 = .ok (.iload_n 1, 1) := by decide +kernel
theorem dc_K_everyChunkRowHasSamples_3 : decode bb_K_everyChunkRowHasSamples 3 = .ok (.aload_n 0, 1) := by decide +kernel
theorem dc_K_everyChunkRowHasSamples_4 : decode bb_K_everyChunkRowHasSamples 4 = .ok (.getfield 27, 3) := by decide +kernel
theorem dc_K_everyChunkRowHasSamples_7 : decode bb_K_everyChunkRowHasSamples 7 = .ok (.invokevirtual 73, 3) := by decide +kernel
theorem dc_K_everyChunkRowHasSamples_10 : decode bb_K_everyChunkRowHasSamples 10 = .ok (.if_icmp .ge 23, 3) := by decide +kernel
theorem dc_K_everyChunkRowHasSamples_13 : decode bb_K_everyChunkRowHasSamples 13 = .ok (.aload_n 0, 1) := by decide +kernel
theorem dc_K_everyChunkRowHasSamples_14 : decode bb_K_everyChunkRowHasSamples 14 = .ok (.getfield 27, 3) := by decide +kernel
theorem dc_K_everyChunkRowHasSamples_17 : decode bb_K_everyChunkRowHasSamples 17 = .ok (.iload_n 1, 1) := by decide +kernel
theorem dc_K_everyChunkRowHasSamples_18 : decode bb_K_everyChunkRowHasSamples 18 = .ok (.iconst 1, 1) := by decide +kernel
theorem dc_K_everyChunkRowHasSamples_19 : decode bb_K_everyChunkRowHasSamples 19 = .ok (.invokevirtual 77, 3) := by decide +kernel
theorem dc_K_everyChunkRowHasSamples_22 : decode bb_K_everyChunkRowHasSamples 22 = .ok (.ifCond .ne 5, 3) := by decide +kernel
theorem dc_K_everyChunkRowHasSamples_25 : decode bb_K_everyChunkRowHasSamples 25 = .ok (.iconst 0, 1) := by decide +kernel
theorem dc_K_everyChunkRowHasSamples_26 : decode bb_K_everyChunkRowHasSamples 26 = .ok (.ireturn, 1) := by decide +kernel
theorem dc_K_everyChunkRowHasSamples_27 : decode bb_K_everyChunkRowHasSamples 27 = .ok (.iinc 1 1, 3) := by decide +kernel
theorem dc_K_everyChunkRowHasSamples_30 : decode bb_K_everyChunkRowHasSamples 30 = .ok (.goto (-28), 3) := by decide +kernel
theorem dc_K_everyChunkRowHasSamples_33 : decode bb_K_everyChunkRowHasSamples 33 = .ok (.iconst 1, 1) := by decide +kernel
theorem dc_K_everyChunkRowHasSamples_34 : decode bb_K_everyChunkRowHasSamples 34 = .ok (.ireturn, 1) := by decide +kernel
theorem dc_K_countsHold_0 : decode bb_K_countsHold 0 = .ok (.aload_n 0, 1) := by decide +kernel
theorem dc_K_countsHold_1 : decode bb_K_countsHold 1 = .ok (.getfield 42, 3) := by decide +kernel
theorem dc_K_countsHold_4 : decode bb_K_countsHold 4 = .ok (.invokevirtual 86, 3) := by decide +kernel
theorem dc_K_countsHold_7 : decode bb_K_countsHold 7 = .ok (.istore_n 1, 1) := by decide +kernel
theorem dc_K_countsHold_8 : decode bb_K_countsHold 8 = .ok (.aload_n 0, 1) := by decide +kernel
theorem dc_K_countsHold_9 : decode bb_K_countsHold 9 = .ok (.getfield 20, 3) := by decide +kernel
theorem dc_K_countsHold_12 : decode bb_K_countsHold 12 = .ok (.invokevirtual 88, 3) := by decide +kernel
theorem dc_K_countsHold_15 : decode bb_K_countsHold 15 = .ok (.iload_n 1, 1) := by decide +kernel
theorem dc_K_countsHold_16 : decode bb_K_countsHold 16 = .ok (.if_icmp .ne 51, 3) := by decide +kernel
theorem dc_K_countsHold_19 : decode bb_K_countsHold 19 = .ok (.aload_n 0, 1) := by decide +kernel
theorem dc_K_countsHold_20 : decode bb_K_countsHold 20 = .ok (.getfield 24, 3) := by decide +kernel
theorem dc_K_countsHold_23 : decode bb_K_countsHold 23 = .ok (.invokevirtual 91, 3) := by decide +kernel
theorem dc_K_countsHold_26 : decode bb_K_countsHold 26 = .ok (.ifCond .eq 14, 3) := by decide +kernel
theorem dc_K_countsHold_29 : decode bb_K_countsHold 29 = .ok (.aload_n 0, 1) := by decide +kernel
theorem dc_K_countsHold_30 : decode bb_K_countsHold 30 = .ok (.getfield 24, 3) := by decide +kernel
theorem dc_K_countsHold_33 : decode bb_K_countsHold 33 = .ok (.invokevirtual 88, 3) := by decide +kernel
theorem dc_K_countsHold_36 : decode bb_K_countsHold 36 = .ok (.iload_n 1, 1) := by decide +kernel
theorem dc_K_countsHold_37 : decode bb_K_countsHold 37 = .ok (.if_icmp .ne 30, 3) := by decide +kernel
theorem dc_K_countsHold_40 : decode bb_K_countsHold 40 = .ok (.aload_n 0, 1) := by decide +kernel
theorem dc_K_countsHold_41 : decode bb_K_countsHold 41 = .ok (.invokevirtual 94, 3) := by decide +kernel
theorem dc_K_countsHold_44 : decode bb_K_countsHold 44 = .ok (.ifCond .eq 23, 3) := by decide +kernel
theorem dc_K_countsHold_47 : decode bb_K_countsHold 47 = .ok (.aload_n 0, 1) := by decide +kernel
theorem dc_K_countsHold_48 : decode bb_K_countsHold 48 = .ok (.invokevirtual 97, 3) := by decide +kernel
theorem dc_K_countsHold_51 : decode bb_K_countsHold 51 = .ok (.iload_n 1, 1) := by decide +kernel
theorem dc_K_countsHold_52 : decode bb_K_countsHold 52 = .ok (.if_icmp .ne 15, 3) := by decide +kernel
theorem dc_K_countsHold_55 : decode bb_K_countsHold 55 = .ok (.aload_n 0, 1) := by decide +kernel
theorem dc_K_countsHold_56 : decode bb_K_countsHold 56 = .ok (.iload_n 1, 1) := by decide +kernel
theorem dc_K_countsHold_57 : decode bb_K_countsHold 57 = .ok (.invokevirtual 100, 3) := by decide +kernel
theorem dc_K_countsHold_60 : decode bb_K_countsHold 60 = .ok (.ifCond .eq 7, 3) := by decide +kernel
theorem dc_K_countsHold_63 : decode bb_K_countsHold 63 = .ok (.iconst 1, 1) := by decide +kernel
theorem dc_K_countsHold_64 : decode bb_K_countsHold 64 = .ok (.goto 4, 3) := by decide +kernel
theorem dc_K_countsHold_67 : decode bb_K_countsHold 67 = .ok (.iconst 0, 1) := by decide +kernel
theorem dc_K_countsHold_68 : decode bb_K_countsHold 68 = .ok (.ireturn, 1) := by decide +kernel
theorem dc_Z_count_0 : decode bb_Z_count 0 = .ok (.aload_n 0, 1) := by decide +kernel
theorem dc_Z_count_1 : decode bb_Z_count 1 = .ok (.getfield 23, 3) := by decide +kernel
theorem dc_Z_count_4 : decode bb_Z_count 4 = .ok (.ireturn, 1) := by decide +kernel
theorem dc_T_totalOfCounts_0 : decode bb_T_totalOfCounts 0 = .ok (.iconst 0, 1) := by decide +kernel
theorem dc_T_totalOfCounts_1 : decode bb_T_totalOfCounts 1 = .ok (.istore_n 1, 1) := by decide +kernel
theorem dc_T_totalOfCounts_2 : decode bb_T_totalOfCounts 2 = .ok (.iconst 0, 1) := by decide +kernel
theorem dc_T_totalOfCounts_3 : decode bb_T_totalOfCounts 3 = .ok (.istore_n 2, 1) := by decide +kernel
theorem dc_T_totalOfCounts_4 : decode bb_T_totalOfCounts 4 = .ok (.iload_n 2, 1) := by decide +kernel
theorem dc_T_totalOfCounts_5 : decode bb_T_totalOfCounts 5 = .ok (.aload_n 0, 1) := by decide +kernel
theorem dc_T_totalOfCounts_6 : decode bb_T_totalOfCounts 6 = .ok (.getfield 27, 3) := by decide +kernel
theorem dc_T_totalOfCounts_9 : decode bb_T_totalOfCounts 9 = .ok (.if_icmp .ge 18, 3) := by decide +kernel
theorem dc_T_totalOfCounts_12 : decode bb_T_totalOfCounts 12 = .ok (.iload_n 1, 1) := by decide +kernel
theorem dc_T_totalOfCounts_13 : decode bb_T_totalOfCounts 13 = .ok (.aload_n 0, 1) := by decide +kernel
theorem dc_T_totalOfCounts_14 : decode bb_T_totalOfCounts 14 = .ok (.iload_n 2, 1) := by decide +kernel
theorem dc_T_totalOfCounts_15 : decode bb_T_totalOfCounts 15 = .ok (.iconst 0, 1) := by decide +kernel
theorem dc_T_totalOfCounts_16 : decode bb_T_totalOfCounts 16 = .ok (.invokevirtual 44, 3) := by decide +kernel
theorem dc_T_totalOfCounts_19 : decode bb_T_totalOfCounts 19 = .ok (.iadd, 1) := by decide +kernel
theorem dc_T_totalOfCounts_20 : decode bb_T_totalOfCounts 20 = .ok (.istore_n 1, 1) := by decide +kernel
theorem dc_T_totalOfCounts_21 : decode bb_T_totalOfCounts 21 = .ok (.iinc 2 1, 3) := by decide +kernel
theorem dc_T_totalOfCounts_24 : decode bb_T_totalOfCounts 24 = .ok (.goto (-20), 3) := by decide +kernel
theorem dc_T_totalOfCounts_27 : decode bb_T_totalOfCounts 27 = .ok (.iload_n 1, 1) := by decide +kernel
theorem dc_T_totalOfCounts_28 : decode bb_T_totalOfCounts 28 = .ok (.ireturn, 1) := by decide +kernel
theorem dc_T_isPresent_0 : decode bb_T_isPresent 0 = .ok (.aload_n 0, 1) := by decide +kernel
theorem dc_T_isPresent_1 : decode bb_T_isPresent 1 = .ok (.getfield 13, 3) := by decide +kernel
theorem dc_T_isPresent_4 : decode bb_T_isPresent 4 = .ok (.ireturn, 1) := by decide +kernel
theorem dc_K_chunkRowsMeetChunks_0 : decode bb_K_chunkRowsMeetChunks 0 = .ok (.aload_n 0, 1) := by decide +kernel
theorem dc_K_chunkRowsMeetChunks_1 : decode bb_K_chunkRowsMeetChunks 1 = .ok (.getfield 30, 3) := by decide +kernel
theorem dc_K_chunkRowsMeetChunks_4 : decode bb_K_chunkRowsMeetChunks 4 = .ok (.invokevirtual 73, 3) := by decide +kernel
theorem dc_K_chunkRowsMeetChunks_7 : decode bb_K_chunkRowsMeetChunks 7 = .ok (.ifCond .le 15, 3) := by decide +kernel
theorem dc_K_chunkRowsMeetChunks_10 : decode bb_K_chunkRowsMeetChunks 10 = .ok (.aload_n 0, 1) := by decide +kernel
theorem dc_K_chunkRowsMeetChunks_11 : decode bb_K_chunkRowsMeetChunks 11 = .ok (.getfield 27, 3) := by decide +kernel
theorem dc_K_chunkRowsMeetChunks_14 : decode bb_K_chunkRowsMeetChunks 14 = .ok (.invokevirtual 73, 3) := by decide +kernel
theorem dc_K_chunkRowsMeetChunks_17 : decode bb_K_chunkRowsMeetChunks 17 = .ok (.ifCond .ne 5, 3) := by decide +kernel
theorem dc_K_chunkRowsMeetChunks_20 : decode bb_K_chunkRowsMeetChunks 20 = .ok (.iconst 0, 1) := by decide +kernel
theorem dc_K_chunkRowsMeetChunks_21 : decode bb_K_chunkRowsMeetChunks 21 = .ok (.ireturn, 1) := by decide +kernel
theorem dc_K_chunkRowsMeetChunks_22 : decode bb_K_chunkRowsMeetChunks 22 = .ok (.iconst 0, 1) := by decide +kernel
theorem dc_K_chunkRowsMeetChunks_23 : decode bb_K_chunkRowsMeetChunks 23 = .ok (.istore_n 1, 1) := by decide +kernel
theorem dc_K_chunkRowsMeetChunks_24 : decode bb_K_chunkRowsMeetChunks 24 = .ok (.iload_n 1, 1) := by decide +kernel
theorem dc_K_chunkRowsMeetChunks_25 : decode bb_K_chunkRowsMeetChunks 25 = .ok (.aload_n 0, 1) := by decide +kernel
theorem dc_K_chunkRowsMeetChunks_26 : decode bb_K_chunkRowsMeetChunks 26 = .ok (.getfield 27, 3) := by decide +kernel
theorem dc_K_chunkRowsMeetChunks_29 : decode bb_K_chunkRowsMeetChunks 29 = .ok (.invokevirtual 73, 3) := by decide +kernel
theorem dc_K_chunkRowsMeetChunks_32 : decode bb_K_chunkRowsMeetChunks 32 = .ok (.if_icmp .ge 30, 3) := by decide +kernel
theorem dc_K_chunkRowsMeetChunks_35 : decode bb_K_chunkRowsMeetChunks 35 = .ok (.aload_n 0, 1) := by decide +kernel
theorem dc_K_chunkRowsMeetChunks_36 : decode bb_K_chunkRowsMeetChunks 36 = .ok (.getfield 27, 3) := by decide +kernel
theorem dc_K_chunkRowsMeetChunks_39 : decode bb_K_chunkRowsMeetChunks 39 = .ok (.iload_n 1, 1) := by decide +kernel
theorem dc_K_chunkRowsMeetChunks_40 : decode bb_K_chunkRowsMeetChunks 40 = .ok (.iconst 0, 1) := by decide +kernel
theorem dc_K_chunkRowsMeetChunks_41 : decode bb_K_chunkRowsMeetChunks 41 = .ok (.invokevirtual 77, 3) := by decide +kernel
theorem dc_K_chunkRowsMeetChunks_44 : decode bb_K_chunkRowsMeetChunks 44 = .ok (.aload_n 0, 1) := by decide +kernel
theorem dc_K_chunkRowsMeetChunks_45 : decode bb_K_chunkRowsMeetChunks 45 = .ok (.getfield 30, 3) := by decide +kernel
theorem dc_K_chunkRowsMeetChunks_48 : decode bb_K_chunkRowsMeetChunks 48 = .ok (.invokevirtual 73, 3) := by decide +kernel
theorem dc_K_chunkRowsMeetChunks_51 : decode bb_K_chunkRowsMeetChunks 51 = .ok (.if_icmp .le 5, 3) := by decide +kernel
theorem dc_K_chunkRowsMeetChunks_54 : decode bb_K_chunkRowsMeetChunks 54 = .ok (.iconst 0, 1) := by decide +kernel
theorem dc_K_chunkRowsMeetChunks_55 : decode bb_K_chunkRowsMeetChunks 55 = .ok (.ireturn, 1) := by decide +kernel
theorem dc_K_chunkRowsMeetChunks_56 : decode bb_K_chunkRowsMeetChunks 56 = .ok (.iinc 1 1, 3) := by decide +kernel
theorem dc_K_chunkRowsMeetChunks_59 : decode bb_K_chunkRowsMeetChunks 59 = .ok (.goto (-35), 3) := by decide +kernel
theorem dc_K_chunkRowsMeetChunks_62 : decode bb_K_chunkRowsMeetChunks 62 = .ok (.iconst 1, 1) := by decide +kernel
theorem dc_K_chunkRowsMeetChunks_63 : decode bb_K_chunkRowsMeetChunks 63 = .ok (.ireturn, 1) := by decide +kernel
theorem dc_K_samplesInChunks_0 : decode bb_K_samplesInChunks 0 = .ok (.iconst 0, 1) := by decide +kernel
theorem dc_K_samplesInChunks_1 : decode bb_K_samplesInChunks 1 = .ok (.istore_n 1, 1) := by decide +kernel
theorem dc_K_samplesInChunks_2 : decode bb_K_samplesInChunks 2 = .ok (.iconst 0, 1) := by decide +kernel
theorem dc_K_samplesInChunks_3 : decode bb_K_samplesInChunks 3 = .ok (.istore_n 2, 1) := by decide +kernel
theorem dc_K_samplesInChunks_4 : decode bb_K_samplesInChunks 4 = .ok (.iload_n 2, 1) := by decide +kernel
theorem dc_K_samplesInChunks_5 : decode bb_K_samplesInChunks 5 = .ok (.aload_n 0, 1) := by decide +kernel
theorem dc_K_samplesInChunks_6 : decode bb_K_samplesInChunks 6 = .ok (.getfield 27, 3) := by decide +kernel
theorem dc_K_samplesInChunks_9 : decode bb_K_samplesInChunks 9 = .ok (.invokevirtual 73, 3) := by decide +kernel
theorem dc_K_samplesInChunks_12 : decode bb_K_samplesInChunks 12 = .ok (.if_icmp .ge 82, 3) := by decide +kernel
theorem dc_K_samplesInChunks_15 : decode bb_K_samplesInChunks 15 = .ok (.iload_n 2, 1) := by decide +kernel
theorem dc_K_samplesInChunks_16 : decode bb_K_samplesInChunks 16 = .ok (.iconst 1, 1) := by decide +kernel
theorem dc_K_samplesInChunks_17 : decode bb_K_samplesInChunks 17 = .ok (.iadd, 1) := by decide +kernel
theorem dc_K_samplesInChunks_18 : decode bb_K_samplesInChunks 18 = .ok (.aload_n 0, 1) := by decide +kernel
theorem dc_K_samplesInChunks_19 : decode bb_K_samplesInChunks 19 = .ok (.getfield 27, 3) := by decide +kernel
theorem dc_K_samplesInChunks_22 : decode bb_K_samplesInChunks 22 = .ok (.invokevirtual 73, 3) := by decide +kernel
theorem dc_K_samplesInChunks_25 : decode bb_K_samplesInChunks 25 = .ok (.if_icmp .ne 7, 3) := by decide +kernel
theorem dc_K_samplesInChunks_28 : decode bb_K_samplesInChunks 28 = .ok (.iconst 1, 1) := by decide +kernel
theorem dc_K_samplesInChunks_29 : decode bb_K_samplesInChunks 29 = .ok (.goto 4, 3) := by decide +kernel
theorem dc_K_samplesInChunks_32 : decode bb_K_samplesInChunks 32 = .ok (.iconst 0, 1) := by decide +kernel
theorem dc_K_samplesInChunks_33 : decode bb_K_samplesInChunks 33 = .ok (.istore_n 3, 1) := by decide +kernel
theorem dc_K_samplesInChunks_34 : decode bb_K_samplesInChunks 34 = .ok (.iload_n 3, 1) := by decide +kernel
theorem dc_K_samplesInChunks_35 : decode bb_K_samplesInChunks 35 = .ok (.ifCond .eq 15, 3) := by decide +kernel
theorem dc_K_samplesInChunks_38 : decode bb_K_samplesInChunks 38 = .ok (.aload_n 0, 1) := by decide +kernel
theorem dc_K_samplesInChunks_39 : decode bb_K_samplesInChunks 39 = .ok (.getfield 30, 3) := by decide +kernel
theorem dc_K_samplesInChunks_42 : decode bb_K_samplesInChunks 42 = .ok (.invokevirtual 73, 3) := by decide +kernel
theorem dc_K_samplesInChunks_45 : decode bb_K_samplesInChunks 45 = .ok (.iconst 1, 1) := by decide +kernel
theorem dc_K_samplesInChunks_46 : decode bb_K_samplesInChunks 46 = .ok (.iadd, 1) := by decide +kernel
theorem dc_K_samplesInChunks_47 : decode bb_K_samplesInChunks 47 = .ok (.goto 14, 3) := by decide +kernel
theorem dc_K_samplesInChunks_50 : decode bb_K_samplesInChunks 50 = .ok (.aload_n 0, 1) := by decide +kernel
theorem dc_K_samplesInChunks_51 : decode bb_K_samplesInChunks 51 = .ok (.getfield 27, 3) := by decide +kernel
theorem dc_K_samplesInChunks_54 : decode bb_K_samplesInChunks 54 = .ok (.iload_n 2, 1) := by decide +kernel
theorem dc_K_samplesInChunks_55 : decode bb_K_samplesInChunks 55 = .ok (.iconst 1, 1) := by decide +kernel
theorem dc_K_samplesInChunks_56 : decode bb_K_samplesInChunks 56 = .ok (.iadd, 1) := by decide +kernel
theorem dc_K_samplesInChunks_57 : decode bb_K_samplesInChunks 57 = .ok (.iconst 0, 1) := by decide +kernel
theorem dc_K_samplesInChunks_58 : decode bb_K_samplesInChunks 58 = .ok (.invokevirtual 77, 3) := by decide +kernel
theorem dc_K_samplesInChunks_61 : decode bb_K_samplesInChunks 61 = .ok (.istore 4, 2) := by decide +kernel
theorem dc_K_samplesInChunks_63 : decode bb_K_samplesInChunks 63 = .ok (.iload_n 1, 1) := by decide +kernel
theorem dc_K_samplesInChunks_64 : decode bb_K_samplesInChunks 64 = .ok (.iload 4, 2) := by decide +kernel
theorem dc_K_samplesInChunks_66 : decode bb_K_samplesInChunks 66 = .ok (.aload_n 0, 1) := by decide +kernel
theorem dc_K_samplesInChunks_67 : decode bb_K_samplesInChunks 67 = .ok (.getfield 27, 3) := by decide +kernel
theorem dc_K_samplesInChunks_70 : decode bb_K_samplesInChunks 70 = .ok (.iload_n 2, 1) := by decide +kernel
theorem dc_K_samplesInChunks_71 : decode bb_K_samplesInChunks 71 = .ok (.iconst 0, 1) := by decide +kernel
theorem dc_K_samplesInChunks_72 : decode bb_K_samplesInChunks 72 = .ok (.invokevirtual 77, 3) := by decide +kernel
theorem dc_K_samplesInChunks_75 : decode bb_K_samplesInChunks 75 = .ok (.isub, 1) := by decide +kernel
theorem dc_K_samplesInChunks_76 : decode bb_K_samplesInChunks 76 = .ok (.aload_n 0, 1) := by decide +kernel
theorem dc_K_samplesInChunks_77 : decode bb_K_samplesInChunks 77 = .ok (.getfield 27, 3) := by decide +kernel
theorem dc_K_samplesInChunks_80 : decode bb_K_samplesInChunks 80 = .ok (.iload_n 2, 1) := by decide +kernel
theorem dc_K_samplesInChunks_81 : decode bb_K_samplesInChunks 81 = .ok (.iconst 1, 1) := by decide +kernel
theorem dc_K_samplesInChunks_82 : decode bb_K_samplesInChunks 82 = .ok (.invokevirtual 77, 3) := by decide +kernel
theorem dc_K_samplesInChunks_85 : decode bb_K_samplesInChunks 85 = .ok (.imul, 1) := by decide +kernel
theorem dc_K_samplesInChunks_86 : decode bb_K_samplesInChunks 86 = .ok (.iadd, 1) := by decide +kernel
theorem dc_K_samplesInChunks_87 : decode bb_K_samplesInChunks 87 = .ok (.istore_n 1, 1) := by decide +kernel
theorem dc_K_samplesInChunks_88 : decode bb_K_samplesInChunks 88 = .ok (.iinc 2 1, 3) := by decide +kernel
theorem dc_K_samplesInChunks_91 : decode bb_K_samplesInChunks 91 = .ok (.goto (-87), 3) := by decide +kernel
theorem dc_K_samplesInChunks_94 : decode bb_K_samplesInChunks 94 = .ok (.iload_n 1, 1) := by decide +kernel
theorem dc_K_samplesInChunks_95 : decode bb_K_samplesInChunks 95 = .ok (.ireturn, 1) := by decide +kernel
theorem dc_K_syncsStayWithin_0 : decode bb_K_syncsStayWithin 0 = .ok (.iconst 0, 1) := by decide +kernel
theorem dc_K_syncsStayWithin_1 : decode bb_K_syncsStayWithin 1 = .ok (.istore_n 2, 1) := by decide +kernel
theorem dc_K_syncsStayWithin_2 : decode bb_K_syncsStayWithin 2 = .ok (.iload_n 2, 1) := by decide +kernel
theorem dc_K_syncsStayWithin_3 : decode bb_K_syncsStayWithin 3 = .ok (.aload_n 0, 1) := by decide +kernel
theorem dc_K_syncsStayWithin_4 : decode bb_K_syncsStayWithin 4 = .ok (.getfield 33, 3) := by decide +kernel
theorem dc_K_syncsStayWithin_7 : decode bb_K_syncsStayWithin 7 = .ok (.invokevirtual 73, 3) := by decide +kernel
theorem dc_K_syncsStayWithin_10 : decode bb_K_syncsStayWithin 10 = .ok (.if_icmp .ge 24, 3) := by decide +kernel
theorem dc_K_syncsStayWithin_13 : decode bb_K_syncsStayWithin 13 = .ok (.aload_n 0, 1) := by decide +kernel
theorem dc_K_syncsStayWithin_14 : decode bb_K_syncsStayWithin 14 = .ok (.getfield 33, 3) := by decide +kernel
theorem dc_K_syncsStayWithin_17 : decode bb_K_syncsStayWithin 17 = .ok (.iload_n 2, 1) := by decide +kernel
theorem dc_K_syncsStayWithin_18 : decode bb_K_syncsStayWithin 18 = .ok (.iconst 0, 1) := by decide +kernel
theorem dc_K_syncsStayWithin_19 : decode bb_K_syncsStayWithin 19 = .ok (.invokevirtual 77, 3) := by decide +kernel
theorem dc_K_syncsStayWithin_22 : decode bb_K_syncsStayWithin 22 = .ok (.iload_n 1, 1) := by decide +kernel
theorem dc_K_syncsStayWithin_23 : decode bb_K_syncsStayWithin 23 = .ok (.if_icmp .le 5, 3) := by decide +kernel
theorem dc_K_syncsStayWithin_26 : decode bb_K_syncsStayWithin 26 = .ok (.iconst 0, 1) := by decide +kernel
theorem dc_K_syncsStayWithin_27 : decode bb_K_syncsStayWithin 27 = .ok (.ireturn, 1) := by decide +kernel
theorem dc_K_syncsStayWithin_28 : decode bb_K_syncsStayWithin 28 = .ok (.iinc 2 1, 3) := by decide +kernel
theorem dc_K_syncsStayWithin_31 : decode bb_K_syncsStayWithin 31 = .ok (.goto (-29), 3) := by decide +kernel
theorem dc_K_syncsStayWithin_34 : decode bb_K_syncsStayWithin 34 = .ok (.iconst 1, 1) := by decide +kernel
theorem dc_K_syncsStayWithin_35 : decode bb_K_syncsStayWithin 35 = .ok (.ireturn, 1) := by decide +kernel
theorem dc_K_dataHolds_0 : decode bb_K_dataHolds 0 = .ok (.iconst 0, 1) := by decide +kernel
theorem dc_K_dataHolds_1 : decode bb_K_dataHolds 1 = .ok (.istore_n 1, 1) := by decide +kernel
theorem dc_K_dataHolds_2 : decode bb_K_dataHolds 2 = .ok (.iconst 0, 1) := by decide +kernel
theorem dc_K_dataHolds_3 : decode bb_K_dataHolds 3 = .ok (.istore_n 2, 1) := by decide +kernel
theorem dc_K_dataHolds_4 : decode bb_K_dataHolds 4 = .ok (.iconst 1, 1) := by decide +kernel
theorem dc_K_dataHolds_5 : decode bb_K_dataHolds 5 = .ok (.istore_n 3, 1) := by decide +kernel
theorem dc_K_dataHolds_6 : decode bb_K_dataHolds 6 = .ok (.iload_n 3, 1) := by decide +kernel
theorem dc_K_dataHolds_7 : decode bb_K_dataHolds 7 = .ok (.aload_n 0, 1) := by decide +kernel
theorem dc_K_dataHolds_8 : decode bb_K_dataHolds 8 = .ok (.getfield 30, 3) := by decide +kernel
theorem dc_K_dataHolds_11 : decode bb_K_dataHolds 11 = .ok (.invokevirtual 73, 3) := by decide +kernel
theorem dc_K_dataHolds_14 : decode bb_K_dataHolds 14 = .ok (.if_icmp .gt 85, 3) := by decide +kernel
theorem dc_K_dataHolds_17 : decode bb_K_dataHolds 17 = .ok (.aload_n 0, 1) := by decide +kernel
theorem dc_K_dataHolds_18 : decode bb_K_dataHolds 18 = .ok (.iload_n 2, 1) := by decide +kernel
theorem dc_K_dataHolds_19 : decode bb_K_dataHolds 19 = .ok (.iload_n 3, 1) := by decide +kernel
theorem dc_K_dataHolds_20 : decode bb_K_dataHolds 20 = .ok (.invokevirtual 104, 3) := by decide +kernel
theorem dc_K_dataHolds_23 : decode bb_K_dataHolds 23 = .ok (.istore_n 2, 1) := by decide +kernel
theorem dc_K_dataHolds_24 : decode bb_K_dataHolds 24 = .ok (.aload_n 0, 1) := by decide +kernel
theorem dc_K_dataHolds_25 : decode bb_K_dataHolds 25 = .ok (.getfield 27, 3) := by decide +kernel
theorem dc_K_dataHolds_28 : decode bb_K_dataHolds 28 = .ok (.iload_n 2, 1) := by decide +kernel
theorem dc_K_dataHolds_29 : decode bb_K_dataHolds 29 = .ok (.iconst 1, 1) := by decide +kernel
theorem dc_K_dataHolds_30 : decode bb_K_dataHolds 30 = .ok (.invokevirtual 77, 3) := by decide +kernel
theorem dc_K_dataHolds_33 : decode bb_K_dataHolds 33 = .ok (.istore 4, 2) := by decide +kernel
theorem dc_K_dataHolds_35 : decode bb_K_dataHolds 35 = .ok (.aload_n 0, 1) := by decide +kernel
theorem dc_K_dataHolds_36 : decode bb_K_dataHolds 36 = .ok (.getfield 30, 3) := by decide +kernel
theorem dc_K_dataHolds_39 : decode bb_K_dataHolds 39 = .ok (.iload_n 3, 1) := by decide +kernel
theorem dc_K_dataHolds_40 : decode bb_K_dataHolds 40 = .ok (.iconst 1, 1) := by decide +kernel
theorem dc_K_dataHolds_41 : decode bb_K_dataHolds 41 = .ok (.isub, 1) := by decide +kernel
theorem dc_K_dataHolds_42 : decode bb_K_dataHolds 42 = .ok (.invokevirtual 107, 3) := by decide +kernel
theorem dc_K_dataHolds_45 : decode bb_K_dataHolds 45 = .ok (.istore 5, 2) := by decide +kernel
theorem dc_K_dataHolds_47 : decode bb_K_dataHolds 47 = .ok (.aload_n 0, 1) := by decide +kernel
theorem dc_K_dataHolds_48 : decode bb_K_dataHolds 48 = .ok (.getfield 9, 3) := by decide +kernel
theorem dc_K_dataHolds_51 : decode bb_K_dataHolds 51 = .ok (.iload 5, 2) := by decide +kernel
theorem dc_K_dataHolds_53 : decode bb_K_dataHolds 53 = .ok (.invokevirtual 111, 3) := by decide +kernel
theorem dc_K_dataHolds_56 : decode bb_K_dataHolds 56 = .ok (.istore 6, 2) := by decide +kernel
theorem dc_K_dataHolds_58 : decode bb_K_dataHolds 58 = .ok (.iload 6, 2) := by decide +kernel
theorem dc_K_dataHolds_60 : decode bb_K_dataHolds 60 = .ok (.iconst (-1), 1) := by decide +kernel
theorem dc_K_dataHolds_61 : decode bb_K_dataHolds 61 = .ok (.if_icmp .eq 25, 3) := by decide +kernel
theorem dc_K_dataHolds_64 : decode bb_K_dataHolds 64 = .ok (.iload 5, 2) := by decide +kernel
theorem dc_K_dataHolds_66 : decode bb_K_dataHolds 66 = .ok (.aload_n 0, 1) := by decide +kernel
theorem dc_K_dataHolds_67 : decode bb_K_dataHolds 67 = .ok (.iload_n 1, 1) := by decide +kernel
theorem dc_K_dataHolds_68 : decode bb_K_dataHolds 68 = .ok (.iload 4, 2) := by decide +kernel
theorem dc_K_dataHolds_70 : decode bb_K_dataHolds 70 = .ok (.invokevirtual 114, 3) := by decide +kernel
theorem dc_K_dataHolds_73 : decode bb_K_dataHolds 73 = .ok (.iadd, 1) := by decide +kernel
theorem dc_K_dataHolds_74 : decode bb_K_dataHolds 74 = .ok (.aload_n 0, 1) := by decide +kernel
theorem dc_K_dataHolds_75 : decode bb_K_dataHolds 75 = .ok (.getfield 9, 3) := by decide +kernel
theorem dc_K_dataHolds_78 : decode bb_K_dataHolds 78 = .ok (.iload 6, 2) := by decide +kernel
theorem dc_K_dataHolds_80 : decode bb_K_dataHolds 80 = .ok (.invokevirtual 117, 3) := by decide +kernel
theorem dc_K_dataHolds_83 : decode bb_K_dataHolds 83 = .ok (.if_icmp .le 5, 3) := by decide +kernel
theorem dc_K_dataHolds_86 : decode bb_K_dataHolds 86 = .ok (.iconst 0, 1) := by decide +kernel
theorem dc_K_dataHolds_87 : decode bb_K_dataHolds 87 = .ok (.ireturn, 1) := by decide +kernel
theorem dc_K_dataHolds_88 : decode bb_K_dataHolds 88 = .ok (.iload_n 1, 1) := by decide +kernel
theorem dc_K_dataHolds_89 : decode bb_K_dataHolds 89 = .ok (.iload 4, 2) := by decide +kernel
theorem dc_K_dataHolds_91 : decode bb_K_dataHolds 91 = .ok (.iadd, 1) := by decide +kernel
theorem dc_K_dataHolds_92 : decode bb_K_dataHolds 92 = .ok (.istore_n 1, 1) := by decide +kernel
theorem dc_K_dataHolds_93 : decode bb_K_dataHolds 93 = .ok (.iinc 3 1, 3) := by decide +kernel
theorem dc_K_dataHolds_96 : decode bb_K_dataHolds 96 = .ok (.goto (-90), 3) := by decide +kernel
theorem dc_K_dataHolds_99 : decode bb_K_dataHolds 99 = .ok (.iconst 1, 1) := by decide +kernel
theorem dc_K_dataHolds_100 : decode bb_K_dataHolds 100 = .ok (.ireturn, 1) := by decide +kernel
theorem dc_K_chunkRow_0 : decode bb_K_chunkRow 0 = .ok (.iload_n 1, 1) := by decide +kernel
theorem dc_K_chunkRow_1 : decode bb_K_chunkRow 1 = .ok (.iconst 1, 1) := by decide +kernel
theorem dc_K_chunkRow_2 : decode bb_K_chunkRow 2 = .ok (.iadd, 1) := by decide +kernel
theorem dc_K_chunkRow_3 : decode bb_K_chunkRow 3 = .ok (.aload_n 0, 1) := by decide +kernel
theorem dc_K_chunkRow_4 : decode bb_K_chunkRow 4 = .ok (.getfield 27, 3) := by decide +kernel
theorem dc_K_chunkRow_7 : decode bb_K_chunkRow 7 = .ok (.invokevirtual 73, 3) := by decide +kernel
theorem dc_K_chunkRow_10 : decode bb_K_chunkRow 10 = .ok (.if_icmp .ge 22, 3) := by decide +kernel
theorem dc_K_chunkRow_13 : decode bb_K_chunkRow 13 = .ok (.aload_n 0, 1) := by decide +kernel
theorem dc_K_chunkRow_14 : decode bb_K_chunkRow 14 = .ok (.getfield 27, 3) := by decide +kernel
theorem dc_K_chunkRow_17 : decode bb_K_chunkRow 17 = .ok (.iload_n 1, 1) := by decide +kernel
theorem dc_K_chunkRow_18 : decode bb_K_chunkRow 18 = .ok (.iconst 1, 1) := by decide +kernel
theorem dc_K_chunkRow_19 : decode bb_K_chunkRow 19 = .ok (.iadd, 1) := by decide +kernel
theorem dc_K_chunkRow_20 : decode bb_K_chunkRow 20 = .ok (.iconst 0, 1) := by decide +kernel
theorem dc_K_chunkRow_21 : decode bb_K_chunkRow 21 = .ok (.invokevirtual 77, 3) := by decide +kernel
theorem dc_K_chunkRow_24 : decode bb_K_chunkRow 24 = .ok (.iload_n 2, 1) := by decide +kernel
theorem dc_K_chunkRow_25 : decode bb_K_chunkRow 25 = .ok (.if_icmp .gt 7, 3) := by decide +kernel
theorem dc_K_chunkRow_28 : decode bb_K_chunkRow 28 = .ok (.iconst 1, 1) := by decide +kernel
theorem dc_K_chunkRow_29 : decode bb_K_chunkRow 29 = .ok (.goto 4, 3) := by decide +kernel
theorem dc_K_chunkRow_32 : decode bb_K_chunkRow 32 = .ok (.iconst 0, 1) := by decide +kernel
theorem dc_K_chunkRow_33 : decode bb_K_chunkRow 33 = .ok (.istore_n 3, 1) := by decide +kernel
theorem dc_K_chunkRow_34 : decode bb_K_chunkRow 34 = .ok (.iload_n 3, 1) := by decide +kernel
theorem dc_K_chunkRow_35 : decode bb_K_chunkRow 35 = .ok (.ifCond .eq 9, 3) := by decide +kernel
theorem dc_K_chunkRow_38 : decode bb_K_chunkRow 38 = .ok (.iload_n 1, 1) := by decide +kernel
theorem dc_K_chunkRow_39 : decode bb_K_chunkRow 39 = .ok (.iconst 1, 1) := by decide +kernel
theorem dc_K_chunkRow_40 : decode bb_K_chunkRow 40 = .ok (.iadd, 1) := by decide +kernel
theorem dc_K_chunkRow_41 : decode bb_K_chunkRow 41 = .ok (.goto 4, 3) := by decide +kernel
theorem dc_K_chunkRow_44 : decode bb_K_chunkRow 44 = .ok (.iload_n 1, 1) := by decide +kernel
theorem dc_K_chunkRow_45 : decode bb_K_chunkRow 45 = .ok (.ireturn, 1) := by decide +kernel
theorem dc_T_number_0 : decode bb_T_number 0 = .ok (.aload_n 0, 1) := by decide +kernel
theorem dc_T_number_1 : decode bb_T_number 1 = .ok (.getfield 24, 3) := by decide +kernel
theorem dc_T_number_4 : decode bb_T_number 4 = .ok (.iconst 1, 1) := by decide +kernel
theorem dc_T_number_5 : decode bb_T_number 5 = .ok (.if_icmp .ne 12, 3) := by decide +kernel
theorem dc_T_number_8 : decode bb_T_number 8 = .ok (.aload_n 0, 1) := by decide +kernel
theorem dc_T_number_9 : decode bb_T_number 9 = .ok (.iload_n 1, 1) := by decide +kernel
theorem dc_T_number_10 : decode bb_T_number 10 = .ok (.iconst 0, 1) := by decide +kernel
theorem dc_T_number_11 : decode bb_T_number 11 = .ok (.invokevirtual 44, 3) := by decide +kernel
theorem dc_T_number_14 : decode bb_T_number 14 = .ok (.goto 20, 3) := by decide +kernel
theorem dc_T_number_17 : decode bb_T_number 17 = .ok (.aload_n 0, 1) := by decide +kernel
theorem dc_T_number_18 : decode bb_T_number 18 = .ok (.iload_n 1, 1) := by decide +kernel
theorem dc_T_number_19 : decode bb_T_number 19 = .ok (.iconst 0, 1) := by decide +kernel
theorem dc_T_number_20 : decode bb_T_number 20 = .ok (.invokevirtual 44, 3) := by decide +kernel
theorem dc_T_number_23 : decode bb_T_number 23 = .ok (.sipush 256, 3) := by decide +kernel
theorem dc_T_number_26 : decode bb_T_number 26 = .ok (.imul, 1) := by decide +kernel
theorem dc_T_number_27 : decode bb_T_number 27 = .ok (.aload_n 0, 1) := by decide +kernel
theorem dc_T_number_28 : decode bb_T_number 28 = .ok (.iload_n 1, 1) := by decide +kernel
theorem dc_T_number_29 : decode bb_T_number 29 = .ok (.iconst 1, 1) := by decide +kernel
theorem dc_T_number_30 : decode bb_T_number 30 = .ok (.invokevirtual 44, 3) := by decide +kernel
theorem dc_T_number_33 : decode bb_T_number 33 = .ok (.iadd, 1) := by decide +kernel
theorem dc_T_number_34 : decode bb_T_number 34 = .ok (.ireturn, 1) := by decide +kernel
theorem dc_L_dataAround_0 : decode bb_L_dataAround 0 = .ok (.iconst 0, 1) := by decide +kernel
theorem dc_L_dataAround_1 : decode bb_L_dataAround 1 = .ok (.istore_n 2, 1) := by decide +kernel
theorem dc_L_dataAround_2 : decode bb_L_dataAround 2 = .ok (.iload_n 2, 1) := by decide +kernel
theorem dc_L_dataAround_3 : decode bb_L_dataAround 3 = .ok (.aload_n 0, 1) := by decide +kernel
theorem dc_L_dataAround_4 : decode bb_L_dataAround 4 = .ok (.getfield 20, 3) := by decide +kernel
theorem dc_L_dataAround_7 : decode bb_L_dataAround 7 = .ok (.if_icmp .ge 73, 3) := by decide +kernel
theorem dc_L_dataAround_10 : decode bb_L_dataAround 10 = .ok (.aload_n 0, 1) := by decide +kernel
theorem dc_L_dataAround_11 : decode bb_L_dataAround 11 = .ok (.getfield 17, 3) := by decide +kernel
theorem dc_L_dataAround_14 : decode bb_L_dataAround 14 = .ok (.iconst 0, 1) := by decide +kernel
theorem dc_L_dataAround_15 : decode bb_L_dataAround 15 = .ok (.aaload, 1) := by decide +kernel
theorem dc_L_dataAround_16 : decode bb_L_dataAround 16 = .ok (.iload_n 2, 1) := by decide +kernel
theorem dc_L_dataAround_17 : decode bb_L_dataAround 17 = .ok (.iaload, 1) := by decide +kernel
theorem dc_L_dataAround_18 : decode bb_L_dataAround 18 = .ok (.aload_n 0, 1) := by decide +kernel
theorem dc_L_dataAround_19 : decode bb_L_dataAround 19 = .ok (.getfield 17, 3) := by decide +kernel
theorem dc_L_dataAround_22 : decode bb_L_dataAround 22 = .ok (.iconst 3, 1) := by decide +kernel
theorem dc_L_dataAround_23 : decode bb_L_dataAround 23 = .ok (.aaload, 1) := by decide +kernel
theorem dc_L_dataAround_24 : decode bb_L_dataAround 24 = .ok (.iload_n 2, 1) := by decide +kernel
theorem dc_L_dataAround_25 : decode bb_L_dataAround 25 = .ok (.iaload, 1) := by decide +kernel
theorem dc_L_dataAround_26 : decode bb_L_dataAround 26 = .ok (.iadd, 1) := by decide +kernel
theorem dc_L_dataAround_27 : decode bb_L_dataAround 27 = .ok (.istore_n 3, 1) := by decide +kernel
theorem dc_L_dataAround_28 : decode bb_L_dataAround 28 = .ok (.aload_n 0, 1) := by decide +kernel
theorem dc_L_dataAround_29 : decode bb_L_dataAround 29 = .ok (.getfield 17, 3) := by decide +kernel
theorem dc_L_dataAround_32 : decode bb_L_dataAround 32 = .ok (.iconst 0, 1) := by decide +kernel
theorem dc_L_dataAround_33 : decode bb_L_dataAround 33 = .ok (.aaload, 1) := by decide +kernel
theorem dc_L_dataAround_34 : decode bb_L_dataAround 34 = .ok (.iload_n 2, 1) := by decide +kernel
theorem dc_L_dataAround_35 : decode bb_L_dataAround 35 = .ok (.iaload, 1) := by decide +kernel
theorem dc_L_dataAround_36 : decode bb_L_dataAround 36 = .ok (.aload_n 0, 1) := by decide +kernel
theorem dc_L_dataAround_37 : decode bb_L_dataAround 37 = .ok (.getfield 17, 3) := by decide +kernel
theorem dc_L_dataAround_40 : decode bb_L_dataAround 40 = .ok (.iconst 1, 1) := by decide +kernel
theorem dc_L_dataAround_41 : decode bb_L_dataAround 41 = .ok (.aaload, 1) := by decide +kernel
theorem dc_L_dataAround_42 : decode bb_L_dataAround 42 = .ok (.iload_n 2, 1) := by decide +kernel
theorem dc_L_dataAround_43 : decode bb_L_dataAround 43 = .ok (.iaload, 1) := by decide +kernel
theorem dc_L_dataAround_44 : decode bb_L_dataAround 44 = .ok (.iadd, 1) := by decide +kernel
theorem dc_L_dataAround_45 : decode bb_L_dataAround 45 = .ok (.istore 4, 2) := by decide +kernel
theorem dc_L_dataAround_47 : decode bb_L_dataAround 47 = .ok (.aload_n 0, 1) := by decide +kernel
theorem dc_L_dataAround_48 : decode bb_L_dataAround 48 = .ok (.getfield 17, 3) := by decide +kernel
theorem dc_L_dataAround_51 : decode bb_L_dataAround 51 = .ok (.bipush 6, 2) := by decide +kernel
theorem dc_L_dataAround_53 : decode bb_L_dataAround 53 = .ok (.aaload, 1) := by decide +kernel
theorem dc_L_dataAround_54 : decode bb_L_dataAround 54 = .ok (.iload_n 2, 1) := by decide +kernel
theorem dc_L_dataAround_55 : decode bb_L_dataAround 55 = .ok (.iaload, 1) := by decide +kernel
theorem dc_L_dataAround_56 : decode bb_L_dataAround 56 = .ok (.bipush 68, 2) := by decide +kernel
theorem dc_L_dataAround_58 : decode bb_L_dataAround 58 = .ok (.if_icmp .ne 16, 3) := by decide +kernel
theorem dc_L_dataAround_61 : decode bb_L_dataAround 61 = .ok (.iload_n 3, 1) := by decide +kernel
theorem dc_L_dataAround_62 : decode bb_L_dataAround 62 = .ok (.iload_n 1, 1) := by decide +kernel
theorem dc_L_dataAround_63 : decode bb_L_dataAround 63 = .ok (.if_icmp .gt 11, 3) := by decide +kernel
theorem dc_L_dataAround_66 : decode bb_L_dataAround 66 = .ok (.iload_n 1, 1) := by decide +kernel
theorem dc_L_dataAround_67 : decode bb_L_dataAround 67 = .ok (.iload 4, 2) := by decide +kernel
theorem dc_L_dataAround_69 : decode bb_L_dataAround 69 = .ok (.if_icmp .gt 5, 3) := by decide +kernel
theorem dc_L_dataAround_72 : decode bb_L_dataAround 72 = .ok (.iload_n 2, 1) := by decide +kernel
theorem dc_L_dataAround_73 : decode bb_L_dataAround 73 = .ok (.ireturn, 1) := by decide +kernel
theorem dc_L_dataAround_74 : decode bb_L_dataAround 74 = .ok (.iinc 2 1, 3) := by decide +kernel
theorem dc_L_dataAround_77 : decode bb_L_dataAround 77 = .ok (.goto (-75), 3) := by decide +kernel
theorem dc_L_dataAround_80 : decode bb_L_dataAround 80 = .ok (.iconst (-1), 1) := by decide +kernel
theorem dc_L_dataAround_81 : decode bb_L_dataAround 81 = .ok (.ireturn, 1) := by decide +kernel
theorem dc_K_bytesOf_0 : decode bb_K_bytesOf 0 = .ok (.iconst 0, 1) := by decide +kernel
theorem dc_K_bytesOf_1 : decode bb_K_bytesOf 1 = .ok (.istore_n 3, 1) := by decide +kernel
theorem dc_K_bytesOf_2 : decode bb_K_bytesOf 2 = .ok (.iconst 0, 1) := by decide +kernel
theorem dc_K_bytesOf_3 : decode bb_K_bytesOf 3 = .ok (.istore 4, 2) := by decide +kernel
theorem dc_K_bytesOf_5 : decode bb_K_bytesOf 5 = .ok (.iload 4, 2) := by decide +kernel
theorem dc_K_bytesOf_7 : decode bb_K_bytesOf 7 = .ok (.iload_n 2, 1) := by decide +kernel
theorem dc_K_bytesOf_8 : decode bb_K_bytesOf 8 = .ok (.if_icmp .ge 23, 3) := by decide +kernel
theorem dc_K_bytesOf_11 : decode bb_K_bytesOf 11 = .ok (.iload_n 3, 1) := by decide +kernel
theorem dc_K_bytesOf_12 : decode bb_K_bytesOf 12 = .ok (.aload_n 0, 1) := by decide +kernel
theorem dc_K_bytesOf_13 : decode bb_K_bytesOf 13 = .ok (.getfield 42, 3) := by decide +kernel
theorem dc_K_bytesOf_16 : decode bb_K_bytesOf 16 = .ok (.iload_n 1, 1) := by decide +kernel
theorem dc_K_bytesOf_17 : decode bb_K_bytesOf 17 = .ok (.iload 4, 2) := by decide +kernel
theorem dc_K_bytesOf_19 : decode bb_K_bytesOf 19 = .ok (.iadd, 1) := by decide +kernel
theorem dc_K_bytesOf_20 : decode bb_K_bytesOf 20 = .ok (.invokevirtual 120, 3) := by decide +kernel
theorem dc_K_bytesOf_23 : decode bb_K_bytesOf 23 = .ok (.iadd, 1) := by decide +kernel
theorem dc_K_bytesOf_24 : decode bb_K_bytesOf 24 = .ok (.istore_n 3, 1) := by decide +kernel
theorem dc_K_bytesOf_25 : decode bb_K_bytesOf 25 = .ok (.iinc 4 1, 3) := by decide +kernel
theorem dc_K_bytesOf_28 : decode bb_K_bytesOf 28 = .ok (.goto (-23), 3) := by decide +kernel
theorem dc_K_bytesOf_31 : decode bb_K_bytesOf 31 = .ok (.iload_n 3, 1) := by decide +kernel
theorem dc_K_bytesOf_32 : decode bb_K_bytesOf 32 = .ok (.ireturn, 1) := by decide +kernel
theorem dc_Z_sizeOf_0 : decode bb_Z_sizeOf 0 = .ok (.aload_n 0, 1) := by decide +kernel
theorem dc_Z_sizeOf_1 : decode bb_Z_sizeOf 1 = .ok (.getfield 20, 3) := by decide +kernel
theorem dc_Z_sizeOf_4 : decode bb_Z_sizeOf 4 = .ok (.ifCond .ne 21, 3) := by decide +kernel
theorem dc_Z_sizeOf_7 : decode bb_Z_sizeOf 7 = .ok (.aload_n 0, 1) := by decide +kernel
theorem dc_Z_sizeOf_8 : decode bb_Z_sizeOf 8 = .ok (.getfield 7, 3) := by decide +kernel
theorem dc_Z_sizeOf_11 : decode bb_Z_sizeOf 11 = .ok (.aload_n 0, 1) := by decide +kernel
theorem dc_Z_sizeOf_12 : decode bb_Z_sizeOf 12 = .ok (.getfield 13, 3) := by decide +kernel
theorem dc_Z_sizeOf_15 : decode bb_Z_sizeOf 15 = .ok (.iconst 2, 1) := by decide +kernel
theorem dc_Z_sizeOf_16 : decode bb_Z_sizeOf 16 = .ok (.iadd, 1) := by decide +kernel
theorem dc_Z_sizeOf_17 : decode bb_Z_sizeOf 17 = .ok (.iload_n 1, 1) := by decide +kernel
theorem dc_Z_sizeOf_18 : decode bb_Z_sizeOf 18 = .ok (.iadd, 1) := by decide +kernel
theorem dc_Z_sizeOf_19 : decode bb_Z_sizeOf 19 = .ok (.invokevirtual 35, 3) := by decide +kernel
theorem dc_Z_sizeOf_22 : decode bb_Z_sizeOf 22 = .ok (.goto 7, 3) := by decide +kernel
theorem dc_Z_sizeOf_25 : decode bb_Z_sizeOf 25 = .ok (.aload_n 0, 1) := by decide +kernel
theorem dc_Z_sizeOf_26 : decode bb_Z_sizeOf 26 = .ok (.getfield 20, 3) := by decide +kernel
theorem dc_Z_sizeOf_29 : decode bb_Z_sizeOf 29 = .ok (.ireturn, 1) := by decide +kernel
theorem dc_K_spread_0 : decode bb_K_spread 0 = .ok (.aload_n 0, 1) := by decide +kernel
theorem dc_K_spread_1 : decode bb_K_spread 1 = .ok (.aload_n 0, 1) := by decide +kernel
theorem dc_K_spread_2 : decode bb_K_spread 2 = .ok (.getfield 42, 3) := by decide +kernel
theorem dc_K_spread_5 : decode bb_K_spread 5 = .ok (.invokevirtual 86, 3) := by decide +kernel
theorem dc_K_spread_8 : decode bb_K_spread 8 = .ok (.sipush 255, 3) := by decide +kernel
theorem dc_K_spread_11 : decode bb_K_spread 11 = .ok (.invokestatic 123, 3) := by decide +kernel
theorem dc_K_spread_14 : decode bb_K_spread 14 = .ok (.putfield 51, 3) := by decide +kernel
theorem dc_K_spread_17 : decode bb_K_spread 17 = .ok (.aload_n 0, 1) := by decide +kernel
theorem dc_K_spread_18 : decode bb_K_spread 18 = .ok (.invokevirtual 128, 3) := by decide +kernel
theorem dc_K_spread_21 : decode bb_K_spread 21 = .ok (.aload_n 0, 1) := by decide +kernel
theorem dc_K_spread_22 : decode bb_K_spread 22 = .ok (.invokevirtual 131, 3) := by decide +kernel
theorem dc_K_spread_25 : decode bb_K_spread 25 = .ok (.aload_n 0, 1) := by decide +kernel
theorem dc_K_spread_26 : decode bb_K_spread 26 = .ok (.invokevirtual 134, 3) := by decide +kernel
theorem dc_K_spread_29 : decode bb_K_spread 29 = .ok (.aload_n 0, 1) := by decide +kernel
theorem dc_K_spread_30 : decode bb_K_spread 30 = .ok (.invokevirtual 137, 3) := by decide +kernel
theorem dc_K_spread_33 : decode bb_K_spread 33 = .ok (.return_, 1) := by decide +kernel
theorem dc_J_min_0 : decode bb_J_min 0 = .ok (.iload_n 0, 1) := by decide +kernel
theorem dc_J_min_1 : decode bb_J_min 1 = .ok (.iload_n 1, 1) := by decide +kernel
theorem dc_J_min_2 : decode bb_J_min 2 = .ok (.if_icmp .gt 7, 3) := by decide +kernel
theorem dc_J_min_5 : decode bb_J_min 5 = .ok (.iload_n 0, 1) := by decide +kernel
theorem dc_J_min_6 : decode bb_J_min 6 = .ok (.goto 4, 3) := by decide +kernel
theorem dc_J_min_9 : decode bb_J_min 9 = .ok (.iload_n 1, 1) := by decide +kernel
theorem dc_J_min_10 : decode bb_J_min 10 = .ok (.ireturn, 1) := by decide +kernel
theorem dc_K_spreadDurations_0 : decode bb_K_spreadDurations 0 = .ok (.iconst 0, 1) := by decide +kernel
theorem dc_K_spreadDurations_1 : decode bb_K_spreadDurations 1 = .ok (.istore_n 1, 1) := by decide +kernel
theorem dc_K_spreadDurations_2 : decode bb_K_spreadDurations 2 = .ok (.iconst 0, 1) := by decide +kernel
theorem dc_K_spreadDurations_3 : decode bb_K_spreadDurations 3 = .ok (.istore_n 2, 1) := by decide +kernel
theorem dc_K_spreadDurations_4 : decode bb_K_spreadDurations 4 = .ok (.iconst 0, 1) := by decide +kernel
theorem dc_K_spreadDurations_5 : decode bb_K_spreadDurations 5 = .ok (.istore_n 3, 1) := by decide +kernel
theorem dc_K_spreadDurations_6 : decode bb_K_spreadDurations 6 = .ok (.iload_n 3, 1) := by decide +kernel
theorem dc_K_spreadDurations_7 : decode bb_K_spreadDurations 7 = .ok (.aload_n 0, 1) := by decide +kernel
theorem dc_K_spreadDurations_8 : decode bb_K_spreadDurations 8 = .ok (.getfield 20, 3) := by decide +kernel
theorem dc_K_spreadDurations_11 : decode bb_K_spreadDurations 11 = .ok (.invokevirtual 73, 3) := by decide +kernel
theorem dc_K_spreadDurations_14 : decode bb_K_spreadDurations 14 = .ok (.if_icmp .ge 88, 3) := by decide +kernel
theorem dc_K_spreadDurations_17 : decode bb_K_spreadDurations 17 = .ok (.aload_n 0, 1) := by decide +kernel
theorem dc_K_spreadDurations_18 : decode bb_K_spreadDurations 18 = .ok (.getfield 20, 3) := by decide +kernel
theorem dc_K_spreadDurations_21 : decode bb_K_spreadDurations 21 = .ok (.iload_n 3, 1) := by decide +kernel
theorem dc_K_spreadDurations_22 : decode bb_K_spreadDurations 22 = .ok (.iconst 1, 1) := by decide +kernel
theorem dc_K_spreadDurations_23 : decode bb_K_spreadDurations 23 = .ok (.invokevirtual 77, 3) := by decide +kernel
theorem dc_K_spreadDurations_26 : decode bb_K_spreadDurations 26 = .ok (.istore 4, 2) := by decide +kernel
theorem dc_K_spreadDurations_28 : decode bb_K_spreadDurations 28 = .ok (.iconst 0, 1) := by decide +kernel
theorem dc_K_spreadDurations_29 : decode bb_K_spreadDurations 29 = .ok (.istore 5, 2) := by decide +kernel
theorem dc_K_spreadDurations_31 : decode bb_K_spreadDurations 31 = .ok (.iload 5, 2) := by decide +kernel
theorem dc_K_spreadDurations_33 : decode bb_K_spreadDurations 33 = .ok (.aload_n 0, 1) := by decide +kernel
theorem dc_K_spreadDurations_34 : decode bb_K_spreadDurations 34 = .ok (.getfield 20, 3) := by decide +kernel
theorem dc_K_spreadDurations_37 : decode bb_K_spreadDurations 37 = .ok (.iload_n 3, 1) := by decide +kernel
theorem dc_K_spreadDurations_38 : decode bb_K_spreadDurations 38 = .ok (.iconst 0, 1) := by decide +kernel
theorem dc_K_spreadDurations_39 : decode bb_K_spreadDurations 39 = .ok (.invokevirtual 77, 3) := by decide +kernel
theorem dc_K_spreadDurations_42 : decode bb_K_spreadDurations 42 = .ok (.if_icmp .ge 54, 3) := by decide +kernel
theorem dc_K_spreadDurations_45 : decode bb_K_spreadDurations 45 = .ok (.iload_n 1, 1) := by decide +kernel
theorem dc_K_spreadDurations_46 : decode bb_K_spreadDurations 46 = .ok (.aload_n 0, 1) := by decide +kernel
theorem dc_K_spreadDurations_47 : decode bb_K_spreadDurations 47 = .ok (.getfield 51, 3) := by decide +kernel
theorem dc_K_spreadDurations_50 : decode bb_K_spreadDurations 50 = .ok (.if_icmp .ge 46, 3) := by decide +kernel
theorem dc_K_spreadDurations_53 : decode bb_K_spreadDurations 53 = .ok (.aload_n 0, 1) := by decide +kernel
theorem dc_K_spreadDurations_54 : decode bb_K_spreadDurations 54 = .ok (.getfield 48, 3) := by decide +kernel
theorem dc_K_spreadDurations_57 : decode bb_K_spreadDurations 57 = .ok (.bipush 6, 2) := by decide +kernel
theorem dc_K_spreadDurations_59 : decode bb_K_spreadDurations 59 = .ok (.aaload, 1) := by decide +kernel
theorem dc_K_spreadDurations_60 : decode bb_K_spreadDurations 60 = .ok (.iload_n 1, 1) := by decide +kernel
theorem dc_K_spreadDurations_61 : decode bb_K_spreadDurations 61 = .ok (.iload 4, 2) := by decide +kernel
theorem dc_K_spreadDurations_63 : decode bb_K_spreadDurations 63 = .ok (.iastore, 1) := by decide +kernel
theorem dc_K_spreadDurations_64 : decode bb_K_spreadDurations 64 = .ok (.aload_n 0, 1) := by decide +kernel
theorem dc_K_spreadDurations_65 : decode bb_K_spreadDurations 65 = .ok (.getfield 48, 3) := by decide +kernel
theorem dc_K_spreadDurations_68 : decode bb_K_spreadDurations 68 = .ok (.iconst 2, 1) := by decide +kernel
theorem dc_K_spreadDurations_69 : decode bb_K_spreadDurations 69 = .ok (.aaload, 1) := by decide +kernel
theorem dc_K_spreadDurations_70 : decode bb_K_spreadDurations 70 = .ok (.iload_n 1, 1) := by decide +kernel
theorem dc_K_spreadDurations_71 : decode bb_K_spreadDurations 71 = .ok (.iload_n 2, 1) := by decide +kernel
theorem dc_K_spreadDurations_72 : decode bb_K_spreadDurations 72 = .ok (.iastore, 1) := by decide +kernel
theorem dc_K_spreadDurations_73 : decode bb_K_spreadDurations 73 = .ok (.aload_n 0, 1) := by decide +kernel
theorem dc_K_spreadDurations_74 : decode bb_K_spreadDurations 74 = .ok (.getfield 48, 3) := by decide +kernel
theorem dc_K_spreadDurations_77 : decode bb_K_spreadDurations 77 = .ok (.iconst 3, 1) := by decide +kernel
theorem dc_K_spreadDurations_78 : decode bb_K_spreadDurations 78 = .ok (.aaload, 1) := by decide +kernel
theorem dc_K_spreadDurations_79 : decode bb_K_spreadDurations 79 = .ok (.iload_n 1, 1) := by decide +kernel
theorem dc_K_spreadDurations_80 : decode bb_K_spreadDurations 80 = .ok (.iload_n 2, 1) := by decide +kernel
theorem dc_K_spreadDurations_81 : decode bb_K_spreadDurations 81 = .ok (.iastore, 1) := by decide +kernel
theorem dc_K_spreadDurations_82 : decode bb_K_spreadDurations 82 = .ok (.iload_n 2, 1) := by decide +kernel
theorem dc_K_spreadDurations_83 : decode bb_K_spreadDurations 83 = .ok (.iload 4, 2) := by decide +kernel
theorem dc_K_spreadDurations_85 : decode bb_K_spreadDurations 85 = .ok (.iadd, 1) := by decide +kernel
theorem dc_K_spreadDurations_86 : decode bb_K_spreadDurations 86 = .ok (.istore_n 2, 1) := by decide +kernel
theorem dc_K_spreadDurations_87 : decode bb_K_spreadDurations 87 = .ok (.iinc 1 1, 3) := by decide +kernel
theorem dc_K_spreadDurations_90 : decode bb_K_spreadDurations 90 = .ok (.iinc 5 1, 3) := by decide +kernel
theorem dc_K_spreadDurations_93 : decode bb_K_spreadDurations 93 = .ok (.goto (-62), 3) := by decide +kernel
theorem dc_K_spreadDurations_96 : decode bb_K_spreadDurations 96 = .ok (.iinc 3 1, 3) := by decide +kernel
theorem dc_K_spreadDurations_99 : decode bb_K_spreadDurations 99 = .ok (.goto (-93), 3) := by decide +kernel
theorem dc_K_spreadDurations_102 : decode bb_K_spreadDurations 102 = .ok (.return_, 1) := by decide +kernel
theorem dc_K_spreadShifts_0 : decode bb_K_spreadShifts 0 = .ok (.iconst 0, 1) := by decide +kernel
theorem dc_K_spreadShifts_1 : decode bb_K_spreadShifts 1 = .ok (.istore_n 1, 1) := by decide +kernel
theorem dc_K_spreadShifts_2 : decode bb_K_spreadShifts 2 = .ok (.iconst 0, 1) := by decide +kernel
theorem dc_K_spreadShifts_3 : decode bb_K_spreadShifts 3 = .ok (.istore_n 2, 1) := by decide +kernel
theorem dc_K_spreadShifts_4 : decode bb_K_spreadShifts 4 = .ok (.iload_n 2, 1) := by decide +kernel
theorem dc_K_spreadShifts_5 : decode bb_K_spreadShifts 5 = .ok (.aload_n 0, 1) := by decide +kernel
theorem dc_K_spreadShifts_6 : decode bb_K_spreadShifts 6 = .ok (.getfield 24, 3) := by decide +kernel
theorem dc_K_spreadShifts_9 : decode bb_K_spreadShifts 9 = .ok (.invokevirtual 73, 3) := by decide +kernel
theorem dc_K_spreadShifts_12 : decode bb_K_spreadShifts 12 = .ok (.if_icmp .ge 66, 3) := by decide +kernel
theorem dc_K_spreadShifts_15 : decode bb_K_spreadShifts 15 = .ok (.aload_n 0, 1) := by decide +kernel
theorem dc_K_spreadShifts_16 : decode bb_K_spreadShifts 16 = .ok (.getfield 24, 3) := by decide +kernel
theorem dc_K_spreadShifts_19 : decode bb_K_spreadShifts 19 = .ok (.iload_n 2, 1) := by decide +kernel
theorem dc_K_spreadShifts_20 : decode bb_K_spreadShifts 20 = .ok (.iconst 1, 1) := by decide +kernel
theorem dc_K_spreadShifts_21 : decode bb_K_spreadShifts 21 = .ok (.invokevirtual 77, 3) := by decide +kernel
theorem dc_K_spreadShifts_24 : decode bb_K_spreadShifts 24 = .ok (.i2b, 1) := by decide +kernel
theorem dc_K_spreadShifts_25 : decode bb_K_spreadShifts 25 = .ok (.istore_n 3, 1) := by decide +kernel
theorem dc_K_spreadShifts_26 : decode bb_K_spreadShifts 26 = .ok (.iconst 0, 1) := by decide +kernel
theorem dc_K_spreadShifts_27 : decode bb_K_spreadShifts 27 = .ok (.istore 4, 2) := by decide +kernel
theorem dc_K_spreadShifts_29 : decode bb_K_spreadShifts 29 = .ok (.iload 4, 2) := by decide +kernel
theorem dc_K_spreadShifts_31 : decode bb_K_spreadShifts 31 = .ok (.aload_n 0, 1) := by decide +kernel
theorem dc_K_spreadShifts_32 : decode bb_K_spreadShifts 32 = .ok (.getfield 24, 3) := by decide +kernel
theorem dc_K_spreadShifts_35 : decode bb_K_spreadShifts 35 = .ok (.iload_n 2, 1) := by decide +kernel
theorem dc_K_spreadShifts_36 : decode bb_K_spreadShifts 36 = .ok (.iconst 0, 1) := by decide +kernel
theorem dc_K_spreadShifts_37 : decode bb_K_spreadShifts 37 = .ok (.invokevirtual 77, 3) := by decide +kernel
theorem dc_K_spreadShifts_40 : decode bb_K_spreadShifts 40 = .ok (.if_icmp .ge 32, 3) := by decide +kernel
theorem dc_K_spreadShifts_43 : decode bb_K_spreadShifts 43 = .ok (.iload_n 1, 1) := by decide +kernel
theorem dc_K_spreadShifts_44 : decode bb_K_spreadShifts 44 = .ok (.aload_n 0, 1) := by decide +kernel
theorem dc_K_spreadShifts_45 : decode bb_K_spreadShifts 45 = .ok (.getfield 51, 3) := by decide +kernel
theorem dc_K_spreadShifts_48 : decode bb_K_spreadShifts 48 = .ok (.if_icmp .ge 24, 3) := by decide +kernel
theorem dc_K_spreadShifts_51 : decode bb_K_spreadShifts 51 = .ok (.aload_n 0, 1) := by decide +kernel
theorem dc_K_spreadShifts_52 : decode bb_K_spreadShifts 52 = .ok (.getfield 48, 3) := by decide +kernel
theorem dc_K_spreadShifts_55 : decode bb_K_spreadShifts 55 = .ok (.iconst 3, 1) := by decide +kernel
theorem dc_K_spreadShifts_56 : decode bb_K_spreadShifts 56 = .ok (.aaload, 1) := by decide +kernel
theorem dc_K_spreadShifts_57 : decode bb_K_spreadShifts 57 = .ok (.iload_n 1, 1) := by decide +kernel
theorem dc_K_spreadShifts_58 : decode bb_K_spreadShifts 58 = .ok (.dup2, 1) := by decide +kernel
theorem dc_K_spreadShifts_59 : decode bb_K_spreadShifts 59 = .ok (.iaload, 1) := by decide +kernel
theorem dc_K_spreadShifts_60 : decode bb_K_spreadShifts 60 = .ok (.iload_n 3, 1) := by decide +kernel
theorem dc_K_spreadShifts_61 : decode bb_K_spreadShifts 61 = .ok (.iadd, 1) := by decide +kernel
theorem dc_K_spreadShifts_62 : decode bb_K_spreadShifts 62 = .ok (.iastore, 1) := by decide +kernel
theorem dc_K_spreadShifts_63 : decode bb_K_spreadShifts 63 = .ok (.iinc 1 1, 3) := by decide +kernel
theorem dc_K_spreadShifts_66 : decode bb_K_spreadShifts 66 = .ok (.iinc 4 1, 3) := by decide +kernel
theorem dc_K_spreadShifts_69 : decode bb_K_spreadShifts 69 = .ok (.goto (-40), 3) := by decide +kernel
theorem dc_K_spreadShifts_72 : decode bb_K_spreadShifts 72 = .ok (.iinc 2 1, 3) := by decide +kernel
theorem dc_K_spreadShifts_75 : decode bb_K_spreadShifts 75 = .ok (.goto (-71), 3) := by decide +kernel
theorem dc_K_spreadShifts_78 : decode bb_K_spreadShifts 78 = .ok (.return_, 1) := by decide +kernel
theorem dc_K_spreadSyncs_0 : decode bb_K_spreadSyncs 0 = .ok (.aload_n 0, 1) := by decide +kernel
theorem dc_K_spreadSyncs_1 : decode bb_K_spreadSyncs 1 = .ok (.getfield 33, 3) := by decide +kernel
theorem dc_K_spreadSyncs_4 : decode bb_K_spreadSyncs 4 = .ok (.invokevirtual 91, 3) := by decide +kernel
theorem dc_K_spreadSyncs_7 : decode bb_K_spreadSyncs 7 = .ok (.ifCond .eq 7, 3) := by decide +kernel
theorem dc_K_spreadSyncs_10 : decode bb_K_spreadSyncs 10 = .ok (.iconst 0, 1) := by decide +kernel
theorem dc_K_spreadSyncs_11 : decode bb_K_spreadSyncs 11 = .ok (.goto 4, 3) := by decide +kernel
theorem dc_K_spreadSyncs_14 : decode bb_K_spreadSyncs 14 = .ok (.iconst 1, 1) := by decide +kernel
theorem dc_K_spreadSyncs_15 : decode bb_K_spreadSyncs 15 = .ok (.istore_n 1, 1) := by decide +kernel
theorem dc_K_spreadSyncs_16 : decode bb_K_spreadSyncs 16 = .ok (.iconst 0, 1) := by decide +kernel
theorem dc_K_spreadSyncs_17 : decode bb_K_spreadSyncs 17 = .ok (.istore_n 2, 1) := by decide +kernel
theorem dc_K_spreadSyncs_18 : decode bb_K_spreadSyncs 18 = .ok (.iload_n 2, 1) := by decide +kernel
theorem dc_K_spreadSyncs_19 : decode bb_K_spreadSyncs 19 = .ok (.aload_n 0, 1) := by decide +kernel
theorem dc_K_spreadSyncs_20 : decode bb_K_spreadSyncs 20 = .ok (.getfield 51, 3) := by decide +kernel
theorem dc_K_spreadSyncs_23 : decode bb_K_spreadSyncs 23 = .ok (.if_icmp .ge 18, 3) := by decide +kernel
theorem dc_K_spreadSyncs_26 : decode bb_K_spreadSyncs 26 = .ok (.aload_n 0, 1) := by decide +kernel
theorem dc_K_spreadSyncs_27 : decode bb_K_spreadSyncs 27 = .ok (.getfield 48, 3) := by decide +kernel
theorem dc_K_spreadSyncs_30 : decode bb_K_spreadSyncs 30 = .ok (.iconst 4, 1) := by decide +kernel
theorem dc_K_spreadSyncs_31 : decode bb_K_spreadSyncs 31 = .ok (.aaload, 1) := by decide +kernel
theorem dc_K_spreadSyncs_32 : decode bb_K_spreadSyncs 32 = .ok (.iload_n 2, 1) := by decide +kernel
theorem dc_K_spreadSyncs_33 : decode bb_K_spreadSyncs 33 = .ok (.iload_n 1, 1) := by decide +kernel
theorem dc_K_spreadSyncs_34 : decode bb_K_spreadSyncs 34 = .ok (.iastore, 1) := by decide +kernel
theorem dc_K_spreadSyncs_35 : decode bb_K_spreadSyncs 35 = .ok (.iinc 2 1, 3) := by decide +kernel
theorem dc_K_spreadSyncs_38 : decode bb_K_spreadSyncs 38 = .ok (.goto (-20), 3) := by decide +kernel
theorem dc_K_spreadSyncs_41 : decode bb_K_spreadSyncs 41 = .ok (.iconst 0, 1) := by decide +kernel
theorem dc_K_spreadSyncs_42 : decode bb_K_spreadSyncs 42 = .ok (.istore_n 2, 1) := by decide +kernel
theorem dc_K_spreadSyncs_43 : decode bb_K_spreadSyncs 43 = .ok (.iload_n 2, 1) := by decide +kernel
theorem dc_K_spreadSyncs_44 : decode bb_K_spreadSyncs 44 = .ok (.aload_n 0, 1) := by decide +kernel
theorem dc_K_spreadSyncs_45 : decode bb_K_spreadSyncs 45 = .ok (.getfield 33, 3) := by decide +kernel
theorem dc_K_spreadSyncs_48 : decode bb_K_spreadSyncs 48 = .ok (.invokevirtual 73, 3) := by decide +kernel
theorem dc_K_spreadSyncs_51 : decode bb_K_spreadSyncs 51 = .ok (.if_icmp .ge 42, 3) := by decide +kernel
theorem dc_K_spreadSyncs_54 : decode bb_K_spreadSyncs 54 = .ok (.aload_n 0, 1) := by decide +kernel
theorem dc_K_spreadSyncs_55 : decode bb_K_spreadSyncs 55 = .ok (.getfield 33, 3) := by decide +kernel
theorem dc_K_spreadSyncs_58 : decode bb_K_spreadSyncs 58 = .ok (.iload_n 2, 1) := by decide +kernel
theorem dc_K_spreadSyncs_59 : decode bb_K_spreadSyncs 59 = .ok (.iconst 0, 1) := by decide +kernel
theorem dc_K_spreadSyncs_60 : decode bb_K_spreadSyncs 60 = .ok (.invokevirtual 77, 3) := by decide +kernel
theorem dc_K_spreadSyncs_63 : decode bb_K_spreadSyncs 63 = .ok (.iconst 1, 1) := by decide +kernel
theorem dc_K_spreadSyncs_64 : decode bb_K_spreadSyncs 64 = .ok (.isub, 1) := by decide +kernel
theorem dc_K_spreadSyncs_65 : decode bb_K_spreadSyncs 65 = .ok (.istore_n 3, 1) := by decide +kernel
theorem dc_K_spreadSyncs_66 : decode bb_K_spreadSyncs 66 = .ok (.iload_n 3, 1) := by decide +kernel
theorem dc_K_spreadSyncs_67 : decode bb_K_spreadSyncs 67 = .ok (.ifCond .lt 20, 3) := by decide +kernel
theorem dc_K_spreadSyncs_70 : decode bb_K_spreadSyncs 70 = .ok (.iload_n 3, 1) := by decide +kernel
theorem dc_K_spreadSyncs_71 : decode bb_K_spreadSyncs 71 = .ok (.aload_n 0, 1) := by decide +kernel
theorem dc_K_spreadSyncs_72 : decode bb_K_spreadSyncs 72 = .ok (.getfield 51, 3) := by decide +kernel
theorem dc_K_spreadSyncs_75 : decode bb_K_spreadSyncs 75 = .ok (.if_icmp .ge 12, 3) := by decide +kernel
theorem dc_K_spreadSyncs_78 : decode bb_K_spreadSyncs 78 = .ok (.aload_n 0, 1) := by decide +kernel
theorem dc_K_spreadSyncs_79 : decode bb_K_spreadSyncs 79 = .ok (.getfield 48, 3) := by decide +kernel
theorem dc_K_spreadSyncs_82 : decode bb_K_spreadSyncs 82 = .ok (.iconst 4, 1) := by decide +kernel
theorem dc_K_spreadSyncs_83 : decode bb_K_spreadSyncs 83 = .ok (.aaload, 1) := by decide +kernel
theorem dc_K_spreadSyncs_84 : decode bb_K_spreadSyncs 84 = .ok (.iload_n 3, 1) := by decide +kernel
theorem dc_K_spreadSyncs_85 : decode bb_K_spreadSyncs 85 = .ok (.iconst 1, 1) := by decide +kernel
theorem dc_K_spreadSyncs_86 : decode bb_K_spreadSyncs 86 = .ok (.iastore, 1) := by decide +kernel
theorem dc_K_spreadSyncs_87 : decode bb_K_spreadSyncs 87 = .ok (.iinc 2 1, 3) := by decide +kernel
theorem dc_K_spreadSyncs_90 : decode bb_K_spreadSyncs 90 = .ok (.goto (-47), 3) := by decide +kernel
theorem dc_K_spreadSyncs_93 : decode bb_K_spreadSyncs 93 = .ok (.return_, 1) := by decide +kernel
theorem dc_K_spreadChunks_0 : decode bb_K_spreadChunks 0 = .ok (.iconst 0, 1) := by decide +kernel
theorem dc_K_spreadChunks_1 : decode bb_K_spreadChunks 1 = .ok (.istore_n 1, 1) := by decide +kernel
theorem dc_K_spreadChunks_2 : decode bb_K_spreadChunks 2 = .ok (.iconst 0, 1) := by decide +kernel
theorem dc_K_spreadChunks_3 : decode bb_K_spreadChunks 3 = .ok (.istore_n 2, 1) := by decide +kernel
theorem dc_K_spreadChunks_4 : decode bb_K_spreadChunks 4 = .ok (.iconst 1, 1) := by decide +kernel
theorem dc_K_spreadChunks_5 : decode bb_K_spreadChunks 5 = .ok (.istore_n 3, 1) := by decide +kernel
theorem dc_K_spreadChunks_6 : decode bb_K_spreadChunks 6 = .ok (.iload_n 3, 1) := by decide +kernel
theorem dc_K_spreadChunks_7 : decode bb_K_spreadChunks 7 = .ok (.aload_n 0, 1) := by decide +kernel
theorem dc_K_spreadChunks_8 : decode bb_K_spreadChunks 8 = .ok (.getfield 30, 3) := by decide +kernel
theorem dc_K_spreadChunks_11 : decode bb_K_spreadChunks 11 = .ok (.invokevirtual 73, 3) := by decide +kernel
theorem dc_K_spreadChunks_14 : decode bb_K_spreadChunks 14 = .ok (.if_icmp .gt 118, 3) := by decide +kernel
theorem dc_K_spreadChunks_17 : decode bb_K_spreadChunks 17 = .ok (.aload_n 0, 1) := by decide +kernel
theorem dc_K_spreadChunks_18 : decode bb_K_spreadChunks 18 = .ok (.iload_n 2, 1) := by decide +kernel
theorem dc_K_spreadChunks_19 : decode bb_K_spreadChunks 19 = .ok (.iload_n 3, 1) := by decide +kernel
theorem dc_K_spreadChunks_20 : decode bb_K_spreadChunks 20 = .ok (.invokevirtual 104, 3) := by decide +kernel
theorem dc_K_spreadChunks_23 : decode bb_K_spreadChunks 23 = .ok (.istore_n 2, 1) := by decide +kernel
theorem dc_K_spreadChunks_24 : decode bb_K_spreadChunks 24 = .ok (.aload_n 0, 1) := by decide +kernel
theorem dc_K_spreadChunks_25 : decode bb_K_spreadChunks 25 = .ok (.getfield 30, 3) := by decide +kernel
theorem dc_K_spreadChunks_28 : decode bb_K_spreadChunks 28 = .ok (.iload_n 3, 1) := by decide +kernel
theorem dc_K_spreadChunks_29 : decode bb_K_spreadChunks 29 = .ok (.iconst 1, 1) := by decide +kernel
theorem dc_K_spreadChunks_30 : decode bb_K_spreadChunks 30 = .ok (.isub, 1) := by decide +kernel
theorem dc_K_spreadChunks_31 : decode bb_K_spreadChunks 31 = .ok (.invokevirtual 107, 3) := by decide +kernel
theorem dc_K_spreadChunks_34 : decode bb_K_spreadChunks 34 = .ok (.istore 4, 2) := by decide +kernel
theorem dc_K_spreadChunks_36 : decode bb_K_spreadChunks 36 = .ok (.iconst 0, 1) := by decide +kernel
theorem dc_K_spreadChunks_37 : decode bb_K_spreadChunks 37 = .ok (.istore 5, 2) := by decide +kernel
theorem dc_K_spreadChunks_39 : decode bb_K_spreadChunks 39 = .ok (.iload 5, 2) := by decide +kernel
theorem dc_K_spreadChunks_41 : decode bb_K_spreadChunks 41 = .ok (.aload_n 0, 1) := by decide +kernel
theorem dc_K_spreadChunks_42 : decode bb_K_spreadChunks 42 = .ok (.getfield 27, 3) := by decide +kernel
theorem dc_K_spreadChunks_45 : decode bb_K_spreadChunks 45 = .ok (.iload_n 2, 1) := by decide +kernel
theorem dc_K_spreadChunks_46 : decode bb_K_spreadChunks 46 = .ok (.iconst 1, 1) := by decide +kernel
theorem dc_K_spreadChunks_47 : decode bb_K_spreadChunks 47 = .ok (.invokevirtual 77, 3) := by decide +kernel
theorem dc_K_spreadChunks_50 : decode bb_K_spreadChunks 50 = .ok (.if_icmp .ge 76, 3) := by decide +kernel
theorem dc_K_spreadChunks_53 : decode bb_K_spreadChunks 53 = .ok (.iload_n 1, 1) := by decide +kernel
theorem dc_K_spreadChunks_54 : decode bb_K_spreadChunks 54 = .ok (.aload_n 0, 1) := by decide +kernel
theorem dc_K_spreadChunks_55 : decode bb_K_spreadChunks 55 = .ok (.getfield 51, 3) := by decide +kernel
theorem dc_K_spreadChunks_58 : decode bb_K_spreadChunks 58 = .ok (.if_icmp .ge 68, 3) := by decide +kernel
theorem dc_K_spreadChunks_61 : decode bb_K_spreadChunks 61 = .ok (.aload_n 0, 1) := by decide +kernel
theorem dc_K_spreadChunks_62 : decode bb_K_spreadChunks 62 = .ok (.getfield 48, 3) := by decide +kernel
theorem dc_K_spreadChunks_65 : decode bb_K_spreadChunks 65 = .ok (.iconst 0, 1) := by decide +kernel
theorem dc_K_spreadChunks_66 : decode bb_K_spreadChunks 66 = .ok (.aaload, 1) := by decide +kernel
theorem dc_K_spreadChunks_67 : decode bb_K_spreadChunks 67 = .ok (.iload_n 1, 1) := by decide +kernel
theorem dc_K_spreadChunks_68 : decode bb_K_spreadChunks 68 = .ok (.iload 4, 2) := by decide +kernel
theorem dc_K_spreadChunks_70 : decode bb_K_spreadChunks 70 = .ok (.iastore, 1) := by decide +kernel
theorem dc_K_spreadChunks_71 : decode bb_K_spreadChunks 71 = .ok (.aload_n 0, 1) := by decide +kernel
theorem dc_K_spreadChunks_72 : decode bb_K_spreadChunks 72 = .ok (.getfield 48, 3) := by decide +kernel
theorem dc_K_spreadChunks_75 : decode bb_K_spreadChunks 75 = .ok (.iconst 1, 1) := by decide +kernel
theorem dc_K_spreadChunks_76 : decode bb_K_spreadChunks 76 = .ok (.aaload, 1) := by decide +kernel
theorem dc_K_spreadChunks_77 : decode bb_K_spreadChunks 77 = .ok (.iload_n 1, 1) := by decide +kernel
theorem dc_K_spreadChunks_78 : decode bb_K_spreadChunks 78 = .ok (.aload_n 0, 1) := by decide +kernel
theorem dc_K_spreadChunks_79 : decode bb_K_spreadChunks 79 = .ok (.getfield 42, 3) := by decide +kernel
theorem dc_K_spreadChunks_82 : decode bb_K_spreadChunks 82 = .ok (.iload_n 1, 1) := by decide +kernel
theorem dc_K_spreadChunks_83 : decode bb_K_spreadChunks 83 = .ok (.invokevirtual 120, 3) := by decide +kernel
theorem dc_K_spreadChunks_86 : decode bb_K_spreadChunks 86 = .ok (.iastore, 1) := by decide +kernel
theorem dc_K_spreadChunks_87 : decode bb_K_spreadChunks 87 = .ok (.aload_n 0, 1) := by decide +kernel
theorem dc_K_spreadChunks_88 : decode bb_K_spreadChunks 88 = .ok (.getfield 48, 3) := by decide +kernel
theorem dc_K_spreadChunks_91 : decode bb_K_spreadChunks 91 = .ok (.iconst 5, 1) := by decide +kernel
theorem dc_K_spreadChunks_92 : decode bb_K_spreadChunks 92 = .ok (.aaload, 1) := by decide +kernel
theorem dc_K_spreadChunks_93 : decode bb_K_spreadChunks 93 = .ok (.iload_n 1, 1) := by decide +kernel
theorem dc_K_spreadChunks_94 : decode bb_K_spreadChunks 94 = .ok (.aload_n 0, 1) := by decide +kernel
theorem dc_K_spreadChunks_95 : decode bb_K_spreadChunks 95 = .ok (.getfield 27, 3) := by decide +kernel
theorem dc_K_spreadChunks_98 : decode bb_K_spreadChunks 98 = .ok (.iload_n 2, 1) := by decide +kernel
theorem dc_K_spreadChunks_99 : decode bb_K_spreadChunks 99 = .ok (.iconst 2, 1) := by decide +kernel
theorem dc_K_spreadChunks_100 : decode bb_K_spreadChunks 100 = .ok (.invokevirtual 77, 3) := by decide +kernel
theorem dc_K_spreadChunks_103 : decode bb_K_spreadChunks 103 = .ok (.iastore, 1) := by decide +kernel
theorem dc_K_spreadChunks_104 : decode bb_K_spreadChunks 104 = .ok (.iload 4, 2) := by decide +kernel
theorem dc_K_spreadChunks_106 : decode bb_K_spreadChunks 106 = .ok (.aload_n 0, 1) := by decide +kernel
theorem dc_K_spreadChunks_107 : decode bb_K_spreadChunks 107 = .ok (.getfield 48, 3) := by decide +kernel
theorem dc_K_spreadChunks_110 : decode bb_K_spreadChunks 110 = .ok (.iconst 1, 1) := by decide +kernel
theorem dc_K_spreadChunks_111 : decode bb_K_spreadChunks 111 = .ok (.aaload, 1) := by decide +kernel
theorem dc_K_spreadChunks_112 : decode bb_K_spreadChunks 112 = .ok (.iload_n 1, 1) := by decide +kernel
theorem dc_K_spreadChunks_113 : decode bb_K_spreadChunks 113 = .ok (.iaload, 1) := by decide +kernel
theorem dc_K_spreadChunks_114 : decode bb_K_spreadChunks 114 = .ok (.iadd, 1) := by decide +kernel
theorem dc_K_spreadChunks_115 : decode bb_K_spreadChunks 115 = .ok (.istore 4, 2) := by decide +kernel
theorem dc_K_spreadChunks_117 : decode bb_K_spreadChunks 117 = .ok (.iinc 1 1, 3) := by decide +kernel
theorem dc_K_spreadChunks_120 : decode bb_K_spreadChunks 120 = .ok (.iinc 5 1, 3) := by decide +kernel
theorem dc_K_spreadChunks_123 : decode bb_K_spreadChunks 123 = .ok (.goto (-84), 3) := by decide +kernel
theorem dc_K_spreadChunks_126 : decode bb_K_spreadChunks 126 = .ok (.iinc 3 1, 3) := by decide +kernel
theorem dc_K_spreadChunks_129 : decode bb_K_spreadChunks 129 = .ok (.goto (-123), 3) := by decide +kernel
theorem dc_K_spreadChunks_132 : decode bb_K_spreadChunks 132 = .ok (.return_, 1) := by decide +kernel
theorem dc_M_boxes_0 : decode bb_M_boxes 0 = .ok (.aload_n 0, 1) := by decide +kernel
theorem dc_M_boxes_1 : decode bb_M_boxes 1 = .ok (.invokevirtual 75, 3) := by decide +kernel
theorem dc_M_boxes_4 : decode bb_M_boxes 4 = .ok (.aload_n 0, 1) := by decide +kernel
theorem dc_M_boxes_5 : decode bb_M_boxes 5 = .ok (.invokevirtual 78, 3) := by decide +kernel
theorem dc_M_boxes_8 : decode bb_M_boxes 8 = .ok (.ifCond .eq 13, 3) := by decide +kernel
theorem dc_M_boxes_11 : decode bb_M_boxes 11 = .ok (.aload_n 0, 1) := by decide +kernel
theorem dc_M_boxes_12 : decode bb_M_boxes 12 = .ok (.getfield 21, 3) := by decide +kernel
theorem dc_M_boxes_15 : decode bb_M_boxes 15 = .ok (.invokevirtual 82, 3) := by decide +kernel
theorem dc_M_boxes_18 : decode bb_M_boxes 18 = .ok (.goto 6, 3) := by decide +kernel
theorem dc_M_boxes_21 : decode bb_M_boxes 21 = .ok (.sipush (-1000), 3) := by decide +kernel
theorem dc_M_boxes_24 : decode bb_M_boxes 24 = .ok (.ireturn, 1) := by decide +kernel
theorem dc_M_boxesAreKnown_0 : decode bb_M_boxesAreKnown 0 = .ok (.aload_n 0, 1) := by decide +kernel
theorem dc_M_boxesAreKnown_1 : decode bb_M_boxesAreKnown 1 = .ok (.getfield 45, 3) := by decide +kernel
theorem dc_M_boxesAreKnown_4 : decode bb_M_boxesAreKnown 4 = .ok (.iconst 1, 1) := by decide +kernel
theorem dc_M_boxesAreKnown_5 : decode bb_M_boxesAreKnown 5 = .ok (.if_icmp .eq 15, 3) := by decide +kernel
theorem dc_M_boxesAreKnown_8 : decode bb_M_boxesAreKnown 8 = .ok (.aload_n 0, 1) := by decide +kernel
theorem dc_M_boxesAreKnown_9 : decode bb_M_boxesAreKnown 9 = .ok (.getfield 45, 3) := by decide +kernel
theorem dc_M_boxesAreKnown_12 : decode bb_M_boxesAreKnown 12 = .ok (.iconst 2, 1) := by decide +kernel
theorem dc_M_boxesAreKnown_13 : decode bb_M_boxesAreKnown 13 = .ok (.if_icmp .eq 7, 3) := by decide +kernel
theorem dc_M_boxesAreKnown_16 : decode bb_M_boxesAreKnown 16 = .ok (.iconst 1, 1) := by decide +kernel
theorem dc_M_boxesAreKnown_17 : decode bb_M_boxesAreKnown 17 = .ok (.goto 4, 3) := by decide +kernel
theorem dc_M_boxesAreKnown_20 : decode bb_M_boxesAreKnown 20 = .ok (.iconst 0, 1) := by decide +kernel
theorem dc_M_boxesAreKnown_21 : decode bb_M_boxesAreKnown 21 = .ok (.ireturn, 1) := by decide +kernel
theorem dc_M_box_0 : decode bb_M_box 0 = .ok (.aload_n 0, 1) := by decide +kernel
theorem dc_M_box_1 : decode bb_M_box 1 = .ok (.invokevirtual 75, 3) := by decide +kernel
theorem dc_M_box_4 : decode bb_M_box 4 = .ok (.aload_n 0, 1) := by decide +kernel
theorem dc_M_box_5 : decode bb_M_box 5 = .ok (.invokevirtual 78, 3) := by decide +kernel
theorem dc_M_box_8 : decode bb_M_box 8 = .ok (.ifCond .eq 12, 3) := by decide +kernel
theorem dc_M_box_11 : decode bb_M_box 11 = .ok (.iload_n 2, 1) := by decide +kernel
theorem dc_M_box_12 : decode bb_M_box 12 = .ok (.ifCond .lt 8, 3) := by decide +kernel
theorem dc_M_box_15 : decode bb_M_box 15 = .ok (.iload_n 2, 1) := by decide +kernel
theorem dc_M_box_16 : decode bb_M_box 16 = .ok (.iconst 5, 1) := by decide +kernel
theorem dc_M_box_17 : decode bb_M_box 17 = .ok (.if_icmp .le 7, 3) := by decide +kernel
theorem dc_M_box_20 : decode bb_M_box 20 = .ok (.sipush (-1000), 3) := by decide +kernel
theorem dc_M_box_23 : decode bb_M_box 23 = .ok (.ireturn, 1) := by decide +kernel
theorem dc_M_box_24 : decode bb_M_box 24 = .ok (.aload_n 0, 1) := by decide +kernel
theorem dc_M_box_25 : decode bb_M_box 25 = .ok (.getfield 21, 3) := by decide +kernel
theorem dc_M_box_28 : decode bb_M_box 28 = .ok (.iload_n 1, 1) := by decide +kernel
theorem dc_M_box_29 : decode bb_M_box 29 = .ok (.iload_n 2, 1) := by decide +kernel
theorem dc_M_box_30 : decode bb_M_box 30 = .ok (.invokevirtual 83, 3) := by decide +kernel
theorem dc_M_box_33 : decode bb_M_box 33 = .ok (.ireturn, 1) := by decide +kernel
theorem dc_M_tracks_0 : decode bb_M_tracks 0 = .ok (.aload_n 0, 1) := by decide +kernel
theorem dc_M_tracks_1 : decode bb_M_tracks 1 = .ok (.invokevirtual 75, 3) := by decide +kernel
theorem dc_M_tracks_4 : decode bb_M_tracks 4 = .ok (.aload_n 0, 1) := by decide +kernel
theorem dc_M_tracks_5 : decode bb_M_tracks 5 = .ok (.getfield 45, 3) := by decide +kernel
theorem dc_M_tracks_8 : decode bb_M_tracks 8 = .ok (.ifCond .ne 10, 3) := by decide +kernel
theorem dc_M_tracks_11 : decode bb_M_tracks 11 = .ok (.aload_n 0, 1) := by decide +kernel
theorem dc_M_tracks_12 : decode bb_M_tracks 12 = .ok (.getfield 41, 3) := by decide +kernel
theorem dc_M_tracks_15 : decode bb_M_tracks 15 = .ok (.goto 6, 3) := by decide +kernel
theorem dc_M_tracks_18 : decode bb_M_tracks 18 = .ok (.sipush (-1000), 3) := by decide +kernel
theorem dc_M_tracks_21 : decode bb_M_tracks 21 = .ok (.ireturn, 1) := by decide +kernel
theorem dc_M_samples_0 : decode bb_M_samples 0 = .ok (.aload_n 0, 1) := by decide +kernel
theorem dc_M_samples_1 : decode bb_M_samples 1 = .ok (.invokevirtual 75, 3) := by decide +kernel
theorem dc_M_samples_4 : decode bb_M_samples 4 = .ok (.aload_n 0, 1) := by decide +kernel
theorem dc_M_samples_5 : decode bb_M_samples 5 = .ok (.iload_n 1, 1) := by decide +kernel
theorem dc_M_samples_6 : decode bb_M_samples 6 = .ok (.invokevirtual 87, 3) := by decide +kernel
theorem dc_M_samples_9 : decode bb_M_samples 9 = .ok (.astore_n 2, 1) := by decide +kernel
theorem dc_M_samples_10 : decode bb_M_samples 10 = .ok (.aload_n 2, 1) := by decide +kernel
theorem dc_M_samples_11 : decode bb_M_samples 11 = .ok (.ifnonnull 9, 3) := by decide +kernel
theorem dc_M_samples_14 : decode bb_M_samples 14 = .ok (.sipush (-1000), 3) := by decide +kernel
theorem dc_M_samples_17 : decode bb_M_samples 17 = .ok (.goto 7, 3) := by decide +kernel
theorem dc_M_samples_20 : decode bb_M_samples 20 = .ok (.aload_n 2, 1) := by decide +kernel
theorem dc_M_samples_21 : decode bb_M_samples 21 = .ok (.invokevirtual 91, 3) := by decide +kernel
theorem dc_M_samples_24 : decode bb_M_samples 24 = .ok (.ireturn, 1) := by decide +kernel
theorem dc_M_soundTrack_0 : decode bb_M_soundTrack 0 = .ok (.aload_n 0, 1) := by decide +kernel
theorem dc_M_soundTrack_1 : decode bb_M_soundTrack 1 = .ok (.getfield 45, 3) := by decide +kernel
theorem dc_M_soundTrack_4 : decode bb_M_soundTrack 4 = .ok (.ifCond .ne 15, 3) := by decide +kernel
theorem dc_M_soundTrack_7 : decode bb_M_soundTrack 7 = .ok (.iload_n 1, 1) := by decide +kernel
theorem dc_M_soundTrack_8 : decode bb_M_soundTrack 8 = .ok (.ifCond .lt 11, 3) := by decide +kernel
theorem dc_M_soundTrack_11 : decode bb_M_soundTrack 11 = .ok (.iload_n 1, 1) := by decide +kernel
theorem dc_M_soundTrack_12 : decode bb_M_soundTrack 12 = .ok (.aload_n 0, 1) := by decide +kernel
theorem dc_M_soundTrack_13 : decode bb_M_soundTrack 13 = .ok (.getfield 41, 3) := by decide +kernel
theorem dc_M_soundTrack_16 : decode bb_M_soundTrack 16 = .ok (.if_icmp .lt 5, 3) := by decide +kernel
theorem dc_M_soundTrack_19 : decode bb_M_soundTrack 19 = .ok (.aconst_null, 1) := by decide +kernel
theorem dc_M_soundTrack_20 : decode bb_M_soundTrack 20 = .ok (.areturn, 1) := by decide +kernel
theorem dc_M_soundTrack_21 : decode bb_M_soundTrack 21 = .ok (.aload_n 0, 1) := by decide +kernel
theorem dc_M_soundTrack_22 : decode bb_M_soundTrack 22 = .ok (.getfield 27, 3) := by decide +kernel
theorem dc_M_soundTrack_25 : decode bb_M_soundTrack 25 = .ok (.iload_n 1, 1) := by decide +kernel
theorem dc_M_soundTrack_26 : decode bb_M_soundTrack 26 = .ok (.aaload, 1) := by decide +kernel
theorem dc_M_soundTrack_27 : decode bb_M_soundTrack 27 = .ok (.areturn, 1) := by decide +kernel
theorem dc_K_sampleCount_0 : decode bb_K_sampleCount 0 = .ok (.aload_n 0, 1) := by decide +kernel
theorem dc_K_sampleCount_1 : decode bb_K_sampleCount 1 = .ok (.getfield 51, 3) := by decide +kernel
theorem dc_K_sampleCount_4 : decode bb_K_sampleCount 4 = .ok (.ireturn, 1) := by decide +kernel
theorem dc_M_sample_0 : decode bb_M_sample 0 = .ok (.aload_n 0, 1) := by decide +kernel
theorem dc_M_sample_1 : decode bb_M_sample 1 = .ok (.invokevirtual 75, 3) := by decide +kernel
theorem dc_M_sample_4 : decode bb_M_sample 4 = .ok (.aload_n 0, 1) := by decide +kernel
theorem dc_M_sample_5 : decode bb_M_sample 5 = .ok (.iload_n 1, 1) := by decide +kernel
theorem dc_M_sample_6 : decode bb_M_sample 6 = .ok (.invokevirtual 87, 3) := by decide +kernel
theorem dc_M_sample_9 : decode bb_M_sample 9 = .ok (.astore 4, 2) := by decide +kernel
theorem dc_M_sample_11 : decode bb_M_sample 11 = .ok (.aload 4, 2) := by decide +kernel
theorem dc_M_sample_13 : decode bb_M_sample 13 = .ok (.ifnull 12, 3) := by decide +kernel
theorem dc_M_sample_16 : decode bb_M_sample 16 = .ok (.iload_n 3, 1) := by decide +kernel
theorem dc_M_sample_17 : decode bb_M_sample 17 = .ok (.ifCond .lt 8, 3) := by decide +kernel
theorem dc_M_sample_20 : decode bb_M_sample 20 = .ok (.iload_n 3, 1) := by decide +kernel
theorem dc_M_sample_21 : decode bb_M_sample 21 = .ok (.iconst 5, 1) := by decide +kernel
theorem dc_M_sample_22 : decode bb_M_sample 22 = .ok (.if_icmp .le 7, 3) := by decide +kernel
theorem dc_M_sample_25 : decode bb_M_sample 25 = .ok (.sipush (-1000), 3) := by decide +kernel
theorem dc_M_sample_28 : decode bb_M_sample 28 = .ok (.ireturn, 1) := by decide +kernel
theorem dc_M_sample_29 : decode bb_M_sample 29 = .ok (.aload 4, 2) := by decide +kernel
theorem dc_M_sample_31 : decode bb_M_sample 31 = .ok (.iload_n 2, 1) := by decide +kernel
theorem dc_M_sample_32 : decode bb_M_sample 32 = .ok (.iload_n 3, 1) := by decide +kernel
theorem dc_M_sample_33 : decode bb_M_sample 33 = .ok (.invokevirtual 94, 3) := by decide +kernel
theorem dc_M_sample_36 : decode bb_M_sample 36 = .ok (.ireturn, 1) := by decide +kernel
theorem dc_K_of_0 : decode bb_K_of 0 = .ok (.iload_n 1, 1) := by decide +kernel
theorem dc_K_of_1 : decode bb_K_of 1 = .ok (.ifCond .lt 21, 3) := by decide +kernel
theorem dc_K_of_4 : decode bb_K_of 4 = .ok (.iload_n 1, 1) := by decide +kernel
theorem dc_K_of_5 : decode bb_K_of 5 = .ok (.aload_n 0, 1) := by decide +kernel
theorem dc_K_of_6 : decode bb_K_of 6 = .ok (.getfield 51, 3) := by decide +kernel
theorem dc_K_of_9 : decode bb_K_of 9 = .ok (.if_icmp .ge 13, 3) := by decide +kernel
theorem dc_K_of_12 : decode bb_K_of 12 = .ok (.iload_n 2, 1) := by decide +kernel
theorem dc_K_of_13 : decode bb_K_of 13 = .ok (.ifCond .lt 9, 3) := by decide +kernel
theorem dc_K_of_16 : decode bb_K_of 16 = .ok (.iload_n 2, 1) := by decide +kernel
theorem dc_K_of_17 : decode bb_K_of 17 = .ok (.bipush 7, 2) := by decide +kernel
theorem dc_K_of_19 : decode bb_K_of 19 = .ok (.if_icmp .lt 7, 3) := by decide +kernel
theorem dc_K_of_22 : decode bb_K_of 22 = .ok (.sipush (-1000), 3) := by decide +kernel
theorem dc_K_of_25 : decode bb_K_of 25 = .ok (.ireturn, 1) := by decide +kernel
theorem dc_K_of_26 : decode bb_K_of 26 = .ok (.aload_n 0, 1) := by decide +kernel
theorem dc_K_of_27 : decode bb_K_of 27 = .ok (.getfield 48, 3) := by decide +kernel
theorem dc_K_of_30 : decode bb_K_of 30 = .ok (.iload_n 2, 1) := by decide +kernel
theorem dc_K_of_31 : decode bb_K_of 31 = .ok (.aaload, 1) := by decide +kernel
theorem dc_K_of_32 : decode bb_K_of 32 = .ok (.iload_n 1, 1) := by decide +kernel
theorem dc_K_of_33 : decode bb_K_of 33 = .ok (.iaload, 1) := by decide +kernel
theorem dc_K_of_34 : decode bb_K_of 34 = .ok (.ireturn, 1) := by decide +kernel
theorem dc_M_shown_0 : decode bb_M_shown 0 = .ok (.aload_n 0, 1) := by decide +kernel
theorem dc_M_shown_1 : decode bb_M_shown 1 = .ok (.invokevirtual 75, 3) := by decide +kernel
theorem dc_M_shown_4 : decode bb_M_shown 4 = .ok (.aload_n 0, 1) := by decide +kernel
theorem dc_M_shown_5 : decode bb_M_shown 5 = .ok (.iload_n 1, 1) := by decide +kernel
theorem dc_M_shown_6 : decode bb_M_shown 6 = .ok (.invokevirtual 87, 3) := by decide +kernel
theorem dc_M_shown_9 : decode bb_M_shown 9 = .ok (.astore_n 3, 1) := by decide +kernel
theorem dc_M_shown_10 : decode bb_M_shown 10 = .ok (.aload_n 3, 1) := by decide +kernel
theorem dc_M_shown_11 : decode bb_M_shown 11 = .ok (.ifnull 7, 3) := by decide +kernel
theorem dc_M_shown_14 : decode bb_M_shown 14 = .ok (.iload_n 2, 1) := by decide +kernel
theorem dc_M_shown_15 : decode bb_M_shown 15 = .ok (.ifCond .ge 7, 3) := by decide +kernel
theorem dc_M_shown_18 : decode bb_M_shown 18 = .ok (.sipush (-1000), 3) := by decide +kernel
theorem dc_M_shown_21 : decode bb_M_shown 21 = .ok (.ireturn, 1) := by decide +kernel
theorem dc_M_shown_22 : decode bb_M_shown 22 = .ok (.aload_n 3, 1) := by decide +kernel
theorem dc_M_shown_23 : decode bb_M_shown 23 = .ok (.iload_n 2, 1) := by decide +kernel
theorem dc_M_shown_24 : decode bb_M_shown 24 = .ok (.invokevirtual 95, 3) := by decide +kernel
theorem dc_M_shown_27 : decode bb_M_shown 27 = .ok (.ireturn, 1) := by decide +kernel
theorem dc_K_shownAt_0 : decode bb_K_shownAt 0 = .ok (.aload_n 0, 1) := by decide +kernel
theorem dc_K_shownAt_1 : decode bb_K_shownAt 1 = .ok (.iload_n 1, 1) := by decide +kernel
theorem dc_K_shownAt_2 : decode bb_K_shownAt 2 = .ok (.invokevirtual 140, 3) := by decide +kernel
theorem dc_K_shownAt_5 : decode bb_K_shownAt 5 = .ok (.istore_n 2, 1) := by decide +kernel
theorem dc_K_shownAt_6 : decode bb_K_shownAt 6 = .ok (.iload_n 2, 1) := by decide +kernel
theorem dc_K_shownAt_7 : decode bb_K_shownAt 7 = .ok (.sipush (-1000), 3) := by decide +kernel
theorem dc_K_shownAt_10 : decode bb_K_shownAt 10 = .ok (.if_icmp .ne 7, 3) := by decide +kernel
theorem dc_K_shownAt_13 : decode bb_K_shownAt 13 = .ok (.sipush (-1000), 3) := by decide +kernel
theorem dc_K_shownAt_16 : decode bb_K_shownAt 16 = .ok (.ireturn, 1) := by decide +kernel
theorem dc_K_shownAt_17 : decode bb_K_shownAt 17 = .ok (.iconst 0, 1) := by decide +kernel
theorem dc_K_shownAt_18 : decode bb_K_shownAt 18 = .ok (.istore_n 3, 1) := by decide +kernel
theorem dc_K_shownAt_19 : decode bb_K_shownAt 19 = .ok (.iload_n 3, 1) := by decide +kernel
theorem dc_K_shownAt_20 : decode bb_K_shownAt 20 = .ok (.aload_n 0, 1) := by decide +kernel
theorem dc_K_shownAt_21 : decode bb_K_shownAt 21 = .ok (.getfield 51, 3) := by decide +kernel
theorem dc_K_shownAt_24 : decode bb_K_shownAt 24 = .ok (.if_icmp .ge 43, 3) := by decide +kernel
theorem dc_K_shownAt_27 : decode bb_K_shownAt 27 = .ok (.aload_n 0, 1) := by decide +kernel
theorem dc_K_shownAt_28 : decode bb_K_shownAt 28 = .ok (.getfield 48, 3) := by decide +kernel
theorem dc_K_shownAt_31 : decode bb_K_shownAt 31 = .ok (.iconst 3, 1) := by decide +kernel
theorem dc_K_shownAt_32 : decode bb_K_shownAt 32 = .ok (.aaload, 1) := by decide +kernel
theorem dc_K_shownAt_33 : decode bb_K_shownAt 33 = .ok (.iload_n 3, 1) := by decide +kernel
theorem dc_K_shownAt_34 : decode bb_K_shownAt 34 = .ok (.iaload, 1) := by decide +kernel
theorem dc_K_shownAt_35 : decode bb_K_shownAt 35 = .ok (.istore 4, 2) := by decide +kernel
theorem dc_K_shownAt_37 : decode bb_K_shownAt 37 = .ok (.iload_n 2, 1) := by decide +kernel
theorem dc_K_shownAt_38 : decode bb_K_shownAt 38 = .ok (.iload 4, 2) := by decide +kernel
theorem dc_K_shownAt_40 : decode bb_K_shownAt 40 = .ok (.if_icmp .lt 21, 3) := by decide +kernel
theorem dc_K_shownAt_43 : decode bb_K_shownAt 43 = .ok (.iload_n 2, 1) := by decide +kernel
theorem dc_K_shownAt_44 : decode bb_K_shownAt 44 = .ok (.iload 4, 2) := by decide +kernel
theorem dc_K_shownAt_46 : decode bb_K_shownAt 46 = .ok (.aload_n 0, 1) := by decide +kernel
theorem dc_K_shownAt_47 : decode bb_K_shownAt 47 = .ok (.getfield 48, 3) := by decide +kernel
theorem dc_K_shownAt_50 : decode bb_K_shownAt 50 = .ok (.bipush 6, 2) := by decide +kernel
theorem dc_K_shownAt_52 : decode bb_K_shownAt 52 = .ok (.aaload, 1) := by decide +kernel
theorem dc_K_shownAt_53 : decode bb_K_shownAt 53 = .ok (.iload_n 3, 1) := by decide +kernel
theorem dc_K_shownAt_54 : decode bb_K_shownAt 54 = .ok (.iaload, 1) := by decide +kernel
theorem dc_K_shownAt_55 : decode bb_K_shownAt 55 = .ok (.iadd, 1) := by decide +kernel
theorem dc_K_shownAt_56 : decode bb_K_shownAt 56 = .ok (.if_icmp .ge 5, 3) := by decide +kernel
theorem dc_K_shownAt_59 : decode bb_K_shownAt 59 = .ok (.iload_n 3, 1) := by decide +kernel
theorem dc_K_shownAt_60 : decode bb_K_shownAt 60 = .ok (.ireturn, 1) := by decide +kernel
theorem dc_K_shownAt_61 : decode bb_K_shownAt 61 = .ok (.iinc 3 1, 3) := by decide +kernel
theorem dc_K_shownAt_64 : decode bb_K_shownAt 64 = .ok (.goto (-45), 3) := by decide +kernel
theorem dc_K_shownAt_67 : decode bb_K_shownAt 67 = .ok (.sipush (-1000), 3) := by decide +kernel
theorem dc_K_shownAt_70 : decode bb_K_shownAt 70 = .ok (.ireturn, 1) := by decide +kernel
theorem dc_K_mediaTime_0 : decode bb_K_mediaTime 0 = .ok (.aload_n 0, 1) := by decide +kernel
theorem dc_K_mediaTime_1 : decode bb_K_mediaTime 1 = .ok (.getfield 36, 3) := by decide +kernel
theorem dc_K_mediaTime_4 : decode bb_K_mediaTime 4 = .ok (.invokevirtual 91, 3) := by decide +kernel
theorem dc_K_mediaTime_7 : decode bb_K_mediaTime 7 = .ok (.ifCond .ne 5, 3) := by decide +kernel
theorem dc_K_mediaTime_10 : decode bb_K_mediaTime 10 = .ok (.iload_n 1, 1) := by decide +kernel
theorem dc_K_mediaTime_11 : decode bb_K_mediaTime 11 = .ok (.ireturn, 1) := by decide +kernel
theorem dc_K_mediaTime_12 : decode bb_K_mediaTime 12 = .ok (.iload_n 1, 1) := by decide +kernel
theorem dc_K_mediaTime_13 : decode bb_K_mediaTime 13 = .ok (.istore_n 2, 1) := by decide +kernel
theorem dc_K_mediaTime_14 : decode bb_K_mediaTime 14 = .ok (.iconst 0, 1) := by decide +kernel
theorem dc_K_mediaTime_15 : decode bb_K_mediaTime 15 = .ok (.istore_n 3, 1) := by decide +kernel
theorem dc_K_mediaTime_16 : decode bb_K_mediaTime 16 = .ok (.iload_n 3, 1) := by decide +kernel
theorem dc_K_mediaTime_17 : decode bb_K_mediaTime 17 = .ok (.aload_n 0, 1) := by decide +kernel
theorem dc_K_mediaTime_18 : decode bb_K_mediaTime 18 = .ok (.getfield 36, 3) := by decide +kernel
theorem dc_K_mediaTime_21 : decode bb_K_mediaTime 21 = .ok (.invokevirtual 73, 3) := by decide +kernel
theorem dc_K_mediaTime_24 : decode bb_K_mediaTime 24 = .ok (.if_icmp .ge 61, 3) := by decide +kernel
theorem dc_K_mediaTime_27 : decode bb_K_mediaTime 27 = .ok (.aload_n 0, 1) := by decide +kernel
theorem dc_K_mediaTime_28 : decode bb_K_mediaTime 28 = .ok (.getfield 36, 3) := by decide +kernel
theorem dc_K_mediaTime_31 : decode bb_K_mediaTime 31 = .ok (.iload_n 3, 1) := by decide +kernel
theorem dc_K_mediaTime_32 : decode bb_K_mediaTime 32 = .ok (.iconst 0, 1) := by decide +kernel
theorem dc_K_mediaTime_33 : decode bb_K_mediaTime 33 = .ok (.invokevirtual 77, 3) := by decide +kernel
theorem dc_K_mediaTime_36 : decode bb_K_mediaTime 36 = .ok (.istore 4, 2) := by decide +kernel
theorem dc_K_mediaTime_38 : decode bb_K_mediaTime 38 = .ok (.iload_n 2, 1) := by decide +kernel
theorem dc_K_mediaTime_39 : decode bb_K_mediaTime 39 = .ok (.iload 4, 2) := by decide +kernel
theorem dc_K_mediaTime_41 : decode bb_K_mediaTime 41 = .ok (.if_icmp .ge 33, 3) := by decide +kernel
theorem dc_K_mediaTime_44 : decode bb_K_mediaTime 44 = .ok (.aload_n 0, 1) := by decide +kernel
theorem dc_K_mediaTime_45 : decode bb_K_mediaTime 45 = .ok (.getfield 36, 3) := by decide +kernel
theorem dc_K_mediaTime_48 : decode bb_K_mediaTime 48 = .ok (.iload_n 3, 1) := by decide +kernel
theorem dc_K_mediaTime_49 : decode bb_K_mediaTime 49 = .ok (.iconst 1, 1) := by decide +kernel
theorem dc_K_mediaTime_50 : decode bb_K_mediaTime 50 = .ok (.invokevirtual 77, 3) := by decide +kernel
theorem dc_K_mediaTime_53 : decode bb_K_mediaTime 53 = .ok (.istore 5, 2) := by decide +kernel
theorem dc_K_mediaTime_55 : decode bb_K_mediaTime 55 = .ok (.iload 5, 2) := by decide +kernel
theorem dc_K_mediaTime_57 : decode bb_K_mediaTime 57 = .ok (.sipush 255, 3) := by decide +kernel
theorem dc_K_mediaTime_60 : decode bb_K_mediaTime 60 = .ok (.if_icmp .ne 9, 3) := by decide +kernel
theorem dc_K_mediaTime_63 : decode bb_K_mediaTime 63 = .ok (.sipush (-1000), 3) := by decide +kernel
theorem dc_K_mediaTime_66 : decode bb_K_mediaTime 66 = .ok (.goto 7, 3) := by decide +kernel
theorem dc_K_mediaTime_69 : decode bb_K_mediaTime 69 = .ok (.iload 5, 2) := by decide +kernel
theorem dc_K_mediaTime_71 : decode bb_K_mediaTime 71 = .ok (.iload_n 2, 1) := by decide +kernel
theorem dc_K_mediaTime_72 : decode bb_K_mediaTime 72 = .ok (.iadd, 1) := by decide +kernel
theorem dc_K_mediaTime_73 : decode bb_K_mediaTime 73 = .ok (.ireturn, 1) := by decide +kernel
theorem dc_K_mediaTime_74 : decode bb_K_mediaTime 74 = .ok (.iload_n 2, 1) := by decide +kernel
theorem dc_K_mediaTime_75 : decode bb_K_mediaTime 75 = .ok (.iload 4, 2) := by decide +kernel
theorem dc_K_mediaTime_77 : decode bb_K_mediaTime 77 = .ok (.isub, 1) := by decide +kernel
theorem dc_K_mediaTime_78 : decode bb_K_mediaTime 78 = .ok (.istore_n 2, 1) := by decide +kernel
theorem dc_K_mediaTime_79 : decode bb_K_mediaTime 79 = .ok (.iinc 3 1, 3) := by decide +kernel
theorem dc_K_mediaTime_82 : decode bb_K_mediaTime 82 = .ok (.goto (-66), 3) := by decide +kernel
theorem dc_K_mediaTime_85 : decode bb_K_mediaTime 85 = .ok (.sipush (-1000), 3) := by decide +kernel
theorem dc_K_mediaTime_88 : decode bb_K_mediaTime 88 = .ok (.ireturn, 1) := by decide +kernel
theorem dc_M_fastStart_0 : decode bb_M_fastStart 0 = .ok (.aload_n 0, 1) := by decide +kernel
theorem dc_M_fastStart_1 : decode bb_M_fastStart 1 = .ok (.invokevirtual 75, 3) := by decide +kernel
theorem dc_M_fastStart_4 : decode bb_M_fastStart 4 = .ok (.aload_n 0, 1) := by decide +kernel
theorem dc_M_fastStart_5 : decode bb_M_fastStart 5 = .ok (.getfield 45, 3) := by decide +kernel
theorem dc_M_fastStart_8 : decode bb_M_fastStart 8 = .ok (.ifCond .eq 5, 3) := by decide +kernel
theorem dc_M_fastStart_11 : decode bb_M_fastStart 11 = .ok (.iconst (-1), 1) := by decide +kernel
theorem dc_M_fastStart_12 : decode bb_M_fastStart 12 = .ok (.ireturn, 1) := by decide +kernel
theorem dc_M_fastStart_13 : decode bb_M_fastStart 13 = .ok (.aload_n 0, 1) := by decide +kernel
theorem dc_M_fastStart_14 : decode bb_M_fastStart 14 = .ok (.getfield 21, 3) := by decide +kernel
theorem dc_M_fastStart_17 : decode bb_M_fastStart 17 = .ok (.iconst (-1), 1) := by decide +kernel
theorem dc_M_fastStart_18 : decode bb_M_fastStart 18 = .ok (.bipush 77, 2) := by decide +kernel
theorem dc_M_fastStart_20 : decode bb_M_fastStart 20 = .ok (.invokevirtual 98, 3) := by decide +kernel
theorem dc_M_fastStart_23 : decode bb_M_fastStart 23 = .ok (.istore_n 1, 1) := by decide +kernel
theorem dc_M_fastStart_24 : decode bb_M_fastStart 24 = .ok (.aload_n 0, 1) := by decide +kernel
theorem dc_M_fastStart_25 : decode bb_M_fastStart 25 = .ok (.getfield 21, 3) := by decide +kernel
theorem dc_M_fastStart_28 : decode bb_M_fastStart 28 = .ok (.iconst (-1), 1) := by decide +kernel
theorem dc_M_fastStart_29 : decode bb_M_fastStart 29 = .ok (.bipush 68, 2) := by decide +kernel
theorem dc_M_fastStart_31 : decode bb_M_fastStart 31 = .ok (.invokevirtual 98, 3) := by decide +kernel
theorem dc_M_fastStart_34 : decode bb_M_fastStart 34 = .ok (.istore_n 2, 1) := by decide +kernel
theorem dc_M_fastStart_35 : decode bb_M_fastStart 35 = .ok (.iload_n 2, 1) := by decide +kernel
theorem dc_M_fastStart_36 : decode bb_M_fastStart 36 = .ok (.ifCond .lt 8, 3) := by decide +kernel
theorem dc_M_fastStart_39 : decode bb_M_fastStart 39 = .ok (.iload_n 1, 1) := by decide +kernel
theorem dc_M_fastStart_40 : decode bb_M_fastStart 40 = .ok (.iload_n 2, 1) := by decide +kernel
theorem dc_M_fastStart_41 : decode bb_M_fastStart 41 = .ok (.if_icmp .ge 13, 3) := by decide +kernel
theorem dc_M_fastStart_44 : decode bb_M_fastStart 44 = .ok (.aload_n 0, 1) := by decide +kernel
theorem dc_M_fastStart_45 : decode bb_M_fastStart 45 = .ok (.getfield 21, 3) := by decide +kernel
theorem dc_M_fastStart_48 : decode bb_M_fastStart 48 = .ok (.iload_n 1, 1) := by decide +kernel
theorem dc_M_fastStart_49 : decode bb_M_fastStart 49 = .ok (.iconst 1, 1) := by decide +kernel
theorem dc_M_fastStart_50 : decode bb_M_fastStart 50 = .ok (.invokevirtual 83, 3) := by decide +kernel
theorem dc_M_fastStart_53 : decode bb_M_fastStart 53 = .ok (.ireturn, 1) := by decide +kernel
theorem dc_M_fastStart_54 : decode bb_M_fastStart 54 = .ok (.aload_n 0, 1) := by decide +kernel
theorem dc_M_fastStart_55 : decode bb_M_fastStart 55 = .ok (.getfield 37, 3) := by decide +kernel
theorem dc_M_fastStart_58 : decode bb_M_fastStart 58 = .ok (.iload_n 1, 1) := by decide +kernel
theorem dc_M_fastStart_59 : decode bb_M_fastStart 59 = .ok (.iload_n 2, 1) := by decide +kernel
theorem dc_M_fastStart_60 : decode bb_M_fastStart 60 = .ok (.invokevirtual 101, 3) := by decide +kernel
theorem dc_M_fastStart_63 : decode bb_M_fastStart 63 = .ok (.istore_n 3, 1) := by decide +kernel
theorem dc_M_fastStart_64 : decode bb_M_fastStart 64 = .ok (.aload_n 0, 1) := by decide +kernel
theorem dc_M_fastStart_65 : decode bb_M_fastStart 65 = .ok (.iconst 1, 1) := by decide +kernel
theorem dc_M_fastStart_66 : decode bb_M_fastStart 66 = .ok (.putfield 48, 3) := by decide +kernel
theorem dc_M_fastStart_69 : decode bb_M_fastStart 69 = .ok (.iload_n 3, 1) := by decide +kernel
theorem dc_M_fastStart_70 : decode bb_M_fastStart 70 = .ok (.ireturn, 1) := by decide +kernel
theorem dc_V_move_0 : decode bb_V_move 0 = .ok (.aload_n 0, 1) := by decide +kernel
theorem dc_V_move_1 : decode bb_V_move 1 = .ok (.iload_n 1, 1) := by decide +kernel
theorem dc_V_move_2 : decode bb_V_move 2 = .ok (.putfield 36, 3) := by decide +kernel
theorem dc_V_move_5 : decode bb_V_move 5 = .ok (.aload_n 0, 1) := by decide +kernel
theorem dc_V_move_6 : decode bb_V_move 6 = .ok (.aload_n 0, 1) := by decide +kernel
theorem dc_V_move_7 : decode bb_V_move 7 = .ok (.invokevirtual 43, 3) := by decide +kernel
theorem dc_V_move_10 : decode bb_V_move 10 = .ok (.putfield 40, 3) := by decide +kernel
theorem dc_V_move_13 : decode bb_V_move 13 = .ok (.aload_n 0, 1) := by decide +kernel
theorem dc_V_move_14 : decode bb_V_move 14 = .ok (.invokevirtual 47, 3) := by decide +kernel
theorem dc_V_move_17 : decode bb_V_move 17 = .ok (.aload_n 0, 1) := by decide +kernel
theorem dc_V_move_18 : decode bb_V_move 18 = .ok (.getfield 15, 3) := by decide +kernel
theorem dc_V_move_21 : decode bb_V_move 21 = .ok (.aload_n 0, 1) := by decide +kernel
theorem dc_V_move_22 : decode bb_V_move 22 = .ok (.getfield 36, 3) := by decide +kernel
theorem dc_V_move_25 : decode bb_V_move 25 = .ok (.iconst 1, 1) := by decide +kernel
theorem dc_V_move_26 : decode bb_V_move 26 = .ok (.invokevirtual 52, 3) := by decide +kernel
theorem dc_V_move_29 : decode bb_V_move 29 = .ok (.istore_n 3, 1) := by decide +kernel
theorem dc_V_move_30 : decode bb_V_move 30 = .ok (.aload_n 0, 1) := by decide +kernel
theorem dc_V_move_31 : decode bb_V_move 31 = .ok (.getfield 9, 3) := by decide +kernel
theorem dc_V_move_34 : decode bb_V_move 34 = .ok (.invokevirtual 56, 3) := by decide +kernel
theorem dc_V_move_37 : decode bb_V_move 37 = .ok (.iload_n 3, 1) := by decide +kernel
theorem dc_V_move_38 : decode bb_V_move 38 = .ok (.isub, 1) := by decide +kernel
theorem dc_V_move_39 : decode bb_V_move 39 = .ok (.aload_n 0, 1) := by decide +kernel
theorem dc_V_move_40 : decode bb_V_move 40 = .ok (.aload_n 0, 1) := by decide +kernel
theorem dc_V_move_41 : decode bb_V_move 41 = .ok (.getfield 36, 3) := by decide +kernel
theorem dc_V_move_44 : decode bb_V_move 44 = .ok (.invokevirtual 59, 3) := by decide +kernel
theorem dc_V_move_47 : decode bb_V_move 47 = .ok (.iadd, 1) := by decide +kernel
theorem dc_V_move_48 : decode bb_V_move 48 = .ok (.sipush 1000, 3) := by decide +kernel
theorem dc_V_move_51 : decode bb_V_move 51 = .ok (.if_icmp .le 6, 3) := by decide +kernel
theorem dc_V_move_54 : decode bb_V_move 54 = .ok (.bipush (-2), 2) := by decide +kernel
theorem dc_V_move_56 : decode bb_V_move 56 = .ok (.ireturn, 1) := by decide +kernel
theorem dc_V_move_57 : decode bb_V_move 57 = .ok (.aload_n 0, 1) := by decide +kernel
theorem dc_V_move_58 : decode bb_V_move 58 = .ok (.getfield 15, 3) := by decide +kernel
theorem dc_V_move_61 : decode bb_V_move 61 = .ok (.iload_n 2, 1) := by decide +kernel
theorem dc_V_move_62 : decode bb_V_move 62 = .ok (.iconst 0, 1) := by decide +kernel
theorem dc_V_move_63 : decode bb_V_move 63 = .ok (.invokevirtual 52, 3) := by decide +kernel
theorem dc_V_move_66 : decode bb_V_move 66 = .ok (.istore 4, 2) := by decide +kernel
theorem dc_V_move_68 : decode bb_V_move 68 = .ok (.aload_n 0, 1) := by decide +kernel
theorem dc_V_move_69 : decode bb_V_move 69 = .ok (.getfield 22, 3) := by decide +kernel
theorem dc_V_move_72 : decode bb_V_move 72 = .ok (.iconst 0, 1) := by decide +kernel
theorem dc_V_move_73 : decode bb_V_move 73 = .ok (.invokevirtual 63, 3) := by decide +kernel
theorem dc_V_move_76 : decode bb_V_move 76 = .ok (.aload_n 0, 1) := by decide +kernel
theorem dc_V_move_77 : decode bb_V_move 77 = .ok (.getfield 22, 3) := by decide +kernel
theorem dc_V_move_80 : decode bb_V_move 80 = .ok (.aload_n 0, 1) := by decide +kernel
theorem dc_V_move_81 : decode bb_V_move 81 = .ok (.getfield 9, 3) := by decide +kernel
theorem dc_V_move_84 : decode bb_V_move 84 = .ok (.iconst 0, 1) := by decide +kernel
theorem dc_V_move_85 : decode bb_V_move 85 = .ok (.iload 4, 2) := by decide +kernel
theorem dc_V_move_87 : decode bb_V_move 87 = .ok (.invokevirtual 67, 3) := by decide +kernel
theorem dc_V_move_90 : decode bb_V_move 90 = .ok (.aload_n 0, 1) := by decide +kernel
theorem dc_V_move_91 : decode bb_V_move 91 = .ok (.getfield 36, 3) := by decide +kernel
theorem dc_V_move_94 : decode bb_V_move 94 = .ok (.istore 5, 2) := by decide +kernel
theorem dc_V_move_96 : decode bb_V_move 96 = .ok (.iload 5, 2) := by decide +kernel
theorem dc_V_move_98 : decode bb_V_move 98 = .ok (.aload_n 0, 1) := by decide +kernel
theorem dc_V_move_99 : decode bb_V_move 99 = .ok (.getfield 40, 3) := by decide +kernel
theorem dc_V_move_102 : decode bb_V_move 102 = .ok (.if_icmp .ge 15, 3) := by decide +kernel
theorem dc_V_move_105 : decode bb_V_move 105 = .ok (.aload_n 0, 1) := by decide +kernel
theorem dc_V_move_106 : decode bb_V_move 106 = .ok (.iload 5, 2) := by decide +kernel
theorem dc_V_move_108 : decode bb_V_move 108 = .ok (.invokevirtual 71, 3) := by decide +kernel
theorem dc_V_move_111 : decode bb_V_move 111 = .ok (.iinc 5 1, 3) := by decide +kernel
theorem dc_V_move_114 : decode bb_V_move 114 = .ok (.goto (-18), 3) := by decide +kernel
theorem dc_V_move_117 : decode bb_V_move 117 = .ok (.aload_n 0, 1) := by decide +kernel
theorem dc_V_move_118 : decode bb_V_move 118 = .ok (.getfield 22, 3) := by decide +kernel
theorem dc_V_move_121 : decode bb_V_move 121 = .ok (.aload_n 0, 1) := by decide +kernel
theorem dc_V_move_122 : decode bb_V_move 122 = .ok (.getfield 9, 3) := by decide +kernel
theorem dc_V_move_125 : decode bb_V_move 125 = .ok (.iload 4, 2) := by decide +kernel
theorem dc_V_move_127 : decode bb_V_move 127 = .ok (.aload_n 0, 1) := by decide +kernel
theorem dc_V_move_128 : decode bb_V_move 128 = .ok (.getfield 15, 3) := by decide +kernel
theorem dc_V_move_131 : decode bb_V_move 131 = .ok (.aload_n 0, 1) := by decide +kernel
theorem dc_V_move_132 : decode bb_V_move 132 = .ok (.getfield 36, 3) := by decide +kernel
theorem dc_V_move_135 : decode bb_V_move 135 = .ok (.iconst 0, 1) := by decide +kernel
theorem dc_V_move_136 : decode bb_V_move 136 = .ok (.invokevirtual 52, 3) := by decide +kernel
theorem dc_V_move_139 : decode bb_V_move 139 = .ok (.invokevirtual 67, 3) := by decide +kernel
theorem dc_V_move_142 : decode bb_V_move 142 = .ok (.aload_n 0, 1) := by decide +kernel
theorem dc_V_move_143 : decode bb_V_move 143 = .ok (.getfield 22, 3) := by decide +kernel
theorem dc_V_move_146 : decode bb_V_move 146 = .ok (.aload_n 0, 1) := by decide +kernel
theorem dc_V_move_147 : decode bb_V_move 147 = .ok (.getfield 9, 3) := by decide +kernel
theorem dc_V_move_150 : decode bb_V_move 150 = .ok (.aload_n 0, 1) := by decide +kernel
theorem dc_V_move_151 : decode bb_V_move 151 = .ok (.getfield 15, 3) := by decide +kernel
theorem dc_V_move_154 : decode bb_V_move 154 = .ok (.aload_n 0, 1) := by decide +kernel
theorem dc_V_move_155 : decode bb_V_move 155 = .ok (.getfield 36, 3) := by decide +kernel
theorem dc_V_move_158 : decode bb_V_move 158 = .ok (.invokevirtual 74, 3) := by decide +kernel
theorem dc_V_move_161 : decode bb_V_move 161 = .ok (.aload_n 0, 1) := by decide +kernel
theorem dc_V_move_162 : decode bb_V_move 162 = .ok (.getfield 9, 3) := by decide +kernel
theorem dc_V_move_165 : decode bb_V_move 165 = .ok (.invokevirtual 56, 3) := by decide +kernel
theorem dc_V_move_168 : decode bb_V_move 168 = .ok (.invokevirtual 67, 3) := by decide +kernel
theorem dc_V_move_171 : decode bb_V_move 171 = .ok (.aload_n 0, 1) := by decide +kernel
theorem dc_V_move_172 : decode bb_V_move 172 = .ok (.aload_n 0, 1) := by decide +kernel
theorem dc_V_move_173 : decode bb_V_move 173 = .ok (.getfield 36, 3) := by decide +kernel
theorem dc_V_move_176 : decode bb_V_move 176 = .ok (.invokevirtual 59, 3) := by decide +kernel
theorem dc_V_move_179 : decode bb_V_move 179 = .ok (.istore 5, 2) := by decide +kernel
theorem dc_V_move_181 : decode bb_V_move 181 = .ok (.aload_n 0, 1) := by decide +kernel
theorem dc_V_move_182 : decode bb_V_move 182 = .ok (.getfield 9, 3) := by decide +kernel
theorem dc_V_move_185 : decode bb_V_move 185 = .ok (.aload_n 0, 1) := by decide +kernel
theorem dc_V_move_186 : decode bb_V_move 186 = .ok (.getfield 22, 3) := by decide +kernel
theorem dc_V_move_189 : decode bb_V_move 189 = .ok (.invokevirtual 77, 3) := by decide +kernel
theorem dc_V_move_192 : decode bb_V_move 192 = .ok (.iload 5, 2) := by decide +kernel
theorem dc_V_move_194 : decode bb_V_move 194 = .ok (.ireturn, 1) := by decide +kernel
theorem dc_V_behindMovie_0 : decode bb_V_behindMovie 0 = .ok (.aload_n 0, 1) := by decide +kernel
theorem dc_V_behindMovie_1 : decode bb_V_behindMovie 1 = .ok (.getfield 36, 3) := by decide +kernel
theorem dc_V_behindMovie_4 : decode bb_V_behindMovie 4 = .ok (.iconst 1, 1) := by decide +kernel
theorem dc_V_behindMovie_5 : decode bb_V_behindMovie 5 = .ok (.iadd, 1) := by decide +kernel
theorem dc_V_behindMovie_6 : decode bb_V_behindMovie 6 = .ok (.istore_n 1, 1) := by decide +kernel
theorem dc_V_behindMovie_7 : decode bb_V_behindMovie 7 = .ok (.iload_n 1, 1) := by decide +kernel
theorem dc_V_behindMovie_8 : decode bb_V_behindMovie 8 = .ok (.aload_n 0, 1) := by decide +kernel
theorem dc_V_behindMovie_9 : decode bb_V_behindMovie 9 = .ok (.getfield 15, 3) := by decide +kernel
theorem dc_V_behindMovie_12 : decode bb_V_behindMovie 12 = .ok (.invokevirtual 81, 3) := by decide +kernel
theorem dc_V_behindMovie_15 : decode bb_V_behindMovie 15 = .ok (.if_icmp .ge 23, 3) := by decide +kernel
theorem dc_V_behindMovie_18 : decode bb_V_behindMovie 18 = .ok (.aload_n 0, 1) := by decide +kernel
theorem dc_V_behindMovie_19 : decode bb_V_behindMovie 19 = .ok (.getfield 15, 3) := by decide +kernel
theorem dc_V_behindMovie_22 : decode bb_V_behindMovie 22 = .ok (.iload_n 1, 1) := by decide +kernel
theorem dc_V_behindMovie_23 : decode bb_V_behindMovie 23 = .ok (.iconst 4, 1) := by decide +kernel
theorem dc_V_behindMovie_24 : decode bb_V_behindMovie 24 = .ok (.invokevirtual 52, 3) := by decide +kernel
theorem dc_V_behindMovie_27 : decode bb_V_behindMovie 27 = .ok (.ifCond .ne 5, 3) := by decide +kernel
theorem dc_V_behindMovie_30 : decode bb_V_behindMovie 30 = .ok (.iload_n 1, 1) := by decide +kernel
theorem dc_V_behindMovie_31 : decode bb_V_behindMovie 31 = .ok (.ireturn, 1) := by decide +kernel
theorem dc_V_behindMovie_32 : decode bb_V_behindMovie 32 = .ok (.iinc 1 1, 3) := by decide +kernel
theorem dc_V_behindMovie_35 : decode bb_V_behindMovie 35 = .ok (.goto (-28), 3) := by decide +kernel
theorem dc_V_behindMovie_38 : decode bb_V_behindMovie 38 = .ok (.aload_n 0, 1) := by decide +kernel
theorem dc_V_behindMovie_39 : decode bb_V_behindMovie 39 = .ok (.getfield 15, 3) := by decide +kernel
theorem dc_V_behindMovie_42 : decode bb_V_behindMovie 42 = .ok (.invokevirtual 81, 3) := by decide +kernel
theorem dc_V_behindMovie_45 : decode bb_V_behindMovie 45 = .ok (.ireturn, 1) := by decide +kernel
theorem dc_V_settleWidths_0 : decode bb_V_settleWidths 0 = .ok (.iconst 0, 1) := by decide +kernel
theorem dc_V_settleWidths_1 : decode bb_V_settleWidths 1 = .ok (.istore_n 1, 1) := by decide +kernel
theorem dc_V_settleWidths_2 : decode bb_V_settleWidths 2 = .ok (.iload_n 1, 1) := by decide +kernel
theorem dc_V_settleWidths_3 : decode bb_V_settleWidths 3 = .ok (.bipush 20, 2) := by decide +kernel
theorem dc_V_settleWidths_5 : decode bb_V_settleWidths 5 = .ok (.if_icmp .ge 16, 3) := by decide +kernel
theorem dc_V_settleWidths_8 : decode bb_V_settleWidths 8 = .ok (.aload_n 0, 1) := by decide +kernel
theorem dc_V_settleWidths_9 : decode bb_V_settleWidths 9 = .ok (.getfield 25, 3) := by decide +kernel
theorem dc_V_settleWidths_12 : decode bb_V_settleWidths 12 = .ok (.iload_n 1, 1) := by decide +kernel
theorem dc_V_settleWidths_13 : decode bb_V_settleWidths 13 = .ok (.iconst 0, 1) := by decide +kernel
theorem dc_V_settleWidths_14 : decode bb_V_settleWidths 14 = .ok (.bastore, 1) := by decide +kernel
theorem dc_V_settleWidths_15 : decode bb_V_settleWidths 15 = .ok (.iinc 1 1, 3) := by decide +kernel
theorem dc_V_settleWidths_18 : decode bb_V_settleWidths 18 = .ok (.goto (-16), 3) := by decide +kernel
theorem dc_V_settleWidths_21 : decode bb_V_settleWidths 21 = .ok (.aload_n 0, 1) := by decide +kernel
theorem dc_V_settleWidths_22 : decode bb_V_settleWidths 22 = .ok (.invokevirtual 82, 3) := by decide +kernel
theorem dc_V_settleWidths_25 : decode bb_V_settleWidths 25 = .ok (.iconst 0, 1) := by decide +kernel
theorem dc_V_settleWidths_26 : decode bb_V_settleWidths 26 = .ok (.istore_n 1, 1) := by decide +kernel
theorem dc_V_settleWidths_27 : decode bb_V_settleWidths 27 = .ok (.iload_n 1, 1) := by decide +kernel
theorem dc_V_settleWidths_28 : decode bb_V_settleWidths 28 = .ok (.bipush 20, 2) := by decide +kernel
theorem dc_V_settleWidths_30 : decode bb_V_settleWidths 30 = .ok (.if_icmp .ge 20, 3) := by decide +kernel
theorem dc_V_settleWidths_33 : decode bb_V_settleWidths 33 = .ok (.aload_n 0, 1) := by decide +kernel
theorem dc_V_settleWidths_34 : decode bb_V_settleWidths 34 = .ok (.invokevirtual 85, 3) := by decide +kernel
theorem dc_V_settleWidths_37 : decode bb_V_settleWidths 37 = .ok (.ifCond .eq 13, 3) := by decide +kernel
theorem dc_V_settleWidths_40 : decode bb_V_settleWidths 40 = .ok (.aload_n 0, 1) := by decide +kernel
theorem dc_V_settleWidths_41 : decode bb_V_settleWidths 41 = .ok (.invokevirtual 82, 3) := by decide +kernel
theorem dc_V_settleWidths_44 : decode bb_V_settleWidths 44 = .ok (.iinc 1 1, 3) := by decide +kernel
theorem dc_V_settleWidths_47 : decode bb_V_settleWidths 47 = .ok (.goto (-20), 3) := by decide +kernel
theorem dc_V_settleWidths_50 : decode bb_V_settleWidths 50 = .ok (.return_, 1) := by decide +kernel
theorem dc_V_measure_0 : decode bb_V_measure 0 = .ok (.aload_n 0, 1) := by decide +kernel
theorem dc_V_measure_1 : decode bb_V_measure 1 = .ok (.getfield 36, 3) := by decide +kernel
theorem dc_V_measure_4 : decode bb_V_measure 4 = .ok (.istore_n 1, 1) := by decide +kernel
theorem dc_V_measure_5 : decode bb_V_measure 5 = .ok (.iload_n 1, 1) := by decide +kernel
theorem dc_V_measure_6 : decode bb_V_measure 6 = .ok (.aload_n 0, 1) := by decide +kernel
theorem dc_V_measure_7 : decode bb_V_measure 7 = .ok (.getfield 40, 3) := by decide +kernel
theorem dc_V_measure_10 : decode bb_V_measure 10 = .ok (.if_icmp .ge 20, 3) := by decide +kernel
theorem dc_V_measure_13 : decode bb_V_measure 13 = .ok (.aload_n 0, 1) := by decide +kernel
theorem dc_V_measure_14 : decode bb_V_measure 14 = .ok (.getfield 29, 3) := by decide +kernel
theorem dc_V_measure_17 : decode bb_V_measure 17 = .ok (.iload_n 1, 1) := by decide +kernel
theorem dc_V_measure_18 : decode bb_V_measure 18 = .ok (.aload_n 0, 1) := by decide +kernel
theorem dc_V_measure_19 : decode bb_V_measure 19 = .ok (.iload_n 1, 1) := by decide +kernel
theorem dc_V_measure_20 : decode bb_V_measure 20 = .ok (.invokevirtual 89, 3) := by decide +kernel
theorem dc_V_measure_23 : decode bb_V_measure 23 = .ok (.iastore, 1) := by decide +kernel
theorem dc_V_measure_24 : decode bb_V_measure 24 = .ok (.iinc 1 1, 3) := by decide +kernel
theorem dc_V_measure_27 : decode bb_V_measure 27 = .ok (.goto (-22), 3) := by decide +kernel
theorem dc_V_measure_30 : decode bb_V_measure 30 = .ok (.aload_n 0, 1) := by decide +kernel
theorem dc_V_measure_31 : decode bb_V_measure 31 = .ok (.getfield 40, 3) := by decide +kernel
theorem dc_V_measure_34 : decode bb_V_measure 34 = .ok (.iconst 1, 1) := by decide +kernel
theorem dc_V_measure_35 : decode bb_V_measure 35 = .ok (.isub, 1) := by decide +kernel
theorem dc_V_measure_36 : decode bb_V_measure 36 = .ok (.istore_n 1, 1) := by decide +kernel
theorem dc_V_measure_37 : decode bb_V_measure 37 = .ok (.iload_n 1, 1) := by decide +kernel
theorem dc_V_measure_38 : decode bb_V_measure 38 = .ok (.aload_n 0, 1) := by decide +kernel
theorem dc_V_measure_39 : decode bb_V_measure 39 = .ok (.getfield 36, 3) := by decide +kernel
theorem dc_V_measure_42 : decode bb_V_measure 42 = .ok (.if_icmp .lt 57, 3) := by decide +kernel
theorem dc_V_measure_45 : decode bb_V_measure 45 = .ok (.aload_n 0, 1) := by decide +kernel
theorem dc_V_measure_46 : decode bb_V_measure 46 = .ok (.getfield 33, 3) := by decide +kernel
theorem dc_V_measure_49 : decode bb_V_measure 49 = .ok (.iload_n 1, 1) := by decide +kernel
theorem dc_V_measure_50 : decode bb_V_measure 50 = .ok (.aload_n 0, 1) := by decide +kernel
theorem dc_V_measure_51 : decode bb_V_measure 51 = .ok (.iload_n 1, 1) := by decide +kernel
theorem dc_V_measure_52 : decode bb_V_measure 52 = .ok (.invokevirtual 92, 3) := by decide +kernel
theorem dc_V_measure_55 : decode bb_V_measure 55 = .ok (.iastore, 1) := by decide +kernel
theorem dc_V_measure_56 : decode bb_V_measure 56 = .ok (.aload_n 0, 1) := by decide +kernel
theorem dc_V_measure_57 : decode bb_V_measure 57 = .ok (.getfield 15, 3) := by decide +kernel
theorem dc_V_measure_60 : decode bb_V_measure 60 = .ok (.iload_n 1, 1) := by decide +kernel
theorem dc_V_measure_61 : decode bb_V_measure 61 = .ok (.iconst 5, 1) := by decide +kernel
theorem dc_V_measure_62 : decode bb_V_measure 62 = .ok (.invokevirtual 52, 3) := by decide +kernel
theorem dc_V_measure_65 : decode bb_V_measure 65 = .ok (.istore_n 2, 1) := by decide +kernel
theorem dc_V_measure_66 : decode bb_V_measure 66 = .ok (.iload_n 2, 1) := by decide +kernel
theorem dc_V_measure_67 : decode bb_V_measure 67 = .ok (.aload_n 0, 1) := by decide +kernel
theorem dc_V_measure_68 : decode bb_V_measure 68 = .ok (.getfield 36, 3) := by decide +kernel
theorem dc_V_measure_71 : decode bb_V_measure 71 = .ok (.if_icmp .lt 22, 3) := by decide +kernel
theorem dc_V_measure_74 : decode bb_V_measure 74 = .ok (.iload_n 2, 1) := by decide +kernel
theorem dc_V_measure_75 : decode bb_V_measure 75 = .ok (.iload_n 1, 1) := by decide +kernel
theorem dc_V_measure_76 : decode bb_V_measure 76 = .ok (.if_icmp .ge 17, 3) := by decide +kernel
theorem dc_V_measure_79 : decode bb_V_measure 79 = .ok (.aload_n 0, 1) := by decide +kernel
theorem dc_V_measure_80 : decode bb_V_measure 80 = .ok (.getfield 29, 3) := by decide +kernel
theorem dc_V_measure_83 : decode bb_V_measure 83 = .ok (.iload_n 2, 1) := by decide +kernel
theorem dc_V_measure_84 : decode bb_V_measure 84 = .ok (.dup2, 1) := by decide +kernel
theorem dc_V_measure_85 : decode bb_V_measure 85 = .ok (.iaload, 1) := by decide +kernel
theorem dc_V_measure_86 : decode bb_V_measure 86 = .ok (.aload_n 0, 1) := by decide +kernel
theorem dc_V_measure_87 : decode bb_V_measure 87 = .ok (.iload_n 1, 1) := by decide +kernel
theorem dc_V_measure_88 : decode bb_V_measure 88 = .ok (.invokevirtual 59, 3) := by decide +kernel
theorem dc_V_measure_91 : decode bb_V_measure 91 = .ok (.iadd, 1) := by decide +kernel
theorem dc_V_measure_92 : decode bb_V_measure 92 = .ok (.iastore, 1) := by decide +kernel
theorem dc_V_measure_93 : decode bb_V_measure 93 = .ok (.iinc 1 (-1), 3) := by decide +kernel
theorem dc_V_measure_96 : decode bb_V_measure 96 = .ok (.goto (-59), 3) := by decide +kernel
theorem dc_V_measure_99 : decode bb_V_measure 99 = .ok (.return_, 1) := by decide +kernel
theorem dc_V_ownPayload_0 : decode bb_V_ownPayload 0 = .ok (.aload_n 0, 1) := by decide +kernel
theorem dc_V_ownPayload_1 : decode bb_V_ownPayload 1 = .ok (.getfield 15, 3) := by decide +kernel
theorem dc_V_ownPayload_4 : decode bb_V_ownPayload 4 = .ok (.iload_n 1, 1) := by decide +kernel
theorem dc_V_ownPayload_5 : decode bb_V_ownPayload 5 = .ok (.invokevirtual 95, 3) := by decide +kernel
theorem dc_V_ownPayload_8 : decode bb_V_ownPayload 8 = .ok (.ifCond .eq 5, 3) := by decide +kernel
theorem dc_V_ownPayload_11 : decode bb_V_ownPayload 11 = .ok (.iconst 0, 1) := by decide +kernel
theorem dc_V_ownPayload_12 : decode bb_V_ownPayload 12 = .ok (.ireturn, 1) := by decide +kernel
theorem dc_V_ownPayload_13 : decode bb_V_ownPayload 13 = .ok (.aload_n 0, 1) := by decide +kernel
theorem dc_V_ownPayload_14 : decode bb_V_ownPayload 14 = .ok (.getfield 15, 3) := by decide +kernel
theorem dc_V_ownPayload_17 : decode bb_V_ownPayload 17 = .ok (.iload_n 1, 1) := by decide +kernel
theorem dc_V_ownPayload_18 : decode bb_V_ownPayload 18 = .ok (.invokevirtual 99, 3) := by decide +kernel
theorem dc_V_ownPayload_21 : decode bb_V_ownPayload 21 = .ok (.istore_n 2, 1) := by decide +kernel
theorem dc_V_ownPayload_22 : decode bb_V_ownPayload 22 = .ok (.aload_n 0, 1) := by decide +kernel
theorem dc_V_ownPayload_23 : decode bb_V_ownPayload 23 = .ok (.getfield 25, 3) := by decide +kernel
theorem dc_V_ownPayload_26 : decode bb_V_ownPayload 26 = .ok (.iload_n 1, 1) := by decide +kernel
theorem dc_V_ownPayload_27 : decode bb_V_ownPayload 27 = .ok (.baload, 1) := by decide +kernel
theorem dc_V_ownPayload_28 : decode bb_V_ownPayload 28 = .ok (.ifCond .eq 13, 3) := by decide +kernel
theorem dc_V_ownPayload_31 : decode bb_V_ownPayload 31 = .ok (.iload_n 2, 1) := by decide +kernel
theorem dc_V_ownPayload_32 : decode bb_V_ownPayload 32 = .ok (.aload_n 0, 1) := by decide +kernel
theorem dc_V_ownPayload_33 : decode bb_V_ownPayload 33 = .ok (.iload_n 1, 1) := by decide +kernel
theorem dc_V_ownPayload_34 : decode bb_V_ownPayload 34 = .ok (.invokevirtual 102, 3) := by decide +kernel
theorem dc_V_ownPayload_37 : decode bb_V_ownPayload 37 = .ok (.iadd, 1) := by decide +kernel
theorem dc_V_ownPayload_38 : decode bb_V_ownPayload 38 = .ok (.goto 4, 3) := by decide +kernel
theorem dc_V_ownPayload_41 : decode bb_V_ownPayload 41 = .ok (.iload_n 2, 1) := by decide +kernel
theorem dc_V_ownPayload_42 : decode bb_V_ownPayload 42 = .ok (.ireturn, 1) := by decide +kernel
theorem dc_V_rowsOf_0 : decode bb_V_rowsOf 0 = .ok (.aload_n 0, 1) := by decide +kernel
theorem dc_V_rowsOf_1 : decode bb_V_rowsOf 1 = .ok (.getfield 9, 3) := by decide +kernel
theorem dc_V_rowsOf_4 : decode bb_V_rowsOf 4 = .ok (.aload_n 0, 1) := by decide +kernel
theorem dc_V_rowsOf_5 : decode bb_V_rowsOf 5 = .ok (.getfield 15, 3) := by decide +kernel
theorem dc_V_rowsOf_8 : decode bb_V_rowsOf 8 = .ok (.iload_n 1, 1) := by decide +kernel
theorem dc_V_rowsOf_9 : decode bb_V_rowsOf 9 = .ok (.invokevirtual 105, 3) := by decide +kernel
theorem dc_V_rowsOf_12 : decode bb_V_rowsOf 12 = .ok (.invokevirtual 108, 3) := by decide +kernel
theorem dc_V_rowsOf_15 : decode bb_V_rowsOf 15 = .ok (.ireturn, 1) := by decide +kernel
theorem dc_V_newHeader_0 : decode bb_V_newHeader 0 = .ok (.aload_n 0, 1) := by decide +kernel
theorem dc_V_newHeader_1 : decode bb_V_newHeader 1 = .ok (.getfield 29, 3) := by decide +kernel
theorem dc_V_newHeader_4 : decode bb_V_newHeader 4 = .ok (.iload_n 1, 1) := by decide +kernel
theorem dc_V_newHeader_5 : decode bb_V_newHeader 5 = .ok (.iaload, 1) := by decide +kernel
theorem dc_V_newHeader_6 : decode bb_V_newHeader 6 = .ok (.iconst 2, 1) := by decide +kernel
theorem dc_V_newHeader_7 : decode bb_V_newHeader 7 = .ok (.iadd, 1) := by decide +kernel
theorem dc_V_newHeader_8 : decode bb_V_newHeader 8 = .ok (.sipush 255, 3) := by decide +kernel
theorem dc_V_newHeader_11 : decode bb_V_newHeader 11 = .ok (.if_icmp .gt 7, 3) := by decide +kernel
theorem dc_V_newHeader_14 : decode bb_V_newHeader 14 = .ok (.iconst 1, 1) := by decide +kernel
theorem dc_V_newHeader_15 : decode bb_V_newHeader 15 = .ok (.goto 4, 3) := by decide +kernel
theorem dc_V_newHeader_18 : decode bb_V_newHeader 18 = .ok (.iconst 0, 1) := by decide +kernel
theorem dc_V_newHeader_19 : decode bb_V_newHeader 19 = .ok (.istore_n 2, 1) := by decide +kernel
theorem dc_V_newHeader_20 : decode bb_V_newHeader 20 = .ok (.aload_n 0, 1) := by decide +kernel
theorem dc_V_newHeader_21 : decode bb_V_newHeader 21 = .ok (.getfield 15, 3) := by decide +kernel
theorem dc_V_newHeader_24 : decode bb_V_newHeader 24 = .ok (.iload_n 1, 1) := by decide +kernel
theorem dc_V_newHeader_25 : decode bb_V_newHeader 25 = .ok (.iconst 3, 1) := by decide +kernel
theorem dc_V_newHeader_26 : decode bb_V_newHeader 26 = .ok (.invokevirtual 52, 3) := by decide +kernel
theorem dc_V_newHeader_29 : decode bb_V_newHeader 29 = .ok (.iconst 2, 1) := by decide +kernel
theorem dc_V_newHeader_30 : decode bb_V_newHeader 30 = .ok (.if_icmp .ne 7, 3) := by decide +kernel
theorem dc_V_newHeader_33 : decode bb_V_newHeader 33 = .ok (.iconst 1, 1) := by decide +kernel
theorem dc_V_newHeader_34 : decode bb_V_newHeader 34 = .ok (.goto 4, 3) := by decide +kernel
theorem dc_V_newHeader_37 : decode bb_V_newHeader 37 = .ok (.iconst 0, 1) := by decide +kernel
theorem dc_V_newHeader_38 : decode bb_V_newHeader 38 = .ok (.istore_n 3, 1) := by decide +kernel
theorem dc_V_newHeader_39 : decode bb_V_newHeader 39 = .ok (.iload_n 3, 1) := by decide +kernel
theorem dc_V_newHeader_40 : decode bb_V_newHeader 40 = .ok (.ifCond .eq 11, 3) := by decide +kernel
theorem dc_V_newHeader_43 : decode bb_V_newHeader 43 = .ok (.iload_n 2, 1) := by decide +kernel
theorem dc_V_newHeader_44 : decode bb_V_newHeader 44 = .ok (.ifCond .eq 7, 3) := by decide +kernel
theorem dc_V_newHeader_47 : decode bb_V_newHeader 47 = .ok (.iconst 2, 1) := by decide +kernel
theorem dc_V_newHeader_48 : decode bb_V_newHeader 48 = .ok (.goto 4, 3) := by decide +kernel
theorem dc_V_newHeader_51 : decode bb_V_newHeader 51 = .ok (.iconst 4, 1) := by decide +kernel
theorem dc_V_newHeader_52 : decode bb_V_newHeader 52 = .ok (.ireturn, 1) := by decide +kernel
theorem dc_V_newSize_0 : decode bb_V_newSize 0 = .ok (.aload_n 0, 1) := by decide +kernel
theorem dc_V_newSize_1 : decode bb_V_newSize 1 = .ok (.getfield 29, 3) := by decide +kernel
theorem dc_V_newSize_4 : decode bb_V_newSize 4 = .ok (.iload_n 1, 1) := by decide +kernel
theorem dc_V_newSize_5 : decode bb_V_newSize 5 = .ok (.iaload, 1) := by decide +kernel
theorem dc_V_newSize_6 : decode bb_V_newSize 6 = .ok (.aload_n 0, 1) := by decide +kernel
theorem dc_V_newSize_7 : decode bb_V_newSize 7 = .ok (.getfield 33, 3) := by decide +kernel
theorem dc_V_newSize_10 : decode bb_V_newSize 10 = .ok (.iload_n 1, 1) := by decide +kernel
theorem dc_V_newSize_11 : decode bb_V_newSize 11 = .ok (.iaload, 1) := by decide +kernel
theorem dc_V_newSize_12 : decode bb_V_newSize 12 = .ok (.iadd, 1) := by decide +kernel
theorem dc_V_newSize_13 : decode bb_V_newSize 13 = .ok (.ireturn, 1) := by decide +kernel
theorem dc_V_widenSome_0 : decode bb_V_widenSome 0 = .ok (.iconst 0, 1) := by decide +kernel
theorem dc_V_widenSome_1 : decode bb_V_widenSome 1 = .ok (.istore_n 1, 1) := by decide +kernel
theorem dc_V_widenSome_2 : decode bb_V_widenSome 2 = .ok (.aload_n 0, 1) := by decide +kernel
theorem dc_V_widenSome_3 : decode bb_V_widenSome 3 = .ok (.getfield 36, 3) := by decide +kernel
theorem dc_V_widenSome_6 : decode bb_V_widenSome 6 = .ok (.istore_n 2, 1) := by decide +kernel
theorem dc_V_widenSome_7 : decode bb_V_widenSome 7 = .ok (.iload_n 2, 1) := by decide +kernel
theorem dc_V_widenSome_8 : decode bb_V_widenSome 8 = .ok (.aload_n 0, 1) := by decide +kernel
theorem dc_V_widenSome_9 : decode bb_V_widenSome 9 = .ok (.getfield 40, 3) := by decide +kernel
theorem dc_V_widenSome_12 : decode bb_V_widenSome 12 = .ok (.if_icmp .ge 50, 3) := by decide +kernel
theorem dc_V_widenSome_15 : decode bb_V_widenSome 15 = .ok (.aload_n 0, 1) := by decide +kernel
theorem dc_V_widenSome_16 : decode bb_V_widenSome 16 = .ok (.getfield 15, 3) := by decide +kernel
theorem dc_V_widenSome_19 : decode bb_V_widenSome 19 = .ok (.iload_n 2, 1) := by decide +kernel
theorem dc_V_widenSome_20 : decode bb_V_widenSome 20 = .ok (.bipush 6, 2) := by decide +kernel
theorem dc_V_widenSome_22 : decode bb_V_widenSome 22 = .ok (.invokevirtual 52, 3) := by decide +kernel
theorem dc_V_widenSome_25 : decode bb_V_widenSome 25 = .ok (.bipush 111, 2) := by decide +kernel
theorem dc_V_widenSome_27 : decode bb_V_widenSome 27 = .ok (.if_icmp .ne 29, 3) := by decide +kernel
theorem dc_V_widenSome_30 : decode bb_V_widenSome 30 = .ok (.aload_n 0, 1) := by decide +kernel
theorem dc_V_widenSome_31 : decode bb_V_widenSome 31 = .ok (.getfield 25, 3) := by decide +kernel
theorem dc_V_widenSome_34 : decode bb_V_widenSome 34 = .ok (.iload_n 2, 1) := by decide +kernel
theorem dc_V_widenSome_35 : decode bb_V_widenSome 35 = .ok (.baload, 1) := by decide +kernel
theorem dc_V_widenSome_36 : decode bb_V_widenSome 36 = .ok (.ifCond .ne 20, 3) := by decide +kernel
theorem dc_V_widenSome_39 : decode bb_V_widenSome 39 = .ok (.aload_n 0, 1) := by decide +kernel
theorem dc_V_widenSome_40 : decode bb_V_widenSome 40 = .ok (.iload_n 2, 1) := by decide +kernel
theorem dc_V_widenSome_41 : decode bb_V_widenSome 41 = .ok (.invokevirtual 111, 3) := by decide +kernel
theorem dc_V_widenSome_44 : decode bb_V_widenSome 44 = .ok (.ifCond .eq 12, 3) := by decide +kernel
theorem dc_V_widenSome_47 : decode bb_V_widenSome 47 = .ok (.aload_n 0, 1) := by decide +kernel
theorem dc_V_widenSome_48 : decode bb_V_widenSome 48 = .ok (.getfield 25, 3) := by decide +kernel
theorem dc_V_widenSome_51 : decode bb_V_widenSome 51 = .ok (.iload_n 2, 1) := by decide +kernel
theorem dc_V_widenSome_52 : decode bb_V_widenSome 52 = .ok (.iconst 1, 1) := by decide +kernel
theorem dc_V_widenSome_53 : decode bb_V_widenSome 53 = .ok (.bastore, 1) := by decide +kernel
theorem dc_V_widenSome_54 : decode bb_V_widenSome 54 = .ok (.iconst 1, 1) := by decide +kernel
theorem dc_V_widenSome_55 : decode bb_V_widenSome 55 = .ok (.istore_n 1, 1) := by decide +kernel
theorem dc_V_widenSome_56 : decode bb_V_widenSome 56 = .ok (.iinc 2 1, 3) := by decide +kernel
theorem dc_V_widenSome_59 : decode bb_V_widenSome 59 = .ok (.goto (-52), 3) := by decide +kernel
theorem dc_V_widenSome_62 : decode bb_V_widenSome 62 = .ok (.iload_n 1, 1) := by decide +kernel
theorem dc_V_widenSome_63 : decode bb_V_widenSome 63 = .ok (.ireturn, 1) := by decide +kernel
theorem dc_V_outgrowsBytes_0 : decode bb_V_outgrowsBytes 0 = .ok (.iconst 0, 1) := by decide +kernel
theorem dc_V_outgrowsBytes_1 : decode bb_V_outgrowsBytes 1 = .ok (.istore_n 2, 1) := by decide +kernel
theorem dc_V_outgrowsBytes_2 : decode bb_V_outgrowsBytes 2 = .ok (.iload_n 2, 1) := by decide +kernel
theorem dc_V_outgrowsBytes_3 : decode bb_V_outgrowsBytes 3 = .ok (.aload_n 0, 1) := by decide +kernel
theorem dc_V_outgrowsBytes_4 : decode bb_V_outgrowsBytes 4 = .ok (.iload_n 1, 1) := by decide +kernel
theorem dc_V_outgrowsBytes_5 : decode bb_V_outgrowsBytes 5 = .ok (.invokevirtual 102, 3) := by decide +kernel
theorem dc_V_outgrowsBytes_8 : decode bb_V_outgrowsBytes 8 = .ok (.if_icmp .ge 27, 3) := by decide +kernel
theorem dc_V_outgrowsBytes_11 : decode bb_V_outgrowsBytes 11 = .ok (.aload_n 0, 1) := by decide +kernel
theorem dc_V_outgrowsBytes_12 : decode bb_V_outgrowsBytes 12 = .ok (.aload_n 0, 1) := by decide +kernel
theorem dc_V_outgrowsBytes_13 : decode bb_V_outgrowsBytes 13 = .ok (.iload_n 1, 1) := by decide +kernel
theorem dc_V_outgrowsBytes_14 : decode bb_V_outgrowsBytes 14 = .ok (.iload_n 2, 1) := by decide +kernel
theorem dc_V_outgrowsBytes_15 : decode bb_V_outgrowsBytes 15 = .ok (.invokevirtual 114, 3) := by decide +kernel
theorem dc_V_outgrowsBytes_18 : decode bb_V_outgrowsBytes 18 = .ok (.invokevirtual 117, 3) := by decide +kernel
theorem dc_V_outgrowsBytes_21 : decode bb_V_outgrowsBytes 21 = .ok (.sipush 255, 3) := by decide +kernel
theorem dc_V_outgrowsBytes_24 : decode bb_V_outgrowsBytes 24 = .ok (.if_icmp .le 5, 3) := by decide +kernel
theorem dc_V_outgrowsBytes_27 : decode bb_V_outgrowsBytes 27 = .ok (.iconst 1, 1) := by decide +kernel
theorem dc_V_outgrowsBytes_28 : decode bb_V_outgrowsBytes 28 = .ok (.ireturn, 1) := by decide +kernel
theorem dc_V_outgrowsBytes_29 : decode bb_V_outgrowsBytes 29 = .ok (.iinc 2 1, 3) := by decide +kernel
theorem dc_V_outgrowsBytes_32 : decode bb_V_outgrowsBytes 32 = .ok (.goto (-30), 3) := by decide +kernel
theorem dc_V_outgrowsBytes_35 : decode bb_V_outgrowsBytes 35 = .ok (.iconst 0, 1) := by decide +kernel
theorem dc_V_outgrowsBytes_36 : decode bb_V_outgrowsBytes 36 = .ok (.ireturn, 1) := by decide +kernel
theorem dc_V_oldPlace_0 : decode bb_V_oldPlace 0 = .ok (.aload_n 0, 1) := by decide +kernel
theorem dc_V_oldPlace_1 : decode bb_V_oldPlace 1 = .ok (.getfield 15, 3) := by decide +kernel
theorem dc_V_oldPlace_4 : decode bb_V_oldPlace 4 = .ok (.iload_n 1, 1) := by decide +kernel
theorem dc_V_oldPlace_5 : decode bb_V_oldPlace 5 = .ok (.invokevirtual 105, 3) := by decide +kernel
theorem dc_V_oldPlace_8 : decode bb_V_oldPlace 8 = .ok (.iconst 1, 1) := by decide +kernel
theorem dc_V_oldPlace_9 : decode bb_V_oldPlace 9 = .ok (.iadd, 1) := by decide +kernel
theorem dc_V_oldPlace_10 : decode bb_V_oldPlace 10 = .ok (.istore_n 3, 1) := by decide +kernel
theorem dc_V_oldPlace_11 : decode bb_V_oldPlace 11 = .ok (.aload_n 0, 1) := by decide +kernel
theorem dc_V_oldPlace_12 : decode bb_V_oldPlace 12 = .ok (.getfield 15, 3) := by decide +kernel
theorem dc_V_oldPlace_15 : decode bb_V_oldPlace 15 = .ok (.iload_n 1, 1) := by decide +kernel
theorem dc_V_oldPlace_16 : decode bb_V_oldPlace 16 = .ok (.bipush 6, 2) := by decide +kernel
theorem dc_V_oldPlace_18 : decode bb_V_oldPlace 18 = .ok (.invokevirtual 52, 3) := by decide +kernel
theorem dc_V_oldPlace_21 : decode bb_V_oldPlace 21 = .ok (.bipush 79, 2) := by decide +kernel
theorem dc_V_oldPlace_23 : decode bb_V_oldPlace 23 = .ok (.if_icmp .ne 7, 3) := by decide +kernel
theorem dc_V_oldPlace_26 : decode bb_V_oldPlace 26 = .ok (.iconst 1, 1) := by decide +kernel
theorem dc_V_oldPlace_27 : decode bb_V_oldPlace 27 = .ok (.goto 4, 3) := by decide +kernel
theorem dc_V_oldPlace_30 : decode bb_V_oldPlace 30 = .ok (.iconst 0, 1) := by decide +kernel
theorem dc_V_oldPlace_31 : decode bb_V_oldPlace 31 = .ok (.istore 4, 2) := by decide +kernel
theorem dc_V_oldPlace_33 : decode bb_V_oldPlace 33 = .ok (.iload 4, 2) := by decide +kernel
theorem dc_V_oldPlace_35 : decode bb_V_oldPlace 35 = .ok (.ifCond .eq 18, 3) := by decide +kernel
theorem dc_V_oldPlace_38 : decode bb_V_oldPlace 38 = .ok (.aload_n 0, 1) := by decide +kernel
theorem dc_V_oldPlace_39 : decode bb_V_oldPlace 39 = .ok (.getfield 9, 3) := by decide +kernel
theorem dc_V_oldPlace_42 : decode bb_V_oldPlace 42 = .ok (.iload_n 3, 1) := by decide +kernel
theorem dc_V_oldPlace_43 : decode bb_V_oldPlace 43 = .ok (.iconst 2, 1) := by decide +kernel
theorem dc_V_oldPlace_44 : decode bb_V_oldPlace 44 = .ok (.iload_n 2, 1) := by decide +kernel
theorem dc_V_oldPlace_45 : decode bb_V_oldPlace 45 = .ok (.imul, 1) := by decide +kernel
theorem dc_V_oldPlace_46 : decode bb_V_oldPlace 46 = .ok (.iadd, 1) := by decide +kernel
theorem dc_V_oldPlace_47 : decode bb_V_oldPlace 47 = .ok (.invokevirtual 120, 3) := by decide +kernel
theorem dc_V_oldPlace_50 : decode bb_V_oldPlace 50 = .ok (.goto 13, 3) := by decide +kernel
theorem dc_V_oldPlace_53 : decode bb_V_oldPlace 53 = .ok (.aload_n 0, 1) := by decide +kernel
theorem dc_V_oldPlace_54 : decode bb_V_oldPlace 54 = .ok (.getfield 9, 3) := by decide +kernel
theorem dc_V_oldPlace_57 : decode bb_V_oldPlace 57 = .ok (.iload_n 3, 1) := by decide +kernel
theorem dc_V_oldPlace_58 : decode bb_V_oldPlace 58 = .ok (.iload_n 2, 1) := by decide +kernel
theorem dc_V_oldPlace_59 : decode bb_V_oldPlace 59 = .ok (.iadd, 1) := by decide +kernel
theorem dc_V_oldPlace_60 : decode bb_V_oldPlace 60 = .ok (.invokevirtual 108, 3) := by decide +kernel
theorem dc_V_oldPlace_63 : decode bb_V_oldPlace 63 = .ok (.ireturn, 1) := by decide +kernel
theorem dc_V_newPlace_0 : decode bb_V_newPlace 0 = .ok (.aload_n 0, 1) := by decide +kernel
theorem dc_V_newPlace_1 : decode bb_V_newPlace 1 = .ok (.getfield 15, 3) := by decide +kernel
theorem dc_V_newPlace_4 : decode bb_V_newPlace 4 = .ok (.iload_n 1, 1) := by decide +kernel
theorem dc_V_newPlace_5 : decode bb_V_newPlace 5 = .ok (.invokevirtual 123, 3) := by decide +kernel
theorem dc_V_newPlace_8 : decode bb_V_newPlace 8 = .ok (.aload_n 0, 1) := by decide +kernel
theorem dc_V_newPlace_9 : decode bb_V_newPlace 9 = .ok (.getfield 36, 3) := by decide +kernel
theorem dc_V_newPlace_12 : decode bb_V_newPlace 12 = .ok (.if_icmp .ge 7, 3) := by decide +kernel
theorem dc_V_newPlace_15 : decode bb_V_newPlace 15 = .ok (.iconst 1, 1) := by decide +kernel
theorem dc_V_newPlace_16 : decode bb_V_newPlace 16 = .ok (.goto 4, 3) := by decide +kernel
theorem dc_V_newPlace_19 : decode bb_V_newPlace 19 = .ok (.iconst 0, 1) := by decide +kernel
theorem dc_V_newPlace_20 : decode bb_V_newPlace 20 = .ok (.istore_n 2, 1) := by decide +kernel
theorem dc_V_newPlace_21 : decode bb_V_newPlace 21 = .ok (.iload_n 2, 1) := by decide +kernel
theorem dc_V_newPlace_22 : decode bb_V_newPlace 22 = .ok (.ifCond .eq 7, 3) := by decide +kernel
theorem dc_V_newPlace_25 : decode bb_V_newPlace 25 = .ok (.iconst 0, 1) := by decide +kernel
theorem dc_V_newPlace_26 : decode bb_V_newPlace 26 = .ok (.goto 15, 3) := by decide +kernel
theorem dc_V_newPlace_29 : decode bb_V_newPlace 29 = .ok (.aload_n 0, 1) := by decide +kernel
theorem dc_V_newPlace_30 : decode bb_V_newPlace 30 = .ok (.getfield 15, 3) := by decide +kernel
theorem dc_V_newPlace_33 : decode bb_V_newPlace 33 = .ok (.aload_n 0, 1) := by decide +kernel
theorem dc_V_newPlace_34 : decode bb_V_newPlace 34 = .ok (.getfield 36, 3) := by decide +kernel
theorem dc_V_newPlace_37 : decode bb_V_newPlace 37 = .ok (.iconst 1, 1) := by decide +kernel
theorem dc_V_newPlace_38 : decode bb_V_newPlace 38 = .ok (.invokevirtual 52, 3) := by decide +kernel
theorem dc_V_newPlace_41 : decode bb_V_newPlace 41 = .ok (.istore_n 3, 1) := by decide +kernel
theorem dc_V_newPlace_42 : decode bb_V_newPlace 42 = .ok (.iload_n 1, 1) := by decide +kernel
theorem dc_V_newPlace_43 : decode bb_V_newPlace 43 = .ok (.aload_n 0, 1) := by decide +kernel
theorem dc_V_newPlace_44 : decode bb_V_newPlace 44 = .ok (.aload_n 0, 1) := by decide +kernel
theorem dc_V_newPlace_45 : decode bb_V_newPlace 45 = .ok (.getfield 36, 3) := by decide +kernel
theorem dc_V_newPlace_48 : decode bb_V_newPlace 48 = .ok (.invokevirtual 59, 3) := by decide +kernel
theorem dc_V_newPlace_51 : decode bb_V_newPlace 51 = .ok (.iadd, 1) := by decide +kernel
theorem dc_V_newPlace_52 : decode bb_V_newPlace 52 = .ok (.iload_n 3, 1) := by decide +kernel
theorem dc_V_newPlace_53 : decode bb_V_newPlace 53 = .ok (.isub, 1) := by decide +kernel
theorem dc_V_newPlace_54 : decode bb_V_newPlace 54 = .ok (.ireturn, 1) := by decide +kernel
theorem dc_B_addPart_0 : decode bb_B_addPart 0 = .ok (.iload_n 2, 1) := by decide +kernel
theorem dc_B_addPart_1 : decode bb_B_addPart 1 = .ok (.istore 4, 2) := by decide +kernel
theorem dc_B_addPart_3 : decode bb_B_addPart 3 = .ok (.iload 4, 2) := by decide +kernel
theorem dc_B_addPart_5 : decode bb_B_addPart 5 = .ok (.iload_n 3, 1) := by decide +kernel
theorem dc_B_addPart_6 : decode bb_B_addPart 6 = .ok (.if_icmp .ge 19, 3) := by decide +kernel
theorem dc_B_addPart_9 : decode bb_B_addPart 9 = .ok (.aload_n 0, 1) := by decide +kernel
theorem dc_B_addPart_10 : decode bb_B_addPart 10 = .ok (.aload_n 1, 1) := by decide +kernel
theorem dc_B_addPart_11 : decode bb_B_addPart 11 = .ok (.iload 4, 2) := by decide +kernel
theorem dc_B_addPart_13 : decode bb_B_addPart 13 = .ok (.invokevirtual 27, 3) := by decide +kernel
theorem dc_B_addPart_16 : decode bb_B_addPart 16 = .ok (.invokevirtual 23, 3) := by decide +kernel
theorem dc_B_addPart_19 : decode bb_B_addPart 19 = .ok (.iinc 4 1, 3) := by decide +kernel
theorem dc_B_addPart_22 : decode bb_B_addPart 22 = .ok (.goto (-19), 3) := by decide +kernel
theorem dc_B_addPart_25 : decode bb_B_addPart 25 = .ok (.return_, 1) := by decide +kernel
theorem dc_V_writeBox_0 : decode bb_V_writeBox 0 = .ok (.aload_n 0, 1) := by decide +kernel
theorem dc_V_writeBox_1 : decode bb_V_writeBox 1 = .ok (.iload_n 1, 1) := by decide +kernel
theorem dc_V_writeBox_2 : decode bb_V_writeBox 2 = .ok (.invokevirtual 126, 3) := by decide +kernel
theorem dc_V_writeBox_5 : decode bb_V_writeBox 5 = .ok (.aload_n 0, 1) := by decide +kernel
theorem dc_V_writeBox_6 : decode bb_V_writeBox 6 = .ok (.getfield 15, 3) := by decide +kernel
theorem dc_V_writeBox_9 : decode bb_V_writeBox 9 = .ok (.iload_n 1, 1) := by decide +kernel
theorem dc_V_writeBox_10 : decode bb_V_writeBox 10 = .ok (.bipush 6, 2) := by decide +kernel
theorem dc_V_writeBox_12 : decode bb_V_writeBox 12 = .ok (.invokevirtual 52, 3) := by decide +kernel
theorem dc_V_writeBox_15 : decode bb_V_writeBox 15 = .ok (.istore_n 2, 1) := by decide +kernel
theorem dc_V_writeBox_16 : decode bb_V_writeBox 16 = .ok (.iload_n 2, 1) := by decide +kernel
theorem dc_V_writeBox_17 : decode bb_V_writeBox 17 = .ok (.bipush 111, 2) := by decide +kernel
theorem dc_V_writeBox_19 : decode bb_V_writeBox 19 = .ok (.if_icmp .eq 9, 3) := by decide +kernel
theorem dc_V_writeBox_22 : decode bb_V_writeBox 22 = .ok (.iload_n 2, 1) := by decide +kernel
theorem dc_V_writeBox_23 : decode bb_V_writeBox 23 = .ok (.bipush 79, 2) := by decide +kernel
theorem dc_V_writeBox_25 : decode bb_V_writeBox 25 = .ok (.if_icmp .ne 11, 3) := by decide +kernel
theorem dc_V_writeBox_28 : decode bb_V_writeBox 28 = .ok (.aload_n 0, 1) := by decide +kernel
theorem dc_V_writeBox_29 : decode bb_V_writeBox 29 = .ok (.iload_n 1, 1) := by decide +kernel
theorem dc_V_writeBox_30 : decode bb_V_writeBox 30 = .ok (.invokevirtual 129, 3) := by decide +kernel
theorem dc_V_writeBox_33 : decode bb_V_writeBox 33 = .ok (.goto 41, 3) := by decide +kernel
theorem dc_V_writeBox_36 : decode bb_V_writeBox 36 = .ok (.aload_n 0, 1) := by decide +kernel
theorem dc_V_writeBox_37 : decode bb_V_writeBox 37 = .ok (.getfield 15, 3) := by decide +kernel
theorem dc_V_writeBox_40 : decode bb_V_writeBox 40 = .ok (.iload_n 1, 1) := by decide +kernel
theorem dc_V_writeBox_41 : decode bb_V_writeBox 41 = .ok (.invokevirtual 95, 3) := by decide +kernel
theorem dc_V_writeBox_44 : decode bb_V_writeBox 44 = .ok (.ifCond .ne 30, 3) := by decide +kernel
theorem dc_V_writeBox_47 : decode bb_V_writeBox 47 = .ok (.aload_n 0, 1) := by decide +kernel
theorem dc_V_writeBox_48 : decode bb_V_writeBox 48 = .ok (.getfield 22, 3) := by decide +kernel
theorem dc_V_writeBox_51 : decode bb_V_writeBox 51 = .ok (.aload_n 0, 1) := by decide +kernel
theorem dc_V_writeBox_52 : decode bb_V_writeBox 52 = .ok (.getfield 9, 3) := by decide +kernel
theorem dc_V_writeBox_55 : decode bb_V_writeBox 55 = .ok (.aload_n 0, 1) := by decide +kernel
theorem dc_V_writeBox_56 : decode bb_V_writeBox 56 = .ok (.getfield 15, 3) := by decide +kernel
theorem dc_V_writeBox_59 : decode bb_V_writeBox 59 = .ok (.iload_n 1, 1) := by decide +kernel
theorem dc_V_writeBox_60 : decode bb_V_writeBox 60 = .ok (.invokevirtual 105, 3) := by decide +kernel
theorem dc_V_writeBox_63 : decode bb_V_writeBox 63 = .ok (.aload_n 0, 1) := by decide +kernel
theorem dc_V_writeBox_64 : decode bb_V_writeBox 64 = .ok (.getfield 15, 3) := by decide +kernel
theorem dc_V_writeBox_67 : decode bb_V_writeBox 67 = .ok (.iload_n 1, 1) := by decide +kernel
theorem dc_V_writeBox_68 : decode bb_V_writeBox 68 = .ok (.invokevirtual 74, 3) := by decide +kernel
theorem dc_V_writeBox_71 : decode bb_V_writeBox 71 = .ok (.invokevirtual 67, 3) := by decide +kernel
theorem dc_V_writeBox_74 : decode bb_V_writeBox 74 = .ok (.return_, 1) := by decide +kernel
theorem dc_V_writeHeader_0 : decode bb_V_writeHeader 0 = .ok (.aload_n 0, 1) := by decide +kernel
theorem dc_V_writeHeader_1 : decode bb_V_writeHeader 1 = .ok (.getfield 25, 3) := by decide +kernel
theorem dc_V_writeHeader_4 : decode bb_V_writeHeader 4 = .ok (.iload_n 1, 1) := by decide +kernel
theorem dc_V_writeHeader_5 : decode bb_V_writeHeader 5 = .ok (.baload, 1) := by decide +kernel
theorem dc_V_writeHeader_6 : decode bb_V_writeHeader 6 = .ok (.ifCond .eq 8, 3) := by decide +kernel
theorem dc_V_writeHeader_9 : decode bb_V_writeHeader 9 = .ok (.bipush 79, 2) := by decide +kernel
theorem dc_V_writeHeader_11 : decode bb_V_writeHeader 11 = .ok (.goto 12, 3) := by decide +kernel
theorem dc_V_writeHeader_14 : decode bb_V_writeHeader 14 = .ok (.aload_n 0, 1) := by decide +kernel
theorem dc_V_writeHeader_15 : decode bb_V_writeHeader 15 = .ok (.getfield 15, 3) := by decide +kernel
theorem dc_V_writeHeader_18 : decode bb_V_writeHeader 18 = .ok (.iload_n 1, 1) := by decide +kernel
theorem dc_V_writeHeader_19 : decode bb_V_writeHeader 19 = .ok (.iconst 2, 1) := by decide +kernel
theorem dc_V_writeHeader_20 : decode bb_V_writeHeader 20 = .ok (.invokevirtual 52, 3) := by decide +kernel
theorem dc_V_writeHeader_23 : decode bb_V_writeHeader 23 = .ok (.istore_n 2, 1) := by decide +kernel
theorem dc_V_writeHeader_24 : decode bb_V_writeHeader 24 = .ok (.aload_n 0, 1) := by decide +kernel
theorem dc_V_writeHeader_25 : decode bb_V_writeHeader 25 = .ok (.getfield 33, 3) := by decide +kernel
theorem dc_V_writeHeader_28 : decode bb_V_writeHeader 28 = .ok (.iload_n 1, 1) := by decide +kernel
theorem dc_V_writeHeader_29 : decode bb_V_writeHeader 29 = .ok (.iaload, 1) := by decide +kernel
theorem dc_V_writeHeader_30 : decode bb_V_writeHeader 30 = .ok (.iconst 4, 1) := by decide +kernel
theorem dc_V_writeHeader_31 : decode bb_V_writeHeader 31 = .ok (.if_icmp .ne 7, 3) := by decide +kernel
theorem dc_V_writeHeader_34 : decode bb_V_writeHeader 34 = .ok (.iconst 1, 1) := by decide +kernel
theorem dc_V_writeHeader_35 : decode bb_V_writeHeader 35 = .ok (.goto 4, 3) := by decide +kernel
theorem dc_V_writeHeader_38 : decode bb_V_writeHeader 38 = .ok (.iconst 0, 1) := by decide +kernel
theorem dc_V_writeHeader_39 : decode bb_V_writeHeader 39 = .ok (.istore_n 3, 1) := by decide +kernel
theorem dc_V_writeHeader_40 : decode bb_V_writeHeader 40 = .ok (.aload_n 0, 1) := by decide +kernel
theorem dc_V_writeHeader_41 : decode bb_V_writeHeader 41 = .ok (.getfield 22, 3) := by decide +kernel
theorem dc_V_writeHeader_44 : decode bb_V_writeHeader 44 = .ok (.iload_n 3, 1) := by decide +kernel
theorem dc_V_writeHeader_45 : decode bb_V_writeHeader 45 = .ok (.ifCond .eq 7, 3) := by decide +kernel
theorem dc_V_writeHeader_48 : decode bb_V_writeHeader 48 = .ok (.iconst 1, 1) := by decide +kernel
theorem dc_V_writeHeader_49 : decode bb_V_writeHeader 49 = .ok (.goto 8, 3) := by decide +kernel
theorem dc_V_writeHeader_52 : decode bb_V_writeHeader 52 = .ok (.aload_n 0, 1) := by decide +kernel
theorem dc_V_writeHeader_53 : decode bb_V_writeHeader 53 = .ok (.iload_n 1, 1) := by decide +kernel
theorem dc_V_writeHeader_54 : decode bb_V_writeHeader 54 = .ok (.invokevirtual 59, 3) := by decide +kernel
theorem dc_V_writeHeader_57 : decode bb_V_writeHeader 57 = .ok (.invokevirtual 132, 3) := by decide +kernel
theorem dc_V_writeHeader_60 : decode bb_V_writeHeader 60 = .ok (.aload_n 0, 1) := by decide +kernel
theorem dc_V_writeHeader_61 : decode bb_V_writeHeader 61 = .ok (.getfield 22, 3) := by decide +kernel
theorem dc_V_writeHeader_64 : decode bb_V_writeHeader 64 = .ok (.iload_n 2, 1) := by decide +kernel
theorem dc_V_writeHeader_65 : decode bb_V_writeHeader 65 = .ok (.invokevirtual 132, 3) := by decide +kernel
theorem dc_V_writeHeader_68 : decode bb_V_writeHeader 68 = .ok (.iload_n 3, 1) := by decide +kernel
theorem dc_V_writeHeader_69 : decode bb_V_writeHeader 69 = .ok (.ifCond .eq 15, 3) := by decide +kernel
theorem dc_V_writeHeader_72 : decode bb_V_writeHeader 72 = .ok (.aload_n 0, 1) := by decide +kernel
theorem dc_V_writeHeader_73 : decode bb_V_writeHeader 73 = .ok (.getfield 22, 3) := by decide +kernel
theorem dc_V_writeHeader_76 : decode bb_V_writeHeader 76 = .ok (.aload_n 0, 1) := by decide +kernel
theorem dc_V_writeHeader_77 : decode bb_V_writeHeader 77 = .ok (.iload_n 1, 1) := by decide +kernel
theorem dc_V_writeHeader_78 : decode bb_V_writeHeader 78 = .ok (.invokevirtual 59, 3) := by decide +kernel
theorem dc_V_writeHeader_81 : decode bb_V_writeHeader 81 = .ok (.invokevirtual 135, 3) := by decide +kernel
theorem dc_V_writeHeader_84 : decode bb_V_writeHeader 84 = .ok (.return_, 1) := by decide +kernel
end
section
theorem dc_B_addPair_0 : decode bb_B_addPair 0 = .ok (.aload_n 0, 1) := by decide +kernel
theorem dc_B_addPair_1 : decode bb_B_addPair 1 = .ok (.iload_n 1, 1) := by decide +kernel
theorem dc_B_addPair_2 : decode bb_B_addPair 2 = .ok (.bipush 8, 2) := by decide +kernel
theorem dc_B_addPair_4 : decode bb_B_addPair 4 = .ok (.ishr, 1) := by decide +kernel
theorem dc_B_addPair_5 : decode bb_B_addPair 5 = .ok (.invokevirtual 23, 3) := by decide +kernel
theorem dc_B_addPair_8 : decode bb_B_addPair 8 = .ok (.aload_n 0, 1) := by decide +kernel
theorem dc_B_addPair_9 : decode bb_B_addPair 9 = .ok (.iload_n 1, 1) := by decide +kernel
theorem dc_B_addPair_10 : decode bb_B_addPair 10 = .ok (.invokevirtual 23, 3) := by decide +kernel
theorem dc_B_addPair_13 : decode bb_B_addPair 13 = .ok (.return_, 1) := by decide +kernel
theorem dc_V_writePlaces_0 : decode bb_V_writePlaces 0 = .ok (.aload_n 0, 1) := by decide +kernel
theorem dc_V_writePlaces_1 : decode bb_V_writePlaces 1 = .ok (.getfield 25, 3) := by decide +kernel
theorem dc_V_writePlaces_4 : decode bb_V_writePlaces 4 = .ok (.iload_n 1, 1) := by decide +kernel
theorem dc_V_writePlaces_5 : decode bb_V_writePlaces 5 = .ok (.baload, 1) := by decide +kernel
theorem dc_V_writePlaces_6 : decode bb_V_writePlaces 6 = .ok (.ifCond .ne 18, 3) := by decide +kernel
theorem dc_V_writePlaces_9 : decode bb_V_writePlaces 9 = .ok (.aload_n 0, 1) := by decide +kernel
theorem dc_V_writePlaces_10 : decode bb_V_writePlaces 10 = .ok (.getfield 15, 3) := by decide +kernel
theorem dc_V_writePlaces_13 : decode bb_V_writePlaces 13 = .ok (.iload_n 1, 1) := by decide +kernel
theorem dc_V_writePlaces_14 : decode bb_V_writePlaces 14 = .ok (.bipush 6, 2) := by decide +kernel
theorem dc_V_writePlaces_16 : decode bb_V_writePlaces 16 = .ok (.invokevirtual 52, 3) := by decide +kernel
theorem dc_V_writePlaces_19 : decode bb_V_writePlaces 19 = .ok (.bipush 79, 2) := by decide +kernel
theorem dc_V_writePlaces_21 : decode bb_V_writePlaces 21 = .ok (.if_icmp .ne 7, 3) := by decide +kernel
theorem dc_V_writePlaces_24 : decode bb_V_writePlaces 24 = .ok (.iconst 1, 1) := by decide +kernel
theorem dc_V_writePlaces_25 : decode bb_V_writePlaces 25 = .ok (.goto 4, 3) := by decide +kernel
theorem dc_V_writePlaces_28 : decode bb_V_writePlaces 28 = .ok (.iconst 0, 1) := by decide +kernel
theorem dc_V_writePlaces_29 : decode bb_V_writePlaces 29 = .ok (.istore_n 2, 1) := by decide +kernel
theorem dc_V_writePlaces_30 : decode bb_V_writePlaces 30 = .ok (.aload_n 0, 1) := by decide +kernel
theorem dc_V_writePlaces_31 : decode bb_V_writePlaces 31 = .ok (.getfield 22, 3) := by decide +kernel
theorem dc_V_writePlaces_34 : decode bb_V_writePlaces 34 = .ok (.aload_n 0, 1) := by decide +kernel
theorem dc_V_writePlaces_35 : decode bb_V_writePlaces 35 = .ok (.iload_n 1, 1) := by decide +kernel
theorem dc_V_writePlaces_36 : decode bb_V_writePlaces 36 = .ok (.invokevirtual 102, 3) := by decide +kernel
theorem dc_V_writePlaces_39 : decode bb_V_writePlaces 39 = .ok (.invokevirtual 132, 3) := by decide +kernel
theorem dc_V_writePlaces_42 : decode bb_V_writePlaces 42 = .ok (.iconst 0, 1) := by decide +kernel
theorem dc_V_writePlaces_43 : decode bb_V_writePlaces 43 = .ok (.istore_n 3, 1) := by decide +kernel
theorem dc_V_writePlaces_44 : decode bb_V_writePlaces 44 = .ok (.iload_n 3, 1) := by decide +kernel
theorem dc_V_writePlaces_45 : decode bb_V_writePlaces 45 = .ok (.aload_n 0, 1) := by decide +kernel
theorem dc_V_writePlaces_46 : decode bb_V_writePlaces 46 = .ok (.iload_n 1, 1) := by decide +kernel
theorem dc_V_writePlaces_47 : decode bb_V_writePlaces 47 = .ok (.invokevirtual 102, 3) := by decide +kernel
theorem dc_V_writePlaces_50 : decode bb_V_writePlaces 50 = .ok (.if_icmp .ge 46, 3) := by decide +kernel
theorem dc_V_writePlaces_53 : decode bb_V_writePlaces 53 = .ok (.aload_n 0, 1) := by decide +kernel
theorem dc_V_writePlaces_54 : decode bb_V_writePlaces 54 = .ok (.aload_n 0, 1) := by decide +kernel
theorem dc_V_writePlaces_55 : decode bb_V_writePlaces 55 = .ok (.iload_n 1, 1) := by decide +kernel
theorem dc_V_writePlaces_56 : decode bb_V_writePlaces 56 = .ok (.iload_n 3, 1) := by decide +kernel
theorem dc_V_writePlaces_57 : decode bb_V_writePlaces 57 = .ok (.invokevirtual 114, 3) := by decide +kernel
theorem dc_V_writePlaces_60 : decode bb_V_writePlaces 60 = .ok (.invokevirtual 117, 3) := by decide +kernel
theorem dc_V_writePlaces_63 : decode bb_V_writePlaces 63 = .ok (.istore 4, 2) := by decide +kernel
theorem dc_V_writePlaces_65 : decode bb_V_writePlaces 65 = .ok (.iload_n 2, 1) := by decide +kernel
theorem dc_V_writePlaces_66 : decode bb_V_writePlaces 66 = .ok (.ifCond .eq 15, 3) := by decide +kernel
theorem dc_V_writePlaces_69 : decode bb_V_writePlaces 69 = .ok (.aload_n 0, 1) := by decide +kernel
theorem dc_V_writePlaces_70 : decode bb_V_writePlaces 70 = .ok (.getfield 22, 3) := by decide +kernel
theorem dc_V_writePlaces_73 : decode bb_V_writePlaces 73 = .ok (.iload 4, 2) := by decide +kernel
theorem dc_V_writePlaces_75 : decode bb_V_writePlaces 75 = .ok (.invokevirtual 135, 3) := by decide +kernel
theorem dc_V_writePlaces_78 : decode bb_V_writePlaces 78 = .ok (.goto 12, 3) := by decide +kernel
theorem dc_V_writePlaces_81 : decode bb_V_writePlaces 81 = .ok (.aload_n 0, 1) := by decide +kernel
theorem dc_V_writePlaces_82 : decode bb_V_writePlaces 82 = .ok (.getfield 22, 3) := by decide +kernel
theorem dc_V_writePlaces_85 : decode bb_V_writePlaces 85 = .ok (.iload 4, 2) := by decide +kernel
theorem dc_V_writePlaces_87 : decode bb_V_writePlaces 87 = .ok (.invokevirtual 132, 3) := by decide +kernel
theorem dc_V_writePlaces_90 : decode bb_V_writePlaces 90 = .ok (.iinc 3 1, 3) := by decide +kernel
theorem dc_V_writePlaces_93 : decode bb_V_writePlaces 93 = .ok (.goto (-49), 3) := by decide +kernel
theorem dc_V_writePlaces_96 : decode bb_V_writePlaces 96 = .ok (.return_, 1) := by decide +kernel
theorem dc_B_become_0 : decode bb_B_become 0 = .ok (.aload_n 0, 1) := by decide +kernel
theorem dc_B_become_1 : decode bb_B_become 1 = .ok (.iconst 0, 1) := by decide +kernel
theorem dc_B_become_2 : decode bb_B_become 2 = .ok (.invokevirtual 31, 3) := by decide +kernel
theorem dc_B_become_5 : decode bb_B_become 5 = .ok (.aload_n 0, 1) := by decide +kernel
theorem dc_B_become_6 : decode bb_B_become 6 = .ok (.aload_n 1, 1) := by decide +kernel
theorem dc_B_become_7 : decode bb_B_become 7 = .ok (.iconst 0, 1) := by decide +kernel
theorem dc_B_become_8 : decode bb_B_become 8 = .ok (.aload_n 1, 1) := by decide +kernel
theorem dc_B_become_9 : decode bb_B_become 9 = .ok (.invokevirtual 34, 3) := by decide +kernel
theorem dc_B_become_12 : decode bb_B_become 12 = .ok (.invokevirtual 38, 3) := by decide +kernel
theorem dc_B_become_15 : decode bb_B_become 15 = .ok (.return_, 1) := by decide +kernel
theorem dc_R_init_0 : decode bb_R_init 0 = .ok (.aload_n 0, 1) := by decide +kernel
theorem dc_R_init_1 : decode bb_R_init 1 = .ok (.invokespecial 1, 3) := by decide +kernel
theorem dc_R_init_4 : decode bb_R_init 4 = .ok (.aload_n 0, 1) := by decide +kernel
theorem dc_R_init_5 : decode bb_R_init 5 = .ok (.sipush 1000, 3) := by decide +kernel
theorem dc_R_init_8 : decode bb_R_init 8 = .ok (.newarray .int, 2) := by decide +kernel
theorem dc_R_init_10 : decode bb_R_init 10 = .ok (.putfield 7, 3) := by decide +kernel
theorem dc_R_init_13 : decode bb_R_init 13 = .ok (.aload_n 0, 1) := by decide +kernel
theorem dc_R_init_14 : decode bb_R_init 14 = .ok (.bipush 20, 2) := by decide +kernel
theorem dc_R_init_16 : decode bb_R_init 16 = .ok (.newarray .int, 2) := by decide +kernel
theorem dc_R_init_18 : decode bb_R_init 18 = .ok (.putfield 13, 3) := by decide +kernel
theorem dc_R_init_21 : decode bb_R_init 21 = .ok (.aload_n 0, 1) := by decide +kernel
theorem dc_R_init_22 : decode bb_R_init 22 = .ok (.bipush 20, 2) := by decide +kernel
theorem dc_R_init_24 : decode bb_R_init 24 = .ok (.newarray .int, 2) := by decide +kernel
theorem dc_R_init_26 : decode bb_R_init 26 = .ok (.putfield 16, 3) := by decide +kernel
theorem dc_R_init_29 : decode bb_R_init 29 = .ok (.aload_n 0, 1) := by decide +kernel
theorem dc_R_init_30 : decode bb_R_init 30 = .ok (.bipush 20, 2) := by decide +kernel
theorem dc_R_init_32 : decode bb_R_init 32 = .ok (.newarray .int, 2) := by decide +kernel
theorem dc_R_init_34 : decode bb_R_init 34 = .ok (.putfield 19, 3) := by decide +kernel
theorem dc_R_init_37 : decode bb_R_init 37 = .ok (.aload_n 0, 1) := by decide +kernel
theorem dc_R_init_38 : decode bb_R_init 38 = .ok (.bipush 20, 2) := by decide +kernel
theorem dc_R_init_40 : decode bb_R_init 40 = .ok (.newarray .int, 2) := by decide +kernel
theorem dc_R_init_42 : decode bb_R_init 42 = .ok (.putfield 22, 3) := by decide +kernel
theorem dc_R_init_45 : decode bb_R_init 45 = .ok (.aload_n 0, 1) := by decide +kernel
theorem dc_R_init_46 : decode bb_R_init 46 = .ok (.bipush 20, 2) := by decide +kernel
theorem dc_R_init_48 : decode bb_R_init 48 = .ok (.newarray .int, 2) := by decide +kernel
theorem dc_R_init_50 : decode bb_R_init 50 = .ok (.putfield 25, 3) := by decide +kernel
theorem dc_R_init_53 : decode bb_R_init 53 = .ok (.aload_n 0, 1) := by decide +kernel
theorem dc_R_init_54 : decode bb_R_init 54 = .ok (.bipush 20, 2) := by decide +kernel
theorem dc_R_init_56 : decode bb_R_init 56 = .ok (.newarray .int, 2) := by decide +kernel
theorem dc_R_init_58 : decode bb_R_init 58 = .ok (.putfield 28, 3) := by decide +kernel
theorem dc_R_init_61 : decode bb_R_init 61 = .ok (.aload_n 0, 1) := by decide +kernel
theorem dc_R_init_62 : decode bb_R_init 62 = .ok (.iconst 3, 1) := by decide +kernel
theorem dc_R_init_63 : decode bb_R_init 63 = .ok (.newarray .int, 2) := by decide +kernel
theorem dc_R_init_65 : decode bb_R_init 65 = .ok (.putfield 31, 3) := by decide +kernel
theorem dc_R_init_68 : decode bb_R_init 68 = .ok (.aload_n 0, 1) := by decide +kernel
theorem dc_R_init_69 : decode bb_R_init 69 = .ok (.iconst 3, 1) := by decide +kernel
theorem dc_R_init_70 : decode bb_R_init 70 = .ok (.newarray .int, 2) := by decide +kernel
theorem dc_R_init_72 : decode bb_R_init 72 = .ok (.putfield 34, 3) := by decide +kernel
theorem dc_R_init_75 : decode bb_R_init 75 = .ok (.aload_n 0, 1) := by decide +kernel
theorem dc_R_init_76 : decode bb_R_init 76 = .ok (.iconst 2, 1) := by decide +kernel
theorem dc_R_init_77 : decode bb_R_init 77 = .ok (.newarray .int, 2) := by decide +kernel
theorem dc_R_init_79 : decode bb_R_init 79 = .ok (.putfield 37, 3) := by decide +kernel
theorem dc_R_init_82 : decode bb_R_init 82 = .ok (.aload_n 0, 1) := by decide +kernel
theorem dc_R_init_83 : decode bb_R_init 83 = .ok (.bipush 16, 2) := by decide +kernel
theorem dc_R_init_85 : decode bb_R_init 85 = .ok (.newarray .int, 2) := by decide +kernel
theorem dc_R_init_87 : decode bb_R_init 87 = .ok (.putfield 40, 3) := by decide +kernel
theorem dc_R_init_90 : decode bb_R_init 90 = .ok (.aload_n 0, 1) := by decide +kernel
theorem dc_R_init_91 : decode bb_R_init 91 = .ok (.sipush 512, 3) := by decide +kernel
theorem dc_R_init_94 : decode bb_R_init 94 = .ok (.newarray .int, 2) := by decide +kernel
theorem dc_R_init_96 : decode bb_R_init 96 = .ok (.putfield 43, 3) := by decide +kernel
theorem dc_R_init_99 : decode bb_R_init 99 = .ok (.aload_n 0, 1) := by decide +kernel
theorem dc_R_init_100 : decode bb_R_init 100 = .ok (.bipush 20, 2) := by decide +kernel
theorem dc_R_init_102 : decode bb_R_init 102 = .ok (.newarray .int, 2) := by decide +kernel
theorem dc_R_init_104 : decode bb_R_init 104 = .ok (.putfield 46, 3) := by decide +kernel
theorem dc_R_init_107 : decode bb_R_init 107 = .ok (.aload_n 0, 1) := by decide +kernel
theorem dc_R_init_108 : decode bb_R_init 108 = .ok (.bipush 20, 2) := by decide +kernel
theorem dc_R_init_110 : decode bb_R_init 110 = .ok (.newarray .int, 2) := by decide +kernel
theorem dc_R_init_112 : decode bb_R_init 112 = .ok (.putfield 49, 3) := by decide +kernel
theorem dc_R_init_115 : decode bb_R_init 115 = .ok (.aload_n 0, 1) := by decide +kernel
theorem dc_R_init_116 : decode bb_R_init 116 = .ok (.bipush 20, 2) := by decide +kernel
theorem dc_R_init_118 : decode bb_R_init 118 = .ok (.newarray .int, 2) := by decide +kernel
theorem dc_R_init_120 : decode bb_R_init 120 = .ok (.putfield 52, 3) := by decide +kernel
theorem dc_R_init_123 : decode bb_R_init 123 = .ok (.aload_n 0, 1) := by decide +kernel
theorem dc_R_init_124 : decode bb_R_init 124 = .ok (.sipush 1000, 3) := by decide +kernel
theorem dc_R_init_127 : decode bb_R_init 127 = .ok (.newarray .int, 2) := by decide +kernel
theorem dc_R_init_129 : decode bb_R_init 129 = .ok (.putfield 55, 3) := by decide +kernel
theorem dc_R_init_132 : decode bb_R_init 132 = .ok (.return_, 1) := by decide +kernel
theorem dc_R_append_0 : decode bb_R_append 0 = .ok (.iload_n 3, 1) := by decide +kernel
theorem dc_R_append_1 : decode bb_R_append 1 = .ok (.iconst 1, 1) := by decide +kernel
theorem dc_R_append_2 : decode bb_R_append 2 = .ok (.if_icmp .lt 9, 3) := by decide +kernel
theorem dc_R_append_5 : decode bb_R_append 5 = .ok (.iload_n 3, 1) := by decide +kernel
theorem dc_R_append_6 : decode bb_R_append 6 = .ok (.bipush 8, 2) := by decide +kernel
theorem dc_R_append_8 : decode bb_R_append 8 = .ok (.if_icmp .le 5, 3) := by decide +kernel
theorem dc_R_append_11 : decode bb_R_append 11 = .ok (.iconst (-1), 1) := by decide +kernel
theorem dc_R_append_12 : decode bb_R_append 12 = .ok (.ireturn, 1) := by decide +kernel
theorem dc_R_append_13 : decode bb_R_append 13 = .ok (.aload_n 0, 1) := by decide +kernel
theorem dc_R_append_14 : decode bb_R_append 14 = .ok (.getfield 58, 3) := by decide +kernel
theorem dc_R_append_17 : decode bb_R_append 17 = .ok (.iload_n 3, 1) := by decide +kernel
theorem dc_R_append_18 : decode bb_R_append 18 = .ok (.iadd, 1) := by decide +kernel
theorem dc_R_append_19 : decode bb_R_append 19 = .ok (.sipush 1000, 3) := by decide +kernel
theorem dc_R_append_22 : decode bb_R_append 22 = .ok (.if_icmp .le 6, 3) := by decide +kernel
theorem dc_R_append_25 : decode bb_R_append 25 = .ok (.bipush (-2), 2) := by decide +kernel
theorem dc_R_append_27 : decode bb_R_append 27 = .ok (.ireturn, 1) := by decide +kernel
theorem dc_R_append_28 : decode bb_R_append 28 = .ok (.iload_n 3, 1) := by decide +kernel
theorem dc_R_append_29 : decode bb_R_append 29 = .ok (.iconst 1, 1) := by decide +kernel
theorem dc_R_append_30 : decode bb_R_append 30 = .ok (.isub, 1) := by decide +kernel
theorem dc_R_append_31 : decode bb_R_append 31 = .ok (.istore 4, 2) := by decide +kernel
theorem dc_R_append_33 : decode bb_R_append 33 = .ok (.iload 4, 2) := by decide +kernel
theorem dc_R_append_35 : decode bb_R_append 35 = .ok (.ifCond .lt 40, 3) := by decide +kernel
theorem dc_R_append_38 : decode bb_R_append 38 = .ok (.aload_n 0, 1) := by decide +kernel
theorem dc_R_append_39 : decode bb_R_append 39 = .ok (.getfield 7, 3) := by decide +kernel
theorem dc_R_append_42 : decode bb_R_append 42 = .ok (.aload_n 0, 1) := by decide +kernel
theorem dc_R_append_43 : decode bb_R_append 43 = .ok (.getfield 58, 3) := by decide +kernel
theorem dc_R_append_46 : decode bb_R_append 46 = .ok (.lload_n 1, 1) := by decide +kernel
theorem dc_R_append_47 : decode bb_R_append 47 = .ok (.bipush 8, 2) := by decide +kernel
theorem dc_R_append_49 : decode bb_R_append 49 = .ok (.iload 4, 2) := by decide +kernel
theorem dc_R_append_51 : decode bb_R_append 51 = .ok (.imul, 1) := by decide +kernel
theorem dc_R_append_52 : decode bb_R_append 52 = .ok (.lshr, 1) := by decide +kernel
theorem dc_R_append_53 : decode bb_R_append 53 = .ok (.ldc2_w 62, 3) := by decide +kernel
theorem dc_R_append_56 : decode bb_R_append 56 = .ok (.land, 1) := by decide +kernel
theorem dc_R_append_57 : decode bb_R_append 57 = .ok (.l2i, 1) := by decide +kernel
theorem dc_R_append_58 : decode bb_R_append 58 = .ok (.iastore, 1) := by decide +kernel
theorem dc_R_append_59 : decode bb_R_append 59 = .ok (.aload_n 0, 1) := by decide +kernel
theorem dc_R_append_60 : decode bb_R_append 60 = .ok (.dup, 1) := by decide +kernel
theorem dc_R_append_61 : decode bb_R_append 61 = .ok (.getfield 58, 3) := by decide +kernel
theorem dc_R_append_64 : decode bb_R_append 64 = .ok (.iconst 1, 1) := by decide +kernel
theorem dc_R_append_65 : decode bb_R_append 65 = .ok (.iadd, 1) := by decide +kernel
theorem dc_R_append_66 : decode bb_R_append 66 = .ok (.putfield 58, 3) := by decide +kernel
theorem dc_R_append_69 : decode bb_R_append 69 = .ok (.iinc 4 (-1), 3) := by decide +kernel
theorem dc_R_append_72 : decode bb_R_append 72 = .ok (.goto (-39), 3) := by decide +kernel
theorem dc_R_append_75 : decode bb_R_append 75 = .ok (.aload_n 0, 1) := by decide +kernel
theorem dc_R_append_76 : decode bb_R_append 76 = .ok (.getfield 58, 3) := by decide +kernel
theorem dc_R_append_79 : decode bb_R_append 79 = .ok (.ireturn, 1) := by decide +kernel
theorem dc_R_poke_0 : decode bb_R_poke 0 = .ok (.iload_n 1, 1) := by decide +kernel
theorem dc_R_poke_1 : decode bb_R_poke 1 = .ok (.ifCond .lt 22, 3) := by decide +kernel
theorem dc_R_poke_4 : decode bb_R_poke 4 = .ok (.iload_n 1, 1) := by decide +kernel
theorem dc_R_poke_5 : decode bb_R_poke 5 = .ok (.aload_n 0, 1) := by decide +kernel
theorem dc_R_poke_6 : decode bb_R_poke 6 = .ok (.getfield 58, 3) := by decide +kernel
theorem dc_R_poke_9 : decode bb_R_poke 9 = .ok (.if_icmp .ge 14, 3) := by decide +kernel
theorem dc_R_poke_12 : decode bb_R_poke 12 = .ok (.iload_n 2, 1) := by decide +kernel
theorem dc_R_poke_13 : decode bb_R_poke 13 = .ok (.ifCond .lt 10, 3) := by decide +kernel
theorem dc_R_poke_16 : decode bb_R_poke 16 = .ok (.iload_n 2, 1) := by decide +kernel
theorem dc_R_poke_17 : decode bb_R_poke 17 = .ok (.sipush 255, 3) := by decide +kernel
theorem dc_R_poke_20 : decode bb_R_poke 20 = .ok (.if_icmp .le 7, 3) := by decide +kernel
theorem dc_R_poke_23 : decode bb_R_poke 23 = .ok (.sipush (-1000), 3) := by decide +kernel
theorem dc_R_poke_26 : decode bb_R_poke 26 = .ok (.ireturn, 1) := by decide +kernel
theorem dc_R_poke_27 : decode bb_R_poke 27 = .ok (.aload_n 0, 1) := by decide +kernel
theorem dc_R_poke_28 : decode bb_R_poke 28 = .ok (.getfield 7, 3) := by decide +kernel
theorem dc_R_poke_31 : decode bb_R_poke 31 = .ok (.iload_n 1, 1) := by decide +kernel
theorem dc_R_poke_32 : decode bb_R_poke 32 = .ok (.iaload, 1) := by decide +kernel
theorem dc_R_poke_33 : decode bb_R_poke 33 = .ok (.istore_n 3, 1) := by decide +kernel
theorem dc_R_poke_34 : decode bb_R_poke 34 = .ok (.aload_n 0, 1) := by decide +kernel
theorem dc_R_poke_35 : decode bb_R_poke 35 = .ok (.getfield 7, 3) := by decide +kernel
theorem dc_R_poke_38 : decode bb_R_poke 38 = .ok (.iload_n 1, 1) := by decide +kernel
theorem dc_R_poke_39 : decode bb_R_poke 39 = .ok (.iload_n 2, 1) := by decide +kernel
theorem dc_R_poke_40 : decode bb_R_poke 40 = .ok (.iastore, 1) := by decide +kernel
theorem dc_R_poke_41 : decode bb_R_poke 41 = .ok (.iload_n 3, 1) := by decide +kernel
theorem dc_R_poke_42 : decode bb_R_poke 42 = .ok (.ireturn, 1) := by decide +kernel
theorem dc_R_cut_0 : decode bb_R_cut 0 = .ok (.iload_n 1, 1) := by decide +kernel
theorem dc_R_cut_1 : decode bb_R_cut 1 = .ok (.ifCond .lt 11, 3) := by decide +kernel
theorem dc_R_cut_4 : decode bb_R_cut 4 = .ok (.iload_n 1, 1) := by decide +kernel
theorem dc_R_cut_5 : decode bb_R_cut 5 = .ok (.aload_n 0, 1) := by decide +kernel
theorem dc_R_cut_6 : decode bb_R_cut 6 = .ok (.getfield 58, 3) := by decide +kernel
theorem dc_R_cut_9 : decode bb_R_cut 9 = .ok (.if_icmp .le 5, 3) := by decide +kernel
theorem dc_R_cut_12 : decode bb_R_cut 12 = .ok (.iconst 0, 1) := by decide +kernel
theorem dc_R_cut_13 : decode bb_R_cut 13 = .ok (.ireturn, 1) := by decide +kernel
theorem dc_R_cut_14 : decode bb_R_cut 14 = .ok (.aload_n 0, 1) := by decide +kernel
theorem dc_R_cut_15 : decode bb_R_cut 15 = .ok (.iload_n 1, 1) := by decide +kernel
theorem dc_R_cut_16 : decode bb_R_cut 16 = .ok (.putfield 58, 3) := by decide +kernel
theorem dc_R_cut_19 : decode bb_R_cut 19 = .ok (.iconst 1, 1) := by decide +kernel
theorem dc_R_cut_20 : decode bb_R_cut 20 = .ok (.ireturn, 1) := by decide +kernel
theorem dc_R_length_0 : decode bb_R_length 0 = .ok (.aload_n 0, 1) := by decide +kernel
theorem dc_R_length_1 : decode bb_R_length 1 = .ok (.getfield 58, 3) := by decide +kernel
theorem dc_R_length_4 : decode bb_R_length 4 = .ok (.ireturn, 1) := by decide +kernel
theorem dc_R_peek_0 : decode bb_R_peek 0 = .ok (.iload_n 1, 1) := by decide +kernel
theorem dc_R_peek_1 : decode bb_R_peek 1 = .ok (.ifCond .lt 11, 3) := by decide +kernel
theorem dc_R_peek_4 : decode bb_R_peek 4 = .ok (.iload_n 1, 1) := by decide +kernel
theorem dc_R_peek_5 : decode bb_R_peek 5 = .ok (.aload_n 0, 1) := by decide +kernel
theorem dc_R_peek_6 : decode bb_R_peek 6 = .ok (.getfield 58, 3) := by decide +kernel
theorem dc_R_peek_9 : decode bb_R_peek 9 = .ok (.if_icmp .lt 9, 3) := by decide +kernel
theorem dc_R_peek_12 : decode bb_R_peek 12 = .ok (.sipush (-1000), 3) := by decide +kernel
theorem dc_R_peek_15 : decode bb_R_peek 15 = .ok (.goto 9, 3) := by decide +kernel
theorem dc_R_peek_18 : decode bb_R_peek 18 = .ok (.aload_n 0, 1) := by decide +kernel
theorem dc_R_peek_19 : decode bb_R_peek 19 = .ok (.getfield 7, 3) := by decide +kernel
theorem dc_R_peek_22 : decode bb_R_peek 22 = .ok (.iload_n 1, 1) := by decide +kernel
theorem dc_R_peek_23 : decode bb_R_peek 23 = .ok (.iaload, 1) := by decide +kernel
theorem dc_R_peek_24 : decode bb_R_peek 24 = .ok (.ireturn, 1) := by decide +kernel
theorem dc_R_check_0 : decode bb_R_check 0 = .ok (.aload_n 0, 1) := by decide +kernel
theorem dc_R_check_1 : decode bb_R_check 1 = .ok (.invokevirtual 75, 3) := by decide +kernel
theorem dc_R_check_4 : decode bb_R_check 4 = .ok (.istore_n 1, 1) := by decide +kernel
theorem dc_R_check_5 : decode bb_R_check 5 = .ok (.iload_n 1, 1) := by decide +kernel
theorem dc_R_check_6 : decode bb_R_check 6 = .ok (.ifCond .le 5, 3) := by decide +kernel
theorem dc_R_check_9 : decode bb_R_check 9 = .ok (.iload_n 1, 1) := by decide +kernel
theorem dc_R_check_10 : decode bb_R_check 10 = .ok (.ireturn, 1) := by decide +kernel
theorem dc_R_check_11 : decode bb_R_check 11 = .ok (.aload_n 0, 1) := by decide +kernel
theorem dc_R_check_12 : decode bb_R_check 12 = .ok (.invokevirtual 79, 3) := by decide +kernel
theorem dc_R_check_15 : decode bb_R_check 15 = .ok (.ifCond .eq 5, 3) := by decide +kernel
theorem dc_R_check_18 : decode bb_R_check 18 = .ok (.iconst 3, 1) := by decide +kernel
theorem dc_R_check_19 : decode bb_R_check 19 = .ok (.ireturn, 1) := by decide +kernel
theorem dc_R_check_20 : decode bb_R_check 20 = .ok (.iconst 0, 1) := by decide +kernel
theorem dc_R_check_21 : decode bb_R_check 21 = .ok (.istore_n 2, 1) := by decide +kernel
theorem dc_R_check_22 : decode bb_R_check 22 = .ok (.iconst 0, 1) := by decide +kernel
theorem dc_R_check_23 : decode bb_R_check 23 = .ok (.istore_n 3, 1) := by decide +kernel
theorem dc_R_check_24 : decode bb_R_check 24 = .ok (.iload_n 3, 1) := by decide +kernel
theorem dc_R_check_25 : decode bb_R_check 25 = .ok (.bipush 16, 2) := by decide +kernel
theorem dc_R_check_27 : decode bb_R_check 27 = .ok (.if_icmp .ge 56, 3) := by decide +kernel
theorem dc_R_check_30 : decode bb_R_check 30 = .ok (.iload_n 2, 1) := by decide +kernel
theorem dc_R_check_31 : decode bb_R_check 31 = .ok (.ifCond .ne 40, 3) := by decide +kernel
theorem dc_R_check_34 : decode bb_R_check 34 = .ok (.iload_n 3, 1) := by decide +kernel
theorem dc_R_check_35 : decode bb_R_check 35 = .ok (.bipush 8, 2) := by decide +kernel
theorem dc_R_check_37 : decode bb_R_check 37 = .ok (.aload_n 0, 1) := by decide +kernel
theorem dc_R_check_38 : decode bb_R_check 38 = .ok (.getfield 83, 3) := by decide +kernel
theorem dc_R_check_41 : decode bb_R_check 41 = .ok (.imul, 1) := by decide +kernel
theorem dc_R_check_42 : decode bb_R_check 42 = .ok (.if_icmp .ge 33, 3) := by decide +kernel
theorem dc_R_check_45 : decode bb_R_check 45 = .ok (.aload_n 0, 1) := by decide +kernel
theorem dc_R_check_46 : decode bb_R_check 46 = .ok (.getfield 40, 3) := by decide +kernel
theorem dc_R_check_49 : decode bb_R_check 49 = .ok (.iload_n 3, 1) := by decide +kernel
theorem dc_R_check_50 : decode bb_R_check 50 = .ok (.iaload, 1) := by decide +kernel
theorem dc_R_check_51 : decode bb_R_check 51 = .ok (.ifCond .lt 24, 3) := by decide +kernel
theorem dc_R_check_54 : decode bb_R_check 54 = .ok (.aload_n 0, 1) := by decide +kernel
theorem dc_R_check_55 : decode bb_R_check 55 = .ok (.aload_n 0, 1) := by decide +kernel
theorem dc_R_check_56 : decode bb_R_check 56 = .ok (.getfield 40, 3) := by decide +kernel
theorem dc_R_check_59 : decode bb_R_check 59 = .ok (.iload_n 3, 1) := by decide +kernel
theorem dc_R_check_60 : decode bb_R_check 60 = .ok (.iaload, 1) := by decide +kernel
theorem dc_R_check_61 : decode bb_R_check 61 = .ok (.iload_n 3, 1) := by decide +kernel
theorem dc_R_check_62 : decode bb_R_check 62 = .ok (.bipush 8, 2) := by decide +kernel
theorem dc_R_check_64 : decode bb_R_check 64 = .ok (.irem, 1) := by decide +kernel
theorem dc_R_check_65 : decode bb_R_check 65 = .ok (.invokevirtual 86, 3) := by decide +kernel
theorem dc_R_check_68 : decode bb_R_check 68 = .ok (.ifCond .eq 7, 3) := by decide +kernel
theorem dc_R_check_71 : decode bb_R_check 71 = .ok (.iconst 1, 1) := by decide +kernel
theorem dc_R_check_72 : decode bb_R_check 72 = .ok (.goto 4, 3) := by decide +kernel
theorem dc_R_check_75 : decode bb_R_check 75 = .ok (.iconst 0, 1) := by decide +kernel
theorem dc_R_check_76 : decode bb_R_check 76 = .ok (.istore_n 2, 1) := by decide +kernel
theorem dc_R_check_77 : decode bb_R_check 77 = .ok (.iinc 3 1, 3) := by decide +kernel
theorem dc_R_check_80 : decode bb_R_check 80 = .ok (.goto (-56), 3) := by decide +kernel
theorem dc_R_check_83 : decode bb_R_check 83 = .ok (.iload_n 2, 1) := by decide +kernel
theorem dc_R_check_84 : decode bb_R_check 84 = .ok (.ifCond .eq 5, 3) := by decide +kernel
theorem dc_R_check_87 : decode bb_R_check 87 = .ok (.iconst 4, 1) := by decide +kernel
theorem dc_R_check_88 : decode bb_R_check 88 = .ok (.ireturn, 1) := by decide +kernel
theorem dc_R_check_89 : decode bb_R_check 89 = .ok (.iconst 0, 1) := by decide +kernel
theorem dc_R_check_90 : decode bb_R_check 90 = .ok (.istore_n 3, 1) := by decide +kernel
theorem dc_R_check_91 : decode bb_R_check 91 = .ok (.iconst 0, 1) := by decide +kernel
theorem dc_R_check_92 : decode bb_R_check 92 = .ok (.istore 4, 2) := by decide +kernel
theorem dc_R_check_94 : decode bb_R_check 94 = .ok (.iload 4, 2) := by decide +kernel
theorem dc_R_check_96 : decode bb_R_check 96 = .ok (.aload_n 0, 1) := by decide +kernel
theorem dc_R_check_97 : decode bb_R_check 97 = .ok (.getfield 83, 3) := by decide +kernel
theorem dc_R_check_100 : decode bb_R_check 100 = .ok (.if_icmp .ge 28, 3) := by decide +kernel
theorem dc_R_check_103 : decode bb_R_check 103 = .ok (.iload_n 3, 1) := by decide +kernel
theorem dc_R_check_104 : decode bb_R_check 104 = .ok (.ifCond .ne 12, 3) := by decide +kernel
theorem dc_R_check_107 : decode bb_R_check 107 = .ok (.aload_n 0, 1) := by decide +kernel
theorem dc_R_check_108 : decode bb_R_check 108 = .ok (.iload 4, 2) := by decide +kernel
theorem dc_R_check_110 : decode bb_R_check 110 = .ok (.invokevirtual 90, 3) := by decide +kernel
theorem dc_R_check_113 : decode bb_R_check 113 = .ok (.ifCond .eq 7, 3) := by decide +kernel
theorem dc_R_check_116 : decode bb_R_check 116 = .ok (.iconst 1, 1) := by decide +kernel
theorem dc_R_check_117 : decode bb_R_check 117 = .ok (.goto 4, 3) := by decide +kernel
theorem dc_R_check_120 : decode bb_R_check 120 = .ok (.iconst 0, 1) := by decide +kernel
theorem dc_R_check_121 : decode bb_R_check 121 = .ok (.istore_n 3, 1) := by decide +kernel
theorem dc_R_check_122 : decode bb_R_check 122 = .ok (.iinc 4 1, 3) := by decide +kernel
theorem dc_R_check_125 : decode bb_R_check 125 = .ok (.goto (-31), 3) := by decide +kernel
theorem dc_R_check_128 : decode bb_R_check 128 = .ok (.iload_n 3, 1) := by decide +kernel
theorem dc_R_check_129 : decode bb_R_check 129 = .ok (.ifCond .eq 5, 3) := by decide +kernel
theorem dc_R_check_132 : decode bb_R_check 132 = .ok (.iconst 5, 1) := by decide +kernel
theorem dc_R_check_133 : decode bb_R_check 133 = .ok (.ireturn, 1) := by decide +kernel
theorem dc_R_check_134 : decode bb_R_check 134 = .ok (.iconst 0, 1) := by decide +kernel
theorem dc_R_check_135 : decode bb_R_check 135 = .ok (.istore 4, 2) := by decide +kernel
theorem dc_R_check_137 : decode bb_R_check 137 = .ok (.iconst 0, 1) := by decide +kernel
theorem dc_R_check_138 : decode bb_R_check 138 = .ok (.istore 5, 2) := by decide +kernel
theorem dc_R_check_140 : decode bb_R_check 140 = .ok (.iload 5, 2) := by decide +kernel
theorem dc_R_check_142 : decode bb_R_check 142 = .ok (.aload_n 0, 1) := by decide +kernel
theorem dc_R_check_143 : decode bb_R_check 143 = .ok (.getfield 83, 3) := by decide +kernel
theorem dc_R_check_146 : decode bb_R_check 146 = .ok (.if_icmp .ge 42, 3) := by decide +kernel
theorem dc_R_check_149 : decode bb_R_check 149 = .ok (.aload_n 0, 1) := by decide +kernel
theorem dc_R_check_150 : decode bb_R_check 150 = .ok (.iload 5, 2) := by decide +kernel
theorem dc_R_check_152 : decode bb_R_check 152 = .ok (.invokevirtual 93, 3) := by decide +kernel
theorem dc_R_check_155 : decode bb_R_check 155 = .ok (.ifCond .ne 7, 3) := by decide +kernel
theorem dc_R_check_158 : decode bb_R_check 158 = .ok (.iconst 1, 1) := by decide +kernel
theorem dc_R_check_159 : decode bb_R_check 159 = .ok (.goto 4, 3) := by decide +kernel
theorem dc_R_check_162 : decode bb_R_check 162 = .ok (.iconst 0, 1) := by decide +kernel
theorem dc_R_check_163 : decode bb_R_check 163 = .ok (.istore 6, 2) := by decide +kernel
theorem dc_R_check_165 : decode bb_R_check 165 = .ok (.iload 4, 2) := by decide +kernel
theorem dc_R_check_167 : decode bb_R_check 167 = .ok (.ifCond .ne 8, 3) := by decide +kernel
theorem dc_R_check_170 : decode bb_R_check 170 = .ok (.iload 6, 2) := by decide +kernel
theorem dc_R_check_172 : decode bb_R_check 172 = .ok (.ifCond .eq 7, 3) := by decide +kernel
theorem dc_R_check_175 : decode bb_R_check 175 = .ok (.iconst 1, 1) := by decide +kernel
theorem dc_R_check_176 : decode bb_R_check 176 = .ok (.goto 4, 3) := by decide +kernel
theorem dc_R_check_179 : decode bb_R_check 179 = .ok (.iconst 0, 1) := by decide +kernel
theorem dc_R_check_180 : decode bb_R_check 180 = .ok (.istore 4, 2) := by decide +kernel
theorem dc_R_check_182 : decode bb_R_check 182 = .ok (.iinc 5 1, 3) := by decide +kernel
theorem dc_R_check_185 : decode bb_R_check 185 = .ok (.goto (-45), 3) := by decide +kernel
theorem dc_R_check_188 : decode bb_R_check 188 = .ok (.iload 4, 2) := by decide +kernel
theorem dc_R_check_190 : decode bb_R_check 190 = .ok (.ifCond .eq 8, 3) := by decide +kernel
theorem dc_R_check_193 : decode bb_R_check 193 = .ok (.bipush 6, 2) := by decide +kernel
theorem dc_R_check_195 : decode bb_R_check 195 = .ok (.goto 4, 3) := by decide +kernel
theorem dc_R_check_198 : decode bb_R_check 198 = .ok (.iconst 0, 1) := by decide +kernel
theorem dc_R_check_199 : decode bb_R_check 199 = .ok (.ireturn, 1) := by decide +kernel
theorem dc_R_read_0 : decode bb_R_read 0 = .ok (.aload_n 0, 1) := by decide +kernel
theorem dc_R_read_1 : decode bb_R_read 1 = .ok (.iconst 0, 1) := by decide +kernel
theorem dc_R_read_2 : decode bb_R_read 2 = .ok (.putfield 64, 3) := by decide +kernel
theorem dc_R_read_5 : decode bb_R_read 5 = .ok (.iconst 0, 1) := by decide +kernel
theorem dc_R_read_6 : decode bb_R_read 6 = .ok (.istore_n 1, 1) := by decide +kernel
theorem dc_R_read_7 : decode bb_R_read 7 = .ok (.iconst 0, 1) := by decide +kernel
theorem dc_R_read_8 : decode bb_R_read 8 = .ok (.istore_n 2, 1) := by decide +kernel
theorem dc_R_read_9 : decode bb_R_read 9 = .ok (.aload_n 0, 1) := by decide +kernel
theorem dc_R_read_10 : decode bb_R_read 10 = .ok (.getfield 31, 3) := by decide +kernel
theorem dc_R_read_13 : decode bb_R_read 13 = .ok (.iconst 0, 1) := by decide +kernel
theorem dc_R_read_14 : decode bb_R_read 14 = .ok (.aload_n 0, 1) := by decide +kernel
theorem dc_R_read_15 : decode bb_R_read 15 = .ok (.getfield 58, 3) := by decide +kernel
theorem dc_R_read_18 : decode bb_R_read 18 = .ok (.iastore, 1) := by decide +kernel
theorem dc_R_read_19 : decode bb_R_read 19 = .ok (.aload_n 0, 1) := by decide +kernel
theorem dc_R_read_20 : decode bb_R_read 20 = .ok (.getfield 34, 3) := by decide +kernel
theorem dc_R_read_23 : decode bb_R_read 23 = .ok (.iconst 0, 1) := by decide +kernel
theorem dc_R_read_24 : decode bb_R_read 24 = .ok (.iconst (-1), 1) := by decide +kernel
theorem dc_R_read_25 : decode bb_R_read 25 = .ok (.iastore, 1) := by decide +kernel
theorem dc_R_read_26 : decode bb_R_read 26 = .ok (.iconst 0, 1) := by decide +kernel
theorem dc_R_read_27 : decode bb_R_read 27 = .ok (.istore_n 3, 1) := by decide +kernel
theorem dc_R_read_28 : decode bb_R_read 28 = .ok (.iload_n 3, 1) := by decide +kernel
theorem dc_R_read_29 : decode bb_R_read 29 = .ok (.bipush 100, 2) := by decide +kernel
theorem dc_R_read_31 : decode bb_R_read 31 = .ok (.if_icmp .ge 137, 3) := by decide +kernel
theorem dc_R_read_34 : decode bb_R_read 34 = .ok (.iload_n 2, 1) := by decide +kernel
theorem dc_R_read_35 : decode bb_R_read 35 = .ok (.ifCond .le 19, 3) := by decide +kernel
theorem dc_R_read_38 : decode bb_R_read 38 = .ok (.iload_n 1, 1) := by decide +kernel
theorem dc_R_read_39 : decode bb_R_read 39 = .ok (.aload_n 0, 1) := by decide +kernel
theorem dc_R_read_40 : decode bb_R_read 40 = .ok (.getfield 31, 3) := by decide +kernel
theorem dc_R_read_43 : decode bb_R_read 43 = .ok (.iload_n 2, 1) := by decide +kernel
theorem dc_R_read_44 : decode bb_R_read 44 = .ok (.iaload, 1) := by decide +kernel
theorem dc_R_read_45 : decode bb_R_read 45 = .ok (.if_icmp .ne 9, 3) := by decide +kernel
theorem dc_R_read_48 : decode bb_R_read 48 = .ok (.iinc 2 (-1), 3) := by decide +kernel
theorem dc_R_read_51 : decode bb_R_read 51 = .ok (.goto (-17), 3) := by decide +kernel
theorem dc_R_read_54 : decode bb_R_read 54 = .ok (.iload_n 1, 1) := by decide +kernel
theorem dc_R_read_55 : decode bb_R_read 55 = .ok (.aload_n 0, 1) := by decide +kernel
theorem dc_R_read_56 : decode bb_R_read 56 = .ok (.getfield 31, 3) := by decide +kernel
theorem dc_R_read_59 : decode bb_R_read 59 = .ok (.iload_n 2, 1) := by decide +kernel
theorem dc_R_read_60 : decode bb_R_read 60 = .ok (.iaload, 1) := by decide +kernel
theorem dc_R_read_61 : decode bb_R_read 61 = .ok (.if_icmp .ne 5, 3) := by decide +kernel
theorem dc_R_read_64 : decode bb_R_read 64 = .ok (.iconst 0, 1) := by decide +kernel
theorem dc_R_read_65 : decode bb_R_read 65 = .ok (.ireturn, 1) := by decide +kernel
theorem dc_R_read_66 : decode bb_R_read 66 = .ok (.aload_n 0, 1) := by decide +kernel
theorem dc_R_read_67 : decode bb_R_read 67 = .ok (.getfield 64, 3) := by decide +kernel
theorem dc_R_read_70 : decode bb_R_read 70 = .ok (.bipush 20, 2) := by decide +kernel
theorem dc_R_read_72 : decode bb_R_read 72 = .ok (.if_icmp .ne 5, 3) := by decide +kernel
theorem dc_R_read_75 : decode bb_R_read 75 = .ok (.iconst 2, 1) := by decide +kernel
theorem dc_R_read_76 : decode bb_R_read 76 = .ok (.ireturn, 1) := by decide +kernel
theorem dc_R_read_77 : decode bb_R_read 77 = .ok (.aload_n 0, 1) := by decide +kernel
theorem dc_R_read_78 : decode bb_R_read 78 = .ok (.iload_n 1, 1) := by decide +kernel
theorem dc_R_read_79 : decode bb_R_read 79 = .ok (.aload_n 0, 1) := by decide +kernel
theorem dc_R_read_80 : decode bb_R_read 80 = .ok (.getfield 31, 3) := by decide +kernel
theorem dc_R_read_83 : decode bb_R_read 83 = .ok (.iload_n 2, 1) := by decide +kernel
theorem dc_R_read_84 : decode bb_R_read 84 = .ok (.iaload, 1) := by decide +kernel
theorem dc_R_read_85 : decode bb_R_read 85 = .ok (.iload_n 1, 1) := by decide +kernel
theorem dc_R_read_86 : decode bb_R_read 86 = .ok (.isub, 1) := by decide +kernel
theorem dc_R_read_87 : decode bb_R_read 87 = .ok (.iload_n 2, 1) := by decide +kernel
theorem dc_R_read_88 : decode bb_R_read 88 = .ok (.invokevirtual 67, 3) := by decide +kernel
theorem dc_R_read_91 : decode bb_R_read 91 = .ok (.ifCond .ne 5, 3) := by decide +kernel
theorem dc_R_read_94 : decode bb_R_read 94 = .ok (.iconst 1, 1) := by decide +kernel
theorem dc_R_read_95 : decode bb_R_read 95 = .ok (.ireturn, 1) := by decide +kernel
theorem dc_R_read_96 : decode bb_R_read 96 = .ok (.aload_n 0, 1) := by decide +kernel
theorem dc_R_read_97 : decode bb_R_read 97 = .ok (.getfield 64, 3) := by decide +kernel
theorem dc_R_read_100 : decode bb_R_read 100 = .ok (.iconst 1, 1) := by decide +kernel
theorem dc_R_read_101 : decode bb_R_read 101 = .ok (.isub, 1) := by decide +kernel
theorem dc_R_read_102 : decode bb_R_read 102 = .ok (.istore 4, 2) := by decide +kernel
theorem dc_R_read_104 : decode bb_R_read 104 = .ok (.aload_n 0, 1) := by decide +kernel
theorem dc_R_read_105 : decode bb_R_read 105 = .ok (.iload 4, 2) := by decide +kernel
theorem dc_R_read_107 : decode bb_R_read 107 = .ok (.invokevirtual 71, 3) := by decide +kernel
theorem dc_R_read_110 : decode bb_R_read 110 = .ok (.ifCond .eq 42, 3) := by decide +kernel
theorem dc_R_read_113 : decode bb_R_read 113 = .ok (.iinc 2 1, 3) := by decide +kernel
theorem dc_R_read_116 : decode bb_R_read 116 = .ok (.aload_n 0, 1) := by decide +kernel
theorem dc_R_read_117 : decode bb_R_read 117 = .ok (.getfield 31, 3) := by decide +kernel
theorem dc_R_read_120 : decode bb_R_read 120 = .ok (.iload_n 2, 1) := by decide +kernel
theorem dc_R_read_121 : decode bb_R_read 121 = .ok (.iload_n 1, 1) := by decide +kernel
theorem dc_R_read_122 : decode bb_R_read 122 = .ok (.aload_n 0, 1) := by decide +kernel
theorem dc_R_read_123 : decode bb_R_read 123 = .ok (.getfield 16, 3) := by decide +kernel
theorem dc_R_read_126 : decode bb_R_read 126 = .ok (.iload 4, 2) := by decide +kernel
theorem dc_R_read_128 : decode bb_R_read 128 = .ok (.iaload, 1) := by decide +kernel
theorem dc_R_read_129 : decode bb_R_read 129 = .ok (.iadd, 1) := by decide +kernel
theorem dc_R_read_130 : decode bb_R_read 130 = .ok (.iastore, 1) := by decide +kernel
theorem dc_R_read_131 : decode bb_R_read 131 = .ok (.aload_n 0, 1) := by decide +kernel
theorem dc_R_read_132 : decode bb_R_read 132 = .ok (.getfield 34, 3) := by decide +kernel
theorem dc_R_read_135 : decode bb_R_read 135 = .ok (.iload_n 2, 1) := by decide +kernel
theorem dc_R_read_136 : decode bb_R_read 136 = .ok (.iload 4, 2) := by decide +kernel
theorem dc_R_read_138 : decode bb_R_read 138 = .ok (.iastore, 1) := by decide +kernel
theorem dc_R_read_139 : decode bb_R_read 139 = .ok (.iload_n 1, 1) := by decide +kernel
theorem dc_R_read_140 : decode bb_R_read 140 = .ok (.aload_n 0, 1) := by decide +kernel
theorem dc_R_read_141 : decode bb_R_read 141 = .ok (.getfield 22, 3) := by decide +kernel
theorem dc_R_read_144 : decode bb_R_read 144 = .ok (.iload 4, 2) := by decide +kernel
theorem dc_R_read_146 : decode bb_R_read 146 = .ok (.iaload, 1) := by decide +kernel
theorem dc_R_read_147 : decode bb_R_read 147 = .ok (.iadd, 1) := by decide +kernel
theorem dc_R_read_148 : decode bb_R_read 148 = .ok (.istore_n 1, 1) := by decide +kernel
theorem dc_R_read_149 : decode bb_R_read 149 = .ok (.goto 13, 3) := by decide +kernel
theorem dc_R_read_152 : decode bb_R_read 152 = .ok (.iload_n 1, 1) := by decide +kernel
theorem dc_R_read_153 : decode bb_R_read 153 = .ok (.aload_n 0, 1) := by decide +kernel
theorem dc_R_read_154 : decode bb_R_read 154 = .ok (.getfield 16, 3) := by decide +kernel
theorem dc_R_read_157 : decode bb_R_read 157 = .ok (.iload 4, 2) := by decide +kernel
theorem dc_R_read_159 : decode bb_R_read 159 = .ok (.iaload, 1) := by decide +kernel
theorem dc_R_read_160 : decode bb_R_read 160 = .ok (.iadd, 1) := by decide +kernel
theorem dc_R_read_161 : decode bb_R_read 161 = .ok (.istore_n 1, 1) := by decide +kernel
theorem dc_R_read_162 : decode bb_R_read 162 = .ok (.iinc 3 1, 3) := by decide +kernel
theorem dc_R_read_165 : decode bb_R_read 165 = .ok (.goto (-137), 3) := by decide +kernel
theorem dc_R_read_168 : decode bb_R_read 168 = .ok (.iconst 0, 1) := by decide +kernel
theorem dc_R_read_169 : decode bb_R_read 169 = .ok (.ireturn, 1) := by decide +kernel
theorem dc_R_readOne_0 : decode bb_R_readOne 0 = .ok (.iload_n 2, 1) := by decide +kernel
theorem dc_R_readOne_1 : decode bb_R_readOne 1 = .ok (.iconst 2, 1) := by decide +kernel
theorem dc_R_readOne_2 : decode bb_R_readOne 2 = .ok (.if_icmp .ge 5, 3) := by decide +kernel
theorem dc_R_readOne_5 : decode bb_R_readOne 5 = .ok (.iconst 0, 1) := by decide +kernel
theorem dc_R_readOne_6 : decode bb_R_readOne 6 = .ok (.ireturn, 1) := by decide +kernel
theorem dc_R_readOne_7 : decode bb_R_readOne 7 = .ok (.aload_n 0, 1) := by decide +kernel
theorem dc_R_readOne_8 : decode bb_R_readOne 8 = .ok (.getfield 7, 3) := by decide +kernel
theorem dc_R_readOne_11 : decode bb_R_readOne 11 = .ok (.iload_n 1, 1) := by decide +kernel
theorem dc_R_readOne_12 : decode bb_R_readOne 12 = .ok (.iaload, 1) := by decide +kernel
theorem dc_R_readOne_13 : decode bb_R_readOne 13 = .ok (.istore 4, 2) := by decide +kernel
theorem dc_R_readOne_15 : decode bb_R_readOne 15 = .ok (.iload 4, 2) := by decide +kernel
theorem dc_R_readOne_17 : decode bb_R_readOne 17 = .ok (.iconst 1, 1) := by decide +kernel
theorem dc_R_readOne_18 : decode bb_R_readOne 18 = .ok (.if_icmp .ne 7, 3) := by decide +kernel
theorem dc_R_readOne_21 : decode bb_R_readOne 21 = .ok (.iconst 4, 1) := by decide +kernel
theorem dc_R_readOne_22 : decode bb_R_readOne 22 = .ok (.goto 4, 3) := by decide +kernel
theorem dc_R_readOne_25 : decode bb_R_readOne 25 = .ok (.iconst 2, 1) := by decide +kernel
theorem dc_R_readOne_26 : decode bb_R_readOne 26 = .ok (.istore 5, 2) := by decide +kernel
theorem dc_R_readOne_28 : decode bb_R_readOne 28 = .ok (.iload_n 2, 1) := by decide +kernel
theorem dc_R_readOne_29 : decode bb_R_readOne 29 = .ok (.iload 5, 2) := by decide +kernel
theorem dc_R_readOne_31 : decode bb_R_readOne 31 = .ok (.if_icmp .lt 12, 3) := by decide +kernel
theorem dc_R_readOne_34 : decode bb_R_readOne 34 = .ok (.iload 4, 2) := by decide +kernel
theorem dc_R_readOne_36 : decode bb_R_readOne 36 = .ok (.ifCond .ne 9, 3) := by decide +kernel
theorem dc_R_readOne_39 : decode bb_R_readOne 39 = .ok (.iload_n 3, 1) := by decide +kernel
theorem dc_R_readOne_40 : decode bb_R_readOne 40 = .ok (.ifCond .le 5, 3) := by decide +kernel
theorem dc_R_readOne_43 : decode bb_R_readOne 43 = .ok (.iconst 0, 1) := by decide +kernel
theorem dc_R_readOne_44 : decode bb_R_readOne 44 = .ok (.ireturn, 1) := by decide +kernel
theorem dc_R_readOne_45 : decode bb_R_readOne 45 = .ok (.iload 4, 2) := by decide +kernel
theorem dc_R_readOne_47 : decode bb_R_readOne 47 = .ok (.ifCond .ne 7, 3) := by decide +kernel
theorem dc_R_readOne_50 : decode bb_R_readOne 50 = .ok (.iload_n 2, 1) := by decide +kernel
theorem dc_R_readOne_51 : decode bb_R_readOne 51 = .ok (.goto 35, 3) := by decide +kernel
theorem dc_R_readOne_54 : decode bb_R_readOne 54 = .ok (.iload 4, 2) := by decide +kernel
theorem dc_R_readOne_56 : decode bb_R_readOne 56 = .ok (.iconst 1, 1) := by decide +kernel
theorem dc_R_readOne_57 : decode bb_R_readOne 57 = .ok (.if_icmp .ne 27, 3) := by decide +kernel
theorem dc_R_readOne_60 : decode bb_R_readOne 60 = .ok (.sipush 256, 3) := by decide +kernel
theorem dc_R_readOne_63 : decode bb_R_readOne 63 = .ok (.aload_n 0, 1) := by decide +kernel
theorem dc_R_readOne_64 : decode bb_R_readOne 64 = .ok (.getfield 7, 3) := by decide +kernel
theorem dc_R_readOne_67 : decode bb_R_readOne 67 = .ok (.iload_n 1, 1) := by decide +kernel
theorem dc_R_readOne_68 : decode bb_R_readOne 68 = .ok (.iconst 2, 1) := by decide +kernel
theorem dc_R_readOne_69 : decode bb_R_readOne 69 = .ok (.iadd, 1) := by decide +kernel
theorem dc_R_readOne_70 : decode bb_R_readOne 70 = .ok (.iaload, 1) := by decide +kernel
theorem dc_R_readOne_71 : decode bb_R_readOne 71 = .ok (.imul, 1) := by decide +kernel
theorem dc_R_readOne_72 : decode bb_R_readOne 72 = .ok (.aload_n 0, 1) := by decide +kernel
theorem dc_R_readOne_73 : decode bb_R_readOne 73 = .ok (.getfield 7, 3) := by decide +kernel
theorem dc_R_readOne_76 : decode bb_R_readOne 76 = .ok (.iload_n 1, 1) := by decide +kernel
theorem dc_R_readOne_77 : decode bb_R_readOne 77 = .ok (.iconst 3, 1) := by decide +kernel
theorem dc_R_readOne_78 : decode bb_R_readOne 78 = .ok (.iadd, 1) := by decide +kernel
theorem dc_R_readOne_79 : decode bb_R_readOne 79 = .ok (.iaload, 1) := by decide +kernel
theorem dc_R_readOne_80 : decode bb_R_readOne 80 = .ok (.iadd, 1) := by decide +kernel
theorem dc_R_readOne_81 : decode bb_R_readOne 81 = .ok (.goto 5, 3) := by decide +kernel
theorem dc_R_readOne_84 : decode bb_R_readOne 84 = .ok (.iload 4, 2) := by decide +kernel
theorem dc_R_readOne_86 : decode bb_R_readOne 86 = .ok (.istore 6, 2) := by decide +kernel
theorem dc_R_readOne_88 : decode bb_R_readOne 88 = .ok (.iload 6, 2) := by decide +kernel
theorem dc_R_readOne_90 : decode bb_R_readOne 90 = .ok (.iload 5, 2) := by decide +kernel
theorem dc_R_readOne_92 : decode bb_R_readOne 92 = .ok (.if_icmp .lt 9, 3) := by decide +kernel
theorem dc_R_readOne_95 : decode bb_R_readOne 95 = .ok (.iload 6, 2) := by decide +kernel
theorem dc_R_readOne_97 : decode bb_R_readOne 97 = .ok (.iload_n 2, 1) := by decide +kernel
theorem dc_R_readOne_98 : decode bb_R_readOne 98 = .ok (.if_icmp .le 5, 3) := by decide +kernel
theorem dc_R_readOne_101 : decode bb_R_readOne 101 = .ok (.iconst 0, 1) := by decide +kernel
theorem dc_R_readOne_102 : decode bb_R_readOne 102 = .ok (.ireturn, 1) := by decide +kernel
theorem dc_R_readOne_103 : decode bb_R_readOne 103 = .ok (.aload_n 0, 1) := by decide +kernel
theorem dc_R_readOne_104 : decode bb_R_readOne 104 = .ok (.getfield 13, 3) := by decide +kernel
theorem dc_R_readOne_107 : decode bb_R_readOne 107 = .ok (.aload_n 0, 1) := by decide +kernel
theorem dc_R_readOne_108 : decode bb_R_readOne 108 = .ok (.getfield 64, 3) := by decide +kernel
theorem dc_R_readOne_111 : decode bb_R_readOne 111 = .ok (.iload_n 1, 1) := by decide +kernel
theorem dc_R_readOne_112 : decode bb_R_readOne 112 = .ok (.iastore, 1) := by decide +kernel
theorem dc_R_readOne_113 : decode bb_R_readOne 113 = .ok (.aload_n 0, 1) := by decide +kernel
theorem dc_R_readOne_114 : decode bb_R_readOne 114 = .ok (.getfield 16, 3) := by decide +kernel
theorem dc_R_readOne_117 : decode bb_R_readOne 117 = .ok (.aload_n 0, 1) := by decide +kernel
theorem dc_R_readOne_118 : decode bb_R_readOne 118 = .ok (.getfield 64, 3) := by decide +kernel
theorem dc_R_readOne_121 : decode bb_R_readOne 121 = .ok (.iload 6, 2) := by decide +kernel
theorem dc_R_readOne_123 : decode bb_R_readOne 123 = .ok (.iastore, 1) := by decide +kernel
theorem dc_R_readOne_124 : decode bb_R_readOne 124 = .ok (.aload_n 0, 1) := by decide +kernel
theorem dc_R_readOne_125 : decode bb_R_readOne 125 = .ok (.getfield 19, 3) := by decide +kernel
theorem dc_R_readOne_128 : decode bb_R_readOne 128 = .ok (.aload_n 0, 1) := by decide +kernel
theorem dc_R_readOne_129 : decode bb_R_readOne 129 = .ok (.getfield 64, 3) := by decide +kernel
theorem dc_R_readOne_132 : decode bb_R_readOne 132 = .ok (.aload_n 0, 1) := by decide +kernel
theorem dc_R_readOne_133 : decode bb_R_readOne 133 = .ok (.getfield 7, 3) := by decide +kernel
theorem dc_R_readOne_136 : decode bb_R_readOne 136 = .ok (.iload_n 1, 1) := by decide +kernel
theorem dc_R_readOne_137 : decode bb_R_readOne 137 = .ok (.iconst 1, 1) := by decide +kernel
theorem dc_R_readOne_138 : decode bb_R_readOne 138 = .ok (.iadd, 1) := by decide +kernel
theorem dc_R_readOne_139 : decode bb_R_readOne 139 = .ok (.iaload, 1) := by decide +kernel
theorem dc_R_readOne_140 : decode bb_R_readOne 140 = .ok (.iastore, 1) := by decide +kernel
theorem dc_R_readOne_141 : decode bb_R_readOne 141 = .ok (.aload_n 0, 1) := by decide +kernel
theorem dc_R_readOne_142 : decode bb_R_readOne 142 = .ok (.getfield 22, 3) := by decide +kernel
theorem dc_R_readOne_145 : decode bb_R_readOne 145 = .ok (.aload_n 0, 1) := by decide +kernel
theorem dc_R_readOne_146 : decode bb_R_readOne 146 = .ok (.getfield 64, 3) := by decide +kernel
theorem dc_R_readOne_149 : decode bb_R_readOne 149 = .ok (.iload 5, 2) := by decide +kernel
theorem dc_R_readOne_151 : decode bb_R_readOne 151 = .ok (.iastore, 1) := by decide +kernel
theorem dc_R_readOne_152 : decode bb_R_readOne 152 = .ok (.aload_n 0, 1) := by decide +kernel
theorem dc_R_readOne_153 : decode bb_R_readOne 153 = .ok (.getfield 25, 3) := by decide +kernel
theorem dc_R_readOne_156 : decode bb_R_readOne 156 = .ok (.aload_n 0, 1) := by decide +kernel
theorem dc_R_readOne_157 : decode bb_R_readOne 157 = .ok (.getfield 64, 3) := by decide +kernel
theorem dc_R_readOne_160 : decode bb_R_readOne 160 = .ok (.iload_n 3, 1) := by decide +kernel
theorem dc_R_readOne_161 : decode bb_R_readOne 161 = .ok (.iastore, 1) := by decide +kernel
theorem dc_R_readOne_162 : decode bb_R_readOne 162 = .ok (.aload_n 0, 1) := by decide +kernel
theorem dc_R_readOne_163 : decode bb_R_readOne 163 = .ok (.getfield 28, 3) := by decide +kernel
theorem dc_R_readOne_166 : decode bb_R_readOne 166 = .ok (.aload_n 0, 1) := by decide +kernel
theorem dc_R_readOne_167 : decode bb_R_readOne 167 = .ok (.getfield 64, 3) := by decide +kernel
theorem dc_R_readOne_170 : decode bb_R_readOne 170 = .ok (.aload_n 0, 1) := by decide +kernel
theorem dc_R_readOne_171 : decode bb_R_readOne 171 = .ok (.getfield 34, 3) := by decide +kernel
theorem dc_R_readOne_174 : decode bb_R_readOne 174 = .ok (.iload_n 3, 1) := by decide +kernel
theorem dc_R_readOne_175 : decode bb_R_readOne 175 = .ok (.iaload, 1) := by decide +kernel
theorem dc_R_readOne_176 : decode bb_R_readOne 176 = .ok (.iastore, 1) := by decide +kernel
theorem dc_R_readOne_177 : decode bb_R_readOne 177 = .ok (.aload_n 0, 1) := by decide +kernel
theorem dc_R_readOne_178 : decode bb_R_readOne 178 = .ok (.dup, 1) := by decide +kernel
theorem dc_R_readOne_179 : decode bb_R_readOne 179 = .ok (.getfield 64, 3) := by decide +kernel
theorem dc_R_readOne_182 : decode bb_R_readOne 182 = .ok (.iconst 1, 1) := by decide +kernel
theorem dc_R_readOne_183 : decode bb_R_readOne 183 = .ok (.iadd, 1) := by decide +kernel
theorem dc_R_readOne_184 : decode bb_R_readOne 184 = .ok (.putfield 64, 3) := by decide +kernel
theorem dc_R_readOne_187 : decode bb_R_readOne 187 = .ok (.iconst 1, 1) := by decide +kernel
theorem dc_R_readOne_188 : decode bb_R_readOne 188 = .ok (.ireturn, 1) := by decide +kernel
theorem dc_R_isHolder_0 : decode bb_R_isHolder 0 = .ok (.aload_n 0, 1) := by decide +kernel
theorem dc_R_isHolder_1 : decode bb_R_isHolder 1 = .ok (.getfield 25, 3) := by decide +kernel
theorem dc_R_isHolder_4 : decode bb_R_isHolder 4 = .ok (.iload_n 1, 1) := by decide +kernel
theorem dc_R_isHolder_5 : decode bb_R_isHolder 5 = .ok (.iaload, 1) := by decide +kernel
theorem dc_R_isHolder_6 : decode bb_R_isHolder 6 = .ok (.ifCond .ne 14, 3) := by decide +kernel
theorem dc_R_isHolder_9 : decode bb_R_isHolder 9 = .ok (.aload_n 0, 1) := by decide +kernel
theorem dc_R_isHolder_10 : decode bb_R_isHolder 10 = .ok (.getfield 19, 3) := by decide +kernel
theorem dc_R_isHolder_13 : decode bb_R_isHolder 13 = .ok (.iload_n 1, 1) := by decide +kernel
theorem dc_R_isHolder_14 : decode bb_R_isHolder 14 = .ok (.iaload, 1) := by decide +kernel
theorem dc_R_isHolder_15 : decode bb_R_isHolder 15 = .ok (.bipush 77, 2) := by decide +kernel
theorem dc_R_isHolder_17 : decode bb_R_isHolder 17 = .ok (.if_icmp .eq 24, 3) := by decide +kernel
theorem dc_R_isHolder_20 : decode bb_R_isHolder 20 = .ok (.aload_n 0, 1) := by decide +kernel
theorem dc_R_isHolder_21 : decode bb_R_isHolder 21 = .ok (.getfield 25, 3) := by decide +kernel
theorem dc_R_isHolder_24 : decode bb_R_isHolder 24 = .ok (.iload_n 1, 1) := by decide +kernel
theorem dc_R_isHolder_25 : decode bb_R_isHolder 25 = .ok (.iaload, 1) := by decide +kernel
theorem dc_R_isHolder_26 : decode bb_R_isHolder 26 = .ok (.iconst 1, 1) := by decide +kernel
theorem dc_R_isHolder_27 : decode bb_R_isHolder 27 = .ok (.if_icmp .ne 18, 3) := by decide +kernel
theorem dc_R_isHolder_30 : decode bb_R_isHolder 30 = .ok (.aload_n 0, 1) := by decide +kernel
theorem dc_R_isHolder_31 : decode bb_R_isHolder 31 = .ok (.getfield 19, 3) := by decide +kernel
theorem dc_R_isHolder_34 : decode bb_R_isHolder 34 = .ok (.iload_n 1, 1) := by decide +kernel
theorem dc_R_isHolder_35 : decode bb_R_isHolder 35 = .ok (.iaload, 1) := by decide +kernel
theorem dc_R_isHolder_36 : decode bb_R_isHolder 36 = .ok (.bipush 84, 2) := by decide +kernel
theorem dc_R_isHolder_38 : decode bb_R_isHolder 38 = .ok (.if_icmp .ne 7, 3) := by decide +kernel
theorem dc_R_isHolder_41 : decode bb_R_isHolder 41 = .ok (.iconst 1, 1) := by decide +kernel
theorem dc_R_isHolder_42 : decode bb_R_isHolder 42 = .ok (.goto 4, 3) := by decide +kernel
theorem dc_R_isHolder_45 : decode bb_R_isHolder 45 = .ok (.iconst 0, 1) := by decide +kernel
theorem dc_R_isHolder_46 : decode bb_R_isHolder 46 = .ok (.ireturn, 1) := by decide +kernel
theorem dc_R_kindsWrong_0 : decode bb_R_kindsWrong 0 = .ok (.iconst 0, 1) := by decide +kernel
theorem dc_R_kindsWrong_1 : decode bb_R_kindsWrong 1 = .ok (.istore_n 1, 1) := by decide +kernel
theorem dc_R_kindsWrong_2 : decode bb_R_kindsWrong 2 = .ok (.aload_n 0, 1) := by decide +kernel
theorem dc_R_kindsWrong_3 : decode bb_R_kindsWrong 3 = .ok (.iconst 0, 1) := by decide +kernel
theorem dc_R_kindsWrong_4 : decode bb_R_kindsWrong 4 = .ok (.putfield 83, 3) := by decide +kernel
theorem dc_R_kindsWrong_7 : decode bb_R_kindsWrong 7 = .ok (.iconst 0, 1) := by decide +kernel
theorem dc_R_kindsWrong_8 : decode bb_R_kindsWrong 8 = .ok (.istore_n 2, 1) := by decide +kernel
theorem dc_R_kindsWrong_9 : decode bb_R_kindsWrong 9 = .ok (.iconst 0, 1) := by decide +kernel
theorem dc_R_kindsWrong_10 : decode bb_R_kindsWrong 10 = .ok (.istore_n 3, 1) := by decide +kernel
theorem dc_R_kindsWrong_11 : decode bb_R_kindsWrong 11 = .ok (.iload_n 3, 1) := by decide +kernel
theorem dc_R_kindsWrong_12 : decode bb_R_kindsWrong 12 = .ok (.bipush 16, 2) := by decide +kernel
theorem dc_R_kindsWrong_14 : decode bb_R_kindsWrong 14 = .ok (.if_icmp .ge 16, 3) := by decide +kernel
theorem dc_R_kindsWrong_17 : decode bb_R_kindsWrong 17 = .ok (.aload_n 0, 1) := by decide +kernel
theorem dc_R_kindsWrong_18 : decode bb_R_kindsWrong 18 = .ok (.getfield 40, 3) := by decide +kernel
theorem dc_R_kindsWrong_21 : decode bb_R_kindsWrong 21 = .ok (.iload_n 3, 1) := by decide +kernel
theorem dc_R_kindsWrong_22 : decode bb_R_kindsWrong 22 = .ok (.iconst (-1), 1) := by decide +kernel
theorem dc_R_kindsWrong_23 : decode bb_R_kindsWrong 23 = .ok (.iastore, 1) := by decide +kernel
theorem dc_R_kindsWrong_24 : decode bb_R_kindsWrong 24 = .ok (.iinc 3 1, 3) := by decide +kernel
theorem dc_R_kindsWrong_27 : decode bb_R_kindsWrong 27 = .ok (.goto (-16), 3) := by decide +kernel
theorem dc_R_kindsWrong_30 : decode bb_R_kindsWrong 30 = .ok (.iconst 0, 1) := by decide +kernel
theorem dc_R_kindsWrong_31 : decode bb_R_kindsWrong 31 = .ok (.istore_n 3, 1) := by decide +kernel
theorem dc_R_kindsWrong_32 : decode bb_R_kindsWrong 32 = .ok (.iload_n 3, 1) := by decide +kernel
theorem dc_R_kindsWrong_33 : decode bb_R_kindsWrong 33 = .ok (.aload_n 0, 1) := by decide +kernel
theorem dc_R_kindsWrong_34 : decode bb_R_kindsWrong 34 = .ok (.getfield 64, 3) := by decide +kernel
theorem dc_R_kindsWrong_37 : decode bb_R_kindsWrong 37 = .ok (.if_icmp .ge 166, 3) := by decide +kernel
theorem dc_R_kindsWrong_40 : decode bb_R_kindsWrong 40 = .ok (.aload_n 0, 1) := by decide +kernel
theorem dc_R_kindsWrong_41 : decode bb_R_kindsWrong 41 = .ok (.getfield 25, 3) := by decide +kernel
theorem dc_R_kindsWrong_44 : decode bb_R_kindsWrong 44 = .ok (.iload_n 3, 1) := by decide +kernel
theorem dc_R_kindsWrong_45 : decode bb_R_kindsWrong 45 = .ok (.iaload, 1) := by decide +kernel
theorem dc_R_kindsWrong_46 : decode bb_R_kindsWrong 46 = .ok (.ifCond .ne 22, 3) := by decide +kernel
theorem dc_R_kindsWrong_49 : decode bb_R_kindsWrong 49 = .ok (.aload_n 0, 1) := by decide +kernel
theorem dc_R_kindsWrong_50 : decode bb_R_kindsWrong 50 = .ok (.getfield 19, 3) := by decide +kernel
theorem dc_R_kindsWrong_53 : decode bb_R_kindsWrong 53 = .ok (.iload_n 3, 1) := by decide +kernel
theorem dc_R_kindsWrong_54 : decode bb_R_kindsWrong 54 = .ok (.iaload, 1) := by decide +kernel
theorem dc_R_kindsWrong_55 : decode bb_R_kindsWrong 55 = .ok (.bipush 77, 2) := by decide +kernel
theorem dc_R_kindsWrong_57 : decode bb_R_kindsWrong 57 = .ok (.if_icmp .ne 11, 3) := by decide +kernel
theorem dc_R_kindsWrong_60 : decode bb_R_kindsWrong 60 = .ok (.iinc 1 1, 3) := by decide +kernel
theorem dc_R_kindsWrong_63 : decode bb_R_kindsWrong 63 = .ok (.aload_n 0, 1) := by decide +kernel
theorem dc_R_kindsWrong_64 : decode bb_R_kindsWrong 64 = .ok (.iload_n 3, 1) := by decide +kernel
theorem dc_R_kindsWrong_65 : decode bb_R_kindsWrong 65 = .ok (.putfield 96, 3) := by decide +kernel
theorem dc_R_kindsWrong_68 : decode bb_R_kindsWrong 68 = .ok (.aload_n 0, 1) := by decide +kernel
theorem dc_R_kindsWrong_69 : decode bb_R_kindsWrong 69 = .ok (.getfield 25, 3) := by decide +kernel
theorem dc_R_kindsWrong_72 : decode bb_R_kindsWrong 72 = .ok (.iload_n 3, 1) := by decide +kernel
theorem dc_R_kindsWrong_73 : decode bb_R_kindsWrong 73 = .ok (.iaload, 1) := by decide +kernel
theorem dc_R_kindsWrong_74 : decode bb_R_kindsWrong 74 = .ok (.iconst 1, 1) := by decide +kernel
theorem dc_R_kindsWrong_75 : decode bb_R_kindsWrong 75 = .ok (.if_icmp .ne 42, 3) := by decide +kernel
theorem dc_R_kindsWrong_78 : decode bb_R_kindsWrong 78 = .ok (.aload_n 0, 1) := by decide +kernel
theorem dc_R_kindsWrong_79 : decode bb_R_kindsWrong 79 = .ok (.getfield 19, 3) := by decide +kernel
theorem dc_R_kindsWrong_82 : decode bb_R_kindsWrong 82 = .ok (.iload_n 3, 1) := by decide +kernel
theorem dc_R_kindsWrong_83 : decode bb_R_kindsWrong 83 = .ok (.iaload, 1) := by decide +kernel
theorem dc_R_kindsWrong_84 : decode bb_R_kindsWrong 84 = .ok (.bipush 84, 2) := by decide +kernel
theorem dc_R_kindsWrong_86 : decode bb_R_kindsWrong 86 = .ok (.if_icmp .ne 31, 3) := by decide +kernel
theorem dc_R_kindsWrong_89 : decode bb_R_kindsWrong 89 = .ok (.aload_n 0, 1) := by decide +kernel
theorem dc_R_kindsWrong_90 : decode bb_R_kindsWrong 90 = .ok (.getfield 83, 3) := by decide +kernel
theorem dc_R_kindsWrong_93 : decode bb_R_kindsWrong 93 = .ok (.iconst 2, 1) := by decide +kernel
theorem dc_R_kindsWrong_94 : decode bb_R_kindsWrong 94 = .ok (.if_icmp .ge 13, 3) := by decide +kernel
theorem dc_R_kindsWrong_97 : decode bb_R_kindsWrong 97 = .ok (.aload_n 0, 1) := by decide +kernel
theorem dc_R_kindsWrong_98 : decode bb_R_kindsWrong 98 = .ok (.getfield 37, 3) := by decide +kernel
theorem dc_R_kindsWrong_101 : decode bb_R_kindsWrong 101 = .ok (.aload_n 0, 1) := by decide +kernel
theorem dc_R_kindsWrong_102 : decode bb_R_kindsWrong 102 = .ok (.getfield 83, 3) := by decide +kernel
theorem dc_R_kindsWrong_105 : decode bb_R_kindsWrong 105 = .ok (.iload_n 3, 1) := by decide +kernel
theorem dc_R_kindsWrong_106 : decode bb_R_kindsWrong 106 = .ok (.iastore, 1) := by decide +kernel
theorem dc_R_kindsWrong_107 : decode bb_R_kindsWrong 107 = .ok (.aload_n 0, 1) := by decide +kernel
theorem dc_R_kindsWrong_108 : decode bb_R_kindsWrong 108 = .ok (.dup, 1) := by decide +kernel
theorem dc_R_kindsWrong_109 : decode bb_R_kindsWrong 109 = .ok (.getfield 83, 3) := by decide +kernel
theorem dc_R_kindsWrong_112 : decode bb_R_kindsWrong 112 = .ok (.iconst 1, 1) := by decide +kernel
theorem dc_R_kindsWrong_113 : decode bb_R_kindsWrong 113 = .ok (.iadd, 1) := by decide +kernel
theorem dc_R_kindsWrong_114 : decode bb_R_kindsWrong 114 = .ok (.putfield 83, 3) := by decide +kernel
theorem dc_R_kindsWrong_117 : decode bb_R_kindsWrong 117 = .ok (.aload_n 0, 1) := by decide +kernel
theorem dc_R_kindsWrong_118 : decode bb_R_kindsWrong 118 = .ok (.getfield 25, 3) := by decide +kernel
theorem dc_R_kindsWrong_121 : decode bb_R_kindsWrong 121 = .ok (.iload_n 3, 1) := by decide +kernel
theorem dc_R_kindsWrong_122 : decode bb_R_kindsWrong 122 = .ok (.iaload, 1) := by decide +kernel
theorem dc_R_kindsWrong_123 : decode bb_R_kindsWrong 123 = .ok (.iconst 2, 1) := by decide +kernel
theorem dc_R_kindsWrong_124 : decode bb_R_kindsWrong 124 = .ok (.if_icmp .ne 15, 3) := by decide +kernel
theorem dc_R_kindsWrong_127 : decode bb_R_kindsWrong 127 = .ok (.aload_n 0, 1) := by decide +kernel
theorem dc_R_kindsWrong_128 : decode bb_R_kindsWrong 128 = .ok (.getfield 19, 3) := by decide +kernel
theorem dc_R_kindsWrong_131 : decode bb_R_kindsWrong 131 = .ok (.iload_n 3, 1) := by decide +kernel
theorem dc_R_kindsWrong_132 : decode bb_R_kindsWrong 132 = .ok (.iaload, 1) := by decide +kernel
theorem dc_R_kindsWrong_133 : decode bb_R_kindsWrong 133 = .ok (.invokestatic 99, 3) := by decide +kernel
theorem dc_R_kindsWrong_136 : decode bb_R_kindsWrong 136 = .ok (.goto 4, 3) := by decide +kernel
theorem dc_R_kindsWrong_139 : decode bb_R_kindsWrong 139 = .ok (.iconst (-1), 1) := by decide +kernel
theorem dc_R_kindsWrong_140 : decode bb_R_kindsWrong 140 = .ok (.istore 4, 2) := by decide +kernel
theorem dc_R_kindsWrong_142 : decode bb_R_kindsWrong 142 = .ok (.iload 4, 2) := by decide +kernel
theorem dc_R_kindsWrong_144 : decode bb_R_kindsWrong 144 = .ok (.ifCond .lt 53, 3) := by decide +kernel
theorem dc_R_kindsWrong_147 : decode bb_R_kindsWrong 147 = .ok (.aload_n 0, 1) := by decide +kernel
theorem dc_R_kindsWrong_148 : decode bb_R_kindsWrong 148 = .ok (.getfield 83, 3) := by decide +kernel
theorem dc_R_kindsWrong_151 : decode bb_R_kindsWrong 151 = .ok (.iconst 2, 1) := by decide +kernel
theorem dc_R_kindsWrong_152 : decode bb_R_kindsWrong 152 = .ok (.if_icmp .gt 45, 3) := by decide +kernel
theorem dc_R_kindsWrong_155 : decode bb_R_kindsWrong 155 = .ok (.bipush 8, 2) := by decide +kernel
theorem dc_R_kindsWrong_157 : decode bb_R_kindsWrong 157 = .ok (.aload_n 0, 1) := by decide +kernel
theorem dc_R_kindsWrong_158 : decode bb_R_kindsWrong 158 = .ok (.getfield 83, 3) := by decide +kernel
theorem dc_R_kindsWrong_161 : decode bb_R_kindsWrong 161 = .ok (.iconst 1, 1) := by decide +kernel
theorem dc_R_kindsWrong_162 : decode bb_R_kindsWrong 162 = .ok (.isub, 1) := by decide +kernel
theorem dc_R_kindsWrong_163 : decode bb_R_kindsWrong 163 = .ok (.imul, 1) := by decide +kernel
theorem dc_R_kindsWrong_164 : decode bb_R_kindsWrong 164 = .ok (.iload 4, 2) := by decide +kernel
theorem dc_R_kindsWrong_166 : decode bb_R_kindsWrong 166 = .ok (.iadd, 1) := by decide +kernel
theorem dc_R_kindsWrong_167 : decode bb_R_kindsWrong 167 = .ok (.istore 5, 2) := by decide +kernel
theorem dc_R_kindsWrong_169 : decode bb_R_kindsWrong 169 = .ok (.iload_n 2, 1) := by decide +kernel
theorem dc_R_kindsWrong_170 : decode bb_R_kindsWrong 170 = .ok (.ifCond .ne 13, 3) := by decide +kernel
theorem dc_R_kindsWrong_173 : decode bb_R_kindsWrong 173 = .ok (.aload_n 0, 1) := by decide +kernel
theorem dc_R_kindsWrong_174 : decode bb_R_kindsWrong 174 = .ok (.getfield 40, 3) := by decide +kernel
theorem dc_R_kindsWrong_177 : decode bb_R_kindsWrong 177 = .ok (.iload 5, 2) := by decide +kernel
theorem dc_R_kindsWrong_179 : decode bb_R_kindsWrong 179 = .ok (.iaload, 1) := by decide +kernel
theorem dc_R_kindsWrong_180 : decode bb_R_kindsWrong 180 = .ok (.ifCond .lt 7, 3) := by decide +kernel
theorem dc_R_kindsWrong_183 : decode bb_R_kindsWrong 183 = .ok (.iconst 1, 1) := by decide +kernel
theorem dc_R_kindsWrong_184 : decode bb_R_kindsWrong 184 = .ok (.goto 4, 3) := by decide +kernel
theorem dc_R_kindsWrong_187 : decode bb_R_kindsWrong 187 = .ok (.iconst 0, 1) := by decide +kernel
theorem dc_R_kindsWrong_188 : decode bb_R_kindsWrong 188 = .ok (.istore_n 2, 1) := by decide +kernel
theorem dc_R_kindsWrong_189 : decode bb_R_kindsWrong 189 = .ok (.aload_n 0, 1) := by decide +kernel
theorem dc_R_kindsWrong_190 : decode bb_R_kindsWrong 190 = .ok (.getfield 40, 3) := by decide +kernel
theorem dc_R_kindsWrong_193 : decode bb_R_kindsWrong 193 = .ok (.iload 5, 2) := by decide +kernel
theorem dc_R_kindsWrong_195 : decode bb_R_kindsWrong 195 = .ok (.iload_n 3, 1) := by decide +kernel
theorem dc_R_kindsWrong_196 : decode bb_R_kindsWrong 196 = .ok (.iastore, 1) := by decide +kernel
theorem dc_R_kindsWrong_197 : decode bb_R_kindsWrong 197 = .ok (.iinc 3 1, 3) := by decide +kernel
theorem dc_R_kindsWrong_200 : decode bb_R_kindsWrong 200 = .ok (.goto (-168), 3) := by decide +kernel
theorem dc_R_kindsWrong_203 : decode bb_R_kindsWrong 203 = .ok (.iload_n 1, 1) := by decide +kernel
theorem dc_R_kindsWrong_204 : decode bb_R_kindsWrong 204 = .ok (.iconst 1, 1) := by decide +kernel
theorem dc_R_kindsWrong_205 : decode bb_R_kindsWrong 205 = .ok (.if_icmp .ne 19, 3) := by decide +kernel
theorem dc_R_kindsWrong_208 : decode bb_R_kindsWrong 208 = .ok (.aload_n 0, 1) := by decide +kernel
theorem dc_R_kindsWrong_209 : decode bb_R_kindsWrong 209 = .ok (.getfield 83, 3) := by decide +kernel
theorem dc_R_kindsWrong_212 : decode bb_R_kindsWrong 212 = .ok (.iconst 1, 1) := by decide +kernel
theorem dc_R_kindsWrong_213 : decode bb_R_kindsWrong 213 = .ok (.if_icmp .lt 11, 3) := by decide +kernel
theorem dc_R_kindsWrong_216 : decode bb_R_kindsWrong 216 = .ok (.aload_n 0, 1) := by decide +kernel
theorem dc_R_kindsWrong_217 : decode bb_R_kindsWrong 217 = .ok (.getfield 83, 3) := by decide +kernel
theorem dc_R_kindsWrong_220 : decode bb_R_kindsWrong 220 = .ok (.iconst 2, 1) := by decide +kernel
theorem dc_R_kindsWrong_221 : decode bb_R_kindsWrong 221 = .ok (.if_icmp .le 5, 3) := by decide +kernel
theorem dc_R_kindsWrong_224 : decode bb_R_kindsWrong 224 = .ok (.iconst 1, 1) := by decide +kernel
theorem dc_R_kindsWrong_225 : decode bb_R_kindsWrong 225 = .ok (.ireturn, 1) := by decide +kernel
theorem dc_R_kindsWrong_226 : decode bb_R_kindsWrong 226 = .ok (.iconst 0, 1) := by decide +kernel
theorem dc_R_kindsWrong_227 : decode bb_R_kindsWrong 227 = .ok (.istore_n 3, 1) := by decide +kernel
theorem dc_R_kindsWrong_228 : decode bb_R_kindsWrong 228 = .ok (.iload_n 3, 1) := by decide +kernel
theorem dc_R_kindsWrong_229 : decode bb_R_kindsWrong 229 = .ok (.aload_n 0, 1) := by decide +kernel
theorem dc_R_kindsWrong_230 : decode bb_R_kindsWrong 230 = .ok (.getfield 83, 3) := by decide +kernel
theorem dc_R_kindsWrong_233 : decode bb_R_kindsWrong 233 = .ok (.if_icmp .ge 110, 3) := by decide +kernel
theorem dc_R_kindsWrong_236 : decode bb_R_kindsWrong 236 = .ok (.aload_n 0, 1) := by decide +kernel
theorem dc_R_kindsWrong_237 : decode bb_R_kindsWrong 237 = .ok (.getfield 40, 3) := by decide +kernel
theorem dc_R_kindsWrong_240 : decode bb_R_kindsWrong 240 = .ok (.bipush 8, 2) := by decide +kernel
theorem dc_R_kindsWrong_242 : decode bb_R_kindsWrong 242 = .ok (.iload_n 3, 1) := by decide +kernel
theorem dc_R_kindsWrong_243 : decode bb_R_kindsWrong 243 = .ok (.imul, 1) := by decide +kernel
theorem dc_R_kindsWrong_244 : decode bb_R_kindsWrong 244 = .ok (.iconst 4, 1) := by decide +kernel
theorem dc_R_kindsWrong_245 : decode bb_R_kindsWrong 245 = .ok (.iadd, 1) := by decide +kernel
theorem dc_R_kindsWrong_246 : decode bb_R_kindsWrong 246 = .ok (.iaload, 1) := by decide +kernel
theorem dc_R_kindsWrong_247 : decode bb_R_kindsWrong 247 = .ok (.ifCond .lt 7, 3) := by decide +kernel
theorem dc_R_kindsWrong_250 : decode bb_R_kindsWrong 250 = .ok (.iconst 1, 1) := by decide +kernel
theorem dc_R_kindsWrong_251 : decode bb_R_kindsWrong 251 = .ok (.goto 4, 3) := by decide +kernel
theorem dc_R_kindsWrong_254 : decode bb_R_kindsWrong 254 = .ok (.iconst 0, 1) := by decide +kernel
theorem dc_R_kindsWrong_255 : decode bb_R_kindsWrong 255 = .ok (.istore 4, 2) := by decide +kernel
theorem dc_R_kindsWrong_257 : decode bb_R_kindsWrong 257 = .ok (.aload_n 0, 1) := by decide +kernel
theorem dc_R_kindsWrong_258 : decode bb_R_kindsWrong 258 = .ok (.getfield 40, 3) := by decide +kernel
theorem dc_R_kindsWrong_261 : decode bb_R_kindsWrong 261 = .ok (.bipush 8, 2) := by decide +kernel
theorem dc_R_kindsWrong_263 : decode bb_R_kindsWrong 263 = .ok (.iload_n 3, 1) := by decide +kernel
theorem dc_R_kindsWrong_264 : decode bb_R_kindsWrong 264 = .ok (.imul, 1) := by decide +kernel
theorem dc_R_kindsWrong_265 : decode bb_R_kindsWrong 265 = .ok (.iconst 5, 1) := by decide +kernel
theorem dc_R_kindsWrong_266 : decode bb_R_kindsWrong 266 = .ok (.iadd, 1) := by decide +kernel
theorem dc_R_kindsWrong_267 : decode bb_R_kindsWrong 267 = .ok (.iaload, 1) := by decide +kernel
theorem dc_R_kindsWrong_268 : decode bb_R_kindsWrong 268 = .ok (.ifCond .lt 7, 3) := by decide +kernel
theorem dc_R_kindsWrong_271 : decode bb_R_kindsWrong 271 = .ok (.iconst 1, 1) := by decide +kernel
theorem dc_R_kindsWrong_272 : decode bb_R_kindsWrong 272 = .ok (.goto 4, 3) := by decide +kernel
theorem dc_R_kindsWrong_275 : decode bb_R_kindsWrong 275 = .ok (.iconst 0, 1) := by decide +kernel
theorem dc_R_kindsWrong_276 : decode bb_R_kindsWrong 276 = .ok (.istore 5, 2) := by decide +kernel
theorem dc_R_kindsWrong_278 : decode bb_R_kindsWrong 278 = .ok (.iload_n 2, 1) := by decide +kernel
theorem dc_R_kindsWrong_279 : decode bb_R_kindsWrong 279 = .ok (.ifCond .ne 52, 3) := by decide +kernel
theorem dc_R_kindsWrong_282 : decode bb_R_kindsWrong 282 = .ok (.iload 4, 2) := by decide +kernel
theorem dc_R_kindsWrong_284 : decode bb_R_kindsWrong 284 = .ok (.iload 5, 2) := by decide +kernel
theorem dc_R_kindsWrong_286 : decode bb_R_kindsWrong 286 = .ok (.if_icmp .eq 45, 3) := by decide +kernel
theorem dc_R_kindsWrong_289 : decode bb_R_kindsWrong 289 = .ok (.aload_n 0, 1) := by decide +kernel
theorem dc_R_kindsWrong_290 : decode bb_R_kindsWrong 290 = .ok (.getfield 40, 3) := by decide +kernel
theorem dc_R_kindsWrong_293 : decode bb_R_kindsWrong 293 = .ok (.bipush 8, 2) := by decide +kernel
theorem dc_R_kindsWrong_295 : decode bb_R_kindsWrong 295 = .ok (.iload_n 3, 1) := by decide +kernel
theorem dc_R_kindsWrong_296 : decode bb_R_kindsWrong 296 = .ok (.imul, 1) := by decide +kernel
theorem dc_R_kindsWrong_297 : decode bb_R_kindsWrong 297 = .ok (.iconst 0, 1) := by decide +kernel
theorem dc_R_kindsWrong_298 : decode bb_R_kindsWrong 298 = .ok (.iadd, 1) := by decide +kernel
theorem dc_R_kindsWrong_299 : decode bb_R_kindsWrong 299 = .ok (.iaload, 1) := by decide +kernel
theorem dc_R_kindsWrong_300 : decode bb_R_kindsWrong 300 = .ok (.ifCond .lt 31, 3) := by decide +kernel
theorem dc_R_kindsWrong_303 : decode bb_R_kindsWrong 303 = .ok (.aload_n 0, 1) := by decide +kernel
theorem dc_R_kindsWrong_304 : decode bb_R_kindsWrong 304 = .ok (.getfield 40, 3) := by decide +kernel
theorem dc_R_kindsWrong_307 : decode bb_R_kindsWrong 307 = .ok (.bipush 8, 2) := by decide +kernel
theorem dc_R_kindsWrong_309 : decode bb_R_kindsWrong 309 = .ok (.iload_n 3, 1) := by decide +kernel
theorem dc_R_kindsWrong_310 : decode bb_R_kindsWrong 310 = .ok (.imul, 1) := by decide +kernel
theorem dc_R_kindsWrong_311 : decode bb_R_kindsWrong 311 = .ok (.iconst 2, 1) := by decide +kernel
theorem dc_R_kindsWrong_312 : decode bb_R_kindsWrong 312 = .ok (.iadd, 1) := by decide +kernel
theorem dc_R_kindsWrong_313 : decode bb_R_kindsWrong 313 = .ok (.iaload, 1) := by decide +kernel
theorem dc_R_kindsWrong_314 : decode bb_R_kindsWrong 314 = .ok (.ifCond .lt 17, 3) := by decide +kernel
theorem dc_R_kindsWrong_317 : decode bb_R_kindsWrong 317 = .ok (.aload_n 0, 1) := by decide +kernel
theorem dc_R_kindsWrong_318 : decode bb_R_kindsWrong 318 = .ok (.getfield 40, 3) := by decide +kernel
theorem dc_R_kindsWrong_321 : decode bb_R_kindsWrong 321 = .ok (.bipush 8, 2) := by decide +kernel
theorem dc_R_kindsWrong_323 : decode bb_R_kindsWrong 323 = .ok (.iload_n 3, 1) := by decide +kernel
theorem dc_R_kindsWrong_324 : decode bb_R_kindsWrong 324 = .ok (.imul, 1) := by decide +kernel
theorem dc_R_kindsWrong_325 : decode bb_R_kindsWrong 325 = .ok (.iconst 3, 1) := by decide +kernel
theorem dc_R_kindsWrong_326 : decode bb_R_kindsWrong 326 = .ok (.iadd, 1) := by decide +kernel
theorem dc_R_kindsWrong_327 : decode bb_R_kindsWrong 327 = .ok (.iaload, 1) := by decide +kernel
theorem dc_R_kindsWrong_328 : decode bb_R_kindsWrong 328 = .ok (.ifCond .ge 7, 3) := by decide +kernel
theorem dc_R_kindsWrong_331 : decode bb_R_kindsWrong 331 = .ok (.iconst 1, 1) := by decide +kernel
theorem dc_R_kindsWrong_332 : decode bb_R_kindsWrong 332 = .ok (.goto 4, 3) := by decide +kernel
theorem dc_R_kindsWrong_335 : decode bb_R_kindsWrong 335 = .ok (.iconst 0, 1) := by decide +kernel
theorem dc_R_kindsWrong_336 : decode bb_R_kindsWrong 336 = .ok (.istore_n 2, 1) := by decide +kernel
theorem dc_R_kindsWrong_337 : decode bb_R_kindsWrong 337 = .ok (.iinc 3 1, 3) := by decide +kernel
theorem dc_R_kindsWrong_340 : decode bb_R_kindsWrong 340 = .ok (.goto (-112), 3) := by decide +kernel
theorem dc_R_kindsWrong_343 : decode bb_R_kindsWrong 343 = .ok (.iload_n 2, 1) := by decide +kernel
theorem dc_R_kindsWrong_344 : decode bb_R_kindsWrong 344 = .ok (.ireturn, 1) := by decide +kernel
theorem dc_R_kindOf_0 : decode bb_R_kindOf 0 = .ok (.iload_n 0, 1) := by decide +kernel
theorem dc_R_kindOf_1 : decode bb_R_kindOf 1 = .ok (.lookupswitch 93 #[(79, 85), (99, 77), (101, 90), (107, 79), (111, 83), (115, 75), (121, 87), (122, 81)], 75) := by decide +kernel
theorem dc_R_kindOf_76 : decode bb_R_kindOf 76 = .ok (.iconst 0, 1) := by decide +kernel
theorem dc_R_kindOf_77 : decode bb_R_kindOf 77 = .ok (.ireturn, 1) := by decide +kernel
theorem dc_R_kindOf_78 : decode bb_R_kindOf 78 = .ok (.iconst 1, 1) := by decide +kernel
theorem dc_R_kindOf_79 : decode bb_R_kindOf 79 = .ok (.ireturn, 1) := by decide +kernel
theorem dc_R_kindOf_80 : decode bb_R_kindOf 80 = .ok (.iconst 2, 1) := by decide +kernel
theorem dc_R_kindOf_81 : decode bb_R_kindOf 81 = .ok (.ireturn, 1) := by decide +kernel
theorem dc_R_kindOf_82 : decode bb_R_kindOf 82 = .ok (.iconst 3, 1) := by decide +kernel
theorem dc_R_kindOf_83 : decode bb_R_kindOf 83 = .ok (.ireturn, 1) := by decide +kernel
theorem dc_R_kindOf_84 : decode bb_R_kindOf 84 = .ok (.iconst 4, 1) := by decide +kernel
theorem dc_R_kindOf_85 : decode bb_R_kindOf 85 = .ok (.ireturn, 1) := by decide +kernel
theorem dc_R_kindOf_86 : decode bb_R_kindOf 86 = .ok (.iconst 5, 1) := by decide +kernel
theorem dc_R_kindOf_87 : decode bb_R_kindOf 87 = .ok (.ireturn, 1) := by decide +kernel
theorem dc_R_kindOf_88 : decode bb_R_kindOf 88 = .ok (.bipush 6, 2) := by decide +kernel
theorem dc_R_kindOf_90 : decode bb_R_kindOf 90 = .ok (.ireturn, 1) := by decide +kernel
theorem dc_R_kindOf_91 : decode bb_R_kindOf 91 = .ok (.bipush 7, 2) := by decide +kernel
theorem dc_R_kindOf_93 : decode bb_R_kindOf 93 = .ok (.ireturn, 1) := by decide +kernel
theorem dc_R_kindOf_94 : decode bb_R_kindOf 94 = .ok (.iconst (-1), 1) := by decide +kernel
theorem dc_R_kindOf_95 : decode bb_R_kindOf 95 = .ok (.ireturn, 1) := by decide +kernel
theorem dc_R_rowsWrong_0 : decode bb_R_rowsWrong 0 = .ok (.aload_n 0, 1) := by decide +kernel
theorem dc_R_rowsWrong_1 : decode bb_R_rowsWrong 1 = .ok (.iload_n 1, 1) := by decide +kernel
theorem dc_R_rowsWrong_2 : decode bb_R_rowsWrong 2 = .ok (.invokevirtual 103, 3) := by decide +kernel
theorem dc_R_rowsWrong_5 : decode bb_R_rowsWrong 5 = .ok (.istore_n 3, 1) := by decide +kernel
theorem dc_R_rowsWrong_6 : decode bb_R_rowsWrong 6 = .ok (.iload_n 2, 1) := by decide +kernel
theorem dc_R_rowsWrong_7 : decode bb_R_rowsWrong 7 = .ok (.iconst 3, 1) := by decide +kernel
theorem dc_R_rowsWrong_8 : decode bb_R_rowsWrong 8 = .ok (.if_icmp .ne 39, 3) := by decide +kernel
theorem dc_R_rowsWrong_11 : decode bb_R_rowsWrong 11 = .ok (.iload_n 3, 1) := by decide +kernel
theorem dc_R_rowsWrong_12 : decode bb_R_rowsWrong 12 = .ok (.iconst 2, 1) := by decide +kernel
theorem dc_R_rowsWrong_13 : decode bb_R_rowsWrong 13 = .ok (.if_icmp .lt 28, 3) := by decide +kernel
theorem dc_R_rowsWrong_16 : decode bb_R_rowsWrong 16 = .ok (.iload_n 3, 1) := by decide +kernel
theorem dc_R_rowsWrong_17 : decode bb_R_rowsWrong 17 = .ok (.aload_n 0, 1) := by decide +kernel
theorem dc_R_rowsWrong_18 : decode bb_R_rowsWrong 18 = .ok (.iload_n 1, 1) := by decide +kernel
theorem dc_R_rowsWrong_19 : decode bb_R_rowsWrong 19 = .ok (.iconst 0, 1) := by decide +kernel
theorem dc_R_rowsWrong_20 : decode bb_R_rowsWrong 20 = .ok (.invokevirtual 106, 3) := by decide +kernel
theorem dc_R_rowsWrong_23 : decode bb_R_rowsWrong 23 = .ok (.ifCond .ne 14, 3) := by decide +kernel
theorem dc_R_rowsWrong_26 : decode bb_R_rowsWrong 26 = .ok (.iconst 2, 1) := by decide +kernel
theorem dc_R_rowsWrong_27 : decode bb_R_rowsWrong 27 = .ok (.aload_n 0, 1) := by decide +kernel
theorem dc_R_rowsWrong_28 : decode bb_R_rowsWrong 28 = .ok (.iload_n 1, 1) := by decide +kernel
theorem dc_R_rowsWrong_29 : decode bb_R_rowsWrong 29 = .ok (.iconst 1, 1) := by decide +kernel
theorem dc_R_rowsWrong_30 : decode bb_R_rowsWrong 30 = .ok (.invokevirtual 106, 3) := by decide +kernel
theorem dc_R_rowsWrong_33 : decode bb_R_rowsWrong 33 = .ok (.iadd, 1) := by decide +kernel
theorem dc_R_rowsWrong_34 : decode bb_R_rowsWrong 34 = .ok (.goto 4, 3) := by decide +kernel
theorem dc_R_rowsWrong_37 : decode bb_R_rowsWrong 37 = .ok (.iconst 2, 1) := by decide +kernel
theorem dc_R_rowsWrong_38 : decode bb_R_rowsWrong 38 = .ok (.if_icmp .eq 7, 3) := by decide +kernel
theorem dc_R_rowsWrong_41 : decode bb_R_rowsWrong 41 = .ok (.iconst 1, 1) := by decide +kernel
theorem dc_R_rowsWrong_42 : decode bb_R_rowsWrong 42 = .ok (.goto 4, 3) := by decide +kernel
theorem dc_R_rowsWrong_45 : decode bb_R_rowsWrong 45 = .ok (.iconst 0, 1) := by decide +kernel
theorem dc_R_rowsWrong_46 : decode bb_R_rowsWrong 46 = .ok (.ireturn, 1) := by decide +kernel
theorem dc_R_rowsWrong_47 : decode bb_R_rowsWrong 47 = .ok (.iload_n 2, 1) := by decide +kernel
theorem dc_R_rowsWrong_48 : decode bb_R_rowsWrong 48 = .ok (.iconst 2, 1) := by decide +kernel
theorem dc_R_rowsWrong_49 : decode bb_R_rowsWrong 49 = .ok (.if_icmp .ne 7, 3) := by decide +kernel
theorem dc_R_rowsWrong_52 : decode bb_R_rowsWrong 52 = .ok (.iconst 3, 1) := by decide +kernel
theorem dc_R_rowsWrong_53 : decode bb_R_rowsWrong 53 = .ok (.goto 19, 3) := by decide +kernel
theorem dc_R_rowsWrong_56 : decode bb_R_rowsWrong 56 = .ok (.iload_n 2, 1) := by decide +kernel
theorem dc_R_rowsWrong_57 : decode bb_R_rowsWrong 57 = .ok (.iconst 4, 1) := by decide +kernel
theorem dc_R_rowsWrong_58 : decode bb_R_rowsWrong 58 = .ok (.if_icmp .eq 9, 3) := by decide +kernel
theorem dc_R_rowsWrong_61 : decode bb_R_rowsWrong 61 = .ok (.iload_n 2, 1) := by decide +kernel
theorem dc_R_rowsWrong_62 : decode bb_R_rowsWrong 62 = .ok (.bipush 6, 2) := by decide +kernel
theorem dc_R_rowsWrong_64 : decode bb_R_rowsWrong 64 = .ok (.if_icmp .ne 7, 3) := by decide +kernel
theorem dc_R_rowsWrong_67 : decode bb_R_rowsWrong 67 = .ok (.iconst 1, 1) := by decide +kernel
theorem dc_R_rowsWrong_68 : decode bb_R_rowsWrong 68 = .ok (.goto 4, 3) := by decide +kernel
theorem dc_R_rowsWrong_71 : decode bb_R_rowsWrong 71 = .ok (.iconst 2, 1) := by decide +kernel
theorem dc_R_rowsWrong_72 : decode bb_R_rowsWrong 72 = .ok (.istore 4, 2) := by decide +kernel
theorem dc_R_rowsWrong_74 : decode bb_R_rowsWrong 74 = .ok (.iload_n 3, 1) := by decide +kernel
theorem dc_R_rowsWrong_75 : decode bb_R_rowsWrong 75 = .ok (.iconst 1, 1) := by decide +kernel
theorem dc_R_rowsWrong_76 : decode bb_R_rowsWrong 76 = .ok (.if_icmp .lt 18, 3) := by decide +kernel
theorem dc_R_rowsWrong_79 : decode bb_R_rowsWrong 79 = .ok (.iload_n 3, 1) := by decide +kernel
theorem dc_R_rowsWrong_80 : decode bb_R_rowsWrong 80 = .ok (.iconst 1, 1) := by decide +kernel
theorem dc_R_rowsWrong_81 : decode bb_R_rowsWrong 81 = .ok (.iload 4, 2) := by decide +kernel
theorem dc_R_rowsWrong_83 : decode bb_R_rowsWrong 83 = .ok (.aload_n 0, 1) := by decide +kernel
theorem dc_R_rowsWrong_84 : decode bb_R_rowsWrong 84 = .ok (.iload_n 1, 1) := by decide +kernel
theorem dc_R_rowsWrong_85 : decode bb_R_rowsWrong 85 = .ok (.iconst 0, 1) := by decide +kernel
theorem dc_R_rowsWrong_86 : decode bb_R_rowsWrong 86 = .ok (.invokevirtual 106, 3) := by decide +kernel
theorem dc_R_rowsWrong_89 : decode bb_R_rowsWrong 89 = .ok (.imul, 1) := by decide +kernel
theorem dc_R_rowsWrong_90 : decode bb_R_rowsWrong 90 = .ok (.iadd, 1) := by decide +kernel
theorem dc_R_rowsWrong_91 : decode bb_R_rowsWrong 91 = .ok (.if_icmp .eq 5, 3) := by decide +kernel
theorem dc_R_rowsWrong_94 : decode bb_R_rowsWrong 94 = .ok (.iconst 1, 1) := by decide +kernel
theorem dc_R_rowsWrong_95 : decode bb_R_rowsWrong 95 = .ok (.ireturn, 1) := by decide +kernel
theorem dc_R_rowsWrong_96 : decode bb_R_rowsWrong 96 = .ok (.aload_n 0, 1) := by decide +kernel
theorem dc_R_rowsWrong_97 : decode bb_R_rowsWrong 97 = .ok (.iload_n 1, 1) := by decide +kernel
theorem dc_R_rowsWrong_98 : decode bb_R_rowsWrong 98 = .ok (.iconst 0, 1) := by decide +kernel
theorem dc_R_rowsWrong_99 : decode bb_R_rowsWrong 99 = .ok (.invokevirtual 106, 3) := by decide +kernel
theorem dc_R_rowsWrong_102 : decode bb_R_rowsWrong 102 = .ok (.istore 5, 2) := by decide +kernel
theorem dc_R_rowsWrong_104 : decode bb_R_rowsWrong 104 = .ok (.iconst 0, 1) := by decide +kernel
theorem dc_R_rowsWrong_105 : decode bb_R_rowsWrong 105 = .ok (.istore 6, 2) := by decide +kernel
theorem dc_R_rowsWrong_107 : decode bb_R_rowsWrong 107 = .ok (.iconst 0, 1) := by decide +kernel
theorem dc_R_rowsWrong_108 : decode bb_R_rowsWrong 108 = .ok (.istore 7, 2) := by decide +kernel
theorem dc_R_rowsWrong_110 : decode bb_R_rowsWrong 110 = .ok (.iload 7, 2) := by decide +kernel
theorem dc_R_rowsWrong_112 : decode bb_R_rowsWrong 112 = .ok (.iload 5, 2) := by decide +kernel
theorem dc_R_rowsWrong_114 : decode bb_R_rowsWrong 114 = .ok (.if_icmp .ge 150, 3) := by decide +kernel
theorem dc_R_rowsWrong_117 : decode bb_R_rowsWrong 117 = .ok (.iload_n 2, 1) := by decide +kernel
theorem dc_R_rowsWrong_118 : decode bb_R_rowsWrong 118 = .ok (.iconst 2, 1) := by decide +kernel
theorem dc_R_rowsWrong_119 : decode bb_R_rowsWrong 119 = .ok (.if_icmp .ne 89, 3) := by decide +kernel
theorem dc_R_rowsWrong_122 : decode bb_R_rowsWrong 122 = .ok (.aload_n 0, 1) := by decide +kernel
theorem dc_R_rowsWrong_123 : decode bb_R_rowsWrong 123 = .ok (.iload_n 1, 1) := by decide +kernel
theorem dc_R_rowsWrong_124 : decode bb_R_rowsWrong 124 = .ok (.iconst 1, 1) := by decide +kernel
theorem dc_R_rowsWrong_125 : decode bb_R_rowsWrong 125 = .ok (.iconst 3, 1) := by decide +kernel
theorem dc_R_rowsWrong_126 : decode bb_R_rowsWrong 126 = .ok (.iload 7, 2) := by decide +kernel
theorem dc_R_rowsWrong_128 : decode bb_R_rowsWrong 128 = .ok (.imul, 1) := by decide +kernel
theorem dc_R_rowsWrong_129 : decode bb_R_rowsWrong 129 = .ok (.iadd, 1) := by decide +kernel
theorem dc_R_rowsWrong_130 : decode bb_R_rowsWrong 130 = .ok (.invokevirtual 106, 3) := by decide +kernel
theorem dc_R_rowsWrong_133 : decode bb_R_rowsWrong 133 = .ok (.istore 8, 2) := by decide +kernel
theorem dc_R_rowsWrong_135 : decode bb_R_rowsWrong 135 = .ok (.iload 7, 2) := by decide +kernel
theorem dc_R_rowsWrong_137 : decode bb_R_rowsWrong 137 = .ok (.ifCond .ne 17, 3) := by decide +kernel
theorem dc_R_rowsWrong_140 : decode bb_R_rowsWrong 140 = .ok (.iload 8, 2) := by decide +kernel
theorem dc_R_rowsWrong_142 : decode bb_R_rowsWrong 142 = .ok (.iconst 1, 1) := by decide +kernel
theorem dc_R_rowsWrong_143 : decode bb_R_rowsWrong 143 = .ok (.if_icmp .ne 7, 3) := by decide +kernel
theorem dc_R_rowsWrong_146 : decode bb_R_rowsWrong 146 = .ok (.iconst 1, 1) := by decide +kernel
theorem dc_R_rowsWrong_147 : decode bb_R_rowsWrong 147 = .ok (.goto 28, 3) := by decide +kernel
theorem dc_R_rowsWrong_150 : decode bb_R_rowsWrong 150 = .ok (.iconst 0, 1) := by decide +kernel
theorem dc_R_rowsWrong_151 : decode bb_R_rowsWrong 151 = .ok (.goto 24, 3) := by decide +kernel
theorem dc_R_rowsWrong_154 : decode bb_R_rowsWrong 154 = .ok (.iload 8, 2) := by decide +kernel
theorem dc_R_rowsWrong_156 : decode bb_R_rowsWrong 156 = .ok (.aload_n 0, 1) := by decide +kernel
theorem dc_R_rowsWrong_157 : decode bb_R_rowsWrong 157 = .ok (.iload_n 1, 1) := by decide +kernel
theorem dc_R_rowsWrong_158 : decode bb_R_rowsWrong 158 = .ok (.iconst 3, 1) := by decide +kernel
theorem dc_R_rowsWrong_159 : decode bb_R_rowsWrong 159 = .ok (.iload 7, 2) := by decide +kernel
theorem dc_R_rowsWrong_161 : decode bb_R_rowsWrong 161 = .ok (.imul, 1) := by decide +kernel
theorem dc_R_rowsWrong_162 : decode bb_R_rowsWrong 162 = .ok (.iconst 2, 1) := by decide +kernel
theorem dc_R_rowsWrong_163 : decode bb_R_rowsWrong 163 = .ok (.isub, 1) := by decide +kernel
theorem dc_R_rowsWrong_164 : decode bb_R_rowsWrong 164 = .ok (.invokevirtual 106, 3) := by decide +kernel
theorem dc_R_rowsWrong_167 : decode bb_R_rowsWrong 167 = .ok (.if_icmp .le 7, 3) := by decide +kernel
theorem dc_R_rowsWrong_170 : decode bb_R_rowsWrong 170 = .ok (.iconst 1, 1) := by decide +kernel
theorem dc_R_rowsWrong_171 : decode bb_R_rowsWrong 171 = .ok (.goto 4, 3) := by decide +kernel
theorem dc_R_rowsWrong_174 : decode bb_R_rowsWrong 174 = .ok (.iconst 0, 1) := by decide +kernel
theorem dc_R_rowsWrong_175 : decode bb_R_rowsWrong 175 = .ok (.istore 9, 2) := by decide +kernel
theorem dc_R_rowsWrong_177 : decode bb_R_rowsWrong 177 = .ok (.iload 6, 2) := by decide +kernel
theorem dc_R_rowsWrong_179 : decode bb_R_rowsWrong 179 = .ok (.ifCond .ne 22, 3) := by decide +kernel
theorem dc_R_rowsWrong_182 : decode bb_R_rowsWrong 182 = .ok (.iload 9, 2) := by decide +kernel
theorem dc_R_rowsWrong_184 : decode bb_R_rowsWrong 184 = .ok (.ifCond .eq 17, 3) := by decide +kernel
theorem dc_R_rowsWrong_187 : decode bb_R_rowsWrong 187 = .ok (.aload_n 0, 1) := by decide +kernel
theorem dc_R_rowsWrong_188 : decode bb_R_rowsWrong 188 = .ok (.iload_n 1, 1) := by decide +kernel
theorem dc_R_rowsWrong_189 : decode bb_R_rowsWrong 189 = .ok (.iconst 2, 1) := by decide +kernel
theorem dc_R_rowsWrong_190 : decode bb_R_rowsWrong 190 = .ok (.iconst 3, 1) := by decide +kernel
theorem dc_R_rowsWrong_191 : decode bb_R_rowsWrong 191 = .ok (.iload 7, 2) := by decide +kernel
theorem dc_R_rowsWrong_193 : decode bb_R_rowsWrong 193 = .ok (.imul, 1) := by decide +kernel
theorem dc_R_rowsWrong_194 : decode bb_R_rowsWrong 194 = .ok (.iadd, 1) := by decide +kernel
theorem dc_R_rowsWrong_195 : decode bb_R_rowsWrong 195 = .ok (.invokevirtual 106, 3) := by decide +kernel
theorem dc_R_rowsWrong_198 : decode bb_R_rowsWrong 198 = .ok (.ifCond .ne 7, 3) := by decide +kernel
theorem dc_R_rowsWrong_201 : decode bb_R_rowsWrong 201 = .ok (.iconst 1, 1) := by decide +kernel
theorem dc_R_rowsWrong_202 : decode bb_R_rowsWrong 202 = .ok (.goto 4, 3) := by decide +kernel
theorem dc_R_rowsWrong_205 : decode bb_R_rowsWrong 205 = .ok (.iconst 0, 1) := by decide +kernel
theorem dc_R_rowsWrong_206 : decode bb_R_rowsWrong 206 = .ok (.istore 6, 2) := by decide +kernel
theorem dc_R_rowsWrong_208 : decode bb_R_rowsWrong 208 = .ok (.iload_n 2, 1) := by decide +kernel
theorem dc_R_rowsWrong_209 : decode bb_R_rowsWrong 209 = .ok (.bipush 6, 2) := by decide +kernel
theorem dc_R_rowsWrong_211 : decode bb_R_rowsWrong 211 = .ok (.if_icmp .ne 47, 3) := by decide +kernel
theorem dc_R_rowsWrong_214 : decode bb_R_rowsWrong 214 = .ok (.aload_n 0, 1) := by decide +kernel
theorem dc_R_rowsWrong_215 : decode bb_R_rowsWrong 215 = .ok (.iload_n 1, 1) := by decide +kernel
theorem dc_R_rowsWrong_216 : decode bb_R_rowsWrong 216 = .ok (.iconst 1, 1) := by decide +kernel
theorem dc_R_rowsWrong_217 : decode bb_R_rowsWrong 217 = .ok (.iload 7, 2) := by decide +kernel
theorem dc_R_rowsWrong_219 : decode bb_R_rowsWrong 219 = .ok (.iadd, 1) := by decide +kernel
theorem dc_R_rowsWrong_220 : decode bb_R_rowsWrong 220 = .ok (.invokevirtual 106, 3) := by decide +kernel
theorem dc_R_rowsWrong_223 : decode bb_R_rowsWrong 223 = .ok (.istore 8, 2) := by decide +kernel
theorem dc_R_rowsWrong_225 : decode bb_R_rowsWrong 225 = .ok (.iload 6, 2) := by decide +kernel
theorem dc_R_rowsWrong_227 : decode bb_R_rowsWrong 227 = .ok (.ifCond .ne 24, 3) := by decide +kernel
theorem dc_R_rowsWrong_230 : decode bb_R_rowsWrong 230 = .ok (.iload 8, 2) := by decide +kernel
theorem dc_R_rowsWrong_232 : decode bb_R_rowsWrong 232 = .ok (.iload 7, 2) := by decide +kernel
theorem dc_R_rowsWrong_234 : decode bb_R_rowsWrong 234 = .ok (.ifCond .ne 7, 3) := by decide +kernel
theorem dc_R_rowsWrong_237 : decode bb_R_rowsWrong 237 = .ok (.iconst 0, 1) := by decide +kernel
theorem dc_R_rowsWrong_238 : decode bb_R_rowsWrong 238 = .ok (.goto 10, 3) := by decide +kernel
theorem dc_R_rowsWrong_241 : decode bb_R_rowsWrong 241 = .ok (.aload_n 0, 1) := by decide +kernel
theorem dc_R_rowsWrong_242 : decode bb_R_rowsWrong 242 = .ok (.iload_n 1, 1) := by decide +kernel
theorem dc_R_rowsWrong_243 : decode bb_R_rowsWrong 243 = .ok (.iload 7, 2) := by decide +kernel
theorem dc_R_rowsWrong_245 : decode bb_R_rowsWrong 245 = .ok (.invokevirtual 106, 3) := by decide +kernel
theorem dc_R_rowsWrong_248 : decode bb_R_rowsWrong 248 = .ok (.if_icmp .gt 7, 3) := by decide +kernel
theorem dc_R_rowsWrong_251 : decode bb_R_rowsWrong 251 = .ok (.iconst 1, 1) := by decide +kernel
theorem dc_R_rowsWrong_252 : decode bb_R_rowsWrong 252 = .ok (.goto 4, 3) := by decide +kernel
theorem dc_R_rowsWrong_255 : decode bb_R_rowsWrong 255 = .ok (.iconst 0, 1) := by decide +kernel
theorem dc_R_rowsWrong_256 : decode bb_R_rowsWrong 256 = .ok (.istore 6, 2) := by decide +kernel
theorem dc_R_rowsWrong_258 : decode bb_R_rowsWrong 258 = .ok (.iinc 7 1, 3) := by decide +kernel
theorem dc_R_rowsWrong_261 : decode bb_R_rowsWrong 261 = .ok (.goto (-151), 3) := by decide +kernel
theorem dc_R_rowsWrong_264 : decode bb_R_rowsWrong 264 = .ok (.iload 6, 2) := by decide +kernel
theorem dc_R_rowsWrong_266 : decode bb_R_rowsWrong 266 = .ok (.ireturn, 1) := by decide +kernel
theorem dc_R_payLength_0 : decode bb_R_payLength 0 = .ok (.aload_n 0, 1) := by decide +kernel
theorem dc_R_payLength_1 : decode bb_R_payLength 1 = .ok (.getfield 16, 3) := by decide +kernel
theorem dc_R_payLength_4 : decode bb_R_payLength 4 = .ok (.iload_n 1, 1) := by decide +kernel
theorem dc_R_payLength_5 : decode bb_R_payLength 5 = .ok (.iaload, 1) := by decide +kernel
theorem dc_R_payLength_6 : decode bb_R_payLength 6 = .ok (.aload_n 0, 1) := by decide +kernel
theorem dc_R_payLength_7 : decode bb_R_payLength 7 = .ok (.getfield 22, 3) := by decide +kernel
theorem dc_R_payLength_10 : decode bb_R_payLength 10 = .ok (.iload_n 1, 1) := by decide +kernel
theorem dc_R_payLength_11 : decode bb_R_payLength 11 = .ok (.iaload, 1) := by decide +kernel
theorem dc_R_payLength_12 : decode bb_R_payLength 12 = .ok (.isub, 1) := by decide +kernel
theorem dc_R_payLength_13 : decode bb_R_payLength 13 = .ok (.ireturn, 1) := by decide +kernel
theorem dc_R_pay_0 : decode bb_R_pay 0 = .ok (.aload_n 0, 1) := by decide +kernel
theorem dc_R_pay_1 : decode bb_R_pay 1 = .ok (.getfield 7, 3) := by decide +kernel
theorem dc_R_pay_4 : decode bb_R_pay 4 = .ok (.aload_n 0, 1) := by decide +kernel
theorem dc_R_pay_5 : decode bb_R_pay 5 = .ok (.getfield 13, 3) := by decide +kernel
theorem dc_R_pay_8 : decode bb_R_pay 8 = .ok (.iload_n 1, 1) := by decide +kernel
theorem dc_R_pay_9 : decode bb_R_pay 9 = .ok (.iaload, 1) := by decide +kernel
theorem dc_R_pay_10 : decode bb_R_pay 10 = .ok (.aload_n 0, 1) := by decide +kernel
theorem dc_R_pay_11 : decode bb_R_pay 11 = .ok (.getfield 22, 3) := by decide +kernel
theorem dc_R_pay_14 : decode bb_R_pay 14 = .ok (.iload_n 1, 1) := by decide +kernel
theorem dc_R_pay_15 : decode bb_R_pay 15 = .ok (.iaload, 1) := by decide +kernel
theorem dc_R_pay_16 : decode bb_R_pay 16 = .ok (.iadd, 1) := by decide +kernel
theorem dc_R_pay_17 : decode bb_R_pay 17 = .ok (.iload_n 2, 1) := by decide +kernel
theorem dc_R_pay_18 : decode bb_R_pay 18 = .ok (.iadd, 1) := by decide +kernel
theorem dc_R_pay_19 : decode bb_R_pay 19 = .ok (.iaload, 1) := by decide +kernel
theorem dc_R_pay_20 : decode bb_R_pay 20 = .ok (.ireturn, 1) := by decide +kernel
theorem dc_R_countsWrong_0 : decode bb_R_countsWrong 0 = .ok (.aload_n 0, 1) := by decide +kernel
theorem dc_R_countsWrong_1 : decode bb_R_countsWrong 1 = .ok (.iload_n 1, 1) := by decide +kernel
theorem dc_R_countsWrong_2 : decode bb_R_countsWrong 2 = .ok (.invokevirtual 110, 3) := by decide +kernel
theorem dc_R_countsWrong_5 : decode bb_R_countsWrong 5 = .ok (.istore_n 2, 1) := by decide +kernel
theorem dc_R_countsWrong_6 : decode bb_R_countsWrong 6 = .ok (.aload_n 0, 1) := by decide +kernel
theorem dc_R_countsWrong_7 : decode bb_R_countsWrong 7 = .ok (.getfield 40, 3) := by decide +kernel
theorem dc_R_countsWrong_10 : decode bb_R_countsWrong 10 = .ok (.bipush 8, 2) := by decide +kernel
theorem dc_R_countsWrong_12 : decode bb_R_countsWrong 12 = .ok (.iload_n 1, 1) := by decide +kernel
theorem dc_R_countsWrong_13 : decode bb_R_countsWrong 13 = .ok (.imul, 1) := by decide +kernel
theorem dc_R_countsWrong_14 : decode bb_R_countsWrong 14 = .ok (.iconst 1, 1) := by decide +kernel
theorem dc_R_countsWrong_15 : decode bb_R_countsWrong 15 = .ok (.iadd, 1) := by decide +kernel
theorem dc_R_countsWrong_16 : decode bb_R_countsWrong 16 = .ok (.iaload, 1) := by decide +kernel
theorem dc_R_countsWrong_17 : decode bb_R_countsWrong 17 = .ok (.istore_n 3, 1) := by decide +kernel
theorem dc_R_countsWrong_18 : decode bb_R_countsWrong 18 = .ok (.aload_n 0, 1) := by decide +kernel
theorem dc_R_countsWrong_19 : decode bb_R_countsWrong 19 = .ok (.aload_n 0, 1) := by decide +kernel
theorem dc_R_countsWrong_20 : decode bb_R_countsWrong 20 = .ok (.getfield 40, 3) := by decide +kernel
theorem dc_R_countsWrong_23 : decode bb_R_countsWrong 23 = .ok (.bipush 8, 2) := by decide +kernel
theorem dc_R_countsWrong_25 : decode bb_R_countsWrong 25 = .ok (.iload_n 1, 1) := by decide +kernel
theorem dc_R_countsWrong_26 : decode bb_R_countsWrong 26 = .ok (.imul, 1) := by decide +kernel
theorem dc_R_countsWrong_27 : decode bb_R_countsWrong 27 = .ok (.iconst 0, 1) := by decide +kernel
theorem dc_R_countsWrong_28 : decode bb_R_countsWrong 28 = .ok (.iadd, 1) := by decide +kernel
theorem dc_R_countsWrong_29 : decode bb_R_countsWrong 29 = .ok (.iaload, 1) := by decide +kernel
theorem dc_R_countsWrong_30 : decode bb_R_countsWrong 30 = .ok (.invokevirtual 113, 3) := by decide +kernel
theorem dc_R_countsWrong_33 : decode bb_R_countsWrong 33 = .ok (.iload_n 2, 1) := by decide +kernel
theorem dc_R_countsWrong_34 : decode bb_R_countsWrong 34 = .ok (.if_icmp .ne 16, 3) := by decide +kernel
theorem dc_R_countsWrong_37 : decode bb_R_countsWrong 37 = .ok (.iload_n 3, 1) := by decide +kernel
theorem dc_R_countsWrong_38 : decode bb_R_countsWrong 38 = .ok (.ifCond .lt 14, 3) := by decide +kernel
theorem dc_R_countsWrong_41 : decode bb_R_countsWrong 41 = .ok (.aload_n 0, 1) := by decide +kernel
theorem dc_R_countsWrong_42 : decode bb_R_countsWrong 42 = .ok (.iload_n 3, 1) := by decide +kernel
theorem dc_R_countsWrong_43 : decode bb_R_countsWrong 43 = .ok (.invokevirtual 113, 3) := by decide +kernel
theorem dc_R_countsWrong_46 : decode bb_R_countsWrong 46 = .ok (.iload_n 2, 1) := by decide +kernel
theorem dc_R_countsWrong_47 : decode bb_R_countsWrong 47 = .ok (.if_icmp .eq 5, 3) := by decide +kernel
theorem dc_R_countsWrong_50 : decode bb_R_countsWrong 50 = .ok (.iconst 1, 1) := by decide +kernel
theorem dc_R_countsWrong_51 : decode bb_R_countsWrong 51 = .ok (.ireturn, 1) := by decide +kernel
theorem dc_R_countsWrong_52 : decode bb_R_countsWrong 52 = .ok (.aload_n 0, 1) := by decide +kernel
theorem dc_R_countsWrong_53 : decode bb_R_countsWrong 53 = .ok (.iload_n 1, 1) := by decide +kernel
theorem dc_R_countsWrong_54 : decode bb_R_countsWrong 54 = .ok (.invokevirtual 116, 3) := by decide +kernel
theorem dc_R_countsWrong_57 : decode bb_R_countsWrong 57 = .ok (.istore 4, 2) := by decide +kernel
theorem dc_R_countsWrong_59 : decode bb_R_countsWrong 59 = .ok (.aload_n 0, 1) := by decide +kernel
theorem dc_R_countsWrong_60 : decode bb_R_countsWrong 60 = .ok (.getfield 40, 3) := by decide +kernel
theorem dc_R_countsWrong_63 : decode bb_R_countsWrong 63 = .ok (.bipush 8, 2) := by decide +kernel
theorem dc_R_countsWrong_65 : decode bb_R_countsWrong 65 = .ok (.iload_n 1, 1) := by decide +kernel
theorem dc_R_countsWrong_66 : decode bb_R_countsWrong 66 = .ok (.imul, 1) := by decide +kernel
theorem dc_R_countsWrong_67 : decode bb_R_countsWrong 67 = .ok (.iconst 2, 1) := by decide +kernel
theorem dc_R_countsWrong_68 : decode bb_R_countsWrong 68 = .ok (.iadd, 1) := by decide +kernel
theorem dc_R_countsWrong_69 : decode bb_R_countsWrong 69 = .ok (.iaload, 1) := by decide +kernel
theorem dc_R_countsWrong_70 : decode bb_R_countsWrong 70 = .ok (.istore 5, 2) := by decide +kernel
theorem dc_R_countsWrong_72 : decode bb_R_countsWrong 72 = .ok (.aload_n 0, 1) := by decide +kernel
theorem dc_R_countsWrong_73 : decode bb_R_countsWrong 73 = .ok (.iload 5, 2) := by decide +kernel
theorem dc_R_countsWrong_75 : decode bb_R_countsWrong 75 = .ok (.iconst 0, 1) := by decide +kernel
theorem dc_R_countsWrong_76 : decode bb_R_countsWrong 76 = .ok (.invokevirtual 106, 3) := by decide +kernel
theorem dc_R_countsWrong_79 : decode bb_R_countsWrong 79 = .ok (.istore 6, 2) := by decide +kernel
theorem dc_R_countsWrong_81 : decode bb_R_countsWrong 81 = .ok (.iload 4, 2) := by decide +kernel
theorem dc_R_countsWrong_83 : decode bb_R_countsWrong 83 = .ok (.ifCond .le 10, 3) := by decide +kernel
theorem dc_R_countsWrong_86 : decode bb_R_countsWrong 86 = .ok (.iload 6, 2) := by decide +kernel
theorem dc_R_countsWrong_88 : decode bb_R_countsWrong 88 = .ok (.ifCond .ne 5, 3) := by decide +kernel
theorem dc_R_countsWrong_91 : decode bb_R_countsWrong 91 = .ok (.iconst 1, 1) := by decide +kernel
theorem dc_R_countsWrong_92 : decode bb_R_countsWrong 92 = .ok (.ireturn, 1) := by decide +kernel
theorem dc_R_countsWrong_93 : decode bb_R_countsWrong 93 = .ok (.iconst 0, 1) := by decide +kernel
theorem dc_R_countsWrong_94 : decode bb_R_countsWrong 94 = .ok (.istore 7, 2) := by decide +kernel
theorem dc_R_countsWrong_96 : decode bb_R_countsWrong 96 = .ok (.iload 7, 2) := by decide +kernel
theorem dc_R_countsWrong_98 : decode bb_R_countsWrong 98 = .ok (.iload 6, 2) := by decide +kernel
theorem dc_R_countsWrong_100 : decode bb_R_countsWrong 100 = .ok (.if_icmp .ge 28, 3) := by decide +kernel
theorem dc_R_countsWrong_103 : decode bb_R_countsWrong 103 = .ok (.aload_n 0, 1) := by decide +kernel
theorem dc_R_countsWrong_104 : decode bb_R_countsWrong 104 = .ok (.iload 5, 2) := by decide +kernel
theorem dc_R_countsWrong_106 : decode bb_R_countsWrong 106 = .ok (.iconst 1, 1) := by decide +kernel
theorem dc_R_countsWrong_107 : decode bb_R_countsWrong 107 = .ok (.iconst 3, 1) := by decide +kernel
theorem dc_R_countsWrong_108 : decode bb_R_countsWrong 108 = .ok (.iload 7, 2) := by decide +kernel
theorem dc_R_countsWrong_110 : decode bb_R_countsWrong 110 = .ok (.imul, 1) := by decide +kernel
theorem dc_R_countsWrong_111 : decode bb_R_countsWrong 111 = .ok (.iadd, 1) := by decide +kernel
theorem dc_R_countsWrong_112 : decode bb_R_countsWrong 112 = .ok (.invokevirtual 106, 3) := by decide +kernel
theorem dc_R_countsWrong_115 : decode bb_R_countsWrong 115 = .ok (.iload 4, 2) := by decide +kernel
theorem dc_R_countsWrong_117 : decode bb_R_countsWrong 117 = .ok (.if_icmp .le 5, 3) := by decide +kernel
theorem dc_R_countsWrong_120 : decode bb_R_countsWrong 120 = .ok (.iconst 1, 1) := by decide +kernel
theorem dc_R_countsWrong_121 : decode bb_R_countsWrong 121 = .ok (.ireturn, 1) := by decide +kernel
theorem dc_R_countsWrong_122 : decode bb_R_countsWrong 122 = .ok (.iinc 7 1, 3) := by decide +kernel
theorem dc_R_countsWrong_125 : decode bb_R_countsWrong 125 = .ok (.goto (-29), 3) := by decide +kernel
theorem dc_R_countsWrong_128 : decode bb_R_countsWrong 128 = .ok (.iconst 0, 1) := by decide +kernel
theorem dc_R_countsWrong_129 : decode bb_R_countsWrong 129 = .ok (.istore 7, 2) := by decide +kernel
theorem dc_R_countsWrong_131 : decode bb_R_countsWrong 131 = .ok (.iconst 1, 1) := by decide +kernel
theorem dc_R_countsWrong_132 : decode bb_R_countsWrong 132 = .ok (.istore 8, 2) := by decide +kernel
theorem dc_R_countsWrong_134 : decode bb_R_countsWrong 134 = .ok (.iload 8, 2) := by decide +kernel
theorem dc_R_countsWrong_136 : decode bb_R_countsWrong 136 = .ok (.iload 4, 2) := by decide +kernel
theorem dc_R_countsWrong_138 : decode bb_R_countsWrong 138 = .ok (.if_icmp .gt 21, 3) := by decide +kernel
theorem dc_R_countsWrong_141 : decode bb_R_countsWrong 141 = .ok (.iload 7, 2) := by decide +kernel
theorem dc_R_countsWrong_143 : decode bb_R_countsWrong 143 = .ok (.aload_n 0, 1) := by decide +kernel
theorem dc_R_countsWrong_144 : decode bb_R_countsWrong 144 = .ok (.iload_n 1, 1) := by decide +kernel
theorem dc_R_countsWrong_145 : decode bb_R_countsWrong 145 = .ok (.iload 8, 2) := by decide +kernel
theorem dc_R_countsWrong_147 : decode bb_R_countsWrong 147 = .ok (.invokevirtual 119, 3) := by decide +kernel
theorem dc_R_countsWrong_150 : decode bb_R_countsWrong 150 = .ok (.iadd, 1) := by decide +kernel
theorem dc_R_countsWrong_151 : decode bb_R_countsWrong 151 = .ok (.istore 7, 2) := by decide +kernel
theorem dc_R_countsWrong_153 : decode bb_R_countsWrong 153 = .ok (.iinc 8 1, 3) := by decide +kernel
theorem dc_R_countsWrong_156 : decode bb_R_countsWrong 156 = .ok (.goto (-22), 3) := by decide +kernel
theorem dc_R_countsWrong_159 : decode bb_R_countsWrong 159 = .ok (.aload_n 0, 1) := by decide +kernel
theorem dc_R_countsWrong_160 : decode bb_R_countsWrong 160 = .ok (.getfield 40, 3) := by decide +kernel
theorem dc_R_countsWrong_163 : decode bb_R_countsWrong 163 = .ok (.bipush 8, 2) := by decide +kernel
theorem dc_R_countsWrong_165 : decode bb_R_countsWrong 165 = .ok (.iload_n 1, 1) := by decide +kernel
theorem dc_R_countsWrong_166 : decode bb_R_countsWrong 166 = .ok (.imul, 1) := by decide +kernel
theorem dc_R_countsWrong_167 : decode bb_R_countsWrong 167 = .ok (.bipush 6, 2) := by decide +kernel
theorem dc_R_countsWrong_169 : decode bb_R_countsWrong 169 = .ok (.iadd, 1) := by decide +kernel
theorem dc_R_countsWrong_170 : decode bb_R_countsWrong 170 = .ok (.iaload, 1) := by decide +kernel
theorem dc_R_countsWrong_171 : decode bb_R_countsWrong 171 = .ok (.istore 8, 2) := by decide +kernel
theorem dc_R_countsWrong_173 : decode bb_R_countsWrong 173 = .ok (.iload 7, 2) := by decide +kernel
theorem dc_R_countsWrong_175 : decode bb_R_countsWrong 175 = .ok (.iload_n 2, 1) := by decide +kernel
theorem dc_R_countsWrong_176 : decode bb_R_countsWrong 176 = .ok (.if_icmp .eq 7, 3) := by decide +kernel
theorem dc_R_countsWrong_179 : decode bb_R_countsWrong 179 = .ok (.iconst 1, 1) := by decide +kernel
theorem dc_R_countsWrong_180 : decode bb_R_countsWrong 180 = .ok (.goto 4, 3) := by decide +kernel
theorem dc_R_countsWrong_183 : decode bb_R_countsWrong 183 = .ok (.iconst 0, 1) := by decide +kernel
theorem dc_R_countsWrong_184 : decode bb_R_countsWrong 184 = .ok (.istore 9, 2) := by decide +kernel
theorem dc_R_countsWrong_186 : decode bb_R_countsWrong 186 = .ok (.iload 8, 2) := by decide +kernel
theorem dc_R_countsWrong_188 : decode bb_R_countsWrong 188 = .ok (.ifCond .ge 7, 3) := by decide +kernel
theorem dc_R_countsWrong_191 : decode bb_R_countsWrong 191 = .ok (.iconst 0, 1) := by decide +kernel
theorem dc_R_countsWrong_192 : decode bb_R_countsWrong 192 = .ok (.goto 10, 3) := by decide +kernel
theorem dc_R_countsWrong_195 : decode bb_R_countsWrong 195 = .ok (.aload_n 0, 1) := by decide +kernel
theorem dc_R_countsWrong_196 : decode bb_R_countsWrong 196 = .ok (.iload 8, 2) := by decide +kernel
theorem dc_R_countsWrong_198 : decode bb_R_countsWrong 198 = .ok (.iconst 0, 1) := by decide +kernel
theorem dc_R_countsWrong_199 : decode bb_R_countsWrong 199 = .ok (.invokevirtual 106, 3) := by decide +kernel
theorem dc_R_countsWrong_202 : decode bb_R_countsWrong 202 = .ok (.istore 10, 2) := by decide +kernel
theorem dc_R_countsWrong_204 : decode bb_R_countsWrong 204 = .ok (.iconst 0, 1) := by decide +kernel
theorem dc_R_countsWrong_205 : decode bb_R_countsWrong 205 = .ok (.istore 11, 2) := by decide +kernel
theorem dc_R_countsWrong_207 : decode bb_R_countsWrong 207 = .ok (.iload 11, 2) := by decide +kernel
theorem dc_R_countsWrong_209 : decode bb_R_countsWrong 209 = .ok (.iload 10, 2) := by decide +kernel
theorem dc_R_countsWrong_211 : decode bb_R_countsWrong 211 = .ok (.if_icmp .ge 35, 3) := by decide +kernel
theorem dc_R_countsWrong_214 : decode bb_R_countsWrong 214 = .ok (.iload 9, 2) := by decide +kernel
theorem dc_R_countsWrong_216 : decode bb_R_countsWrong 216 = .ok (.ifCond .ne 17, 3) := by decide +kernel
theorem dc_R_countsWrong_219 : decode bb_R_countsWrong 219 = .ok (.aload_n 0, 1) := by decide +kernel
theorem dc_R_countsWrong_220 : decode bb_R_countsWrong 220 = .ok (.iload 8, 2) := by decide +kernel
theorem dc_R_countsWrong_222 : decode bb_R_countsWrong 222 = .ok (.iconst 1, 1) := by decide +kernel
theorem dc_R_countsWrong_223 : decode bb_R_countsWrong 223 = .ok (.iload 11, 2) := by decide +kernel
theorem dc_R_countsWrong_225 : decode bb_R_countsWrong 225 = .ok (.iadd, 1) := by decide +kernel
theorem dc_R_countsWrong_226 : decode bb_R_countsWrong 226 = .ok (.invokevirtual 106, 3) := by decide +kernel
theorem dc_R_countsWrong_229 : decode bb_R_countsWrong 229 = .ok (.iload_n 2, 1) := by decide +kernel
theorem dc_R_countsWrong_230 : decode bb_R_countsWrong 230 = .ok (.if_icmp .le 7, 3) := by decide +kernel
theorem dc_R_countsWrong_233 : decode bb_R_countsWrong 233 = .ok (.iconst 1, 1) := by decide +kernel
theorem dc_R_countsWrong_234 : decode bb_R_countsWrong 234 = .ok (.goto 4, 3) := by decide +kernel
theorem dc_R_countsWrong_237 : decode bb_R_countsWrong 237 = .ok (.iconst 0, 1) := by decide +kernel
theorem dc_R_countsWrong_238 : decode bb_R_countsWrong 238 = .ok (.istore 9, 2) := by decide +kernel
theorem dc_R_countsWrong_240 : decode bb_R_countsWrong 240 = .ok (.iinc 11 1, 3) := by decide +kernel
theorem dc_R_countsWrong_243 : decode bb_R_countsWrong 243 = .ok (.goto (-36), 3) := by decide +kernel
theorem dc_R_countsWrong_246 : decode bb_R_countsWrong 246 = .ok (.iload 9, 2) := by decide +kernel
theorem dc_R_countsWrong_248 : decode bb_R_countsWrong 248 = .ok (.ireturn, 1) := by decide +kernel
theorem dc_R_sampleCount_0 : decode bb_R_sampleCount 0 = .ok (.aload_n 0, 1) := by decide +kernel
theorem dc_R_sampleCount_1 : decode bb_R_sampleCount 1 = .ok (.aload_n 0, 1) := by decide +kernel
theorem dc_R_sampleCount_2 : decode bb_R_sampleCount 2 = .ok (.getfield 40, 3) := by decide +kernel
theorem dc_R_sampleCount_5 : decode bb_R_sampleCount 5 = .ok (.bipush 8, 2) := by decide +kernel
theorem dc_R_sampleCount_7 : decode bb_R_sampleCount 7 = .ok (.iload_n 1, 1) := by decide +kernel
theorem dc_R_sampleCount_8 : decode bb_R_sampleCount 8 = .ok (.imul, 1) := by decide +kernel
theorem dc_R_sampleCount_9 : decode bb_R_sampleCount 9 = .ok (.iconst 3, 1) := by decide +kernel
theorem dc_R_sampleCount_10 : decode bb_R_sampleCount 10 = .ok (.iadd, 1) := by decide +kernel
theorem dc_R_sampleCount_11 : decode bb_R_sampleCount 11 = .ok (.iaload, 1) := by decide +kernel
theorem dc_R_sampleCount_12 : decode bb_R_sampleCount 12 = .ok (.iconst 1, 1) := by decide +kernel
theorem dc_R_sampleCount_13 : decode bb_R_sampleCount 13 = .ok (.invokevirtual 106, 3) := by decide +kernel
theorem dc_R_sampleCount_16 : decode bb_R_sampleCount 16 = .ok (.ireturn, 1) := by decide +kernel
theorem dc_R_total_0 : decode bb_R_total 0 = .ok (.iconst 0, 1) := by decide +kernel
theorem dc_R_total_1 : decode bb_R_total 1 = .ok (.istore_n 2, 1) := by decide +kernel
theorem dc_R_total_2 : decode bb_R_total 2 = .ok (.iconst 0, 1) := by decide +kernel
theorem dc_R_total_3 : decode bb_R_total 3 = .ok (.istore_n 3, 1) := by decide +kernel
theorem dc_R_total_4 : decode bb_R_total 4 = .ok (.iload_n 3, 1) := by decide +kernel
theorem dc_R_total_5 : decode bb_R_total 5 = .ok (.aload_n 0, 1) := by decide +kernel
theorem dc_R_total_6 : decode bb_R_total 6 = .ok (.iload_n 1, 1) := by decide +kernel
theorem dc_R_total_7 : decode bb_R_total 7 = .ok (.iconst 0, 1) := by decide +kernel
theorem dc_R_total_8 : decode bb_R_total 8 = .ok (.invokevirtual 106, 3) := by decide +kernel
theorem dc_R_total_11 : decode bb_R_total 11 = .ok (.if_icmp .ge 22, 3) := by decide +kernel
theorem dc_R_total_14 : decode bb_R_total 14 = .ok (.iload_n 2, 1) := by decide +kernel
theorem dc_R_total_15 : decode bb_R_total 15 = .ok (.aload_n 0, 1) := by decide +kernel
theorem dc_R_total_16 : decode bb_R_total 16 = .ok (.iload_n 1, 1) := by decide +kernel
theorem dc_R_total_17 : decode bb_R_total 17 = .ok (.iconst 1, 1) := by decide +kernel
theorem dc_R_total_18 : decode bb_R_total 18 = .ok (.iconst 2, 1) := by decide +kernel
theorem dc_R_total_19 : decode bb_R_total 19 = .ok (.iload_n 3, 1) := by decide +kernel
theorem dc_R_total_20 : decode bb_R_total 20 = .ok (.imul, 1) := by decide +kernel
theorem dc_R_total_21 : decode bb_R_total 21 = .ok (.iadd, 1) := by decide +kernel
theorem dc_R_total_22 : decode bb_R_total 22 = .ok (.invokevirtual 106, 3) := by decide +kernel
theorem dc_R_total_25 : decode bb_R_total 25 = .ok (.iadd, 1) := by decide +kernel
theorem dc_R_total_26 : decode bb_R_total 26 = .ok (.istore_n 2, 1) := by decide +kernel
theorem dc_R_total_27 : decode bb_R_total 27 = .ok (.iinc 3 1, 3) := by decide +kernel
theorem dc_R_total_30 : decode bb_R_total 30 = .ok (.goto (-26), 3) := by decide +kernel
theorem dc_R_total_33 : decode bb_R_total 33 = .ok (.iload_n 2, 1) := by decide +kernel
theorem dc_R_total_34 : decode bb_R_total 34 = .ok (.ireturn, 1) := by decide +kernel
theorem dc_R_chunkCount_0 : decode bb_R_chunkCount 0 = .ok (.aload_n 0, 1) := by decide +kernel
theorem dc_R_chunkCount_1 : decode bb_R_chunkCount 1 = .ok (.iload_n 1, 1) := by decide +kernel
theorem dc_R_chunkCount_2 : decode bb_R_chunkCount 2 = .ok (.invokevirtual 122, 3) := by decide +kernel
theorem dc_R_chunkCount_5 : decode bb_R_chunkCount 5 = .ok (.istore_n 2, 1) := by decide +kernel
theorem dc_R_chunkCount_6 : decode bb_R_chunkCount 6 = .ok (.aload_n 0, 1) := by decide +kernel
theorem dc_R_chunkCount_7 : decode bb_R_chunkCount 7 = .ok (.iload_n 2, 1) := by decide +kernel
theorem dc_R_chunkCount_8 : decode bb_R_chunkCount 8 = .ok (.iconst 0, 1) := by decide +kernel
theorem dc_R_chunkCount_9 : decode bb_R_chunkCount 9 = .ok (.invokevirtual 106, 3) := by decide +kernel
theorem dc_R_chunkCount_12 : decode bb_R_chunkCount 12 = .ok (.ireturn, 1) := by decide +kernel
theorem dc_R_placesBox_0 : decode bb_R_placesBox 0 = .ok (.aload_n 0, 1) := by decide +kernel
theorem dc_R_placesBox_1 : decode bb_R_placesBox 1 = .ok (.getfield 40, 3) := by decide +kernel
theorem dc_R_placesBox_4 : decode bb_R_placesBox 4 = .ok (.bipush 8, 2) := by decide +kernel
theorem dc_R_placesBox_6 : decode bb_R_placesBox 6 = .ok (.iload_n 1, 1) := by decide +kernel
theorem dc_R_placesBox_7 : decode bb_R_placesBox 7 = .ok (.imul, 1) := by decide +kernel
theorem dc_R_placesBox_8 : decode bb_R_placesBox 8 = .ok (.iconst 4, 1) := by decide +kernel
theorem dc_R_placesBox_9 : decode bb_R_placesBox 9 = .ok (.iadd, 1) := by decide +kernel
theorem dc_R_placesBox_10 : decode bb_R_placesBox 10 = .ok (.iaload, 1) := by decide +kernel
theorem dc_R_placesBox_11 : decode bb_R_placesBox 11 = .ok (.istore_n 2, 1) := by decide +kernel
theorem dc_R_placesBox_12 : decode bb_R_placesBox 12 = .ok (.iload_n 2, 1) := by decide +kernel
theorem dc_R_placesBox_13 : decode bb_R_placesBox 13 = .ok (.ifCond .lt 7, 3) := by decide +kernel
theorem dc_R_placesBox_16 : decode bb_R_placesBox 16 = .ok (.iload_n 2, 1) := by decide +kernel
theorem dc_R_placesBox_17 : decode bb_R_placesBox 17 = .ok (.goto 14, 3) := by decide +kernel
theorem dc_R_placesBox_20 : decode bb_R_placesBox 20 = .ok (.aload_n 0, 1) := by decide +kernel
theorem dc_R_placesBox_21 : decode bb_R_placesBox 21 = .ok (.getfield 40, 3) := by decide +kernel
theorem dc_R_placesBox_24 : decode bb_R_placesBox 24 = .ok (.bipush 8, 2) := by decide +kernel
theorem dc_R_placesBox_26 : decode bb_R_placesBox 26 = .ok (.iload_n 1, 1) := by decide +kernel
theorem dc_R_placesBox_27 : decode bb_R_placesBox 27 = .ok (.imul, 1) := by decide +kernel
theorem dc_R_placesBox_28 : decode bb_R_placesBox 28 = .ok (.iconst 5, 1) := by decide +kernel
theorem dc_R_placesBox_29 : decode bb_R_placesBox 29 = .ok (.iadd, 1) := by decide +kernel
theorem dc_R_placesBox_30 : decode bb_R_placesBox 30 = .ok (.iaload, 1) := by decide +kernel
theorem dc_R_placesBox_31 : decode bb_R_placesBox 31 = .ok (.ireturn, 1) := by decide +kernel
theorem dc_R_many_0 : decode bb_R_many 0 = .ok (.aload_n 0, 1) := by decide +kernel
theorem dc_R_many_1 : decode bb_R_many 1 = .ok (.iload_n 1, 1) := by decide +kernel
theorem dc_R_many_2 : decode bb_R_many 2 = .ok (.iload_n 2, 1) := by decide +kernel
theorem dc_R_many_3 : decode bb_R_many 3 = .ok (.invokevirtual 125, 3) := by decide +kernel
theorem dc_R_many_6 : decode bb_R_many 6 = .ok (.istore_n 3, 1) := by decide +kernel
theorem dc_R_many_7 : decode bb_R_many 7 = .ok (.aload_n 0, 1) := by decide +kernel
theorem dc_R_many_8 : decode bb_R_many 8 = .ok (.aload_n 0, 1) := by decide +kernel
theorem dc_R_many_9 : decode bb_R_many 9 = .ok (.getfield 40, 3) := by decide +kernel
theorem dc_R_many_12 : decode bb_R_many 12 = .ok (.bipush 8, 2) := by decide +kernel
theorem dc_R_many_14 : decode bb_R_many 14 = .ok (.iload_n 1, 1) := by decide +kernel
theorem dc_R_many_15 : decode bb_R_many 15 = .ok (.imul, 1) := by decide +kernel
theorem dc_R_many_16 : decode bb_R_many 16 = .ok (.iconst 2, 1) := by decide +kernel
theorem dc_R_many_17 : decode bb_R_many 17 = .ok (.iadd, 1) := by decide +kernel
theorem dc_R_many_18 : decode bb_R_many 18 = .ok (.iaload, 1) := by decide +kernel
theorem dc_R_many_19 : decode bb_R_many 19 = .ok (.iconst 2, 1) := by decide +kernel
theorem dc_R_many_20 : decode bb_R_many 20 = .ok (.iconst 3, 1) := by decide +kernel
theorem dc_R_many_21 : decode bb_R_many 21 = .ok (.iload_n 3, 1) := by decide +kernel
theorem dc_R_many_22 : decode bb_R_many 22 = .ok (.imul, 1) := by decide +kernel
theorem dc_R_many_23 : decode bb_R_many 23 = .ok (.iadd, 1) := by decide +kernel
theorem dc_R_many_24 : decode bb_R_many 24 = .ok (.invokevirtual 106, 3) := by decide +kernel
theorem dc_R_many_27 : decode bb_R_many 27 = .ok (.ireturn, 1) := by decide +kernel
theorem dc_R_rowOf_0 : decode bb_R_rowOf 0 = .ok (.aload_n 0, 1) := by decide +kernel
theorem dc_R_rowOf_1 : decode bb_R_rowOf 1 = .ok (.getfield 40, 3) := by decide +kernel
theorem dc_R_rowOf_4 : decode bb_R_rowOf 4 = .ok (.bipush 8, 2) := by decide +kernel
theorem dc_R_rowOf_6 : decode bb_R_rowOf 6 = .ok (.iload_n 1, 1) := by decide +kernel
theorem dc_R_rowOf_7 : decode bb_R_rowOf 7 = .ok (.imul, 1) := by decide +kernel
theorem dc_R_rowOf_8 : decode bb_R_rowOf 8 = .ok (.iconst 2, 1) := by decide +kernel
theorem dc_R_rowOf_9 : decode bb_R_rowOf 9 = .ok (.iadd, 1) := by decide +kernel
theorem dc_R_rowOf_10 : decode bb_R_rowOf 10 = .ok (.iaload, 1) := by decide +kernel
theorem dc_R_rowOf_11 : decode bb_R_rowOf 11 = .ok (.istore_n 3, 1) := by decide +kernel
theorem dc_R_rowOf_12 : decode bb_R_rowOf 12 = .ok (.iconst 0, 1) := by decide +kernel
theorem dc_R_rowOf_13 : decode bb_R_rowOf 13 = .ok (.istore 4, 2) := by decide +kernel
theorem dc_R_rowOf_15 : decode bb_R_rowOf 15 = .ok (.iconst 0, 1) := by decide +kernel
theorem dc_R_rowOf_16 : decode bb_R_rowOf 16 = .ok (.istore 5, 2) := by decide +kernel
theorem dc_R_rowOf_18 : decode bb_R_rowOf 18 = .ok (.iload 5, 2) := by decide +kernel
theorem dc_R_rowOf_20 : decode bb_R_rowOf 20 = .ok (.aload_n 0, 1) := by decide +kernel
theorem dc_R_rowOf_21 : decode bb_R_rowOf 21 = .ok (.iload_n 3, 1) := by decide +kernel
theorem dc_R_rowOf_22 : decode bb_R_rowOf 22 = .ok (.iconst 0, 1) := by decide +kernel
theorem dc_R_rowOf_23 : decode bb_R_rowOf 23 = .ok (.invokevirtual 106, 3) := by decide +kernel
theorem dc_R_rowOf_26 : decode bb_R_rowOf 26 = .ok (.if_icmp .ge 33, 3) := by decide +kernel
theorem dc_R_rowOf_29 : decode bb_R_rowOf 29 = .ok (.aload_n 0, 1) := by decide +kernel
theorem dc_R_rowOf_30 : decode bb_R_rowOf 30 = .ok (.iload_n 3, 1) := by decide +kernel
theorem dc_R_rowOf_31 : decode bb_R_rowOf 31 = .ok (.iconst 1, 1) := by decide +kernel
theorem dc_R_rowOf_32 : decode bb_R_rowOf 32 = .ok (.iconst 3, 1) := by decide +kernel
theorem dc_R_rowOf_33 : decode bb_R_rowOf 33 = .ok (.iload 5, 2) := by decide +kernel
theorem dc_R_rowOf_35 : decode bb_R_rowOf 35 = .ok (.imul, 1) := by decide +kernel
theorem dc_R_rowOf_36 : decode bb_R_rowOf 36 = .ok (.iadd, 1) := by decide +kernel
theorem dc_R_rowOf_37 : decode bb_R_rowOf 37 = .ok (.invokevirtual 106, 3) := by decide +kernel
theorem dc_R_rowOf_40 : decode bb_R_rowOf 40 = .ok (.iload_n 2, 1) := by decide +kernel
theorem dc_R_rowOf_41 : decode bb_R_rowOf 41 = .ok (.if_icmp .gt 8, 3) := by decide +kernel
theorem dc_R_rowOf_44 : decode bb_R_rowOf 44 = .ok (.iload 5, 2) := by decide +kernel
theorem dc_R_rowOf_46 : decode bb_R_rowOf 46 = .ok (.goto 5, 3) := by decide +kernel
theorem dc_R_rowOf_49 : decode bb_R_rowOf 49 = .ok (.iload 4, 2) := by decide +kernel
theorem dc_R_rowOf_51 : decode bb_R_rowOf 51 = .ok (.istore 4, 2) := by decide +kernel
theorem dc_R_rowOf_53 : decode bb_R_rowOf 53 = .ok (.iinc 5 1, 3) := by decide +kernel
theorem dc_R_rowOf_56 : decode bb_R_rowOf 56 = .ok (.goto (-38), 3) := by decide +kernel
theorem dc_R_rowOf_59 : decode bb_R_rowOf 59 = .ok (.iload 4, 2) := by decide +kernel
theorem dc_R_rowOf_61 : decode bb_R_rowOf 61 = .ok (.ireturn, 1) := by decide +kernel
theorem dc_R_settle_0 : decode bb_R_settle 0 = .ok (.iconst 1, 1) := by decide +kernel
theorem dc_R_settle_1 : decode bb_R_settle 1 = .ok (.istore_n 2, 1) := by decide +kernel
theorem dc_R_settle_2 : decode bb_R_settle 2 = .ok (.iconst 0, 1) := by decide +kernel
theorem dc_R_settle_3 : decode bb_R_settle 3 = .ok (.istore_n 3, 1) := by decide +kernel
theorem dc_R_settle_4 : decode bb_R_settle 4 = .ok (.iconst 1, 1) := by decide +kernel
theorem dc_R_settle_5 : decode bb_R_settle 5 = .ok (.istore 4, 2) := by decide +kernel
theorem dc_R_settle_7 : decode bb_R_settle 7 = .ok (.iload 4, 2) := by decide +kernel
theorem dc_R_settle_9 : decode bb_R_settle 9 = .ok (.aload_n 0, 1) := by decide +kernel
theorem dc_R_settle_10 : decode bb_R_settle 10 = .ok (.iload_n 1, 1) := by decide +kernel
theorem dc_R_settle_11 : decode bb_R_settle 11 = .ok (.invokevirtual 116, 3) := by decide +kernel
theorem dc_R_settle_14 : decode bb_R_settle 14 = .ok (.if_icmp .gt 107, 3) := by decide +kernel
theorem dc_R_settle_17 : decode bb_R_settle 17 = .ok (.iconst 0, 1) := by decide +kernel
theorem dc_R_settle_18 : decode bb_R_settle 18 = .ok (.istore 5, 2) := by decide +kernel
theorem dc_R_settle_20 : decode bb_R_settle 20 = .ok (.aload_n 0, 1) := by decide +kernel
theorem dc_R_settle_21 : decode bb_R_settle 21 = .ok (.iload_n 1, 1) := by decide +kernel
theorem dc_R_settle_22 : decode bb_R_settle 22 = .ok (.iload 4, 2) := by decide +kernel
theorem dc_R_settle_24 : decode bb_R_settle 24 = .ok (.invokevirtual 119, 3) := by decide +kernel
theorem dc_R_settle_27 : decode bb_R_settle 27 = .ok (.istore 6, 2) := by decide +kernel
theorem dc_R_settle_29 : decode bb_R_settle 29 = .ok (.iconst 0, 1) := by decide +kernel
theorem dc_R_settle_30 : decode bb_R_settle 30 = .ok (.istore 7, 2) := by decide +kernel
theorem dc_R_settle_32 : decode bb_R_settle 32 = .ok (.iload 7, 2) := by decide +kernel
theorem dc_R_settle_34 : decode bb_R_settle 34 = .ok (.iload 6, 2) := by decide +kernel
theorem dc_R_settle_36 : decode bb_R_settle 36 = .ok (.if_icmp .ge 23, 3) := by decide +kernel
theorem dc_R_settle_39 : decode bb_R_settle 39 = .ok (.iload 5, 2) := by decide +kernel
theorem dc_R_settle_41 : decode bb_R_settle 41 = .ok (.aload_n 0, 1) := by decide +kernel
theorem dc_R_settle_42 : decode bb_R_settle 42 = .ok (.iload_n 1, 1) := by decide +kernel
theorem dc_R_settle_43 : decode bb_R_settle 43 = .ok (.iload_n 3, 1) := by decide +kernel
theorem dc_R_settle_44 : decode bb_R_settle 44 = .ok (.invokevirtual 128, 3) := by decide +kernel
theorem dc_R_settle_47 : decode bb_R_settle 47 = .ok (.iadd, 1) := by decide +kernel
theorem dc_R_settle_48 : decode bb_R_settle 48 = .ok (.istore 5, 2) := by decide +kernel
theorem dc_R_settle_50 : decode bb_R_settle 50 = .ok (.iinc 3 1, 3) := by decide +kernel
theorem dc_R_settle_53 : decode bb_R_settle 53 = .ok (.iinc 7 1, 3) := by decide +kernel
theorem dc_R_settle_56 : decode bb_R_settle 56 = .ok (.goto (-24), 3) := by decide +kernel
theorem dc_R_settle_59 : decode bb_R_settle 59 = .ok (.aload_n 0, 1) := by decide +kernel
theorem dc_R_settle_60 : decode bb_R_settle 60 = .ok (.iload_n 1, 1) := by decide +kernel
theorem dc_R_settle_61 : decode bb_R_settle 61 = .ok (.iload 4, 2) := by decide +kernel
theorem dc_R_settle_63 : decode bb_R_settle 63 = .ok (.invokevirtual 131, 3) := by decide +kernel
theorem dc_R_settle_66 : decode bb_R_settle 66 = .ok (.istore 7, 2) := by decide +kernel
theorem dc_R_settle_68 : decode bb_R_settle 68 = .ok (.aload_n 0, 1) := by decide +kernel
theorem dc_R_settle_69 : decode bb_R_settle 69 = .ok (.getfield 43, 3) := by decide +kernel
theorem dc_R_settle_72 : decode bb_R_settle 72 = .ok (.sipush 256, 3) := by decide +kernel
theorem dc_R_settle_75 : decode bb_R_settle 75 = .ok (.iload_n 1, 1) := by decide +kernel
theorem dc_R_settle_76 : decode bb_R_settle 76 = .ok (.imul, 1) := by decide +kernel
theorem dc_R_settle_77 : decode bb_R_settle 77 = .ok (.iload 4, 2) := by decide +kernel
theorem dc_R_settle_79 : decode bb_R_settle 79 = .ok (.iadd, 1) := by decide +kernel
theorem dc_R_settle_80 : decode bb_R_settle 80 = .ok (.aload_n 0, 1) := by decide +kernel
theorem dc_R_settle_81 : decode bb_R_settle 81 = .ok (.iload 7, 2) := by decide +kernel
theorem dc_R_settle_83 : decode bb_R_settle 83 = .ok (.iload 5, 2) := by decide +kernel
theorem dc_R_settle_85 : decode bb_R_settle 85 = .ok (.invokevirtual 134, 3) := by decide +kernel
theorem dc_R_settle_88 : decode bb_R_settle 88 = .ok (.iastore, 1) := by decide +kernel
theorem dc_R_settle_89 : decode bb_R_settle 89 = .ok (.iload_n 2, 1) := by decide +kernel
theorem dc_R_settle_90 : decode bb_R_settle 90 = .ok (.ifCond .eq 23, 3) := by decide +kernel
theorem dc_R_settle_93 : decode bb_R_settle 93 = .ok (.aload_n 0, 1) := by decide +kernel
theorem dc_R_settle_94 : decode bb_R_settle 94 = .ok (.getfield 43, 3) := by decide +kernel
theorem dc_R_settle_97 : decode bb_R_settle 97 = .ok (.sipush 256, 3) := by decide +kernel
theorem dc_R_settle_100 : decode bb_R_settle 100 = .ok (.iload_n 1, 1) := by decide +kernel
theorem dc_R_settle_101 : decode bb_R_settle 101 = .ok (.imul, 1) := by decide +kernel
theorem dc_R_settle_102 : decode bb_R_settle 102 = .ok (.iload 4, 2) := by decide +kernel
theorem dc_R_settle_104 : decode bb_R_settle 104 = .ok (.iadd, 1) := by decide +kernel
theorem dc_R_settle_105 : decode bb_R_settle 105 = .ok (.iaload, 1) := by decide +kernel
theorem dc_R_settle_106 : decode bb_R_settle 106 = .ok (.ifCond .lt 7, 3) := by decide +kernel
theorem dc_R_settle_109 : decode bb_R_settle 109 = .ok (.iconst 1, 1) := by decide +kernel
theorem dc_R_settle_110 : decode bb_R_settle 110 = .ok (.goto 4, 3) := by decide +kernel
theorem dc_R_settle_113 : decode bb_R_settle 113 = .ok (.iconst 0, 1) := by decide +kernel
theorem dc_R_settle_114 : decode bb_R_settle 114 = .ok (.istore_n 2, 1) := by decide +kernel
theorem dc_R_settle_115 : decode bb_R_settle 115 = .ok (.iinc 4 1, 3) := by decide +kernel
theorem dc_R_settle_118 : decode bb_R_settle 118 = .ok (.goto (-111), 3) := by decide +kernel
theorem dc_R_settle_121 : decode bb_R_settle 121 = .ok (.iload_n 2, 1) := by decide +kernel
theorem dc_R_settle_122 : decode bb_R_settle 122 = .ok (.ireturn, 1) := by decide +kernel
theorem dc_R_sizeOf_0 : decode bb_R_sizeOf 0 = .ok (.aload_n 0, 1) := by decide +kernel
theorem dc_R_sizeOf_1 : decode bb_R_sizeOf 1 = .ok (.getfield 40, 3) := by decide +kernel
theorem dc_R_sizeOf_4 : decode bb_R_sizeOf 4 = .ok (.bipush 8, 2) := by decide +kernel
theorem dc_R_sizeOf_6 : decode bb_R_sizeOf 6 = .ok (.iload_n 1, 1) := by decide +kernel
theorem dc_R_sizeOf_7 : decode bb_R_sizeOf 7 = .ok (.imul, 1) := by decide +kernel
theorem dc_R_sizeOf_8 : decode bb_R_sizeOf 8 = .ok (.iconst 3, 1) := by decide +kernel
theorem dc_R_sizeOf_9 : decode bb_R_sizeOf 9 = .ok (.iadd, 1) := by decide +kernel
theorem dc_R_sizeOf_10 : decode bb_R_sizeOf 10 = .ok (.iaload, 1) := by decide +kernel
theorem dc_R_sizeOf_11 : decode bb_R_sizeOf 11 = .ok (.istore_n 3, 1) := by decide +kernel
theorem dc_R_sizeOf_12 : decode bb_R_sizeOf 12 = .ok (.aload_n 0, 1) := by decide +kernel
theorem dc_R_sizeOf_13 : decode bb_R_sizeOf 13 = .ok (.iload_n 3, 1) := by decide +kernel
theorem dc_R_sizeOf_14 : decode bb_R_sizeOf 14 = .ok (.iconst 0, 1) := by decide +kernel
theorem dc_R_sizeOf_15 : decode bb_R_sizeOf 15 = .ok (.invokevirtual 106, 3) := by decide +kernel
theorem dc_R_sizeOf_18 : decode bb_R_sizeOf 18 = .ok (.istore 4, 2) := by decide +kernel
theorem dc_R_sizeOf_20 : decode bb_R_sizeOf 20 = .ok (.iload 4, 2) := by decide +kernel
theorem dc_R_sizeOf_22 : decode bb_R_sizeOf 22 = .ok (.ifCond .eq 8, 3) := by decide +kernel
theorem dc_R_sizeOf_25 : decode bb_R_sizeOf 25 = .ok (.iload 4, 2) := by decide +kernel
theorem dc_R_sizeOf_27 : decode bb_R_sizeOf 27 = .ok (.goto 11, 3) := by decide +kernel
theorem dc_R_sizeOf_30 : decode bb_R_sizeOf 30 = .ok (.aload_n 0, 1) := by decide +kernel
theorem dc_R_sizeOf_31 : decode bb_R_sizeOf 31 = .ok (.iload_n 3, 1) := by decide +kernel
theorem dc_R_sizeOf_32 : decode bb_R_sizeOf 32 = .ok (.iconst 2, 1) := by decide +kernel
theorem dc_R_sizeOf_33 : decode bb_R_sizeOf 33 = .ok (.iload_n 2, 1) := by decide +kernel
theorem dc_R_sizeOf_34 : decode bb_R_sizeOf 34 = .ok (.iadd, 1) := by decide +kernel
theorem dc_R_sizeOf_35 : decode bb_R_sizeOf 35 = .ok (.invokevirtual 106, 3) := by decide +kernel
theorem dc_R_sizeOf_38 : decode bb_R_sizeOf 38 = .ok (.ireturn, 1) := by decide +kernel
theorem dc_R_chunkPlace_0 : decode bb_R_chunkPlace 0 = .ok (.aload_n 0, 1) := by decide +kernel
theorem dc_R_chunkPlace_1 : decode bb_R_chunkPlace 1 = .ok (.iload_n 1, 1) := by decide +kernel
theorem dc_R_chunkPlace_2 : decode bb_R_chunkPlace 2 = .ok (.invokevirtual 122, 3) := by decide +kernel
theorem dc_R_chunkPlace_5 : decode bb_R_chunkPlace 5 = .ok (.istore_n 3, 1) := by decide +kernel
theorem dc_R_chunkPlace_6 : decode bb_R_chunkPlace 6 = .ok (.aload_n 0, 1) := by decide +kernel
theorem dc_R_chunkPlace_7 : decode bb_R_chunkPlace 7 = .ok (.getfield 19, 3) := by decide +kernel
theorem dc_R_chunkPlace_10 : decode bb_R_chunkPlace 10 = .ok (.iload_n 3, 1) := by decide +kernel
theorem dc_R_chunkPlace_11 : decode bb_R_chunkPlace 11 = .ok (.iaload, 1) := by decide +kernel
theorem dc_R_chunkPlace_12 : decode bb_R_chunkPlace 12 = .ok (.bipush 111, 2) := by decide +kernel
theorem dc_R_chunkPlace_14 : decode bb_R_chunkPlace 14 = .ok (.if_icmp .ne 12, 3) := by decide +kernel
theorem dc_R_chunkPlace_17 : decode bb_R_chunkPlace 17 = .ok (.aload_n 0, 1) := by decide +kernel
theorem dc_R_chunkPlace_18 : decode bb_R_chunkPlace 18 = .ok (.iload_n 3, 1) := by decide +kernel
theorem dc_R_chunkPlace_19 : decode bb_R_chunkPlace 19 = .ok (.iload_n 2, 1) := by decide +kernel
theorem dc_R_chunkPlace_20 : decode bb_R_chunkPlace 20 = .ok (.invokevirtual 106, 3) := by decide +kernel
theorem dc_R_chunkPlace_23 : decode bb_R_chunkPlace 23 = .ok (.goto 26, 3) := by decide +kernel
theorem dc_R_chunkPlace_26 : decode bb_R_chunkPlace 26 = .ok (.sipush 256, 3) := by decide +kernel
theorem dc_R_chunkPlace_29 : decode bb_R_chunkPlace 29 = .ok (.aload_n 0, 1) := by decide +kernel
theorem dc_R_chunkPlace_30 : decode bb_R_chunkPlace 30 = .ok (.iload_n 3, 1) := by decide +kernel
theorem dc_R_chunkPlace_31 : decode bb_R_chunkPlace 31 = .ok (.iconst 2, 1) := by decide +kernel
theorem dc_R_chunkPlace_32 : decode bb_R_chunkPlace 32 = .ok (.iload_n 2, 1) := by decide +kernel
theorem dc_R_chunkPlace_33 : decode bb_R_chunkPlace 33 = .ok (.imul, 1) := by decide +kernel
theorem dc_R_chunkPlace_34 : decode bb_R_chunkPlace 34 = .ok (.iconst 1, 1) := by decide +kernel
theorem dc_R_chunkPlace_35 : decode bb_R_chunkPlace 35 = .ok (.isub, 1) := by decide +kernel
theorem dc_R_chunkPlace_36 : decode bb_R_chunkPlace 36 = .ok (.invokevirtual 106, 3) := by decide +kernel
theorem dc_R_chunkPlace_39 : decode bb_R_chunkPlace 39 = .ok (.imul, 1) := by decide +kernel
theorem dc_R_chunkPlace_40 : decode bb_R_chunkPlace 40 = .ok (.aload_n 0, 1) := by decide +kernel
theorem dc_R_chunkPlace_41 : decode bb_R_chunkPlace 41 = .ok (.iload_n 3, 1) := by decide +kernel
theorem dc_R_chunkPlace_42 : decode bb_R_chunkPlace 42 = .ok (.iconst 2, 1) := by decide +kernel
theorem dc_R_chunkPlace_43 : decode bb_R_chunkPlace 43 = .ok (.iload_n 2, 1) := by decide +kernel
theorem dc_R_chunkPlace_44 : decode bb_R_chunkPlace 44 = .ok (.imul, 1) := by decide +kernel
theorem dc_R_chunkPlace_45 : decode bb_R_chunkPlace 45 = .ok (.invokevirtual 106, 3) := by decide +kernel
theorem dc_R_chunkPlace_48 : decode bb_R_chunkPlace 48 = .ok (.iadd, 1) := by decide +kernel
theorem dc_R_chunkPlace_49 : decode bb_R_chunkPlace 49 = .ok (.ireturn, 1) := by decide +kernel
theorem dc_R_dataBox_0 : decode bb_R_dataBox 0 = .ok (.iconst 0, 1) := by decide +kernel
theorem dc_R_dataBox_1 : decode bb_R_dataBox 1 = .ok (.istore_n 3, 1) := by decide +kernel
theorem dc_R_dataBox_2 : decode bb_R_dataBox 2 = .ok (.iload_n 3, 1) := by decide +kernel
theorem dc_R_dataBox_3 : decode bb_R_dataBox 3 = .ok (.aload_n 0, 1) := by decide +kernel
theorem dc_R_dataBox_4 : decode bb_R_dataBox 4 = .ok (.getfield 64, 3) := by decide +kernel
theorem dc_R_dataBox_7 : decode bb_R_dataBox 7 = .ok (.if_icmp .ge 67, 3) := by decide +kernel
theorem dc_R_dataBox_10 : decode bb_R_dataBox 10 = .ok (.aload_n 0, 1) := by decide +kernel
theorem dc_R_dataBox_11 : decode bb_R_dataBox 11 = .ok (.getfield 25, 3) := by decide +kernel
theorem dc_R_dataBox_14 : decode bb_R_dataBox 14 = .ok (.iload_n 3, 1) := by decide +kernel
theorem dc_R_dataBox_15 : decode bb_R_dataBox 15 = .ok (.iaload, 1) := by decide +kernel
theorem dc_R_dataBox_16 : decode bb_R_dataBox 16 = .ok (.ifCond .ne 52, 3) := by decide +kernel
theorem dc_R_dataBox_19 : decode bb_R_dataBox 19 = .ok (.aload_n 0, 1) := by decide +kernel
theorem dc_R_dataBox_20 : decode bb_R_dataBox 20 = .ok (.getfield 19, 3) := by decide +kernel
theorem dc_R_dataBox_23 : decode bb_R_dataBox 23 = .ok (.iload_n 3, 1) := by decide +kernel
theorem dc_R_dataBox_24 : decode bb_R_dataBox 24 = .ok (.iaload, 1) := by decide +kernel
theorem dc_R_dataBox_25 : decode bb_R_dataBox 25 = .ok (.bipush 68, 2) := by decide +kernel
theorem dc_R_dataBox_27 : decode bb_R_dataBox 27 = .ok (.if_icmp .ne 41, 3) := by decide +kernel
theorem dc_R_dataBox_30 : decode bb_R_dataBox 30 = .ok (.aload_n 0, 1) := by decide +kernel
theorem dc_R_dataBox_31 : decode bb_R_dataBox 31 = .ok (.getfield 13, 3) := by decide +kernel
theorem dc_R_dataBox_34 : decode bb_R_dataBox 34 = .ok (.iload_n 3, 1) := by decide +kernel
theorem dc_R_dataBox_35 : decode bb_R_dataBox 35 = .ok (.iaload, 1) := by decide +kernel
theorem dc_R_dataBox_36 : decode bb_R_dataBox 36 = .ok (.aload_n 0, 1) := by decide +kernel
theorem dc_R_dataBox_37 : decode bb_R_dataBox 37 = .ok (.getfield 22, 3) := by decide +kernel
theorem dc_R_dataBox_40 : decode bb_R_dataBox 40 = .ok (.iload_n 3, 1) := by decide +kernel
theorem dc_R_dataBox_41 : decode bb_R_dataBox 41 = .ok (.iaload, 1) := by decide +kernel
theorem dc_R_dataBox_42 : decode bb_R_dataBox 42 = .ok (.iadd, 1) := by decide +kernel
theorem dc_R_dataBox_43 : decode bb_R_dataBox 43 = .ok (.iload_n 1, 1) := by decide +kernel
theorem dc_R_dataBox_44 : decode bb_R_dataBox 44 = .ok (.if_icmp .gt 24, 3) := by decide +kernel
theorem dc_R_dataBox_47 : decode bb_R_dataBox 47 = .ok (.iload_n 1, 1) := by decide +kernel
theorem dc_R_dataBox_48 : decode bb_R_dataBox 48 = .ok (.iload_n 2, 1) := by decide +kernel
theorem dc_R_dataBox_49 : decode bb_R_dataBox 49 = .ok (.iadd, 1) := by decide +kernel
theorem dc_R_dataBox_50 : decode bb_R_dataBox 50 = .ok (.aload_n 0, 1) := by decide +kernel
theorem dc_R_dataBox_51 : decode bb_R_dataBox 51 = .ok (.getfield 13, 3) := by decide +kernel
theorem dc_R_dataBox_54 : decode bb_R_dataBox 54 = .ok (.iload_n 3, 1) := by decide +kernel
theorem dc_R_dataBox_55 : decode bb_R_dataBox 55 = .ok (.iaload, 1) := by decide +kernel
theorem dc_R_dataBox_56 : decode bb_R_dataBox 56 = .ok (.aload_n 0, 1) := by decide +kernel
theorem dc_R_dataBox_57 : decode bb_R_dataBox 57 = .ok (.getfield 16, 3) := by decide +kernel
theorem dc_R_dataBox_60 : decode bb_R_dataBox 60 = .ok (.iload_n 3, 1) := by decide +kernel
theorem dc_R_dataBox_61 : decode bb_R_dataBox 61 = .ok (.iaload, 1) := by decide +kernel
theorem dc_R_dataBox_62 : decode bb_R_dataBox 62 = .ok (.iadd, 1) := by decide +kernel
theorem dc_R_dataBox_63 : decode bb_R_dataBox 63 = .ok (.if_icmp .gt 5, 3) := by decide +kernel
theorem dc_R_dataBox_66 : decode bb_R_dataBox 66 = .ok (.iload_n 3, 1) := by decide +kernel
theorem dc_R_dataBox_67 : decode bb_R_dataBox 67 = .ok (.ireturn, 1) := by decide +kernel
theorem dc_R_dataBox_68 : decode bb_R_dataBox 68 = .ok (.iinc 3 1, 3) := by decide +kernel
theorem dc_R_dataBox_71 : decode bb_R_dataBox 71 = .ok (.goto (-69), 3) := by decide +kernel
theorem dc_R_dataBox_74 : decode bb_R_dataBox 74 = .ok (.iconst (-1), 1) := by decide +kernel
theorem dc_R_dataBox_75 : decode bb_R_dataBox 75 = .ok (.ireturn, 1) := by decide +kernel
end
section
theorem dc_R_boxes_0 : decode bb_R_boxes 0 = .ok (.aload_n 0, 1) := by decide +kernel
theorem dc_R_boxes_1 : decode bb_R_boxes 1 = .ok (.invokevirtual 75, 3) := by decide +kernel
theorem dc_R_boxes_4 : decode bb_R_boxes 4 = .ok (.istore_n 1, 1) := by decide +kernel
theorem dc_R_boxes_5 : decode bb_R_boxes 5 = .ok (.iload_n 1, 1) := by decide +kernel
theorem dc_R_boxes_6 : decode bb_R_boxes 6 = .ok (.ifCond .le 9, 3) := by decide +kernel
theorem dc_R_boxes_9 : decode bb_R_boxes 9 = .ok (.sipush (-1000), 3) := by decide +kernel
theorem dc_R_boxes_12 : decode bb_R_boxes 12 = .ok (.goto 7, 3) := by decide +kernel
theorem dc_R_boxes_15 : decode bb_R_boxes 15 = .ok (.aload_n 0, 1) := by decide +kernel
theorem dc_R_boxes_16 : decode bb_R_boxes 16 = .ok (.getfield 64, 3) := by decide +kernel
theorem dc_R_boxes_19 : decode bb_R_boxes 19 = .ok (.ireturn, 1) := by decide +kernel
theorem dc_R_box_0 : decode bb_R_box 0 = .ok (.aload_n 0, 1) := by decide +kernel
theorem dc_R_box_1 : decode bb_R_box 1 = .ok (.invokevirtual 75, 3) := by decide +kernel
theorem dc_R_box_4 : decode bb_R_box 4 = .ok (.istore_n 3, 1) := by decide +kernel
theorem dc_R_box_5 : decode bb_R_box 5 = .ok (.iload_n 3, 1) := by decide +kernel
theorem dc_R_box_6 : decode bb_R_box 6 = .ok (.ifCond .gt 15, 3) := by decide +kernel
theorem dc_R_box_9 : decode bb_R_box 9 = .ok (.iload_n 1, 1) := by decide +kernel
theorem dc_R_box_10 : decode bb_R_box 10 = .ok (.ifCond .lt 11, 3) := by decide +kernel
theorem dc_R_box_13 : decode bb_R_box 13 = .ok (.iload_n 1, 1) := by decide +kernel
theorem dc_R_box_14 : decode bb_R_box 14 = .ok (.aload_n 0, 1) := by decide +kernel
theorem dc_R_box_15 : decode bb_R_box 15 = .ok (.getfield 64, 3) := by decide +kernel
theorem dc_R_box_18 : decode bb_R_box 18 = .ok (.if_icmp .lt 7, 3) := by decide +kernel
theorem dc_R_box_21 : decode bb_R_box 21 = .ok (.sipush (-1000), 3) := by decide +kernel
theorem dc_R_box_24 : decode bb_R_box 24 = .ok (.ireturn, 1) := by decide +kernel
theorem dc_R_box_25 : decode bb_R_box 25 = .ok (.iload_n 2, 1) := by decide +kernel
theorem dc_R_box_26 : decode bb_R_box 26 = .ok (.tableswitch 80 0 5 #[38, 45, 52, 59, 66, 73], 38) := by decide +kernel
theorem dc_R_box_64 : decode bb_R_box 64 = .ok (.aload_n 0, 1) := by decide +kernel
theorem dc_R_box_65 : decode bb_R_box 65 = .ok (.getfield 13, 3) := by decide +kernel
theorem dc_R_box_68 : decode bb_R_box 68 = .ok (.iload_n 1, 1) := by decide +kernel
theorem dc_R_box_69 : decode bb_R_box 69 = .ok (.iaload, 1) := by decide +kernel
theorem dc_R_box_70 : decode bb_R_box 70 = .ok (.ireturn, 1) := by decide +kernel
theorem dc_R_box_71 : decode bb_R_box 71 = .ok (.aload_n 0, 1) := by decide +kernel
theorem dc_R_box_72 : decode bb_R_box 72 = .ok (.getfield 16, 3) := by decide +kernel
theorem dc_R_box_75 : decode bb_R_box 75 = .ok (.iload_n 1, 1) := by decide +kernel
theorem dc_R_box_76 : decode bb_R_box 76 = .ok (.iaload, 1) := by decide +kernel
theorem dc_R_box_77 : decode bb_R_box 77 = .ok (.ireturn, 1) := by decide +kernel
theorem dc_R_box_78 : decode bb_R_box 78 = .ok (.aload_n 0, 1) := by decide +kernel
theorem dc_R_box_79 : decode bb_R_box 79 = .ok (.getfield 19, 3) := by decide +kernel
theorem dc_R_box_82 : decode bb_R_box 82 = .ok (.iload_n 1, 1) := by decide +kernel
theorem dc_R_box_83 : decode bb_R_box 83 = .ok (.iaload, 1) := by decide +kernel
theorem dc_R_box_84 : decode bb_R_box 84 = .ok (.ireturn, 1) := by decide +kernel
theorem dc_R_box_85 : decode bb_R_box 85 = .ok (.aload_n 0, 1) := by decide +kernel
theorem dc_R_box_86 : decode bb_R_box 86 = .ok (.getfield 22, 3) := by decide +kernel
theorem dc_R_box_89 : decode bb_R_box 89 = .ok (.iload_n 1, 1) := by decide +kernel
theorem dc_R_box_90 : decode bb_R_box 90 = .ok (.iaload, 1) := by decide +kernel
theorem dc_R_box_91 : decode bb_R_box 91 = .ok (.ireturn, 1) := by decide +kernel
theorem dc_R_box_92 : decode bb_R_box 92 = .ok (.aload_n 0, 1) := by decide +kernel
theorem dc_R_box_93 : decode bb_R_box 93 = .ok (.getfield 25, 3) := by decide +kernel
theorem dc_R_box_96 : decode bb_R_box 96 = .ok (.iload_n 1, 1) := by decide +kernel
theorem dc_R_box_97 : decode bb_R_box 97 = .ok (.iaload, 1) := by decide +kernel
theorem dc_R_box_98 : decode bb_R_box 98 = .ok (.ireturn, 1) := by decide +kernel
theorem dc_R_box_99 : decode bb_R_box 99 = .ok (.aload_n 0, 1) := by decide +kernel
theorem dc_R_box_100 : decode bb_R_box 100 = .ok (.getfield 28, 3) := by decide +kernel
theorem dc_R_box_103 : decode bb_R_box 103 = .ok (.iload_n 1, 1) := by decide +kernel
theorem dc_R_box_104 : decode bb_R_box 104 = .ok (.iaload, 1) := by decide +kernel
theorem dc_R_box_105 : decode bb_R_box 105 = .ok (.ireturn, 1) := by decide +kernel
theorem dc_R_box_106 : decode bb_R_box 106 = .ok (.sipush (-1000), 3) := by decide +kernel
theorem dc_R_box_109 : decode bb_R_box 109 = .ok (.ireturn, 1) := by decide +kernel
theorem dc_R_tracks_0 : decode bb_R_tracks 0 = .ok (.aload_n 0, 1) := by decide +kernel
theorem dc_R_tracks_1 : decode bb_R_tracks 1 = .ok (.invokevirtual 137, 3) := by decide +kernel
theorem dc_R_tracks_4 : decode bb_R_tracks 4 = .ok (.istore_n 1, 1) := by decide +kernel
theorem dc_R_tracks_5 : decode bb_R_tracks 5 = .ok (.iload_n 1, 1) := by decide +kernel
theorem dc_R_tracks_6 : decode bb_R_tracks 6 = .ok (.ifCond .le 9, 3) := by decide +kernel
theorem dc_R_tracks_9 : decode bb_R_tracks 9 = .ok (.sipush (-1000), 3) := by decide +kernel
theorem dc_R_tracks_12 : decode bb_R_tracks 12 = .ok (.goto 7, 3) := by decide +kernel
theorem dc_R_tracks_15 : decode bb_R_tracks 15 = .ok (.aload_n 0, 1) := by decide +kernel
theorem dc_R_tracks_16 : decode bb_R_tracks 16 = .ok (.getfield 83, 3) := by decide +kernel
theorem dc_R_tracks_19 : decode bb_R_tracks 19 = .ok (.ireturn, 1) := by decide +kernel
theorem dc_R_samples_0 : decode bb_R_samples 0 = .ok (.aload_n 0, 1) := by decide +kernel
theorem dc_R_samples_1 : decode bb_R_samples 1 = .ok (.iload_n 1, 1) := by decide +kernel
theorem dc_R_samples_2 : decode bb_R_samples 2 = .ok (.invokevirtual 140, 3) := by decide +kernel
theorem dc_R_samples_5 : decode bb_R_samples 5 = .ok (.ifCond .eq 11, 3) := by decide +kernel
theorem dc_R_samples_8 : decode bb_R_samples 8 = .ok (.aload_n 0, 1) := by decide +kernel
theorem dc_R_samples_9 : decode bb_R_samples 9 = .ok (.iload_n 1, 1) := by decide +kernel
theorem dc_R_samples_10 : decode bb_R_samples 10 = .ok (.invokevirtual 110, 3) := by decide +kernel
theorem dc_R_samples_13 : decode bb_R_samples 13 = .ok (.goto 6, 3) := by decide +kernel
theorem dc_R_samples_16 : decode bb_R_samples 16 = .ok (.sipush (-1000), 3) := by decide +kernel
theorem dc_R_samples_19 : decode bb_R_samples 19 = .ok (.ireturn, 1) := by decide +kernel
theorem dc_R_isTrack_0 : decode bb_R_isTrack 0 = .ok (.aload_n 0, 1) := by decide +kernel
theorem dc_R_isTrack_1 : decode bb_R_isTrack 1 = .ok (.invokevirtual 137, 3) := by decide +kernel
theorem dc_R_isTrack_4 : decode bb_R_isTrack 4 = .ok (.istore_n 2, 1) := by decide +kernel
theorem dc_R_isTrack_5 : decode bb_R_isTrack 5 = .ok (.iload_n 2, 1) := by decide +kernel
theorem dc_R_isTrack_6 : decode bb_R_isTrack 6 = .ok (.ifCond .ne 19, 3) := by decide +kernel
theorem dc_R_isTrack_9 : decode bb_R_isTrack 9 = .ok (.iload_n 1, 1) := by decide +kernel
theorem dc_R_isTrack_10 : decode bb_R_isTrack 10 = .ok (.ifCond .lt 15, 3) := by decide +kernel
theorem dc_R_isTrack_13 : decode bb_R_isTrack 13 = .ok (.iload_n 1, 1) := by decide +kernel
theorem dc_R_isTrack_14 : decode bb_R_isTrack 14 = .ok (.aload_n 0, 1) := by decide +kernel
theorem dc_R_isTrack_15 : decode bb_R_isTrack 15 = .ok (.getfield 83, 3) := by decide +kernel
theorem dc_R_isTrack_18 : decode bb_R_isTrack 18 = .ok (.if_icmp .ge 7, 3) := by decide +kernel
theorem dc_R_isTrack_21 : decode bb_R_isTrack 21 = .ok (.iconst 1, 1) := by decide +kernel
theorem dc_R_isTrack_22 : decode bb_R_isTrack 22 = .ok (.goto 4, 3) := by decide +kernel
theorem dc_R_isTrack_25 : decode bb_R_isTrack 25 = .ok (.iconst 0, 1) := by decide +kernel
theorem dc_R_isTrack_26 : decode bb_R_isTrack 26 = .ok (.ireturn, 1) := by decide +kernel
theorem dc_R_sample_0 : decode bb_R_sample 0 = .ok (.aload_n 0, 1) := by decide +kernel
theorem dc_R_sample_1 : decode bb_R_sample 1 = .ok (.iload_n 1, 1) := by decide +kernel
theorem dc_R_sample_2 : decode bb_R_sample 2 = .ok (.invokevirtual 140, 3) := by decide +kernel
theorem dc_R_sample_5 : decode bb_R_sample 5 = .ok (.ifCond .eq 16, 3) := by decide +kernel
theorem dc_R_sample_8 : decode bb_R_sample 8 = .ok (.iload_n 2, 1) := by decide +kernel
theorem dc_R_sample_9 : decode bb_R_sample 9 = .ok (.ifCond .lt 12, 3) := by decide +kernel
theorem dc_R_sample_12 : decode bb_R_sample 12 = .ok (.iload_n 2, 1) := by decide +kernel
theorem dc_R_sample_13 : decode bb_R_sample 13 = .ok (.aload_n 0, 1) := by decide +kernel
theorem dc_R_sample_14 : decode bb_R_sample 14 = .ok (.iload_n 1, 1) := by decide +kernel
theorem dc_R_sample_15 : decode bb_R_sample 15 = .ok (.invokevirtual 110, 3) := by decide +kernel
theorem dc_R_sample_18 : decode bb_R_sample 18 = .ok (.if_icmp .lt 7, 3) := by decide +kernel
theorem dc_R_sample_21 : decode bb_R_sample 21 = .ok (.sipush (-1000), 3) := by decide +kernel
theorem dc_R_sample_24 : decode bb_R_sample 24 = .ok (.ireturn, 1) := by decide +kernel
theorem dc_R_sample_25 : decode bb_R_sample 25 = .ok (.iload_n 3, 1) := by decide +kernel
theorem dc_R_sample_26 : decode bb_R_sample 26 = .ok (.tableswitch 81 0 5 #[38, 46, 53, 60, 74, 38], 38) := by decide +kernel
theorem dc_R_sample_64 : decode bb_R_sample 64 = .ok (.aload_n 0, 1) := by decide +kernel
theorem dc_R_sample_65 : decode bb_R_sample 65 = .ok (.iload_n 1, 1) := by decide +kernel
theorem dc_R_sample_66 : decode bb_R_sample 66 = .ok (.iload_n 2, 1) := by decide +kernel
theorem dc_R_sample_67 : decode bb_R_sample 67 = .ok (.iload_n 3, 1) := by decide +kernel
theorem dc_R_sample_68 : decode bb_R_sample 68 = .ok (.invokevirtual 149, 3) := by decide +kernel
theorem dc_R_sample_71 : decode bb_R_sample 71 = .ok (.ireturn, 1) := by decide +kernel
theorem dc_R_sample_72 : decode bb_R_sample 72 = .ok (.aload_n 0, 1) := by decide +kernel
theorem dc_R_sample_73 : decode bb_R_sample 73 = .ok (.iload_n 1, 1) := by decide +kernel
theorem dc_R_sample_74 : decode bb_R_sample 74 = .ok (.iload_n 2, 1) := by decide +kernel
theorem dc_R_sample_75 : decode bb_R_sample 75 = .ok (.invokevirtual 128, 3) := by decide +kernel
theorem dc_R_sample_78 : decode bb_R_sample 78 = .ok (.ireturn, 1) := by decide +kernel
theorem dc_R_sample_79 : decode bb_R_sample 79 = .ok (.aload_n 0, 1) := by decide +kernel
theorem dc_R_sample_80 : decode bb_R_sample 80 = .ok (.iload_n 1, 1) := by decide +kernel
theorem dc_R_sample_81 : decode bb_R_sample 81 = .ok (.iload_n 2, 1) := by decide +kernel
theorem dc_R_sample_82 : decode bb_R_sample 82 = .ok (.invokevirtual 153, 3) := by decide +kernel
theorem dc_R_sample_85 : decode bb_R_sample 85 = .ok (.ireturn, 1) := by decide +kernel
theorem dc_R_sample_86 : decode bb_R_sample 86 = .ok (.aload_n 0, 1) := by decide +kernel
theorem dc_R_sample_87 : decode bb_R_sample 87 = .ok (.iload_n 1, 1) := by decide +kernel
theorem dc_R_sample_88 : decode bb_R_sample 88 = .ok (.iload_n 2, 1) := by decide +kernel
theorem dc_R_sample_89 : decode bb_R_sample 89 = .ok (.invokevirtual 153, 3) := by decide +kernel
theorem dc_R_sample_92 : decode bb_R_sample 92 = .ok (.aload_n 0, 1) := by decide +kernel
theorem dc_R_sample_93 : decode bb_R_sample 93 = .ok (.iload_n 1, 1) := by decide +kernel
theorem dc_R_sample_94 : decode bb_R_sample 94 = .ok (.iload_n 2, 1) := by decide +kernel
theorem dc_R_sample_95 : decode bb_R_sample 95 = .ok (.invokevirtual 156, 3) := by decide +kernel
theorem dc_R_sample_98 : decode bb_R_sample 98 = .ok (.iadd, 1) := by decide +kernel
theorem dc_R_sample_99 : decode bb_R_sample 99 = .ok (.ireturn, 1) := by decide +kernel
theorem dc_R_sample_100 : decode bb_R_sample 100 = .ok (.aload_n 0, 1) := by decide +kernel
theorem dc_R_sample_101 : decode bb_R_sample 101 = .ok (.iload_n 1, 1) := by decide +kernel
theorem dc_R_sample_102 : decode bb_R_sample 102 = .ok (.iload_n 2, 1) := by decide +kernel
theorem dc_R_sample_103 : decode bb_R_sample 103 = .ok (.invokevirtual 159, 3) := by decide +kernel
theorem dc_R_sample_106 : decode bb_R_sample 106 = .ok (.ireturn, 1) := by decide +kernel
theorem dc_R_sample_107 : decode bb_R_sample 107 = .ok (.sipush (-1000), 3) := by decide +kernel
theorem dc_R_sample_110 : decode bb_R_sample 110 = .ok (.ireturn, 1) := by decide +kernel
theorem dc_R_inChunk_0 : decode bb_R_inChunk 0 = .ok (.iconst 0, 1) := by decide +kernel
theorem dc_R_inChunk_1 : decode bb_R_inChunk 1 = .ok (.istore 4, 2) := by decide +kernel
theorem dc_R_inChunk_3 : decode bb_R_inChunk 3 = .ok (.iconst 1, 1) := by decide +kernel
theorem dc_R_inChunk_4 : decode bb_R_inChunk 4 = .ok (.istore 5, 2) := by decide +kernel
theorem dc_R_inChunk_6 : decode bb_R_inChunk 6 = .ok (.iload 5, 2) := by decide +kernel
theorem dc_R_inChunk_8 : decode bb_R_inChunk 8 = .ok (.aload_n 0, 1) := by decide +kernel
theorem dc_R_inChunk_9 : decode bb_R_inChunk 9 = .ok (.iload_n 1, 1) := by decide +kernel
theorem dc_R_inChunk_10 : decode bb_R_inChunk 10 = .ok (.invokevirtual 116, 3) := by decide +kernel
theorem dc_R_inChunk_13 : decode bb_R_inChunk 13 = .ok (.if_icmp .gt 111, 3) := by decide +kernel
theorem dc_R_inChunk_16 : decode bb_R_inChunk 16 = .ok (.aload_n 0, 1) := by decide +kernel
theorem dc_R_inChunk_17 : decode bb_R_inChunk 17 = .ok (.iload_n 1, 1) := by decide +kernel
theorem dc_R_inChunk_18 : decode bb_R_inChunk 18 = .ok (.iload 5, 2) := by decide +kernel
theorem dc_R_inChunk_20 : decode bb_R_inChunk 20 = .ok (.invokevirtual 119, 3) := by decide +kernel
theorem dc_R_inChunk_23 : decode bb_R_inChunk 23 = .ok (.istore 6, 2) := by decide +kernel
theorem dc_R_inChunk_25 : decode bb_R_inChunk 25 = .ok (.iload_n 2, 1) := by decide +kernel
theorem dc_R_inChunk_26 : decode bb_R_inChunk 26 = .ok (.iload 4, 2) := by decide +kernel
theorem dc_R_inChunk_28 : decode bb_R_inChunk 28 = .ok (.iload 6, 2) := by decide +kernel
theorem dc_R_inChunk_30 : decode bb_R_inChunk 30 = .ok (.iadd, 1) := by decide +kernel
theorem dc_R_inChunk_31 : decode bb_R_inChunk 31 = .ok (.if_icmp .ge 80, 3) := by decide +kernel
theorem dc_R_inChunk_34 : decode bb_R_inChunk 34 = .ok (.aload_n 0, 1) := by decide +kernel
theorem dc_R_inChunk_35 : decode bb_R_inChunk 35 = .ok (.iload_n 1, 1) := by decide +kernel
theorem dc_R_inChunk_36 : decode bb_R_inChunk 36 = .ok (.iload 5, 2) := by decide +kernel
theorem dc_R_inChunk_38 : decode bb_R_inChunk 38 = .ok (.invokevirtual 131, 3) := by decide +kernel
theorem dc_R_inChunk_41 : decode bb_R_inChunk 41 = .ok (.istore 7, 2) := by decide +kernel
theorem dc_R_inChunk_43 : decode bb_R_inChunk 43 = .ok (.iload 4, 2) := by decide +kernel
theorem dc_R_inChunk_45 : decode bb_R_inChunk 45 = .ok (.istore 8, 2) := by decide +kernel
theorem dc_R_inChunk_47 : decode bb_R_inChunk 47 = .ok (.iload 8, 2) := by decide +kernel
theorem dc_R_inChunk_49 : decode bb_R_inChunk 49 = .ok (.iload_n 2, 1) := by decide +kernel
theorem dc_R_inChunk_50 : decode bb_R_inChunk 50 = .ok (.if_icmp .ge 21, 3) := by decide +kernel
theorem dc_R_inChunk_53 : decode bb_R_inChunk 53 = .ok (.iload 7, 2) := by decide +kernel
theorem dc_R_inChunk_55 : decode bb_R_inChunk 55 = .ok (.aload_n 0, 1) := by decide +kernel
theorem dc_R_inChunk_56 : decode bb_R_inChunk 56 = .ok (.iload_n 1, 1) := by decide +kernel
theorem dc_R_inChunk_57 : decode bb_R_inChunk 57 = .ok (.iload 8, 2) := by decide +kernel
theorem dc_R_inChunk_59 : decode bb_R_inChunk 59 = .ok (.invokevirtual 128, 3) := by decide +kernel
theorem dc_R_inChunk_62 : decode bb_R_inChunk 62 = .ok (.iadd, 1) := by decide +kernel
theorem dc_R_inChunk_63 : decode bb_R_inChunk 63 = .ok (.istore 7, 2) := by decide +kernel
theorem dc_R_inChunk_65 : decode bb_R_inChunk 65 = .ok (.iinc 8 1, 3) := by decide +kernel
theorem dc_R_inChunk_68 : decode bb_R_inChunk 68 = .ok (.goto (-21), 3) := by decide +kernel
theorem dc_R_inChunk_71 : decode bb_R_inChunk 71 = .ok (.aload_n 0, 1) := by decide +kernel
theorem dc_R_inChunk_72 : decode bb_R_inChunk 72 = .ok (.iload_n 1, 1) := by decide +kernel
theorem dc_R_inChunk_73 : decode bb_R_inChunk 73 = .ok (.iload 5, 2) := by decide +kernel
theorem dc_R_inChunk_75 : decode bb_R_inChunk 75 = .ok (.invokevirtual 125, 3) := by decide +kernel
theorem dc_R_inChunk_78 : decode bb_R_inChunk 78 = .ok (.istore 8, 2) := by decide +kernel
theorem dc_R_inChunk_80 : decode bb_R_inChunk 80 = .ok (.iload_n 3, 1) := by decide +kernel
theorem dc_R_inChunk_81 : decode bb_R_inChunk 81 = .ok (.ifCond .ne 8, 3) := by decide +kernel
theorem dc_R_inChunk_84 : decode bb_R_inChunk 84 = .ok (.iload 7, 2) := by decide +kernel
theorem dc_R_inChunk_86 : decode bb_R_inChunk 86 = .ok (.goto 24, 3) := by decide +kernel
theorem dc_R_inChunk_89 : decode bb_R_inChunk 89 = .ok (.aload_n 0, 1) := by decide +kernel
theorem dc_R_inChunk_90 : decode bb_R_inChunk 90 = .ok (.aload_n 0, 1) := by decide +kernel
theorem dc_R_inChunk_91 : decode bb_R_inChunk 91 = .ok (.getfield 40, 3) := by decide +kernel
theorem dc_R_inChunk_94 : decode bb_R_inChunk 94 = .ok (.bipush 8, 2) := by decide +kernel
theorem dc_R_inChunk_96 : decode bb_R_inChunk 96 = .ok (.iload_n 1, 1) := by decide +kernel
theorem dc_R_inChunk_97 : decode bb_R_inChunk 97 = .ok (.imul, 1) := by decide +kernel
theorem dc_R_inChunk_98 : decode bb_R_inChunk 98 = .ok (.iconst 2, 1) := by decide +kernel
theorem dc_R_inChunk_99 : decode bb_R_inChunk 99 = .ok (.iadd, 1) := by decide +kernel
theorem dc_R_inChunk_100 : decode bb_R_inChunk 100 = .ok (.iaload, 1) := by decide +kernel
theorem dc_R_inChunk_101 : decode bb_R_inChunk 101 = .ok (.iconst 3, 1) := by decide +kernel
theorem dc_R_inChunk_102 : decode bb_R_inChunk 102 = .ok (.iconst 3, 1) := by decide +kernel
theorem dc_R_inChunk_103 : decode bb_R_inChunk 103 = .ok (.iload 8, 2) := by decide +kernel
theorem dc_R_inChunk_105 : decode bb_R_inChunk 105 = .ok (.imul, 1) := by decide +kernel
theorem dc_R_inChunk_106 : decode bb_R_inChunk 106 = .ok (.iadd, 1) := by decide +kernel
theorem dc_R_inChunk_107 : decode bb_R_inChunk 107 = .ok (.invokevirtual 106, 3) := by decide +kernel
theorem dc_R_inChunk_110 : decode bb_R_inChunk 110 = .ok (.ireturn, 1) := by decide +kernel
theorem dc_R_inChunk_111 : decode bb_R_inChunk 111 = .ok (.iload 4, 2) := by decide +kernel
theorem dc_R_inChunk_113 : decode bb_R_inChunk 113 = .ok (.iload 6, 2) := by decide +kernel
theorem dc_R_inChunk_115 : decode bb_R_inChunk 115 = .ok (.iadd, 1) := by decide +kernel
theorem dc_R_inChunk_116 : decode bb_R_inChunk 116 = .ok (.istore 4, 2) := by decide +kernel
theorem dc_R_inChunk_118 : decode bb_R_inChunk 118 = .ok (.iinc 5 1, 3) := by decide +kernel
theorem dc_R_inChunk_121 : decode bb_R_inChunk 121 = .ok (.goto (-115), 3) := by decide +kernel
theorem dc_R_inChunk_124 : decode bb_R_inChunk 124 = .ok (.sipush (-1000), 3) := by decide +kernel
theorem dc_R_inChunk_127 : decode bb_R_inChunk 127 = .ok (.ireturn, 1) := by decide +kernel
theorem dc_R_decodeTime_0 : decode bb_R_decodeTime 0 = .ok (.iconst 0, 1) := by decide +kernel
theorem dc_R_decodeTime_1 : decode bb_R_decodeTime 1 = .ok (.istore_n 3, 1) := by decide +kernel
theorem dc_R_decodeTime_2 : decode bb_R_decodeTime 2 = .ok (.iconst 0, 1) := by decide +kernel
theorem dc_R_decodeTime_3 : decode bb_R_decodeTime 3 = .ok (.istore 4, 2) := by decide +kernel
theorem dc_R_decodeTime_5 : decode bb_R_decodeTime 5 = .ok (.iload 4, 2) := by decide +kernel
theorem dc_R_decodeTime_7 : decode bb_R_decodeTime 7 = .ok (.iload_n 2, 1) := by decide +kernel
theorem dc_R_decodeTime_8 : decode bb_R_decodeTime 8 = .ok (.if_icmp .ge 19, 3) := by decide +kernel
theorem dc_R_decodeTime_11 : decode bb_R_decodeTime 11 = .ok (.iload_n 3, 1) := by decide +kernel
theorem dc_R_decodeTime_12 : decode bb_R_decodeTime 12 = .ok (.aload_n 0, 1) := by decide +kernel
theorem dc_R_decodeTime_13 : decode bb_R_decodeTime 13 = .ok (.iload_n 1, 1) := by decide +kernel
theorem dc_R_decodeTime_14 : decode bb_R_decodeTime 14 = .ok (.iload 4, 2) := by decide +kernel
theorem dc_R_decodeTime_16 : decode bb_R_decodeTime 16 = .ok (.invokevirtual 146, 3) := by decide +kernel
theorem dc_R_decodeTime_19 : decode bb_R_decodeTime 19 = .ok (.iadd, 1) := by decide +kernel
theorem dc_R_decodeTime_20 : decode bb_R_decodeTime 20 = .ok (.istore_n 3, 1) := by decide +kernel
theorem dc_R_decodeTime_21 : decode bb_R_decodeTime 21 = .ok (.iinc 4 1, 3) := by decide +kernel
theorem dc_R_decodeTime_24 : decode bb_R_decodeTime 24 = .ok (.goto (-19), 3) := by decide +kernel
theorem dc_R_decodeTime_27 : decode bb_R_decodeTime 27 = .ok (.iload_n 3, 1) := by decide +kernel
theorem dc_R_decodeTime_28 : decode bb_R_decodeTime 28 = .ok (.ireturn, 1) := by decide +kernel
theorem dc_R_durationOf_0 : decode bb_R_durationOf 0 = .ok (.aload_n 0, 1) := by decide +kernel
theorem dc_R_durationOf_1 : decode bb_R_durationOf 1 = .ok (.aload_n 0, 1) := by decide +kernel
theorem dc_R_durationOf_2 : decode bb_R_durationOf 2 = .ok (.getfield 40, 3) := by decide +kernel
theorem dc_R_durationOf_5 : decode bb_R_durationOf 5 = .ok (.bipush 8, 2) := by decide +kernel
theorem dc_R_durationOf_7 : decode bb_R_durationOf 7 = .ok (.iload_n 1, 1) := by decide +kernel
theorem dc_R_durationOf_8 : decode bb_R_durationOf 8 = .ok (.imul, 1) := by decide +kernel
theorem dc_R_durationOf_9 : decode bb_R_durationOf 9 = .ok (.iconst 0, 1) := by decide +kernel
theorem dc_R_durationOf_10 : decode bb_R_durationOf 10 = .ok (.iadd, 1) := by decide +kernel
theorem dc_R_durationOf_11 : decode bb_R_durationOf 11 = .ok (.iaload, 1) := by decide +kernel
theorem dc_R_durationOf_12 : decode bb_R_durationOf 12 = .ok (.iload_n 2, 1) := by decide +kernel
theorem dc_R_durationOf_13 : decode bb_R_durationOf 13 = .ok (.invokevirtual 143, 3) := by decide +kernel
theorem dc_R_durationOf_16 : decode bb_R_durationOf 16 = .ok (.ireturn, 1) := by decide +kernel
theorem dc_R_runValue_0 : decode bb_R_runValue 0 = .ok (.iconst 0, 1) := by decide +kernel
theorem dc_R_runValue_1 : decode bb_R_runValue 1 = .ok (.istore_n 3, 1) := by decide +kernel
theorem dc_R_runValue_2 : decode bb_R_runValue 2 = .ok (.iconst 0, 1) := by decide +kernel
theorem dc_R_runValue_3 : decode bb_R_runValue 3 = .ok (.istore 4, 2) := by decide +kernel
theorem dc_R_runValue_5 : decode bb_R_runValue 5 = .ok (.iload 4, 2) := by decide +kernel
theorem dc_R_runValue_7 : decode bb_R_runValue 7 = .ok (.aload_n 0, 1) := by decide +kernel
theorem dc_R_runValue_8 : decode bb_R_runValue 8 = .ok (.iload_n 1, 1) := by decide +kernel
theorem dc_R_runValue_9 : decode bb_R_runValue 9 = .ok (.iconst 0, 1) := by decide +kernel
theorem dc_R_runValue_10 : decode bb_R_runValue 10 = .ok (.invokevirtual 106, 3) := by decide +kernel
theorem dc_R_runValue_13 : decode bb_R_runValue 13 = .ok (.if_icmp .ge 40, 3) := by decide +kernel
theorem dc_R_runValue_16 : decode bb_R_runValue 16 = .ok (.iload_n 3, 1) := by decide +kernel
theorem dc_R_runValue_17 : decode bb_R_runValue 17 = .ok (.aload_n 0, 1) := by decide +kernel
theorem dc_R_runValue_18 : decode bb_R_runValue 18 = .ok (.iload_n 1, 1) := by decide +kernel
theorem dc_R_runValue_19 : decode bb_R_runValue 19 = .ok (.iconst 1, 1) := by decide +kernel
theorem dc_R_runValue_20 : decode bb_R_runValue 20 = .ok (.iconst 2, 1) := by decide +kernel
theorem dc_R_runValue_21 : decode bb_R_runValue 21 = .ok (.iload 4, 2) := by decide +kernel
theorem dc_R_runValue_23 : decode bb_R_runValue 23 = .ok (.imul, 1) := by decide +kernel
theorem dc_R_runValue_24 : decode bb_R_runValue 24 = .ok (.iadd, 1) := by decide +kernel
theorem dc_R_runValue_25 : decode bb_R_runValue 25 = .ok (.invokevirtual 106, 3) := by decide +kernel
theorem dc_R_runValue_28 : decode bb_R_runValue 28 = .ok (.iadd, 1) := by decide +kernel
theorem dc_R_runValue_29 : decode bb_R_runValue 29 = .ok (.istore_n 3, 1) := by decide +kernel
theorem dc_R_runValue_30 : decode bb_R_runValue 30 = .ok (.iload_n 2, 1) := by decide +kernel
theorem dc_R_runValue_31 : decode bb_R_runValue 31 = .ok (.iload_n 3, 1) := by decide +kernel
theorem dc_R_runValue_32 : decode bb_R_runValue 32 = .ok (.if_icmp .ge 15, 3) := by decide +kernel
theorem dc_R_runValue_35 : decode bb_R_runValue 35 = .ok (.aload_n 0, 1) := by decide +kernel
theorem dc_R_runValue_36 : decode bb_R_runValue 36 = .ok (.iload_n 1, 1) := by decide +kernel
theorem dc_R_runValue_37 : decode bb_R_runValue 37 = .ok (.iconst 2, 1) := by decide +kernel
theorem dc_R_runValue_38 : decode bb_R_runValue 38 = .ok (.iconst 2, 1) := by decide +kernel
theorem dc_R_runValue_39 : decode bb_R_runValue 39 = .ok (.iload 4, 2) := by decide +kernel
theorem dc_R_runValue_41 : decode bb_R_runValue 41 = .ok (.imul, 1) := by decide +kernel
theorem dc_R_runValue_42 : decode bb_R_runValue 42 = .ok (.iadd, 1) := by decide +kernel
theorem dc_R_runValue_43 : decode bb_R_runValue 43 = .ok (.invokevirtual 106, 3) := by decide +kernel
theorem dc_R_runValue_46 : decode bb_R_runValue 46 = .ok (.ireturn, 1) := by decide +kernel
theorem dc_R_runValue_47 : decode bb_R_runValue 47 = .ok (.iinc 4 1, 3) := by decide +kernel
theorem dc_R_runValue_50 : decode bb_R_runValue 50 = .ok (.goto (-45), 3) := by decide +kernel
theorem dc_R_runValue_53 : decode bb_R_runValue 53 = .ok (.iconst 0, 1) := by decide +kernel
theorem dc_R_runValue_54 : decode bb_R_runValue 54 = .ok (.ireturn, 1) := by decide +kernel
theorem dc_R_shiftOf_0 : decode bb_R_shiftOf 0 = .ok (.aload_n 0, 1) := by decide +kernel
theorem dc_R_shiftOf_1 : decode bb_R_shiftOf 1 = .ok (.getfield 40, 3) := by decide +kernel
theorem dc_R_shiftOf_4 : decode bb_R_shiftOf 4 = .ok (.bipush 8, 2) := by decide +kernel
theorem dc_R_shiftOf_6 : decode bb_R_shiftOf 6 = .ok (.iload_n 1, 1) := by decide +kernel
theorem dc_R_shiftOf_7 : decode bb_R_shiftOf 7 = .ok (.imul, 1) := by decide +kernel
theorem dc_R_shiftOf_8 : decode bb_R_shiftOf 8 = .ok (.iconst 1, 1) := by decide +kernel
theorem dc_R_shiftOf_9 : decode bb_R_shiftOf 9 = .ok (.iadd, 1) := by decide +kernel
theorem dc_R_shiftOf_10 : decode bb_R_shiftOf 10 = .ok (.iaload, 1) := by decide +kernel
theorem dc_R_shiftOf_11 : decode bb_R_shiftOf 11 = .ok (.istore_n 3, 1) := by decide +kernel
theorem dc_R_shiftOf_12 : decode bb_R_shiftOf 12 = .ok (.iload_n 3, 1) := by decide +kernel
theorem dc_R_shiftOf_13 : decode bb_R_shiftOf 13 = .ok (.ifCond .ge 7, 3) := by decide +kernel
theorem dc_R_shiftOf_16 : decode bb_R_shiftOf 16 = .ok (.iconst 0, 1) := by decide +kernel
theorem dc_R_shiftOf_17 : decode bb_R_shiftOf 17 = .ok (.goto 9, 3) := by decide +kernel
theorem dc_R_shiftOf_20 : decode bb_R_shiftOf 20 = .ok (.aload_n 0, 1) := by decide +kernel
theorem dc_R_shiftOf_21 : decode bb_R_shiftOf 21 = .ok (.iload_n 3, 1) := by decide +kernel
theorem dc_R_shiftOf_22 : decode bb_R_shiftOf 22 = .ok (.iload_n 2, 1) := by decide +kernel
theorem dc_R_shiftOf_23 : decode bb_R_shiftOf 23 = .ok (.invokevirtual 143, 3) := by decide +kernel
theorem dc_R_shiftOf_26 : decode bb_R_shiftOf 26 = .ok (.istore 4, 2) := by decide +kernel
theorem dc_R_shiftOf_28 : decode bb_R_shiftOf 28 = .ok (.iload 4, 2) := by decide +kernel
theorem dc_R_shiftOf_30 : decode bb_R_shiftOf 30 = .ok (.sipush 128, 3) := by decide +kernel
theorem dc_R_shiftOf_33 : decode bb_R_shiftOf 33 = .ok (.if_icmp .ge 8, 3) := by decide +kernel
theorem dc_R_shiftOf_36 : decode bb_R_shiftOf 36 = .ok (.iload 4, 2) := by decide +kernel
theorem dc_R_shiftOf_38 : decode bb_R_shiftOf 38 = .ok (.goto 9, 3) := by decide +kernel
theorem dc_R_shiftOf_41 : decode bb_R_shiftOf 41 = .ok (.iload 4, 2) := by decide +kernel
theorem dc_R_shiftOf_43 : decode bb_R_shiftOf 43 = .ok (.sipush 256, 3) := by decide +kernel
theorem dc_R_shiftOf_46 : decode bb_R_shiftOf 46 = .ok (.isub, 1) := by decide +kernel
theorem dc_R_shiftOf_47 : decode bb_R_shiftOf 47 = .ok (.ireturn, 1) := by decide +kernel
theorem dc_R_isSync_0 : decode bb_R_isSync 0 = .ok (.aload_n 0, 1) := by decide +kernel
theorem dc_R_isSync_1 : decode bb_R_isSync 1 = .ok (.getfield 40, 3) := by decide +kernel
theorem dc_R_isSync_4 : decode bb_R_isSync 4 = .ok (.bipush 8, 2) := by decide +kernel
theorem dc_R_isSync_6 : decode bb_R_isSync 6 = .ok (.iload_n 1, 1) := by decide +kernel
theorem dc_R_isSync_7 : decode bb_R_isSync 7 = .ok (.imul, 1) := by decide +kernel
theorem dc_R_isSync_8 : decode bb_R_isSync 8 = .ok (.bipush 6, 2) := by decide +kernel
theorem dc_R_isSync_10 : decode bb_R_isSync 10 = .ok (.iadd, 1) := by decide +kernel
theorem dc_R_isSync_11 : decode bb_R_isSync 11 = .ok (.iaload, 1) := by decide +kernel
theorem dc_R_isSync_12 : decode bb_R_isSync 12 = .ok (.istore_n 3, 1) := by decide +kernel
theorem dc_R_isSync_13 : decode bb_R_isSync 13 = .ok (.iload_n 3, 1) := by decide +kernel
theorem dc_R_isSync_14 : decode bb_R_isSync 14 = .ok (.ifCond .ge 7, 3) := by decide +kernel
theorem dc_R_isSync_17 : decode bb_R_isSync 17 = .ok (.iconst 1, 1) := by decide +kernel
theorem dc_R_isSync_18 : decode bb_R_isSync 18 = .ok (.goto 4, 3) := by decide +kernel
theorem dc_R_isSync_21 : decode bb_R_isSync 21 = .ok (.iconst 0, 1) := by decide +kernel
theorem dc_R_isSync_22 : decode bb_R_isSync 22 = .ok (.istore 4, 2) := by decide +kernel
theorem dc_R_isSync_24 : decode bb_R_isSync 24 = .ok (.iload_n 3, 1) := by decide +kernel
theorem dc_R_isSync_25 : decode bb_R_isSync 25 = .ok (.ifCond .ge 7, 3) := by decide +kernel
theorem dc_R_isSync_28 : decode bb_R_isSync 28 = .ok (.iconst 0, 1) := by decide +kernel
theorem dc_R_isSync_29 : decode bb_R_isSync 29 = .ok (.goto 9, 3) := by decide +kernel
theorem dc_R_isSync_32 : decode bb_R_isSync 32 = .ok (.aload_n 0, 1) := by decide +kernel
theorem dc_R_isSync_33 : decode bb_R_isSync 33 = .ok (.iload_n 3, 1) := by decide +kernel
theorem dc_R_isSync_34 : decode bb_R_isSync 34 = .ok (.iconst 0, 1) := by decide +kernel
theorem dc_R_isSync_35 : decode bb_R_isSync 35 = .ok (.invokevirtual 106, 3) := by decide +kernel
theorem dc_R_isSync_38 : decode bb_R_isSync 38 = .ok (.istore 5, 2) := by decide +kernel
theorem dc_R_isSync_40 : decode bb_R_isSync 40 = .ok (.iconst 0, 1) := by decide +kernel
theorem dc_R_isSync_41 : decode bb_R_isSync 41 = .ok (.istore 6, 2) := by decide +kernel
theorem dc_R_isSync_43 : decode bb_R_isSync 43 = .ok (.iload 6, 2) := by decide +kernel
theorem dc_R_isSync_45 : decode bb_R_isSync 45 = .ok (.iload 5, 2) := by decide +kernel
theorem dc_R_isSync_47 : decode bb_R_isSync 47 = .ok (.if_icmp .ge 32, 3) := by decide +kernel
theorem dc_R_isSync_50 : decode bb_R_isSync 50 = .ok (.aload_n 0, 1) := by decide +kernel
theorem dc_R_isSync_51 : decode bb_R_isSync 51 = .ok (.iload_n 3, 1) := by decide +kernel
theorem dc_R_isSync_52 : decode bb_R_isSync 52 = .ok (.iconst 1, 1) := by decide +kernel
theorem dc_R_isSync_53 : decode bb_R_isSync 53 = .ok (.iload 6, 2) := by decide +kernel
theorem dc_R_isSync_55 : decode bb_R_isSync 55 = .ok (.iadd, 1) := by decide +kernel
theorem dc_R_isSync_56 : decode bb_R_isSync 56 = .ok (.invokevirtual 106, 3) := by decide +kernel
theorem dc_R_isSync_59 : decode bb_R_isSync 59 = .ok (.iload_n 2, 1) := by decide +kernel
theorem dc_R_isSync_60 : decode bb_R_isSync 60 = .ok (.iconst 1, 1) := by decide +kernel
theorem dc_R_isSync_61 : decode bb_R_isSync 61 = .ok (.iadd, 1) := by decide +kernel
theorem dc_R_isSync_62 : decode bb_R_isSync 62 = .ok (.if_icmp .ne 7, 3) := by decide +kernel
theorem dc_R_isSync_65 : decode bb_R_isSync 65 = .ok (.iconst 1, 1) := by decide +kernel
theorem dc_R_isSync_66 : decode bb_R_isSync 66 = .ok (.goto 5, 3) := by decide +kernel
theorem dc_R_isSync_69 : decode bb_R_isSync 69 = .ok (.iload 4, 2) := by decide +kernel
theorem dc_R_isSync_71 : decode bb_R_isSync 71 = .ok (.istore 4, 2) := by decide +kernel
theorem dc_R_isSync_73 : decode bb_R_isSync 73 = .ok (.iinc 6 1, 3) := by decide +kernel
theorem dc_R_isSync_76 : decode bb_R_isSync 76 = .ok (.goto (-33), 3) := by decide +kernel
theorem dc_R_isSync_79 : decode bb_R_isSync 79 = .ok (.iload 4, 2) := by decide +kernel
theorem dc_R_isSync_81 : decode bb_R_isSync 81 = .ok (.ireturn, 1) := by decide +kernel
theorem dc_R_shown_0 : decode bb_R_shown 0 = .ok (.iload_n 2, 1) := by decide +kernel
theorem dc_R_shown_1 : decode bb_R_shown 1 = .ok (.ifCond .lt 11, 3) := by decide +kernel
theorem dc_R_shown_4 : decode bb_R_shown 4 = .ok (.aload_n 0, 1) := by decide +kernel
theorem dc_R_shown_5 : decode bb_R_shown 5 = .ok (.iload_n 1, 1) := by decide +kernel
theorem dc_R_shown_6 : decode bb_R_shown 6 = .ok (.invokevirtual 140, 3) := by decide +kernel
theorem dc_R_shown_9 : decode bb_R_shown 9 = .ok (.ifCond .ne 7, 3) := by decide +kernel
theorem dc_R_shown_12 : decode bb_R_shown 12 = .ok (.sipush (-1000), 3) := by decide +kernel
theorem dc_R_shown_15 : decode bb_R_shown 15 = .ok (.ireturn, 1) := by decide +kernel
theorem dc_R_shown_16 : decode bb_R_shown 16 = .ok (.aload_n 0, 1) := by decide +kernel
theorem dc_R_shown_17 : decode bb_R_shown 17 = .ok (.iload_n 1, 1) := by decide +kernel
theorem dc_R_shown_18 : decode bb_R_shown 18 = .ok (.iload_n 2, 1) := by decide +kernel
theorem dc_R_shown_19 : decode bb_R_shown 19 = .ok (.invokevirtual 162, 3) := by decide +kernel
theorem dc_R_shown_22 : decode bb_R_shown 22 = .ok (.istore_n 3, 1) := by decide +kernel
theorem dc_R_shown_23 : decode bb_R_shown 23 = .ok (.iload_n 3, 1) := by decide +kernel
theorem dc_R_shown_24 : decode bb_R_shown 24 = .ok (.sipush (-1000), 3) := by decide +kernel
theorem dc_R_shown_27 : decode bb_R_shown 27 = .ok (.if_icmp .ne 7, 3) := by decide +kernel
theorem dc_R_shown_30 : decode bb_R_shown 30 = .ok (.sipush (-1000), 3) := by decide +kernel
theorem dc_R_shown_33 : decode bb_R_shown 33 = .ok (.ireturn, 1) := by decide +kernel
theorem dc_R_shown_34 : decode bb_R_shown 34 = .ok (.iconst 0, 1) := by decide +kernel
theorem dc_R_shown_35 : decode bb_R_shown 35 = .ok (.istore 4, 2) := by decide +kernel
theorem dc_R_shown_37 : decode bb_R_shown 37 = .ok (.iconst 0, 1) := by decide +kernel
theorem dc_R_shown_38 : decode bb_R_shown 38 = .ok (.istore 5, 2) := by decide +kernel
theorem dc_R_shown_40 : decode bb_R_shown 40 = .ok (.iload 5, 2) := by decide +kernel
theorem dc_R_shown_42 : decode bb_R_shown 42 = .ok (.aload_n 0, 1) := by decide +kernel
theorem dc_R_shown_43 : decode bb_R_shown 43 = .ok (.iload_n 1, 1) := by decide +kernel
theorem dc_R_shown_44 : decode bb_R_shown 44 = .ok (.invokevirtual 110, 3) := by decide +kernel
theorem dc_R_shown_47 : decode bb_R_shown 47 = .ok (.if_icmp .ge 55, 3) := by decide +kernel
theorem dc_R_shown_50 : decode bb_R_shown 50 = .ok (.iload 4, 2) := by decide +kernel
theorem dc_R_shown_52 : decode bb_R_shown 52 = .ok (.aload_n 0, 1) := by decide +kernel
theorem dc_R_shown_53 : decode bb_R_shown 53 = .ok (.iload_n 1, 1) := by decide +kernel
theorem dc_R_shown_54 : decode bb_R_shown 54 = .ok (.iload 5, 2) := by decide +kernel
theorem dc_R_shown_56 : decode bb_R_shown 56 = .ok (.invokevirtual 156, 3) := by decide +kernel
theorem dc_R_shown_59 : decode bb_R_shown 59 = .ok (.iadd, 1) := by decide +kernel
theorem dc_R_shown_60 : decode bb_R_shown 60 = .ok (.istore 6, 2) := by decide +kernel
theorem dc_R_shown_62 : decode bb_R_shown 62 = .ok (.aload_n 0, 1) := by decide +kernel
theorem dc_R_shown_63 : decode bb_R_shown 63 = .ok (.iload_n 1, 1) := by decide +kernel
theorem dc_R_shown_64 : decode bb_R_shown 64 = .ok (.iload 5, 2) := by decide +kernel
theorem dc_R_shown_66 : decode bb_R_shown 66 = .ok (.invokevirtual 146, 3) := by decide +kernel
theorem dc_R_shown_69 : decode bb_R_shown 69 = .ok (.istore 7, 2) := by decide +kernel
theorem dc_R_shown_71 : decode bb_R_shown 71 = .ok (.iload_n 3, 1) := by decide +kernel
theorem dc_R_shown_72 : decode bb_R_shown 72 = .ok (.iload 6, 2) := by decide +kernel
theorem dc_R_shown_74 : decode bb_R_shown 74 = .ok (.if_icmp .lt 15, 3) := by decide +kernel
theorem dc_R_shown_77 : decode bb_R_shown 77 = .ok (.iload_n 3, 1) := by decide +kernel
theorem dc_R_shown_78 : decode bb_R_shown 78 = .ok (.iload 6, 2) := by decide +kernel
theorem dc_R_shown_80 : decode bb_R_shown 80 = .ok (.iload 7, 2) := by decide +kernel
theorem dc_R_shown_82 : decode bb_R_shown 82 = .ok (.iadd, 1) := by decide +kernel
theorem dc_R_shown_83 : decode bb_R_shown 83 = .ok (.if_icmp .ge 6, 3) := by decide +kernel
theorem dc_R_shown_86 : decode bb_R_shown 86 = .ok (.iload 5, 2) := by decide +kernel
theorem dc_R_shown_88 : decode bb_R_shown 88 = .ok (.ireturn, 1) := by decide +kernel
theorem dc_R_shown_89 : decode bb_R_shown 89 = .ok (.iload 4, 2) := by decide +kernel
theorem dc_R_shown_91 : decode bb_R_shown 91 = .ok (.iload 7, 2) := by decide +kernel
theorem dc_R_shown_93 : decode bb_R_shown 93 = .ok (.iadd, 1) := by decide +kernel
theorem dc_R_shown_94 : decode bb_R_shown 94 = .ok (.istore 4, 2) := by decide +kernel
theorem dc_R_shown_96 : decode bb_R_shown 96 = .ok (.iinc 5 1, 3) := by decide +kernel
theorem dc_R_shown_99 : decode bb_R_shown 99 = .ok (.goto (-59), 3) := by decide +kernel
theorem dc_R_shown_102 : decode bb_R_shown 102 = .ok (.sipush (-1000), 3) := by decide +kernel
theorem dc_R_shown_105 : decode bb_R_shown 105 = .ok (.ireturn, 1) := by decide +kernel
theorem dc_R_mediaTime_0 : decode bb_R_mediaTime 0 = .ok (.aload_n 0, 1) := by decide +kernel
theorem dc_R_mediaTime_1 : decode bb_R_mediaTime 1 = .ok (.getfield 40, 3) := by decide +kernel
theorem dc_R_mediaTime_4 : decode bb_R_mediaTime 4 = .ok (.bipush 8, 2) := by decide +kernel
theorem dc_R_mediaTime_6 : decode bb_R_mediaTime 6 = .ok (.iload_n 1, 1) := by decide +kernel
theorem dc_R_mediaTime_7 : decode bb_R_mediaTime 7 = .ok (.imul, 1) := by decide +kernel
theorem dc_R_mediaTime_8 : decode bb_R_mediaTime 8 = .ok (.bipush 7, 2) := by decide +kernel
theorem dc_R_mediaTime_10 : decode bb_R_mediaTime 10 = .ok (.iadd, 1) := by decide +kernel
theorem dc_R_mediaTime_11 : decode bb_R_mediaTime 11 = .ok (.iaload, 1) := by decide +kernel
theorem dc_R_mediaTime_12 : decode bb_R_mediaTime 12 = .ok (.istore_n 3, 1) := by decide +kernel
theorem dc_R_mediaTime_13 : decode bb_R_mediaTime 13 = .ok (.iload_n 3, 1) := by decide +kernel
theorem dc_R_mediaTime_14 : decode bb_R_mediaTime 14 = .ok (.ifCond .ge 5, 3) := by decide +kernel
theorem dc_R_mediaTime_17 : decode bb_R_mediaTime 17 = .ok (.iload_n 2, 1) := by decide +kernel
theorem dc_R_mediaTime_18 : decode bb_R_mediaTime 18 = .ok (.ireturn, 1) := by decide +kernel
theorem dc_R_mediaTime_19 : decode bb_R_mediaTime 19 = .ok (.iconst 0, 1) := by decide +kernel
theorem dc_R_mediaTime_20 : decode bb_R_mediaTime 20 = .ok (.istore 4, 2) := by decide +kernel
theorem dc_R_mediaTime_22 : decode bb_R_mediaTime 22 = .ok (.iconst 0, 1) := by decide +kernel
theorem dc_R_mediaTime_23 : decode bb_R_mediaTime 23 = .ok (.istore 5, 2) := by decide +kernel
theorem dc_R_mediaTime_25 : decode bb_R_mediaTime 25 = .ok (.iload 5, 2) := by decide +kernel
theorem dc_R_mediaTime_27 : decode bb_R_mediaTime 27 = .ok (.aload_n 0, 1) := by decide +kernel
theorem dc_R_mediaTime_28 : decode bb_R_mediaTime 28 = .ok (.iload_n 3, 1) := by decide +kernel
theorem dc_R_mediaTime_29 : decode bb_R_mediaTime 29 = .ok (.iconst 0, 1) := by decide +kernel
theorem dc_R_mediaTime_30 : decode bb_R_mediaTime 30 = .ok (.invokevirtual 106, 3) := by decide +kernel
theorem dc_R_mediaTime_33 : decode bb_R_mediaTime 33 = .ok (.if_icmp .ge 73, 3) := by decide +kernel
theorem dc_R_mediaTime_36 : decode bb_R_mediaTime 36 = .ok (.aload_n 0, 1) := by decide +kernel
theorem dc_R_mediaTime_37 : decode bb_R_mediaTime 37 = .ok (.iload_n 3, 1) := by decide +kernel
theorem dc_R_mediaTime_38 : decode bb_R_mediaTime 38 = .ok (.iconst 1, 1) := by decide +kernel
theorem dc_R_mediaTime_39 : decode bb_R_mediaTime 39 = .ok (.iconst 2, 1) := by decide +kernel
theorem dc_R_mediaTime_40 : decode bb_R_mediaTime 40 = .ok (.iload 5, 2) := by decide +kernel
theorem dc_R_mediaTime_42 : decode bb_R_mediaTime 42 = .ok (.imul, 1) := by decide +kernel
theorem dc_R_mediaTime_43 : decode bb_R_mediaTime 43 = .ok (.iadd, 1) := by decide +kernel
theorem dc_R_mediaTime_44 : decode bb_R_mediaTime 44 = .ok (.invokevirtual 106, 3) := by decide +kernel
theorem dc_R_mediaTime_47 : decode bb_R_mediaTime 47 = .ok (.istore 6, 2) := by decide +kernel
theorem dc_R_mediaTime_49 : decode bb_R_mediaTime 49 = .ok (.iload_n 2, 1) := by decide +kernel
theorem dc_R_mediaTime_50 : decode bb_R_mediaTime 50 = .ok (.iload 4, 2) := by decide +kernel
theorem dc_R_mediaTime_52 : decode bb_R_mediaTime 52 = .ok (.iload 6, 2) := by decide +kernel
theorem dc_R_mediaTime_54 : decode bb_R_mediaTime 54 = .ok (.iadd, 1) := by decide +kernel
theorem dc_R_mediaTime_55 : decode bb_R_mediaTime 55 = .ok (.if_icmp .ge 38, 3) := by decide +kernel
theorem dc_R_mediaTime_58 : decode bb_R_mediaTime 58 = .ok (.aload_n 0, 1) := by decide +kernel
theorem dc_R_mediaTime_59 : decode bb_R_mediaTime 59 = .ok (.iload_n 3, 1) := by decide +kernel
theorem dc_R_mediaTime_60 : decode bb_R_mediaTime 60 = .ok (.iconst 2, 1) := by decide +kernel
theorem dc_R_mediaTime_61 : decode bb_R_mediaTime 61 = .ok (.iconst 2, 1) := by decide +kernel
theorem dc_R_mediaTime_62 : decode bb_R_mediaTime 62 = .ok (.iload 5, 2) := by decide +kernel
theorem dc_R_mediaTime_64 : decode bb_R_mediaTime 64 = .ok (.imul, 1) := by decide +kernel
theorem dc_R_mediaTime_65 : decode bb_R_mediaTime 65 = .ok (.iadd, 1) := by decide +kernel
theorem dc_R_mediaTime_66 : decode bb_R_mediaTime 66 = .ok (.invokevirtual 106, 3) := by decide +kernel
theorem dc_R_mediaTime_69 : decode bb_R_mediaTime 69 = .ok (.istore 7, 2) := by decide +kernel
theorem dc_R_mediaTime_71 : decode bb_R_mediaTime 71 = .ok (.iload 7, 2) := by decide +kernel
theorem dc_R_mediaTime_73 : decode bb_R_mediaTime 73 = .ok (.sipush 255, 3) := by decide +kernel
theorem dc_R_mediaTime_76 : decode bb_R_mediaTime 76 = .ok (.if_icmp .ne 9, 3) := by decide +kernel
theorem dc_R_mediaTime_79 : decode bb_R_mediaTime 79 = .ok (.sipush (-1000), 3) := by decide +kernel
theorem dc_R_mediaTime_82 : decode bb_R_mediaTime 82 = .ok (.goto 10, 3) := by decide +kernel
theorem dc_R_mediaTime_85 : decode bb_R_mediaTime 85 = .ok (.iload 7, 2) := by decide +kernel
theorem dc_R_mediaTime_87 : decode bb_R_mediaTime 87 = .ok (.iload_n 2, 1) := by decide +kernel
theorem dc_R_mediaTime_88 : decode bb_R_mediaTime 88 = .ok (.iadd, 1) := by decide +kernel
theorem dc_R_mediaTime_89 : decode bb_R_mediaTime 89 = .ok (.iload 4, 2) := by decide +kernel
theorem dc_R_mediaTime_91 : decode bb_R_mediaTime 91 = .ok (.isub, 1) := by decide +kernel
theorem dc_R_mediaTime_92 : decode bb_R_mediaTime 92 = .ok (.ireturn, 1) := by decide +kernel
theorem dc_R_mediaTime_93 : decode bb_R_mediaTime 93 = .ok (.iload 4, 2) := by decide +kernel
theorem dc_R_mediaTime_95 : decode bb_R_mediaTime 95 = .ok (.iload 6, 2) := by decide +kernel
theorem dc_R_mediaTime_97 : decode bb_R_mediaTime 97 = .ok (.iadd, 1) := by decide +kernel
theorem dc_R_mediaTime_98 : decode bb_R_mediaTime 98 = .ok (.istore 4, 2) := by decide +kernel
theorem dc_R_mediaTime_100 : decode bb_R_mediaTime 100 = .ok (.iinc 5 1, 3) := by decide +kernel
theorem dc_R_mediaTime_103 : decode bb_R_mediaTime 103 = .ok (.goto (-78), 3) := by decide +kernel
theorem dc_R_mediaTime_106 : decode bb_R_mediaTime 106 = .ok (.sipush (-1000), 3) := by decide +kernel
theorem dc_R_mediaTime_109 : decode bb_R_mediaTime 109 = .ok (.ireturn, 1) := by decide +kernel
theorem dc_R_fastStart_0 : decode bb_R_fastStart 0 = .ok (.aload_n 0, 1) := by decide +kernel
theorem dc_R_fastStart_1 : decode bb_R_fastStart 1 = .ok (.invokevirtual 137, 3) := by decide +kernel
theorem dc_R_fastStart_4 : decode bb_R_fastStart 4 = .ok (.istore_n 1, 1) := by decide +kernel
theorem dc_R_fastStart_5 : decode bb_R_fastStart 5 = .ok (.iload_n 1, 1) := by decide +kernel
theorem dc_R_fastStart_6 : decode bb_R_fastStart 6 = .ok (.ifCond .le 5, 3) := by decide +kernel
theorem dc_R_fastStart_9 : decode bb_R_fastStart 9 = .ok (.iconst (-1), 1) := by decide +kernel
theorem dc_R_fastStart_10 : decode bb_R_fastStart 10 = .ok (.ireturn, 1) := by decide +kernel
theorem dc_R_fastStart_11 : decode bb_R_fastStart 11 = .ok (.aload_n 0, 1) := by decide +kernel
theorem dc_R_fastStart_12 : decode bb_R_fastStart 12 = .ok (.invokevirtual 168, 3) := by decide +kernel
theorem dc_R_fastStart_15 : decode bb_R_fastStart 15 = .ok (.istore_n 2, 1) := by decide +kernel
theorem dc_R_fastStart_16 : decode bb_R_fastStart 16 = .ok (.iload_n 2, 1) := by decide +kernel
theorem dc_R_fastStart_17 : decode bb_R_fastStart 17 = .ok (.ifCond .lt 11, 3) := by decide +kernel
theorem dc_R_fastStart_20 : decode bb_R_fastStart 20 = .ok (.iload_n 2, 1) := by decide +kernel
theorem dc_R_fastStart_21 : decode bb_R_fastStart 21 = .ok (.aload_n 0, 1) := by decide +kernel
theorem dc_R_fastStart_22 : decode bb_R_fastStart 22 = .ok (.getfield 96, 3) := by decide +kernel
theorem dc_R_fastStart_25 : decode bb_R_fastStart 25 = .ok (.if_icmp .le 13, 3) := by decide +kernel
theorem dc_R_fastStart_28 : decode bb_R_fastStart 28 = .ok (.aload_n 0, 1) := by decide +kernel
theorem dc_R_fastStart_29 : decode bb_R_fastStart 29 = .ok (.getfield 16, 3) := by decide +kernel
theorem dc_R_fastStart_32 : decode bb_R_fastStart 32 = .ok (.aload_n 0, 1) := by decide +kernel
theorem dc_R_fastStart_33 : decode bb_R_fastStart 33 = .ok (.getfield 96, 3) := by decide +kernel
theorem dc_R_fastStart_36 : decode bb_R_fastStart 36 = .ok (.iaload, 1) := by decide +kernel
theorem dc_R_fastStart_37 : decode bb_R_fastStart 37 = .ok (.ireturn, 1) := by decide +kernel
theorem dc_R_fastStart_38 : decode bb_R_fastStart 38 = .ok (.iconst (-1), 1) := by decide +kernel
theorem dc_R_fastStart_39 : decode bb_R_fastStart 39 = .ok (.istore_n 3, 1) := by decide +kernel
theorem dc_R_fastStart_40 : decode bb_R_fastStart 40 = .ok (.iconst 0, 1) := by decide +kernel
theorem dc_R_fastStart_41 : decode bb_R_fastStart 41 = .ok (.istore 4, 2) := by decide +kernel
theorem dc_R_fastStart_43 : decode bb_R_fastStart 43 = .ok (.iload 4, 2) := by decide +kernel
theorem dc_R_fastStart_45 : decode bb_R_fastStart 45 = .ok (.iconst 4, 1) := by decide +kernel
theorem dc_R_fastStart_46 : decode bb_R_fastStart 46 = .ok (.if_icmp .ge 35, 3) := by decide +kernel
theorem dc_R_fastStart_49 : decode bb_R_fastStart 49 = .ok (.aload_n 0, 1) := by decide +kernel
theorem dc_R_fastStart_50 : decode bb_R_fastStart 50 = .ok (.iload 4, 2) := by decide +kernel
theorem dc_R_fastStart_52 : decode bb_R_fastStart 52 = .ok (.invokevirtual 171, 3) := by decide +kernel
theorem dc_R_fastStart_55 : decode bb_R_fastStart 55 = .ok (.istore 5, 2) := by decide +kernel
theorem dc_R_fastStart_57 : decode bb_R_fastStart 57 = .ok (.iload_n 3, 1) := by decide +kernel
theorem dc_R_fastStart_58 : decode bb_R_fastStart 58 = .ok (.ifCond .ge 17, 3) := by decide +kernel
theorem dc_R_fastStart_61 : decode bb_R_fastStart 61 = .ok (.aload_n 0, 1) := by decide +kernel
theorem dc_R_fastStart_62 : decode bb_R_fastStart 62 = .ok (.iload 5, 2) := by decide +kernel
theorem dc_R_fastStart_64 : decode bb_R_fastStart 64 = .ok (.invokevirtual 174, 3) := by decide +kernel
theorem dc_R_fastStart_67 : decode bb_R_fastStart 67 = .ok (.iload 4, 2) := by decide +kernel
theorem dc_R_fastStart_69 : decode bb_R_fastStart 69 = .ok (.if_icmp .ne 6, 3) := by decide +kernel
theorem dc_R_fastStart_72 : decode bb_R_fastStart 72 = .ok (.iload 4, 2) := by decide +kernel
theorem dc_R_fastStart_74 : decode bb_R_fastStart 74 = .ok (.istore_n 3, 1) := by decide +kernel
theorem dc_R_fastStart_75 : decode bb_R_fastStart 75 = .ok (.iinc 4 1, 3) := by decide +kernel
theorem dc_R_fastStart_78 : decode bb_R_fastStart 78 = .ok (.goto (-35), 3) := by decide +kernel
theorem dc_R_fastStart_81 : decode bb_R_fastStart 81 = .ok (.aload_n 0, 1) := by decide +kernel
theorem dc_R_fastStart_82 : decode bb_R_fastStart 82 = .ok (.iload_n 3, 1) := by decide +kernel
theorem dc_R_fastStart_83 : decode bb_R_fastStart 83 = .ok (.invokevirtual 171, 3) := by decide +kernel
theorem dc_R_fastStart_86 : decode bb_R_fastStart 86 = .ok (.istore 4, 2) := by decide +kernel
theorem dc_R_fastStart_88 : decode bb_R_fastStart 88 = .ok (.aload_n 0, 1) := by decide +kernel
theorem dc_R_fastStart_89 : decode bb_R_fastStart 89 = .ok (.getfield 58, 3) := by decide +kernel
theorem dc_R_fastStart_92 : decode bb_R_fastStart 92 = .ok (.aload_n 0, 1) := by decide +kernel
theorem dc_R_fastStart_93 : decode bb_R_fastStart 93 = .ok (.getfield 16, 3) := by decide +kernel
theorem dc_R_fastStart_96 : decode bb_R_fastStart 96 = .ok (.aload_n 0, 1) := by decide +kernel
theorem dc_R_fastStart_97 : decode bb_R_fastStart 97 = .ok (.getfield 96, 3) := by decide +kernel
theorem dc_R_fastStart_100 : decode bb_R_fastStart 100 = .ok (.iaload, 1) := by decide +kernel
theorem dc_R_fastStart_101 : decode bb_R_fastStart 101 = .ok (.isub, 1) := by decide +kernel
theorem dc_R_fastStart_102 : decode bb_R_fastStart 102 = .ok (.iload 4, 2) := by decide +kernel
theorem dc_R_fastStart_104 : decode bb_R_fastStart 104 = .ok (.iadd, 1) := by decide +kernel
theorem dc_R_fastStart_105 : decode bb_R_fastStart 105 = .ok (.sipush 1000, 3) := by decide +kernel
theorem dc_R_fastStart_108 : decode bb_R_fastStart 108 = .ok (.if_icmp .le 6, 3) := by decide +kernel
theorem dc_R_fastStart_111 : decode bb_R_fastStart 111 = .ok (.bipush (-2), 2) := by decide +kernel
theorem dc_R_fastStart_113 : decode bb_R_fastStart 113 = .ok (.ireturn, 1) := by decide +kernel
theorem dc_R_fastStart_114 : decode bb_R_fastStart 114 = .ok (.aload_n 0, 1) := by decide +kernel
theorem dc_R_fastStart_115 : decode bb_R_fastStart 115 = .ok (.aload_n 0, 1) := by decide +kernel
theorem dc_R_fastStart_116 : decode bb_R_fastStart 116 = .ok (.getfield 13, 3) := by decide +kernel
theorem dc_R_fastStart_119 : decode bb_R_fastStart 119 = .ok (.iload_n 2, 1) := by decide +kernel
theorem dc_R_fastStart_120 : decode bb_R_fastStart 120 = .ok (.iaload, 1) := by decide +kernel
theorem dc_R_fastStart_121 : decode bb_R_fastStart 121 = .ok (.iload_n 3, 1) := by decide +kernel
theorem dc_R_fastStart_122 : decode bb_R_fastStart 122 = .ok (.iload 4, 2) := by decide +kernel
theorem dc_R_fastStart_124 : decode bb_R_fastStart 124 = .ok (.invokevirtual 177, 3) := by decide +kernel
theorem dc_R_fastStart_127 : decode bb_R_fastStart 127 = .ok (.iload 4, 2) := by decide +kernel
theorem dc_R_fastStart_129 : decode bb_R_fastStart 129 = .ok (.ireturn, 1) := by decide +kernel
theorem dc_R_firstData_0 : decode bb_R_firstData 0 = .ok (.iconst 0, 1) := by decide +kernel
theorem dc_R_firstData_1 : decode bb_R_firstData 1 = .ok (.istore_n 1, 1) := by decide +kernel
theorem dc_R_firstData_2 : decode bb_R_firstData 2 = .ok (.iload_n 1, 1) := by decide +kernel
theorem dc_R_firstData_3 : decode bb_R_firstData 3 = .ok (.aload_n 0, 1) := by decide +kernel
theorem dc_R_firstData_4 : decode bb_R_firstData 4 = .ok (.getfield 64, 3) := by decide +kernel
theorem dc_R_firstData_7 : decode bb_R_firstData 7 = .ok (.if_icmp .ge 31, 3) := by decide +kernel
theorem dc_R_firstData_10 : decode bb_R_firstData 10 = .ok (.aload_n 0, 1) := by decide +kernel
theorem dc_R_firstData_11 : decode bb_R_firstData 11 = .ok (.getfield 25, 3) := by decide +kernel
theorem dc_R_firstData_14 : decode bb_R_firstData 14 = .ok (.iload_n 1, 1) := by decide +kernel
theorem dc_R_firstData_15 : decode bb_R_firstData 15 = .ok (.iaload, 1) := by decide +kernel
theorem dc_R_firstData_16 : decode bb_R_firstData 16 = .ok (.ifCond .ne 16, 3) := by decide +kernel
theorem dc_R_firstData_19 : decode bb_R_firstData 19 = .ok (.aload_n 0, 1) := by decide +kernel
theorem dc_R_firstData_20 : decode bb_R_firstData 20 = .ok (.getfield 19, 3) := by decide +kernel
theorem dc_R_firstData_23 : decode bb_R_firstData 23 = .ok (.iload_n 1, 1) := by decide +kernel
theorem dc_R_firstData_24 : decode bb_R_firstData 24 = .ok (.iaload, 1) := by decide +kernel
theorem dc_R_firstData_25 : decode bb_R_firstData 25 = .ok (.bipush 68, 2) := by decide +kernel
theorem dc_R_firstData_27 : decode bb_R_firstData 27 = .ok (.if_icmp .ne 5, 3) := by decide +kernel
theorem dc_R_firstData_30 : decode bb_R_firstData 30 = .ok (.iload_n 1, 1) := by decide +kernel
theorem dc_R_firstData_31 : decode bb_R_firstData 31 = .ok (.ireturn, 1) := by decide +kernel
theorem dc_R_firstData_32 : decode bb_R_firstData 32 = .ok (.iinc 1 1, 3) := by decide +kernel
theorem dc_R_firstData_35 : decode bb_R_firstData 35 = .ok (.goto (-33), 3) := by decide +kernel
theorem dc_R_firstData_38 : decode bb_R_firstData 38 = .ok (.iconst (-1), 1) := by decide +kernel
theorem dc_R_firstData_39 : decode bb_R_firstData 39 = .ok (.ireturn, 1) := by decide +kernel
theorem dc_R_layout_0 : decode bb_R_layout 0 = .ok (.iconst 0, 1) := by decide +kernel
theorem dc_R_layout_1 : decode bb_R_layout 1 = .ok (.istore_n 2, 1) := by decide +kernel
theorem dc_R_layout_2 : decode bb_R_layout 2 = .ok (.iload_n 2, 1) := by decide +kernel
theorem dc_R_layout_3 : decode bb_R_layout 3 = .ok (.aload_n 0, 1) := by decide +kernel
theorem dc_R_layout_4 : decode bb_R_layout 4 = .ok (.getfield 64, 3) := by decide +kernel
theorem dc_R_layout_7 : decode bb_R_layout 7 = .ok (.if_icmp .ge 16, 3) := by decide +kernel
theorem dc_R_layout_10 : decode bb_R_layout 10 = .ok (.aload_n 0, 1) := by decide +kernel
theorem dc_R_layout_11 : decode bb_R_layout 11 = .ok (.getfield 52, 3) := by decide +kernel
theorem dc_R_layout_14 : decode bb_R_layout 14 = .ok (.iload_n 2, 1) := by decide +kernel
theorem dc_R_layout_15 : decode bb_R_layout 15 = .ok (.iconst 0, 1) := by decide +kernel
theorem dc_R_layout_16 : decode bb_R_layout 16 = .ok (.iastore, 1) := by decide +kernel
theorem dc_R_layout_17 : decode bb_R_layout 17 = .ok (.iinc 2 1, 3) := by decide +kernel
theorem dc_R_layout_20 : decode bb_R_layout 20 = .ok (.goto (-18), 3) := by decide +kernel
theorem dc_R_layout_23 : decode bb_R_layout 23 = .ok (.aload_n 0, 1) := by decide +kernel
theorem dc_R_layout_24 : decode bb_R_layout 24 = .ok (.getfield 64, 3) := by decide +kernel
theorem dc_R_layout_27 : decode bb_R_layout 27 = .ok (.iconst 1, 1) := by decide +kernel
theorem dc_R_layout_28 : decode bb_R_layout 28 = .ok (.isub, 1) := by decide +kernel
theorem dc_R_layout_29 : decode bb_R_layout 29 = .ok (.istore_n 2, 1) := by decide +kernel
theorem dc_R_layout_30 : decode bb_R_layout 30 = .ok (.iload_n 2, 1) := by decide +kernel
theorem dc_R_layout_31 : decode bb_R_layout 31 = .ok (.aload_n 0, 1) := by decide +kernel
theorem dc_R_layout_32 : decode bb_R_layout 32 = .ok (.getfield 96, 3) := by decide +kernel
theorem dc_R_layout_35 : decode bb_R_layout 35 = .ok (.if_icmp .lt 202, 3) := by decide +kernel
theorem dc_R_layout_38 : decode bb_R_layout 38 = .ok (.iload_n 2, 1) := by decide +kernel
theorem dc_R_layout_39 : decode bb_R_layout 39 = .ok (.aload_n 0, 1) := by decide +kernel
theorem dc_R_layout_40 : decode bb_R_layout 40 = .ok (.getfield 96, 3) := by decide +kernel
theorem dc_R_layout_43 : decode bb_R_layout 43 = .ok (.if_icmp .eq 12, 3) := by decide +kernel
theorem dc_R_layout_46 : decode bb_R_layout 46 = .ok (.aload_n 0, 1) := by decide +kernel
theorem dc_R_layout_47 : decode bb_R_layout 47 = .ok (.getfield 25, 3) := by decide +kernel
theorem dc_R_layout_50 : decode bb_R_layout 50 = .ok (.iload_n 2, 1) := by decide +kernel
theorem dc_R_layout_51 : decode bb_R_layout 51 = .ok (.iaload, 1) := by decide +kernel
theorem dc_R_layout_52 : decode bb_R_layout 52 = .ok (.ifCond .le 179, 3) := by decide +kernel
theorem dc_R_layout_55 : decode bb_R_layout 55 = .ok (.aload_n 0, 1) := by decide +kernel
theorem dc_R_layout_56 : decode bb_R_layout 56 = .ok (.iload_n 2, 1) := by decide +kernel
theorem dc_R_layout_57 : decode bb_R_layout 57 = .ok (.invokevirtual 71, 3) := by decide +kernel
theorem dc_R_layout_60 : decode bb_R_layout 60 = .ok (.ifCond .eq 12, 3) := by decide +kernel
theorem dc_R_layout_63 : decode bb_R_layout 63 = .ok (.aload_n 0, 1) := by decide +kernel
theorem dc_R_layout_64 : decode bb_R_layout 64 = .ok (.getfield 52, 3) := by decide +kernel
theorem dc_R_layout_67 : decode bb_R_layout 67 = .ok (.iload_n 2, 1) := by decide +kernel
theorem dc_R_layout_68 : decode bb_R_layout 68 = .ok (.iaload, 1) := by decide +kernel
theorem dc_R_layout_69 : decode bb_R_layout 69 = .ok (.goto 8, 3) := by decide +kernel
theorem dc_R_layout_72 : decode bb_R_layout 72 = .ok (.aload_n 0, 1) := by decide +kernel
theorem dc_R_layout_73 : decode bb_R_layout 73 = .ok (.iload_n 2, 1) := by decide +kernel
theorem dc_R_layout_74 : decode bb_R_layout 74 = .ok (.invokevirtual 103, 3) := by decide +kernel
theorem dc_R_layout_77 : decode bb_R_layout 77 = .ok (.istore_n 3, 1) := by decide +kernel
theorem dc_R_layout_78 : decode bb_R_layout 78 = .ok (.iconst 0, 1) := by decide +kernel
theorem dc_R_layout_79 : decode bb_R_layout 79 = .ok (.istore 4, 2) := by decide +kernel
theorem dc_R_layout_81 : decode bb_R_layout 81 = .ok (.iload 4, 2) := by decide +kernel
theorem dc_R_layout_83 : decode bb_R_layout 83 = .ok (.aload_n 0, 1) := by decide +kernel
theorem dc_R_layout_84 : decode bb_R_layout 84 = .ok (.getfield 83, 3) := by decide +kernel
theorem dc_R_layout_87 : decode bb_R_layout 87 = .ok (.if_icmp .ge 62, 3) := by decide +kernel
theorem dc_R_layout_90 : decode bb_R_layout 90 = .ok (.iload_n 1, 1) := by decide +kernel
theorem dc_R_layout_91 : decode bb_R_layout 91 = .ok (.iload 4, 2) := by decide +kernel
theorem dc_R_layout_93 : decode bb_R_layout 93 = .ok (.ishr, 1) := by decide +kernel
theorem dc_R_layout_94 : decode bb_R_layout 94 = .ok (.iconst 1, 1) := by decide +kernel
theorem dc_R_layout_95 : decode bb_R_layout 95 = .ok (.iand, 1) := by decide +kernel
theorem dc_R_layout_96 : decode bb_R_layout 96 = .ok (.iconst 1, 1) := by decide +kernel
theorem dc_R_layout_97 : decode bb_R_layout 97 = .ok (.if_icmp .ne 23, 3) := by decide +kernel
theorem dc_R_layout_100 : decode bb_R_layout 100 = .ok (.aload_n 0, 1) := by decide +kernel
theorem dc_R_layout_101 : decode bb_R_layout 101 = .ok (.getfield 40, 3) := by decide +kernel
theorem dc_R_layout_104 : decode bb_R_layout 104 = .ok (.bipush 8, 2) := by decide +kernel
theorem dc_R_layout_106 : decode bb_R_layout 106 = .ok (.iload 4, 2) := by decide +kernel
theorem dc_R_layout_108 : decode bb_R_layout 108 = .ok (.imul, 1) := by decide +kernel
theorem dc_R_layout_109 : decode bb_R_layout 109 = .ok (.iconst 4, 1) := by decide +kernel
theorem dc_R_layout_110 : decode bb_R_layout 110 = .ok (.iadd, 1) := by decide +kernel
theorem dc_R_layout_111 : decode bb_R_layout 111 = .ok (.iaload, 1) := by decide +kernel
theorem dc_R_layout_112 : decode bb_R_layout 112 = .ok (.iload_n 2, 1) := by decide +kernel
theorem dc_R_layout_113 : decode bb_R_layout 113 = .ok (.if_icmp .ne 7, 3) := by decide +kernel
theorem dc_R_layout_116 : decode bb_R_layout 116 = .ok (.iconst 1, 1) := by decide +kernel
theorem dc_R_layout_117 : decode bb_R_layout 117 = .ok (.goto 4, 3) := by decide +kernel
theorem dc_R_layout_120 : decode bb_R_layout 120 = .ok (.iconst 0, 1) := by decide +kernel
theorem dc_R_layout_121 : decode bb_R_layout 121 = .ok (.istore 5, 2) := by decide +kernel
theorem dc_R_layout_123 : decode bb_R_layout 123 = .ok (.iload 5, 2) := by decide +kernel
theorem dc_R_layout_125 : decode bb_R_layout 125 = .ok (.ifCond .eq 16, 3) := by decide +kernel
theorem dc_R_layout_128 : decode bb_R_layout 128 = .ok (.iconst 1, 1) := by decide +kernel
theorem dc_R_layout_129 : decode bb_R_layout 129 = .ok (.iconst 2, 1) := by decide +kernel
theorem dc_R_layout_130 : decode bb_R_layout 130 = .ok (.aload_n 0, 1) := by decide +kernel
theorem dc_R_layout_131 : decode bb_R_layout 131 = .ok (.iload_n 2, 1) := by decide +kernel
theorem dc_R_layout_132 : decode bb_R_layout 132 = .ok (.iconst 0, 1) := by decide +kernel
theorem dc_R_layout_133 : decode bb_R_layout 133 = .ok (.invokevirtual 106, 3) := by decide +kernel
theorem dc_R_layout_136 : decode bb_R_layout 136 = .ok (.imul, 1) := by decide +kernel
theorem dc_R_layout_137 : decode bb_R_layout 137 = .ok (.iadd, 1) := by decide +kernel
theorem dc_R_layout_138 : decode bb_R_layout 138 = .ok (.goto 4, 3) := by decide +kernel
theorem dc_R_layout_141 : decode bb_R_layout 141 = .ok (.iload_n 3, 1) := by decide +kernel
theorem dc_R_layout_142 : decode bb_R_layout 142 = .ok (.istore_n 3, 1) := by decide +kernel
theorem dc_R_layout_143 : decode bb_R_layout 143 = .ok (.iinc 4 1, 3) := by decide +kernel
theorem dc_R_layout_146 : decode bb_R_layout 146 = .ok (.goto (-65), 3) := by decide +kernel
theorem dc_R_layout_149 : decode bb_R_layout 149 = .ok (.aload_n 0, 1) := by decide +kernel
theorem dc_R_layout_150 : decode bb_R_layout 150 = .ok (.getfield 46, 3) := by decide +kernel
theorem dc_R_layout_153 : decode bb_R_layout 153 = .ok (.iload_n 2, 1) := by decide +kernel
theorem dc_R_layout_154 : decode bb_R_layout 154 = .ok (.aload_n 0, 1) := by decide +kernel
theorem dc_R_layout_155 : decode bb_R_layout 155 = .ok (.getfield 22, 3) := by decide +kernel
theorem dc_R_layout_158 : decode bb_R_layout 158 = .ok (.iload_n 2, 1) := by decide +kernel
theorem dc_R_layout_159 : decode bb_R_layout 159 = .ok (.iaload, 1) := by decide +kernel
theorem dc_R_layout_160 : decode bb_R_layout 160 = .ok (.iconst 4, 1) := by decide +kernel
theorem dc_R_layout_161 : decode bb_R_layout 161 = .ok (.if_icmp .eq 12, 3) := by decide +kernel
theorem dc_R_layout_164 : decode bb_R_layout 164 = .ok (.iload_n 3, 1) := by decide +kernel
theorem dc_R_layout_165 : decode bb_R_layout 165 = .ok (.iconst 2, 1) := by decide +kernel
theorem dc_R_layout_166 : decode bb_R_layout 166 = .ok (.iadd, 1) := by decide +kernel
theorem dc_R_layout_167 : decode bb_R_layout 167 = .ok (.sipush 255, 3) := by decide +kernel
theorem dc_R_layout_170 : decode bb_R_layout 170 = .ok (.if_icmp .le 7, 3) := by decide +kernel
theorem dc_R_layout_173 : decode bb_R_layout 173 = .ok (.iconst 4, 1) := by decide +kernel
theorem dc_R_layout_174 : decode bb_R_layout 174 = .ok (.goto 4, 3) := by decide +kernel
theorem dc_R_layout_177 : decode bb_R_layout 177 = .ok (.iconst 2, 1) := by decide +kernel
theorem dc_R_layout_178 : decode bb_R_layout 178 = .ok (.iastore, 1) := by decide +kernel
theorem dc_R_layout_179 : decode bb_R_layout 179 = .ok (.aload_n 0, 1) := by decide +kernel
theorem dc_R_layout_180 : decode bb_R_layout 180 = .ok (.getfield 49, 3) := by decide +kernel
theorem dc_R_layout_183 : decode bb_R_layout 183 = .ok (.iload_n 2, 1) := by decide +kernel
theorem dc_R_layout_184 : decode bb_R_layout 184 = .ok (.aload_n 0, 1) := by decide +kernel
theorem dc_R_layout_185 : decode bb_R_layout 185 = .ok (.getfield 46, 3) := by decide +kernel
theorem dc_R_layout_188 : decode bb_R_layout 188 = .ok (.iload_n 2, 1) := by decide +kernel
theorem dc_R_layout_189 : decode bb_R_layout 189 = .ok (.iaload, 1) := by decide +kernel
theorem dc_R_layout_190 : decode bb_R_layout 190 = .ok (.iload_n 3, 1) := by decide +kernel
theorem dc_R_layout_191 : decode bb_R_layout 191 = .ok (.iadd, 1) := by decide +kernel
theorem dc_R_layout_192 : decode bb_R_layout 192 = .ok (.iastore, 1) := by decide +kernel
theorem dc_R_layout_193 : decode bb_R_layout 193 = .ok (.aload_n 0, 1) := by decide +kernel
theorem dc_R_layout_194 : decode bb_R_layout 194 = .ok (.getfield 28, 3) := by decide +kernel
theorem dc_R_layout_197 : decode bb_R_layout 197 = .ok (.iload_n 2, 1) := by decide +kernel
theorem dc_R_layout_198 : decode bb_R_layout 198 = .ok (.iaload, 1) := by decide +kernel
theorem dc_R_layout_199 : decode bb_R_layout 199 = .ok (.ifCond .lt 32, 3) := by decide +kernel
theorem dc_R_layout_202 : decode bb_R_layout 202 = .ok (.aload_n 0, 1) := by decide +kernel
theorem dc_R_layout_203 : decode bb_R_layout 203 = .ok (.getfield 52, 3) := by decide +kernel
theorem dc_R_layout_206 : decode bb_R_layout 206 = .ok (.aload_n 0, 1) := by decide +kernel
theorem dc_R_layout_207 : decode bb_R_layout 207 = .ok (.getfield 28, 3) := by decide +kernel
theorem dc_R_layout_210 : decode bb_R_layout 210 = .ok (.iload_n 2, 1) := by decide +kernel
theorem dc_R_layout_211 : decode bb_R_layout 211 = .ok (.iaload, 1) := by decide +kernel
theorem dc_R_layout_212 : decode bb_R_layout 212 = .ok (.aload_n 0, 1) := by decide +kernel
theorem dc_R_layout_213 : decode bb_R_layout 213 = .ok (.getfield 52, 3) := by decide +kernel
theorem dc_R_layout_216 : decode bb_R_layout 216 = .ok (.aload_n 0, 1) := by decide +kernel
theorem dc_R_layout_217 : decode bb_R_layout 217 = .ok (.getfield 28, 3) := by decide +kernel
theorem dc_R_layout_220 : decode bb_R_layout 220 = .ok (.iload_n 2, 1) := by decide +kernel
theorem dc_R_layout_221 : decode bb_R_layout 221 = .ok (.iaload, 1) := by decide +kernel
theorem dc_R_layout_222 : decode bb_R_layout 222 = .ok (.iaload, 1) := by decide +kernel
theorem dc_R_layout_223 : decode bb_R_layout 223 = .ok (.aload_n 0, 1) := by decide +kernel
theorem dc_R_layout_224 : decode bb_R_layout 224 = .ok (.getfield 49, 3) := by decide +kernel
theorem dc_R_layout_227 : decode bb_R_layout 227 = .ok (.iload_n 2, 1) := by decide +kernel
theorem dc_R_layout_228 : decode bb_R_layout 228 = .ok (.iaload, 1) := by decide +kernel
theorem dc_R_layout_229 : decode bb_R_layout 229 = .ok (.iadd, 1) := by decide +kernel
theorem dc_R_layout_230 : decode bb_R_layout 230 = .ok (.iastore, 1) := by decide +kernel
theorem dc_R_layout_231 : decode bb_R_layout 231 = .ok (.iinc 2 (-1), 3) := by decide +kernel
theorem dc_R_layout_234 : decode bb_R_layout 234 = .ok (.goto (-204), 3) := by decide +kernel
theorem dc_R_layout_237 : decode bb_R_layout 237 = .ok (.aload_n 0, 1) := by decide +kernel
theorem dc_R_layout_238 : decode bb_R_layout 238 = .ok (.getfield 49, 3) := by decide +kernel
theorem dc_R_layout_241 : decode bb_R_layout 241 = .ok (.aload_n 0, 1) := by decide +kernel
theorem dc_R_layout_242 : decode bb_R_layout 242 = .ok (.getfield 96, 3) := by decide +kernel
theorem dc_R_layout_245 : decode bb_R_layout 245 = .ok (.iaload, 1) := by decide +kernel
theorem dc_R_layout_246 : decode bb_R_layout 246 = .ok (.ireturn, 1) := by decide +kernel
theorem dc_R_tooNarrow_0 : decode bb_R_tooNarrow 0 = .ok (.iconst 0, 1) := by decide +kernel
theorem dc_R_tooNarrow_1 : decode bb_R_tooNarrow 1 = .ok (.istore_n 2, 1) := by decide +kernel
theorem dc_R_tooNarrow_2 : decode bb_R_tooNarrow 2 = .ok (.iconst 0, 1) := by decide +kernel
theorem dc_R_tooNarrow_3 : decode bb_R_tooNarrow 3 = .ok (.istore_n 3, 1) := by decide +kernel
theorem dc_R_tooNarrow_4 : decode bb_R_tooNarrow 4 = .ok (.iload_n 3, 1) := by decide +kernel
theorem dc_R_tooNarrow_5 : decode bb_R_tooNarrow 5 = .ok (.aload_n 0, 1) := by decide +kernel
theorem dc_R_tooNarrow_6 : decode bb_R_tooNarrow 6 = .ok (.getfield 83, 3) := by decide +kernel
theorem dc_R_tooNarrow_9 : decode bb_R_tooNarrow 9 = .ok (.if_icmp .ge 74, 3) := by decide +kernel
theorem dc_R_tooNarrow_12 : decode bb_R_tooNarrow 12 = .ok (.aload_n 0, 1) := by decide +kernel
theorem dc_R_tooNarrow_13 : decode bb_R_tooNarrow 13 = .ok (.getfield 40, 3) := by decide +kernel
theorem dc_R_tooNarrow_16 : decode bb_R_tooNarrow 16 = .ok (.bipush 8, 2) := by decide +kernel
theorem dc_R_tooNarrow_18 : decode bb_R_tooNarrow 18 = .ok (.iload_n 3, 1) := by decide +kernel
theorem dc_R_tooNarrow_19 : decode bb_R_tooNarrow 19 = .ok (.imul, 1) := by decide +kernel
theorem dc_R_tooNarrow_20 : decode bb_R_tooNarrow 20 = .ok (.iconst 4, 1) := by decide +kernel
theorem dc_R_tooNarrow_21 : decode bb_R_tooNarrow 21 = .ok (.iadd, 1) := by decide +kernel
theorem dc_R_tooNarrow_22 : decode bb_R_tooNarrow 22 = .ok (.iaload, 1) := by decide +kernel
theorem dc_R_tooNarrow_23 : decode bb_R_tooNarrow 23 = .ok (.ifCond .lt 11, 3) := by decide +kernel
theorem dc_R_tooNarrow_26 : decode bb_R_tooNarrow 26 = .ok (.aload_n 0, 1) := by decide +kernel
theorem dc_R_tooNarrow_27 : decode bb_R_tooNarrow 27 = .ok (.iload_n 3, 1) := by decide +kernel
theorem dc_R_tooNarrow_28 : decode bb_R_tooNarrow 28 = .ok (.invokevirtual 116, 3) := by decide +kernel
theorem dc_R_tooNarrow_31 : decode bb_R_tooNarrow 31 = .ok (.goto 4, 3) := by decide +kernel
theorem dc_R_tooNarrow_34 : decode bb_R_tooNarrow 34 = .ok (.iconst 0, 1) := by decide +kernel
theorem dc_R_tooNarrow_35 : decode bb_R_tooNarrow 35 = .ok (.istore 4, 2) := by decide +kernel
theorem dc_R_tooNarrow_37 : decode bb_R_tooNarrow 37 = .ok (.iconst 1, 1) := by decide +kernel
theorem dc_R_tooNarrow_38 : decode bb_R_tooNarrow 38 = .ok (.istore 5, 2) := by decide +kernel
theorem dc_R_tooNarrow_40 : decode bb_R_tooNarrow 40 = .ok (.iload 5, 2) := by decide +kernel
theorem dc_R_tooNarrow_42 : decode bb_R_tooNarrow 42 = .ok (.iload 4, 2) := by decide +kernel
theorem dc_R_tooNarrow_44 : decode bb_R_tooNarrow 44 = .ok (.if_icmp .gt 33, 3) := by decide +kernel
theorem dc_R_tooNarrow_47 : decode bb_R_tooNarrow 47 = .ok (.aload_n 0, 1) := by decide +kernel
theorem dc_R_tooNarrow_48 : decode bb_R_tooNarrow 48 = .ok (.iload_n 3, 1) := by decide +kernel
theorem dc_R_tooNarrow_49 : decode bb_R_tooNarrow 49 = .ok (.iload 5, 2) := by decide +kernel
theorem dc_R_tooNarrow_51 : decode bb_R_tooNarrow 51 = .ok (.iload_n 1, 1) := by decide +kernel
theorem dc_R_tooNarrow_52 : decode bb_R_tooNarrow 52 = .ok (.invokevirtual 165, 3) := by decide +kernel
theorem dc_R_tooNarrow_55 : decode bb_R_tooNarrow 55 = .ok (.sipush 255, 3) := by decide +kernel
theorem dc_R_tooNarrow_58 : decode bb_R_tooNarrow 58 = .ok (.if_icmp .le 11, 3) := by decide +kernel
theorem dc_R_tooNarrow_61 : decode bb_R_tooNarrow 61 = .ok (.iload_n 2, 1) := by decide +kernel
theorem dc_R_tooNarrow_62 : decode bb_R_tooNarrow 62 = .ok (.iconst 1, 1) := by decide +kernel
theorem dc_R_tooNarrow_63 : decode bb_R_tooNarrow 63 = .ok (.iload_n 3, 1) := by decide +kernel
theorem dc_R_tooNarrow_64 : decode bb_R_tooNarrow 64 = .ok (.ishl, 1) := by decide +kernel
theorem dc_R_tooNarrow_65 : decode bb_R_tooNarrow 65 = .ok (.ior, 1) := by decide +kernel
theorem dc_R_tooNarrow_66 : decode bb_R_tooNarrow 66 = .ok (.goto 4, 3) := by decide +kernel
theorem dc_R_tooNarrow_69 : decode bb_R_tooNarrow 69 = .ok (.iload_n 2, 1) := by decide +kernel
theorem dc_R_tooNarrow_70 : decode bb_R_tooNarrow 70 = .ok (.istore_n 2, 1) := by decide +kernel
theorem dc_R_tooNarrow_71 : decode bb_R_tooNarrow 71 = .ok (.iinc 5 1, 3) := by decide +kernel
theorem dc_R_tooNarrow_74 : decode bb_R_tooNarrow 74 = .ok (.goto (-34), 3) := by decide +kernel
theorem dc_R_tooNarrow_77 : decode bb_R_tooNarrow 77 = .ok (.iinc 3 1, 3) := by decide +kernel
theorem dc_R_tooNarrow_80 : decode bb_R_tooNarrow 80 = .ok (.goto (-76), 3) := by decide +kernel
theorem dc_R_tooNarrow_83 : decode bb_R_tooNarrow 83 = .ok (.iload_n 2, 1) := by decide +kernel
theorem dc_R_tooNarrow_84 : decode bb_R_tooNarrow 84 = .ok (.ireturn, 1) := by decide +kernel
theorem dc_R_newPlace_0 : decode bb_R_newPlace 0 = .ok (.aload_n 0, 1) := by decide +kernel
theorem dc_R_newPlace_1 : decode bb_R_newPlace 1 = .ok (.getfield 43, 3) := by decide +kernel
theorem dc_R_newPlace_4 : decode bb_R_newPlace 4 = .ok (.sipush 256, 3) := by decide +kernel
theorem dc_R_newPlace_7 : decode bb_R_newPlace 7 = .ok (.iload_n 1, 1) := by decide +kernel
theorem dc_R_newPlace_8 : decode bb_R_newPlace 8 = .ok (.imul, 1) := by decide +kernel
theorem dc_R_newPlace_9 : decode bb_R_newPlace 9 = .ok (.iload_n 2, 1) := by decide +kernel
theorem dc_R_newPlace_10 : decode bb_R_newPlace 10 = .ok (.iadd, 1) := by decide +kernel
theorem dc_R_newPlace_11 : decode bb_R_newPlace 11 = .ok (.iaload, 1) := by decide +kernel
theorem dc_R_newPlace_12 : decode bb_R_newPlace 12 = .ok (.istore 4, 2) := by decide +kernel
theorem dc_R_newPlace_14 : decode bb_R_newPlace 14 = .ok (.aload_n 0, 1) := by decide +kernel
theorem dc_R_newPlace_15 : decode bb_R_newPlace 15 = .ok (.iload_n 1, 1) := by decide +kernel
theorem dc_R_newPlace_16 : decode bb_R_newPlace 16 = .ok (.iload_n 2, 1) := by decide +kernel
theorem dc_R_newPlace_17 : decode bb_R_newPlace 17 = .ok (.invokevirtual 131, 3) := by decide +kernel
theorem dc_R_newPlace_20 : decode bb_R_newPlace 20 = .ok (.istore 5, 2) := by decide +kernel
theorem dc_R_newPlace_22 : decode bb_R_newPlace 22 = .ok (.aload_n 0, 1) := by decide +kernel
theorem dc_R_newPlace_23 : decode bb_R_newPlace 23 = .ok (.getfield 13, 3) := by decide +kernel
theorem dc_R_newPlace_26 : decode bb_R_newPlace 26 = .ok (.iload 4, 2) := by decide +kernel
theorem dc_R_newPlace_28 : decode bb_R_newPlace 28 = .ok (.iaload, 1) := by decide +kernel
theorem dc_R_newPlace_29 : decode bb_R_newPlace 29 = .ok (.aload_n 0, 1) := by decide +kernel
theorem dc_R_newPlace_30 : decode bb_R_newPlace 30 = .ok (.getfield 13, 3) := by decide +kernel
theorem dc_R_newPlace_33 : decode bb_R_newPlace 33 = .ok (.aload_n 0, 1) := by decide +kernel
theorem dc_R_newPlace_34 : decode bb_R_newPlace 34 = .ok (.getfield 96, 3) := by decide +kernel
theorem dc_R_newPlace_37 : decode bb_R_newPlace 37 = .ok (.iaload, 1) := by decide +kernel
theorem dc_R_newPlace_38 : decode bb_R_newPlace 38 = .ok (.if_icmp .ge 10, 3) := by decide +kernel
theorem dc_R_newPlace_41 : decode bb_R_newPlace 41 = .ok (.iload 5, 2) := by decide +kernel
theorem dc_R_newPlace_43 : decode bb_R_newPlace 43 = .ok (.iload_n 3, 1) := by decide +kernel
theorem dc_R_newPlace_44 : decode bb_R_newPlace 44 = .ok (.iadd, 1) := by decide +kernel
theorem dc_R_newPlace_45 : decode bb_R_newPlace 45 = .ok (.goto 17, 3) := by decide +kernel
theorem dc_R_newPlace_48 : decode bb_R_newPlace 48 = .ok (.iload 5, 2) := by decide +kernel
theorem dc_R_newPlace_50 : decode bb_R_newPlace 50 = .ok (.iload_n 3, 1) := by decide +kernel
theorem dc_R_newPlace_51 : decode bb_R_newPlace 51 = .ok (.iadd, 1) := by decide +kernel
theorem dc_R_newPlace_52 : decode bb_R_newPlace 52 = .ok (.aload_n 0, 1) := by decide +kernel
theorem dc_R_newPlace_53 : decode bb_R_newPlace 53 = .ok (.getfield 16, 3) := by decide +kernel
theorem dc_R_newPlace_56 : decode bb_R_newPlace 56 = .ok (.aload_n 0, 1) := by decide +kernel
theorem dc_R_newPlace_57 : decode bb_R_newPlace 57 = .ok (.getfield 96, 3) := by decide +kernel
theorem dc_R_newPlace_60 : decode bb_R_newPlace 60 = .ok (.iaload, 1) := by decide +kernel
theorem dc_R_newPlace_61 : decode bb_R_newPlace 61 = .ok (.isub, 1) := by decide +kernel
theorem dc_R_newPlace_62 : decode bb_R_newPlace 62 = .ok (.ireturn, 1) := by decide +kernel
theorem dc_R_write_0 : decode bb_R_write 0 = .ok (.aload_n 0, 1) := by decide +kernel
theorem dc_R_write_1 : decode bb_R_write 1 = .ok (.iconst 0, 1) := by decide +kernel
theorem dc_R_write_2 : decode bb_R_write 2 = .ok (.putfield 181, 3) := by decide +kernel
theorem dc_R_write_5 : decode bb_R_write 5 = .ok (.iconst 0, 1) := by decide +kernel
theorem dc_R_write_6 : decode bb_R_write 6 = .ok (.istore 4, 2) := by decide +kernel
theorem dc_R_write_8 : decode bb_R_write 8 = .ok (.iload 4, 2) := by decide +kernel
theorem dc_R_write_10 : decode bb_R_write 10 = .ok (.iload_n 1, 1) := by decide +kernel
theorem dc_R_write_11 : decode bb_R_write 11 = .ok (.if_icmp .ge 20, 3) := by decide +kernel
theorem dc_R_write_14 : decode bb_R_write 14 = .ok (.aload_n 0, 1) := by decide +kernel
theorem dc_R_write_15 : decode bb_R_write 15 = .ok (.aload_n 0, 1) := by decide +kernel
theorem dc_R_write_16 : decode bb_R_write 16 = .ok (.getfield 7, 3) := by decide +kernel
theorem dc_R_write_19 : decode bb_R_write 19 = .ok (.iload 4, 2) := by decide +kernel
theorem dc_R_write_21 : decode bb_R_write 21 = .ok (.iaload, 1) := by decide +kernel
theorem dc_R_write_22 : decode bb_R_write 22 = .ok (.invokevirtual 184, 3) := by decide +kernel
theorem dc_R_write_25 : decode bb_R_write 25 = .ok (.iinc 4 1, 3) := by decide +kernel
theorem dc_R_write_28 : decode bb_R_write 28 = .ok (.goto (-20), 3) := by decide +kernel
theorem dc_R_write_31 : decode bb_R_write 31 = .ok (.iconst 0, 1) := by decide +kernel
theorem dc_R_write_32 : decode bb_R_write 32 = .ok (.istore 4, 2) := by decide +kernel
theorem dc_R_write_34 : decode bb_R_write 34 = .ok (.iload 4, 2) := by decide +kernel
theorem dc_R_write_36 : decode bb_R_write 36 = .ok (.aload_n 0, 1) := by decide +kernel
theorem dc_R_write_37 : decode bb_R_write 37 = .ok (.getfield 64, 3) := by decide +kernel
theorem dc_R_write_40 : decode bb_R_write 40 = .ok (.if_icmp .ge 36, 3) := by decide +kernel
theorem dc_R_write_43 : decode bb_R_write 43 = .ok (.iload 4, 2) := by decide +kernel
theorem dc_R_write_45 : decode bb_R_write 45 = .ok (.aload_n 0, 1) := by decide +kernel
theorem dc_R_write_46 : decode bb_R_write 46 = .ok (.getfield 96, 3) := by decide +kernel
theorem dc_R_write_49 : decode bb_R_write 49 = .ok (.if_icmp .eq 13, 3) := by decide +kernel
theorem dc_R_write_52 : decode bb_R_write 52 = .ok (.aload_n 0, 1) := by decide +kernel
theorem dc_R_write_53 : decode bb_R_write 53 = .ok (.getfield 25, 3) := by decide +kernel
theorem dc_R_write_56 : decode bb_R_write 56 = .ok (.iload 4, 2) := by decide +kernel
theorem dc_R_write_58 : decode bb_R_write 58 = .ok (.iaload, 1) := by decide +kernel
theorem dc_R_write_59 : decode bb_R_write 59 = .ok (.ifCond .le 11, 3) := by decide +kernel
theorem dc_R_write_62 : decode bb_R_write 62 = .ok (.aload_n 0, 1) := by decide +kernel
theorem dc_R_write_63 : decode bb_R_write 63 = .ok (.iload 4, 2) := by decide +kernel
theorem dc_R_write_65 : decode bb_R_write 65 = .ok (.iload_n 2, 1) := by decide +kernel
theorem dc_R_write_66 : decode bb_R_write 66 = .ok (.iload_n 3, 1) := by decide +kernel
theorem dc_R_write_67 : decode bb_R_write 67 = .ok (.invokevirtual 188, 3) := by decide +kernel
theorem dc_R_write_70 : decode bb_R_write 70 = .ok (.iinc 4 1, 3) := by decide +kernel
theorem dc_R_write_73 : decode bb_R_write 73 = .ok (.goto (-39), 3) := by decide +kernel
theorem dc_R_write_76 : decode bb_R_write 76 = .ok (.iload_n 1, 1) := by decide +kernel
theorem dc_R_write_77 : decode bb_R_write 77 = .ok (.istore 4, 2) := by decide +kernel
theorem dc_R_write_79 : decode bb_R_write 79 = .ok (.iload 4, 2) := by decide +kernel
theorem dc_R_write_81 : decode bb_R_write 81 = .ok (.aload_n 0, 1) := by decide +kernel
theorem dc_R_write_82 : decode bb_R_write 82 = .ok (.getfield 58, 3) := by decide +kernel
theorem dc_R_write_85 : decode bb_R_write 85 = .ok (.if_icmp .ge 58, 3) := by decide +kernel
theorem dc_R_write_88 : decode bb_R_write 88 = .ok (.iload 4, 2) := by decide +kernel
theorem dc_R_write_90 : decode bb_R_write 90 = .ok (.aload_n 0, 1) := by decide +kernel
theorem dc_R_write_91 : decode bb_R_write 91 = .ok (.getfield 13, 3) := by decide +kernel
theorem dc_R_write_94 : decode bb_R_write 94 = .ok (.aload_n 0, 1) := by decide +kernel
theorem dc_R_write_95 : decode bb_R_write 95 = .ok (.getfield 96, 3) := by decide +kernel
theorem dc_R_write_98 : decode bb_R_write 98 = .ok (.iaload, 1) := by decide +kernel
theorem dc_R_write_99 : decode bb_R_write 99 = .ok (.if_icmp .lt 27, 3) := by decide +kernel
theorem dc_R_write_102 : decode bb_R_write 102 = .ok (.iload 4, 2) := by decide +kernel
theorem dc_R_write_104 : decode bb_R_write 104 = .ok (.aload_n 0, 1) := by decide +kernel
theorem dc_R_write_105 : decode bb_R_write 105 = .ok (.getfield 13, 3) := by decide +kernel
theorem dc_R_write_108 : decode bb_R_write 108 = .ok (.aload_n 0, 1) := by decide +kernel
theorem dc_R_write_109 : decode bb_R_write 109 = .ok (.getfield 96, 3) := by decide +kernel
theorem dc_R_write_112 : decode bb_R_write 112 = .ok (.iaload, 1) := by decide +kernel
theorem dc_R_write_113 : decode bb_R_write 113 = .ok (.aload_n 0, 1) := by decide +kernel
theorem dc_R_write_114 : decode bb_R_write 114 = .ok (.getfield 16, 3) := by decide +kernel
theorem dc_R_write_117 : decode bb_R_write 117 = .ok (.aload_n 0, 1) := by decide +kernel
theorem dc_R_write_118 : decode bb_R_write 118 = .ok (.getfield 96, 3) := by decide +kernel
theorem dc_R_write_121 : decode bb_R_write 121 = .ok (.iaload, 1) := by decide +kernel
theorem dc_R_write_122 : decode bb_R_write 122 = .ok (.iadd, 1) := by decide +kernel
theorem dc_R_write_123 : decode bb_R_write 123 = .ok (.if_icmp .lt 14, 3) := by decide +kernel
theorem dc_R_write_126 : decode bb_R_write 126 = .ok (.aload_n 0, 1) := by decide +kernel
theorem dc_R_write_127 : decode bb_R_write 127 = .ok (.aload_n 0, 1) := by decide +kernel
theorem dc_R_write_128 : decode bb_R_write 128 = .ok (.getfield 7, 3) := by decide +kernel
theorem dc_R_write_131 : decode bb_R_write 131 = .ok (.iload 4, 2) := by decide +kernel
theorem dc_R_write_133 : decode bb_R_write 133 = .ok (.iaload, 1) := by decide +kernel
theorem dc_R_write_134 : decode bb_R_write 134 = .ok (.invokevirtual 184, 3) := by decide +kernel
theorem dc_R_write_137 : decode bb_R_write 137 = .ok (.iinc 4 1, 3) := by decide +kernel
theorem dc_R_write_140 : decode bb_R_write 140 = .ok (.goto (-61), 3) := by decide +kernel
theorem dc_R_write_143 : decode bb_R_write 143 = .ok (.aload_n 0, 1) := by decide +kernel
theorem dc_R_write_144 : decode bb_R_write 144 = .ok (.aload_n 0, 1) := by decide +kernel
theorem dc_R_write_145 : decode bb_R_write 145 = .ok (.getfield 181, 3) := by decide +kernel
theorem dc_R_write_148 : decode bb_R_write 148 = .ok (.putfield 58, 3) := by decide +kernel
theorem dc_R_write_151 : decode bb_R_write 151 = .ok (.iconst 0, 1) := by decide +kernel
theorem dc_R_write_152 : decode bb_R_write 152 = .ok (.istore 4, 2) := by decide +kernel
theorem dc_R_write_154 : decode bb_R_write 154 = .ok (.iload 4, 2) := by decide +kernel
theorem dc_R_write_156 : decode bb_R_write 156 = .ok (.aload_n 0, 1) := by decide +kernel
theorem dc_R_write_157 : decode bb_R_write 157 = .ok (.getfield 58, 3) := by decide +kernel
theorem dc_R_write_160 : decode bb_R_write 160 = .ok (.if_icmp .ge 23, 3) := by decide +kernel
theorem dc_R_write_163 : decode bb_R_write 163 = .ok (.aload_n 0, 1) := by decide +kernel
theorem dc_R_write_164 : decode bb_R_write 164 = .ok (.getfield 7, 3) := by decide +kernel
theorem dc_R_write_167 : decode bb_R_write 167 = .ok (.iload 4, 2) := by decide +kernel
theorem dc_R_write_169 : decode bb_R_write 169 = .ok (.aload_n 0, 1) := by decide +kernel
theorem dc_R_write_170 : decode bb_R_write 170 = .ok (.getfield 55, 3) := by decide +kernel
theorem dc_R_write_173 : decode bb_R_write 173 = .ok (.iload 4, 2) := by decide +kernel
theorem dc_R_write_175 : decode bb_R_write 175 = .ok (.iaload, 1) := by decide +kernel
theorem dc_R_write_176 : decode bb_R_write 176 = .ok (.iastore, 1) := by decide +kernel
theorem dc_R_write_177 : decode bb_R_write 177 = .ok (.iinc 4 1, 3) := by decide +kernel
theorem dc_R_write_180 : decode bb_R_write 180 = .ok (.goto (-26), 3) := by decide +kernel
theorem dc_R_write_183 : decode bb_R_write 183 = .ok (.return_, 1) := by decide +kernel
theorem dc_R_put_0 : decode bb_R_put 0 = .ok (.aload_n 0, 1) := by decide +kernel
theorem dc_R_put_1 : decode bb_R_put 1 = .ok (.getfield 55, 3) := by decide +kernel
theorem dc_R_put_4 : decode bb_R_put 4 = .ok (.aload_n 0, 1) := by decide +kernel
theorem dc_R_put_5 : decode bb_R_put 5 = .ok (.getfield 181, 3) := by decide +kernel
theorem dc_R_put_8 : decode bb_R_put 8 = .ok (.iload_n 1, 1) := by decide +kernel
theorem dc_R_put_9 : decode bb_R_put 9 = .ok (.iastore, 1) := by decide +kernel
theorem dc_R_put_10 : decode bb_R_put 10 = .ok (.aload_n 0, 1) := by decide +kernel
theorem dc_R_put_11 : decode bb_R_put 11 = .ok (.dup, 1) := by decide +kernel
theorem dc_R_put_12 : decode bb_R_put 12 = .ok (.getfield 181, 3) := by decide +kernel
theorem dc_R_put_15 : decode bb_R_put 15 = .ok (.iconst 1, 1) := by decide +kernel
theorem dc_R_put_16 : decode bb_R_put 16 = .ok (.iadd, 1) := by decide +kernel
theorem dc_R_put_17 : decode bb_R_put 17 = .ok (.putfield 181, 3) := by decide +kernel
theorem dc_R_put_20 : decode bb_R_put 20 = .ok (.return_, 1) := by decide +kernel
theorem dc_R_writeBox_0 : decode bb_R_writeBox 0 = .ok (.iconst (-1), 1) := by decide +kernel
theorem dc_R_writeBox_1 : decode bb_R_writeBox 1 = .ok (.istore 4, 2) := by decide +kernel
theorem dc_R_writeBox_3 : decode bb_R_writeBox 3 = .ok (.iconst 0, 1) := by decide +kernel
theorem dc_R_writeBox_4 : decode bb_R_writeBox 4 = .ok (.istore 5, 2) := by decide +kernel
theorem dc_R_writeBox_6 : decode bb_R_writeBox 6 = .ok (.iload 5, 2) := by decide +kernel
theorem dc_R_writeBox_8 : decode bb_R_writeBox 8 = .ok (.aload_n 0, 1) := by decide +kernel
theorem dc_R_writeBox_9 : decode bb_R_writeBox 9 = .ok (.getfield 83, 3) := by decide +kernel
theorem dc_R_writeBox_12 : decode bb_R_writeBox 12 = .ok (.if_icmp .ge 28, 3) := by decide +kernel
theorem dc_R_writeBox_15 : decode bb_R_writeBox 15 = .ok (.aload_n 0, 1) := by decide +kernel
theorem dc_R_writeBox_16 : decode bb_R_writeBox 16 = .ok (.iload 5, 2) := by decide +kernel
theorem dc_R_writeBox_18 : decode bb_R_writeBox 18 = .ok (.invokevirtual 122, 3) := by decide +kernel
theorem dc_R_writeBox_21 : decode bb_R_writeBox 21 = .ok (.iload_n 1, 1) := by decide +kernel
theorem dc_R_writeBox_22 : decode bb_R_writeBox 22 = .ok (.if_icmp .ne 8, 3) := by decide +kernel
theorem dc_R_writeBox_25 : decode bb_R_writeBox 25 = .ok (.iload 5, 2) := by decide +kernel
theorem dc_R_writeBox_27 : decode bb_R_writeBox 27 = .ok (.goto 5, 3) := by decide +kernel
theorem dc_R_writeBox_30 : decode bb_R_writeBox 30 = .ok (.iload 4, 2) := by decide +kernel
theorem dc_R_writeBox_32 : decode bb_R_writeBox 32 = .ok (.istore 4, 2) := by decide +kernel
theorem dc_R_writeBox_34 : decode bb_R_writeBox 34 = .ok (.iinc 5 1, 3) := by decide +kernel
theorem dc_R_writeBox_37 : decode bb_R_writeBox 37 = .ok (.goto (-31), 3) := by decide +kernel
theorem dc_R_writeBox_40 : decode bb_R_writeBox 40 = .ok (.iload 4, 2) := by decide +kernel
theorem dc_R_writeBox_42 : decode bb_R_writeBox 42 = .ok (.ifCond .lt 28, 3) := by decide +kernel
theorem dc_R_writeBox_45 : decode bb_R_writeBox 45 = .ok (.aload_n 0, 1) := by decide +kernel
theorem dc_R_writeBox_46 : decode bb_R_writeBox 46 = .ok (.getfield 19, 3) := by decide +kernel
theorem dc_R_writeBox_49 : decode bb_R_writeBox 49 = .ok (.iload_n 1, 1) := by decide +kernel
theorem dc_R_writeBox_50 : decode bb_R_writeBox 50 = .ok (.iaload, 1) := by decide +kernel
theorem dc_R_writeBox_51 : decode bb_R_writeBox 51 = .ok (.bipush 79, 2) := by decide +kernel
theorem dc_R_writeBox_53 : decode bb_R_writeBox 53 = .ok (.if_icmp .eq 13, 3) := by decide +kernel
theorem dc_R_writeBox_56 : decode bb_R_writeBox 56 = .ok (.iload_n 2, 1) := by decide +kernel
theorem dc_R_writeBox_57 : decode bb_R_writeBox 57 = .ok (.iload 4, 2) := by decide +kernel
theorem dc_R_writeBox_59 : decode bb_R_writeBox 59 = .ok (.ishr, 1) := by decide +kernel
theorem dc_R_writeBox_60 : decode bb_R_writeBox 60 = .ok (.iconst 1, 1) := by decide +kernel
theorem dc_R_writeBox_61 : decode bb_R_writeBox 61 = .ok (.iand, 1) := by decide +kernel
theorem dc_R_writeBox_62 : decode bb_R_writeBox 62 = .ok (.iconst 1, 1) := by decide +kernel
theorem dc_R_writeBox_63 : decode bb_R_writeBox 63 = .ok (.if_icmp .ne 7, 3) := by decide +kernel
theorem dc_R_writeBox_66 : decode bb_R_writeBox 66 = .ok (.iconst 1, 1) := by decide +kernel
theorem dc_R_writeBox_67 : decode bb_R_writeBox 67 = .ok (.goto 4, 3) := by decide +kernel
theorem dc_R_writeBox_70 : decode bb_R_writeBox 70 = .ok (.iconst 0, 1) := by decide +kernel
theorem dc_R_writeBox_71 : decode bb_R_writeBox 71 = .ok (.istore 5, 2) := by decide +kernel
theorem dc_R_writeBox_73 : decode bb_R_writeBox 73 = .ok (.aload_n 0, 1) := by decide +kernel
theorem dc_R_writeBox_74 : decode bb_R_writeBox 74 = .ok (.aload_n 0, 1) := by decide +kernel
theorem dc_R_writeBox_75 : decode bb_R_writeBox 75 = .ok (.getfield 46, 3) := by decide +kernel
theorem dc_R_writeBox_78 : decode bb_R_writeBox 78 = .ok (.iload_n 1, 1) := by decide +kernel
theorem dc_R_writeBox_79 : decode bb_R_writeBox 79 = .ok (.iaload, 1) := by decide +kernel
theorem dc_R_writeBox_80 : decode bb_R_writeBox 80 = .ok (.iconst 4, 1) := by decide +kernel
theorem dc_R_writeBox_81 : decode bb_R_writeBox 81 = .ok (.if_icmp .ne 7, 3) := by decide +kernel
theorem dc_R_writeBox_84 : decode bb_R_writeBox 84 = .ok (.iconst 1, 1) := by decide +kernel
theorem dc_R_writeBox_85 : decode bb_R_writeBox 85 = .ok (.goto 9, 3) := by decide +kernel
theorem dc_R_writeBox_88 : decode bb_R_writeBox 88 = .ok (.aload_n 0, 1) := by decide +kernel
theorem dc_R_writeBox_89 : decode bb_R_writeBox 89 = .ok (.getfield 49, 3) := by decide +kernel
theorem dc_R_writeBox_92 : decode bb_R_writeBox 92 = .ok (.iload_n 1, 1) := by decide +kernel
theorem dc_R_writeBox_93 : decode bb_R_writeBox 93 = .ok (.iaload, 1) := by decide +kernel
theorem dc_R_writeBox_94 : decode bb_R_writeBox 94 = .ok (.invokevirtual 184, 3) := by decide +kernel
theorem dc_R_writeBox_97 : decode bb_R_writeBox 97 = .ok (.aload_n 0, 1) := by decide +kernel
theorem dc_R_writeBox_98 : decode bb_R_writeBox 98 = .ok (.iload 5, 2) := by decide +kernel
theorem dc_R_writeBox_100 : decode bb_R_writeBox 100 = .ok (.ifCond .eq 8, 3) := by decide +kernel
theorem dc_R_writeBox_103 : decode bb_R_writeBox 103 = .ok (.bipush 79, 2) := by decide +kernel
theorem dc_R_writeBox_105 : decode bb_R_writeBox 105 = .ok (.goto 9, 3) := by decide +kernel
theorem dc_R_writeBox_108 : decode bb_R_writeBox 108 = .ok (.aload_n 0, 1) := by decide +kernel
theorem dc_R_writeBox_109 : decode bb_R_writeBox 109 = .ok (.getfield 19, 3) := by decide +kernel
theorem dc_R_writeBox_112 : decode bb_R_writeBox 112 = .ok (.iload_n 1, 1) := by decide +kernel
theorem dc_R_writeBox_113 : decode bb_R_writeBox 113 = .ok (.iaload, 1) := by decide +kernel
theorem dc_R_writeBox_114 : decode bb_R_writeBox 114 = .ok (.invokevirtual 184, 3) := by decide +kernel
theorem dc_R_writeBox_117 : decode bb_R_writeBox 117 = .ok (.aload_n 0, 1) := by decide +kernel
theorem dc_R_writeBox_118 : decode bb_R_writeBox 118 = .ok (.getfield 46, 3) := by decide +kernel
theorem dc_R_writeBox_121 : decode bb_R_writeBox 121 = .ok (.iload_n 1, 1) := by decide +kernel
theorem dc_R_writeBox_122 : decode bb_R_writeBox 122 = .ok (.iaload, 1) := by decide +kernel
theorem dc_R_writeBox_123 : decode bb_R_writeBox 123 = .ok (.iconst 4, 1) := by decide +kernel
theorem dc_R_writeBox_124 : decode bb_R_writeBox 124 = .ok (.if_icmp .ne 30, 3) := by decide +kernel
theorem dc_R_writeBox_127 : decode bb_R_writeBox 127 = .ok (.aload_n 0, 1) := by decide +kernel
theorem dc_R_writeBox_128 : decode bb_R_writeBox 128 = .ok (.aload_n 0, 1) := by decide +kernel
theorem dc_R_writeBox_129 : decode bb_R_writeBox 129 = .ok (.getfield 49, 3) := by decide +kernel
theorem dc_R_writeBox_132 : decode bb_R_writeBox 132 = .ok (.iload_n 1, 1) := by decide +kernel
theorem dc_R_writeBox_133 : decode bb_R_writeBox 133 = .ok (.iaload, 1) := by decide +kernel
theorem dc_R_writeBox_134 : decode bb_R_writeBox 134 = .ok (.bipush 8, 2) := by decide +kernel
theorem dc_R_writeBox_136 : decode bb_R_writeBox 136 = .ok (.ishr, 1) := by decide +kernel
theorem dc_R_writeBox_137 : decode bb_R_writeBox 137 = .ok (.invokevirtual 184, 3) := by decide +kernel
theorem dc_R_writeBox_140 : decode bb_R_writeBox 140 = .ok (.aload_n 0, 1) := by decide +kernel
theorem dc_R_writeBox_141 : decode bb_R_writeBox 141 = .ok (.aload_n 0, 1) := by decide +kernel
theorem dc_R_writeBox_142 : decode bb_R_writeBox 142 = .ok (.getfield 49, 3) := by decide +kernel
theorem dc_R_writeBox_145 : decode bb_R_writeBox 145 = .ok (.iload_n 1, 1) := by decide +kernel
theorem dc_R_writeBox_146 : decode bb_R_writeBox 146 = .ok (.iaload, 1) := by decide +kernel
theorem dc_R_writeBox_147 : decode bb_R_writeBox 147 = .ok (.sipush 255, 3) := by decide +kernel
theorem dc_R_writeBox_150 : decode bb_R_writeBox 150 = .ok (.iand, 1) := by decide +kernel
theorem dc_R_writeBox_151 : decode bb_R_writeBox 151 = .ok (.invokevirtual 184, 3) := by decide +kernel
theorem dc_R_writeBox_154 : decode bb_R_writeBox 154 = .ok (.iload 4, 2) := by decide +kernel
theorem dc_R_writeBox_156 : decode bb_R_writeBox 156 = .ok (.ifCond .lt 71, 3) := by decide +kernel
theorem dc_R_writeBox_159 : decode bb_R_writeBox 159 = .ok (.aload_n 0, 1) := by decide +kernel
theorem dc_R_writeBox_160 : decode bb_R_writeBox 160 = .ok (.iload 4, 2) := by decide +kernel
theorem dc_R_writeBox_162 : decode bb_R_writeBox 162 = .ok (.invokevirtual 116, 3) := by decide +kernel
theorem dc_R_writeBox_165 : decode bb_R_writeBox 165 = .ok (.istore 6, 2) := by decide +kernel
theorem dc_R_writeBox_167 : decode bb_R_writeBox 167 = .ok (.aload_n 0, 1) := by decide +kernel
theorem dc_R_writeBox_168 : decode bb_R_writeBox 168 = .ok (.iload 6, 2) := by decide +kernel
theorem dc_R_writeBox_170 : decode bb_R_writeBox 170 = .ok (.invokevirtual 184, 3) := by decide +kernel
theorem dc_R_writeBox_173 : decode bb_R_writeBox 173 = .ok (.iconst 1, 1) := by decide +kernel
theorem dc_R_writeBox_174 : decode bb_R_writeBox 174 = .ok (.istore 7, 2) := by decide +kernel
theorem dc_R_writeBox_176 : decode bb_R_writeBox 176 = .ok (.iload 7, 2) := by decide +kernel
theorem dc_R_writeBox_178 : decode bb_R_writeBox 178 = .ok (.iload 6, 2) := by decide +kernel
theorem dc_R_writeBox_180 : decode bb_R_writeBox 180 = .ok (.if_icmp .gt 44, 3) := by decide +kernel
theorem dc_R_writeBox_183 : decode bb_R_writeBox 183 = .ok (.aload_n 0, 1) := by decide +kernel
theorem dc_R_writeBox_184 : decode bb_R_writeBox 184 = .ok (.iload 4, 2) := by decide +kernel
theorem dc_R_writeBox_186 : decode bb_R_writeBox 186 = .ok (.iload 7, 2) := by decide +kernel
theorem dc_R_writeBox_188 : decode bb_R_writeBox 188 = .ok (.iload_n 3, 1) := by decide +kernel
theorem dc_R_writeBox_189 : decode bb_R_writeBox 189 = .ok (.invokevirtual 165, 3) := by decide +kernel
theorem dc_R_writeBox_192 : decode bb_R_writeBox 192 = .ok (.istore 8, 2) := by decide +kernel
theorem dc_R_writeBox_194 : decode bb_R_writeBox 194 = .ok (.iload 5, 2) := by decide +kernel
theorem dc_R_writeBox_196 : decode bb_R_writeBox 196 = .ok (.ifCond .eq 12, 3) := by decide +kernel
theorem dc_R_writeBox_199 : decode bb_R_writeBox 199 = .ok (.aload_n 0, 1) := by decide +kernel
theorem dc_R_writeBox_200 : decode bb_R_writeBox 200 = .ok (.iload 8, 2) := by decide +kernel
theorem dc_R_writeBox_202 : decode bb_R_writeBox 202 = .ok (.bipush 8, 2) := by decide +kernel
theorem dc_R_writeBox_204 : decode bb_R_writeBox 204 = .ok (.ishr, 1) := by decide +kernel
theorem dc_R_writeBox_205 : decode bb_R_writeBox 205 = .ok (.invokevirtual 184, 3) := by decide +kernel
theorem dc_R_writeBox_208 : decode bb_R_writeBox 208 = .ok (.aload_n 0, 1) := by decide +kernel
theorem dc_R_writeBox_209 : decode bb_R_writeBox 209 = .ok (.iload 8, 2) := by decide +kernel
theorem dc_R_writeBox_211 : decode bb_R_writeBox 211 = .ok (.sipush 255, 3) := by decide +kernel
theorem dc_R_writeBox_214 : decode bb_R_writeBox 214 = .ok (.iand, 1) := by decide +kernel
theorem dc_R_writeBox_215 : decode bb_R_writeBox 215 = .ok (.invokevirtual 184, 3) := by decide +kernel
theorem dc_R_writeBox_218 : decode bb_R_writeBox 218 = .ok (.iinc 7 1, 3) := by decide +kernel
theorem dc_R_writeBox_221 : decode bb_R_writeBox 221 = .ok (.goto (-45), 3) := by decide +kernel
theorem dc_R_writeBox_224 : decode bb_R_writeBox 224 = .ok (.goto 41, 3) := by decide +kernel
theorem dc_R_writeBox_227 : decode bb_R_writeBox 227 = .ok (.aload_n 0, 1) := by decide +kernel
theorem dc_R_writeBox_228 : decode bb_R_writeBox 228 = .ok (.iload_n 1, 1) := by decide +kernel
theorem dc_R_writeBox_229 : decode bb_R_writeBox 229 = .ok (.invokevirtual 71, 3) := by decide +kernel
theorem dc_R_writeBox_232 : decode bb_R_writeBox 232 = .ok (.ifCond .ne 33, 3) := by decide +kernel
theorem dc_R_writeBox_235 : decode bb_R_writeBox 235 = .ok (.iconst 0, 1) := by decide +kernel
theorem dc_R_writeBox_236 : decode bb_R_writeBox 236 = .ok (.istore 6, 2) := by decide +kernel
theorem dc_R_writeBox_238 : decode bb_R_writeBox 238 = .ok (.iload 6, 2) := by decide +kernel
theorem dc_R_writeBox_240 : decode bb_R_writeBox 240 = .ok (.aload_n 0, 1) := by decide +kernel
theorem dc_R_writeBox_241 : decode bb_R_writeBox 241 = .ok (.iload_n 1, 1) := by decide +kernel
theorem dc_R_writeBox_242 : decode bb_R_writeBox 242 = .ok (.invokevirtual 103, 3) := by decide +kernel
theorem dc_R_writeBox_245 : decode bb_R_writeBox 245 = .ok (.if_icmp .ge 20, 3) := by decide +kernel
theorem dc_R_writeBox_248 : decode bb_R_writeBox 248 = .ok (.aload_n 0, 1) := by decide +kernel
theorem dc_R_writeBox_249 : decode bb_R_writeBox 249 = .ok (.aload_n 0, 1) := by decide +kernel
theorem dc_R_writeBox_250 : decode bb_R_writeBox 250 = .ok (.iload_n 1, 1) := by decide +kernel
theorem dc_R_writeBox_251 : decode bb_R_writeBox 251 = .ok (.iload 6, 2) := by decide +kernel
theorem dc_R_writeBox_253 : decode bb_R_writeBox 253 = .ok (.invokevirtual 106, 3) := by decide +kernel
theorem dc_R_writeBox_256 : decode bb_R_writeBox 256 = .ok (.invokevirtual 184, 3) := by decide +kernel
theorem dc_R_writeBox_259 : decode bb_R_writeBox 259 = .ok (.iinc 6 1, 3) := by decide +kernel
theorem dc_R_writeBox_262 : decode bb_R_writeBox 262 = .ok (.goto (-24), 3) := by decide +kernel
theorem dc_R_writeBox_265 : decode bb_R_writeBox 265 = .ok (.return_, 1) := by decide +kernel
theorem dc_W_law_0 : decode bb_W_law 0 = .ok (.new 7, 3) := by decide +kernel
theorem dc_W_law_3 : decode bb_W_law 3 = .ok (.dup, 1) := by decide +kernel
theorem dc_W_law_4 : decode bb_W_law 4 = .ok (.invokespecial 9, 3) := by decide +kernel
theorem dc_W_law_7 : decode bb_W_law 7 = .ok (.astore_n 1, 1) := by decide +kernel
theorem dc_W_law_8 : decode bb_W_law 8 = .ok (.new 10, 3) := by decide +kernel
theorem dc_W_law_11 : decode bb_W_law 11 = .ok (.dup, 1) := by decide +kernel
theorem dc_W_law_12 : decode bb_W_law 12 = .ok (.invokespecial 12, 3) := by decide +kernel
theorem dc_W_law_15 : decode bb_W_law 15 = .ok (.astore_n 2, 1) := by decide +kernel
theorem dc_W_law_16 : decode bb_W_law 16 = .ok (.iconst 0, 1) := by decide +kernel
theorem dc_W_law_17 : decode bb_W_law 17 = .ok (.istore_n 3, 1) := by decide +kernel
theorem dc_W_law_18 : decode bb_W_law 18 = .ok (.iload_n 3, 1) := by decide +kernel
theorem dc_W_law_19 : decode bb_W_law 19 = .ok (.aload_n 0, 1) := by decide +kernel
theorem dc_W_law_20 : decode bb_W_law 20 = .ok (.arraylength, 1) := by decide +kernel
theorem dc_W_law_21 : decode bb_W_law 21 = .ok (.iconst 4, 1) := by decide +kernel
theorem dc_W_law_22 : decode bb_W_law 22 = .ok (.isub, 1) := by decide +kernel
theorem dc_W_law_23 : decode bb_W_law 23 = .ok (.if_icmp .gt 422, 3) := by decide +kernel
theorem dc_W_law_26 : decode bb_W_law 26 = .ok (.aload_n 0, 1) := by decide +kernel
theorem dc_W_law_27 : decode bb_W_law 27 = .ok (.iload_n 3, 1) := by decide +kernel
theorem dc_W_law_28 : decode bb_W_law 28 = .ok (.iaload, 1) := by decide +kernel
theorem dc_W_law_29 : decode bb_W_law 29 = .ok (.bipush 15, 2) := by decide +kernel
theorem dc_W_law_31 : decode bb_W_law 31 = .ok (.iand, 1) := by decide +kernel
theorem dc_W_law_32 : decode bb_W_law 32 = .ok (.tableswitch 407 0 12 #[68, 131, 164, 187, 200, 223, 236, 249, 282, 295, 318, 361, 394], 68) := by decide +kernel
theorem dc_W_law_100 : decode bb_W_law 100 = .ok (.aload_n 1, 1) := by decide +kernel
theorem dc_W_law_101 : decode bb_W_law 101 = .ok (.aload_n 0, 1) := by decide +kernel
theorem dc_W_law_102 : decode bb_W_law 102 = .ok (.iload_n 3, 1) := by decide +kernel
theorem dc_W_law_103 : decode bb_W_law 103 = .ok (.iconst 1, 1) := by decide +kernel
theorem dc_W_law_104 : decode bb_W_law 104 = .ok (.iadd, 1) := by decide +kernel
theorem dc_W_law_105 : decode bb_W_law 105 = .ok (.iaload, 1) := by decide +kernel
theorem dc_W_law_106 : decode bb_W_law 106 = .ok (.i2l, 1) := by decide +kernel
theorem dc_W_law_107 : decode bb_W_law 107 = .ok (.bipush 32, 2) := by decide +kernel
theorem dc_W_law_109 : decode bb_W_law 109 = .ok (.lshl, 1) := by decide +kernel
theorem dc_W_law_110 : decode bb_W_law 110 = .ok (.aload_n 0, 1) := by decide +kernel
theorem dc_W_law_111 : decode bb_W_law 111 = .ok (.iload_n 3, 1) := by decide +kernel
theorem dc_W_law_112 : decode bb_W_law 112 = .ok (.iconst 2, 1) := by decide +kernel
theorem dc_W_law_113 : decode bb_W_law 113 = .ok (.iadd, 1) := by decide +kernel
theorem dc_W_law_114 : decode bb_W_law 114 = .ok (.iaload, 1) := by decide +kernel
theorem dc_W_law_115 : decode bb_W_law 115 = .ok (.i2l, 1) := by decide +kernel
theorem dc_W_law_116 : decode bb_W_law 116 = .ok (.ldc2_w 13, 3) := by decide +kernel
theorem dc_W_law_119 : decode bb_W_law 119 = .ok (.land, 1) := by decide +kernel
theorem dc_W_law_120 : decode bb_W_law 120 = .ok (.lor, 1) := by decide +kernel
theorem dc_W_law_121 : decode bb_W_law 121 = .ok (.aload_n 0, 1) := by decide +kernel
theorem dc_W_law_122 : decode bb_W_law 122 = .ok (.iload_n 3, 1) := by decide +kernel
theorem dc_W_law_123 : decode bb_W_law 123 = .ok (.iconst 3, 1) := by decide +kernel
theorem dc_W_law_124 : decode bb_W_law 124 = .ok (.iadd, 1) := by decide +kernel
theorem dc_W_law_125 : decode bb_W_law 125 = .ok (.iaload, 1) := by decide +kernel
theorem dc_W_law_126 : decode bb_W_law 126 = .ok (.invokevirtual 15, 3) := by decide +kernel
theorem dc_W_law_129 : decode bb_W_law 129 = .ok (.aload_n 2, 1) := by decide +kernel
theorem dc_W_law_130 : decode bb_W_law 130 = .ok (.aload_n 0, 1) := by decide +kernel
theorem dc_W_law_131 : decode bb_W_law 131 = .ok (.iload_n 3, 1) := by decide +kernel
theorem dc_W_law_132 : decode bb_W_law 132 = .ok (.iconst 1, 1) := by decide +kernel
theorem dc_W_law_133 : decode bb_W_law 133 = .ok (.iadd, 1) := by decide +kernel
theorem dc_W_law_134 : decode bb_W_law 134 = .ok (.iaload, 1) := by decide +kernel
theorem dc_W_law_135 : decode bb_W_law 135 = .ok (.i2l, 1) := by decide +kernel
theorem dc_W_law_136 : decode bb_W_law 136 = .ok (.bipush 32, 2) := by decide +kernel
theorem dc_W_law_138 : decode bb_W_law 138 = .ok (.lshl, 1) := by decide +kernel
theorem dc_W_law_139 : decode bb_W_law 139 = .ok (.aload_n 0, 1) := by decide +kernel
theorem dc_W_law_140 : decode bb_W_law 140 = .ok (.iload_n 3, 1) := by decide +kernel
theorem dc_W_law_141 : decode bb_W_law 141 = .ok (.iconst 2, 1) := by decide +kernel
theorem dc_W_law_142 : decode bb_W_law 142 = .ok (.iadd, 1) := by decide +kernel
theorem dc_W_law_143 : decode bb_W_law 143 = .ok (.iaload, 1) := by decide +kernel
theorem dc_W_law_144 : decode bb_W_law 144 = .ok (.i2l, 1) := by decide +kernel
theorem dc_W_law_145 : decode bb_W_law 145 = .ok (.ldc2_w 13, 3) := by decide +kernel
theorem dc_W_law_148 : decode bb_W_law 148 = .ok (.land, 1) := by decide +kernel
theorem dc_W_law_149 : decode bb_W_law 149 = .ok (.lor, 1) := by decide +kernel
theorem dc_W_law_150 : decode bb_W_law 150 = .ok (.aload_n 0, 1) := by decide +kernel
theorem dc_W_law_151 : decode bb_W_law 151 = .ok (.iload_n 3, 1) := by decide +kernel
theorem dc_W_law_152 : decode bb_W_law 152 = .ok (.iconst 3, 1) := by decide +kernel
theorem dc_W_law_153 : decode bb_W_law 153 = .ok (.iadd, 1) := by decide +kernel
theorem dc_W_law_154 : decode bb_W_law 154 = .ok (.iaload, 1) := by decide +kernel
theorem dc_W_law_155 : decode bb_W_law 155 = .ok (.invokevirtual 19, 3) := by decide +kernel
theorem dc_W_law_158 : decode bb_W_law 158 = .ok (.if_icmp .eq 281, 3) := by decide +kernel
theorem dc_W_law_161 : decode bb_W_law 161 = .ok (.iconst 0, 1) := by decide +kernel
theorem dc_W_law_162 : decode bb_W_law 162 = .ok (.ireturn, 1) := by decide +kernel
theorem dc_W_law_163 : decode bb_W_law 163 = .ok (.aload_n 1, 1) := by decide +kernel
theorem dc_W_law_164 : decode bb_W_law 164 = .ok (.aload_n 0, 1) := by decide +kernel
theorem dc_W_law_165 : decode bb_W_law 165 = .ok (.iload_n 3, 1) := by decide +kernel
theorem dc_W_law_166 : decode bb_W_law 166 = .ok (.iconst 1, 1) := by decide +kernel
theorem dc_W_law_167 : decode bb_W_law 167 = .ok (.iadd, 1) := by decide +kernel
theorem dc_W_law_168 : decode bb_W_law 168 = .ok (.iaload, 1) := by decide +kernel
theorem dc_W_law_169 : decode bb_W_law 169 = .ok (.aload_n 0, 1) := by decide +kernel
theorem dc_W_law_170 : decode bb_W_law 170 = .ok (.iload_n 3, 1) := by decide +kernel
theorem dc_W_law_171 : decode bb_W_law 171 = .ok (.iconst 2, 1) := by decide +kernel
theorem dc_W_law_172 : decode bb_W_law 172 = .ok (.iadd, 1) := by decide +kernel
theorem dc_W_law_173 : decode bb_W_law 173 = .ok (.iaload, 1) := by decide +kernel
theorem dc_W_law_174 : decode bb_W_law 174 = .ok (.invokevirtual 20, 3) := by decide +kernel
theorem dc_W_law_177 : decode bb_W_law 177 = .ok (.aload_n 2, 1) := by decide +kernel
theorem dc_W_law_178 : decode bb_W_law 178 = .ok (.aload_n 0, 1) := by decide +kernel
theorem dc_W_law_179 : decode bb_W_law 179 = .ok (.iload_n 3, 1) := by decide +kernel
theorem dc_W_law_180 : decode bb_W_law 180 = .ok (.iconst 1, 1) := by decide +kernel
theorem dc_W_law_181 : decode bb_W_law 181 = .ok (.iadd, 1) := by decide +kernel
theorem dc_W_law_182 : decode bb_W_law 182 = .ok (.iaload, 1) := by decide +kernel
theorem dc_W_law_183 : decode bb_W_law 183 = .ok (.aload_n 0, 1) := by decide +kernel
theorem dc_W_law_184 : decode bb_W_law 184 = .ok (.iload_n 3, 1) := by decide +kernel
theorem dc_W_law_185 : decode bb_W_law 185 = .ok (.iconst 2, 1) := by decide +kernel
theorem dc_W_law_186 : decode bb_W_law 186 = .ok (.iadd, 1) := by decide +kernel
theorem dc_W_law_187 : decode bb_W_law 187 = .ok (.iaload, 1) := by decide +kernel
theorem dc_W_law_188 : decode bb_W_law 188 = .ok (.invokevirtual 24, 3) := by decide +kernel
theorem dc_W_law_191 : decode bb_W_law 191 = .ok (.if_icmp .eq 248, 3) := by decide +kernel
theorem dc_W_law_194 : decode bb_W_law 194 = .ok (.iconst 0, 1) := by decide +kernel
theorem dc_W_law_195 : decode bb_W_law 195 = .ok (.ireturn, 1) := by decide +kernel
theorem dc_W_law_196 : decode bb_W_law 196 = .ok (.aload_n 1, 1) := by decide +kernel
theorem dc_W_law_197 : decode bb_W_law 197 = .ok (.aload_n 0, 1) := by decide +kernel
theorem dc_W_law_198 : decode bb_W_law 198 = .ok (.iload_n 3, 1) := by decide +kernel
theorem dc_W_law_199 : decode bb_W_law 199 = .ok (.iconst 1, 1) := by decide +kernel
theorem dc_W_law_200 : decode bb_W_law 200 = .ok (.iadd, 1) := by decide +kernel
theorem dc_W_law_201 : decode bb_W_law 201 = .ok (.iaload, 1) := by decide +kernel
theorem dc_W_law_202 : decode bb_W_law 202 = .ok (.invokevirtual 25, 3) := by decide +kernel
theorem dc_W_law_205 : decode bb_W_law 205 = .ok (.aload_n 2, 1) := by decide +kernel
theorem dc_W_law_206 : decode bb_W_law 206 = .ok (.aload_n 0, 1) := by decide +kernel
theorem dc_W_law_207 : decode bb_W_law 207 = .ok (.iload_n 3, 1) := by decide +kernel
theorem dc_W_law_208 : decode bb_W_law 208 = .ok (.iconst 1, 1) := by decide +kernel
theorem dc_W_law_209 : decode bb_W_law 209 = .ok (.iadd, 1) := by decide +kernel
theorem dc_W_law_210 : decode bb_W_law 210 = .ok (.iaload, 1) := by decide +kernel
theorem dc_W_law_211 : decode bb_W_law 211 = .ok (.invokevirtual 29, 3) := by decide +kernel
theorem dc_W_law_214 : decode bb_W_law 214 = .ok (.if_icmp .eq 225, 3) := by decide +kernel
theorem dc_W_law_217 : decode bb_W_law 217 = .ok (.iconst 0, 1) := by decide +kernel
theorem dc_W_law_218 : decode bb_W_law 218 = .ok (.ireturn, 1) := by decide +kernel
theorem dc_W_law_219 : decode bb_W_law 219 = .ok (.aload_n 1, 1) := by decide +kernel
theorem dc_W_law_220 : decode bb_W_law 220 = .ok (.invokevirtual 30, 3) := by decide +kernel
theorem dc_W_law_223 : decode bb_W_law 223 = .ok (.aload_n 2, 1) := by decide +kernel
theorem dc_W_law_224 : decode bb_W_law 224 = .ok (.invokevirtual 34, 3) := by decide +kernel
theorem dc_W_law_227 : decode bb_W_law 227 = .ok (.if_icmp .eq 212, 3) := by decide +kernel
theorem dc_W_law_230 : decode bb_W_law 230 = .ok (.iconst 0, 1) := by decide +kernel
theorem dc_W_law_231 : decode bb_W_law 231 = .ok (.ireturn, 1) := by decide +kernel
theorem dc_W_law_232 : decode bb_W_law 232 = .ok (.aload_n 1, 1) := by decide +kernel
theorem dc_W_law_233 : decode bb_W_law 233 = .ok (.aload_n 0, 1) := by decide +kernel
theorem dc_W_law_234 : decode bb_W_law 234 = .ok (.iload_n 3, 1) := by decide +kernel
theorem dc_W_law_235 : decode bb_W_law 235 = .ok (.iconst 1, 1) := by decide +kernel
theorem dc_W_law_236 : decode bb_W_law 236 = .ok (.iadd, 1) := by decide +kernel
theorem dc_W_law_237 : decode bb_W_law 237 = .ok (.iaload, 1) := by decide +kernel
theorem dc_W_law_238 : decode bb_W_law 238 = .ok (.invokevirtual 35, 3) := by decide +kernel
theorem dc_W_law_241 : decode bb_W_law 241 = .ok (.aload_n 2, 1) := by decide +kernel
theorem dc_W_law_242 : decode bb_W_law 242 = .ok (.aload_n 0, 1) := by decide +kernel
theorem dc_W_law_243 : decode bb_W_law 243 = .ok (.iload_n 3, 1) := by decide +kernel
theorem dc_W_law_244 : decode bb_W_law 244 = .ok (.iconst 1, 1) := by decide +kernel
theorem dc_W_law_245 : decode bb_W_law 245 = .ok (.iadd, 1) := by decide +kernel
theorem dc_W_law_246 : decode bb_W_law 246 = .ok (.iaload, 1) := by decide +kernel
theorem dc_W_law_247 : decode bb_W_law 247 = .ok (.invokevirtual 39, 3) := by decide +kernel
theorem dc_W_law_250 : decode bb_W_law 250 = .ok (.if_icmp .eq 189, 3) := by decide +kernel
theorem dc_W_law_253 : decode bb_W_law 253 = .ok (.iconst 0, 1) := by decide +kernel
theorem dc_W_law_254 : decode bb_W_law 254 = .ok (.ireturn, 1) := by decide +kernel
theorem dc_W_law_255 : decode bb_W_law 255 = .ok (.aload_n 1, 1) := by decide +kernel
theorem dc_W_law_256 : decode bb_W_law 256 = .ok (.invokevirtual 40, 3) := by decide +kernel
theorem dc_W_law_259 : decode bb_W_law 259 = .ok (.aload_n 2, 1) := by decide +kernel
theorem dc_W_law_260 : decode bb_W_law 260 = .ok (.invokevirtual 43, 3) := by decide +kernel
theorem dc_W_law_263 : decode bb_W_law 263 = .ok (.if_icmp .eq 176, 3) := by decide +kernel
theorem dc_W_law_266 : decode bb_W_law 266 = .ok (.iconst 0, 1) := by decide +kernel
theorem dc_W_law_267 : decode bb_W_law 267 = .ok (.ireturn, 1) := by decide +kernel
theorem dc_W_law_268 : decode bb_W_law 268 = .ok (.aload_n 1, 1) := by decide +kernel
theorem dc_W_law_269 : decode bb_W_law 269 = .ok (.invokevirtual 44, 3) := by decide +kernel
theorem dc_W_law_272 : decode bb_W_law 272 = .ok (.aload_n 2, 1) := by decide +kernel
theorem dc_W_law_273 : decode bb_W_law 273 = .ok (.invokevirtual 47, 3) := by decide +kernel
theorem dc_W_law_276 : decode bb_W_law 276 = .ok (.if_icmp .eq 163, 3) := by decide +kernel
theorem dc_W_law_279 : decode bb_W_law 279 = .ok (.iconst 0, 1) := by decide +kernel
theorem dc_W_law_280 : decode bb_W_law 280 = .ok (.ireturn, 1) := by decide +kernel
theorem dc_W_law_281 : decode bb_W_law 281 = .ok (.aload_n 1, 1) := by decide +kernel
theorem dc_W_law_282 : decode bb_W_law 282 = .ok (.aload_n 0, 1) := by decide +kernel
theorem dc_W_law_283 : decode bb_W_law 283 = .ok (.iload_n 3, 1) := by decide +kernel
theorem dc_W_law_284 : decode bb_W_law 284 = .ok (.iconst 1, 1) := by decide +kernel
theorem dc_W_law_285 : decode bb_W_law 285 = .ok (.iadd, 1) := by decide +kernel
theorem dc_W_law_286 : decode bb_W_law 286 = .ok (.iaload, 1) := by decide +kernel
theorem dc_W_law_287 : decode bb_W_law 287 = .ok (.aload_n 0, 1) := by decide +kernel
theorem dc_W_law_288 : decode bb_W_law 288 = .ok (.iload_n 3, 1) := by decide +kernel
theorem dc_W_law_289 : decode bb_W_law 289 = .ok (.iconst 2, 1) := by decide +kernel
theorem dc_W_law_290 : decode bb_W_law 290 = .ok (.iadd, 1) := by decide +kernel
theorem dc_W_law_291 : decode bb_W_law 291 = .ok (.iaload, 1) := by decide +kernel
theorem dc_W_law_292 : decode bb_W_law 292 = .ok (.invokevirtual 48, 3) := by decide +kernel
theorem dc_W_law_295 : decode bb_W_law 295 = .ok (.aload_n 2, 1) := by decide +kernel
theorem dc_W_law_296 : decode bb_W_law 296 = .ok (.aload_n 0, 1) := by decide +kernel
theorem dc_W_law_297 : decode bb_W_law 297 = .ok (.iload_n 3, 1) := by decide +kernel
theorem dc_W_law_298 : decode bb_W_law 298 = .ok (.iconst 1, 1) := by decide +kernel
theorem dc_W_law_299 : decode bb_W_law 299 = .ok (.iadd, 1) := by decide +kernel
theorem dc_W_law_300 : decode bb_W_law 300 = .ok (.iaload, 1) := by decide +kernel
theorem dc_W_law_301 : decode bb_W_law 301 = .ok (.aload_n 0, 1) := by decide +kernel
theorem dc_W_law_302 : decode bb_W_law 302 = .ok (.iload_n 3, 1) := by decide +kernel
theorem dc_W_law_303 : decode bb_W_law 303 = .ok (.iconst 2, 1) := by decide +kernel
theorem dc_W_law_304 : decode bb_W_law 304 = .ok (.iadd, 1) := by decide +kernel
theorem dc_W_law_305 : decode bb_W_law 305 = .ok (.iaload, 1) := by decide +kernel
theorem dc_W_law_306 : decode bb_W_law 306 = .ok (.invokevirtual 51, 3) := by decide +kernel
theorem dc_W_law_309 : decode bb_W_law 309 = .ok (.if_icmp .eq 130, 3) := by decide +kernel
theorem dc_W_law_312 : decode bb_W_law 312 = .ok (.iconst 0, 1) := by decide +kernel
theorem dc_W_law_313 : decode bb_W_law 313 = .ok (.ireturn, 1) := by decide +kernel
theorem dc_W_law_314 : decode bb_W_law 314 = .ok (.aload_n 1, 1) := by decide +kernel
theorem dc_W_law_315 : decode bb_W_law 315 = .ok (.invokevirtual 52, 3) := by decide +kernel
theorem dc_W_law_318 : decode bb_W_law 318 = .ok (.aload_n 2, 1) := by decide +kernel
theorem dc_W_law_319 : decode bb_W_law 319 = .ok (.invokevirtual 55, 3) := by decide +kernel
theorem dc_W_law_322 : decode bb_W_law 322 = .ok (.if_icmp .eq 117, 3) := by decide +kernel
theorem dc_W_law_325 : decode bb_W_law 325 = .ok (.iconst 0, 1) := by decide +kernel
theorem dc_W_law_326 : decode bb_W_law 326 = .ok (.ireturn, 1) := by decide +kernel
theorem dc_W_law_327 : decode bb_W_law 327 = .ok (.aload_n 1, 1) := by decide +kernel
theorem dc_W_law_328 : decode bb_W_law 328 = .ok (.aload_n 0, 1) := by decide +kernel
theorem dc_W_law_329 : decode bb_W_law 329 = .ok (.iload_n 3, 1) := by decide +kernel
theorem dc_W_law_330 : decode bb_W_law 330 = .ok (.iconst 1, 1) := by decide +kernel
theorem dc_W_law_331 : decode bb_W_law 331 = .ok (.iadd, 1) := by decide +kernel
theorem dc_W_law_332 : decode bb_W_law 332 = .ok (.iaload, 1) := by decide +kernel
theorem dc_W_law_333 : decode bb_W_law 333 = .ok (.invokevirtual 56, 3) := by decide +kernel
theorem dc_W_law_336 : decode bb_W_law 336 = .ok (.aload_n 2, 1) := by decide +kernel
theorem dc_W_law_337 : decode bb_W_law 337 = .ok (.aload_n 0, 1) := by decide +kernel
theorem dc_W_law_338 : decode bb_W_law 338 = .ok (.iload_n 3, 1) := by decide +kernel
theorem dc_W_law_339 : decode bb_W_law 339 = .ok (.iconst 1, 1) := by decide +kernel
theorem dc_W_law_340 : decode bb_W_law 340 = .ok (.iadd, 1) := by decide +kernel
theorem dc_W_law_341 : decode bb_W_law 341 = .ok (.iaload, 1) := by decide +kernel
theorem dc_W_law_342 : decode bb_W_law 342 = .ok (.invokevirtual 59, 3) := by decide +kernel
theorem dc_W_law_345 : decode bb_W_law 345 = .ok (.if_icmp .eq 94, 3) := by decide +kernel
theorem dc_W_law_348 : decode bb_W_law 348 = .ok (.iconst 0, 1) := by decide +kernel
theorem dc_W_law_349 : decode bb_W_law 349 = .ok (.ireturn, 1) := by decide +kernel
theorem dc_W_law_350 : decode bb_W_law 350 = .ok (.aload_n 1, 1) := by decide +kernel
theorem dc_W_law_351 : decode bb_W_law 351 = .ok (.aload_n 0, 1) := by decide +kernel
theorem dc_W_law_352 : decode bb_W_law 352 = .ok (.iload_n 3, 1) := by decide +kernel
theorem dc_W_law_353 : decode bb_W_law 353 = .ok (.iconst 1, 1) := by decide +kernel
theorem dc_W_law_354 : decode bb_W_law 354 = .ok (.iadd, 1) := by decide +kernel
theorem dc_W_law_355 : decode bb_W_law 355 = .ok (.iaload, 1) := by decide +kernel
theorem dc_W_law_356 : decode bb_W_law 356 = .ok (.aload_n 0, 1) := by decide +kernel
theorem dc_W_law_357 : decode bb_W_law 357 = .ok (.iload_n 3, 1) := by decide +kernel
theorem dc_W_law_358 : decode bb_W_law 358 = .ok (.iconst 2, 1) := by decide +kernel
theorem dc_W_law_359 : decode bb_W_law 359 = .ok (.iadd, 1) := by decide +kernel
theorem dc_W_law_360 : decode bb_W_law 360 = .ok (.iaload, 1) := by decide +kernel
theorem dc_W_law_361 : decode bb_W_law 361 = .ok (.aload_n 0, 1) := by decide +kernel
theorem dc_W_law_362 : decode bb_W_law 362 = .ok (.iload_n 3, 1) := by decide +kernel
theorem dc_W_law_363 : decode bb_W_law 363 = .ok (.iconst 3, 1) := by decide +kernel
theorem dc_W_law_364 : decode bb_W_law 364 = .ok (.iadd, 1) := by decide +kernel
theorem dc_W_law_365 : decode bb_W_law 365 = .ok (.iaload, 1) := by decide +kernel
theorem dc_W_law_366 : decode bb_W_law 366 = .ok (.invokevirtual 60, 3) := by decide +kernel
theorem dc_W_law_369 : decode bb_W_law 369 = .ok (.aload_n 2, 1) := by decide +kernel
theorem dc_W_law_370 : decode bb_W_law 370 = .ok (.aload_n 0, 1) := by decide +kernel
theorem dc_W_law_371 : decode bb_W_law 371 = .ok (.iload_n 3, 1) := by decide +kernel
theorem dc_W_law_372 : decode bb_W_law 372 = .ok (.iconst 1, 1) := by decide +kernel
theorem dc_W_law_373 : decode bb_W_law 373 = .ok (.iadd, 1) := by decide +kernel
theorem dc_W_law_374 : decode bb_W_law 374 = .ok (.iaload, 1) := by decide +kernel
theorem dc_W_law_375 : decode bb_W_law 375 = .ok (.aload_n 0, 1) := by decide +kernel
theorem dc_W_law_376 : decode bb_W_law 376 = .ok (.iload_n 3, 1) := by decide +kernel
theorem dc_W_law_377 : decode bb_W_law 377 = .ok (.iconst 2, 1) := by decide +kernel
theorem dc_W_law_378 : decode bb_W_law 378 = .ok (.iadd, 1) := by decide +kernel
theorem dc_W_law_379 : decode bb_W_law 379 = .ok (.iaload, 1) := by decide +kernel
theorem dc_W_law_380 : decode bb_W_law 380 = .ok (.aload_n 0, 1) := by decide +kernel
theorem dc_W_law_381 : decode bb_W_law 381 = .ok (.iload_n 3, 1) := by decide +kernel
theorem dc_W_law_382 : decode bb_W_law 382 = .ok (.iconst 3, 1) := by decide +kernel
theorem dc_W_law_383 : decode bb_W_law 383 = .ok (.iadd, 1) := by decide +kernel
theorem dc_W_law_384 : decode bb_W_law 384 = .ok (.iaload, 1) := by decide +kernel
theorem dc_W_law_385 : decode bb_W_law 385 = .ok (.invokevirtual 64, 3) := by decide +kernel
theorem dc_W_law_388 : decode bb_W_law 388 = .ok (.if_icmp .eq 51, 3) := by decide +kernel
theorem dc_W_law_391 : decode bb_W_law 391 = .ok (.iconst 0, 1) := by decide +kernel
theorem dc_W_law_392 : decode bb_W_law 392 = .ok (.ireturn, 1) := by decide +kernel
theorem dc_W_law_393 : decode bb_W_law 393 = .ok (.aload_n 1, 1) := by decide +kernel
theorem dc_W_law_394 : decode bb_W_law 394 = .ok (.aload_n 0, 1) := by decide +kernel
theorem dc_W_law_395 : decode bb_W_law 395 = .ok (.iload_n 3, 1) := by decide +kernel
theorem dc_W_law_396 : decode bb_W_law 396 = .ok (.iconst 1, 1) := by decide +kernel
theorem dc_W_law_397 : decode bb_W_law 397 = .ok (.iadd, 1) := by decide +kernel
theorem dc_W_law_398 : decode bb_W_law 398 = .ok (.iaload, 1) := by decide +kernel
theorem dc_W_law_399 : decode bb_W_law 399 = .ok (.aload_n 0, 1) := by decide +kernel
theorem dc_W_law_400 : decode bb_W_law 400 = .ok (.iload_n 3, 1) := by decide +kernel
theorem dc_W_law_401 : decode bb_W_law 401 = .ok (.iconst 2, 1) := by decide +kernel
theorem dc_W_law_402 : decode bb_W_law 402 = .ok (.iadd, 1) := by decide +kernel
theorem dc_W_law_403 : decode bb_W_law 403 = .ok (.iaload, 1) := by decide +kernel
theorem dc_W_law_404 : decode bb_W_law 404 = .ok (.invokevirtual 65, 3) := by decide +kernel
theorem dc_W_law_407 : decode bb_W_law 407 = .ok (.aload_n 2, 1) := by decide +kernel
theorem dc_W_law_408 : decode bb_W_law 408 = .ok (.aload_n 0, 1) := by decide +kernel
theorem dc_W_law_409 : decode bb_W_law 409 = .ok (.iload_n 3, 1) := by decide +kernel
theorem dc_W_law_410 : decode bb_W_law 410 = .ok (.iconst 1, 1) := by decide +kernel
theorem dc_W_law_411 : decode bb_W_law 411 = .ok (.iadd, 1) := by decide +kernel
theorem dc_W_law_412 : decode bb_W_law 412 = .ok (.iaload, 1) := by decide +kernel
theorem dc_W_law_413 : decode bb_W_law 413 = .ok (.aload_n 0, 1) := by decide +kernel
theorem dc_W_law_414 : decode bb_W_law 414 = .ok (.iload_n 3, 1) := by decide +kernel
theorem dc_W_law_415 : decode bb_W_law 415 = .ok (.iconst 2, 1) := by decide +kernel
theorem dc_W_law_416 : decode bb_W_law 416 = .ok (.iadd, 1) := by decide +kernel
theorem dc_W_law_417 : decode bb_W_law 417 = .ok (.iaload, 1) := by decide +kernel
theorem dc_W_law_418 : decode bb_W_law 418 = .ok (.invokevirtual 68, 3) := by decide +kernel
theorem dc_W_law_421 : decode bb_W_law 421 = .ok (.if_icmp .eq 18, 3) := by decide +kernel
theorem dc_W_law_424 : decode bb_W_law 424 = .ok (.iconst 0, 1) := by decide +kernel
theorem dc_W_law_425 : decode bb_W_law 425 = .ok (.ireturn, 1) := by decide +kernel
theorem dc_W_law_426 : decode bb_W_law 426 = .ok (.aload_n 1, 1) := by decide +kernel
theorem dc_W_law_427 : decode bb_W_law 427 = .ok (.invokevirtual 69, 3) := by decide +kernel
theorem dc_W_law_430 : decode bb_W_law 430 = .ok (.aload_n 2, 1) := by decide +kernel
theorem dc_W_law_431 : decode bb_W_law 431 = .ok (.invokevirtual 72, 3) := by decide +kernel
theorem dc_W_law_434 : decode bb_W_law 434 = .ok (.if_icmp .eq 5, 3) := by decide +kernel
theorem dc_W_law_437 : decode bb_W_law 437 = .ok (.iconst 0, 1) := by decide +kernel
theorem dc_W_law_438 : decode bb_W_law 438 = .ok (.ireturn, 1) := by decide +kernel
theorem dc_W_law_439 : decode bb_W_law 439 = .ok (.iinc 3 4, 3) := by decide +kernel
theorem dc_W_law_442 : decode bb_W_law 442 = .ok (.goto (-424), 3) := by decide +kernel
theorem dc_W_law_445 : decode bb_W_law 445 = .ok (.iconst 1, 1) := by decide +kernel
theorem dc_W_law_446 : decode bb_W_law 446 = .ok (.ireturn, 1) := by decide +kernel
end
section
/-! A mirror of the machine over an abstract heap: cells have numbers (places in a list), values that are references are numbers; the script is .retAddr 1, a local that isn't set .retAddr 0. wp: from such a state the method comes to its return, and there Q holds. ct: the contract of a method. -/
abbrev mx_H : Type := List va_E
abbrev mx_T : Type := List (ClassId × FieldType)
abbrev mx_S : Type := Option (Nat × (Nat → Int32))
def mx_ws (Y : mx_Y) : List Cond := Cond.code Y.1 Y.2.1 Y.2.2.1 Y.2.2.2.1 :: WS
def mx_rm (Y : mx_Y) (k n : Nat) : Room := { frames := Y.2.2.2.2, cells := k, slots := n, locals := 40 * Y.2.2.2.2 }
/-- what is known of the tables: classes, array classes, and the two array classes over others -/
def mx_X (ty : mx_T) (U : State) : Prop := va_AO TR U ∧ ∃ qI qG kA, ty[0]? = some qI ∧ ty[3]? = some qG ∧ U.vm.classes[qG.1]? = some kA ∧ kA.kind = .array qI.1 (.array .int)
def mx_K (D : va_G) (ty : mx_T) (U : State) : Prop := va_K D classes ty U ∧ mx_X ty U
theorem mx_K.moved {D : va_G} {ty : mx_T} {u U : State} (hvm : u.vm.Alike U.vm) (h : mx_K D ty u) : mx_K D ty U := by
  obtain ⟨h1, h2, qI, qG, kA, a1, a2, a3, a4⟩ := h
  obtain ⟨k', hk', he⟩ := hvm.2.2 _ _ a3
  exact ⟨va_K.moved hvm h1, h2.moved hvm, qI, qG, k', a1, a2, hk', by rw [he]; exact a4⟩
def rl_v (b : Nat) (as : List Nat) (v v' : Value) : Prop := match v with
  | .ref i => ∃ a, as[i]? = some a ∧ v' = .ref a
  | .retAddr n => n = 1 ∧ v' = .ref b
  | v => v' = v
def rl_s (b : Nat) (as : List Nat) : List Value → List Value → Prop
  | [], l => l = []
  | v :: t, l => ∃ v' t', l = v' :: t' ∧ rl_v b as v v' ∧ rl_s b as t t'
def rl_r (as : List Nat) (x x' : Option Nat) : Prop := match x with
  | none => x' = none
  | some i => ∃ a, as[i]? = some a ∧ x' = some a
def rl_o (b : Nat) (as : List Nat) (v v' : Option Value) : Prop := match v with
  | none => v' = none
  | some x => ∃ x', v' = some x' ∧ rl_v b as x x'
def rl_e (b : Nat) (as : List Nat) (ty : mx_T) (c c' : va_E) : Prop := match c with
  | .inr (ci, fs) => ∃ fs', c' = .inr (ci, fs') ∧ rl_s b as fs fs'
  | .inl (t, n, .inl f) => ∃ q, ty[t]? = some q ∧ c' = .inl (q.1, n, .inl f)
  | .inl (t, n, .inr (.inr (.inr (.inr f)))) => ∃ q f', ty[t]? = some q ∧ c' = .inl (q.1, n, .inr (.inr (.inr (.inr f')))) ∧ ∀ i, rl_r as (f i) (f' i)
  | _ => False
def rl_c (b : Nat) (as : List Nat) (ty : mx_T) (h : mx_H) (ws : va_W) : Prop := ws.map (·.1) = as ∧ as.length = h.length ∧ ∀ (i : Nat) (c : va_E), h[i]? = some c → ∃ a c', ws[i]? = some (a, c') ∧ rl_e b as ty c c'
def rl_w (D : va_G) (ty : mx_T) (A : Nat → Prop) (H0 : Heap) (b : Nat) (as : List Nat) (h : mx_H) (H : Heap) (locs : List Loc) : Prop := ∃ ws : va_W, rl_c b as ty h ws ∧ va_P D classes ws H ∧ va_D A ws ∧ va_S A H0 H locs
def rl_l (b : Nat) (as : List Nat) (L : List Value) (ls : Array Slot) (nL : Nat) : Prop := L.length = nL ∧ ∃ lv, lv_has ls nL lv ∧ ∀ (i : Nat) (v : Value), L[i]? = some v → v ≠ .retAddr 0 → ∃ v', rl_v b as v v' ∧ (i, v') ∈ lv
def fx_R (Y : mx_Y) (pc : Nat) (v' : Option Value) : Prop := match v' with
  | none => decode Y.2.1 pc = .ok (.return_, 1) ∧ Y.2.2.2.1 = none
  | some (.int x) => decode Y.2.1 pc = .ok (.ireturn, 1) ∧ ∃ t, Y.2.2.2.1 = some t ∧ narrow t (.int x) = .int x
  | some v => decode Y.2.1 pc = .ok (.areturn, 1) ∧ ∃ t, Y.2.2.2.1 = some t ∧ ((∃ n, t = .object n) ∨ ∃ u, t = .array u) ∧ (v = .null ∨ ∃ a, v = .ref a)
def fx_C (Y : mx_Y) (sc : mx_S) (D : va_G) (ty : mx_T) (A : Nat → Prop) (H0 : Heap) (b mcT msT : Nat) (p : Program) (R : Room) (s : State) (m : MethodId) (args : Array Value) (meth : Method) (c : Code) : Prop :=
  p.tables.exec = Jvm.exec ∧ c.code = Y.2.1 ∧ meth.sig.returnType = Y.2.2.2.1 ∧ c.maxLocals = Y.2.2.1 ∧ s.vm.findClass Y.1.cls = some m.cls ∧ meth.locks = false ∧ (Y.1.name = "<init>" → meth.name = "<init>") ∧ (∀ w ∈ WS, w.before args s = true) ∧ mx_K D ty s ∧ ty.map (·.2) = TY ∧ Y.2.2.2.2 ≤ R.frames ∧ 40 * Y.2.2.2.2 ≤ R.locals ∧ mcT ≤ R.cells ∧ msT ≤ R.slots ∧ (∀ q, H0.size ≤ q → A q) ∧ (∀ x, sc = some x → va_X b x.1 x.2 s H0 ∧ b < H0.size ∧ ¬ A b)
/-- from this state of method Y (k cells and n slots may still be made) the method returns, and Q holds of its answer and the heap then -/
def wp_m (l : Launch) (Y : mx_Y) (sc : mx_S) (k n : Nat) (pc : Nat) (L st : List Value) (h : mx_H) (Q : Option Value → mx_H → Prop) : Prop :=
  ∀ (D : va_G) (ty : mx_T) (A : Nat → Prop) (H0 : Heap) (b : Nat) (as0 : List Nat) (mcT msT : Nat) (p : Program) (e : Env) (R : Room) (s : State) (m : MethodId) (args : Array Value) (below : List Frame) (meth : Method) (c : Code) (Z : State → Prop),
    fx_C Y sc D ty A H0 b mcT msT p R s m args meth c →
    (∀ (as : List Nat) (h' : mx_H) (H : Heap) (locs : List Loc) (pc' : Nat) (ls : Array Slot) (v v' : Option Value), rl_w D ty A H0 b as h' H locs → as0 <+: as → fx_R Y pc' v' → rl_o b as v v' → Q v h' → W p l e R s m args below meth c H locs mcT msT Z (F0 m pc' ls v'.toList)) →
    ∀ (as : List Nat) (H : Heap) (locs : List Loc) (ls : Array Slot) (st' : List Value) (cells slots : Nat), rl_w D ty A H0 b as h H locs → as0 <+: as → rl_l b as L ls Y.2.2.1 → rl_s b as st st' → cells + k ≤ mcT → slots + n ≤ msT →
    W p l e R s m args below meth c H locs cells slots Z (F0 m pc ls st')
section MX
variable {l : Launch} {Y : mx_Y} {sc : mx_S} {k n : Nat} {pc : Nat} {L st : List Value} {h : mx_H} {Q : Option Value → mx_H → Prop}

theorem wp_iconst {i : Int} {v : Int32} (hi : decode Y.2.1 pc = .ok (.iconst i, 1)) (hv : Int32.ofInt i = v) (kk : wp_m l Y sc k n (pc + 1) L (.int v :: st) h Q) : wp_m l Y sc k n pc L (st) h Q := by
  intro D ty A H0 b as0 mcT msT p e R s m args below meth c Z hC hR as H locs ls st' cells slots hw hpre hl hs hk hn
  exact lv_iconst hC.1 hC.2.1 hi hv (kk D ty A H0 b as0 mcT msT p e R s m args below meth c Z hC hR as H locs ls _ cells slots hw hpre hl ⟨_, _, rfl, rfl, hs⟩ hk hn)
theorem wp_bipush {i : Int} {v : Int32} (hi : decode Y.2.1 pc = .ok (.bipush i, 2)) (hv : (Int8.ofInt i).toInt32 = v) (kk : wp_m l Y sc k n (pc + 2) L (.int v :: st) h Q) : wp_m l Y sc k n pc L (st) h Q := by
  intro D ty A H0 b as0 mcT msT p e R s m args below meth c Z hC hR as H locs ls st' cells slots hw hpre hl hs hk hn
  exact lv_bipush hC.1 hC.2.1 hi hv (kk D ty A H0 b as0 mcT msT p e R s m args below meth c Z hC hR as H locs ls _ cells slots hw hpre hl ⟨_, _, rfl, rfl, hs⟩ hk hn)
theorem wp_sipush {i : Int} {v : Int32} (hi : decode Y.2.1 pc = .ok (.sipush i, 3)) (hv : (Int16.ofInt i).toInt32 = v) (kk : wp_m l Y sc k n (pc + 3) L (.int v :: st) h Q) : wp_m l Y sc k n pc L (st) h Q := by
  intro D ty A H0 b as0 mcT msT p e R s m args below meth c Z hC hR as H locs ls st' cells slots hw hpre hl hs hk hn
  exact lv_sipush hC.1 hC.2.1 hi hv (kk D ty A H0 b as0 mcT msT p e R s m args below meth c Z hC hR as H locs ls _ cells slots hw hpre hl ⟨_, _, rfl, rfl, hs⟩ hk hn)
theorem wp_null  (hi : decode Y.2.1 pc = .ok (.aconst_null, 1)) (kk : wp_m l Y sc k n (pc + 1) L (.null :: st) h Q) : wp_m l Y sc k n pc L (st) h Q := by
  intro D ty A H0 b as0 mcT msT p e R s m args below meth c Z hC hR as H locs ls st' cells slots hw hpre hl hs hk hn
  exact lv_null hC.1 hC.2.1 hi (kk D ty A H0 b as0 mcT msT p e R s m args below meth c Z hC hR as H locs ls _ cells slots hw hpre hl ⟨_, _, rfl, rfl, hs⟩ hk hn)
theorem wp_iadd {x y : Int32} (hi : decode Y.2.1 pc = .ok (.iadd, 1)) (kk : wp_m l Y sc k n (pc + 1) L (.int (x + y) :: st) h Q) : wp_m l Y sc k n pc L (.int y :: .int x :: st) h Q := by
  intro D ty A H0 b as0 mcT msT p e R s m args below meth c Z hC hR as H locs ls st' cells slots hw hpre hl hs hk hn
  obtain ⟨_, _, rfl, rfl, hs⟩ := hs
  obtain ⟨_, _, rfl, rfl, hs⟩ := hs
  exact lv_iadd hC.1 hC.2.1 hi (kk D ty A H0 b as0 mcT msT p e R s m args below meth c Z hC hR as H locs ls _ cells slots hw hpre hl ⟨_, _, rfl, rfl, hs⟩ hk hn)
theorem wp_isub {x y : Int32} (hi : decode Y.2.1 pc = .ok (.isub, 1)) (kk : wp_m l Y sc k n (pc + 1) L (.int (x - y) :: st) h Q) : wp_m l Y sc k n pc L (.int y :: .int x :: st) h Q := by
  intro D ty A H0 b as0 mcT msT p e R s m args below meth c Z hC hR as H locs ls st' cells slots hw hpre hl hs hk hn
  obtain ⟨_, _, rfl, rfl, hs⟩ := hs
  obtain ⟨_, _, rfl, rfl, hs⟩ := hs
  exact lv_isub hC.1 hC.2.1 hi (kk D ty A H0 b as0 mcT msT p e R s m args below meth c Z hC hR as H locs ls _ cells slots hw hpre hl ⟨_, _, rfl, rfl, hs⟩ hk hn)
theorem wp_imul {x y : Int32} (hi : decode Y.2.1 pc = .ok (.imul, 1)) (kk : wp_m l Y sc k n (pc + 1) L (.int (x * y) :: st) h Q) : wp_m l Y sc k n pc L (.int y :: .int x :: st) h Q := by
  intro D ty A H0 b as0 mcT msT p e R s m args below meth c Z hC hR as H locs ls st' cells slots hw hpre hl hs hk hn
  obtain ⟨_, _, rfl, rfl, hs⟩ := hs
  obtain ⟨_, _, rfl, rfl, hs⟩ := hs
  exact lv_imul hC.1 hC.2.1 hi (kk D ty A H0 b as0 mcT msT p e R s m args below meth c Z hC hR as H locs ls _ cells slots hw hpre hl ⟨_, _, rfl, rfl, hs⟩ hk hn)
theorem wp_iand {x y : Int32} (hi : decode Y.2.1 pc = .ok (.iand, 1)) (kk : wp_m l Y sc k n (pc + 1) L (.int (x &&& y) :: st) h Q) : wp_m l Y sc k n pc L (.int y :: .int x :: st) h Q := by
  intro D ty A H0 b as0 mcT msT p e R s m args below meth c Z hC hR as H locs ls st' cells slots hw hpre hl hs hk hn
  obtain ⟨_, _, rfl, rfl, hs⟩ := hs
  obtain ⟨_, _, rfl, rfl, hs⟩ := hs
  exact lv_iand hC.1 hC.2.1 hi (kk D ty A H0 b as0 mcT msT p e R s m args below meth c Z hC hR as H locs ls _ cells slots hw hpre hl ⟨_, _, rfl, rfl, hs⟩ hk hn)
theorem wp_ior {x y : Int32} (hi : decode Y.2.1 pc = .ok (.ior, 1)) (kk : wp_m l Y sc k n (pc + 1) L (.int (x ||| y) :: st) h Q) : wp_m l Y sc k n pc L (.int y :: .int x :: st) h Q := by
  intro D ty A H0 b as0 mcT msT p e R s m args below meth c Z hC hR as H locs ls st' cells slots hw hpre hl hs hk hn
  obtain ⟨_, _, rfl, rfl, hs⟩ := hs
  obtain ⟨_, _, rfl, rfl, hs⟩ := hs
  exact lv_ior hC.1 hC.2.1 hi (kk D ty A H0 b as0 mcT msT p e R s m args below meth c Z hC hR as H locs ls _ cells slots hw hpre hl ⟨_, _, rfl, rfl, hs⟩ hk hn)
theorem wp_ixor {x y : Int32} (hi : decode Y.2.1 pc = .ok (.ixor, 1)) (kk : wp_m l Y sc k n (pc + 1) L (.int (x ^^^ y) :: st) h Q) : wp_m l Y sc k n pc L (.int y :: .int x :: st) h Q := by
  intro D ty A H0 b as0 mcT msT p e R s m args below meth c Z hC hR as H locs ls st' cells slots hw hpre hl hs hk hn
  obtain ⟨_, _, rfl, rfl, hs⟩ := hs
  obtain ⟨_, _, rfl, rfl, hs⟩ := hs
  exact lv_ixor hC.1 hC.2.1 hi (kk D ty A H0 b as0 mcT msT p e R s m args below meth c Z hC hR as H locs ls _ cells slots hw hpre hl ⟨_, _, rfl, rfl, hs⟩ hk hn)
theorem wp_ishl {x y : Int32} (hi : decode Y.2.1 pc = .ok (.ishl, 1)) (kk : wp_m l Y sc k n (pc + 1) L (.int (x <<< (y &&& 31)) :: st) h Q) : wp_m l Y sc k n pc L (.int y :: .int x :: st) h Q := by
  intro D ty A H0 b as0 mcT msT p e R s m args below meth c Z hC hR as H locs ls st' cells slots hw hpre hl hs hk hn
  obtain ⟨_, _, rfl, rfl, hs⟩ := hs
  obtain ⟨_, _, rfl, rfl, hs⟩ := hs
  exact lv_ishl hC.1 hC.2.1 hi (kk D ty A H0 b as0 mcT msT p e R s m args below meth c Z hC hR as H locs ls _ cells slots hw hpre hl ⟨_, _, rfl, rfl, hs⟩ hk hn)
theorem wp_ishr {x y : Int32} (hi : decode Y.2.1 pc = .ok (.ishr, 1)) (kk : wp_m l Y sc k n (pc + 1) L (.int (x >>> (y &&& 31)) :: st) h Q) : wp_m l Y sc k n pc L (.int y :: .int x :: st) h Q := by
  intro D ty A H0 b as0 mcT msT p e R s m args below meth c Z hC hR as H locs ls st' cells slots hw hpre hl hs hk hn
  obtain ⟨_, _, rfl, rfl, hs⟩ := hs
  obtain ⟨_, _, rfl, rfl, hs⟩ := hs
  exact lv_ishr hC.1 hC.2.1 hi (kk D ty A H0 b as0 mcT msT p e R s m args below meth c Z hC hR as H locs ls _ cells slots hw hpre hl ⟨_, _, rfl, rfl, hs⟩ hk hn)
theorem wp_irem {x y : Int32} (hi : decode Y.2.1 pc = .ok (.irem, 1)) (hy : ¬ y = 0) (kk : wp_m l Y sc k n (pc + 1) L (.int (x - x / y * y) :: st) h Q) : wp_m l Y sc k n pc L (.int y :: .int x :: st) h Q := by
  intro D ty A H0 b as0 mcT msT p e R s m args below meth c Z hC hR as H locs ls st' cells slots hw hpre hl hs hk hn
  obtain ⟨_, _, rfl, rfl, hs⟩ := hs
  obtain ⟨_, _, rfl, rfl, hs⟩ := hs
  exact lv_irem hC.1 hC.2.1 hi hy (kk D ty A H0 b as0 mcT msT p e R s m args below meth c Z hC hR as H locs ls _ cells slots hw hpre hl ⟨_, _, rfl, rfl, hs⟩ hk hn)
theorem wp_idiv {x y : Int32} (hi : decode Y.2.1 pc = .ok (.idiv, 1)) (hy : ¬ y = 0) (kk : wp_m l Y sc k n (pc + 1) L (.int (x / y) :: st) h Q) : wp_m l Y sc k n pc L (.int y :: .int x :: st) h Q := by
  intro D ty A H0 b as0 mcT msT p e R s m args below meth c Z hC hR as H locs ls st' cells slots hw hpre hl hs hk hn
  obtain ⟨_, _, rfl, rfl, hs⟩ := hs
  obtain ⟨_, _, rfl, rfl, hs⟩ := hs
  exact lv_idiv hC.1 hC.2.1 hi hy (kk D ty A H0 b as0 mcT msT p e R s m args below meth c Z hC hR as H locs ls _ cells slots hw hpre hl ⟨_, _, rfl, rfl, hs⟩ hk hn)
theorem wp_ineg {x : Int32} (hi : decode Y.2.1 pc = .ok (.ineg, 1)) (kk : wp_m l Y sc k n (pc + 1) L (.int (-x) :: st) h Q) : wp_m l Y sc k n pc L (.int x :: st) h Q := by
  intro D ty A H0 b as0 mcT msT p e R s m args below meth c Z hC hR as H locs ls st' cells slots hw hpre hl hs hk hn
  obtain ⟨_, _, rfl, rfl, hs⟩ := hs
  exact lv_ineg hC.1 hC.2.1 hi (kk D ty A H0 b as0 mcT msT p e R s m args below meth c Z hC hR as H locs ls _ cells slots hw hpre hl ⟨_, _, rfl, rfl, hs⟩ hk hn)
theorem wp_ladd {x y : Int64} (hi : decode Y.2.1 pc = .ok (.ladd, 1)) (kk : wp_m l Y sc k n (pc + 1) L (.long (x + y) :: st) h Q) : wp_m l Y sc k n pc L (.long y :: .long x :: st) h Q := by
  intro D ty A H0 b as0 mcT msT p e R s m args below meth c Z hC hR as H locs ls st' cells slots hw hpre hl hs hk hn
  obtain ⟨_, _, rfl, rfl, hs⟩ := hs
  obtain ⟨_, _, rfl, rfl, hs⟩ := hs
  exact lv_ladd hC.1 hC.2.1 hi (kk D ty A H0 b as0 mcT msT p e R s m args below meth c Z hC hR as H locs ls _ cells slots hw hpre hl ⟨_, _, rfl, rfl, hs⟩ hk hn)
theorem wp_lsub {x y : Int64} (hi : decode Y.2.1 pc = .ok (.lsub, 1)) (kk : wp_m l Y sc k n (pc + 1) L (.long (x - y) :: st) h Q) : wp_m l Y sc k n pc L (.long y :: .long x :: st) h Q := by
  intro D ty A H0 b as0 mcT msT p e R s m args below meth c Z hC hR as H locs ls st' cells slots hw hpre hl hs hk hn
  obtain ⟨_, _, rfl, rfl, hs⟩ := hs
  obtain ⟨_, _, rfl, rfl, hs⟩ := hs
  exact lv_lsub hC.1 hC.2.1 hi (kk D ty A H0 b as0 mcT msT p e R s m args below meth c Z hC hR as H locs ls _ cells slots hw hpre hl ⟨_, _, rfl, rfl, hs⟩ hk hn)
theorem wp_land {x y : Int64} (hi : decode Y.2.1 pc = .ok (.land, 1)) (kk : wp_m l Y sc k n (pc + 1) L (.long (x &&& y) :: st) h Q) : wp_m l Y sc k n pc L (.long y :: .long x :: st) h Q := by
  intro D ty A H0 b as0 mcT msT p e R s m args below meth c Z hC hR as H locs ls st' cells slots hw hpre hl hs hk hn
  obtain ⟨_, _, rfl, rfl, hs⟩ := hs
  obtain ⟨_, _, rfl, rfl, hs⟩ := hs
  exact lv_land hC.1 hC.2.1 hi (kk D ty A H0 b as0 mcT msT p e R s m args below meth c Z hC hR as H locs ls _ cells slots hw hpre hl ⟨_, _, rfl, rfl, hs⟩ hk hn)
theorem wp_lor {x y : Int64} (hi : decode Y.2.1 pc = .ok (.lor, 1)) (kk : wp_m l Y sc k n (pc + 1) L (.long (x ||| y) :: st) h Q) : wp_m l Y sc k n pc L (.long y :: .long x :: st) h Q := by
  intro D ty A H0 b as0 mcT msT p e R s m args below meth c Z hC hR as H locs ls st' cells slots hw hpre hl hs hk hn
  obtain ⟨_, _, rfl, rfl, hs⟩ := hs
  obtain ⟨_, _, rfl, rfl, hs⟩ := hs
  exact lv_lor hC.1 hC.2.1 hi (kk D ty A H0 b as0 mcT msT p e R s m args below meth c Z hC hR as H locs ls _ cells slots hw hpre hl ⟨_, _, rfl, rfl, hs⟩ hk hn)
theorem wp_i2l {x : Int32} (hi : decode Y.2.1 pc = .ok (.i2l, 1)) (kk : wp_m l Y sc k n (pc + 1) L (.long x.toInt64 :: st) h Q) : wp_m l Y sc k n pc L (.int x :: st) h Q := by
  intro D ty A H0 b as0 mcT msT p e R s m args below meth c Z hC hR as H locs ls st' cells slots hw hpre hl hs hk hn
  obtain ⟨_, _, rfl, rfl, hs⟩ := hs
  exact lv_i2l hC.1 hC.2.1 hi rfl (kk D ty A H0 b as0 mcT msT p e R s m args below meth c Z hC hR as H locs ls _ cells slots hw hpre hl ⟨_, _, rfl, rfl, hs⟩ hk hn)
theorem wp_l2i {x : Int64} (hi : decode Y.2.1 pc = .ok (.l2i, 1)) (kk : wp_m l Y sc k n (pc + 1) L (.int x.toInt32 :: st) h Q) : wp_m l Y sc k n pc L (.long x :: st) h Q := by
  intro D ty A H0 b as0 mcT msT p e R s m args below meth c Z hC hR as H locs ls st' cells slots hw hpre hl hs hk hn
  obtain ⟨_, _, rfl, rfl, hs⟩ := hs
  exact lv_l2i hC.1 hC.2.1 hi rfl (kk D ty A H0 b as0 mcT msT p e R s m args below meth c Z hC hR as H locs ls _ cells slots hw hpre hl ⟨_, _, rfl, rfl, hs⟩ hk hn)
theorem wp_i2b {x : Int32} (hi : decode Y.2.1 pc = .ok (.i2b, 1)) (kk : wp_m l Y sc k n (pc + 1) L (.int x.toInt8.toInt32 :: st) h Q) : wp_m l Y sc k n pc L (.int x :: st) h Q := by
  intro D ty A H0 b as0 mcT msT p e R s m args below meth c Z hC hR as H locs ls st' cells slots hw hpre hl hs hk hn
  obtain ⟨_, _, rfl, rfl, hs⟩ := hs
  exact lv_i2b hC.1 hC.2.1 hi rfl (kk D ty A H0 b as0 mcT msT p e R s m args below meth c Z hC hR as H locs ls _ cells slots hw hpre hl ⟨_, _, rfl, rfl, hs⟩ hk hn)
theorem wp_lshr {x : Int64} {y : Int32} (hi : decode Y.2.1 pc = .ok (.lshr, 1)) (kk : wp_m l Y sc k n (pc + 1) L (.long (x >>> (y.toInt64 &&& 63)) :: st) h Q) : wp_m l Y sc k n pc L (.int y :: .long x :: st) h Q := by
  intro D ty A H0 b as0 mcT msT p e R s m args below meth c Z hC hR as H locs ls st' cells slots hw hpre hl hs hk hn
  obtain ⟨_, _, rfl, rfl, hs⟩ := hs
  obtain ⟨_, _, rfl, rfl, hs⟩ := hs
  exact lv_lshr hC.1 hC.2.1 hi rfl (kk D ty A H0 b as0 mcT msT p e R s m args below meth c Z hC hR as H locs ls _ cells slots hw hpre hl ⟨_, _, rfl, rfl, hs⟩ hk hn)
theorem wp_lshl {x : Int64} {y : Int32} (hi : decode Y.2.1 pc = .ok (.lshl, 1)) (kk : wp_m l Y sc k n (pc + 1) L (.long (x <<< (y.toInt64 &&& 63)) :: st) h Q) : wp_m l Y sc k n pc L (.int y :: .long x :: st) h Q := by
  intro D ty A H0 b as0 mcT msT p e R s m args below meth c Z hC hR as H locs ls st' cells slots hw hpre hl hs hk hn
  obtain ⟨_, _, rfl, rfl, hs⟩ := hs
  obtain ⟨_, _, rfl, rfl, hs⟩ := hs
  exact lv_lshl hC.1 hC.2.1 hi rfl (kk D ty A H0 b as0 mcT msT p e R s m args below meth c Z hC hR as H locs ls _ cells slots hw hpre hl ⟨_, _, rfl, rfl, hs⟩ hk hn)
theorem rl_cat {b : Nat} {as : List Nat} {v v' : Value} (h : rl_v b as v v') (hc : v.category = 1) : v'.category = 1 := by
  cases v <;> first | (obtain ⟨_, _, rfl⟩ := h; rfl) | (obtain ⟨_, rfl⟩ := h; rfl) | (cases (show v' = _ from h); exact hc)
theorem wp_dup {v : Value} (hi : decode Y.2.1 pc = .ok (.dup, 1)) (kk : wp_m l Y sc k n (pc + 1) L (v :: v :: st) h Q) (hv : v.category = 1 := by first | rfl | assumption) : wp_m l Y sc k n pc L (v :: st) h Q := by
  intro D ty A H0 b as0 mcT msT p e R s m args below meth c Z hC hR as H locs ls st' cells slots hw hpre hl hs hk hn
  obtain ⟨x, t, rfl, hx, hs⟩ := hs
  exact lv_dup hC.1 hC.2.1 hi (rl_cat hx hv) (kk D ty A H0 b as0 mcT msT p e R s m args below meth c Z hC hR as H locs ls _ cells slots hw hpre hl ⟨_, _, rfl, hx, _, _, rfl, hx, hs⟩ hk hn)
theorem wp_pop {v : Value} (hi : decode Y.2.1 pc = .ok (.pop, 1)) (kk : wp_m l Y sc k n (pc + 1) L st h Q) (hv : v.category = 1 := by first | rfl | assumption) : wp_m l Y sc k n pc L (v :: st) h Q := by
  intro D ty A H0 b as0 mcT msT p e R s m args below meth c Z hC hR as H locs ls st' cells slots hw hpre hl hs hk hn
  obtain ⟨x, t, rfl, hx, hs⟩ := hs
  exact lv_pop hC.1 hC.2.1 hi (rl_cat hx hv) (kk D ty A H0 b as0 mcT msT p e R s m args below meth c Z hC hR as H locs ls _ cells slots hw hpre hl hs hk hn)
theorem wp_dup2 {v u : Value} (hi : decode Y.2.1 pc = .ok (.dup2, 1)) (kk : wp_m l Y sc k n (pc + 1) L (v :: u :: v :: u :: st) h Q) (hv : v.category = 1 := by first | rfl | assumption) (hu : u.category = 1 := by first | rfl | assumption) : wp_m l Y sc k n pc L (v :: u :: st) h Q := by
  intro D ty A H0 b as0 mcT msT p e R s m args below meth c Z hC hR as H locs ls st' cells slots hw hpre hl hs hk hn
  obtain ⟨x, t, rfl, hx, z, t2, rfl, hz, hs⟩ := hs
  exact lv_dup2_11 hC.1 hC.2.1 hi (rl_cat hx hv) (rl_cat hz hu) (kk D ty A H0 b as0 mcT msT p e R s m args below meth c Z hC hR as H locs ls _ cells slots hw hpre hl ⟨_, _, rfl, hx, _, _, rfl, hz, _, _, rfl, hx, _, _, rfl, hz, hs⟩ hk hn)
theorem wp_dup_x1 {v u : Value} (hi : decode Y.2.1 pc = .ok (.dup_x1, 1)) (kk : wp_m l Y sc k n (pc + 1) L (v :: u :: v :: st) h Q) (hv : v.category = 1 := by first | rfl | assumption) (hu : u.category = 1 := by first | rfl | assumption) : wp_m l Y sc k n pc L (v :: u :: st) h Q := by
  intro D ty A H0 b as0 mcT msT p e R s m args below meth c Z hC hR as H locs ls st' cells slots hw hpre hl hs hk hn
  obtain ⟨x, t, rfl, hx, z, t2, rfl, hz, hs⟩ := hs
  exact lv_dup_x1 hC.1 hC.2.1 hi (rl_cat hx hv) (rl_cat hz hu) (kk D ty A H0 b as0 mcT msT p e R s m args below meth c Z hC hR as H locs ls _ cells slots hw hpre hl ⟨_, _, rfl, hx, _, _, rfl, hz, _, _, rfl, hx, hs⟩ hk hn)
theorem wp_if_eq {x : Int32} {off : Int} {t : Nat} (hi : decode Y.2.1 pc = .ok (.ifCond .eq off, 3)) (ht : (pc : Int) + off = (t : Int)) (kt : x = 0 → wp_m l Y sc k n t L st h Q) (kf : ¬ x = 0 → wp_m l Y sc k n (pc + 3) L st h Q) : wp_m l Y sc k n pc L (.int x :: st) h Q := by
  intro D ty A H0 b as0 mcT msT p e R s m args below meth c Z hC hR as H locs ls st' cells slots hw hpre hl hs hk hn
  obtain ⟨_, _, rfl, rfl, hs⟩ := hs
  exact lv_if_eq hC.1 hC.2.1 hi ht (fun q => kt q D ty A H0 b as0 mcT msT p e R s m args below meth c Z hC hR as H locs ls _ cells slots hw hpre hl hs hk hn) (fun q => kf q D ty A H0 b as0 mcT msT p e R s m args below meth c Z hC hR as H locs ls _ cells slots hw hpre hl hs hk hn)
theorem wp_ic_eq {x y : Int32} {off : Int} {t : Nat} (hi : decode Y.2.1 pc = .ok (.if_icmp .eq off, 3)) (ht : (pc : Int) + off = (t : Int)) (kt : x = y → wp_m l Y sc k n t L st h Q) (kf : ¬ x = y → wp_m l Y sc k n (pc + 3) L st h Q) : wp_m l Y sc k n pc L (.int y :: .int x :: st) h Q := by
  intro D ty A H0 b as0 mcT msT p e R s m args below meth c Z hC hR as H locs ls st' cells slots hw hpre hl hs hk hn
  obtain ⟨_, _, rfl, rfl, hs⟩ := hs
  obtain ⟨_, _, rfl, rfl, hs⟩ := hs
  exact lv_icmp_eq hC.1 hC.2.1 hi ht (fun q => kt q D ty A H0 b as0 mcT msT p e R s m args below meth c Z hC hR as H locs ls _ cells slots hw hpre hl hs hk hn) (fun q => kf q D ty A H0 b as0 mcT msT p e R s m args below meth c Z hC hR as H locs ls _ cells slots hw hpre hl hs hk hn)
theorem wp_if_ne {x : Int32} {off : Int} {t : Nat} (hi : decode Y.2.1 pc = .ok (.ifCond .ne off, 3)) (ht : (pc : Int) + off = (t : Int)) (kt : ¬ x = 0 → wp_m l Y sc k n t L st h Q) (kf : x = 0 → wp_m l Y sc k n (pc + 3) L st h Q) : wp_m l Y sc k n pc L (.int x :: st) h Q := by
  intro D ty A H0 b as0 mcT msT p e R s m args below meth c Z hC hR as H locs ls st' cells slots hw hpre hl hs hk hn
  obtain ⟨_, _, rfl, rfl, hs⟩ := hs
  exact lv_if_ne hC.1 hC.2.1 hi ht (fun q => kt q D ty A H0 b as0 mcT msT p e R s m args below meth c Z hC hR as H locs ls _ cells slots hw hpre hl hs hk hn) (fun q => kf q D ty A H0 b as0 mcT msT p e R s m args below meth c Z hC hR as H locs ls _ cells slots hw hpre hl hs hk hn)
theorem wp_ic_ne {x y : Int32} {off : Int} {t : Nat} (hi : decode Y.2.1 pc = .ok (.if_icmp .ne off, 3)) (ht : (pc : Int) + off = (t : Int)) (kt : ¬ x = y → wp_m l Y sc k n t L st h Q) (kf : x = y → wp_m l Y sc k n (pc + 3) L st h Q) : wp_m l Y sc k n pc L (.int y :: .int x :: st) h Q := by
  intro D ty A H0 b as0 mcT msT p e R s m args below meth c Z hC hR as H locs ls st' cells slots hw hpre hl hs hk hn
  obtain ⟨_, _, rfl, rfl, hs⟩ := hs
  obtain ⟨_, _, rfl, rfl, hs⟩ := hs
  exact lv_icmp_ne hC.1 hC.2.1 hi ht (fun q => kt q D ty A H0 b as0 mcT msT p e R s m args below meth c Z hC hR as H locs ls _ cells slots hw hpre hl hs hk hn) (fun q => kf q D ty A H0 b as0 mcT msT p e R s m args below meth c Z hC hR as H locs ls _ cells slots hw hpre hl hs hk hn)
theorem wp_if_lt {x : Int32} {off : Int} {t : Nat} (hi : decode Y.2.1 pc = .ok (.ifCond .lt off, 3)) (ht : (pc : Int) + off = (t : Int)) (kt : x < 0 → wp_m l Y sc k n t L st h Q) (kf : ¬ x < 0 → wp_m l Y sc k n (pc + 3) L st h Q) : wp_m l Y sc k n pc L (.int x :: st) h Q := by
  intro D ty A H0 b as0 mcT msT p e R s m args below meth c Z hC hR as H locs ls st' cells slots hw hpre hl hs hk hn
  obtain ⟨_, _, rfl, rfl, hs⟩ := hs
  exact lv_if_lt hC.1 hC.2.1 hi ht (fun q => kt q D ty A H0 b as0 mcT msT p e R s m args below meth c Z hC hR as H locs ls _ cells slots hw hpre hl hs hk hn) (fun q => kf q D ty A H0 b as0 mcT msT p e R s m args below meth c Z hC hR as H locs ls _ cells slots hw hpre hl hs hk hn)
theorem wp_ic_lt {x y : Int32} {off : Int} {t : Nat} (hi : decode Y.2.1 pc = .ok (.if_icmp .lt off, 3)) (ht : (pc : Int) + off = (t : Int)) (kt : x < y → wp_m l Y sc k n t L st h Q) (kf : ¬ x < y → wp_m l Y sc k n (pc + 3) L st h Q) : wp_m l Y sc k n pc L (.int y :: .int x :: st) h Q := by
  intro D ty A H0 b as0 mcT msT p e R s m args below meth c Z hC hR as H locs ls st' cells slots hw hpre hl hs hk hn
  obtain ⟨_, _, rfl, rfl, hs⟩ := hs
  obtain ⟨_, _, rfl, rfl, hs⟩ := hs
  exact lv_icmp_lt hC.1 hC.2.1 hi ht (fun q => kt q D ty A H0 b as0 mcT msT p e R s m args below meth c Z hC hR as H locs ls _ cells slots hw hpre hl hs hk hn) (fun q => kf q D ty A H0 b as0 mcT msT p e R s m args below meth c Z hC hR as H locs ls _ cells slots hw hpre hl hs hk hn)
theorem wp_if_ge {x : Int32} {off : Int} {t : Nat} (hi : decode Y.2.1 pc = .ok (.ifCond .ge off, 3)) (ht : (pc : Int) + off = (t : Int)) (kt : 0 ≤ x → wp_m l Y sc k n t L st h Q) (kf : ¬ 0 ≤ x → wp_m l Y sc k n (pc + 3) L st h Q) : wp_m l Y sc k n pc L (.int x :: st) h Q := by
  intro D ty A H0 b as0 mcT msT p e R s m args below meth c Z hC hR as H locs ls st' cells slots hw hpre hl hs hk hn
  obtain ⟨_, _, rfl, rfl, hs⟩ := hs
  exact lv_if_ge hC.1 hC.2.1 hi ht (fun q => kt q D ty A H0 b as0 mcT msT p e R s m args below meth c Z hC hR as H locs ls _ cells slots hw hpre hl hs hk hn) (fun q => kf q D ty A H0 b as0 mcT msT p e R s m args below meth c Z hC hR as H locs ls _ cells slots hw hpre hl hs hk hn)
theorem wp_ic_ge {x y : Int32} {off : Int} {t : Nat} (hi : decode Y.2.1 pc = .ok (.if_icmp .ge off, 3)) (ht : (pc : Int) + off = (t : Int)) (kt : y ≤ x → wp_m l Y sc k n t L st h Q) (kf : ¬ y ≤ x → wp_m l Y sc k n (pc + 3) L st h Q) : wp_m l Y sc k n pc L (.int y :: .int x :: st) h Q := by
  intro D ty A H0 b as0 mcT msT p e R s m args below meth c Z hC hR as H locs ls st' cells slots hw hpre hl hs hk hn
  obtain ⟨_, _, rfl, rfl, hs⟩ := hs
  obtain ⟨_, _, rfl, rfl, hs⟩ := hs
  exact lv_icmp_ge hC.1 hC.2.1 hi ht (fun q => kt q D ty A H0 b as0 mcT msT p e R s m args below meth c Z hC hR as H locs ls _ cells slots hw hpre hl hs hk hn) (fun q => kf q D ty A H0 b as0 mcT msT p e R s m args below meth c Z hC hR as H locs ls _ cells slots hw hpre hl hs hk hn)
theorem wp_if_gt {x : Int32} {off : Int} {t : Nat} (hi : decode Y.2.1 pc = .ok (.ifCond .gt off, 3)) (ht : (pc : Int) + off = (t : Int)) (kt : 0 < x → wp_m l Y sc k n t L st h Q) (kf : ¬ 0 < x → wp_m l Y sc k n (pc + 3) L st h Q) : wp_m l Y sc k n pc L (.int x :: st) h Q := by
  intro D ty A H0 b as0 mcT msT p e R s m args below meth c Z hC hR as H locs ls st' cells slots hw hpre hl hs hk hn
  obtain ⟨_, _, rfl, rfl, hs⟩ := hs
  exact lv_if_gt hC.1 hC.2.1 hi ht (fun q => kt q D ty A H0 b as0 mcT msT p e R s m args below meth c Z hC hR as H locs ls _ cells slots hw hpre hl hs hk hn) (fun q => kf q D ty A H0 b as0 mcT msT p e R s m args below meth c Z hC hR as H locs ls _ cells slots hw hpre hl hs hk hn)
theorem wp_ic_gt {x y : Int32} {off : Int} {t : Nat} (hi : decode Y.2.1 pc = .ok (.if_icmp .gt off, 3)) (ht : (pc : Int) + off = (t : Int)) (kt : y < x → wp_m l Y sc k n t L st h Q) (kf : ¬ y < x → wp_m l Y sc k n (pc + 3) L st h Q) : wp_m l Y sc k n pc L (.int y :: .int x :: st) h Q := by
  intro D ty A H0 b as0 mcT msT p e R s m args below meth c Z hC hR as H locs ls st' cells slots hw hpre hl hs hk hn
  obtain ⟨_, _, rfl, rfl, hs⟩ := hs
  obtain ⟨_, _, rfl, rfl, hs⟩ := hs
  exact lv_icmp_gt hC.1 hC.2.1 hi ht (fun q => kt q D ty A H0 b as0 mcT msT p e R s m args below meth c Z hC hR as H locs ls _ cells slots hw hpre hl hs hk hn) (fun q => kf q D ty A H0 b as0 mcT msT p e R s m args below meth c Z hC hR as H locs ls _ cells slots hw hpre hl hs hk hn)
theorem wp_if_le {x : Int32} {off : Int} {t : Nat} (hi : decode Y.2.1 pc = .ok (.ifCond .le off, 3)) (ht : (pc : Int) + off = (t : Int)) (kt : x ≤ 0 → wp_m l Y sc k n t L st h Q) (kf : ¬ x ≤ 0 → wp_m l Y sc k n (pc + 3) L st h Q) : wp_m l Y sc k n pc L (.int x :: st) h Q := by
  intro D ty A H0 b as0 mcT msT p e R s m args below meth c Z hC hR as H locs ls st' cells slots hw hpre hl hs hk hn
  obtain ⟨_, _, rfl, rfl, hs⟩ := hs
  exact lv_if_le hC.1 hC.2.1 hi ht (fun q => kt q D ty A H0 b as0 mcT msT p e R s m args below meth c Z hC hR as H locs ls _ cells slots hw hpre hl hs hk hn) (fun q => kf q D ty A H0 b as0 mcT msT p e R s m args below meth c Z hC hR as H locs ls _ cells slots hw hpre hl hs hk hn)
theorem wp_ic_le {x y : Int32} {off : Int} {t : Nat} (hi : decode Y.2.1 pc = .ok (.if_icmp .le off, 3)) (ht : (pc : Int) + off = (t : Int)) (kt : x ≤ y → wp_m l Y sc k n t L st h Q) (kf : ¬ x ≤ y → wp_m l Y sc k n (pc + 3) L st h Q) : wp_m l Y sc k n pc L (.int y :: .int x :: st) h Q := by
  intro D ty A H0 b as0 mcT msT p e R s m args below meth c Z hC hR as H locs ls st' cells slots hw hpre hl hs hk hn
  obtain ⟨_, _, rfl, rfl, hs⟩ := hs
  obtain ⟨_, _, rfl, rfl, hs⟩ := hs
  exact lv_icmp_le hC.1 hC.2.1 hi ht (fun q => kt q D ty A H0 b as0 mcT msT p e R s m args below meth c Z hC hR as H locs ls _ cells slots hw hpre hl hs hk hn) (fun q => kf q D ty A H0 b as0 mcT msT p e R s m args below meth c Z hC hR as H locs ls _ cells slots hw hpre hl hs hk hn)
theorem wp_goto {off : Int} {t : Nat} (hi : decode Y.2.1 pc = .ok (.goto off, 3)) (ht : (pc : Int) + off = (t : Int)) (kk : wp_m l Y sc k n t L st h Q) : wp_m l Y sc k n pc L st h Q := by
  intro D ty A H0 b as0 mcT msT p e R s m args below meth c Z hC hR as H locs ls st' cells slots hw hpre hl hs hk hn
  exact lv_goto hC.1 hC.2.1 hi ht (kk D ty A H0 b as0 mcT msT p e R s m args below meth c Z hC hR as H locs ls _ cells slots hw hpre hl hs hk hn)
theorem wp_ifnullR {a : Nat} {off : Int} (hi : decode Y.2.1 pc = .ok (.ifnull off, 3)) (kk : wp_m l Y sc k n (pc + 3) L st h Q) : wp_m l Y sc k n pc L (.ref a :: st) h Q := by
  intro D ty A H0 b as0 mcT msT p e R s m args below meth c Z hC hR as H locs ls st' cells slots hw hpre hl hs hk hn
  obtain ⟨_, _, rfl, ⟨a', ha, rfl⟩, hs⟩ := hs
  exact lv_ifnull hC.1 hC.2.1 hi (kk D ty A H0 b as0 mcT msT p e R s m args below meth c Z hC hR as H locs ls _ cells slots hw hpre hl hs hk hn)
theorem wp_ifnullN {off : Int} {t : Nat} (hi : decode Y.2.1 pc = .ok (.ifnull off, 3)) (ht : (pc : Int) + off = (t : Int)) (kk : wp_m l Y sc k n t L st h Q) : wp_m l Y sc k n pc L (.null :: st) h Q := by
  intro D ty A H0 b as0 mcT msT p e R s m args below meth c Z hC hR as H locs ls st' cells slots hw hpre hl hs hk hn
  obtain ⟨_, _, rfl, rfl, hs⟩ := hs
  exact lv_ifnullN hC.1 hC.2.1 hi ht (kk D ty A H0 b as0 mcT msT p e R s m args below meth c Z hC hR as H locs ls _ cells slots hw hpre hl hs hk hn)
theorem wp_ifnonnullR {a : Nat} {off : Int} {t : Nat} (hi : decode Y.2.1 pc = .ok (.ifnonnull off, 3)) (ht : (pc : Int) + off = (t : Int)) (kk : wp_m l Y sc k n t L st h Q) : wp_m l Y sc k n pc L (.ref a :: st) h Q := by
  intro D ty A H0 b as0 mcT msT p e R s m args below meth c Z hC hR as H locs ls st' cells slots hw hpre hl hs hk hn
  obtain ⟨_, _, rfl, ⟨a', ha, rfl⟩, hs⟩ := hs
  exact lv_ifnonnull hC.1 hC.2.1 hi ht (kk D ty A H0 b as0 mcT msT p e R s m args below meth c Z hC hR as H locs ls _ cells slots hw hpre hl hs hk hn)
theorem wp_ifnonnullN {off : Int} (hi : decode Y.2.1 pc = .ok (.ifnonnull off, 3)) (kk : wp_m l Y sc k n (pc + 3) L st h Q) : wp_m l Y sc k n pc L (.null :: st) h Q := by
  intro D ty A H0 b as0 mcT msT p e R s m args below meth c Z hC hR as H locs ls st' cells slots hw hpre hl hs hk hn
  obtain ⟨_, _, rfl, rfl, hs⟩ := hs
  exact lv_ifnonnullN hC.1 hC.2.1 hi (kk D ty A H0 b as0 mcT msT p e R s m args below meth c Z hC hR as H locs ls _ cells slots hw hpre hl hs hk hn)
theorem wp_lookup {d : Int} {ps : Array (Int × Int)} {len : Nat} {x : Int32} {off : Int} {t : Nat} (hi : decode Y.2.1 pc = .ok (.lookupswitch d ps, len)) (hp : (ps.toList.zip (ps.toList.drop 1)).all (fun (a, next) => a.1 < next.1) = true) (ho : Op.lookupswitch.offset ps.toList d x.toInt = off) (ht : (pc : Int) + off = (t : Int)) (kk : wp_m l Y sc k n t L st h Q) : wp_m l Y sc k n pc L (.int x :: st) h Q := by
  intro D ty A H0 b as0 mcT msT p e R s m args below meth c Z hC hR as H locs ls st' cells slots hw hpre hl hs hk hn
  obtain ⟨_, _, rfl, rfl, hs⟩ := hs
  exact lv_lookup hC.1 hC.2.1 hi hp ho ht (kk D ty A H0 b as0 mcT msT p e R s m args below meth c Z hC hR as H locs ls _ cells slots hw hpre hl hs hk hn)
theorem wp_tabOut {d lo up : Int} {os : Array Int} {len : Nat} {x : Int32} {t : Nat} (hi : decode Y.2.1 pc = .ok (.tableswitch d lo up os, len)) (hx : x.toInt < lo ∨ up < x.toInt) (ht : (pc : Int) + d = (t : Int)) (kk : wp_m l Y sc k n t L st h Q) : wp_m l Y sc k n pc L (.int x :: st) h Q := by
  intro D ty A H0 b as0 mcT msT p e R s m args below meth c Z hC hR as H locs ls st' cells slots hw hpre hl hs hk hn
  obtain ⟨_, _, rfl, rfl, hs⟩ := hs
  exact lv_tableOut hC.1 hC.2.1 hi hx ht (kk D ty A H0 b as0 mcT msT p e R s m args below meth c Z hC hR as H locs ls _ cells slots hw hpre hl hs hk hn)
theorem wp_tabIn {d lo up : Int} {os : Array Int} {len : Nat} {x : Int32} {off : Int} {t : Nat} (hi : decode Y.2.1 pc = .ok (.tableswitch d lo up os, len)) (h1 : ¬ x.toInt < lo) (h2 : ¬ up < x.toInt) (ho : os[(x.toInt - lo).toNat]? = some off) (ht : (pc : Int) + off = (t : Int)) (kk : wp_m l Y sc k n t L st h Q) : wp_m l Y sc k n pc L (.int x :: st) h Q := by
  intro D ty A H0 b as0 mcT msT p e R s m args below meth c Z hC hR as H locs ls st' cells slots hw hpre hl hs hk hn
  obtain ⟨_, _, rfl, rfl, hs⟩ := hs
  exact lv_tableIn hC.1 hC.2.1 hi h1 h2 ho ht (kk D ty A H0 b as0 mcT msT p e R s m args below meth c Z hC hR as H locs ls _ cells slots hw hpre hl hs hk hn)
theorem wp_ldc2 {i : Nat} {v : Int64} (hi : decode Y.2.1 pc = .ok (.ldc2_w i, 3)) (hw : Cond.constantLong Y.1.cls i v ∈ WS) (kk : wp_m l Y sc k n (pc + 3) L (.long v :: st) h Q) : wp_m l Y sc k n pc L st h Q := by
  intro D ty A H0 b as0 mcT msT p e R s m args below meth c Z hC hR as H locs ls st' cells slots hW hpre hl hs hk hn
  exact lv_ldc2 hC.1 hC.2.1 hC.2.2.2.2.1 (hC.2.2.2.2.2.2.2.1 _ hw) hi (kk D ty A H0 b as0 mcT msT p e R s m args below meth c Z hC hR as H locs ls _ cells slots hW hpre hl ⟨_, _, rfl, rfl, hs⟩ hk hn)
theorem rl_get {b : Nat} {as : List Nat} {ls : Array Slot} {nL i : Nat} {v : Value} (hl : rl_l b as L ls nL) (hv : L[i]? = some v) (hne : v ≠ .retAddr 0) : ∃ v', rl_v b as v v' ∧ ls[i]? = some (.val v') := by
  obtain ⟨-, lv, h1, h2⟩ := hl
  obtain ⟨v', h3, h4⟩ := h2 i v hv hne
  exact ⟨v', h3, h1.2.2 _ h4⟩
theorem wp_iload_n {j : Fin 4} {i : Nat} {x : Int32} (hi : decode Y.2.1 pc = .ok (.iload_n j, 1)) (hj : (j : Nat) = i) (hv : L[i]? = some (.int x)) (kk : wp_m l Y sc k n (pc + 1) L (.int x :: st) h Q) : wp_m l Y sc k n pc L st h Q := by
  intro D ty A H0 b as0 mcT msT p e R s m args below meth c Z hC hR as H locs ls st' cells slots hw hpre hl hs hk hn
  obtain ⟨v', hv', hg⟩ := rl_get hl hv (by simp)
  cases (show v' = .int x from hv')
  exact lv_iload_n hC.1 hC.2.1 hi hj hg (kk D ty A H0 b as0 mcT msT p e R s m args below meth c Z hC hR as H locs ls _ cells slots hw hpre hl ⟨_, _, rfl, rfl, hs⟩ hk hn)
theorem wp_iload {i : Nat} {x : Int32} (hi : decode Y.2.1 pc = .ok (.iload i, 2)) (hv : L[i]? = some (.int x)) (kk : wp_m l Y sc k n (pc + 2) L (.int x :: st) h Q) : wp_m l Y sc k n pc L st h Q := by
  intro D ty A H0 b as0 mcT msT p e R s m args below meth c Z hC hR as H locs ls st' cells slots hw hpre hl hs hk hn
  obtain ⟨v', hv', hg⟩ := rl_get hl hv (by simp)
  cases (show v' = .int x from hv')
  exact lv_iload hC.1 hC.2.1 hi hg (kk D ty A H0 b as0 mcT msT p e R s m args below meth c Z hC hR as H locs ls _ cells slots hw hpre hl ⟨_, _, rfl, rfl, hs⟩ hk hn)
theorem wp_lload_n {j : Fin 4} {i : Nat} {x : Int64} (hi : decode Y.2.1 pc = .ok (.lload_n j, 1)) (hj : (j : Nat) = i) (hv : L[i]? = some (.long x)) (kk : wp_m l Y sc k n (pc + 1) L (.long x :: st) h Q) : wp_m l Y sc k n pc L st h Q := by
  intro D ty A H0 b as0 mcT msT p e R s m args below meth c Z hC hR as H locs ls st' cells slots hw hpre hl hs hk hn
  obtain ⟨v', hv', hg⟩ := rl_get hl hv (by simp)
  cases (show v' = .long x from hv')
  exact lv_lload_n hC.1 hC.2.1 hi hj hg (kk D ty A H0 b as0 mcT msT p e R s m args below meth c Z hC hR as H locs ls _ cells slots hw hpre hl ⟨_, _, rfl, rfl, hs⟩ hk hn)
theorem wp_lload {i : Nat} {x : Int64} (hi : decode Y.2.1 pc = .ok (.lload i, 2)) (hv : L[i]? = some (.long x)) (kk : wp_m l Y sc k n (pc + 2) L (.long x :: st) h Q) : wp_m l Y sc k n pc L st h Q := by
  intro D ty A H0 b as0 mcT msT p e R s m args below meth c Z hC hR as H locs ls st' cells slots hw hpre hl hs hk hn
  obtain ⟨v', hv', hg⟩ := rl_get hl hv (by simp)
  cases (show v' = .long x from hv')
  exact lv_lload hC.1 hC.2.1 hi hg (kk D ty A H0 b as0 mcT msT p e R s m args below meth c Z hC hR as H locs ls _ cells slots hw hpre hl ⟨_, _, rfl, rfl, hs⟩ hk hn)
theorem wp_aload_n {j : Fin 4} {i : Nat} {x : Nat} (hi : decode Y.2.1 pc = .ok (.aload_n j, 1)) (hj : (j : Nat) = i) (hv : L[i]? = some (.ref x)) (kk : wp_m l Y sc k n (pc + 1) L (.ref x :: st) h Q) : wp_m l Y sc k n pc L st h Q := by
  intro D ty A H0 b as0 mcT msT p e R s m args below meth c Z hC hR as H locs ls st' cells slots hw hpre hl hs hk hn
  obtain ⟨v', hv', hg⟩ := rl_get hl hv (by simp)
  obtain ⟨a, ha, rfl⟩ := hv'
  exact lv_aload_n hC.1 hC.2.1 hi hj hg (kk D ty A H0 b as0 mcT msT p e R s m args below meth c Z hC hR as H locs ls _ cells slots hw hpre hl ⟨_, _, rfl, ⟨a, ha, rfl⟩, hs⟩ hk hn)
theorem wp_aload_nN {j : Fin 4} {i : Nat} (hi : decode Y.2.1 pc = .ok (.aload_n j, 1)) (hj : (j : Nat) = i) (hv : L[i]? = some .null) (kk : wp_m l Y sc k n (pc + 1) L (.null :: st) h Q) : wp_m l Y sc k n pc L st h Q := by
  intro D ty A H0 b as0 mcT msT p e R s m args below meth c Z hC hR as H locs ls st' cells slots hw hpre hl hs hk hn
  obtain ⟨v', hv', hg⟩ := rl_get hl hv (by simp)
  cases (show v' = .null from hv')
  exact lv_aload_nN hC.1 hC.2.1 hi hj hg (kk D ty A H0 b as0 mcT msT p e R s m args below meth c Z hC hR as H locs ls _ cells slots hw hpre hl ⟨_, _, rfl, rfl, hs⟩ hk hn)
theorem wp_aload_nS {j : Fin 4} {i : Nat} (hi : decode Y.2.1 pc = .ok (.aload_n j, 1)) (hj : (j : Nat) = i) (hv : L[i]? = some (.retAddr 1)) (kk : wp_m l Y sc k n (pc + 1) L (.retAddr 1 :: st) h Q) : wp_m l Y sc k n pc L st h Q := by
  intro D ty A H0 b as0 mcT msT p e R s m args below meth c Z hC hR as H locs ls st' cells slots hw hpre hl hs hk hn
  obtain ⟨v', hv', hg⟩ := rl_get hl hv (by simp)
  obtain ⟨-, rfl⟩ := hv'
  exact lv_aload_n hC.1 hC.2.1 hi hj hg (kk D ty A H0 b as0 mcT msT p e R s m args below meth c Z hC hR as H locs ls _ cells slots hw hpre hl ⟨_, _, rfl, ⟨rfl, rfl⟩, hs⟩ hk hn)
theorem wp_aload {i : Nat} {x : Nat} (hi : decode Y.2.1 pc = .ok (.aload i, 2)) (hv : L[i]? = some (.ref x)) (kk : wp_m l Y sc k n (pc + 2) L (.ref x :: st) h Q) : wp_m l Y sc k n pc L st h Q := by
  intro D ty A H0 b as0 mcT msT p e R s m args below meth c Z hC hR as H locs ls st' cells slots hw hpre hl hs hk hn
  obtain ⟨v', hv', hg⟩ := rl_get hl hv (by simp)
  obtain ⟨a, ha, rfl⟩ := hv'
  exact lv_aload hC.1 hC.2.1 hi hg (kk D ty A H0 b as0 mcT msT p e R s m args below meth c Z hC hR as H locs ls _ cells slots hw hpre hl ⟨_, _, rfl, ⟨a, ha, rfl⟩, hs⟩ hk hn)
theorem wp_aloadN {i : Nat} (hi : decode Y.2.1 pc = .ok (.aload i, 2)) (hv : L[i]? = some .null) (kk : wp_m l Y sc k n (pc + 2) L (.null :: st) h Q) : wp_m l Y sc k n pc L st h Q := by
  intro D ty A H0 b as0 mcT msT p e R s m args below meth c Z hC hR as H locs ls st' cells slots hw hpre hl hs hk hn
  obtain ⟨v', hv', hg⟩ := rl_get hl hv (by simp)
  cases (show v' = .null from hv')
  exact lv_aloadN hC.1 hC.2.1 hi hg (kk D ty A H0 b as0 mcT msT p e R s m args below meth c Z hC hR as H locs ls _ cells slots hw hpre hl ⟨_, _, rfl, rfl, hs⟩ hk hn)
theorem wp_aloadS {i : Nat} (hi : decode Y.2.1 pc = .ok (.aload i, 2)) (hv : L[i]? = some (.retAddr 1)) (kk : wp_m l Y sc k n (pc + 2) L (.retAddr 1 :: st) h Q) : wp_m l Y sc k n pc L st h Q := by
  intro D ty A H0 b as0 mcT msT p e R s m args below meth c Z hC hR as H locs ls st' cells slots hw hpre hl hs hk hn
  obtain ⟨v', hv', hg⟩ := rl_get hl hv (by simp)
  obtain ⟨-, rfl⟩ := hv'
  exact lv_aload hC.1 hC.2.1 hi hg (kk D ty A H0 b as0 mcT msT p e R s m args below meth c Z hC hR as H locs ls _ cells slots hw hpre hl ⟨_, _, rfl, ⟨rfl, rfl⟩, hs⟩ hk hn)
def mx_ok1 (L : List Value) : Nat → Bool
  | 0 => true
  | i + 1 => match L[i]? with
    | some v => v.category == 1
    | none => true
theorem rl_set {b : Nat} {as : List Nat} {nL i : Nat} {v v' : Value} {lv : List (Nat × Value)} (hlen : L.length = nL) (h2 : ∀ (i : Nat) (v : Value), L[i]? = some v → v ≠ .retAddr 0 → ∃ v', rl_v b as v v' ∧ (i, v') ∈ lv) (hok : mx_ok1 L i = true) (hv : rl_v b as v v') (hi : i < nL) :
    (L.set i v).length = nL ∧ ∀ (j : Nat) (u : Value), (L.set i v)[j]? = some u → u ≠ .retAddr 0 → ∃ u', rl_v b as u u' ∧ (j, u') ∈ ((i, v') :: lv.filter (fun q => !(q.1 == i) && !(q.1 + 1 == i && q.2.category == 2))) := by
  refine ⟨by rw [List.length_set]; exact hlen, fun j u hu hne => ?_⟩
  by_cases hj : j = i
  · subst hj
    rw [List.getElem?_set_self (by rw [hlen]; exact hi)] at hu
    cases hu
    exact ⟨v', hv, List.mem_cons_self⟩
  · rw [List.getElem?_set_ne (Ne.symm hj)] at hu
    obtain ⟨u', h3, h4⟩ := h2 j u hu hne
    refine ⟨u', h3, List.mem_cons_of_mem _ (List.mem_filter.mpr ⟨h4, ?_⟩)⟩
    by_cases hji : j + 1 = i
    · subst hji
      have hc : u.category = 1 := by
        simp only [mx_ok1, hu] at hok
        simpa using hok
      have hc' := rl_cat h3 hc
      simp [hc']
    · simp [hj, hji]
theorem wp_istore_n {j : Fin 4} {i : Nat} {x : Int32} {L' : List Value} (hi : decode Y.2.1 pc = .ok (.istore_n j, 1)) (hj : (j : Nat) = i) (hok : mx_ok1 L i = true) (hlt : i < L.length) (hL : L.set i (.int x) = L') (kk : wp_m l Y sc k n (pc + 1) L' st h Q) : wp_m l Y sc k n pc L (.int x :: st) h Q := by
  intro D ty A H0 b as0 mcT msT p e R s m args below meth c Z hC hR as H locs ls st' cells slots hw hpre hl hs hk hn
  subst hL
  obtain ⟨_, _, rfl, rfl, hs⟩ := hs
  obtain ⟨hlen, lv, h1, h2⟩ := hl
  have hset := rl_set (v := .int x) (v' := .int x) hlen h2 hok rfl (by rw [← hlen]; exact hlt)
  exact lv_istore_n hC.1 hC.2.1 hi hj h1 (by rw [← hlen]; exact hlt) rfl (fun ls' hls' => kk D ty A H0 b as0 mcT msT p e R s m args below meth c Z hC hR as H locs ls' _ cells slots hw hpre ⟨hset.1, _, hls', hset.2⟩ hs hk hn)
theorem wp_astore_n {j : Fin 4} {i : Nat} {x : Nat} {L' : List Value} (hi : decode Y.2.1 pc = .ok (.astore_n j, 1)) (hj : (j : Nat) = i) (hok : mx_ok1 L i = true) (hlt : i < L.length) (hL : L.set i (.ref x) = L') (kk : wp_m l Y sc k n (pc + 1) L' st h Q) : wp_m l Y sc k n pc L (.ref x :: st) h Q := by
  intro D ty A H0 b as0 mcT msT p e R s m args below meth c Z hC hR as H locs ls st' cells slots hw hpre hl hs hk hn
  subst hL
  obtain ⟨_, _, rfl, ⟨a, ha, rfl⟩, hs⟩ := hs
  obtain ⟨hlen, lv, h1, h2⟩ := hl
  have hset := rl_set (v := .ref x) (v' := .ref a) hlen h2 hok ⟨a, ha, rfl⟩ (by rw [← hlen]; exact hlt)
  exact lv_astore_n hC.1 hC.2.1 hi hj h1 (by rw [← hlen]; exact hlt) rfl (fun ls' hls' => kk D ty A H0 b as0 mcT msT p e R s m args below meth c Z hC hR as H locs ls' _ cells slots hw hpre ⟨hset.1, _, hls', hset.2⟩ hs hk hn)
theorem wp_astore_nN {j : Fin 4} {i : Nat} {L' : List Value} (hi : decode Y.2.1 pc = .ok (.astore_n j, 1)) (hj : (j : Nat) = i) (hok : mx_ok1 L i = true) (hlt : i < L.length) (hL : L.set i .null = L') (kk : wp_m l Y sc k n (pc + 1) L' st h Q) : wp_m l Y sc k n pc L (.null :: st) h Q := by
  intro D ty A H0 b as0 mcT msT p e R s m args below meth c Z hC hR as H locs ls st' cells slots hw hpre hl hs hk hn
  subst hL
  obtain ⟨_, _, rfl, rfl, hs⟩ := hs
  obtain ⟨hlen, lv, h1, h2⟩ := hl
  have hset := rl_set (v := .null) (v' := .null) hlen h2 hok rfl (by rw [← hlen]; exact hlt)
  exact lv_astore_nN hC.1 hC.2.1 hi hj h1 (by rw [← hlen]; exact hlt) rfl (fun ls' hls' => kk D ty A H0 b as0 mcT msT p e R s m args below meth c Z hC hR as H locs ls' _ cells slots hw hpre ⟨hset.1, _, hls', hset.2⟩ hs hk hn)
theorem wp_istore {i : Nat} {x : Int32} {L' : List Value} (hi : decode Y.2.1 pc = .ok (.istore i, 2)) (hok : mx_ok1 L i = true) (hlt : i < L.length) (hL : L.set i (.int x) = L') (kk : wp_m l Y sc k n (pc + 2) L' st h Q) : wp_m l Y sc k n pc L (.int x :: st) h Q := by
  intro D ty A H0 b as0 mcT msT p e R s m args below meth c Z hC hR as H locs ls st' cells slots hw hpre hl hs hk hn
  subst hL
  obtain ⟨_, _, rfl, rfl, hs⟩ := hs
  obtain ⟨hlen, lv, h1, h2⟩ := hl
  have hset := rl_set (v := .int x) (v' := .int x) hlen h2 hok rfl (by rw [← hlen]; exact hlt)
  exact lv_istore hC.1 hC.2.1 hi h1 (by rw [← hlen]; exact hlt) rfl (fun ls' hls' => kk D ty A H0 b as0 mcT msT p e R s m args below meth c Z hC hR as H locs ls' _ cells slots hw hpre ⟨hset.1, _, hls', hset.2⟩ hs hk hn)
theorem wp_astore {i : Nat} {x : Nat} {L' : List Value} (hi : decode Y.2.1 pc = .ok (.astore i, 2)) (hok : mx_ok1 L i = true) (hlt : i < L.length) (hL : L.set i (.ref x) = L') (kk : wp_m l Y sc k n (pc + 2) L' st h Q) : wp_m l Y sc k n pc L (.ref x :: st) h Q := by
  intro D ty A H0 b as0 mcT msT p e R s m args below meth c Z hC hR as H locs ls st' cells slots hw hpre hl hs hk hn
  subst hL
  obtain ⟨_, _, rfl, ⟨a, ha, rfl⟩, hs⟩ := hs
  obtain ⟨hlen, lv, h1, h2⟩ := hl
  have hset := rl_set (v := .ref x) (v' := .ref a) hlen h2 hok ⟨a, ha, rfl⟩ (by rw [← hlen]; exact hlt)
  exact lv_astore hC.1 hC.2.1 hi h1 (by rw [← hlen]; exact hlt) rfl (fun ls' hls' => kk D ty A H0 b as0 mcT msT p e R s m args below meth c Z hC hR as H locs ls' _ cells slots hw hpre ⟨hset.1, _, hls', hset.2⟩ hs hk hn)
theorem wp_astoreN {i : Nat} {L' : List Value} (hi : decode Y.2.1 pc = .ok (.astore i, 2)) (hok : mx_ok1 L i = true) (hlt : i < L.length) (hL : L.set i .null = L') (kk : wp_m l Y sc k n (pc + 2) L' st h Q) : wp_m l Y sc k n pc L (.null :: st) h Q := by
  intro D ty A H0 b as0 mcT msT p e R s m args below meth c Z hC hR as H locs ls st' cells slots hw hpre hl hs hk hn
  subst hL
  obtain ⟨_, _, rfl, rfl, hs⟩ := hs
  obtain ⟨hlen, lv, h1, h2⟩ := hl
  have hset := rl_set (v := .null) (v' := .null) hlen h2 hok rfl (by rw [← hlen]; exact hlt)
  exact lv_astoreN hC.1 hC.2.1 hi h1 (by rw [← hlen]; exact hlt) rfl (fun ls' hls' => kk D ty A H0 b as0 mcT msT p e R s m args below meth c Z hC hR as H locs ls' _ cells slots hw hpre ⟨hset.1, _, hls', hset.2⟩ hs hk hn)
theorem wp_iinc {i : Nat} {d : Int} {x v : Int32} {L' : List Value} (hi : decode Y.2.1 pc = .ok (.iinc i d, 3)) (hx : L[i]? = some (.int x)) (hv : x + Int32.ofInt d = v) (hok : mx_ok1 L i = true) (hL : L.set i (.int v) = L') (kk : wp_m l Y sc k n (pc + 3) L' st h Q) : wp_m l Y sc k n pc L st h Q := by
  intro D ty A H0 b as0 mcT msT p e R s m args below meth c Z hC hR as H locs ls st' cells slots hw hpre hl hs hk hn
  subst hL
  have hlt : i < L.length := (List.getElem?_eq_some_iff.mp hx).1
  obtain ⟨hlen, lv, h1, h2⟩ := hl
  have hset := rl_set (v := .int v) (v' := .int v) hlen h2 hok rfl (by rw [← hlen]; exact hlt)
  obtain ⟨x', hx', hm⟩ := h2 i _ hx (by simp)
  cases (show x' = .int x from hx')
  obtain ⟨q, hq⟩ := List.getElem?_of_mem hm
  exact lv_iinc hC.1 hC.2.1 hi h1 hq hv (by rw [← hlen]; exact hlt) rfl (fun ls' hls' => kk D ty A H0 b as0 mcT msT p e R s m args below meth c Z hC hR as H locs ls' _ cells slots hw hpre ⟨hset.1, _, hls', hset.2⟩ hs hk hn)
end MX
end
section
/-! the mirror goes on: fields, arrays, new cells, returns, calls -/
def mx_pu (v : Option Value) (st : List Value) : List Value := match v with
  | none => st
  | some x => x :: st
theorem rl_up {as as' : List Nat} {i a : Nat} (hp : as <+: as') (h : as[i]? = some a) : as'[i]? = some a := by
  obtain ⟨t, rfl⟩ := hp
  rw [List.getElem?_append_left (List.getElem?_eq_some_iff.mp h).1]
  exact h
theorem rl_v.up {b : Nat} {as as' : List Nat} {v v' : Value} (hp : as <+: as') (h : rl_v b as v v') : rl_v b as' v v' := by
  cases v with
  | ref i =>
    obtain ⟨a, h1, h2⟩ := h
    exact ⟨a, rl_up hp h1, h2⟩
  | _ => exact h
theorem rl_s.up {b : Nat} {as as' : List Nat} (hp : as <+: as') : ∀ {s s' : List Value}, rl_s b as s s' → rl_s b as' s s'
  | [], _, h => h
  | _ :: _, _, ⟨v', t', e, h1, h2⟩ => ⟨v', t', e, h1.up hp, rl_s.up hp h2⟩
theorem rl_r.up {as as' : List Nat} {x x' : Option Nat} (hp : as <+: as') (h : rl_r as x x') : rl_r as' x x' := by
  cases x with
  | none => exact h
  | some i =>
    obtain ⟨a, h1, h2⟩ := h
    exact ⟨a, rl_up hp h1, h2⟩
theorem rl_e.up {b : Nat} {as as' : List Nat} {ty : mx_T} {c c' : va_E} (hp : as <+: as') (h : rl_e b as ty c c') : rl_e b as' ty c c' := by
  match c, h with
  | .inr (ci, fs), ⟨fs', e, h1⟩ => exact ⟨fs', e, h1.up hp⟩
  | .inl (t, n, .inl f), h => exact h
  | .inl (t, n, .inr (.inr (.inr (.inr f)))), ⟨q, f', h1, h2, h3⟩ => exact ⟨q, f', h1, h2, fun i => (h3 i).up hp⟩
theorem rl_l.up {b : Nat} {as as' : List Nat} {L : List Value} {ls : Array Slot} {nL : Nat} (hp : as <+: as') (h : rl_l b as L ls nL) : rl_l b as' L ls nL := by
  obtain ⟨h1, lv, h2, h3⟩ := h
  exact ⟨h1, lv, h2, fun i v hv hn => by obtain ⟨v', a1, a2⟩ := h3 i v hv hn; exact ⟨v', a1.up hp, a2⟩⟩
theorem rl_s.at {b : Nat} {as : List Nat} : ∀ {s s' : List Value} {i : Nat} {v : Value}, rl_s b as s s' → s[i]? = some v → ∃ v', s'[i]? = some v' ∧ rl_v b as v v'
  | [], _, i, v, _, hv => by simp at hv
  | x :: t, _, 0, v, ⟨v', t', e, h1, h2⟩, hv => by subst e; simp at hv; subst hv; exact ⟨v', by simp, h1⟩
  | x :: t, _, i + 1, v, ⟨v', t', e, h1, h2⟩, hv => by
    subst e
    obtain ⟨u, a1, a2⟩ := rl_s.at (i := i) h2 (by simpa using hv)
    exact ⟨u, by simpa using a1, a2⟩
theorem rl_s.len {b : Nat} {as : List Nat} : ∀ {s s' : List Value}, rl_s b as s s' → s'.length = s.length
  | [], _, h => by cases (show _ = [] from h); rfl
  | _ :: _, _, ⟨v', t', e, h1, h2⟩ => by subst e; simp [rl_s.len h2]
theorem rl_s.set {b : Nat} {as : List Nat} {v v' : Value} (hv : rl_v b as v v') : ∀ {s s' : List Value} {i : Nat}, rl_s b as s s' → rl_s b as (s.set i v) (s'.set i v')
  | [], _, _, h => by cases (show _ = [] from h); exact rfl
  | x :: t, _, 0, ⟨w', t', e, h1, h2⟩ => by subst e; exact ⟨v', t', rfl, hv, h2⟩
  | x :: t, _, i + 1, ⟨w', t', e, h1, h2⟩ => by subst e; exact ⟨w', t'.set i v', rfl, h1, rl_s.set hv h2⟩
theorem rl_s.app {b : Nat} {as : List Nat} {u u' : List Value} (hu : rl_s b as u u') : ∀ {s s' : List Value}, rl_s b as s s' → rl_s b as (s ++ u) (s' ++ u')
  | [], _, h => by cases (show _ = [] from h); exact hu
  | x :: t, _, ⟨w', t', e, h1, h2⟩ => by subst e; exact ⟨w', t' ++ u', rfl, h1, rl_s.app hu h2⟩
theorem rl_s.split {b : Nat} {as : List Nat} : ∀ {s u r : List Value}, rl_s b as (s ++ u) r → ∃ s' u', r = s' ++ u' ∧ rl_s b as s s' ∧ rl_s b as u u'
  | [], _, r, h => ⟨[], r, rfl, rfl, h⟩
  | x :: t, u, _, ⟨w', t', e, h1, h2⟩ => by
    subst e
    obtain ⟨s', u', e, h3, h4⟩ := rl_s.split (s := t) (u := u) h2
    subst e
    exact ⟨w' :: s', u', rfl, ⟨w', s', rfl, h1, h3⟩, h4⟩
theorem rl_s.rev {b : Nat} {as : List Nat} : ∀ {s s' : List Value}, rl_s b as s s' → rl_s b as s.reverse s'.reverse
  | [], _, h => by cases (show _ = [] from h); exact rfl
  | x :: t, _, ⟨w', t', e, h1, h2⟩ => by
    subst e
    rw [List.reverse_cons, List.reverse_cons]
    exact rl_s.app (u := [x]) (u' := [w']) ⟨w', [], rfl, h1, rfl⟩ (rl_s.rev h2)
theorem rl_s.cat {b : Nat} {as : List Nat} : ∀ {s s' : List Value}, rl_s b as s s' → (s'.map fun v => v.category).sum = (s.map fun v => v.category).sum
  | [], _, h => by cases (show _ = [] from h); rfl
  | x :: t, _, ⟨w', t', e, h1, h2⟩ => by
    subst e
    have hc : w'.category = x.category := by
      cases x <;> first | (obtain ⟨_, _, rfl⟩ := h1; rfl) | (obtain ⟨_, rfl⟩ := h1; rfl) | (cases (show w' = _ from h1); rfl)
    simp [rl_s.cat h2, hc]
theorem rl_c.at {b : Nat} {as : List Nat} {ty : mx_T} {h : mx_H} {ws : va_W} {i a : Nat} {c : va_E} (hc : rl_c b as ty h ws) (hi : h[i]? = some c) (ha : as[i]? = some a) : ∃ c', ws[i]? = some (a, c') ∧ rl_e b as ty c c' := by
  obtain ⟨h1, h2, h3⟩ := hc
  obtain ⟨a', c', h4, h5⟩ := h3 i c hi
  have e : as[i]? = some a' := by rw [← h1, List.getElem?_map, h4]; rfl
  cases ha.symm.trans e
  exact ⟨c', h4, h5⟩
theorem rl_c.set {b : Nat} {as : List Nat} {ty : mx_T} {h : mx_H} {ws : va_W} {i a : Nat} {c c0 c' : va_E} (hc : rl_c b as ty h ws) (hw : ws[i]? = some (a, c0)) (he : rl_e b as ty c c') : rl_c b as ty (h.set i c) (ws.set i (a, c')) := by
  obtain ⟨h1, h2, h3⟩ := hc
  have hlt : i < ws.length := (List.getElem?_eq_some_iff.mp hw).1
  have e : (ws.set i (a, c')).map (·.1) = ws.map (·.1) := by
    apply List.ext_getElem?
    intro j
    rw [List.getElem?_map, List.getElem?_map]
    by_cases hj : j = i
    · subst hj
      rw [List.getElem?_set_self hlt, hw]; rfl
    · rw [List.getElem?_set_ne (Ne.symm hj)]
  refine ⟨by rw [e]; exact h1, by rw [List.length_set]; exact h2, fun j x hx => ?_⟩
  by_cases hj : j = i
  · subst hj
    have hl : j < h.length := by rw [← h2, ← h1, List.length_map]; exact hlt
    rw [List.getElem?_set_self hl] at hx
    cases hx
    exact ⟨a, c', List.getElem?_set_self hlt, he⟩
  · rw [List.getElem?_set_ne (Ne.symm hj)] at hx
    obtain ⟨a1, c1, h4, h5⟩ := h3 j x hx
    exact ⟨a1, c1, by rw [List.getElem?_set_ne (Ne.symm hj)]; exact h4, h5⟩
theorem rl_c.push {b : Nat} {as : List Nat} {ty : mx_T} {h : mx_H} {ws : va_W} {q : Nat} {c c' : va_E} (hc : rl_c b as ty h ws) (he : rl_e b (as ++ [q]) ty c c') : rl_c b (as ++ [q]) ty (h ++ [c]) (ws ++ [(q, c')]) := by
  obtain ⟨h1, h2, h3⟩ := hc
  have hl : ws.length = h.length := by rw [← h2, ← h1, List.length_map]
  refine ⟨by rw [List.map_append, h1]; rfl, by rw [List.length_append, List.length_append, h2]; rfl, fun j x hx => ?_⟩
  by_cases hj : j < h.length
  · rw [List.getElem?_append_left hj] at hx
    obtain ⟨a1, c1, h4, h5⟩ := h3 j x hx
    exact ⟨a1, c1, by rw [List.getElem?_append_left (by omega)]; exact h4, h5.up (List.prefix_append _ _)⟩
  · rw [List.getElem?_append_right (by omega)] at hx
    have hz : j - h.length < 1 := (List.getElem?_eq_some_iff.mp hx).1
    have hj0 : j = h.length := by omega
    subst hj0
    rw [Nat.sub_self] at hx
    cases hx
    exact ⟨q, c', by rw [List.getElem?_append_right (by omega), hl, Nat.sub_self]; rfl, he⟩
theorem rl_ty {ty : mx_T} {t : Nat} {q : ClassId × FieldType} {f : FieldType} (h : ty.map (·.2) = TY) (hq : ty[t]? = some q) (hf : TY[t]? = some f) : q.2 = f := by
  have e : (ty.map (·.2))[t]? = some q.2 := by rw [List.getElem?_map, hq]; rfl
  rw [h, hf] at e
  exact (Option.some.inj e).symm
/-- a field by its place in a class's pool: class number, slot, final, type -/
def mx_F (own : String) (idx ci kf : Nat) (fin : Bool) (ft : FieldType) : Prop := ∃ (C : String) (T : u_T) (N : Nat) (ty0 : Nat → FieldType), classes[ci]? = some (C, T, N) ∧ kf < N ∧ (∀ w ∈ u_ws C T N, w ∈ WS) ∧ (∀ k, k < N → parseFieldDescriptor (T k).2.2.1 = some (ty0 k)) ∧ (∀ a, a < N → ∀ b, b < N → a ≠ b → (T a).2.1 ≠ (T b).2.1) ∧ Cond.fieldLink own idx (T kf).1 (T kf).2.1 (T kf).2.2.1 ∈ WS ∧ (T kf).2.2.2 = fin ∧ parseFieldDescriptor (T kf).2.2.1 = some ft ∧ (T kf).1 = own
theorem mx_refn {t : FieldType} (h : t.isReference = true) (a : Nat) : narrow t (.ref a) = .ref a ∧ fits t (.ref a) = true := by
  cases t <;> first | (exact ⟨rfl, rfl⟩) | (simp [FieldType.isReference] at h)
section MH
variable {l : Launch} {Y : mx_Y} {sc : mx_S} {k n : Nat} {pc : Nat} {L st : List Value} {h : mx_H} {Q : Option Value → mx_H → Prop}
theorem wp_getf {idx ci kf a : Nat} {fin : Bool} {ft : FieldType} {fs : List Value} {v : Value} (hi : decode Y.2.1 pc = .ok (.getfield idx, 3)) (hF : mx_F Y.1.cls idx ci kf fin ft) (ha : h[a]? = some (.inr (ci, fs))) (hv : fs[kf]? = some v) (kk : wp_m l Y sc k n (pc + 3) L (v :: st) h Q) : wp_m l Y sc k n pc L (.ref a :: st) h Q := by
  intro D ty A H0 b as0 mcT msT p e R s m args below meth c Z hC hR as H locs ls st' cells slots hw hpre hl hs hk hn
  obtain ⟨_, _, rfl, ⟨q, hq, rfl⟩, hs⟩ := hs
  obtain ⟨C, T, N, ty0, f1, f2, f3, f4, f5, f6, f7, f8, f9⟩ := hF
  obtain ⟨ws, hrc, hP, hD, hS⟩ := id hw
  obtain ⟨c', g1, fs', rfl, g2⟩ := hrc.at ha hq
  obtain ⟨v', g3, g4⟩ := g2.at hv
  have hts := hC.2.2.2.2.2.2.2.1
  have hK := hC.2.2.2.2.2.2.2.2.1.1
  exact va_get hC.1 hC.2.1 hts f3 hC.2.2.2.2.1 hK hP a g1 f1 kf f2 (hts _ f6) (fun _ h9 => h9) g3 hi (kk D ty A H0 b as0 mcT msT p e R s m args below meth c Z hC hR as H locs ls _ cells slots hw hpre hl ⟨_, _, rfl, g4, hs⟩ hk hn)
theorem wp_putf {idx ci kf a : Nat} {ft : FieldType} {fs : List Value} {v : Value} (hi : decode Y.2.1 pc = .ok (.putfield idx, 3)) (hF : mx_F Y.1.cls idx ci kf false ft) (ha : h[a]? = some (.inr (ci, fs))) (hkf : kf < fs.length) (hv : ∀ (b : Nat) (as : List Nat) (v' : Value), rl_v b as v v' → narrow ft v' = v' ∧ fits ft v' = true) (kk : wp_m l Y sc k n (pc + 3) L st (h.set a (.inr (ci, fs.set kf v))) Q) : wp_m l Y sc k n pc L (v :: .ref a :: st) h Q := by
  intro D ty A H0 b as0 mcT msT p e R s m args below meth c Z hC hR as H locs ls st' cells slots hw hpre hl hs hk hn
  obtain ⟨v', _, rfl, hvv, _, _, rfl, ⟨q, hq, rfl⟩, hs⟩ := hs
  obtain ⟨C, T, N, ty0, f1, f2, f3, f4, f5, f6, f7, f8, f9⟩ := hF
  obtain ⟨ws, hrc, hP, hD, hS⟩ := id hw
  obtain ⟨c', g1, fs', rfl, g2⟩ := hrc.at ha hq
  have hts := hC.2.2.2.2.2.2.2.1
  have hK := hC.2.2.2.2.2.2.2.2.1.1
  exact va_put hC.1 hC.2.1 hts f3 ty0 f4 f5 hC.2.2.2.2.1 hK hP hD hS a g1 f1 kf f2 (hts _ f6) (fun _ h9 => h9) f7 f8 (hv b as v' hvv).1 (hv b as v' hvv).2 (by rw [g2.len]; exact hkf) hi (fun H1 locs1 hP1 hD1 hS1 => kk D ty A H0 b as0 mcT msT p e R s m args below meth c Z hC hR as H1 locs1 ls _ cells slots ⟨_, hrc.set g1 ⟨_, rfl, g2.set hvv⟩, hP1, hD1, hS1⟩ hpre hl hs hk hn)
theorem wp_putF {idx ci kf a : Nat} {ft : FieldType} {fs : List Value} {v : Value} (hi : decode Y.2.1 pc = .ok (.putfield idx, 3)) (hF : mx_F Y.1.cls idx ci kf true ft) (hin : Y.1.name = "<init>") (ha : h[a]? = some (.inr (ci, fs))) (hkf : kf < fs.length) (hv : ∀ (b : Nat) (as : List Nat) (v' : Value), rl_v b as v v' → narrow ft v' = v' ∧ fits ft v' = true) (kk : wp_m l Y sc k n (pc + 3) L st (h.set a (.inr (ci, fs.set kf v))) Q) : wp_m l Y sc k n pc L (v :: .ref a :: st) h Q := by
  intro D ty A H0 b as0 mcT msT p e R s m args below meth c Z hC hR as H locs ls st' cells slots hw hpre hl hs hk hn
  obtain ⟨v', _, rfl, hvv, _, _, rfl, ⟨q, hq, rfl⟩, hs⟩ := hs
  obtain ⟨C, T, N, ty0, f1, f2, f3, f4, f5, f6, f7, f8, f9⟩ := hF
  obtain ⟨ws, hrc, hP, hD, hS⟩ := id hw
  obtain ⟨c', g1, fs', rfl, g2⟩ := hrc.at ha hq
  have hts := hC.2.2.2.2.2.2.2.1
  have hK := hC.2.2.2.2.2.2.2.2.1.1
  exact va_putF hC.1 hC.2.1 hts f3 ty0 f4 f5 hC.2.2.2.2.1 hK hP hD hS a g1 f1 kf f2 (hts _ f6) (fun _ h9 => h9) f7 (hC.2.2.2.2.2.2.1 hin) f9 f8 (hv b as v' hvv).1 (hv b as v' hvv).2 (by rw [g2.len]; exact hkf) hi (fun H1 locs1 hP1 hD1 hS1 => kk D ty A H0 b as0 mcT msT p e R s m args below meth c Z hC hR as H1 locs1 ls _ cells slots ⟨_, hrc.set g1 ⟨_, rfl, g2.set hvv⟩, hP1, hD1, hS1⟩ hpre hl hs hk hn)
theorem pv_int {x : Int32} : ∀ (b : Nat) (as : List Nat) (v' : Value), rl_v b as (.int x) v' → narrow .int v' = v' ∧ fits .int v' = true := fun b as v' h => by
  cases (show v' = _ from h)
  exact ⟨rfl, rfl⟩
theorem pv_0 : ∀ (b : Nat) (as : List Nat) (v' : Value), rl_v b as (.int 0) v' → narrow .boolean v' = v' ∧ fits .boolean v' = true := fun b as v' h => by
  cases (show v' = _ from h)
  exact ⟨rfl, rfl⟩
theorem pv_1 : ∀ (b : Nat) (as : List Nat) (v' : Value), rl_v b as (.int 1) v' → narrow .boolean v' = v' ∧ fits .boolean v' = true := fun b as v' h => by
  cases (show v' = _ from h)
  exact ⟨rfl, rfl⟩
theorem pv_ref {i : Nat} {t : FieldType} (ht : t.isReference = true) : ∀ (b : Nat) (as : List Nat) (v' : Value), rl_v b as (.ref i) v' → narrow t v' = v' ∧ fits t v' = true := fun b as v' h => by
  obtain ⟨a, -, rfl⟩ := h
  exact mx_refn ht a
theorem wp_iaload {a N : Nat} {f : Nat → Int32} {i : Int32} (hi : decode Y.2.1 pc = .ok (.iaload, 1)) (ha : h[a]? = some (.inl (0, N, .inl f))) (hin : vp_in i N) (kk : wp_m l Y sc k n (pc + 1) L (.int (f i.toNatClampNeg) :: st) h Q) : wp_m l Y sc k n pc L (.int i :: .ref a :: st) h Q := by
  intro D ty A H0 b as0 mcT msT p e R s m args below meth c Z hC hR as H locs ls st' cells slots hw hpre hl hs hk hn
  obtain ⟨_, _, rfl, rfl, _, _, rfl, ⟨q, hq, rfl⟩, hs⟩ := hs
  obtain ⟨ws, hrc, hP, hD, hS⟩ := id hw
  obtain ⟨c', g1, ⟨cA, ft⟩, g2, rfl⟩ := hrc.at ha hq
  have hK := hC.2.2.2.2.2.2.2.2.1.1
  have e2 : ft = .int := rl_ty hC.2.2.2.2.2.2.2.2.2.1 g2 rfl
  subst e2
  exact va_iald hC.1 hC.2.1 hK hP a 0 g1 g2 hin hi (kk D ty A H0 b as0 mcT msT p e R s m args below meth c Z hC hR as H locs ls _ cells slots hw hpre hl ⟨_, _, rfl, rfl, hs⟩ hk hn)
theorem wp_baload {a N : Nat} {f : Nat → Int32} {i : Int32} (hi : decode Y.2.1 pc = .ok (.baload, 1)) (ha : h[a]? = some (.inl (1, N, .inl f))) (hin : vp_in i N) (kk : wp_m l Y sc k n (pc + 1) L (.int (f i.toNatClampNeg) :: st) h Q) : wp_m l Y sc k n pc L (.int i :: .ref a :: st) h Q := by
  intro D ty A H0 b as0 mcT msT p e R s m args below meth c Z hC hR as H locs ls st' cells slots hw hpre hl hs hk hn
  obtain ⟨_, _, rfl, rfl, _, _, rfl, ⟨q, hq, rfl⟩, hs⟩ := hs
  obtain ⟨ws, hrc, hP, hD, hS⟩ := id hw
  obtain ⟨c', g1, ⟨cA, ft⟩, g2, rfl⟩ := hrc.at ha hq
  have hK := hC.2.2.2.2.2.2.2.2.1.1
  have e2 : ft = .boolean := rl_ty hC.2.2.2.2.2.2.2.2.2.1 g2 rfl
  subst e2
  exact va_zald hC.1 hC.2.1 hK hP a 1 g1 g2 hin hi (kk D ty A H0 b as0 mcT msT p e R s m args below meth c Z hC hR as H locs ls _ cells slots hw hpre hl ⟨_, _, rfl, rfl, hs⟩ hk hn)
theorem wp_iastore {a N : Nat} {f : Nat → Int32} {i x : Int32} (hi : decode Y.2.1 pc = .ok (.iastore, 1)) (ha : h[a]? = some (.inl (0, N, .inl f))) (hin : vp_in i N) (kk : wp_m l Y sc k n (pc + 1) L st (h.set a (.inl (0, N, .inl (upd f i.toNatClampNeg x)))) Q) : wp_m l Y sc k n pc L (.int x :: .int i :: .ref a :: st) h Q := by
  intro D ty A H0 b as0 mcT msT p e R s m args below meth c Z hC hR as H locs ls st' cells slots hw hpre hl hs hk hn
  obtain ⟨_, _, rfl, rfl, _, _, rfl, rfl, _, _, rfl, ⟨q, hq, rfl⟩, hs⟩ := hs
  obtain ⟨ws, hrc, hP, hD, hS⟩ := id hw
  obtain ⟨c', g1, ⟨cA, ft⟩, g2, rfl⟩ := hrc.at ha hq
  have hK := hC.2.2.2.2.2.2.2.2.1.1
  have e2 : ft = .int := rl_ty hC.2.2.2.2.2.2.2.2.2.1 g2 rfl
  subst e2
  exact va_iast hC.1 hC.2.1 hK hP hD hS a 0 g1 g2 hin hi (fun H1 locs1 hP1 hD1 hS1 => kk D ty A H0 b as0 mcT msT p e R s m args below meth c Z hC hR as H1 locs1 ls _ cells slots ⟨_, hrc.set g1 ⟨_, g2, rfl⟩, hP1, hD1, hS1⟩ hpre hl hs hk hn)
theorem wp_bastore {a N : Nat} {f : Nat → Int32} {i x : Int32} (hi : decode Y.2.1 pc = .ok (.bastore, 1)) (ha : h[a]? = some (.inl (1, N, .inl f))) (hin : vp_in i N) (hx : vp_nar .boolean x = x) (kk : wp_m l Y sc k n (pc + 1) L st (h.set a (.inl (1, N, .inl (upd f i.toNatClampNeg x)))) Q) : wp_m l Y sc k n pc L (.int x :: .int i :: .ref a :: st) h Q := by
  intro D ty A H0 b as0 mcT msT p e R s m args below meth c Z hC hR as H locs ls st' cells slots hw hpre hl hs hk hn
  obtain ⟨_, _, rfl, rfl, _, _, rfl, rfl, _, _, rfl, ⟨q, hq, rfl⟩, hs⟩ := hs
  obtain ⟨ws, hrc, hP, hD, hS⟩ := id hw
  obtain ⟨c', g1, ⟨cA, ft⟩, g2, rfl⟩ := hrc.at ha hq
  have hK := hC.2.2.2.2.2.2.2.2.1.1
  have e2 : ft = .boolean := rl_ty hC.2.2.2.2.2.2.2.2.2.1 g2 rfl
  subst e2
  exact va_zast hC.1 hC.2.1 hK hP hD hS a 1 g1 g2 hin hi (fun H1 locs1 hP1 hD1 hS1 => by
    rw [hx] at hP1 hD1
    exact kk D ty A H0 b as0 mcT msT p e R s m args below meth c Z hC hR as H1 locs1 ls _ cells slots ⟨_, hrc.set g1 ⟨_, g2, rfl⟩, hP1, hD1, hS1⟩ hpre hl hs hk hn)
theorem wp_aaload {a t N j : Nat} {ft : FieldType} {f : Nat → Option Nat} {i : Int32} (hi : decode Y.2.1 pc = .ok (.aaload, 1)) (ha : h[a]? = some (.inl (t, N, .inr (.inr (.inr (.inr f)))))) (hT : TY[t]? = some ft) (hft : ft.isReference = true) (hin : vp_in i N) (hj : f i.toNatClampNeg = some j) (kk : wp_m l Y sc k n (pc + 1) L (.ref j :: st) h Q) : wp_m l Y sc k n pc L (.int i :: .ref a :: st) h Q := by
  intro D ty A H0 b as0 mcT msT p e R s m args below meth c Z hC hR as H locs ls st' cells slots hw hpre hl hs hk hn
  obtain ⟨_, _, rfl, rfl, _, _, rfl, ⟨q, hq, rfl⟩, hs⟩ := hs
  obtain ⟨ws, hrc, hP, hD, hS⟩ := id hw
  obtain ⟨c', g1, ⟨cA, ft2⟩, f', g2, rfl, g3⟩ := hrc.at ha hq
  have hK := hC.2.2.2.2.2.2.2.2.1.1
  have e2 : ft2 = ft := rl_ty hC.2.2.2.2.2.2.2.2.2.1 g2 hT
  subst e2
  have g4 := g3 i.toNatClampNeg
  rw [hj] at g4
  obtain ⟨a', g5, g6⟩ := g4
  have hlt : i.toNatClampNeg < N := Nat.not_le.mp fun q => hin (Or.inr q)
  exact W.aald (v := va_rf (f' i.toNatClampNeg)) (ty := ft2) hC.1 hC.2.1 (hP a _ g1) ((hK.2 t _ g2).1 N (fun j => va_rf (f' j))) hft (fun q => by cases q) (by show ¬ (i < 0 ∨ (arrV _ _ _).slots.size ≤ _); rw [arrV_size]; exact hin) (by show (arrV _ _ _).slots[_]? = _; rw [arrV_read _ _ hlt]) rfl rfl hi (by
    rw [g6]
    exact kk D ty A H0 b as0 mcT msT p e R s m args below meth c Z hC hR as H locs ls _ cells slots hw hpre hl ⟨_, _, rfl, ⟨a', g5, rfl⟩, hs⟩ hk hn)
theorem wp_aastore {a t N j ci : Nat} {r : vw_C} {f : Nat → Option Nat} {i : Int32} {fs : List Value} (hi : decode Y.2.1 pc = .ok (.aastore, 1)) (ha : h[a]? = some (.inl (t, N, .inr (.inr (.inr (.inr f)))))) (hT : TY[t]? = some (.object r.1)) (hin : vp_in i N) (hj : h[j]? = some (.inr (ci, fs))) (hc : classes[ci]? = some r) (kk : wp_m l Y sc k n (pc + 1) L st (h.set a (.inl (t, N, .inr (.inr (.inr (.inr (va_up f i.toNatClampNeg (some j)))))))) Q) : wp_m l Y sc k n pc L (.ref j :: .int i :: .ref a :: st) h Q := by
  intro D ty A H0 b as0 mcT msT p e R s m args below meth c Z hC hR as H locs ls st' cells slots hw hpre hl hs hk hn
  obtain ⟨_, _, rfl, ⟨q2, hq2, rfl⟩, _, _, rfl, rfl, _, _, rfl, ⟨q, hq, rfl⟩, hs⟩ := hs
  obtain ⟨ws, hrc, hP, hD, hS⟩ := id hw
  obtain ⟨c', g1, ⟨cA, ft2⟩, f', g2, rfl, g3⟩ := hrc.at ha hq
  obtain ⟨c2, g7, fs', rfl, g8⟩ := hrc.at hj hq2
  have hK := hC.2.2.2.2.2.2.2.2.1.1
  have e2 : ft2 = .object r.1 := rl_ty hC.2.2.2.2.2.2.2.2.2.1 g2 hT
  subst e2
  exact va_astq hC.1 hC.2.1 hK hP hD hS a t j ci g1 g2 g7 hc hin hi (fun H1 locs1 hP1 hD1 hS1 => kk D ty A H0 b as0 mcT msT p e R s m args below meth c Z hC hR as H1 locs1 ls _ cells slots ⟨_, hrc.set g1 ⟨_, _, g2, rfl, fun x => by
    by_cases hx : x = i.toNatClampNeg
    · subst hx
      simp only [va_up_self]
      exact ⟨q2, hq2, rfl⟩
    · rw [va_up_ne _ _ hx, va_up_ne _ _ hx]
      exact g3 x⟩, hP1, hD1, hS1⟩ hpre hl hs hk hn)
theorem wp_salen {x : Nat × (Nat → Int32)} (hi : decode Y.2.1 pc = .ok (.arraylength, 1)) (kk : wp_m l Y (some x) k n (pc + 1) L (.int (Int32.ofNat x.1) :: st) h Q) : wp_m l Y (some x) k n pc L (.retAddr 1 :: st) h Q := by
  intro D ty A H0 b as0 mcT msT p e R s m args below meth c Z hC hR as H locs ls st' cells slots hw hpre hl hs hk hn
  obtain ⟨_, _, rfl, ⟨-, rfl⟩, hs⟩ := hs
  obtain ⟨ws, hrc, hP, hD, hS⟩ := id hw
  obtain ⟨hX, hb, hA⟩ := hC.2.2.2.2.2.2.2.2.2.2.2.2.2.2.2 x rfl
  exact va_slen hC.1 hC.2.1 hX hb hA hS hi (kk D ty A H0 b as0 mcT msT p e R s m args below meth c Z hC hR as H locs ls _ cells slots hw hpre hl ⟨_, _, rfl, rfl, hs⟩ hk hn)
theorem wp_saload {x : Nat × (Nat → Int32)} {i : Int32} (hi : decode Y.2.1 pc = .ok (.iaload, 1)) (hin : vp_in i x.1) (kk : wp_m l Y (some x) k n (pc + 1) L (.int (x.2 i.toNatClampNeg) :: st) h Q) : wp_m l Y (some x) k n pc L (.int i :: .retAddr 1 :: st) h Q := by
  intro D ty A H0 b as0 mcT msT p e R s m args below meth c Z hC hR as H locs ls st' cells slots hw hpre hl hs hk hn
  obtain ⟨_, _, rfl, rfl, _, _, rfl, ⟨-, rfl⟩, hs⟩ := hs
  obtain ⟨ws, hrc, hP, hD, hS⟩ := id hw
  obtain ⟨hX, hb, hA⟩ := hC.2.2.2.2.2.2.2.2.2.2.2.2.2.2.2 x rfl
  exact va_sld hC.1 hC.2.1 hX hb hA hS hin hi (kk D ty A H0 b as0 mcT msT p e R s m args below meth c Z hC hR as H locs ls _ cells slots hw hpre hl ⟨_, _, rfl, rfl, hs⟩ hk hn)
-- returns
theorem wp_ireturn {x : Int32} {t : FieldType} (hi : decode Y.2.1 pc = .ok (.ireturn, 1)) (ht : Y.2.2.2.1 = some t) (hx : narrow t (.int x) = .int x) (hq : Q (some (.int x)) h) : wp_m l Y sc k n pc L [.int x] h Q := by
  intro D ty A H0 b as0 mcT msT p e R s m args below meth c Z hC hR as H locs ls st' cells slots hw hpre hl hs hk hn
  obtain ⟨_, _, rfl, rfl, hs⟩ := hs
  cases (show _ = [] from hs)
  exact W.widen (by omega) (by omega) (hR as h H locs pc ls (some (.int x)) (some (.int x)) hw hpre ⟨hi, t, ht, hx⟩ ⟨_, rfl, rfl⟩ hq)
theorem wp_return (hi : decode Y.2.1 pc = .ok (.return_, 1)) (ht : Y.2.2.2.1 = none) (hq : Q none h) : wp_m l Y sc k n pc L [] h Q := by
  intro D ty A H0 b as0 mcT msT p e R s m args below meth c Z hC hR as H locs ls st' cells slots hw hpre hl hs hk hn
  cases (show _ = [] from hs)
  exact W.widen (by omega) (by omega) (hR as h H locs pc ls none none hw hpre ⟨hi, ht⟩ rfl hq)
theorem wp_areturn {i : Nat} {t : FieldType} (hi : decode Y.2.1 pc = .ok (.areturn, 1)) (ht : Y.2.2.2.1 = some t) (hr : (∃ n, t = .object n) ∨ ∃ u, t = .array u) (hq : Q (some (.ref i)) h) : wp_m l Y sc k n pc L [.ref i] h Q := by
  intro D ty A H0 b as0 mcT msT p e R s m args below meth c Z hC hR as H locs ls st' cells slots hw hpre hl hs hk hn
  obtain ⟨_, _, rfl, ⟨a, ha, rfl⟩, hs⟩ := hs
  cases (show _ = [] from hs)
  exact W.widen (by omega) (by omega) (hR as h H locs pc ls (some (.ref i)) (some (.ref a)) hw hpre ⟨hi, t, ht, hr, Or.inr ⟨a, rfl⟩⟩ ⟨_, rfl, a, ha, rfl⟩ hq)
theorem wp_areturnN {t : FieldType} (hi : decode Y.2.1 pc = .ok (.areturn, 1)) (ht : Y.2.2.2.1 = some t) (hr : (∃ n, t = .object n) ∨ ∃ u, t = .array u) (hq : Q (some .null) h) : wp_m l Y sc k n pc L [.null] h Q := by
  intro D ty A H0 b as0 mcT msT p e R s m args below meth c Z hC hR as H locs ls st' cells slots hw hpre hl hs hk hn
  obtain ⟨_, _, rfl, rfl, hs⟩ := hs
  cases (show _ = [] from hs)
  exact W.widen (by omega) (by omega) (hR as h H locs pc ls (some .null) (some .null) hw hpre ⟨hi, t, ht, hr, Or.inl rfl⟩ ⟨_, rfl, rfl⟩ hq)
end MH
end
section
/-! contracts and calls -/
def ct_Q (D : va_G) (ty : mx_T) (b : Nat) (as : List Nat) (K : Option Value → mx_H → Prop) (A : Nat → Prop) : Array Value → State → Outcome → State → Prop := fun _ st oc t =>
  (∃ (v v' : Option Value) (h' : mx_H) (as' : List Nat) (ws' : va_W), oc = .returned v' ∧ rl_o b as' v v' ∧ as <+: as' ∧ rl_c b as' ty h' ws' ∧ va_P D classes ws' t.heap ∧ va_D A ws' ∧ K v h') ∧ va_F A st t
def ct_P (D : va_G) (ty : mx_T) (ws : va_W) (args' : List Value) (sz : Nat) : Array Value → State → Prop := va_Pc args' (fun U => U.heap.size = sz ∧ va_P D classes ws U.heap ∧ mx_K D ty U ∧ va_D (fun _ => True) ws)
/-- the contract of a method: from any heap that holds h it returns, and K holds of its answer and of the heap then; at most k cells of n slots are made -/
def ct_m (l : Launch) (Y : mx_Y) (k n : Nat) (args : List Value) (h : mx_H) (K : Option Value → mx_H → Prop) : Prop :=
  ∀ (D : va_G) (ty : mx_T) (b : Nat) (as : List Nat) (ws : va_W) (args' : List Value) (sz : Nat), ty.map (·.2) = TY → rl_c b as ty h ws → rl_s b as args args' →
    Met l Y.1 (mx_ws Y) (mx_rm Y k n) (ct_P D ty ws args' sz) (ct_Q D ty b as K (va_A ws sz)) k n (va_A ws sz)
def mx_en : List Value → List Value
  | [] => []
  | v :: t => match v with
    | .long x => .long x :: .retAddr 0 :: mx_en t
    | .double x => .double x :: .retAddr 0 :: mx_en t
    | v => v :: mx_en t
theorem rl_cat2 {b : Nat} {as : List Nat} {v v' : Value} (h : rl_v b as v v') : v'.category = v.category := by
  cases v <;> first | (obtain ⟨_, _, rfl⟩ := h; rfl) | (obtain ⟨_, rfl⟩ := h; rfl) | (cases (show v' = _ from h); rfl)
theorem mx_en1 {v : Value} (h : v.category = 1) (t : List Value) : mx_en (v :: t) = v :: mx_en t := by
  cases v <;> first | rfl | (simp [Value.category] at h)
theorem mx_en2 {v : Value} (h : v.category = 2) (t : List Value) : mx_en (v :: t) = v :: .retAddr 0 :: mx_en t := by
  cases v <;> first | rfl | (simp [Value.category] at h)
theorem en_len {b : Nat} {as : List Nat} : ∀ {s s' : List Value}, rl_s b as s s' → (lg_sl s').length = (mx_en s).length
  | [], _, h => by cases (show _ = [] from h); rfl
  | x :: t, _, ⟨w', t', e, h1, h2⟩ => by
    subst e
    have ih := en_len h2
    have hc := rl_cat2 h1
    rcases lv_cat x with h | h
    · rw [mx_en1 h]
      have e1 : lg_sl (w' :: t') = .val w' :: lg_sl t' := by simp [lg_sl, hc, h]
      rw [e1, List.length_cons, List.length_cons, ih]
    · rw [mx_en2 h]
      have e1 : lg_sl (w' :: t') = .val w' :: .second :: lg_sl t' := by simp [lg_sl, hc, h]
      rw [e1, List.length_cons, List.length_cons, List.length_cons, List.length_cons, ih]
theorem en_has {b : Nat} {as : List Nat} : ∀ {s s' : List Value} (i0 : Nat), rl_s b as s s' → ∀ (j : Nat) (v : Value), (mx_en s)[j]? = some v → v ≠ .retAddr 0 → ∃ v', rl_v b as v v' ∧ (i0 + j, v') ∈ lv_args i0 s'
  | [], _, i0, h, j, v, hv, _ => by simp [mx_en] at hv
  | x :: t, _, i0, ⟨w', t', e, h1, h2⟩, j, v, hv, hne => by
    subst e
    have hc := rl_cat2 h1
    rcases lv_cat x with h | h
    · rw [mx_en1 h] at hv
      have e1 : lv_args i0 (w' :: t') = (i0, w') :: lv_args (i0 + 1) t' := by simp [lv_args, hc, h]
      rw [e1]
      cases j with
      | zero =>
        rw [List.getElem?_cons_zero] at hv
        cases hv
        exact ⟨w', h1, List.mem_cons_self⟩
      | succ j =>
        rw [List.getElem?_cons_succ] at hv
        obtain ⟨v', a1, a2⟩ := en_has (i0 + 1) h2 j v hv hne
        exact ⟨v', a1, List.mem_cons_of_mem _ (by rw [show i0 + (j + 1) = i0 + 1 + j by omega]; exact a2)⟩
    · rw [mx_en2 h] at hv
      have e1 : lv_args i0 (w' :: t') = (i0, w') :: lv_args (i0 + 2) t' := by simp [lv_args, hc, h]
      rw [e1]
      match j, hv with
      | 0, hv =>
        rw [List.getElem?_cons_zero] at hv
        cases hv
        exact ⟨w', h1, List.mem_cons_self⟩
      | 1, hv =>
        rw [List.getElem?_cons_succ, List.getElem?_cons_zero] at hv
        cases hv
        exact absurd rfl hne
      | j + 2, hv =>
        rw [List.getElem?_cons_succ, List.getElem?_cons_succ] at hv
        obtain ⟨v', a1, a2⟩ := en_has (i0 + 2) h2 j v hv hne
        exact ⟨v', a1, List.mem_cons_of_mem _ (by rw [show i0 + (j + 2) = i0 + 2 + j by omega]; exact a2)⟩
theorem en_rl {b : Nat} {as : List Nat} {s s' L : List Value} {nL : Nat} (h : rl_s b as s s') (hle : (mx_en s).length ≤ nL) (hL : mx_en s ++ List.replicate (nL - (mx_en s).length) (.retAddr 0) = L) : rl_l b as L ((lg_sl s' ++ List.replicate (nL - (lg_sl s').length) Slot.unset).toArray) nL := by
  subst hL
  refine ⟨by simp; omega, lv_args 0 s', lv_entry s' (by rw [en_len h]; exact hle), fun i v hv hne => ?_⟩
  by_cases hi : i < (mx_en s).length
  · rw [List.getElem?_append_left hi] at hv
    obtain ⟨v', a1, a2⟩ := en_has 0 h i v hv hne
    exact ⟨v', a1, by rw [Nat.zero_add] at a2; exact a2⟩
  · rw [List.getElem?_append_right (by omega), List.getElem?_replicate] at hv
    split at hv
    · cases hv; exact absurd rfl hne
    · cases hv
theorem ct_of {l : Launch} {Y : mx_Y} {k n : Nat} {args L : List Value} {h : mx_H} {K : Option Value → mx_H → Prop} (hpl : plainName Y.1.cls = true) (hle : (mx_en args).length ≤ Y.2.2.1) (hL : mx_en args ++ List.replicate (Y.2.2.1 - (mx_en args).length) (.retAddr 0) = L) (kk : wp_m l Y none k n 0 L [] h K) : ct_m l Y k n args h K := by
  intro D ty b as ws args' sz hty hrc hs
  refine Met.ofW (cc := Y.2.1) (maxL := Y.2.2.1) (ret := Y.2.2.2.1) hpl rfl ?_
  intro p e s m args0 below meth c s₁ B hml hv
  obtain ⟨rfl, hsz, hP, hK, hD0⟩ := hv
  have hts0 := atoms_spec (ws := mx_ws Y) B.pre
  have hts : ∀ w ∈ WS, w.before args'.toArray s = true := fun w hw => hts0 w (List.mem_cons_of_mem _ hw)
  subst hsz
  have hD := hD0.self (sz := s.heap.size)
  generalize hAe : va_A ws s.heap.size = A at hD ⊢
  have hA : ∀ q : Nat, s.heap.size ≤ q → A q := fun q h => by rw [← hAe]; exact Or.inr h
  have hS : va_S A s.heap s.heap [] := va_S.rf
  have hl := en_rl hs hle hL
  rw [lg_entry_eq]
  have hlocks := B.notSynchronized
  have hret := B.returns
  refine kk D ty A s.heap b as k n p e _ s m _ below meth c _ ⟨B.exec, B.bytes, hret, hml, findClass_of_methodNamed B.named, hlocks, fun hin => ((name_of_methodNamed B.named B.method).1).trans hin, hts, hK, hty, Nat.le_refl _, Nat.le_refl _, Nat.le_refl _, Nat.le_refl _, hA, fun x hx => by cases hx⟩ ?_ as s.heap [] _ [] 0 0 ⟨ws, hrc, hP, hD, hS⟩ (List.prefix_refl _) hl rfl (by omega) (by omega)
  intro as' h' H locs pc' ls v v' hw' hpre' hR ho hq
  obtain ⟨ws', hrc', hP', hD', hS'⟩ := hw'
  have fin : ∀ t : State, t.heap = H → s.WarmedH t.vm → ct_Q D ty b as K A args'.toArray s (.returned v') t := fun t ht hW =>
    ⟨⟨v, v', h', as', ws', rfl, ho, hpre', hrc', by rw [ht]; exact hP', hD', hq⟩, hS'.F ht⟩
  match v', hR, fin with
  | none, hR, fin => exact W.vret B.exec B.bytes (hret.trans hR.2) fin hS'.2.2 hR.1
  | some (.int x), ⟨hR1, t, hR2, hR3⟩, fin => exact W.zret B.exec B.bytes (hret.trans hR2) hR3 fin hS'.2.2 hR1
  | some .null, ⟨hR1, t, hR2, hR3, hR4⟩, fin => exact W.aret B.exec B.bytes (hret.trans hR2) hR3 hR4 fin hS'.2.2 hR1
  | some (.ref a), ⟨hR1, t, hR2, hR3, hR4⟩, fin => exact W.aret B.exec B.bytes (hret.trans hR2) hR3 hR4 fin hS'.2.2 hR1
  | some (.long a), ⟨hR1, t, hR2, hR3, hR4⟩, fin => exact W.aret B.exec B.bytes (hret.trans hR2) hR3 hR4 fin hS'.2.2 hR1
  | some (.float a), ⟨hR1, t, hR2, hR3, hR4⟩, fin => exact W.aret B.exec B.bytes (hret.trans hR2) hR3 hR4 fin hS'.2.2 hR1
  | some (.double a), ⟨hR1, t, hR2, hR3, hR4⟩, fin => exact W.aret B.exec B.bytes (hret.trans hR2) hR3 hR4 fin hS'.2.2 hR1
  | some (.retAddr a), ⟨hR1, t, hR2, hR3, hR4⟩, fin => exact W.aret B.exec B.bytes (hret.trans hR2) hR3 hR4 fin hS'.2.2 hR1
section MC
variable {p : Program} {l : Launch} {e : Env} {R : Room} {s : State} {m : MethodId} {args : Array Value} {below : List Frame} {meth : Method} {c : Code} {H : Heap} {locs : List Loc} {cells slots : Nat} {Q : State → Prop}
variable {pc : Nat} {ls : Array Slot} {rest st0 : List Value} {a : Array Value} {A0 A1 : Nat → Prop} {H0 : Heap} {mc ms : Nat} {free : Addr → Prop}
theorem mx_back {D : va_G} {ty : mx_T} {b : Nat} {as : List Nat} {K : Option Value → mx_H → Prop} (hr : va_Run p l e R s m args below meth c H locs cells slots mc ms (F0 m pc ls st0) rest (ct_Q D ty b as K A1 a) free) (hS : va_S A0 H0 H locs) (hA : ∀ q, q < H.size → A1 q → A0 q) (hf : ∀ q, free q → A0 q)
    (kk : ∀ (v v' : Option Value) (h' : mx_H) (as' : List Nat) (ws' : va_W) (H1 : Heap) (locs1 : List Loc), rl_o b as' v v' → as <+: as' → rl_c b as' ty h' ws' → va_P D classes ws' H1 → va_D A1 ws' → K v h' → va_S A0 H0 H1 locs1 → W p l e R s m args below meth c H1 locs1 (cells + mc) (slots + ms) Q (F0 m (pc + 3) ls (v'.toList ++ rest))) : W p l e R s m args below meth c H locs cells slots Q (F0 m pc ls st0) := by
  intro T hT X
  obtain ⟨v0, st₀, t, T', L, h0, X', hL, e1, e2, ⟨⟨v, v', h', as', ws', hv, ho, hpre, hrc, hP, hD, hk⟩, hz, hk2⟩, st⟩ := hr T hT X
  cases hv
  rw [h0] at hz hk2
  obtain ⟨t2, a1, b1⟩ := kk v v0 h' as' ws' T'.heap (locs ++ L) ho hpre hrc (by rw [e1]; exact hP) hD hk
    ⟨Nat.le_trans hS.1 (by rw [e1]; exact hz), fun q h1 h2 => by rw [e1, hk2 q (Nat.lt_of_lt_of_le h1 hS.1) (fun z => h2 (hA q (Nat.lt_of_lt_of_le h1 hS.1) z))]; exact hS.2.1 q h1 h2, fun q hq => by
      rcases List.mem_append.mp hq with h | h
      · exact hS.2.2 q h
      · exact hf _ (hL q h)⟩ T' rfl X'
  exact ⟨t2, st t2 a1, b1⟩
end MC
theorem ct_blind {D : va_G} {ty : mx_T} {ws : va_W} {args' : List Value} {sz : Nat} : FrameBlind (ct_P D ty ws args' sz) := fun a U g mk q => by
  obtain ⟨q0, q1, qP, qK, qD⟩ := q
  exact ⟨q0, q1, qP, mx_K.moved (u := U) (U := U.calling g mk a) (Vm.Alike.refl U.vm) qK, qD⟩
/-- a method by its place in a class's pool; nP its parameters -/
def mx_L (own : String) (idx : Nat) (Y : mx_Y) (nP : Nat) : Prop := Cond.methodLink own idx Y.1 ∈ WS ∧ Cond.initialized Y.1.cls ∈ WS ∧ Cond.code Y.1 Y.2.1 Y.2.2.1 Y.2.2.2.1 ∈ WS ∧ (Y.1.cls ≠ "java/lang/invoke/MethodHandle" ∧ Y.1.cls ≠ "java/lang/invoke/VarHandle" ∧ (parseMethodDescriptor Y.1.desc).map (fun d => d.parameters.length) = some nP) ∧ Y.2.2.1 ≤ 21
theorem ws_in {Y : mx_Y} (h : Cond.code Y.1 Y.2.1 Y.2.2.1 Y.2.2.2.1 ∈ WS) : GoodIn WS (mx_ws Y) := by
  intro w hw
  rcases List.mem_cons.mp hw with rfl | hw
  · exact ⟨h, ws_good _ h⟩
  · exact ⟨hw, ws_good _ hw⟩
section MD
variable {l : Launch} {Y : mx_Y} {sc : mx_S} {k n : Nat} {pc : Nat} {L st : List Value} {h : mx_H} {Q : Option Value → mx_H → Prop}
/-- what stands behind a call, whatever its kind -/
theorem wp_after {k' n' : Nat} {D : va_G} {ty : mx_T} {A : Nat → Prop} {H0 : Heap} {b : Nat} {as0 : List Nat} {mcT msT : Nat} {p : Program} {e : Env} {R : Room} {s : State} {m : MethodId} {args : Array Value} {below : List Frame} {meth : Method} {c : Code} {Z : State → Prop} {as : List Nat} {H : Heap} {locs : List Loc} {ls : Array Slot} {rest st0 : List Value} {cells slots : Nat} {ws : va_W} {a : Array Value}
    (hC : fx_C Y sc D ty A H0 b mcT msT p R s m args meth c)
    (hR : ∀ (as : List Nat) (h' : mx_H) (H : Heap) (locs : List Loc) (pc' : Nat) (ls : Array Slot) (v v' : Option Value), rl_w D ty A H0 b as h' H locs → as0 <+: as → fx_R Y pc' v' → rl_o b as v v' → Q v h' → W p l e R s m args below meth c H locs mcT msT Z (F0 m pc' ls v'.toList))
    (hrc : rl_c b as ty h ws) (hP : va_P D classes ws H) (hD : va_D A ws) (hS : va_S A H0 H locs) (hpre : as0 <+: as) (hl : rl_l b as L ls Y.2.2.1) (hs : rl_s b as st rest) (hk : cells + k ≤ mcT) (hn : slots + n ≤ msT) (hk' : k' ≤ k) (hn' : n' ≤ n)
    (hr : va_Run p l e R s m args below meth c H locs cells slots k' n' (F0 m pc ls st0) rest (ct_Q D ty b as (fun v h' => wp_m l Y sc (k - k') (n - n') (pc + 3) L (mx_pu v st) h' Q) (va_A ws H.size) a) (va_A ws H.size)) :
    W p l e R s m args below meth c H locs cells slots Z (F0 m pc ls st0) := by
  have hA := hC.2.2.2.2.2.2.2.2.2.2.2.2.2.2.1
  have hin : ∀ q, va_A ws H.size q → A q := fun q hq => by
    rcases hq with ⟨i, e, hq⟩ | hq
    · exact hD.2 i _ hq
    · exact hA q (Nat.le_trans hS.1 hq)
  refine mx_back hr hS (fun q _ h => hin q h) hin fun v v' h' as' ws' H1 locs1 ho hp hrc' hP' hD' hw hS' => ?_
  refine hw D ty A H0 b as0 mcT msT p e R s m args below meth c Z hC hR as' H1 locs1 ls _ _ _ ⟨ws', hrc', hP', hD'.weaken (fun _ q _ h => hin q.1 h), hS'⟩ (hpre.trans hp) (hl.up hp) ?_ (by omega) (by omega)
  have hs' := hs.up hp
  match v, v', ho with
  | none, _, rfl => exact hs'
  | some x, _, ⟨x', rfl, hx⟩ => exact ⟨x', rest, rfl, hx, hs'⟩
theorem wp_callV {Y' : mx_Y} {k' n' idx nP a ci : Nat} {As S fs : List Value} {q : vw_C} (hi : decode Y.2.1 pc = .ok (.invokevirtual idx, 3)) (hM : mx_L Y.1.cls idx Y' nP) (hV : Cond.instanceMethod Y'.1 ∈ WS ∧ Cond.selects Y'.1.cls Y'.1 Y'.1 ∈ WS) (hrk : Y'.2.2.2.2 < Y.2.2.2.2) (hst : S = As.reverse ++ .ref a :: st) (hnP : As.length = nP) (ha : h[a]? = some (.inr (ci, fs))) (hc : classes[ci]? = some q) (hq : q.1 = Y'.1.cls) (hcat : (st.map fun v => v.category).sum ≤ 8) (hk' : k' ≤ k) (hn' : n' ≤ n)
    (hct : ct_m l Y' k' n' (.ref a :: As) h (fun v h' => wp_m l Y sc (k - k') (n - n') (pc + 3) L (mx_pu v st) h' Q)) : wp_m l Y sc k n pc L S h Q := by
  intro D ty A H0 b as0 mcT msT p e R s m args below meth c Z hC hR as H locs ls st' cells slots hw hpre hl hs hk hn
  subst hst
  obtain ⟨s1, s2, rfl, hs1, hs2⟩ := hs.split
  obtain ⟨_, rest, rfl, ⟨a', ha', rfl⟩, hs3⟩ := hs2
  obtain ⟨ws, hrc, hP, hD, hS⟩ := id hw
  obtain ⟨c', g1, fs', rfl, g2⟩ := hrc.at ha ha'
  have hts := hC.2.2.2.2.2.2.2.1
  have hK := hC.2.2.2.2.2.2.2.2.1
  have hsr : rl_s b as As s1.reverse := by
    have e1 := hs1.rev
    rwa [List.reverse_reverse] at e1
  obtain ⟨m1, m2, m3, m4, m5⟩ := hM
  have hf := hC.2.2.2.2.2.2.2.2.2.2.1
  have hlo := hC.2.2.2.2.2.2.2.2.2.2.2.1
  have hmc := hC.2.2.2.2.2.2.2.2.2.2.2.2.1
  have hms := hC.2.2.2.2.2.2.2.2.2.2.2.2.2.1
  have cb := callB_of (R := R) (own := Y.1.cls) (index := idx) (y := Y'.1) (bytes := Y'.2.1) (maxL := Y'.2.2.1) (ret := Y'.2.2.2.1) (ws := mx_ws Y') (rm := mx_rm Y' k' n') (mc := k') (ms := n') nP hts (ws_in m3) rfl rfl rfl (hts _ m2) (hts _ m1) m4 ⟨by show Y'.2.2.2.2 + 1 ≤ _; omega, by show 8 + (Y'.2.2.1 + 11) + 40 * Y'.2.2.2.2 ≤ _; omega⟩
  refine wp_after hC hR hrc hP hD hS hpre hl hs3 hk hn hk' hn' (va_runV (C := Y'.1.cls) (As := s1.reverse) (rest := rest) (b := a') ⟨hC.1, hC.2.1, hC.2.2.2.1, hC.2.2.2.2.1, hts⟩ (hct D ty b as ws (.ref a' :: s1.reverse) H.size hC.2.2.2.2.2.2.2.2.2.1 hrc ⟨_, _, rfl, ⟨a', ha', rfl⟩, hsr⟩) ⟨cb, hts _ hV.1, hts _ hV.2⟩ ⟨ct_blind, hq ▸ va_recv hK.1 hP hc g1, fun U hU hW => ⟨rfl, by rw [hU], by rw [hU]; exact hP, hK.moved hW.alike, hD.weaken (fun _ _ _ _ => trivial)⟩⟩ rfl (by rw [List.length_reverse, hs1.len, List.length_reverse]; exact hnP) hl.2.choose_spec.1.1 (by rw [List.reverse_reverse]) (lv_room (by rw [hs3.cat]; exact hcat)) hi ⟨by omega, by omega⟩)
theorem wp_callS {Y' : mx_Y} {k' n' idx nP : Nat} {As S : List Value} (hi : decode Y.2.1 pc = .ok (.invokestatic idx, 3)) (hM : mx_L Y.1.cls idx Y' nP) (hV : Cond.static Y'.1 ∈ WS) (hrk : Y'.2.2.2.2 < Y.2.2.2.2) (hst : S = As.reverse ++ st) (hnP : As.length = nP) (hcat : (st.map fun v => v.category).sum ≤ 8) (hk' : k' ≤ k) (hn' : n' ≤ n)
    (hct : ct_m l Y' k' n' As h (fun v h' => wp_m l Y sc (k - k') (n - n') (pc + 3) L (mx_pu v st) h' Q)) : wp_m l Y sc k n pc L S h Q := by
  intro D ty A H0 b as0 mcT msT p e R s m args below meth c Z hC hR as H locs ls st' cells slots hw hpre hl hs hk hn
  subst hst
  obtain ⟨s1, rest, rfl, hs1, hs3⟩ := hs.split
  obtain ⟨ws, hrc, hP, hD, hS⟩ := id hw
  have hts := hC.2.2.2.2.2.2.2.1
  have hK := hC.2.2.2.2.2.2.2.2.1
  have hsr : rl_s b as As s1.reverse := by
    have e1 := hs1.rev
    rwa [List.reverse_reverse] at e1
  obtain ⟨m1, m2, m3, m4, m5⟩ := hM
  have hf := hC.2.2.2.2.2.2.2.2.2.2.1
  have hlo := hC.2.2.2.2.2.2.2.2.2.2.2.1
  have hmc := hC.2.2.2.2.2.2.2.2.2.2.2.2.1
  have hms := hC.2.2.2.2.2.2.2.2.2.2.2.2.2.1
  have cb := callB_of (R := R) (own := Y.1.cls) (index := idx) (y := Y'.1) (bytes := Y'.2.1) (maxL := Y'.2.2.1) (ret := Y'.2.2.2.1) (ws := mx_ws Y') (rm := mx_rm Y' k' n') (mc := k') (ms := n') nP hts (ws_in m3) rfl rfl rfl (hts _ m2) (hts _ m1) m4 ⟨by show Y'.2.2.2.2 + 1 ≤ _; omega, by show 8 + (Y'.2.2.1 + 11) + 40 * Y'.2.2.2.2 ≤ _; omega⟩
  refine wp_after hC hR hrc hP hD hS hpre hl hs3 hk hn hk' hn' (va_runS (As := s1.reverse) (rest := rest) ⟨hC.1, hC.2.1, hC.2.2.2.1, hC.2.2.2.2.1, hts⟩ (hct D ty b as ws s1.reverse H.size hC.2.2.2.2.2.2.2.2.2.1 hrc hsr) ⟨cb, hts _ hV⟩ ⟨ct_blind, fun U hU hW => ⟨rfl, by rw [hU], by rw [hU]; exact hP, hK.moved hW.alike, hD.weaken (fun _ _ _ _ => trivial)⟩⟩ rfl (by rw [List.length_reverse, hs1.len, List.length_reverse]; exact hnP) hl.2.choose_spec.1.1 (by rw [List.reverse_reverse]) (lv_room (by rw [hs3.cat]; exact hcat)) hi ⟨by omega, by omega⟩)
theorem wp_callI {Y' : mx_Y} {k' n' idx nP a : Nat} {As S : List Value} (hi : decode Y.2.1 pc = .ok (.invokespecial idx, 3)) (hM : mx_L Y.1.cls idx Y' nP) (hV : Cond.instanceMethod Y'.1 ∈ WS ∧ Y'.1.name = "<init>" ∧ Y'.2.2.2.1 = none) (hrk : Y'.2.2.2.2 < Y.2.2.2.2) (hst : S = As.reverse ++ .ref a :: st) (hnP : As.length = nP) (hcat : (st.map fun v => v.category).sum ≤ 8) (hk' : k' ≤ k) (hn' : n' ≤ n)
    (hct : ct_m l Y' k' n' (.ref a :: As) h (fun v h' => wp_m l Y sc (k - k') (n - n') (pc + 3) L (mx_pu v st) h' Q)) : wp_m l Y sc k n pc L S h Q := by
  intro D ty A H0 b as0 mcT msT p e R s m args below meth c Z hC hR as H locs ls st' cells slots hw hpre hl hs hk hn
  subst hst
  obtain ⟨s1, s2, rfl, hs1, hs2⟩ := hs.split
  obtain ⟨_, rest, rfl, ⟨a', ha', rfl⟩, hs3⟩ := hs2
  obtain ⟨ws, hrc, hP, hD, hS⟩ := id hw
  have hts := hC.2.2.2.2.2.2.2.1
  have hK := hC.2.2.2.2.2.2.2.2.1
  have hsr : rl_s b as As s1.reverse := by
    have e1 := hs1.rev
    rwa [List.reverse_reverse] at e1
  obtain ⟨m1, m2, m3, m4, m5⟩ := hM
  have hf := hC.2.2.2.2.2.2.2.2.2.2.1
  have hlo := hC.2.2.2.2.2.2.2.2.2.2.2.1
  have hmc := hC.2.2.2.2.2.2.2.2.2.2.2.2.1
  have hms := hC.2.2.2.2.2.2.2.2.2.2.2.2.2.1
  obtain ⟨v1, v2, v3⟩ := hV
  have hws : mx_ws Y' = Cond.code Y'.1 Y'.2.1 Y'.2.2.1 none :: WS := by unfold mx_ws; rw [v3]
  have cb := callB_of (R := R) (own := Y.1.cls) (index := idx) (y := Y'.1) (bytes := Y'.2.1) (maxL := Y'.2.2.1) (ret := none) (ws := mx_ws Y') (rm := mx_rm Y' k' n') (mc := k') (ms := n') nP hts (ws_in m3) hws rfl rfl (hts _ m2) (hts _ m1) m4 ⟨by show Y'.2.2.2.2 + 1 ≤ _; omega, by show 8 + (Y'.2.2.1 + 11) + 40 * Y'.2.2.2.2 ≤ _; omega⟩
  refine wp_after hC hR hrc hP hD hS hpre hl hs3 hk hn hk' hn' (va_runI (As := s1.reverse) (rest := rest) (b := a') ⟨hC.1, hC.2.1, hC.2.2.2.1, hC.2.2.2.2.1, hts⟩ (hct D ty b as ws (.ref a' :: s1.reverse) H.size hC.2.2.2.2.2.2.2.2.2.1 hrc ⟨_, _, rfl, ⟨a', ha', rfl⟩, hsr⟩) ⟨cb, v2, hts _ v1⟩ ⟨ct_blind, fun U hU hW => ⟨rfl, by rw [hU], by rw [hU]; exact hP, hK.moved hW.alike, hD.weaken (fun _ _ _ _ => trivial)⟩⟩ rfl (by rw [List.length_reverse, hs1.len, List.length_reverse]; exact hnP) hl.2.choose_spec.1.1 (by rw [List.reverse_reverse]) (lv_room (by rw [hs3.cat]; exact hcat)) hi ⟨by omega, by omega⟩)
theorem wp_objInit {idx a : Nat} (hi : decode Y.2.1 pc = .ok (.invokespecial idx, 3)) (hl1 : Cond.methodLink Y.1.cls idx objectInit ∈ WS) (hl2 : Cond.instanceMethod objectInit ∈ WS) (hl3 : Cond.code objectInit ⟨#[0xb1]⟩ 1 none ∈ WS) (hrk : 1 ≤ Y.2.2.2.2) (kk : wp_m l Y sc k n (pc + 3) L [] h Q) : wp_m l Y sc k n pc L [.ref a] h Q := by
  intro D ty A H0 b as0 mcT msT p e R s m args below meth c Z hC hR as H locs ls st' cells slots hw hpre hl hs hk hn
  obtain ⟨_, _, rfl, ⟨a', ha', rfl⟩, hs⟩ := hs
  cases (show _ = [] from hs)
  have hts := hC.2.2.2.2.2.2.2.1
  have hf := hC.2.2.2.2.2.2.2.2.2.2.1
  have hlo := hC.2.2.2.2.2.2.2.2.2.2.2.1
  refine W.objInit hC.1 hC.2.1 hC.2.2.2.2.1 (hts _ hl1) (hts _ hl2) (hts _ hl3) rfl (hl.2.choose_spec.1.1.trans hC.2.2.2.1.symm) rfl hi (by omega) ?_ ?_
  · have e1 : 2 * (F0 m pc ls [.ref a']).monitorRoom + (([] : List Value).map fun v => v.category).sum ≤ 8 := lv_room (by simp)
    omega
  · exact kk D ty A H0 b as0 mcT msT p e R s m args below meth c Z hC hR as H locs ls _ cells slots hw hpre hl rfl hk hn
end MD
end
section
/-! the mirror: cells that are made -/
def mx_z : List Value → Bool
  | [] => true
  | .int _ :: t => mx_z t
  | .null :: t => mx_z t
  | _ => false
theorem rl_z {b : Nat} {as : List Nat} : ∀ {s : List Value}, mx_z s = true → rl_s b as s s
  | [], _ => rfl
  | .int _ :: t, h => ⟨_, t, rfl, rfl, rl_z (s := t) h⟩
  | .null :: t, h => ⟨_, t, rfl, rfl, rl_z (s := t) h⟩
theorem rl_new {as : List Nat} {h : mx_H} {q : Nat} (hl : as.length = h.length) : (as ++ [q])[h.length]? = some q := by
  rw [← hl]
  simp
theorem mx_push {D : va_G} {A : Nat → Prop} {H0 H H1 : Heap} {locs : List Loc} {ws : va_W} {cA : ClassId} {x : vp_A} (hP : va_P D classes ws H) (hD : va_D A ws) (hS : va_S A H0 H locs) (hA : ∀ q, H0.size ≤ q → A q) (z1 : H1.size = H.size + 1) (o1 : ∀ q : Nat, q < H.size → H1[q]? = H[q]?) (e1 : H1[H.size]? = some (vp_cell cA x)) :
    va_P D classes (ws ++ [(H.size, .inl (cA, x))]) H1 ∧ va_D A (ws ++ [(H.size, .inl (cA, x))]) ∧ va_S A H0 H1 locs := by
  have hk : ∀ (k : Nat) (x : Nat × va_E), ws[k]? = some x → H1[x.1]? = H[x.1]? := fun k x hx => o1 x.1 ((hP k x hx).lt)
  refine ⟨(hP.kept hk).app (fun k y hy => ?_), hD.push hP rfl (hA _ hS.1), ⟨Nat.le_trans hS.1 (by omega), fun x h1 h2 => (o1 x (Nat.lt_of_lt_of_le h1 hS.1)).trans (hS.2.1 x h1 h2), hS.2.2⟩⟩
  have hz : k < 1 := (List.getElem?_eq_some_iff.mp hy).1
  rw [show k = 0 by omega] at hy
  cases hy
  exact e1
section MA
variable {l : Launch} {Y : mx_Y} {sc : mx_S} {k n : Nat} {pc : Nat} {L st : List Value} {h : mx_H} {Q : Option Value → mx_H → Prop}
theorem wp_new {idx ci N : Nat} {C : String} {T : u_T} {ty0 : Nat → FieldType} {fs : List Value} (hi : decode Y.2.1 pc = .ok (.new idx, 3)) (hc : classes[ci]? = some (C, T, N)) (hin : ∀ w ∈ u_ws C T N, w ∈ WS) (hty : ∀ k, k < N → parseFieldDescriptor (T k).2.2.1 = some (ty0 k)) (hcl : Cond.classLink Y.1.cls idx C ∈ WS) (hins : Cond.instantiable C N ∈ WS) (hini : Cond.initialized C ∈ WS) (hfs : ∀ j, j < N → defaultValue (ty0 j) = vp_V fs j) (hz : mx_z fs = true) (hk1 : 1 ≤ k) (hn1 : N ≤ n)
    (kk : wp_m l Y sc (k - 1) (n - N) (pc + 3) L (.ref h.length :: st) (h ++ [.inr (ci, fs)]) Q) : wp_m l Y sc k n pc L st h Q := by
  intro D ty A H0 b as0 mcT msT p e R s m args below meth c Z hC hR as H locs ls st' cells slots hw hpre hl hs hk hn
  obtain ⟨ws, hrc, hP, hD, hS⟩ := id hw
  have hts := hC.2.2.2.2.2.2.2.1
  have hK := hC.2.2.2.2.2.2.2.2.1.1
  have hmc := hC.2.2.2.2.2.2.2.2.2.2.2.2.1
  have hms := hC.2.2.2.2.2.2.2.2.2.2.2.2.2.1
  have hA := hC.2.2.2.2.2.2.2.2.2.2.2.2.2.2.1
  refine va_new (fs := fs) hC.1 hC.2.1 hts hin ty0 hty hC.2.2.2.2.1 (hts _ hcl) (hts _ hins) (hts _ hini) hK hP hD hS hA hc hfs (by omega) (by omega) hi (fun q H1 hP1 hD1 hS1 => ?_)
  have hp : as <+: as ++ [q] := List.prefix_append _ _
  exact kk D ty A H0 b as0 mcT msT p e R s m args below meth c Z hC hR (as ++ [q]) H1 locs ls _ (cells + 1) (slots + N) ⟨_, hrc.push ⟨fs, rfl, rl_z hz⟩, hP1, hD1, hS1⟩ (hpre.trans hp) (hl.up hp) ⟨_, _, rfl, ⟨q, rl_new hrc.2.1, rfl⟩, hs.up hp⟩ (by omega) (by omega)
theorem wp_newarray {t N : Nat} {at0 : ArrayType} {i : Int32} (hi : decode Y.2.1 pc = .ok (.newarray at0, 2)) (hT : TY[t]? = some (newarray.typeOf at0)) (hd : defaultValue (newarray.typeOf at0) = .int 0) (hwd : Cond.arrayClass (newarray.typeOf at0) ∈ WS) (hi0 : ¬ i < 0) (hN : i.toNatClampNeg = N) (hb : N * componentBytes (newarray.typeOf at0) ≤ 536870912) (hk1 : 1 ≤ k) (hn1 : N ≤ n)
    (kk : wp_m l Y sc (k - 1) (n - N) (pc + 2) L (.ref h.length :: st) (h ++ [.inl (t, N, .inl (fun _ => 0))]) Q) : wp_m l Y sc k n pc L (.int i :: st) h Q := by
  intro D ty A H0 b as0 mcT msT p e R s m args below meth c Z hC hR as H locs ls st' cells slots hw hpre hl hs hk hn
  obtain ⟨_, _, rfl, rfl, hs⟩ := hs
  obtain ⟨ws, hrc, hP, hD, hS⟩ := id hw
  have hts := hC.2.2.2.2.2.2.2.1
  have hK := hC.2.2.2.2.2.2.2.2.1.1
  have hty := hC.2.2.2.2.2.2.2.2.2.1
  have hmc := hC.2.2.2.2.2.2.2.2.2.2.2.2.1
  have hms := hC.2.2.2.2.2.2.2.2.2.2.2.2.2.1
  have hA := hC.2.2.2.2.2.2.2.2.2.2.2.2.2.2.1
  have ht : ∃ q, ty[t]? = some q ∧ q.2 = newarray.typeOf at0 := by
    rw [← hty, List.getElem?_map] at hT
    cases hq : ty[t]? with
    | none => rw [hq] at hT; cases hT
    | some q => rw [hq] at hT; exact ⟨q, rfl, Option.some.inj hT⟩
  obtain ⟨⟨cQ, fQ⟩, ht1, ht2⟩ := ht
  dsimp only at ht2
  subst ht2
  refine va_newaK hC.1 hC.2.1 (hts _ hwd) rfl hi rfl hi0 hN hb (by omega) (by omega) rfl (fun H1 cA e1 z1 o1 hAr hNm => ?_)
  have hRA : s.vm.findClass ("[" ++ (newarray.typeOf at0).toString) = some cQ := by
    have h2 := (hK.2 t _ ht1).2
    cases at0 <;> exact h2
  cases hNm.symm.trans hRA
  rw [hd] at e1
  obtain ⟨hP1, hD1, hS1⟩ := mx_push (x := (N, .inl (fun _ => 0))) hP hD hS hA z1 o1 e1
  have hp : as <+: as ++ [H.size] := List.prefix_append _ _
  exact kk D ty A H0 b as0 mcT msT p e R s m args below meth c Z hC hR (as ++ [H.size]) H1 locs ls _ (cells + 1) (slots + N) ⟨_, hrc.push ⟨_, ht1, rfl⟩, hP1, hD1, hS1⟩ (hpre.trans hp) (hl.up hp) ⟨_, _, rfl, ⟨_, rl_new hrc.2.1, rfl⟩, hs.up hp⟩ (by omega) (by omega)
theorem wp_anewarray {idx N : Nat} {i : Int32} (hi : decode Y.2.1 pc = .ok (.anewarray idx, 3)) (hT : TY[2]? = some (.object TR)) (hcl : Cond.classLink Y.1.cls idx TR ∈ WS) (hi0 : ¬ i < 0) (hN : i.toNatClampNeg = N) (hb : N * 4 ≤ 536870912) (hk1 : 1 ≤ k) (hn1 : N ≤ n)
    (kk : wp_m l Y sc (k - 1) (n - N) (pc + 3) L (.ref h.length :: st) (h ++ [.inl (2, N, .inr (.inr (.inr (.inr (fun _ => none)))))]) Q) : wp_m l Y sc k n pc L (.int i :: st) h Q := by
  intro D ty A H0 b as0 mcT msT p e R s m args below meth c Z hC hR as H locs ls st' cells slots hw hpre hl hs hk hn
  obtain ⟨_, _, rfl, rfl, hs⟩ := hs
  obtain ⟨ws, hrc, hP, hD, hS⟩ := id hw
  have hts := hC.2.2.2.2.2.2.2.1
  have hK := hC.2.2.2.2.2.2.2.2.1.1
  have hX := hC.2.2.2.2.2.2.2.2.1.2.1
  have hty := hC.2.2.2.2.2.2.2.2.2.1
  have hmc := hC.2.2.2.2.2.2.2.2.2.2.2.2.1
  have hms := hC.2.2.2.2.2.2.2.2.2.2.2.2.2.1
  have hA := hC.2.2.2.2.2.2.2.2.2.2.2.2.2.2.1
  have ht : ∃ q, ty[2]? = some q ∧ q.2 = .object TR := by
    rw [← hty, List.getElem?_map] at hT
    cases hq : ty[2]? with
    | none => rw [hq] at hT; cases hT
    | some q => rw [hq] at hT; exact ⟨q, rfl, Option.some.inj hT⟩
  obtain ⟨⟨cQ, fQ⟩, ht1, ht2⟩ := ht
  dsimp only at ht2
  subst ht2
  subst hN
  refine W.anew hC.1 hC.2.1 hC.2.2.2.2.1 (hts _ hcl) (va_AO.use hX) rfl hi rfl hi0 hb (by omega) (by omega) fun cA kA comp f1 f2 f3 f4 => ?_
  obtain ⟨kA', comp', r1, r2, r3, r4⟩ := (hK.2 2 _ ht1).2
  have ecA : cQ = cA := Option.some.inj (r4.symm.trans f1)
  subst ecA
  generalize hH1 : H.push ({ cls := cQ, slots := Array.replicate i.toNatClampNeg .null, vm := .none } : Cell) = H1
  have z1 : H1.size = H.size + 1 := by rw [← hH1, Array.size_push]
  have e1 : H1[H.size]? = some (vp_cell cQ (i.toNatClampNeg, .inr (.inr (.inr (.inr (fun _ => none)))))) := by rw [← hH1, Array.getElem?_push_size, vp_cell_q]; exact congrArg some (arrV_new cQ _ .null)
  have o1 : ∀ q : Nat, q < H.size → H1[q]? = H[q]? := fun q hq => by rw [← hH1, Array.getElem?_push, if_neg (Nat.ne_of_lt hq)]
  obtain ⟨hP1, hD1, hS1⟩ := mx_push hP hD hS hA z1 o1 e1
  have hp : as <+: as ++ [H.size] := List.prefix_append _ _
  exact kk D ty A H0 b as0 mcT msT p e R s m args below meth c Z hC hR (as ++ [H.size]) H1 locs ls _ (cells + 1) (slots + i.toNatClampNeg) ⟨_, hrc.push ⟨_, _, ht1, rfl, fun _ => rfl⟩, hP1, hD1, hS1⟩ (hpre.trans hp) (hl.up hp) ⟨_, _, rfl, ⟨_, rl_new hrc.2.1, rfl⟩, hs.up hp⟩ (by omega) (by omega)
end MA
end
section
/-! multianewarray of two dimensions: the outer row, then each inner one, in order -/
def mu_o (c : ClassId) (N q0 i : Nat) : Cell := arrV c N (fun j => if j < i then .ref (q0 + 1 + j) else .null)
def mu_i (c : ClassId) (M : Nat) (v : Value) : Cell := { cls := c, slots := Array.replicate M v, vm := .none }
def mu_s (s : State) (c d : ClassId) (N M : Nat) (v : Value) : Nat → State
  | 0 => s.pushCell (mu_o c N s.heap.size 0)
  | i + 1 => ((mu_s s c d N M v i).pushCell (mu_i d M v)).setCell s.heap.size (mu_o c N s.heap.size (i + 1))
theorem mu_o0 (c : ClassId) (N q0 : Nat) : mu_o c N q0 0 = { cls := c, slots := Array.replicate N .null, vm := .none } := by
  rw [arrV_new]
  unfold mu_o
  congr 1
theorem mu_oS (c : ClassId) (N q0 i : Nat) : (mu_o c N q0 i).setSlot i (.ref (q0 + 1 + i)) = mu_o c N q0 (i + 1) := by
  unfold mu_o
  rw [arrV_store]
  congr 1
  funext j
  unfold updV
  by_cases hj : j = i
  · subst hj
    rw [if_pos rfl, if_pos (Nat.lt_succ_self _)]
  · rw [if_neg hj]
    show (if j < i then Value.ref (q0 + 1 + j) else Value.null) = _
    by_cases h2 : j < i
    · rw [if_pos h2, if_pos (by omega)]
    · rw [if_neg h2, if_neg (by omega)]
theorem mu_oN (c : ClassId) (N q0 i : Nat) : (mu_o c N q0 i).slots.size = N := arrV_size _ _ _
theorem mu_at (s : State) (c d : ClassId) (N M : Nat) (v : Value) : ∀ i, (mu_s s c d N M v i).heap.size = s.heap.size + 1 + i ∧ (mu_s s c d N M v i).heap[s.heap.size]? = some (mu_o c N s.heap.size i) ∧ (mu_s s c d N M v i).vm = s.vm ∧ (mu_s s c d N M v i).slotsUsed = s.slotsUsed + N + i * M
  | 0 => ⟨by simp [mu_s], by simp [mu_s], rfl, by simp [mu_s, mu_oN]⟩
  | i + 1 => by
    obtain ⟨a1, a2, a3, a4⟩ := mu_at s c d N M v i
    have h0 : s.heap.size < (mu_s s c d N M v i).heap.size := by omega
    have h1 : ((mu_s s c d N M v i).pushCell (mu_i d M v)).heap[s.heap.size]? = some (mu_o c N s.heap.size i) := by
      rw [State.heap_pushCell_of_lt (h := h0)]
      exact a2
    refine ⟨?_, State.heap_setCell_self h1, by simp [mu_s, a3], ?_⟩
    · simp [mu_s, State.setCell, a1]
      omega
    · simp [mu_s, a4, mu_i, Nat.succ_mul]
      omega
theorem mu_top (s : State) (f : JFrame) (c d : ClassId) (N M : Nat) (v : Value) : ∀ i, mu_s (s.setTop f) c d N M v i = (mu_s s c d N M v i).setTop f
  | 0 => rfl
  | i + 1 => by simp only [mu_s, mu_top s f c d N M v i, State.heap_setTop, State.pushCell_setTop, State.setCell_setTop]
theorem mu_old (s : State) (c d : ClassId) (N M : Nat) (v : Value) {a : Nat} (ha : a < s.heap.size) : ∀ i, (mu_s s c d N M v i).heap[a]? = s.heap[a]?
  | 0 => State.heap_pushCell_of_lt _ _ ha
  | i + 1 => by
    have h0 := (mu_at s c d N M v i).1
    have h1 : a < (mu_s s c d N M v i).heap.size := by rw [h0]; have ha' : a < Array.size s.heap := ha; omega
    show (((mu_s s c d N M v i).pushCell (mu_i d M v)).setCell s.heap.size _).heap[a]? = _
    rw [State.heap_setCell_other (Nat.ne_of_gt ha), State.heap_pushCell_of_lt (h := h1)]
    exact mu_old s c d N M v ha i
theorem mu_row (s : State) (c d : ClassId) (N M : Nat) (v : Value) : ∀ i j, j < i → (mu_s s c d N M v i).heap[s.heap.size + 1 + j]? = some (mu_i d M v)
  | 0, _, h => absurd h (Nat.not_lt_zero _)
  | i + 1, j, h => by
    have h0 := (mu_at s c d N M v i).1
    show (((mu_s s c d N M v i).pushCell (mu_i d M v)).setCell s.heap.size _).heap[s.heap.size + 1 + j]? = _
    rw [State.heap_setCell_other (show s.heap.size ≠ s.heap.size + 1 + j by omega)]
    by_cases hj : j < i
    · have h5 : s.heap.size + 1 + j < (mu_s s c d N M v i).heap.size := by rw [h0]; omega
      rw [State.heap_pushCell_of_lt (h := h5)]
      exact mu_row s c d N M v i j hj
    · have e : s.heap.size + 1 + j = (mu_s s c d N M v i).heap.size := by omega
      rw [e]
      exact State.heap_pushCell_size _ _
section MU
variable {E : CtlPost} {e : Env} {d : Bool} {acts : List Action} {s : State}
theorem mu_new {c comp : ClassId} {k : Class} {t : FieldType} {len : Nat} {v : Value} (hk : s.vm.classes[c]? = some k) (hkind : k.kind = .array comp t) (h1 : ¬ len > e.platform.arrayLengthLimit) (h2 : ¬ len * componentBytes t > e.platform.maxHeapBytes) (hf : fits t v = true) (hd : v.isDefault = true) {Q : Addr → Pre} (h3 : s.heap.size < e.platform.maxCells) (h4 : s.slotsUsed + len ≤ e.platform.maxSlots)
    (hq : Q s.heap.size d acts (s.pushCell { cls := c, slots := Array.replicate len v, vm := .none })) : Sem.wp (Jvm.newArray c len v) Q E e d acts s := by
  have g1 : ∀ i x, (Array.replicate len v)[i]? = some x → s.fitsSlot c .none i x = true := by
    intro i x hx
    rw [Array.getElem?_replicate] at hx
    by_cases hi : i < len
    · rw [if_pos hi] at hx
      cases hx
      simp [State.fitsSlot, State.slotType?, hk, hkind, hf]
    · rw [if_neg hi] at hx
      cases hx
  have g2 : allocActs (Array.replicate len v) s.heap.size acts = acts := by
    have g3 : ((Array.replicate len v).all (·.isDefault)) = true := by
      rw [Array.all_replicate]
      split <;> simp [hd]
    unfold allocActs
    rw [if_pos g3]
  simp only [Jvm.newArray, Jvm.arrayFits, wp_bind', W.ask, W.ite, h1, if_false, wp_pure', W.theClass, hk, hkind, h2, W.alloc, W.stop, Option.some.injEq, exists_eq_left', Array.size_replicate, g2]
  rw [if_neg (by omega)]
  exact ⟨h3, h4, g1, hq⟩
theorem mu_rf {t : FieldType} (h : t.isReference = true) (v : Value) (hv : v = .null ∨ ∃ a, v = .ref a) : fits t v = true := by
  rcases hv with rfl | ⟨a, rfl⟩ <;> cases t <;> first | rfl | (simp [FieldType.isReference] at h)
theorem mu_make {c dI cc : ClassId} {k kc : Class} {t0 t : FieldType} {n m : Int32} (hk : s.vm.classes[c]? = some k) (hkind : k.kind = .array dI t0) (href : t0.isReference = true) (hkc : s.vm.classes[dI]? = some kc) (hkindc : kc.kind = .array cc t) (hn : ¬ n < 0) (hm : ¬ m < 0)
    (hl1 : ¬ n.toNatClampNeg > e.platform.arrayLengthLimit) (hh1 : ¬ n.toNatClampNeg * componentBytes t0 > e.platform.maxHeapBytes) (hl2 : ¬ m.toNatClampNeg > e.platform.arrayLengthLimit) (hh2 : ¬ m.toNatClampNeg * componentBytes t > e.platform.maxHeapBytes) (hdf : fits t (defaultValue t) = true) (hdd : (defaultValue t).isDefault = true)
    (hc : s.heap.size + 1 + n.toNatClampNeg ≤ e.platform.maxCells) (hs : s.slotsUsed + n.toNatClampNeg + n.toNatClampNeg * m.toNatClampNeg ≤ e.platform.maxSlots)
    {Q : Addr → Pre} (hq : ∀ d' acts', Q s.heap.size d' acts' (mu_s s c dI n.toNatClampNeg m.toNatClampNeg (defaultValue t) n.toNatClampNeg)) : Sem.wp (multianewarray.make c [n, m]) Q E e d acts s := by
  have hfind : ([m].find? (· < 0)) = none := by simp [hm]
  rw [multianewarray.make]
  simp only [wp_bind', W.ite, hn, if_false, wp_pure', W.theClass, hk, hkind, Option.some.injEq, exists_eq_left']
  have hz := Nat.zero_le (n.toNatClampNeg * m.toNatClampNeg)
  refine mu_new hk hkind hl1 hh1 (mu_rf href _ (Or.inl rfl)) rfl (by omega) (by omega) ?_
  rw [← mu_o0 c n.toNatClampNeg s.heap.size]
  simp only [hfind]
  rw [ite_self, wp_bind', Std.Legacy.Range.forIn_eq_forIn_range']
  have hsz : ([:n.toNatClampNeg] : Std.Legacy.Range).size = n.toNatClampNeg := by simp [Std.Legacy.Range.size]
  rw [hsz]
  show Sem.wp (forIn (List.range' 0 n.toNatClampNeg 1) PUnit.unit _) _ E e d acts _
  refine wp_forIn_inv (fun rest s' => ∃ i, i ≤ n.toNatClampNeg ∧ rest = List.range' i (n.toNatClampNeg - i) ∧ s' = mu_s s c dI n.toNatClampNeg m.toNatClampNeg (defaultValue t) i) _ _ ⟨0, Nat.zero_le _, rfl, rfl⟩ ?_ ?_
  · rintro x rest s' d' acts' Q' ⟨i, hi, hl, rfl⟩ hnext
    have hlt : i < n.toNatClampNeg := Nat.lt_of_not_le fun h => by
      rw [show n.toNatClampNeg - i = 0 by omega] at hl
      simp at hl
    have hsp : x :: rest = i :: List.range' (i + 1) (n.toNatClampNeg - (i + 1)) := by
      rw [hl, show n.toNatClampNeg - i = (n.toNatClampNeg - (i + 1)) + 1 by omega, List.range'_succ]
    obtain ⟨rfl, hrest⟩ := List.cons.inj hsp
    obtain ⟨f1, f2, f3, f4⟩ := mu_at s c dI n.toNatClampNeg m.toNatClampNeg (defaultValue t) x
    have hmul : x * m.toNatClampNeg + m.toNatClampNeg ≤ n.toNatClampNeg * m.toNatClampNeg := by
      have h5 := Nat.mul_le_mul_right m.toNatClampNeg (show x + 1 ≤ n.toNatClampNeg from hlt)
      rw [Nat.succ_mul] at h5
      exact h5
    simp only [wp_bind']
    rw [multianewarray.make]
    simp only [wp_bind', W.ite, hm, if_false, wp_pure', W.theClass, f3, hkc, hkindc, Option.some.injEq, exists_eq_left']
    refine mu_new (by rw [f3]; exact hkc) hkindc hl2 hh2 hdf hdd (by omega) (by omega) ?_
    have h0 : s.heap.size < (mu_s s c dI n.toNatClampNeg m.toNatClampNeg (defaultValue t) x).heap.size := by omega
    simp only [wp_bind', W.writeLoc, wp_pure']
    refine ⟨mu_o c n.toNatClampNeg s.heap.size x, by rw [State.heap_pushCell_of_lt (h := h0)]; exact f2, (fun h => by cases h), by rw [mu_oN]; exact hlt, ?_, hnext _ _ _ ⟨x + 1, hlt, hrest, ?_⟩⟩
    · show State.fitsSlot _ c .none x _ = true
      simp [State.fitsSlot, State.slotType?, f3, hk, hkind, mu_rf href _ (Or.inr ⟨_, rfl⟩)]
    · rw [f1, mu_oS]
      rfl
  · rintro s' d' acts' ⟨i, hi, hl, rfl⟩
    have hiN : i = n.toNatClampNeg := by
      by_cases h5 : i < n.toNatClampNeg
      · rw [show n.toNatClampNeg - i = (n.toNatClampNeg - (i + 1)) + 1 by omega, List.range'_succ] at hl
        cases hl
      · omega
    subst hiN
    simp only [wp_pure']
    exact hq _ _
end MU
section MV
variable {p : Program} {l : Launch} {e : Env} {R : Room} {s : State} {m : MethodId} {args : Array Value} {below : List Frame} {meth : Method} {c : Code} {T : State} {locs : List Loc} {cells slots : Nat}
theorem mu_stand (X : Stand p l e R s m args below meth c T locs cells slots) (cA dI : ClassId) (N M : Nat) (v : Value) : ∀ i, Stand p l e R s m args below meth c (mu_s T cA dI N M v i) (locs ++ (List.range i).map fun j => ⟨T.heap.size, j⟩) (cells + 1 + i) (slots + N + i * M)
  | 0 => by
    have h := X.pushed (mu_o cA N T.heap.size 0)
    rw [mu_oN] at h
    simpa [mu_s] using h
  | i + 1 => by
    have Xi := mu_stand X cA dI N M v i
    obtain ⟨f1, f2, f3, f4⟩ := mu_at T cA dI N M v i
    have h0 : T.heap.size < (mu_s T cA dI N M v i).heap.size := by omega
    have hcell : ((mu_s T cA dI N M v i).pushCell (mu_i dI M v)).heap[T.heap.size]? = some (mu_o cA N T.heap.size i) := by
      rw [State.heap_pushCell_of_lt (h := h0)]
      exact f2
    have h := (Xi.pushed (mu_i dI M v)).stored hcell i (.ref (T.heap.size + 1 + i))
    rw [mu_oS] at h
    have e1 : (mu_i dI M v).slots.size = M := by simp [mu_i]
    rw [e1] at h
    have e2 : (locs ++ (List.range (i + 1)).map fun j => (⟨T.heap.size, j⟩ : Loc)) = (locs ++ (List.range i).map fun j => (⟨T.heap.size, j⟩ : Loc)) ++ [⟨T.heap.size, i⟩] := by simp [List.range_succ, List.append_assoc]
    have e3 : slots + N + (i + 1) * M = slots + N + i * M + M := by rw [Nat.succ_mul]; omega
    rw [e2, e3]
    exact h
variable {H : Heap} {Q : State → Prop}
theorem mu_W {cc : ByteArray} (hexec : p.tables.exec = Jvm.exec) (hb : c.code = cc) {own : String} {index : Nat} {cA dI : ClassId} {kA kC : Class} {cC : ClassId} {N M : Nat} (hown : s.vm.findClass own = some m.cls) (hclink : (Cond.classLink own index "[[I").before args s = true) (hfA : s.vm.findClass "[[I" = some cA) (hkA : s.vm.classes[cA]? = some kA) (hkindA : kA.kind = .array dI (.array .int)) (hkC : s.vm.classes[dI]? = some kC) (hkindC : kC.kind = .array cC .int)
    {pc : Nat} {ls : Array Slot} (hdg : decode cc pc = .ok (.multianewarray index 2, 4)) {n k : Int32} {rest : List Value} (hn : ¬ n < 0) (hk : ¬ k < 0) (hN : n.toNatClampNeg = N) (hM : k.toNatClampNeg = M) (hb1 : N ≤ 1000) (hb2 : M ≤ 1000) (hcells : cells + (1 + N) ≤ R.cells) (hslots : slots + (N + N * M) ≤ R.slots)
    (kk : ∀ (H1 : Heap) (L : List Loc), (∀ q ∈ L, q.base = H.size) → H1.size = H.size + 1 + N → (∀ q, q < H.size → H1[q]? = H[q]?) → H1[H.size]? = some (mu_o cA N H.size N) → (∀ j, j < N → H1[H.size + 1 + j]? = some (mu_i dI M (.int 0))) →
      W p l e R s m args below meth c H1 (locs ++ L) (cells + 1 + N) (slots + N + N * M) Q (F0 m (pc + 4) ls (.ref H.size :: rest))) : W p l e R s m args below meth c H locs cells slots Q (F0 m pc ls (.int k :: .int n :: rest)) := by
  intro T hT X
  subst hT; subst hb; subst hN; subst hM
  have hpl : e.platform.magicAccessors = ({} : Platform).magicAccessors := by rw [X.admits.platform]
  obtain ⟨c0, hfc0, hcl⟩ := Cond.classLink_spec hown hclink e.platform hpl
  cases hfA.symm.trans hfc0
  obtain ⟨hg₁, hwarm₁, hready₁⟩ := State.classEntry (e := e) X.warmed hcl
  generalize T.vm.noted m.cls index (.cls cA) = vm₁ at hg₁ hwarm₁ hready₁
  have hal : s.vm.Alike vm₁ := hwarm₁.alike
  obtain ⟨kA₁, hkA₁, heA⟩ := hal.2.2 _ _ hkA
  obtain ⟨kC₁, hkC₁, heC⟩ := hal.2.2 _ _ hkC
  have hkindA₁ : kA₁.kind = .array dI (.array .int) := by rw [heA]; exact hkindA
  have hkindC₁ : kC₁.kind = .array cC .int := by rw [heC]; exact hkindC
  have X₁ := X.noted hwarm₁
  obtain ⟨hr1, hr2⟩ := X.roomAbove hcells hslots
  have XF := mu_stand X₁ cA dI n.toNatClampNeg k.toNatClampNeg (defaultValue .int) n.toNatClampNeg
  obtain ⟨f1, f2, f3, f4⟩ := mu_at (T.setVm vm₁) cA dI n.toNatClampNeg k.toNatClampNeg (defaultValue .int) n.toNatClampNeg
  obtain ⟨t', a1, b1⟩ := kk _ _ (fun q hq => by obtain ⟨j, -, rfl⟩ := List.mem_map.mp hq; rfl) f1 (fun q hq => mu_old (T.setVm vm₁) cA dI _ _ _ hq _) f2 (fun j hj => mu_row (T.setVm vm₁) cA dI _ _ _ _ j hj) _ rfl XF
  refine ⟨t', ?_, b1⟩
  have hl1 : ¬ n.toNatClampNeg > e.platform.arrayLengthLimit := by rw [Launch.admits_arrayLengthLimit X.admits]; omega
  have hh1 : ¬ n.toNatClampNeg * componentBytes (.array .int) > e.platform.maxHeapBytes := by
    rw [Launch.admits_maxHeapBytes X.admits]
    show ¬ n.toNatClampNeg * 4 > 536870912
    omega
  have hl2 : ¬ k.toNatClampNeg > e.platform.arrayLengthLimit := by rw [Launch.admits_arrayLengthLimit X.admits]; omega
  have hh2 : ¬ k.toNatClampNeg * componentBytes .int > e.platform.maxHeapBytes := by
    rw [Launch.admits_maxHeapBytes X.admits]
    show ¬ k.toNatClampNeg * 4 > 536870912
    omega
  jvm_step X.here [hexec, hdg]
  simp only [multianewarray.sem, wp_bind', W.resolveClassAt_links (State.method?_setTop (F0 m pc ls (.int k :: .int n :: rest)) X.here.top) hg₁]
  rw [W.popN, if_neg (by decide)]
  refine ⟨F0 m pc ls (.int k :: .int n :: rest), State.topJava?_setTop' (s := T.setVm vm₁) _ X.here.top, [.int n, .int k], rest, rfl, rfl, ?_⟩
  simp only [List.mapM_cons, List.mapM_nil, wp_bind', wp_pure']
  refine mu_make (k := kA₁) (kc := kC₁) (dI := dI) (cc := cC) (t0 := .array .int) (t := .int) hkA₁ hkindA₁ rfl hkC₁ hkindC₁ hn hk hl1 hh1 hl2 hh2 rfl rfl (by show T.heap.size + 1 + _ ≤ _; omega) (by show T.slotsUsed + _ + _ ≤ _; omega) (fun d' acts' => ?_)
  have eS : ((T.setTop (F0 m pc ls (.int k :: .int n :: rest))).setVm vm₁).setTop (F0 m pc ls rest) = (T.setVm vm₁).setTop (F0 m pc ls rest) := by
    show ((T.setVm vm₁).setTop _).setTop _ = _
    rw [State.setTop_setTop]
  have eT : ({ F0 m pc ls (.int k :: .int n :: rest) with stack := rest } : JFrame) = F0 m pc ls rest := rfl
  rw [eT, eS, mu_top]
  simp only [wp_bind', W.mark, W.pushRef, State.topJava?_setTop' _ XF.here.top, Option.some.injEq, exists_eq_left', State.setTop_setTop, State.heap_setTop]
  intro acts
  simp [jvm, XF.here.top]
  exact a1
end MV
end
section
/-! the mirror: a grid -/
theorem rl_c.app {b : Nat} {as bs : List Nat} {ty : mx_T} {h cs : mx_H} {ws vs : va_W} (hc : rl_c b as ty h ws) (h1 : vs.map (·.1) = bs) (h2 : bs.length = cs.length) (h3 : ∀ (i : Nat) (c : va_E), cs[i]? = some c → ∃ a c', vs[i]? = some (a, c') ∧ rl_e b (as ++ bs) ty c c') : rl_c b (as ++ bs) ty (h ++ cs) (ws ++ vs) := by
  obtain ⟨g1, g2, g3⟩ := hc
  have hl : ws.length = h.length := by rw [← g2, ← g1, List.length_map]
  refine ⟨by rw [List.map_append, g1, h1], by rw [List.length_append, List.length_append, g2, h2], fun j x hx => ?_⟩
  by_cases hj : j < h.length
  · rw [List.getElem?_append_left hj] at hx
    obtain ⟨a1, c1, h4, h5⟩ := g3 j x hx
    exact ⟨a1, c1, by rw [List.getElem?_append_left (by omega)]; exact h4, h5.up (List.prefix_append _ _)⟩
  · rw [List.getElem?_append_right (by omega)] at hx
    obtain ⟨a1, c1, h4, h5⟩ := h3 _ x hx
    exact ⟨a1, c1, by rw [List.getElem?_append_right (by omega), hl]; exact h4, h5⟩
def mu_v (q0 : Nat) (cA dI : ClassId) (N M : Nat) : va_W := (q0, .inl (cA, N, .inr (.inr (.inr (.inr (fun j => if j < N then some (q0 + 1 + j) else none)))))) :: (List.range N).map (fun j => (q0 + 1 + j, .inl (dI, M, .inl (fun _ => 0))))
theorem mu_vat {q0 : Nat} {cA dI : ClassId} {N M : Nat} (k : Nat) (q : Nat × va_E) (h : (mu_v q0 cA dI N M)[k]? = some q) : (k = 0 ∧ q = (q0, .inl (cA, N, .inr (.inr (.inr (.inr (fun j => if j < N then some (q0 + 1 + j) else none))))))) ∨ ∃ j, j < N ∧ k = j + 1 ∧ q = (q0 + 1 + j, .inl (dI, M, .inl (fun _ => 0))) := by
  cases k with
  | zero =>
    unfold mu_v at h
    rw [List.getElem?_cons_zero] at h
    exact Or.inl ⟨rfl, (Option.some.inj h).symm⟩
  | succ j =>
    unfold mu_v at h
    rw [List.getElem?_cons_succ, List.getElem?_map] at h
    cases hj : (List.range N)[j]? with
    | none => rw [hj] at h; cases h
    | some x =>
      rw [hj] at h
      obtain ⟨h1, h2⟩ := List.getElem?_eq_some_iff.mp hj
      rw [List.getElem_range] at h2
      subst h2
      rw [List.length_range] at h1
      exact Or.inr ⟨j, h1, rfl, (Option.some.inj h).symm⟩
def mu_c (q N M : Nat) : mx_H := .inl (3, N, .inr (.inr (.inr (.inr (fun j => if j < N then some (q + 1 + j) else none))))) :: List.replicate N (.inl (0, M, .inl (fun _ => 0)))
section MG
variable {l : Launch} {Y : mx_Y} {sc : mx_S} {k n : Nat} {pc : Nat} {L st : List Value} {h : mx_H} {Q : Option Value → mx_H → Prop}
theorem wp_multi {idx N M : Nat} {i j : Int32} (hi : decode Y.2.1 pc = .ok (.multianewarray idx 2, 4)) (hcl : Cond.classLink Y.1.cls idx "[[I" ∈ WS) (hi0 : ¬ i < 0) (hj0 : ¬ j < 0) (hN : i.toNatClampNeg = N) (hM : j.toNatClampNeg = M) (hb1 : N ≤ 1000) (hb2 : M ≤ 1000) (hk1 : 1 + N ≤ k) (hn1 : N + N * M ≤ n)
    (kk : wp_m l Y sc (k - (1 + N)) (n - (N + N * M)) (pc + 4) L (.ref h.length :: st) (h ++ mu_c h.length N M) Q) : wp_m l Y sc k n pc L (.int j :: .int i :: st) h Q := by
  intro D ty A H0 b as0 mcT msT p e R s m args below meth c Z hC hR as H locs ls st' cells slots hw hpre hl hs hk hn
  obtain ⟨_, _, rfl, rfl, _, _, rfl, rfl, hs⟩ := hs
  obtain ⟨ws, hrc, hP, hD, hS⟩ := id hw
  have hts := hC.2.2.2.2.2.2.2.1
  have hK := hC.2.2.2.2.2.2.2.2.1.1
  obtain ⟨-, qI, qG, kA, x1, x2, x3, x4⟩ := hC.2.2.2.2.2.2.2.2.1.2
  have hty := hC.2.2.2.2.2.2.2.2.2.1
  have hmc := hC.2.2.2.2.2.2.2.2.2.2.2.2.1
  have hms := hC.2.2.2.2.2.2.2.2.2.2.2.2.2.1
  have hA := hC.2.2.2.2.2.2.2.2.2.2.2.2.2.2.1
  obtain ⟨cI, fI⟩ := qI
  obtain ⟨cG, fG⟩ := qG
  have eI : fI = .int := rl_ty hty x1 rfl
  have eG : fG = .array .int := rl_ty hty x2 rfl
  subst eI; subst eG
  obtain ⟨-, kC, hkC, cC, hkindC⟩ := (hK.2 0 _ x1).1 0 (fun _ => .null)
  have hfA : s.vm.findClass "[[I" = some cG := (hK.2 3 _ x2).2
  refine mu_W hC.1 hC.2.1 hC.2.2.2.2.1 (hts _ hcl) hfA x3 x4 hkC hkindC hi hi0 hj0 hN hM hb1 hb2 (by omega) (by omega) fun H1 Lc hLc z1 o1 e1 r1 => ?_
  have hp : as <+: as ++ (H.size :: (List.range N).map (fun j => H.size + 1 + j)) := List.prefix_append _ _
  have hin : ∀ (k : Nat) (q : Nat × va_E), (mu_v H.size cG cI N M)[k]? = some q → H.size ≤ q.1 := fun k q hq => by
    rcases mu_vat k q hq with ⟨-, rfl⟩ | ⟨j, -, -, rfl⟩
    · exact Nat.le_refl _
    · show H.size ≤ H.size + 1 + j
      omega
  have hold : ∀ (k : Nat) (x : Nat × va_E), ws[k]? = some x → H1[x.1]? = H[x.1]? := fun k x hx => o1 x.1 ((hP k x hx).lt)
  have hP1 : va_P D classes (ws ++ mu_v H.size cG cI N M) H1 := (hP.kept hold).app (fun k q hq => by
    rcases mu_vat k q hq with ⟨-, rfl⟩ | ⟨j, hj, -, rfl⟩
    · show H1[H.size]? = some (vp_cell _ _)
      rw [e1, vp_cell_q]
      unfold mu_o
      congr 2
      funext x
      by_cases hx : x < N
      · simp [hx, va_rf]
      · simp [hx, va_rf]
    · show H1[H.size + 1 + j]? = some (vp_cell _ _)
      rw [r1 j hj, vp_cell_i]
      exact congrArg some (arrV_new cI M (.int 0)))
  have hD2 : va_D A (mu_v H.size cG cI N M) := ⟨fun i j x y hx hy hxy => by
    rcases mu_vat i x hx with ⟨rfl, rfl⟩ | ⟨i', hi', rfl, rfl⟩ <;> rcases mu_vat j y hy with ⟨rfl, rfl⟩ | ⟨j', hj', rfl, rfl⟩
    · rfl
    · have hxy' : H.size = H.size + 1 + j' := hxy
      omega
    · have hxy' : H.size + 1 + i' = H.size := hxy
      omega
    · have hxy' : H.size + 1 + i' = H.size + 1 + j' := hxy
      omega, fun k q hq => hA _ (Nat.le_trans hS.1 (hin k q hq))⟩
  have hD1 : va_D A (ws ++ mu_v H.size cG cI N M) := va_D.app hD hD2 (fun i j x y hx hy hxy => by
    have h1 := (hP i x hx).lt
    have h2 := hin j y hy
    omega)
  have hS1 : va_S A H0 H1 (locs ++ Lc) := ⟨Nat.le_trans hS.1 (by omega), fun x h1 h2 => (o1 x (Nat.lt_of_lt_of_le h1 hS.1)).trans (hS.2.1 x h1 h2), fun q hq => by
    rcases List.mem_append.mp hq with h | h
    · exact hS.2.2 q h
    · rw [hLc q h]
      exact hA _ hS.1⟩
  have hrc1 : rl_c b (as ++ (H.size :: (List.range N).map (fun j => H.size + 1 + j))) ty (h ++ mu_c h.length N M) (ws ++ mu_v H.size cG cI N M) := by
    refine hrc.app ?_ (by simp [mu_c]) fun i c hc => ?_
    · unfold mu_v
      simp [List.map_map, Function.comp_def]
    · cases i with
      | zero =>
        unfold mu_c at hc
        rw [List.getElem?_cons_zero] at hc
        cases hc
        refine ⟨_, _, rfl, (cG, .array .int), _, x2, rfl, fun x => ?_⟩
        by_cases hx : x < N
        · show rl_r _ (if x < N then some (h.length + 1 + x) else none) (if x < N then some (H.size + 1 + x) else none)
          rw [if_pos hx, if_pos hx]
          refine ⟨_, ?_, rfl⟩
          rw [List.getElem?_append_right (by rw [hrc.2.1]; omega), hrc.2.1, show h.length + 1 + x - h.length = x + 1 by omega, List.getElem?_cons_succ, List.getElem?_map, List.getElem?_range hx]
          rfl
        · show rl_r _ (if x < N then some (h.length + 1 + x) else none) (if x < N then some (H.size + 1 + x) else none)
          rw [if_neg hx, if_neg hx]
          rfl
      | succ i =>
        unfold mu_c at hc
        rw [List.getElem?_cons_succ, List.getElem?_replicate] at hc
        by_cases hx : i < N
        · rw [if_pos hx] at hc
          cases hc
          refine ⟨H.size + 1 + i, _, ?_, (cI, .int), x1, rfl⟩
          unfold mu_v
          rw [List.getElem?_cons_succ, List.getElem?_map, List.getElem?_range hx]
          rfl
        · rw [if_neg hx] at hc
          cases hc
  exact kk D ty A H0 b as0 mcT msT p e R s m args below meth c Z hC hR _ H1 _ ls _ _ _ ⟨_, hrc1, hP1, hD1, hS1⟩ (hpre.trans hp) (hl.up hp) ⟨_, _, rfl, ⟨H.size, by rw [← hrc.2.1]; simp, rfl⟩, hs.up hp⟩ (by omega) (by omega)
end MG
end
section
theorem lm_M_1 : Cond.methodLink "MovieBoxes" 1 objectInit ∈ WS := ws_1 (List.mem_of_getElem? (i := 15) rfl) rfl
theorem lk_M_7 : Cond.classLink "MovieBoxes" 7 "MovieBoxes$Bytes" ∈ WS := ws_1 (List.mem_of_getElem? (i := 18) rfl) rfl
theorem lm_M_9 : mx_L "MovieBoxes" 9 Y_B_init 0 := ⟨ws_1 (List.mem_of_getElem? (i := 20) rfl) rfl, ws_1 (List.mem_of_getElem? (i := 2) rfl) rfl, ws_1 (List.mem_of_getElem? (i := 22) rfl) rfl, ⟨by decide +kernel, by decide +kernel, by decide +kernel⟩, by decide⟩
theorem ls_B_init : Cond.instanceMethod Y_B_init.1 ∈ WS ∧ Y_B_init.1.name = "<init>" ∧ Y_B_init.2.2.2.1 = none := ⟨ws_1 (List.mem_of_getElem? (i := 21) rfl) rfl, rfl, rfl⟩
theorem lf_M_10 : mx_F "MovieBoxes" 10 0 0 true (.object "MovieBoxes$Bytes") := ⟨"MovieBoxes", fd_M, 7, ft_M, rfl, by decide, fi_M, fo_M, fn_M, ws_1 (List.mem_of_getElem? (i := 170) rfl) rfl, rfl, by decide +kernel, rfl⟩
theorem lk_M_16 : Cond.classLink "MovieBoxes" 16 "MovieBoxes$Layout" ∈ WS := ws_1 (List.mem_of_getElem? (i := 32) rfl) rfl
theorem lm_M_18 : mx_L "MovieBoxes" 18 Y_L_init 1 := ⟨ws_1 (List.mem_of_getElem? (i := 34) rfl) rfl, ws_1 (List.mem_of_getElem? (i := 3) rfl) rfl, ws_1 (List.mem_of_getElem? (i := 36) rfl) rfl, ⟨by decide +kernel, by decide +kernel, by decide +kernel⟩, by decide⟩
theorem ls_L_init : Cond.instanceMethod Y_L_init.1 ∈ WS ∧ Y_L_init.1.name = "<init>" ∧ Y_L_init.2.2.2.1 = none := ⟨ws_1 (List.mem_of_getElem? (i := 35) rfl) rfl, rfl, rfl⟩
theorem lf_M_21 : mx_F "MovieBoxes" 21 0 1 true (.object "MovieBoxes$Layout") := ⟨"MovieBoxes", fd_M, 7, ft_M, rfl, by decide, fi_M, fo_M, fn_M, ws_1 (List.mem_of_getElem? (i := 171) rfl) rfl, rfl, by decide +kernel, rfl⟩
theorem lk_M_25 : Cond.classLink "MovieBoxes" 25 "MovieBoxes$Track" ∈ WS := ws_1 (List.mem_of_getElem? (i := 50) rfl) rfl
theorem lf_M_27 : mx_F "MovieBoxes" 27 0 2 true (.array (.object "MovieBoxes$Track")) := ⟨"MovieBoxes", fd_M, 7, ft_M, rfl, by decide, fi_M, fo_M, fn_M, ws_1 (List.mem_of_getElem? (i := 172) rfl) rfl, rfl, by decide +kernel, rfl⟩
theorem lm_M_31 : mx_L "MovieBoxes" 31 Y_K_init 2 := ⟨ws_1 (List.mem_of_getElem? (i := 53) rfl) rfl, ws_1 (List.mem_of_getElem? (i := 4) rfl) rfl, ws_1 (List.mem_of_getElem? (i := 55) rfl) rfl, ⟨by decide +kernel, by decide +kernel, by decide +kernel⟩, by decide⟩
theorem ls_K_init : Cond.instanceMethod Y_K_init.1 ∈ WS ∧ Y_K_init.1.name = "<init>" ∧ Y_K_init.2.2.2.1 = none := ⟨ws_1 (List.mem_of_getElem? (i := 54) rfl) rfl, rfl, rfl⟩
theorem lk_M_34 : Cond.classLink "MovieBoxes" 34 "MovieBoxes$Mover" ∈ WS := ws_1 (List.mem_of_getElem? (i := 136) rfl) rfl
theorem lm_M_36 : mx_L "MovieBoxes" 36 Y_V_init 2 := ⟨ws_1 (List.mem_of_getElem? (i := 138) rfl) rfl, ws_1 (List.mem_of_getElem? (i := 7) rfl) rfl, ws_1 (List.mem_of_getElem? (i := 140) rfl) rfl, ⟨by decide +kernel, by decide +kernel, by decide +kernel⟩, by decide⟩
theorem ls_V_init : Cond.instanceMethod Y_V_init.1 ∈ WS ∧ Y_V_init.1.name = "<init>" ∧ Y_V_init.2.2.2.1 = none := ⟨ws_1 (List.mem_of_getElem? (i := 139) rfl) rfl, rfl, rfl⟩
theorem lf_M_37 : mx_F "MovieBoxes" 37 0 3 true (.object "MovieBoxes$Mover") := ⟨"MovieBoxes", fd_M, 7, ft_M, rfl, by decide, fi_M, fo_M, fn_M, ws_1 (List.mem_of_getElem? (i := 173) rfl) rfl, rfl, by decide +kernel, rfl⟩
theorem lf_M_41 : mx_F "MovieBoxes" 41 0 4 false (.int) := ⟨"MovieBoxes", fd_M, 7, ft_M, rfl, by decide, fi_M, fo_M, fn_M, ws_1 (List.mem_of_getElem? (i := 174) rfl) rfl, rfl, by decide +kernel, rfl⟩
theorem lf_M_45 : mx_F "MovieBoxes" 45 0 5 false (.int) := ⟨"MovieBoxes", fd_M, 7, ft_M, rfl, by decide, fi_M, fo_M, fn_M, ws_1 (List.mem_of_getElem? (i := 175) rfl) rfl, rfl, by decide +kernel, rfl⟩
theorem lf_M_48 : mx_F "MovieBoxes" 48 0 6 false (.boolean) := ⟨"MovieBoxes", fd_M, 7, ft_M, rfl, by decide, fi_M, fo_M, fn_M, ws_1 (List.mem_of_getElem? (i := 176) rfl) rfl, rfl, by decide +kernel, rfl⟩
theorem lm_B_3 : Cond.methodLink "MovieBoxes$Bytes" 3 objectInit ∈ WS := ws_1 (List.mem_of_getElem? (i := 23) rfl) rfl
theorem lf_B_9 : mx_F "MovieBoxes$Bytes" 9 1 0 true (.array .int) := ⟨"MovieBoxes$Bytes", fd_B, 2, ft_B, rfl, by decide, fi_B, fo_B, fn_B, ws_1 (List.mem_of_getElem? (i := 24) rfl) rfl, rfl, by decide +kernel, rfl⟩
theorem lf_B_15 : mx_F "MovieBoxes$Bytes" 15 1 1 false (.int) := ⟨"MovieBoxes$Bytes", fd_B, 2, ft_B, rfl, by decide, fi_B, fo_B, fn_B, ws_1 (List.mem_of_getElem? (i := 25) rfl) rfl, rfl, by decide +kernel, rfl⟩
theorem lm_L_3 : Cond.methodLink "MovieBoxes$Layout" 3 objectInit ∈ WS := ws_1 (List.mem_of_getElem? (i := 37) rfl) rfl
theorem lf_L_9 : mx_F "MovieBoxes$Layout" 9 2 0 true (.object "MovieBoxes$Bytes") := ⟨"MovieBoxes$Layout", fd_L, 3, ft_L, rfl, by decide, fi_L, fo_L, fn_L, ws_1 (List.mem_of_getElem? (i := 40) rfl) rfl, rfl, by decide +kernel, rfl⟩
theorem lk_L_15 : Cond.classLink "MovieBoxes$Layout" 15 "[[I" ∈ WS := ws_1 (List.mem_of_getElem? (i := 38) rfl) rfl
theorem lf_L_17 : mx_F "MovieBoxes$Layout" 17 2 1 true (.array (.array .int)) := ⟨"MovieBoxes$Layout", fd_L, 3, ft_L, rfl, by decide, fi_L, fo_L, fn_L, ws_1 (List.mem_of_getElem? (i := 41) rfl) rfl, rfl, by decide +kernel, rfl⟩
theorem lf_L_20 : mx_F "MovieBoxes$Layout" 20 2 2 false (.int) := ⟨"MovieBoxes$Layout", fd_L, 3, ft_L, rfl, by decide, fi_L, fo_L, fn_L, ws_1 (List.mem_of_getElem? (i := 42) rfl) rfl, rfl, by decide +kernel, rfl⟩
theorem lm_K_3 : Cond.methodLink "MovieBoxes$Track" 3 objectInit ∈ WS := ws_1 (List.mem_of_getElem? (i := 56) rfl) rfl
theorem lf_K_9 : mx_F "MovieBoxes$Track" 9 5 0 true (.object "MovieBoxes$Layout") := ⟨"MovieBoxes$Track", fd_K, 10, ft_K, rfl, by decide, fi_K, fo_K, fn_K, ws_1 (List.mem_of_getElem? (i := 105) rfl) rfl, rfl, by decide +kernel, rfl⟩
theorem lk_K_15 : Cond.classLink "MovieBoxes$Track" 15 "MovieBoxes$Table" ∈ WS := ws_1 (List.mem_of_getElem? (i := 57) rfl) rfl
theorem lm_K_17 : mx_L "MovieBoxes$Track" 17 Y_T_init 1 := ⟨ws_1 (List.mem_of_getElem? (i := 59) rfl) rfl, ws_1 (List.mem_of_getElem? (i := 5) rfl) rfl, ws_1 (List.mem_of_getElem? (i := 61) rfl) rfl, ⟨by decide +kernel, by decide +kernel, by decide +kernel⟩, by decide⟩
theorem ls_T_init : Cond.instanceMethod Y_T_init.1 ∈ WS ∧ Y_T_init.1.name = "<init>" ∧ Y_T_init.2.2.2.1 = none := ⟨ws_1 (List.mem_of_getElem? (i := 60) rfl) rfl, rfl, rfl⟩
theorem lf_K_20 : mx_F "MovieBoxes$Track" 20 5 1 true (.object "MovieBoxes$Table") := ⟨"MovieBoxes$Track", fd_K, 10, ft_K, rfl, by decide, fi_K, fo_K, fn_K, ws_1 (List.mem_of_getElem? (i := 106) rfl) rfl, rfl, by decide +kernel, rfl⟩
theorem lf_K_24 : mx_F "MovieBoxes$Track" 24 5 2 true (.object "MovieBoxes$Table") := ⟨"MovieBoxes$Track", fd_K, 10, ft_K, rfl, by decide, fi_K, fo_K, fn_K, ws_1 (List.mem_of_getElem? (i := 107) rfl) rfl, rfl, by decide +kernel, rfl⟩
theorem lf_K_27 : mx_F "MovieBoxes$Track" 27 5 3 true (.object "MovieBoxes$Table") := ⟨"MovieBoxes$Track", fd_K, 10, ft_K, rfl, by decide, fi_K, fo_K, fn_K, ws_1 (List.mem_of_getElem? (i := 108) rfl) rfl, rfl, by decide +kernel, rfl⟩
theorem lf_K_30 : mx_F "MovieBoxes$Track" 30 5 4 true (.object "MovieBoxes$Table") := ⟨"MovieBoxes$Track", fd_K, 10, ft_K, rfl, by decide, fi_K, fo_K, fn_K, ws_1 (List.mem_of_getElem? (i := 109) rfl) rfl, rfl, by decide +kernel, rfl⟩
theorem lf_K_33 : mx_F "MovieBoxes$Track" 33 5 5 true (.object "MovieBoxes$Table") := ⟨"MovieBoxes$Track", fd_K, 10, ft_K, rfl, by decide, fi_K, fo_K, fn_K, ws_1 (List.mem_of_getElem? (i := 110) rfl) rfl, rfl, by decide +kernel, rfl⟩
theorem lf_K_36 : mx_F "MovieBoxes$Track" 36 5 6 true (.object "MovieBoxes$Table") := ⟨"MovieBoxes$Track", fd_K, 10, ft_K, rfl, by decide, fi_K, fo_K, fn_K, ws_1 (List.mem_of_getElem? (i := 111) rfl) rfl, rfl, by decide +kernel, rfl⟩
theorem lk_K_39 : Cond.classLink "MovieBoxes$Track" 39 "MovieBoxes$SizeTable" ∈ WS := ws_1 (List.mem_of_getElem? (i := 82) rfl) rfl
theorem lm_K_41 : mx_L "MovieBoxes$Track" 41 Y_Z_init 1 := ⟨ws_1 (List.mem_of_getElem? (i := 84) rfl) rfl, ws_1 (List.mem_of_getElem? (i := 6) rfl) rfl, ws_1 (List.mem_of_getElem? (i := 86) rfl) rfl, ⟨by decide +kernel, by decide +kernel, by decide +kernel⟩, by decide⟩
theorem ls_Z_init : Cond.instanceMethod Y_Z_init.1 ∈ WS ∧ Y_Z_init.1.name = "<init>" ∧ Y_Z_init.2.2.2.1 = none := ⟨ws_1 (List.mem_of_getElem? (i := 85) rfl) rfl, rfl, rfl⟩
theorem lf_K_42 : mx_F "MovieBoxes$Track" 42 5 7 true (.object "MovieBoxes$SizeTable") := ⟨"MovieBoxes$Track", fd_K, 10, ft_K, rfl, by decide, fi_K, fo_K, fn_K, ws_1 (List.mem_of_getElem? (i := 112) rfl) rfl, rfl, by decide +kernel, rfl⟩
theorem lk_K_46 : Cond.classLink "MovieBoxes$Track" 46 "[[I" ∈ WS := ws_1 (List.mem_of_getElem? (i := 104) rfl) rfl
theorem lf_K_48 : mx_F "MovieBoxes$Track" 48 5 8 true (.array (.array .int)) := ⟨"MovieBoxes$Track", fd_K, 10, ft_K, rfl, by decide, fi_K, fo_K, fn_K, ws_1 (List.mem_of_getElem? (i := 113) rfl) rfl, rfl, by decide +kernel, rfl⟩
theorem lf_K_51 : mx_F "MovieBoxes$Track" 51 5 9 false (.int) := ⟨"MovieBoxes$Track", fd_K, 10, ft_K, rfl, by decide, fi_K, fo_K, fn_K, ws_1 (List.mem_of_getElem? (i := 114) rfl) rfl, rfl, by decide +kernel, rfl⟩
theorem lm_T_1 : Cond.methodLink "MovieBoxes$Table" 1 objectInit ∈ WS := ws_1 (List.mem_of_getElem? (i := 62) rfl) rfl
theorem lf_T_7 : mx_F "MovieBoxes$Table" 7 3 0 true (.object "MovieBoxes$Bytes") := ⟨"MovieBoxes$Table", fd_T, 6, ft_T, rfl, by decide, fi_T, fo_T, fn_T, ws_1 (List.mem_of_getElem? (i := 63) rfl) rfl, rfl, by decide +kernel, rfl⟩
theorem lf_T_13 : mx_F "MovieBoxes$Table" 13 3 1 false (.boolean) := ⟨"MovieBoxes$Table", fd_T, 6, ft_T, rfl, by decide, fi_T, fo_T, fn_T, ws_1 (List.mem_of_getElem? (i := 64) rfl) rfl, rfl, by decide +kernel, rfl⟩
theorem lf_T_17 : mx_F "MovieBoxes$Table" 17 3 2 false (.int) := ⟨"MovieBoxes$Table", fd_T, 6, ft_T, rfl, by decide, fi_T, fo_T, fn_T, ws_1 (List.mem_of_getElem? (i := 65) rfl) rfl, rfl, by decide +kernel, rfl⟩
theorem lf_T_21 : mx_F "MovieBoxes$Table" 21 3 3 false (.int) := ⟨"MovieBoxes$Table", fd_T, 6, ft_T, rfl, by decide, fi_T, fo_T, fn_T, ws_1 (List.mem_of_getElem? (i := 66) rfl) rfl, rfl, by decide +kernel, rfl⟩
theorem lf_T_24 : mx_F "MovieBoxes$Table" 24 3 4 false (.int) := ⟨"MovieBoxes$Table", fd_T, 6, ft_T, rfl, by decide, fi_T, fo_T, fn_T, ws_1 (List.mem_of_getElem? (i := 67) rfl) rfl, rfl, by decide +kernel, rfl⟩
theorem lf_T_27 : mx_F "MovieBoxes$Table" 27 3 5 false (.int) := ⟨"MovieBoxes$Table", fd_T, 6, ft_T, rfl, by decide, fi_T, fo_T, fn_T, ws_1 (List.mem_of_getElem? (i := 68) rfl) rfl, rfl, by decide +kernel, rfl⟩
theorem lm_Z_1 : Cond.methodLink "MovieBoxes$SizeTable" 1 objectInit ∈ WS := ws_1 (List.mem_of_getElem? (i := 87) rfl) rfl
theorem lf_Z_7 : mx_F "MovieBoxes$SizeTable" 7 4 0 true (.object "MovieBoxes$Bytes") := ⟨"MovieBoxes$SizeTable", fd_Z, 5, ft_Z, rfl, by decide, fi_Z, fo_Z, fn_Z, ws_1 (List.mem_of_getElem? (i := 88) rfl) rfl, rfl, by decide +kernel, rfl⟩
theorem lf_Z_13 : mx_F "MovieBoxes$SizeTable" 13 4 1 false (.int) := ⟨"MovieBoxes$SizeTable", fd_Z, 5, ft_Z, rfl, by decide, fi_Z, fo_Z, fn_Z, ws_1 (List.mem_of_getElem? (i := 89) rfl) rfl, rfl, by decide +kernel, rfl⟩
theorem lf_Z_17 : mx_F "MovieBoxes$SizeTable" 17 4 2 false (.int) := ⟨"MovieBoxes$SizeTable", fd_Z, 5, ft_Z, rfl, by decide, fi_Z, fo_Z, fn_Z, ws_1 (List.mem_of_getElem? (i := 90) rfl) rfl, rfl, by decide +kernel, rfl⟩
theorem lf_Z_20 : mx_F "MovieBoxes$SizeTable" 20 4 3 false (.int) := ⟨"MovieBoxes$SizeTable", fd_Z, 5, ft_Z, rfl, by decide, fi_Z, fo_Z, fn_Z, ws_1 (List.mem_of_getElem? (i := 91) rfl) rfl, rfl, by decide +kernel, rfl⟩
theorem lf_Z_23 : mx_F "MovieBoxes$SizeTable" 23 4 4 false (.int) := ⟨"MovieBoxes$SizeTable", fd_Z, 5, ft_Z, rfl, by decide, fi_Z, fo_Z, fn_Z, ws_1 (List.mem_of_getElem? (i := 92) rfl) rfl, rfl, by decide +kernel, rfl⟩
theorem lm_V_3 : Cond.methodLink "MovieBoxes$Mover" 3 objectInit ∈ WS := ws_1 (List.mem_of_getElem? (i := 141) rfl) rfl
theorem lf_V_9 : mx_F "MovieBoxes$Mover" 9 6 0 true (.object "MovieBoxes$Bytes") := ⟨"MovieBoxes$Mover", fd_V, 8, ft_V, rfl, by decide, fi_V, fo_V, fn_V, ws_1 (List.mem_of_getElem? (i := 144) rfl) rfl, rfl, by decide +kernel, rfl⟩
theorem lf_V_15 : mx_F "MovieBoxes$Mover" 15 6 1 true (.object "MovieBoxes$Layout") := ⟨"MovieBoxes$Mover", fd_V, 8, ft_V, rfl, by decide, fi_V, fo_V, fn_V, ws_1 (List.mem_of_getElem? (i := 145) rfl) rfl, rfl, by decide +kernel, rfl⟩
theorem lk_V_19 : Cond.classLink "MovieBoxes$Mover" 19 "MovieBoxes$Bytes" ∈ WS := ws_1 (List.mem_of_getElem? (i := 142) rfl) rfl
theorem lm_V_21 : mx_L "MovieBoxes$Mover" 21 Y_B_init 0 := ⟨ws_1 (List.mem_of_getElem? (i := 143) rfl) rfl, ws_1 (List.mem_of_getElem? (i := 2) rfl) rfl, ws_1 (List.mem_of_getElem? (i := 22) rfl) rfl, ⟨by decide +kernel, by decide +kernel, by decide +kernel⟩, by decide⟩
theorem lf_V_22 : mx_F "MovieBoxes$Mover" 22 6 2 true (.object "MovieBoxes$Bytes") := ⟨"MovieBoxes$Mover", fd_V, 8, ft_V, rfl, by decide, fi_V, fo_V, fn_V, ws_1 (List.mem_of_getElem? (i := 146) rfl) rfl, rfl, by decide +kernel, rfl⟩
theorem lf_V_25 : mx_F "MovieBoxes$Mover" 25 6 3 true (.array .boolean) := ⟨"MovieBoxes$Mover", fd_V, 8, ft_V, rfl, by decide, fi_V, fo_V, fn_V, ws_1 (List.mem_of_getElem? (i := 147) rfl) rfl, rfl, by decide +kernel, rfl⟩
theorem lf_V_29 : mx_F "MovieBoxes$Mover" 29 6 4 true (.array .int) := ⟨"MovieBoxes$Mover", fd_V, 8, ft_V, rfl, by decide, fi_V, fo_V, fn_V, ws_1 (List.mem_of_getElem? (i := 148) rfl) rfl, rfl, by decide +kernel, rfl⟩
theorem lf_V_33 : mx_F "MovieBoxes$Mover" 33 6 5 true (.array .int) := ⟨"MovieBoxes$Mover", fd_V, 8, ft_V, rfl, by decide, fi_V, fo_V, fn_V, ws_1 (List.mem_of_getElem? (i := 149) rfl) rfl, rfl, by decide +kernel, rfl⟩
theorem lf_V_36 : mx_F "MovieBoxes$Mover" 36 6 6 false (.int) := ⟨"MovieBoxes$Mover", fd_V, 8, ft_V, rfl, by decide, fi_V, fo_V, fn_V, ws_1 (List.mem_of_getElem? (i := 150) rfl) rfl, rfl, by decide +kernel, rfl⟩
theorem lf_V_40 : mx_F "MovieBoxes$Mover" 40 6 7 false (.int) := ⟨"MovieBoxes$Mover", fd_V, 8, ft_V, rfl, by decide, fi_V, fo_V, fn_V, ws_1 (List.mem_of_getElem? (i := 151) rfl) rfl, rfl, by decide +kernel, rfl⟩
theorem lm_M_52 : mx_L "MovieBoxes" 52 Y_B_size 0 := ⟨ws_1 (List.mem_of_getElem? (i := 196) rfl) rfl, ws_1 (List.mem_of_getElem? (i := 2) rfl) rfl, ws_1 (List.mem_of_getElem? (i := 199) rfl) rfl, ⟨by decide +kernel, by decide +kernel, by decide +kernel⟩, by decide⟩
theorem ls_B_size : Cond.instanceMethod Y_B_size.1 ∈ WS ∧ Cond.selects Y_B_size.1.cls Y_B_size.1 Y_B_size.1 ∈ WS := ⟨ws_1 (List.mem_of_getElem? (i := 197) rfl) rfl, ws_1 (List.mem_of_getElem? (i := 198) rfl) rfl⟩
theorem lm_M_56 : mx_L "MovieBoxes" 56 Y_B_add 1 := ⟨ws_1 (List.mem_of_getElem? (i := 200) rfl) rfl, ws_1 (List.mem_of_getElem? (i := 2) rfl) rfl, ws_1 (List.mem_of_getElem? (i := 203) rfl) rfl, ⟨by decide +kernel, by decide +kernel, by decide +kernel⟩, by decide⟩
theorem ls_B_add : Cond.instanceMethod Y_B_add.1 ∈ WS ∧ Cond.selects Y_B_add.1.cls Y_B_add.1 Y_B_add.1 ∈ WS := ⟨ws_1 (List.mem_of_getElem? (i := 201) rfl) rfl, ws_1 (List.mem_of_getElem? (i := 202) rfl) rfl⟩
theorem lm_M_60 : mx_L "MovieBoxes" 60 Y_B_has 1 := ⟨ws_1 (List.mem_of_getElem? (i := 208) rfl) rfl, ws_1 (List.mem_of_getElem? (i := 2) rfl) rfl, ws_1 (List.mem_of_getElem? (i := 211) rfl) rfl, ⟨by decide +kernel, by decide +kernel, by decide +kernel⟩, by decide⟩
theorem ls_B_has : Cond.instanceMethod Y_B_has.1 ∈ WS ∧ Cond.selects Y_B_has.1.cls Y_B_has.1 Y_B_has.1 ∈ WS := ⟨ws_1 (List.mem_of_getElem? (i := 209) rfl) rfl, ws_1 (List.mem_of_getElem? (i := 210) rfl) rfl⟩
theorem lm_M_64 : mx_L "MovieBoxes" 64 Y_B_at 1 := ⟨ws_1 (List.mem_of_getElem? (i := 212) rfl) rfl, ws_1 (List.mem_of_getElem? (i := 2) rfl) rfl, ws_1 (List.mem_of_getElem? (i := 215) rfl) rfl, ⟨by decide +kernel, by decide +kernel, by decide +kernel⟩, by decide⟩
theorem ls_B_at : Cond.instanceMethod Y_B_at.1 ∈ WS ∧ Cond.selects Y_B_at.1.cls Y_B_at.1 Y_B_at.1 ∈ WS := ⟨ws_1 (List.mem_of_getElem? (i := 213) rfl) rfl, ws_1 (List.mem_of_getElem? (i := 214) rfl) rfl⟩
theorem lm_M_68 : mx_L "MovieBoxes" 68 Y_B_put 2 := ⟨ws_1 (List.mem_of_getElem? (i := 216) rfl) rfl, ws_1 (List.mem_of_getElem? (i := 2) rfl) rfl, ws_1 (List.mem_of_getElem? (i := 219) rfl) rfl, ⟨by decide +kernel, by decide +kernel, by decide +kernel⟩, by decide⟩
theorem ls_B_put : Cond.instanceMethod Y_B_put.1 ∈ WS ∧ Cond.selects Y_B_put.1.cls Y_B_put.1 Y_B_put.1 ∈ WS := ⟨ws_1 (List.mem_of_getElem? (i := 217) rfl) rfl, ws_1 (List.mem_of_getElem? (i := 218) rfl) rfl⟩
theorem lm_B_19 : mx_L "MovieBoxes$Bytes" 19 Y_B_has 1 := ⟨ws_1 (List.mem_of_getElem? (i := 220) rfl) rfl, ws_1 (List.mem_of_getElem? (i := 2) rfl) rfl, ws_1 (List.mem_of_getElem? (i := 211) rfl) rfl, ⟨by decide +kernel, by decide +kernel, by decide +kernel⟩, by decide⟩
theorem lm_M_72 : mx_L "MovieBoxes" 72 Y_B_keep 1 := ⟨ws_1 (List.mem_of_getElem? (i := 225) rfl) rfl, ws_1 (List.mem_of_getElem? (i := 2) rfl) rfl, ws_1 (List.mem_of_getElem? (i := 228) rfl) rfl, ⟨by decide +kernel, by decide +kernel, by decide +kernel⟩, by decide⟩
theorem ls_B_keep : Cond.instanceMethod Y_B_keep.1 ∈ WS ∧ Cond.selects Y_B_keep.1.cls Y_B_keep.1 Y_B_keep.1 ∈ WS := ⟨ws_1 (List.mem_of_getElem? (i := 226) rfl) rfl, ws_1 (List.mem_of_getElem? (i := 227) rfl) rfl⟩
theorem lm_M_75 : mx_L "MovieBoxes" 75 Y_M_look 0 := ⟨ws_2 (List.mem_of_getElem? (i := 1) rfl) rfl, ws_1 (List.mem_of_getElem? (i := 1) rfl) rfl, ws_2 (List.mem_of_getElem? (i := 4) rfl) rfl, ⟨by decide +kernel, by decide +kernel, by decide +kernel⟩, by decide⟩
theorem ls_M_look : Cond.instanceMethod Y_M_look.1 ∈ WS ∧ Cond.selects Y_M_look.1.cls Y_M_look.1 Y_M_look.1 ∈ WS := ⟨ws_2 (List.mem_of_getElem? (i := 3) rfl) rfl, ws_s1 (q := (⟨"MovieBoxes", "look", "()V"⟩, 7)) (List.mem_of_getElem? (i := 0) rfl) rfl⟩
theorem lm_M_104 : mx_L "MovieBoxes" 104 Y_L_read 0 := ⟨ws_2 (List.mem_of_getElem? (i := 5) rfl) rfl, ws_1 (List.mem_of_getElem? (i := 3) rfl) rfl, ws_2 (List.mem_of_getElem? (i := 8) rfl) rfl, ⟨by decide +kernel, by decide +kernel, by decide +kernel⟩, by decide⟩
theorem ls_L_read : Cond.instanceMethod Y_L_read.1 ∈ WS ∧ Cond.selects Y_L_read.1.cls Y_L_read.1 Y_L_read.1 ∈ WS := ⟨ws_2 (List.mem_of_getElem? (i := 6) rfl) rfl, ws_2 (List.mem_of_getElem? (i := 7) rfl) rfl⟩
theorem lm_M_107 : mx_L "MovieBoxes" 107 Y_L_kindsHold 0 := ⟨ws_2 (List.mem_of_getElem? (i := 49) rfl) rfl, ws_1 (List.mem_of_getElem? (i := 3) rfl) rfl, ws_2 (List.mem_of_getElem? (i := 52) rfl) rfl, ⟨by decide +kernel, by decide +kernel, by decide +kernel⟩, by decide⟩
theorem ls_L_kindsHold : Cond.instanceMethod Y_L_kindsHold.1 ∈ WS ∧ Cond.selects Y_L_kindsHold.1.cls Y_L_kindsHold.1 Y_L_kindsHold.1 ∈ WS := ⟨ws_2 (List.mem_of_getElem? (i := 50) rfl) rfl, ws_2 (List.mem_of_getElem? (i := 51) rfl) rfl⟩
theorem lm_M_110 : mx_L "MovieBoxes" 110 Y_M_bindTracks 0 := ⟨ws_2 (List.mem_of_getElem? (i := 65) rfl) rfl, ws_1 (List.mem_of_getElem? (i := 1) rfl) rfl, ws_2 (List.mem_of_getElem? (i := 68) rfl) rfl, ⟨by decide +kernel, by decide +kernel, by decide +kernel⟩, by decide⟩
theorem ls_M_bindTracks : Cond.instanceMethod Y_M_bindTracks.1 ∈ WS ∧ Cond.selects Y_M_bindTracks.1.cls Y_M_bindTracks.1 Y_M_bindTracks.1 ∈ WS := ⟨ws_2 (List.mem_of_getElem? (i := 67) rfl) rfl, ws_s1 (q := (⟨"MovieBoxes", "bindTracks", "()V"⟩, 7)) (List.mem_of_getElem? (i := 6) rfl) rfl⟩
theorem lm_M_113 : mx_L "MovieBoxes" 113 Y_M_tableFault 0 := ⟨ws_2 (List.mem_of_getElem? (i := 96) rfl) rfl, ws_1 (List.mem_of_getElem? (i := 1) rfl) rfl, ws_2 (List.mem_of_getElem? (i := 99) rfl) rfl, ⟨by decide +kernel, by decide +kernel, by decide +kernel⟩, by decide⟩
theorem ls_M_tableFault : Cond.instanceMethod Y_M_tableFault.1 ∈ WS ∧ Cond.selects Y_M_tableFault.1.cls Y_M_tableFault.1 Y_M_tableFault.1 ∈ WS := ⟨ws_2 (List.mem_of_getElem? (i := 98) rfl) rfl, ws_s1 (q := (⟨"MovieBoxes", "tableFault", "()I"⟩, 7)) (List.mem_of_getElem? (i := 7) rfl) rfl⟩
theorem lm_M_116 : mx_L "MovieBoxes" 116 Y_K_spread 0 := ⟨ws_2 (List.mem_of_getElem? (i := 182) rfl) rfl, ws_1 (List.mem_of_getElem? (i := 4) rfl) rfl, ws_2 (List.mem_of_getElem? (i := 185) rfl) rfl, ⟨by decide +kernel, by decide +kernel, by decide +kernel⟩, by decide⟩
theorem ls_K_spread : Cond.instanceMethod Y_K_spread.1 ∈ WS ∧ Cond.selects Y_K_spread.1.cls Y_K_spread.1 Y_K_spread.1 ∈ WS := ⟨ws_2 (List.mem_of_getElem? (i := 183) rfl) rfl, ws_2 (List.mem_of_getElem? (i := 184) rfl) rfl⟩
theorem lm_L_28 : mx_L "MovieBoxes$Layout" 28 Y_L_openHolder 2 := ⟨ws_2 (List.mem_of_getElem? (i := 9) rfl) rfl, ws_1 (List.mem_of_getElem? (i := 3) rfl) rfl, ws_2 (List.mem_of_getElem? (i := 12) rfl) rfl, ⟨by decide +kernel, by decide +kernel, by decide +kernel⟩, by decide⟩
theorem ls_L_openHolder : Cond.instanceMethod Y_L_openHolder.1 ∈ WS ∧ Cond.selects Y_L_openHolder.1.cls Y_L_openHolder.1 Y_L_openHolder.1 ∈ WS := ⟨ws_2 (List.mem_of_getElem? (i := 11) rfl) rfl, ws_s1 (q := (⟨"MovieBoxes$Layout", "openHolder", "(II)I"⟩, 3)) (List.mem_of_getElem? (i := 1) rfl) rfl⟩
theorem lm_L_31 : mx_L "MovieBoxes$Layout" 31 Y_B_size 0 := ⟨ws_2 (List.mem_of_getElem? (i := 21) rfl) rfl, ws_1 (List.mem_of_getElem? (i := 2) rfl) rfl, ws_1 (List.mem_of_getElem? (i := 199) rfl) rfl, ⟨by decide +kernel, by decide +kernel, by decide +kernel⟩, by decide⟩
theorem lm_L_37 : mx_L "MovieBoxes$Layout" 37 Y_L_endOf 1 := ⟨ws_2 (List.mem_of_getElem? (i := 13) rfl) rfl, ws_1 (List.mem_of_getElem? (i := 3) rfl) rfl, ws_2 (List.mem_of_getElem? (i := 16) rfl) rfl, ⟨by decide +kernel, by decide +kernel, by decide +kernel⟩, by decide⟩
theorem ls_L_endOf : Cond.instanceMethod Y_L_endOf.1 ∈ WS ∧ Cond.selects Y_L_endOf.1.cls Y_L_endOf.1 Y_L_endOf.1 ∈ WS := ⟨ws_2 (List.mem_of_getElem? (i := 14) rfl) rfl, ws_2 (List.mem_of_getElem? (i := 15) rfl) rfl⟩
theorem lm_L_41 : mx_L "MovieBoxes$Layout" 41 Y_L_readBox 3 := ⟨ws_2 (List.mem_of_getElem? (i := 22) rfl) rfl, ws_1 (List.mem_of_getElem? (i := 3) rfl) rfl, ws_2 (List.mem_of_getElem? (i := 25) rfl) rfl, ⟨by decide +kernel, by decide +kernel, by decide +kernel⟩, by decide⟩
theorem ls_L_readBox : Cond.instanceMethod Y_L_readBox.1 ∈ WS ∧ Cond.selects Y_L_readBox.1.cls Y_L_readBox.1 Y_L_readBox.1 ∈ WS := ⟨ws_2 (List.mem_of_getElem? (i := 24) rfl) rfl, ws_s1 (q := (⟨"MovieBoxes$Layout", "readBox", "(III)Z"⟩, 3)) (List.mem_of_getElem? (i := 2) rfl) rfl⟩
theorem lm_L_45 : mx_L "MovieBoxes$Layout" 45 Y_L_holdsBoxes 1 := ⟨ws_2 (List.mem_of_getElem? (i := 41) rfl) rfl, ws_1 (List.mem_of_getElem? (i := 3) rfl) rfl, ws_2 (List.mem_of_getElem? (i := 44) rfl) rfl, ⟨by decide +kernel, by decide +kernel, by decide +kernel⟩, by decide⟩
theorem ls_L_holdsBoxes : Cond.instanceMethod Y_L_holdsBoxes.1 ∈ WS ∧ Cond.selects Y_L_holdsBoxes.1.cls Y_L_holdsBoxes.1 Y_L_holdsBoxes.1 ∈ WS := ⟨ws_2 (List.mem_of_getElem? (i := 42) rfl) rfl, ws_2 (List.mem_of_getElem? (i := 43) rfl) rfl⟩
theorem lm_L_49 : mx_L "MovieBoxes$Layout" 49 Y_L_payloadOf 1 := ⟨ws_2 (List.mem_of_getElem? (i := 45) rfl) rfl, ws_1 (List.mem_of_getElem? (i := 3) rfl) rfl, ws_2 (List.mem_of_getElem? (i := 48) rfl) rfl, ⟨by decide +kernel, by decide +kernel, by decide +kernel⟩, by decide⟩
theorem ls_L_payloadOf : Cond.instanceMethod Y_L_payloadOf.1 ∈ WS ∧ Cond.selects Y_L_payloadOf.1.cls Y_L_payloadOf.1 Y_L_payloadOf.1 ∈ WS := ⟨ws_2 (List.mem_of_getElem? (i := 46) rfl) rfl, ws_2 (List.mem_of_getElem? (i := 47) rfl) rfl⟩
theorem lm_L_24 : mx_L "MovieBoxes$Layout" 24 Y_L_of 2 := ⟨ws_2 (List.mem_of_getElem? (i := 17) rfl) rfl, ws_1 (List.mem_of_getElem? (i := 3) rfl) rfl, ws_2 (List.mem_of_getElem? (i := 20) rfl) rfl, ⟨by decide +kernel, by decide +kernel, by decide +kernel⟩, by decide⟩
theorem ls_L_of : Cond.instanceMethod Y_L_of.1 ∈ WS ∧ Cond.selects Y_L_of.1.cls Y_L_of.1 Y_L_of.1 ∈ WS := ⟨ws_2 (List.mem_of_getElem? (i := 18) rfl) rfl, ws_2 (List.mem_of_getElem? (i := 19) rfl) rfl⟩
theorem lm_L_52 : mx_L "MovieBoxes$Layout" 52 Y_B_at 1 := ⟨ws_2 (List.mem_of_getElem? (i := 26) rfl) rfl, ws_1 (List.mem_of_getElem? (i := 2) rfl) rfl, ws_1 (List.mem_of_getElem? (i := 215) rfl) rfl, ⟨by decide +kernel, by decide +kernel, by decide +kernel⟩, by decide⟩
theorem lm_L_55 : mx_L "MovieBoxes$Layout" 55 Y_B_pairAt 1 := ⟨ws_2 (List.mem_of_getElem? (i := 27) rfl) rfl, ws_1 (List.mem_of_getElem? (i := 2) rfl) rfl, ws_2 (List.mem_of_getElem? (i := 30) rfl) rfl, ⟨by decide +kernel, by decide +kernel, by decide +kernel⟩, by decide⟩
theorem ls_B_pairAt : Cond.instanceMethod Y_B_pairAt.1 ∈ WS ∧ Cond.selects Y_B_pairAt.1.cls Y_B_pairAt.1 Y_B_pairAt.1 ∈ WS := ⟨ws_2 (List.mem_of_getElem? (i := 28) rfl) rfl, ws_2 (List.mem_of_getElem? (i := 29) rfl) rfl⟩
theorem lm_L_58 : mx_L "MovieBoxes$Layout" 58 Y_L_note 4 := ⟨ws_2 (List.mem_of_getElem? (i := 31) rfl) rfl, ws_1 (List.mem_of_getElem? (i := 3) rfl) rfl, ws_2 (List.mem_of_getElem? (i := 34) rfl) rfl, ⟨by decide +kernel, by decide +kernel, by decide +kernel⟩, by decide⟩
theorem ls_L_note : Cond.instanceMethod Y_L_note.1 ∈ WS ∧ Cond.selects Y_L_note.1.cls Y_L_note.1 Y_L_note.1 ∈ WS := ⟨ws_2 (List.mem_of_getElem? (i := 33) rfl) rfl, ws_s1 (q := (⟨"MovieBoxes$Layout", "note", "(IIII)V"⟩, 3)) (List.mem_of_getElem? (i := 3) rfl) rfl⟩
theorem lm_L_62 : mx_L "MovieBoxes$Layout" 62 Y_L_kindOf 2 := ⟨ws_2 (List.mem_of_getElem? (i := 35) rfl) rfl, ws_1 (List.mem_of_getElem? (i := 3) rfl) rfl, ws_2 (List.mem_of_getElem? (i := 37) rfl) rfl, ⟨by decide +kernel, by decide +kernel, by decide +kernel⟩, by decide⟩
theorem ls_L_kindOf : Cond.static Y_L_kindOf.1 ∈ WS := ws_2 (List.mem_of_getElem? (i := 36) rfl) rfl
theorem lm_L_65 : mx_L "MovieBoxes$Layout" 65 Y_L_isTable 1 := ⟨ws_2 (List.mem_of_getElem? (i := 38) rfl) rfl, ws_1 (List.mem_of_getElem? (i := 3) rfl) rfl, ws_2 (List.mem_of_getElem? (i := 40) rfl) rfl, ⟨by decide +kernel, by decide +kernel, by decide +kernel⟩, by decide⟩
theorem ls_L_isTable : Cond.static Y_L_isTable.1 ∈ WS := ws_2 (List.mem_of_getElem? (i := 39) rfl) rfl
theorem lm_L_68 : mx_L "MovieBoxes$Layout" 68 Y_L_countIn 2 := ⟨ws_2 (List.mem_of_getElem? (i := 53) rfl) rfl, ws_1 (List.mem_of_getElem? (i := 3) rfl) rfl, ws_2 (List.mem_of_getElem? (i := 56) rfl) rfl, ⟨by decide +kernel, by decide +kernel, by decide +kernel⟩, by decide⟩
theorem ls_L_countIn : Cond.instanceMethod Y_L_countIn.1 ∈ WS ∧ Cond.selects Y_L_countIn.1.cls Y_L_countIn.1 Y_L_countIn.1 ∈ WS := ⟨ws_2 (List.mem_of_getElem? (i := 55) rfl) rfl, ws_s1 (q := (⟨"MovieBoxes$Layout", "countIn", "(II)I"⟩, 3)) (List.mem_of_getElem? (i := 4) rfl) rfl⟩
theorem lm_L_71 : mx_L "MovieBoxes$Layout" 71 Y_L_find 2 := ⟨ws_2 (List.mem_of_getElem? (i := 57) rfl) rfl, ws_1 (List.mem_of_getElem? (i := 3) rfl) rfl, ws_2 (List.mem_of_getElem? (i := 60) rfl) rfl, ⟨by decide +kernel, by decide +kernel, by decide +kernel⟩, by decide⟩
theorem ls_L_find : Cond.instanceMethod Y_L_find.1 ∈ WS ∧ Cond.selects Y_L_find.1.cls Y_L_find.1 Y_L_find.1 ∈ WS := ⟨ws_2 (List.mem_of_getElem? (i := 58) rfl) rfl, ws_2 (List.mem_of_getElem? (i := 59) rfl) rfl⟩
theorem lm_L_74 : mx_L "MovieBoxes$Layout" 74 Y_L_trackKindsHold 1 := ⟨ws_2 (List.mem_of_getElem? (i := 61) rfl) rfl, ws_1 (List.mem_of_getElem? (i := 3) rfl) rfl, ws_2 (List.mem_of_getElem? (i := 64) rfl) rfl, ⟨by decide +kernel, by decide +kernel, by decide +kernel⟩, by decide⟩
theorem ls_L_trackKindsHold : Cond.instanceMethod Y_L_trackKindsHold.1 ∈ WS ∧ Cond.selects Y_L_trackKindsHold.1.cls Y_L_trackKindsHold.1 Y_L_trackKindsHold.1 ∈ WS := ⟨ws_2 (List.mem_of_getElem? (i := 63) rfl) rfl, ws_s1 (q := (⟨"MovieBoxes$Layout", "trackKindsHold", "(I)Z"⟩, 3)) (List.mem_of_getElem? (i := 5) rfl) rfl⟩
theorem lm_M_82 : mx_L "MovieBoxes" 82 Y_L_size 0 := ⟨ws_2 (List.mem_of_getElem? (i := 69) rfl) rfl, ws_1 (List.mem_of_getElem? (i := 3) rfl) rfl, ws_2 (List.mem_of_getElem? (i := 72) rfl) rfl, ⟨by decide +kernel, by decide +kernel, by decide +kernel⟩, by decide⟩
theorem ls_L_size : Cond.instanceMethod Y_L_size.1 ∈ WS ∧ Cond.selects Y_L_size.1.cls Y_L_size.1 Y_L_size.1 ∈ WS := ⟨ws_2 (List.mem_of_getElem? (i := 70) rfl) rfl, ws_2 (List.mem_of_getElem? (i := 71) rfl) rfl⟩
theorem lm_M_83 : mx_L "MovieBoxes" 83 Y_L_of 2 := ⟨ws_2 (List.mem_of_getElem? (i := 73) rfl) rfl, ws_1 (List.mem_of_getElem? (i := 3) rfl) rfl, ws_2 (List.mem_of_getElem? (i := 20) rfl) rfl, ⟨by decide +kernel, by decide +kernel, by decide +kernel⟩, by decide⟩
theorem lm_M_119 : mx_L "MovieBoxes" 119 Y_K_bind 1 := ⟨ws_2 (List.mem_of_getElem? (i := 74) rfl) rfl, ws_1 (List.mem_of_getElem? (i := 4) rfl) rfl, ws_2 (List.mem_of_getElem? (i := 77) rfl) rfl, ⟨by decide +kernel, by decide +kernel, by decide +kernel⟩, by decide⟩
theorem ls_K_bind : Cond.instanceMethod Y_K_bind.1 ∈ WS ∧ Cond.selects Y_K_bind.1.cls Y_K_bind.1 Y_K_bind.1 ∈ WS := ⟨ws_2 (List.mem_of_getElem? (i := 75) rfl) rfl, ws_2 (List.mem_of_getElem? (i := 76) rfl) rfl⟩
theorem lm_K_55 : mx_L "MovieBoxes$Track" 55 Y_L_find 2 := ⟨ws_2 (List.mem_of_getElem? (i := 78) rfl) rfl, ws_1 (List.mem_of_getElem? (i := 3) rfl) rfl, ws_2 (List.mem_of_getElem? (i := 60) rfl) rfl, ⟨by decide +kernel, by decide +kernel, by decide +kernel⟩, by decide⟩
theorem lm_K_61 : mx_L "MovieBoxes$Track" 61 Y_T_bind 3 := ⟨ws_2 (List.mem_of_getElem? (i := 79) rfl) rfl, ws_1 (List.mem_of_getElem? (i := 5) rfl) rfl, ws_2 (List.mem_of_getElem? (i := 82) rfl) rfl, ⟨by decide +kernel, by decide +kernel, by decide +kernel⟩, by decide⟩
theorem ls_T_bind : Cond.instanceMethod Y_T_bind.1 ∈ WS ∧ Cond.selects Y_T_bind.1.cls Y_T_bind.1 Y_T_bind.1 ∈ WS := ⟨ws_2 (List.mem_of_getElem? (i := 80) rfl) rfl, ws_2 (List.mem_of_getElem? (i := 81) rfl) rfl⟩
theorem lm_K_65 : mx_L "MovieBoxes$Track" 65 Y_Z_bind 2 := ⟨ws_2 (List.mem_of_getElem? (i := 89) rfl) rfl, ws_1 (List.mem_of_getElem? (i := 6) rfl) rfl, ws_2 (List.mem_of_getElem? (i := 92) rfl) rfl, ⟨by decide +kernel, by decide +kernel, by decide +kernel⟩, by decide⟩
theorem ls_Z_bind : Cond.instanceMethod Y_Z_bind.1 ∈ WS ∧ Cond.selects Y_Z_bind.1.cls Y_Z_bind.1 Y_Z_bind.1 ∈ WS := ⟨ws_2 (List.mem_of_getElem? (i := 90) rfl) rfl, ws_2 (List.mem_of_getElem? (i := 91) rfl) rfl⟩
theorem lm_T_32 : mx_L "MovieBoxes$Table" 32 Y_L_payloadOf 1 := ⟨ws_2 (List.mem_of_getElem? (i := 83) rfl) rfl, ws_1 (List.mem_of_getElem? (i := 3) rfl) rfl, ws_2 (List.mem_of_getElem? (i := 48) rfl) rfl, ⟨by decide +kernel, by decide +kernel, by decide +kernel⟩, by decide⟩
theorem lm_T_36 : mx_L "MovieBoxes$Table" 36 Y_L_payloadSizeOf 1 := ⟨ws_2 (List.mem_of_getElem? (i := 84) rfl) rfl, ws_1 (List.mem_of_getElem? (i := 3) rfl) rfl, ws_2 (List.mem_of_getElem? (i := 87) rfl) rfl, ⟨by decide +kernel, by decide +kernel, by decide +kernel⟩, by decide⟩
theorem ls_L_payloadSizeOf : Cond.instanceMethod Y_L_payloadSizeOf.1 ∈ WS ∧ Cond.selects Y_L_payloadSizeOf.1.cls Y_L_payloadSizeOf.1 Y_L_payloadSizeOf.1 ∈ WS := ⟨ws_2 (List.mem_of_getElem? (i := 85) rfl) rfl, ws_2 (List.mem_of_getElem? (i := 86) rfl) rfl⟩
theorem lm_T_39 : mx_L "MovieBoxes$Table" 39 Y_B_at 1 := ⟨ws_2 (List.mem_of_getElem? (i := 88) rfl) rfl, ws_1 (List.mem_of_getElem? (i := 2) rfl) rfl, ws_1 (List.mem_of_getElem? (i := 215) rfl) rfl, ⟨by decide +kernel, by decide +kernel, by decide +kernel⟩, by decide⟩
theorem lm_Z_26 : mx_L "MovieBoxes$SizeTable" 26 Y_L_payloadOf 1 := ⟨ws_2 (List.mem_of_getElem? (i := 93) rfl) rfl, ws_1 (List.mem_of_getElem? (i := 3) rfl) rfl, ws_2 (List.mem_of_getElem? (i := 48) rfl) rfl, ⟨by decide +kernel, by decide +kernel, by decide +kernel⟩, by decide⟩
theorem lm_Z_32 : mx_L "MovieBoxes$SizeTable" 32 Y_L_payloadSizeOf 1 := ⟨ws_2 (List.mem_of_getElem? (i := 94) rfl) rfl, ws_1 (List.mem_of_getElem? (i := 3) rfl) rfl, ws_2 (List.mem_of_getElem? (i := 87) rfl) rfl, ⟨by decide +kernel, by decide +kernel, by decide +kernel⟩, by decide⟩
theorem lm_Z_35 : mx_L "MovieBoxes$SizeTable" 35 Y_B_at 1 := ⟨ws_2 (List.mem_of_getElem? (i := 95) rfl) rfl, ws_1 (List.mem_of_getElem? (i := 2) rfl) rfl, ws_1 (List.mem_of_getElem? (i := 215) rfl) rfl, ⟨by decide +kernel, by decide +kernel, by decide +kernel⟩, by decide⟩
theorem lm_M_122 : mx_L "MovieBoxes" 122 Y_K_rowsHold 0 := ⟨ws_2 (List.mem_of_getElem? (i := 100) rfl) rfl, ws_1 (List.mem_of_getElem? (i := 4) rfl) rfl, ws_2 (List.mem_of_getElem? (i := 103) rfl) rfl, ⟨by decide +kernel, by decide +kernel, by decide +kernel⟩, by decide⟩
theorem ls_K_rowsHold : Cond.instanceMethod Y_K_rowsHold.1 ∈ WS ∧ Cond.selects Y_K_rowsHold.1.cls Y_K_rowsHold.1 Y_K_rowsHold.1 ∈ WS := ⟨ws_2 (List.mem_of_getElem? (i := 101) rfl) rfl, ws_2 (List.mem_of_getElem? (i := 102) rfl) rfl⟩
theorem lm_M_125 : mx_L "MovieBoxes" 125 Y_K_countsHold 0 := ⟨ws_2 (List.mem_of_getElem? (i := 129) rfl) rfl, ws_1 (List.mem_of_getElem? (i := 4) rfl) rfl, ws_2 (List.mem_of_getElem? (i := 132) rfl) rfl, ⟨by decide +kernel, by decide +kernel, by decide +kernel⟩, by decide⟩
theorem ls_K_countsHold : Cond.instanceMethod Y_K_countsHold.1 ∈ WS ∧ Cond.selects Y_K_countsHold.1.cls Y_K_countsHold.1 Y_K_countsHold.1 ∈ WS := ⟨ws_2 (List.mem_of_getElem? (i := 130) rfl) rfl, ws_2 (List.mem_of_getElem? (i := 131) rfl) rfl⟩
theorem lm_M_128 : mx_L "MovieBoxes" 128 Y_K_dataHolds 0 := ⟨ws_2 (List.mem_of_getElem? (i := 157) rfl) rfl, ws_1 (List.mem_of_getElem? (i := 4) rfl) rfl, ws_2 (List.mem_of_getElem? (i := 160) rfl) rfl, ⟨by decide +kernel, by decide +kernel, by decide +kernel⟩, by decide⟩
theorem ls_K_dataHolds : Cond.instanceMethod Y_K_dataHolds.1 ∈ WS ∧ Cond.selects Y_K_dataHolds.1.cls Y_K_dataHolds.1 Y_K_dataHolds.1 ∈ WS := ⟨ws_2 (List.mem_of_getElem? (i := 158) rfl) rfl, ws_2 (List.mem_of_getElem? (i := 159) rfl) rfl⟩
theorem lm_K_68 : mx_L "MovieBoxes$Track" 68 Y_Z_lengthHolds 0 := ⟨ws_2 (List.mem_of_getElem? (i := 104) rfl) rfl, ws_1 (List.mem_of_getElem? (i := 6) rfl) rfl, ws_2 (List.mem_of_getElem? (i := 107) rfl) rfl, ⟨by decide +kernel, by decide +kernel, by decide +kernel⟩, by decide⟩
theorem ls_Z_lengthHolds : Cond.instanceMethod Y_Z_lengthHolds.1 ∈ WS ∧ Cond.selects Y_Z_lengthHolds.1.cls Y_Z_lengthHolds.1 Y_Z_lengthHolds.1 ∈ WS := ⟨ws_2 (List.mem_of_getElem? (i := 105) rfl) rfl, ws_2 (List.mem_of_getElem? (i := 106) rfl) rfl⟩
theorem lm_K_72 : mx_L "MovieBoxes$Track" 72 Y_T_lengthHolds 0 := ⟨ws_2 (List.mem_of_getElem? (i := 108) rfl) rfl, ws_1 (List.mem_of_getElem? (i := 5) rfl) rfl, ws_2 (List.mem_of_getElem? (i := 111) rfl) rfl, ⟨by decide +kernel, by decide +kernel, by decide +kernel⟩, by decide⟩
theorem ls_T_lengthHolds : Cond.instanceMethod Y_T_lengthHolds.1 ∈ WS ∧ Cond.selects Y_T_lengthHolds.1.cls Y_T_lengthHolds.1 Y_T_lengthHolds.1 ∈ WS := ⟨ws_2 (List.mem_of_getElem? (i := 109) rfl) rfl, ws_2 (List.mem_of_getElem? (i := 110) rfl) rfl⟩
theorem lm_K_73 : mx_L "MovieBoxes$Track" 73 Y_T_rows 0 := ⟨ws_2 (List.mem_of_getElem? (i := 112) rfl) rfl, ws_1 (List.mem_of_getElem? (i := 5) rfl) rfl, ws_2 (List.mem_of_getElem? (i := 115) rfl) rfl, ⟨by decide +kernel, by decide +kernel, by decide +kernel⟩, by decide⟩
theorem ls_T_rows : Cond.instanceMethod Y_T_rows.1 ∈ WS ∧ Cond.selects Y_T_rows.1.cls Y_T_rows.1 Y_T_rows.1 ∈ WS := ⟨ws_2 (List.mem_of_getElem? (i := 113) rfl) rfl, ws_2 (List.mem_of_getElem? (i := 114) rfl) rfl⟩
theorem lm_K_77 : mx_L "MovieBoxes$Track" 77 Y_T_value 2 := ⟨ws_2 (List.mem_of_getElem? (i := 116) rfl) rfl, ws_1 (List.mem_of_getElem? (i := 5) rfl) rfl, ws_2 (List.mem_of_getElem? (i := 119) rfl) rfl, ⟨by decide +kernel, by decide +kernel, by decide +kernel⟩, by decide⟩
theorem ls_T_value : Cond.instanceMethod Y_T_value.1 ∈ WS ∧ Cond.selects Y_T_value.1.cls Y_T_value.1 Y_T_value.1 ∈ WS := ⟨ws_2 (List.mem_of_getElem? (i := 117) rfl) rfl, ws_2 (List.mem_of_getElem? (i := 118) rfl) rfl⟩
theorem lm_K_80 : mx_L "MovieBoxes$Track" 80 Y_T_grows 0 := ⟨ws_2 (List.mem_of_getElem? (i := 120) rfl) rfl, ws_1 (List.mem_of_getElem? (i := 5) rfl) rfl, ws_2 (List.mem_of_getElem? (i := 123) rfl) rfl, ⟨by decide +kernel, by decide +kernel, by decide +kernel⟩, by decide⟩
theorem ls_T_grows : Cond.instanceMethod Y_T_grows.1 ∈ WS ∧ Cond.selects Y_T_grows.1.cls Y_T_grows.1 Y_T_grows.1 ∈ WS := ⟨ws_2 (List.mem_of_getElem? (i := 121) rfl) rfl, ws_2 (List.mem_of_getElem? (i := 122) rfl) rfl⟩
theorem lm_K_83 : mx_L "MovieBoxes$Track" 83 Y_K_everyChunkRowHasSamples 0 := ⟨ws_2 (List.mem_of_getElem? (i := 125) rfl) rfl, ws_1 (List.mem_of_getElem? (i := 4) rfl) rfl, ws_2 (List.mem_of_getElem? (i := 128) rfl) rfl, ⟨by decide +kernel, by decide +kernel, by decide +kernel⟩, by decide⟩
theorem ls_K_everyChunkRowHasSamples : Cond.instanceMethod Y_K_everyChunkRowHasSamples.1 ∈ WS ∧ Cond.selects Y_K_everyChunkRowHasSamples.1.cls Y_K_everyChunkRowHasSamples.1 Y_K_everyChunkRowHasSamples.1 ∈ WS := ⟨ws_2 (List.mem_of_getElem? (i := 127) rfl) rfl, ws_s1 (q := (⟨"MovieBoxes$Track", "everyChunkRowHasSamples", "()Z"⟩, 10)) (List.mem_of_getElem? (i := 8) rfl) rfl⟩
theorem lm_T_44 : mx_L "MovieBoxes$Table" 44 Y_T_value 2 := ⟨ws_2 (List.mem_of_getElem? (i := 124) rfl) rfl, ws_1 (List.mem_of_getElem? (i := 5) rfl) rfl, ws_2 (List.mem_of_getElem? (i := 119) rfl) rfl, ⟨by decide +kernel, by decide +kernel, by decide +kernel⟩, by decide⟩
theorem lm_K_86 : mx_L "MovieBoxes$Track" 86 Y_Z_count 0 := ⟨ws_2 (List.mem_of_getElem? (i := 133) rfl) rfl, ws_1 (List.mem_of_getElem? (i := 6) rfl) rfl, ws_2 (List.mem_of_getElem? (i := 136) rfl) rfl, ⟨by decide +kernel, by decide +kernel, by decide +kernel⟩, by decide⟩
theorem ls_Z_count : Cond.instanceMethod Y_Z_count.1 ∈ WS ∧ Cond.selects Y_Z_count.1.cls Y_Z_count.1 Y_Z_count.1 ∈ WS := ⟨ws_2 (List.mem_of_getElem? (i := 134) rfl) rfl, ws_2 (List.mem_of_getElem? (i := 135) rfl) rfl⟩
theorem lm_K_88 : mx_L "MovieBoxes$Track" 88 Y_T_totalOfCounts 0 := ⟨ws_2 (List.mem_of_getElem? (i := 137) rfl) rfl, ws_1 (List.mem_of_getElem? (i := 5) rfl) rfl, ws_2 (List.mem_of_getElem? (i := 140) rfl) rfl, ⟨by decide +kernel, by decide +kernel, by decide +kernel⟩, by decide⟩
theorem ls_T_totalOfCounts : Cond.instanceMethod Y_T_totalOfCounts.1 ∈ WS ∧ Cond.selects Y_T_totalOfCounts.1.cls Y_T_totalOfCounts.1 Y_T_totalOfCounts.1 ∈ WS := ⟨ws_2 (List.mem_of_getElem? (i := 138) rfl) rfl, ws_2 (List.mem_of_getElem? (i := 139) rfl) rfl⟩
theorem lm_K_91 : mx_L "MovieBoxes$Track" 91 Y_T_isPresent 0 := ⟨ws_2 (List.mem_of_getElem? (i := 141) rfl) rfl, ws_1 (List.mem_of_getElem? (i := 5) rfl) rfl, ws_2 (List.mem_of_getElem? (i := 144) rfl) rfl, ⟨by decide +kernel, by decide +kernel, by decide +kernel⟩, by decide⟩
theorem ls_T_isPresent : Cond.instanceMethod Y_T_isPresent.1 ∈ WS ∧ Cond.selects Y_T_isPresent.1.cls Y_T_isPresent.1 Y_T_isPresent.1 ∈ WS := ⟨ws_2 (List.mem_of_getElem? (i := 142) rfl) rfl, ws_2 (List.mem_of_getElem? (i := 143) rfl) rfl⟩
theorem lm_K_94 : mx_L "MovieBoxes$Track" 94 Y_K_chunkRowsMeetChunks 0 := ⟨ws_2 (List.mem_of_getElem? (i := 145) rfl) rfl, ws_1 (List.mem_of_getElem? (i := 4) rfl) rfl, ws_2 (List.mem_of_getElem? (i := 148) rfl) rfl, ⟨by decide +kernel, by decide +kernel, by decide +kernel⟩, by decide⟩
theorem ls_K_chunkRowsMeetChunks : Cond.instanceMethod Y_K_chunkRowsMeetChunks.1 ∈ WS ∧ Cond.selects Y_K_chunkRowsMeetChunks.1.cls Y_K_chunkRowsMeetChunks.1 Y_K_chunkRowsMeetChunks.1 ∈ WS := ⟨ws_2 (List.mem_of_getElem? (i := 147) rfl) rfl, ws_s1 (q := (⟨"MovieBoxes$Track", "chunkRowsMeetChunks", "()Z"⟩, 10)) (List.mem_of_getElem? (i := 9) rfl) rfl⟩
theorem lm_K_97 : mx_L "MovieBoxes$Track" 97 Y_K_samplesInChunks 0 := ⟨ws_2 (List.mem_of_getElem? (i := 149) rfl) rfl, ws_1 (List.mem_of_getElem? (i := 4) rfl) rfl, ws_2 (List.mem_of_getElem? (i := 152) rfl) rfl, ⟨by decide +kernel, by decide +kernel, by decide +kernel⟩, by decide⟩
theorem ls_K_samplesInChunks : Cond.instanceMethod Y_K_samplesInChunks.1 ∈ WS ∧ Cond.selects Y_K_samplesInChunks.1.cls Y_K_samplesInChunks.1 Y_K_samplesInChunks.1 ∈ WS := ⟨ws_2 (List.mem_of_getElem? (i := 151) rfl) rfl, ws_s1 (q := (⟨"MovieBoxes$Track", "samplesInChunks", "()I"⟩, 10)) (List.mem_of_getElem? (i := 10) rfl) rfl⟩
theorem lm_K_100 : mx_L "MovieBoxes$Track" 100 Y_K_syncsStayWithin 1 := ⟨ws_2 (List.mem_of_getElem? (i := 153) rfl) rfl, ws_1 (List.mem_of_getElem? (i := 4) rfl) rfl, ws_2 (List.mem_of_getElem? (i := 156) rfl) rfl, ⟨by decide +kernel, by decide +kernel, by decide +kernel⟩, by decide⟩
theorem ls_K_syncsStayWithin : Cond.instanceMethod Y_K_syncsStayWithin.1 ∈ WS ∧ Cond.selects Y_K_syncsStayWithin.1.cls Y_K_syncsStayWithin.1 Y_K_syncsStayWithin.1 ∈ WS := ⟨ws_2 (List.mem_of_getElem? (i := 155) rfl) rfl, ws_s1 (q := (⟨"MovieBoxes$Track", "syncsStayWithin", "(I)Z"⟩, 10)) (List.mem_of_getElem? (i := 11) rfl) rfl⟩
theorem lm_K_104 : mx_L "MovieBoxes$Track" 104 Y_K_chunkRow 2 := ⟨ws_2 (List.mem_of_getElem? (i := 161) rfl) rfl, ws_1 (List.mem_of_getElem? (i := 4) rfl) rfl, ws_2 (List.mem_of_getElem? (i := 164) rfl) rfl, ⟨by decide +kernel, by decide +kernel, by decide +kernel⟩, by decide⟩
theorem ls_K_chunkRow : Cond.instanceMethod Y_K_chunkRow.1 ∈ WS ∧ Cond.selects Y_K_chunkRow.1.cls Y_K_chunkRow.1 Y_K_chunkRow.1 ∈ WS := ⟨ws_2 (List.mem_of_getElem? (i := 163) rfl) rfl, ws_s1 (q := (⟨"MovieBoxes$Track", "chunkRow", "(II)I"⟩, 10)) (List.mem_of_getElem? (i := 12) rfl) rfl⟩
theorem lm_K_107 : mx_L "MovieBoxes$Track" 107 Y_T_number 1 := ⟨ws_2 (List.mem_of_getElem? (i := 165) rfl) rfl, ws_1 (List.mem_of_getElem? (i := 5) rfl) rfl, ws_2 (List.mem_of_getElem? (i := 168) rfl) rfl, ⟨by decide +kernel, by decide +kernel, by decide +kernel⟩, by decide⟩
theorem ls_T_number : Cond.instanceMethod Y_T_number.1 ∈ WS ∧ Cond.selects Y_T_number.1.cls Y_T_number.1 Y_T_number.1 ∈ WS := ⟨ws_2 (List.mem_of_getElem? (i := 166) rfl) rfl, ws_2 (List.mem_of_getElem? (i := 167) rfl) rfl⟩
theorem lm_K_111 : mx_L "MovieBoxes$Track" 111 Y_L_dataAround 1 := ⟨ws_2 (List.mem_of_getElem? (i := 169) rfl) rfl, ws_1 (List.mem_of_getElem? (i := 3) rfl) rfl, ws_2 (List.mem_of_getElem? (i := 172) rfl) rfl, ⟨by decide +kernel, by decide +kernel, by decide +kernel⟩, by decide⟩
theorem ls_L_dataAround : Cond.instanceMethod Y_L_dataAround.1 ∈ WS ∧ Cond.selects Y_L_dataAround.1.cls Y_L_dataAround.1 Y_L_dataAround.1 ∈ WS := ⟨ws_2 (List.mem_of_getElem? (i := 170) rfl) rfl, ws_2 (List.mem_of_getElem? (i := 171) rfl) rfl⟩
theorem lm_K_114 : mx_L "MovieBoxes$Track" 114 Y_K_bytesOf 2 := ⟨ws_2 (List.mem_of_getElem? (i := 173) rfl) rfl, ws_1 (List.mem_of_getElem? (i := 4) rfl) rfl, ws_2 (List.mem_of_getElem? (i := 176) rfl) rfl, ⟨by decide +kernel, by decide +kernel, by decide +kernel⟩, by decide⟩
theorem ls_K_bytesOf : Cond.instanceMethod Y_K_bytesOf.1 ∈ WS ∧ Cond.selects Y_K_bytesOf.1.cls Y_K_bytesOf.1 Y_K_bytesOf.1 ∈ WS := ⟨ws_2 (List.mem_of_getElem? (i := 175) rfl) rfl, ws_s1 (q := (⟨"MovieBoxes$Track", "bytesOf", "(II)I"⟩, 10)) (List.mem_of_getElem? (i := 13) rfl) rfl⟩
theorem lm_K_117 : mx_L "MovieBoxes$Track" 117 Y_L_endOf 1 := ⟨ws_2 (List.mem_of_getElem? (i := 181) rfl) rfl, ws_1 (List.mem_of_getElem? (i := 3) rfl) rfl, ws_2 (List.mem_of_getElem? (i := 16) rfl) rfl, ⟨by decide +kernel, by decide +kernel, by decide +kernel⟩, by decide⟩
theorem lm_K_120 : mx_L "MovieBoxes$Track" 120 Y_Z_sizeOf 1 := ⟨ws_2 (List.mem_of_getElem? (i := 177) rfl) rfl, ws_1 (List.mem_of_getElem? (i := 6) rfl) rfl, ws_2 (List.mem_of_getElem? (i := 180) rfl) rfl, ⟨by decide +kernel, by decide +kernel, by decide +kernel⟩, by decide⟩
theorem ls_Z_sizeOf : Cond.instanceMethod Y_Z_sizeOf.1 ∈ WS ∧ Cond.selects Y_Z_sizeOf.1.cls Y_Z_sizeOf.1 Y_Z_sizeOf.1 ∈ WS := ⟨ws_2 (List.mem_of_getElem? (i := 178) rfl) rfl, ws_2 (List.mem_of_getElem? (i := 179) rfl) rfl⟩
theorem lm_K_123 : mx_L "MovieBoxes$Track" 123 Y_J_min 2 := ⟨ws_2 (List.mem_of_getElem? (i := 186) rfl) rfl, ws_1 (List.mem_of_getElem? (i := 9) rfl) rfl, ws_2 (List.mem_of_getElem? (i := 188) rfl) rfl, ⟨by decide +kernel, by decide +kernel, by decide +kernel⟩, by decide⟩
theorem ls_J_min : Cond.static Y_J_min.1 ∈ WS := ws_2 (List.mem_of_getElem? (i := 187) rfl) rfl
theorem lm_K_128 : mx_L "MovieBoxes$Track" 128 Y_K_spreadDurations 0 := ⟨ws_2 (List.mem_of_getElem? (i := 189) rfl) rfl, ws_1 (List.mem_of_getElem? (i := 4) rfl) rfl, ws_2 (List.mem_of_getElem? (i := 192) rfl) rfl, ⟨by decide +kernel, by decide +kernel, by decide +kernel⟩, by decide⟩
theorem ls_K_spreadDurations : Cond.instanceMethod Y_K_spreadDurations.1 ∈ WS ∧ Cond.selects Y_K_spreadDurations.1.cls Y_K_spreadDurations.1 Y_K_spreadDurations.1 ∈ WS := ⟨ws_2 (List.mem_of_getElem? (i := 191) rfl) rfl, ws_s1 (q := (⟨"MovieBoxes$Track", "spreadDurations", "()V"⟩, 10)) (List.mem_of_getElem? (i := 14) rfl) rfl⟩
theorem lm_K_131 : mx_L "MovieBoxes$Track" 131 Y_K_spreadShifts 0 := ⟨ws_2 (List.mem_of_getElem? (i := 193) rfl) rfl, ws_1 (List.mem_of_getElem? (i := 4) rfl) rfl, ws_2 (List.mem_of_getElem? (i := 196) rfl) rfl, ⟨by decide +kernel, by decide +kernel, by decide +kernel⟩, by decide⟩
theorem ls_K_spreadShifts : Cond.instanceMethod Y_K_spreadShifts.1 ∈ WS ∧ Cond.selects Y_K_spreadShifts.1.cls Y_K_spreadShifts.1 Y_K_spreadShifts.1 ∈ WS := ⟨ws_2 (List.mem_of_getElem? (i := 195) rfl) rfl, ws_s1 (q := (⟨"MovieBoxes$Track", "spreadShifts", "()V"⟩, 10)) (List.mem_of_getElem? (i := 15) rfl) rfl⟩
theorem lm_K_134 : mx_L "MovieBoxes$Track" 134 Y_K_spreadSyncs 0 := ⟨ws_2 (List.mem_of_getElem? (i := 197) rfl) rfl, ws_1 (List.mem_of_getElem? (i := 4) rfl) rfl, ws_2 (List.mem_of_getElem? (i := 200) rfl) rfl, ⟨by decide +kernel, by decide +kernel, by decide +kernel⟩, by decide⟩
theorem ls_K_spreadSyncs : Cond.instanceMethod Y_K_spreadSyncs.1 ∈ WS ∧ Cond.selects Y_K_spreadSyncs.1.cls Y_K_spreadSyncs.1 Y_K_spreadSyncs.1 ∈ WS := ⟨ws_2 (List.mem_of_getElem? (i := 199) rfl) rfl, ws_s2 (q := (⟨"MovieBoxes$Track", "spreadSyncs", "()V"⟩, 10)) (List.mem_of_getElem? (i := 0) rfl) rfl⟩
theorem lm_K_137 : mx_L "MovieBoxes$Track" 137 Y_K_spreadChunks 0 := ⟨ws_2 (List.mem_of_getElem? (i := 201) rfl) rfl, ws_1 (List.mem_of_getElem? (i := 4) rfl) rfl, ws_2 (List.mem_of_getElem? (i := 204) rfl) rfl, ⟨by decide +kernel, by decide +kernel, by decide +kernel⟩, by decide⟩
theorem ls_K_spreadChunks : Cond.instanceMethod Y_K_spreadChunks.1 ∈ WS ∧ Cond.selects Y_K_spreadChunks.1.cls Y_K_spreadChunks.1 Y_K_spreadChunks.1 ∈ WS := ⟨ws_2 (List.mem_of_getElem? (i := 203) rfl) rfl, ws_s2 (q := (⟨"MovieBoxes$Track", "spreadChunks", "()V"⟩, 10)) (List.mem_of_getElem? (i := 1) rfl) rfl⟩
theorem lm_M_78 : mx_L "MovieBoxes" 78 Y_M_boxesAreKnown 0 := ⟨ws_2 (List.mem_of_getElem? (i := 209) rfl) rfl, ws_1 (List.mem_of_getElem? (i := 1) rfl) rfl, ws_2 (List.mem_of_getElem? (i := 212) rfl) rfl, ⟨by decide +kernel, by decide +kernel, by decide +kernel⟩, by decide⟩
theorem ls_M_boxesAreKnown : Cond.instanceMethod Y_M_boxesAreKnown.1 ∈ WS ∧ Cond.selects Y_M_boxesAreKnown.1.cls Y_M_boxesAreKnown.1 Y_M_boxesAreKnown.1 ∈ WS := ⟨ws_2 (List.mem_of_getElem? (i := 211) rfl) rfl, ws_s2 (q := (⟨"MovieBoxes", "boxesAreKnown", "()Z"⟩, 7)) (List.mem_of_getElem? (i := 2) rfl) rfl⟩
theorem lm_M_87 : mx_L "MovieBoxes" 87 Y_M_soundTrack 1 := ⟨ws_2 (List.mem_of_getElem? (i := 225) rfl) rfl, ws_1 (List.mem_of_getElem? (i := 1) rfl) rfl, ws_2 (List.mem_of_getElem? (i := 228) rfl) rfl, ⟨by decide +kernel, by decide +kernel, by decide +kernel⟩, by decide⟩
theorem ls_M_soundTrack : Cond.instanceMethod Y_M_soundTrack.1 ∈ WS ∧ Cond.selects Y_M_soundTrack.1.cls Y_M_soundTrack.1 Y_M_soundTrack.1 ∈ WS := ⟨ws_2 (List.mem_of_getElem? (i := 227) rfl) rfl, ws_s2 (q := (⟨"MovieBoxes", "soundTrack", "(I)LMovieBoxes$Track;"⟩, 7)) (List.mem_of_getElem? (i := 3) rfl) rfl⟩
theorem lm_M_91 : mx_L "MovieBoxes" 91 Y_K_sampleCount 0 := ⟨ws_2 (List.mem_of_getElem? (i := 229) rfl) rfl, ws_1 (List.mem_of_getElem? (i := 4) rfl) rfl, ws_2 (List.mem_of_getElem? (i := 232) rfl) rfl, ⟨by decide +kernel, by decide +kernel, by decide +kernel⟩, by decide⟩
theorem ls_K_sampleCount : Cond.instanceMethod Y_K_sampleCount.1 ∈ WS ∧ Cond.selects Y_K_sampleCount.1.cls Y_K_sampleCount.1 Y_K_sampleCount.1 ∈ WS := ⟨ws_2 (List.mem_of_getElem? (i := 230) rfl) rfl, ws_2 (List.mem_of_getElem? (i := 231) rfl) rfl⟩
theorem lm_M_94 : mx_L "MovieBoxes" 94 Y_K_of 2 := ⟨ws_2 (List.mem_of_getElem? (i := 237) rfl) rfl, ws_1 (List.mem_of_getElem? (i := 4) rfl) rfl, ws_3 (List.mem_of_getElem? (i := 0) rfl) rfl, ⟨by decide +kernel, by decide +kernel, by decide +kernel⟩, by decide⟩
theorem ls_K_of : Cond.instanceMethod Y_K_of.1 ∈ WS ∧ Cond.selects Y_K_of.1.cls Y_K_of.1 Y_K_of.1 ∈ WS := ⟨ws_2 (List.mem_of_getElem? (i := 238) rfl) rfl, ws_2 (List.mem_of_getElem? (i := 239) rfl) rfl⟩
theorem lm_M_95 : mx_L "MovieBoxes" 95 Y_K_shownAt 1 := ⟨ws_3 (List.mem_of_getElem? (i := 5) rfl) rfl, ws_1 (List.mem_of_getElem? (i := 4) rfl) rfl, ws_3 (List.mem_of_getElem? (i := 8) rfl) rfl, ⟨by decide +kernel, by decide +kernel, by decide +kernel⟩, by decide⟩
theorem ls_K_shownAt : Cond.instanceMethod Y_K_shownAt.1 ∈ WS ∧ Cond.selects Y_K_shownAt.1.cls Y_K_shownAt.1 Y_K_shownAt.1 ∈ WS := ⟨ws_3 (List.mem_of_getElem? (i := 6) rfl) rfl, ws_3 (List.mem_of_getElem? (i := 7) rfl) rfl⟩
theorem lm_K_140 : mx_L "MovieBoxes$Track" 140 Y_K_mediaTime 1 := ⟨ws_3 (List.mem_of_getElem? (i := 9) rfl) rfl, ws_1 (List.mem_of_getElem? (i := 4) rfl) rfl, ws_3 (List.mem_of_getElem? (i := 12) rfl) rfl, ⟨by decide +kernel, by decide +kernel, by decide +kernel⟩, by decide⟩
theorem ls_K_mediaTime : Cond.instanceMethod Y_K_mediaTime.1 ∈ WS ∧ Cond.selects Y_K_mediaTime.1.cls Y_K_mediaTime.1 Y_K_mediaTime.1 ∈ WS := ⟨ws_3 (List.mem_of_getElem? (i := 11) rfl) rfl, ws_s2 (q := (⟨"MovieBoxes$Track", "mediaTime", "(I)I"⟩, 10)) (List.mem_of_getElem? (i := 4) rfl) rfl⟩
theorem lm_M_98 : mx_L "MovieBoxes" 98 Y_L_find 2 := ⟨ws_3 (List.mem_of_getElem? (i := 17) rfl) rfl, ws_1 (List.mem_of_getElem? (i := 3) rfl) rfl, ws_2 (List.mem_of_getElem? (i := 60) rfl) rfl, ⟨by decide +kernel, by decide +kernel, by decide +kernel⟩, by decide⟩
theorem lm_M_101 : mx_L "MovieBoxes" 101 Y_V_move 2 := ⟨ws_3 (List.mem_of_getElem? (i := 18) rfl) rfl, ws_1 (List.mem_of_getElem? (i := 7) rfl) rfl, ws_3 (List.mem_of_getElem? (i := 21) rfl) rfl, ⟨by decide +kernel, by decide +kernel, by decide +kernel⟩, by decide⟩
theorem ls_V_move : Cond.instanceMethod Y_V_move.1 ∈ WS ∧ Cond.selects Y_V_move.1.cls Y_V_move.1 Y_V_move.1 ∈ WS := ⟨ws_3 (List.mem_of_getElem? (i := 19) rfl) rfl, ws_3 (List.mem_of_getElem? (i := 20) rfl) rfl⟩
theorem lm_V_43 : mx_L "MovieBoxes$Mover" 43 Y_V_behindMovie 0 := ⟨ws_3 (List.mem_of_getElem? (i := 22) rfl) rfl, ws_1 (List.mem_of_getElem? (i := 7) rfl) rfl, ws_3 (List.mem_of_getElem? (i := 25) rfl) rfl, ⟨by decide +kernel, by decide +kernel, by decide +kernel⟩, by decide⟩
theorem ls_V_behindMovie : Cond.instanceMethod Y_V_behindMovie.1 ∈ WS ∧ Cond.selects Y_V_behindMovie.1.cls Y_V_behindMovie.1 Y_V_behindMovie.1 ∈ WS := ⟨ws_3 (List.mem_of_getElem? (i := 24) rfl) rfl, ws_s2 (q := (⟨"MovieBoxes$Mover", "behindMovie", "()I"⟩, 8)) (List.mem_of_getElem? (i := 5) rfl) rfl⟩
theorem lm_V_47 : mx_L "MovieBoxes$Mover" 47 Y_V_settleWidths 0 := ⟨ws_3 (List.mem_of_getElem? (i := 28) rfl) rfl, ws_1 (List.mem_of_getElem? (i := 7) rfl) rfl, ws_3 (List.mem_of_getElem? (i := 31) rfl) rfl, ⟨by decide +kernel, by decide +kernel, by decide +kernel⟩, by decide⟩
theorem ls_V_settleWidths : Cond.instanceMethod Y_V_settleWidths.1 ∈ WS ∧ Cond.selects Y_V_settleWidths.1.cls Y_V_settleWidths.1 Y_V_settleWidths.1 ∈ WS := ⟨ws_3 (List.mem_of_getElem? (i := 30) rfl) rfl, ws_s2 (q := (⟨"MovieBoxes$Mover", "settleWidths", "()V"⟩, 8)) (List.mem_of_getElem? (i := 6) rfl) rfl⟩
theorem lm_V_52 : mx_L "MovieBoxes$Mover" 52 Y_L_of 2 := ⟨ws_3 (List.mem_of_getElem? (i := 27) rfl) rfl, ws_1 (List.mem_of_getElem? (i := 3) rfl) rfl, ws_2 (List.mem_of_getElem? (i := 20) rfl) rfl, ⟨by decide +kernel, by decide +kernel, by decide +kernel⟩, by decide⟩
theorem lm_V_56 : mx_L "MovieBoxes$Mover" 56 Y_B_size 0 := ⟨ws_3 (List.mem_of_getElem? (i := 74) rfl) rfl, ws_1 (List.mem_of_getElem? (i := 2) rfl) rfl, ws_1 (List.mem_of_getElem? (i := 199) rfl) rfl, ⟨by decide +kernel, by decide +kernel, by decide +kernel⟩, by decide⟩
theorem lm_V_59 : mx_L "MovieBoxes$Mover" 59 Y_V_newSize 1 := ⟨ws_3 (List.mem_of_getElem? (i := 52) rfl) rfl, ws_1 (List.mem_of_getElem? (i := 7) rfl) rfl, ws_3 (List.mem_of_getElem? (i := 55) rfl) rfl, ⟨by decide +kernel, by decide +kernel, by decide +kernel⟩, by decide⟩
theorem ls_V_newSize : Cond.instanceMethod Y_V_newSize.1 ∈ WS ∧ Cond.selects Y_V_newSize.1.cls Y_V_newSize.1 Y_V_newSize.1 ∈ WS := ⟨ws_3 (List.mem_of_getElem? (i := 54) rfl) rfl, ws_s2 (q := (⟨"MovieBoxes$Mover", "newSize", "(I)I"⟩, 8)) (List.mem_of_getElem? (i := 11) rfl) rfl⟩
theorem lm_V_63 : mx_L "MovieBoxes$Mover" 63 Y_B_keep 1 := ⟨ws_3 (List.mem_of_getElem? (i := 75) rfl) rfl, ws_1 (List.mem_of_getElem? (i := 2) rfl) rfl, ws_1 (List.mem_of_getElem? (i := 228) rfl) rfl, ⟨by decide +kernel, by decide +kernel, by decide +kernel⟩, by decide⟩
theorem lm_V_67 : mx_L "MovieBoxes$Mover" 67 Y_B_addPart 3 := ⟨ws_3 (List.mem_of_getElem? (i := 76) rfl) rfl, ws_1 (List.mem_of_getElem? (i := 2) rfl) rfl, ws_3 (List.mem_of_getElem? (i := 79) rfl) rfl, ⟨by decide +kernel, by decide +kernel, by decide +kernel⟩, by decide⟩
theorem ls_B_addPart : Cond.instanceMethod Y_B_addPart.1 ∈ WS ∧ Cond.selects Y_B_addPart.1.cls Y_B_addPart.1 Y_B_addPart.1 ∈ WS := ⟨ws_3 (List.mem_of_getElem? (i := 77) rfl) rfl, ws_3 (List.mem_of_getElem? (i := 78) rfl) rfl⟩
theorem lm_V_71 : mx_L "MovieBoxes$Mover" 71 Y_V_writeBox 1 := ⟨ws_3 (List.mem_of_getElem? (i := 82) rfl) rfl, ws_1 (List.mem_of_getElem? (i := 7) rfl) rfl, ws_3 (List.mem_of_getElem? (i := 85) rfl) rfl, ⟨by decide +kernel, by decide +kernel, by decide +kernel⟩, by decide⟩
theorem ls_V_writeBox : Cond.instanceMethod Y_V_writeBox.1 ∈ WS ∧ Cond.selects Y_V_writeBox.1.cls Y_V_writeBox.1 Y_V_writeBox.1 ∈ WS := ⟨ws_3 (List.mem_of_getElem? (i := 84) rfl) rfl, ws_s3 (q := (⟨"MovieBoxes$Mover", "writeBox", "(I)V"⟩, 8)) (List.mem_of_getElem? (i := 0) rfl) rfl⟩
theorem lm_V_74 : mx_L "MovieBoxes$Mover" 74 Y_L_endOf 1 := ⟨ws_3 (List.mem_of_getElem? (i := 99) rfl) rfl, ws_1 (List.mem_of_getElem? (i := 3) rfl) rfl, ws_2 (List.mem_of_getElem? (i := 16) rfl) rfl, ⟨by decide +kernel, by decide +kernel, by decide +kernel⟩, by decide⟩
theorem lm_V_77 : mx_L "MovieBoxes$Mover" 77 Y_B_become 1 := ⟨ws_3 (List.mem_of_getElem? (i := 100) rfl) rfl, ws_1 (List.mem_of_getElem? (i := 2) rfl) rfl, ws_3 (List.mem_of_getElem? (i := 103) rfl) rfl, ⟨by decide +kernel, by decide +kernel, by decide +kernel⟩, by decide⟩
theorem ls_B_become : Cond.instanceMethod Y_B_become.1 ∈ WS ∧ Cond.selects Y_B_become.1.cls Y_B_become.1 Y_B_become.1 ∈ WS := ⟨ws_3 (List.mem_of_getElem? (i := 101) rfl) rfl, ws_3 (List.mem_of_getElem? (i := 102) rfl) rfl⟩
theorem lm_V_81 : mx_L "MovieBoxes$Mover" 81 Y_L_size 0 := ⟨ws_3 (List.mem_of_getElem? (i := 26) rfl) rfl, ws_1 (List.mem_of_getElem? (i := 3) rfl) rfl, ws_2 (List.mem_of_getElem? (i := 72) rfl) rfl, ⟨by decide +kernel, by decide +kernel, by decide +kernel⟩, by decide⟩
theorem lm_V_82 : mx_L "MovieBoxes$Mover" 82 Y_V_measure 0 := ⟨ws_3 (List.mem_of_getElem? (i := 32) rfl) rfl, ws_1 (List.mem_of_getElem? (i := 7) rfl) rfl, ws_3 (List.mem_of_getElem? (i := 35) rfl) rfl, ⟨by decide +kernel, by decide +kernel, by decide +kernel⟩, by decide⟩
theorem ls_V_measure : Cond.instanceMethod Y_V_measure.1 ∈ WS ∧ Cond.selects Y_V_measure.1.cls Y_V_measure.1 Y_V_measure.1 ∈ WS := ⟨ws_3 (List.mem_of_getElem? (i := 34) rfl) rfl, ws_s2 (q := (⟨"MovieBoxes$Mover", "measure", "()V"⟩, 8)) (List.mem_of_getElem? (i := 7) rfl) rfl⟩
theorem lm_V_85 : mx_L "MovieBoxes$Mover" 85 Y_V_widenSome 0 := ⟨ws_3 (List.mem_of_getElem? (i := 56) rfl) rfl, ws_1 (List.mem_of_getElem? (i := 7) rfl) rfl, ws_3 (List.mem_of_getElem? (i := 59) rfl) rfl, ⟨by decide +kernel, by decide +kernel, by decide +kernel⟩, by decide⟩
theorem ls_V_widenSome : Cond.instanceMethod Y_V_widenSome.1 ∈ WS ∧ Cond.selects Y_V_widenSome.1.cls Y_V_widenSome.1 Y_V_widenSome.1 ∈ WS := ⟨ws_3 (List.mem_of_getElem? (i := 58) rfl) rfl, ws_s2 (q := (⟨"MovieBoxes$Mover", "widenSome", "()Z"⟩, 8)) (List.mem_of_getElem? (i := 12) rfl) rfl⟩
theorem lm_V_89 : mx_L "MovieBoxes$Mover" 89 Y_V_ownPayload 1 := ⟨ws_3 (List.mem_of_getElem? (i := 36) rfl) rfl, ws_1 (List.mem_of_getElem? (i := 7) rfl) rfl, ws_3 (List.mem_of_getElem? (i := 39) rfl) rfl, ⟨by decide +kernel, by decide +kernel, by decide +kernel⟩, by decide⟩
theorem ls_V_ownPayload : Cond.instanceMethod Y_V_ownPayload.1 ∈ WS ∧ Cond.selects Y_V_ownPayload.1.cls Y_V_ownPayload.1 Y_V_ownPayload.1 ∈ WS := ⟨ws_3 (List.mem_of_getElem? (i := 38) rfl) rfl, ws_s2 (q := (⟨"MovieBoxes$Mover", "ownPayload", "(I)I"⟩, 8)) (List.mem_of_getElem? (i := 8) rfl) rfl⟩
theorem lm_V_92 : mx_L "MovieBoxes$Mover" 92 Y_V_newHeader 1 := ⟨ws_3 (List.mem_of_getElem? (i := 48) rfl) rfl, ws_1 (List.mem_of_getElem? (i := 7) rfl) rfl, ws_3 (List.mem_of_getElem? (i := 51) rfl) rfl, ⟨by decide +kernel, by decide +kernel, by decide +kernel⟩, by decide⟩
theorem ls_V_newHeader : Cond.instanceMethod Y_V_newHeader.1 ∈ WS ∧ Cond.selects Y_V_newHeader.1.cls Y_V_newHeader.1 Y_V_newHeader.1 ∈ WS := ⟨ws_3 (List.mem_of_getElem? (i := 50) rfl) rfl, ws_s2 (q := (⟨"MovieBoxes$Mover", "newHeader", "(I)I"⟩, 8)) (List.mem_of_getElem? (i := 10) rfl) rfl⟩
theorem lm_V_95 : mx_L "MovieBoxes$Mover" 95 Y_L_holdsBoxes 1 := ⟨ws_3 (List.mem_of_getElem? (i := 40) rfl) rfl, ws_1 (List.mem_of_getElem? (i := 3) rfl) rfl, ws_2 (List.mem_of_getElem? (i := 44) rfl) rfl, ⟨by decide +kernel, by decide +kernel, by decide +kernel⟩, by decide⟩
theorem lm_V_99 : mx_L "MovieBoxes$Mover" 99 Y_L_payloadSizeOf 1 := ⟨ws_3 (List.mem_of_getElem? (i := 41) rfl) rfl, ws_1 (List.mem_of_getElem? (i := 3) rfl) rfl, ws_2 (List.mem_of_getElem? (i := 87) rfl) rfl, ⟨by decide +kernel, by decide +kernel, by decide +kernel⟩, by decide⟩
theorem lm_V_102 : mx_L "MovieBoxes$Mover" 102 Y_V_rowsOf 1 := ⟨ws_3 (List.mem_of_getElem? (i := 42) rfl) rfl, ws_1 (List.mem_of_getElem? (i := 7) rfl) rfl, ws_3 (List.mem_of_getElem? (i := 45) rfl) rfl, ⟨by decide +kernel, by decide +kernel, by decide +kernel⟩, by decide⟩
theorem ls_V_rowsOf : Cond.instanceMethod Y_V_rowsOf.1 ∈ WS ∧ Cond.selects Y_V_rowsOf.1.cls Y_V_rowsOf.1 Y_V_rowsOf.1 ∈ WS := ⟨ws_3 (List.mem_of_getElem? (i := 44) rfl) rfl, ws_s2 (q := (⟨"MovieBoxes$Mover", "rowsOf", "(I)I"⟩, 8)) (List.mem_of_getElem? (i := 9) rfl) rfl⟩
theorem lm_V_105 : mx_L "MovieBoxes$Mover" 105 Y_L_payloadOf 1 := ⟨ws_3 (List.mem_of_getElem? (i := 46) rfl) rfl, ws_1 (List.mem_of_getElem? (i := 3) rfl) rfl, ws_2 (List.mem_of_getElem? (i := 48) rfl) rfl, ⟨by decide +kernel, by decide +kernel, by decide +kernel⟩, by decide⟩
theorem lm_V_108 : mx_L "MovieBoxes$Mover" 108 Y_B_at 1 := ⟨ws_3 (List.mem_of_getElem? (i := 47) rfl) rfl, ws_1 (List.mem_of_getElem? (i := 2) rfl) rfl, ws_1 (List.mem_of_getElem? (i := 215) rfl) rfl, ⟨by decide +kernel, by decide +kernel, by decide +kernel⟩, by decide⟩
theorem lm_V_111 : mx_L "MovieBoxes$Mover" 111 Y_V_outgrowsBytes 1 := ⟨ws_3 (List.mem_of_getElem? (i := 60) rfl) rfl, ws_1 (List.mem_of_getElem? (i := 7) rfl) rfl, ws_3 (List.mem_of_getElem? (i := 63) rfl) rfl, ⟨by decide +kernel, by decide +kernel, by decide +kernel⟩, by decide⟩
theorem ls_V_outgrowsBytes : Cond.instanceMethod Y_V_outgrowsBytes.1 ∈ WS ∧ Cond.selects Y_V_outgrowsBytes.1.cls Y_V_outgrowsBytes.1 Y_V_outgrowsBytes.1 ∈ WS := ⟨ws_3 (List.mem_of_getElem? (i := 62) rfl) rfl, ws_s2 (q := (⟨"MovieBoxes$Mover", "outgrowsBytes", "(I)Z"⟩, 8)) (List.mem_of_getElem? (i := 13) rfl) rfl⟩
theorem lm_V_114 : mx_L "MovieBoxes$Mover" 114 Y_V_oldPlace 2 := ⟨ws_3 (List.mem_of_getElem? (i := 64) rfl) rfl, ws_1 (List.mem_of_getElem? (i := 7) rfl) rfl, ws_3 (List.mem_of_getElem? (i := 67) rfl) rfl, ⟨by decide +kernel, by decide +kernel, by decide +kernel⟩, by decide⟩
theorem ls_V_oldPlace : Cond.instanceMethod Y_V_oldPlace.1 ∈ WS ∧ Cond.selects Y_V_oldPlace.1.cls Y_V_oldPlace.1 Y_V_oldPlace.1 ∈ WS := ⟨ws_3 (List.mem_of_getElem? (i := 66) rfl) rfl, ws_s2 (q := (⟨"MovieBoxes$Mover", "oldPlace", "(II)I"⟩, 8)) (List.mem_of_getElem? (i := 14) rfl) rfl⟩
theorem lm_V_117 : mx_L "MovieBoxes$Mover" 117 Y_V_newPlace 1 := ⟨ws_3 (List.mem_of_getElem? (i := 69) rfl) rfl, ws_1 (List.mem_of_getElem? (i := 7) rfl) rfl, ws_3 (List.mem_of_getElem? (i := 72) rfl) rfl, ⟨by decide +kernel, by decide +kernel, by decide +kernel⟩, by decide⟩
theorem ls_V_newPlace : Cond.instanceMethod Y_V_newPlace.1 ∈ WS ∧ Cond.selects Y_V_newPlace.1.cls Y_V_newPlace.1 Y_V_newPlace.1 ∈ WS := ⟨ws_3 (List.mem_of_getElem? (i := 71) rfl) rfl, ws_s2 (q := (⟨"MovieBoxes$Mover", "newPlace", "(I)I"⟩, 8)) (List.mem_of_getElem? (i := 15) rfl) rfl⟩
theorem lm_V_120 : mx_L "MovieBoxes$Mover" 120 Y_B_pairAt 1 := ⟨ws_3 (List.mem_of_getElem? (i := 68) rfl) rfl, ws_1 (List.mem_of_getElem? (i := 2) rfl) rfl, ws_2 (List.mem_of_getElem? (i := 30) rfl) rfl, ⟨by decide +kernel, by decide +kernel, by decide +kernel⟩, by decide⟩
theorem lm_V_123 : mx_L "MovieBoxes$Mover" 123 Y_L_dataAround 1 := ⟨ws_3 (List.mem_of_getElem? (i := 73) rfl) rfl, ws_1 (List.mem_of_getElem? (i := 3) rfl) rfl, ws_2 (List.mem_of_getElem? (i := 172) rfl) rfl, ⟨by decide +kernel, by decide +kernel, by decide +kernel⟩, by decide⟩
theorem lm_B_27 : mx_L "MovieBoxes$Bytes" 27 Y_B_at 1 := ⟨ws_3 (List.mem_of_getElem? (i := 80) rfl) rfl, ws_1 (List.mem_of_getElem? (i := 2) rfl) rfl, ws_1 (List.mem_of_getElem? (i := 215) rfl) rfl, ⟨by decide +kernel, by decide +kernel, by decide +kernel⟩, by decide⟩
theorem lm_B_23 : mx_L "MovieBoxes$Bytes" 23 Y_B_add 1 := ⟨ws_3 (List.mem_of_getElem? (i := 81) rfl) rfl, ws_1 (List.mem_of_getElem? (i := 2) rfl) rfl, ws_1 (List.mem_of_getElem? (i := 203) rfl) rfl, ⟨by decide +kernel, by decide +kernel, by decide +kernel⟩, by decide⟩
theorem lm_V_126 : mx_L "MovieBoxes$Mover" 126 Y_V_writeHeader 1 := ⟨ws_3 (List.mem_of_getElem? (i := 86) rfl) rfl, ws_1 (List.mem_of_getElem? (i := 7) rfl) rfl, ws_3 (List.mem_of_getElem? (i := 89) rfl) rfl, ⟨by decide +kernel, by decide +kernel, by decide +kernel⟩, by decide⟩
theorem ls_V_writeHeader : Cond.instanceMethod Y_V_writeHeader.1 ∈ WS ∧ Cond.selects Y_V_writeHeader.1.cls Y_V_writeHeader.1 Y_V_writeHeader.1 ∈ WS := ⟨ws_3 (List.mem_of_getElem? (i := 88) rfl) rfl, ws_s3 (q := (⟨"MovieBoxes$Mover", "writeHeader", "(I)V"⟩, 8)) (List.mem_of_getElem? (i := 1) rfl) rfl⟩
theorem lm_V_129 : mx_L "MovieBoxes$Mover" 129 Y_V_writePlaces 1 := ⟨ws_3 (List.mem_of_getElem? (i := 95) rfl) rfl, ws_1 (List.mem_of_getElem? (i := 7) rfl) rfl, ws_3 (List.mem_of_getElem? (i := 98) rfl) rfl, ⟨by decide +kernel, by decide +kernel, by decide +kernel⟩, by decide⟩
theorem ls_V_writePlaces : Cond.instanceMethod Y_V_writePlaces.1 ∈ WS ∧ Cond.selects Y_V_writePlaces.1.cls Y_V_writePlaces.1 Y_V_writePlaces.1 ∈ WS := ⟨ws_3 (List.mem_of_getElem? (i := 97) rfl) rfl, ws_s3 (q := (⟨"MovieBoxes$Mover", "writePlaces", "(I)V"⟩, 8)) (List.mem_of_getElem? (i := 2) rfl) rfl⟩
theorem lm_V_132 : mx_L "MovieBoxes$Mover" 132 Y_B_add 1 := ⟨ws_3 (List.mem_of_getElem? (i := 90) rfl) rfl, ws_1 (List.mem_of_getElem? (i := 2) rfl) rfl, ws_1 (List.mem_of_getElem? (i := 203) rfl) rfl, ⟨by decide +kernel, by decide +kernel, by decide +kernel⟩, by decide⟩
theorem lm_V_135 : mx_L "MovieBoxes$Mover" 135 Y_B_addPair 1 := ⟨ws_3 (List.mem_of_getElem? (i := 91) rfl) rfl, ws_1 (List.mem_of_getElem? (i := 2) rfl) rfl, ws_3 (List.mem_of_getElem? (i := 94) rfl) rfl, ⟨by decide +kernel, by decide +kernel, by decide +kernel⟩, by decide⟩
theorem ls_B_addPair : Cond.instanceMethod Y_B_addPair.1 ∈ WS ∧ Cond.selects Y_B_addPair.1.cls Y_B_addPair.1 Y_B_addPair.1 ∈ WS := ⟨ws_3 (List.mem_of_getElem? (i := 92) rfl) rfl, ws_3 (List.mem_of_getElem? (i := 93) rfl) rfl⟩
theorem lm_B_31 : mx_L "MovieBoxes$Bytes" 31 Y_B_keep 1 := ⟨ws_3 (List.mem_of_getElem? (i := 104) rfl) rfl, ws_1 (List.mem_of_getElem? (i := 2) rfl) rfl, ws_1 (List.mem_of_getElem? (i := 228) rfl) rfl, ⟨by decide +kernel, by decide +kernel, by decide +kernel⟩, by decide⟩
theorem lm_B_34 : mx_L "MovieBoxes$Bytes" 34 Y_B_size 0 := ⟨ws_3 (List.mem_of_getElem? (i := 105) rfl) rfl, ws_1 (List.mem_of_getElem? (i := 2) rfl) rfl, ws_1 (List.mem_of_getElem? (i := 199) rfl) rfl, ⟨by decide +kernel, by decide +kernel, by decide +kernel⟩, by decide⟩
theorem lm_B_38 : mx_L "MovieBoxes$Bytes" 38 Y_B_addPart 3 := ⟨ws_3 (List.mem_of_getElem? (i := 106) rfl) rfl, ws_1 (List.mem_of_getElem? (i := 2) rfl) rfl, ws_3 (List.mem_of_getElem? (i := 79) rfl) rfl, ⟨by decide +kernel, by decide +kernel, by decide +kernel⟩, by decide⟩
theorem lm_R_1 : Cond.methodLink "MovieBoxesModel" 1 objectInit ∈ WS := ws_3 (List.mem_of_getElem? (i := 112) rfl) rfl
theorem lf_R_7 : mx_F "MovieBoxesModel" 7 7 0 true (.array .int) := ⟨"MovieBoxesModel", fd_R, 21, ft_R, rfl, by decide, fi_R, fo_R, fn_R, ws_3 (List.mem_of_getElem? (i := 113) rfl) rfl, rfl, by decide +kernel, rfl⟩
theorem lf_R_13 : mx_F "MovieBoxesModel" 13 7 3 true (.array .int) := ⟨"MovieBoxesModel", fd_R, 21, ft_R, rfl, by decide, fi_R, fo_R, fn_R, ws_3 (List.mem_of_getElem? (i := 116) rfl) rfl, rfl, by decide +kernel, rfl⟩
theorem lf_R_16 : mx_F "MovieBoxesModel" 16 7 4 true (.array .int) := ⟨"MovieBoxesModel", fd_R, 21, ft_R, rfl, by decide, fi_R, fo_R, fn_R, ws_3 (List.mem_of_getElem? (i := 117) rfl) rfl, rfl, by decide +kernel, rfl⟩
theorem lf_R_19 : mx_F "MovieBoxesModel" 19 7 5 true (.array .int) := ⟨"MovieBoxesModel", fd_R, 21, ft_R, rfl, by decide, fi_R, fo_R, fn_R, ws_3 (List.mem_of_getElem? (i := 118) rfl) rfl, rfl, by decide +kernel, rfl⟩
theorem lf_R_22 : mx_F "MovieBoxesModel" 22 7 6 true (.array .int) := ⟨"MovieBoxesModel", fd_R, 21, ft_R, rfl, by decide, fi_R, fo_R, fn_R, ws_3 (List.mem_of_getElem? (i := 119) rfl) rfl, rfl, by decide +kernel, rfl⟩
theorem lf_R_25 : mx_F "MovieBoxesModel" 25 7 7 true (.array .int) := ⟨"MovieBoxesModel", fd_R, 21, ft_R, rfl, by decide, fi_R, fo_R, fn_R, ws_3 (List.mem_of_getElem? (i := 120) rfl) rfl, rfl, by decide +kernel, rfl⟩
theorem lf_R_28 : mx_F "MovieBoxesModel" 28 7 8 true (.array .int) := ⟨"MovieBoxesModel", fd_R, 21, ft_R, rfl, by decide, fi_R, fo_R, fn_R, ws_3 (List.mem_of_getElem? (i := 121) rfl) rfl, rfl, by decide +kernel, rfl⟩
theorem lf_R_31 : mx_F "MovieBoxesModel" 31 7 9 true (.array .int) := ⟨"MovieBoxesModel", fd_R, 21, ft_R, rfl, by decide, fi_R, fo_R, fn_R, ws_3 (List.mem_of_getElem? (i := 122) rfl) rfl, rfl, by decide +kernel, rfl⟩
theorem lf_R_34 : mx_F "MovieBoxesModel" 34 7 10 true (.array .int) := ⟨"MovieBoxesModel", fd_R, 21, ft_R, rfl, by decide, fi_R, fo_R, fn_R, ws_3 (List.mem_of_getElem? (i := 123) rfl) rfl, rfl, by decide +kernel, rfl⟩
theorem lf_R_37 : mx_F "MovieBoxesModel" 37 7 13 true (.array .int) := ⟨"MovieBoxesModel", fd_R, 21, ft_R, rfl, by decide, fi_R, fo_R, fn_R, ws_3 (List.mem_of_getElem? (i := 126) rfl) rfl, rfl, by decide +kernel, rfl⟩
theorem lf_R_40 : mx_F "MovieBoxesModel" 40 7 14 true (.array .int) := ⟨"MovieBoxesModel", fd_R, 21, ft_R, rfl, by decide, fi_R, fo_R, fn_R, ws_3 (List.mem_of_getElem? (i := 127) rfl) rfl, rfl, by decide +kernel, rfl⟩
theorem lf_R_43 : mx_F "MovieBoxesModel" 43 7 15 true (.array .int) := ⟨"MovieBoxesModel", fd_R, 21, ft_R, rfl, by decide, fi_R, fo_R, fn_R, ws_3 (List.mem_of_getElem? (i := 128) rfl) rfl, rfl, by decide +kernel, rfl⟩
theorem lf_R_46 : mx_F "MovieBoxesModel" 46 7 16 true (.array .int) := ⟨"MovieBoxesModel", fd_R, 21, ft_R, rfl, by decide, fi_R, fo_R, fn_R, ws_3 (List.mem_of_getElem? (i := 129) rfl) rfl, rfl, by decide +kernel, rfl⟩
theorem lf_R_49 : mx_F "MovieBoxesModel" 49 7 17 true (.array .int) := ⟨"MovieBoxesModel", fd_R, 21, ft_R, rfl, by decide, fi_R, fo_R, fn_R, ws_3 (List.mem_of_getElem? (i := 130) rfl) rfl, rfl, by decide +kernel, rfl⟩
theorem lf_R_52 : mx_F "MovieBoxesModel" 52 7 18 true (.array .int) := ⟨"MovieBoxesModel", fd_R, 21, ft_R, rfl, by decide, fi_R, fo_R, fn_R, ws_3 (List.mem_of_getElem? (i := 131) rfl) rfl, rfl, by decide +kernel, rfl⟩
theorem lf_R_55 : mx_F "MovieBoxesModel" 55 7 19 true (.array .int) := ⟨"MovieBoxesModel", fd_R, 21, ft_R, rfl, by decide, fi_R, fo_R, fn_R, ws_3 (List.mem_of_getElem? (i := 132) rfl) rfl, rfl, by decide +kernel, rfl⟩
theorem lf_R_58 : mx_F "MovieBoxesModel" 58 7 1 false (.int) := ⟨"MovieBoxesModel", fd_R, 21, ft_R, rfl, by decide, fi_R, fo_R, fn_R, ws_3 (List.mem_of_getElem? (i := 114) rfl) rfl, rfl, by decide +kernel, rfl⟩
theorem lm_R_75 : mx_L "MovieBoxesModel" 75 Y_R_read 0 := ⟨ws_3 (List.mem_of_getElem? (i := 202) rfl) rfl, ws_1 (List.mem_of_getElem? (i := 8) rfl) rfl, ws_3 (List.mem_of_getElem? (i := 205) rfl) rfl, ⟨by decide +kernel, by decide +kernel, by decide +kernel⟩, by decide⟩
theorem ls_R_read : Cond.instanceMethod Y_R_read.1 ∈ WS ∧ Cond.selects Y_R_read.1.cls Y_R_read.1 Y_R_read.1 ∈ WS := ⟨ws_3 (List.mem_of_getElem? (i := 204) rfl) rfl, ws_s3 (q := (⟨"MovieBoxesModel", "read", "()I"⟩, 21)) (List.mem_of_getElem? (i := 3) rfl) rfl⟩
theorem lm_R_79 : mx_L "MovieBoxesModel" 79 Y_R_kindsWrong 0 := ⟨ws_3 (List.mem_of_getElem? (i := 214) rfl) rfl, ws_1 (List.mem_of_getElem? (i := 8) rfl) rfl, ws_3 (List.mem_of_getElem? (i := 217) rfl) rfl, ⟨by decide +kernel, by decide +kernel, by decide +kernel⟩, by decide⟩
theorem ls_R_kindsWrong : Cond.instanceMethod Y_R_kindsWrong.1 ∈ WS ∧ Cond.selects Y_R_kindsWrong.1.cls Y_R_kindsWrong.1 Y_R_kindsWrong.1 ∈ WS := ⟨ws_3 (List.mem_of_getElem? (i := 216) rfl) rfl, ws_s3 (q := (⟨"MovieBoxesModel", "kindsWrong", "()Z"⟩, 21)) (List.mem_of_getElem? (i := 6) rfl) rfl⟩
theorem lf_R_83 : mx_F "MovieBoxesModel" 83 7 12 false (.int) := ⟨"MovieBoxesModel", fd_R, 21, ft_R, rfl, by decide, fi_R, fo_R, fn_R, ws_3 (List.mem_of_getElem? (i := 125) rfl) rfl, rfl, by decide +kernel, rfl⟩
theorem lm_R_86 : mx_L "MovieBoxesModel" 86 Y_R_rowsWrong 2 := ⟨ws_3 (List.mem_of_getElem? (i := 221) rfl) rfl, ws_1 (List.mem_of_getElem? (i := 8) rfl) rfl, ws_3 (List.mem_of_getElem? (i := 224) rfl) rfl, ⟨by decide +kernel, by decide +kernel, by decide +kernel⟩, by decide⟩
theorem ls_R_rowsWrong : Cond.instanceMethod Y_R_rowsWrong.1 ∈ WS ∧ Cond.selects Y_R_rowsWrong.1.cls Y_R_rowsWrong.1 Y_R_rowsWrong.1 ∈ WS := ⟨ws_3 (List.mem_of_getElem? (i := 223) rfl) rfl, ws_s3 (q := (⟨"MovieBoxesModel", "rowsWrong", "(II)Z"⟩, 21)) (List.mem_of_getElem? (i := 7) rfl) rfl⟩
theorem lm_R_90 : mx_L "MovieBoxesModel" 90 Y_R_countsWrong 1 := ⟨ws_3 (List.mem_of_getElem? (i := 233) rfl) rfl, ws_1 (List.mem_of_getElem? (i := 8) rfl) rfl, ws_3 (List.mem_of_getElem? (i := 236) rfl) rfl, ⟨by decide +kernel, by decide +kernel, by decide +kernel⟩, by decide⟩
theorem ls_R_countsWrong : Cond.instanceMethod Y_R_countsWrong.1 ∈ WS ∧ Cond.selects Y_R_countsWrong.1.cls Y_R_countsWrong.1 Y_R_countsWrong.1 ∈ WS := ⟨ws_3 (List.mem_of_getElem? (i := 235) rfl) rfl, ws_s3 (q := (⟨"MovieBoxesModel", "countsWrong", "(I)Z"⟩, 21)) (List.mem_of_getElem? (i := 10) rfl) rfl⟩
theorem lm_R_93 : mx_L "MovieBoxesModel" 93 Y_R_settle 1 := ⟨ws_4 (List.mem_of_getElem? (i := 21) rfl) rfl, ws_1 (List.mem_of_getElem? (i := 8) rfl) rfl, ws_4 (List.mem_of_getElem? (i := 24) rfl) rfl, ⟨by decide +kernel, by decide +kernel, by decide +kernel⟩, by decide⟩
theorem ls_R_settle : Cond.instanceMethod Y_R_settle.1 ∈ WS ∧ Cond.selects Y_R_settle.1.cls Y_R_settle.1 Y_R_settle.1 ∈ WS := ⟨ws_4 (List.mem_of_getElem? (i := 23) rfl) rfl, ws_s4 (q := (⟨"MovieBoxesModel", "settle", "(I)Z"⟩, 21)) (List.mem_of_getElem? (i := 1) rfl) rfl⟩
theorem lf_R_64 : mx_F "MovieBoxesModel" 64 7 2 false (.int) := ⟨"MovieBoxesModel", fd_R, 21, ft_R, rfl, by decide, fi_R, fo_R, fn_R, ws_3 (List.mem_of_getElem? (i := 115) rfl) rfl, rfl, by decide +kernel, rfl⟩
theorem lm_R_67 : mx_L "MovieBoxesModel" 67 Y_R_readOne 3 := ⟨ws_3 (List.mem_of_getElem? (i := 206) rfl) rfl, ws_1 (List.mem_of_getElem? (i := 8) rfl) rfl, ws_3 (List.mem_of_getElem? (i := 209) rfl) rfl, ⟨by decide +kernel, by decide +kernel, by decide +kernel⟩, by decide⟩
theorem ls_R_readOne : Cond.instanceMethod Y_R_readOne.1 ∈ WS ∧ Cond.selects Y_R_readOne.1.cls Y_R_readOne.1 Y_R_readOne.1 ∈ WS := ⟨ws_3 (List.mem_of_getElem? (i := 208) rfl) rfl, ws_s3 (q := (⟨"MovieBoxesModel", "readOne", "(III)Z"⟩, 21)) (List.mem_of_getElem? (i := 4) rfl) rfl⟩
theorem lm_R_71 : mx_L "MovieBoxesModel" 71 Y_R_isHolder 1 := ⟨ws_3 (List.mem_of_getElem? (i := 210) rfl) rfl, ws_1 (List.mem_of_getElem? (i := 8) rfl) rfl, ws_3 (List.mem_of_getElem? (i := 213) rfl) rfl, ⟨by decide +kernel, by decide +kernel, by decide +kernel⟩, by decide⟩
theorem ls_R_isHolder : Cond.instanceMethod Y_R_isHolder.1 ∈ WS ∧ Cond.selects Y_R_isHolder.1.cls Y_R_isHolder.1 Y_R_isHolder.1 ∈ WS := ⟨ws_3 (List.mem_of_getElem? (i := 212) rfl) rfl, ws_s3 (q := (⟨"MovieBoxesModel", "isHolder", "(I)Z"⟩, 21)) (List.mem_of_getElem? (i := 5) rfl) rfl⟩
theorem lf_R_96 : mx_F "MovieBoxesModel" 96 7 11 false (.int) := ⟨"MovieBoxesModel", fd_R, 21, ft_R, rfl, by decide, fi_R, fo_R, fn_R, ws_3 (List.mem_of_getElem? (i := 124) rfl) rfl, rfl, by decide +kernel, rfl⟩
theorem lm_R_99 : mx_L "MovieBoxesModel" 99 Y_R_kindOf 1 := ⟨ws_3 (List.mem_of_getElem? (i := 218) rfl) rfl, ws_1 (List.mem_of_getElem? (i := 8) rfl) rfl, ws_3 (List.mem_of_getElem? (i := 220) rfl) rfl, ⟨by decide +kernel, by decide +kernel, by decide +kernel⟩, by decide⟩
theorem ls_R_kindOf : Cond.static Y_R_kindOf.1 ∈ WS := ws_3 (List.mem_of_getElem? (i := 219) rfl) rfl
theorem lm_R_103 : mx_L "MovieBoxesModel" 103 Y_R_payLength 1 := ⟨ws_3 (List.mem_of_getElem? (i := 225) rfl) rfl, ws_1 (List.mem_of_getElem? (i := 8) rfl) rfl, ws_3 (List.mem_of_getElem? (i := 228) rfl) rfl, ⟨by decide +kernel, by decide +kernel, by decide +kernel⟩, by decide⟩
theorem ls_R_payLength : Cond.instanceMethod Y_R_payLength.1 ∈ WS ∧ Cond.selects Y_R_payLength.1.cls Y_R_payLength.1 Y_R_payLength.1 ∈ WS := ⟨ws_3 (List.mem_of_getElem? (i := 227) rfl) rfl, ws_s3 (q := (⟨"MovieBoxesModel", "payLength", "(I)I"⟩, 21)) (List.mem_of_getElem? (i := 8) rfl) rfl⟩
theorem lm_R_106 : mx_L "MovieBoxesModel" 106 Y_R_pay 2 := ⟨ws_3 (List.mem_of_getElem? (i := 229) rfl) rfl, ws_1 (List.mem_of_getElem? (i := 8) rfl) rfl, ws_3 (List.mem_of_getElem? (i := 232) rfl) rfl, ⟨by decide +kernel, by decide +kernel, by decide +kernel⟩, by decide⟩
theorem ls_R_pay : Cond.instanceMethod Y_R_pay.1 ∈ WS ∧ Cond.selects Y_R_pay.1.cls Y_R_pay.1 Y_R_pay.1 ∈ WS := ⟨ws_3 (List.mem_of_getElem? (i := 231) rfl) rfl, ws_s3 (q := (⟨"MovieBoxesModel", "pay", "(II)I"⟩, 21)) (List.mem_of_getElem? (i := 9) rfl) rfl⟩
theorem lm_R_110 : mx_L "MovieBoxesModel" 110 Y_R_sampleCount 1 := ⟨ws_3 (List.mem_of_getElem? (i := 237) rfl) rfl, ws_1 (List.mem_of_getElem? (i := 8) rfl) rfl, ws_4 (List.mem_of_getElem? (i := 0) rfl) rfl, ⟨by decide +kernel, by decide +kernel, by decide +kernel⟩, by decide⟩
theorem ls_R_sampleCount : Cond.instanceMethod Y_R_sampleCount.1 ∈ WS ∧ Cond.selects Y_R_sampleCount.1.cls Y_R_sampleCount.1 Y_R_sampleCount.1 ∈ WS := ⟨ws_3 (List.mem_of_getElem? (i := 239) rfl) rfl, ws_s3 (q := (⟨"MovieBoxesModel", "sampleCount", "(I)I"⟩, 21)) (List.mem_of_getElem? (i := 11) rfl) rfl⟩
theorem lm_R_113 : mx_L "MovieBoxesModel" 113 Y_R_total 1 := ⟨ws_4 (List.mem_of_getElem? (i := 1) rfl) rfl, ws_1 (List.mem_of_getElem? (i := 8) rfl) rfl, ws_4 (List.mem_of_getElem? (i := 4) rfl) rfl, ⟨by decide +kernel, by decide +kernel, by decide +kernel⟩, by decide⟩
theorem ls_R_total : Cond.instanceMethod Y_R_total.1 ∈ WS ∧ Cond.selects Y_R_total.1.cls Y_R_total.1 Y_R_total.1 ∈ WS := ⟨ws_4 (List.mem_of_getElem? (i := 3) rfl) rfl, ws_s3 (q := (⟨"MovieBoxesModel", "total", "(I)I"⟩, 21)) (List.mem_of_getElem? (i := 12) rfl) rfl⟩
theorem lm_R_116 : mx_L "MovieBoxesModel" 116 Y_R_chunkCount 1 := ⟨ws_4 (List.mem_of_getElem? (i := 5) rfl) rfl, ws_1 (List.mem_of_getElem? (i := 8) rfl) rfl, ws_4 (List.mem_of_getElem? (i := 8) rfl) rfl, ⟨by decide +kernel, by decide +kernel, by decide +kernel⟩, by decide⟩
theorem ls_R_chunkCount : Cond.instanceMethod Y_R_chunkCount.1 ∈ WS ∧ Cond.selects Y_R_chunkCount.1.cls Y_R_chunkCount.1 Y_R_chunkCount.1 ∈ WS := ⟨ws_4 (List.mem_of_getElem? (i := 7) rfl) rfl, ws_s3 (q := (⟨"MovieBoxesModel", "chunkCount", "(I)I"⟩, 21)) (List.mem_of_getElem? (i := 13) rfl) rfl⟩
theorem lm_R_119 : mx_L "MovieBoxesModel" 119 Y_R_many 2 := ⟨ws_4 (List.mem_of_getElem? (i := 13) rfl) rfl, ws_1 (List.mem_of_getElem? (i := 8) rfl) rfl, ws_4 (List.mem_of_getElem? (i := 16) rfl) rfl, ⟨by decide +kernel, by decide +kernel, by decide +kernel⟩, by decide⟩
theorem ls_R_many : Cond.instanceMethod Y_R_many.1 ∈ WS ∧ Cond.selects Y_R_many.1.cls Y_R_many.1 Y_R_many.1 ∈ WS := ⟨ws_4 (List.mem_of_getElem? (i := 15) rfl) rfl, ws_s3 (q := (⟨"MovieBoxesModel", "many", "(II)I"⟩, 21)) (List.mem_of_getElem? (i := 15) rfl) rfl⟩
theorem lm_R_122 : mx_L "MovieBoxesModel" 122 Y_R_placesBox 1 := ⟨ws_4 (List.mem_of_getElem? (i := 9) rfl) rfl, ws_1 (List.mem_of_getElem? (i := 8) rfl) rfl, ws_4 (List.mem_of_getElem? (i := 12) rfl) rfl, ⟨by decide +kernel, by decide +kernel, by decide +kernel⟩, by decide⟩
theorem ls_R_placesBox : Cond.instanceMethod Y_R_placesBox.1 ∈ WS ∧ Cond.selects Y_R_placesBox.1.cls Y_R_placesBox.1 Y_R_placesBox.1 ∈ WS := ⟨ws_4 (List.mem_of_getElem? (i := 11) rfl) rfl, ws_s3 (q := (⟨"MovieBoxesModel", "placesBox", "(I)I"⟩, 21)) (List.mem_of_getElem? (i := 14) rfl) rfl⟩
theorem lm_R_125 : mx_L "MovieBoxesModel" 125 Y_R_rowOf 2 := ⟨ws_4 (List.mem_of_getElem? (i := 17) rfl) rfl, ws_1 (List.mem_of_getElem? (i := 8) rfl) rfl, ws_4 (List.mem_of_getElem? (i := 20) rfl) rfl, ⟨by decide +kernel, by decide +kernel, by decide +kernel⟩, by decide⟩
theorem ls_R_rowOf : Cond.instanceMethod Y_R_rowOf.1 ∈ WS ∧ Cond.selects Y_R_rowOf.1.cls Y_R_rowOf.1 Y_R_rowOf.1 ∈ WS := ⟨ws_4 (List.mem_of_getElem? (i := 19) rfl) rfl, ws_s4 (q := (⟨"MovieBoxesModel", "rowOf", "(II)I"⟩, 21)) (List.mem_of_getElem? (i := 0) rfl) rfl⟩
theorem lm_R_128 : mx_L "MovieBoxesModel" 128 Y_R_sizeOf 2 := ⟨ws_4 (List.mem_of_getElem? (i := 25) rfl) rfl, ws_1 (List.mem_of_getElem? (i := 8) rfl) rfl, ws_4 (List.mem_of_getElem? (i := 28) rfl) rfl, ⟨by decide +kernel, by decide +kernel, by decide +kernel⟩, by decide⟩
theorem ls_R_sizeOf : Cond.instanceMethod Y_R_sizeOf.1 ∈ WS ∧ Cond.selects Y_R_sizeOf.1.cls Y_R_sizeOf.1 Y_R_sizeOf.1 ∈ WS := ⟨ws_4 (List.mem_of_getElem? (i := 27) rfl) rfl, ws_s4 (q := (⟨"MovieBoxesModel", "sizeOf", "(II)I"⟩, 21)) (List.mem_of_getElem? (i := 2) rfl) rfl⟩
theorem lm_R_131 : mx_L "MovieBoxesModel" 131 Y_R_chunkPlace 2 := ⟨ws_4 (List.mem_of_getElem? (i := 29) rfl) rfl, ws_1 (List.mem_of_getElem? (i := 8) rfl) rfl, ws_4 (List.mem_of_getElem? (i := 32) rfl) rfl, ⟨by decide +kernel, by decide +kernel, by decide +kernel⟩, by decide⟩
theorem ls_R_chunkPlace : Cond.instanceMethod Y_R_chunkPlace.1 ∈ WS ∧ Cond.selects Y_R_chunkPlace.1.cls Y_R_chunkPlace.1 Y_R_chunkPlace.1 ∈ WS := ⟨ws_4 (List.mem_of_getElem? (i := 31) rfl) rfl, ws_s4 (q := (⟨"MovieBoxesModel", "chunkPlace", "(II)I"⟩, 21)) (List.mem_of_getElem? (i := 3) rfl) rfl⟩
theorem lm_R_134 : mx_L "MovieBoxesModel" 134 Y_R_dataBox 2 := ⟨ws_4 (List.mem_of_getElem? (i := 33) rfl) rfl, ws_1 (List.mem_of_getElem? (i := 8) rfl) rfl, ws_4 (List.mem_of_getElem? (i := 36) rfl) rfl, ⟨by decide +kernel, by decide +kernel, by decide +kernel⟩, by decide⟩
theorem ls_R_dataBox : Cond.instanceMethod Y_R_dataBox.1 ∈ WS ∧ Cond.selects Y_R_dataBox.1.cls Y_R_dataBox.1 Y_R_dataBox.1 ∈ WS := ⟨ws_4 (List.mem_of_getElem? (i := 35) rfl) rfl, ws_s4 (q := (⟨"MovieBoxesModel", "dataBox", "(II)I"⟩, 21)) (List.mem_of_getElem? (i := 4) rfl) rfl⟩
theorem lm_R_137 : mx_L "MovieBoxesModel" 137 Y_R_check 0 := ⟨ws_4 (List.mem_of_getElem? (i := 49) rfl) rfl, ws_1 (List.mem_of_getElem? (i := 8) rfl) rfl, ws_3 (List.mem_of_getElem? (i := 201) rfl) rfl, ⟨by decide +kernel, by decide +kernel, by decide +kernel⟩, by decide⟩
theorem ls_R_check : Cond.instanceMethod Y_R_check.1 ∈ WS ∧ Cond.selects Y_R_check.1.cls Y_R_check.1 Y_R_check.1 ∈ WS := ⟨ws_3 (List.mem_of_getElem? (i := 199) rfl) rfl, ws_3 (List.mem_of_getElem? (i := 200) rfl) rfl⟩
theorem lm_R_140 : mx_L "MovieBoxesModel" 140 Y_R_isTrack 1 := ⟨ws_4 (List.mem_of_getElem? (i := 54) rfl) rfl, ws_1 (List.mem_of_getElem? (i := 8) rfl) rfl, ws_4 (List.mem_of_getElem? (i := 57) rfl) rfl, ⟨by decide +kernel, by decide +kernel, by decide +kernel⟩, by decide⟩
theorem ls_R_isTrack : Cond.instanceMethod Y_R_isTrack.1 ∈ WS ∧ Cond.selects Y_R_isTrack.1.cls Y_R_isTrack.1 Y_R_isTrack.1 ∈ WS := ⟨ws_4 (List.mem_of_getElem? (i := 56) rfl) rfl, ws_s4 (q := (⟨"MovieBoxesModel", "isTrack", "(I)Z"⟩, 21)) (List.mem_of_getElem? (i := 5) rfl) rfl⟩
theorem lm_R_149 : mx_L "MovieBoxesModel" 149 Y_R_inChunk 3 := ⟨ws_4 (List.mem_of_getElem? (i := 62) rfl) rfl, ws_1 (List.mem_of_getElem? (i := 8) rfl) rfl, ws_4 (List.mem_of_getElem? (i := 65) rfl) rfl, ⟨by decide +kernel, by decide +kernel, by decide +kernel⟩, by decide⟩
theorem ls_R_inChunk : Cond.instanceMethod Y_R_inChunk.1 ∈ WS ∧ Cond.selects Y_R_inChunk.1.cls Y_R_inChunk.1 Y_R_inChunk.1 ∈ WS := ⟨ws_4 (List.mem_of_getElem? (i := 64) rfl) rfl, ws_s4 (q := (⟨"MovieBoxesModel", "inChunk", "(III)I"⟩, 21)) (List.mem_of_getElem? (i := 6) rfl) rfl⟩
theorem lm_R_153 : mx_L "MovieBoxesModel" 153 Y_R_decodeTime 2 := ⟨ws_4 (List.mem_of_getElem? (i := 66) rfl) rfl, ws_1 (List.mem_of_getElem? (i := 8) rfl) rfl, ws_4 (List.mem_of_getElem? (i := 69) rfl) rfl, ⟨by decide +kernel, by decide +kernel, by decide +kernel⟩, by decide⟩
theorem ls_R_decodeTime : Cond.instanceMethod Y_R_decodeTime.1 ∈ WS ∧ Cond.selects Y_R_decodeTime.1.cls Y_R_decodeTime.1 Y_R_decodeTime.1 ∈ WS := ⟨ws_4 (List.mem_of_getElem? (i := 68) rfl) rfl, ws_s4 (q := (⟨"MovieBoxesModel", "decodeTime", "(II)I"⟩, 21)) (List.mem_of_getElem? (i := 7) rfl) rfl⟩
theorem lm_R_156 : mx_L "MovieBoxesModel" 156 Y_R_shiftOf 2 := ⟨ws_4 (List.mem_of_getElem? (i := 78) rfl) rfl, ws_1 (List.mem_of_getElem? (i := 8) rfl) rfl, ws_4 (List.mem_of_getElem? (i := 81) rfl) rfl, ⟨by decide +kernel, by decide +kernel, by decide +kernel⟩, by decide⟩
theorem ls_R_shiftOf : Cond.instanceMethod Y_R_shiftOf.1 ∈ WS ∧ Cond.selects Y_R_shiftOf.1.cls Y_R_shiftOf.1 Y_R_shiftOf.1 ∈ WS := ⟨ws_4 (List.mem_of_getElem? (i := 80) rfl) rfl, ws_s4 (q := (⟨"MovieBoxesModel", "shiftOf", "(II)I"⟩, 21)) (List.mem_of_getElem? (i := 10) rfl) rfl⟩
theorem lm_R_159 : mx_L "MovieBoxesModel" 159 Y_R_isSync 2 := ⟨ws_4 (List.mem_of_getElem? (i := 82) rfl) rfl, ws_1 (List.mem_of_getElem? (i := 8) rfl) rfl, ws_4 (List.mem_of_getElem? (i := 85) rfl) rfl, ⟨by decide +kernel, by decide +kernel, by decide +kernel⟩, by decide⟩
theorem ls_R_isSync : Cond.instanceMethod Y_R_isSync.1 ∈ WS ∧ Cond.selects Y_R_isSync.1.cls Y_R_isSync.1 Y_R_isSync.1 ∈ WS := ⟨ws_4 (List.mem_of_getElem? (i := 84) rfl) rfl, ws_s4 (q := (⟨"MovieBoxesModel", "isSync", "(II)I"⟩, 21)) (List.mem_of_getElem? (i := 11) rfl) rfl⟩
theorem lm_R_146 : mx_L "MovieBoxesModel" 146 Y_R_durationOf 2 := ⟨ws_4 (List.mem_of_getElem? (i := 70) rfl) rfl, ws_1 (List.mem_of_getElem? (i := 8) rfl) rfl, ws_4 (List.mem_of_getElem? (i := 73) rfl) rfl, ⟨by decide +kernel, by decide +kernel, by decide +kernel⟩, by decide⟩
theorem ls_R_durationOf : Cond.instanceMethod Y_R_durationOf.1 ∈ WS ∧ Cond.selects Y_R_durationOf.1.cls Y_R_durationOf.1 Y_R_durationOf.1 ∈ WS := ⟨ws_4 (List.mem_of_getElem? (i := 72) rfl) rfl, ws_s4 (q := (⟨"MovieBoxesModel", "durationOf", "(II)I"⟩, 21)) (List.mem_of_getElem? (i := 8) rfl) rfl⟩
theorem lm_R_143 : mx_L "MovieBoxesModel" 143 Y_R_runValue 2 := ⟨ws_4 (List.mem_of_getElem? (i := 74) rfl) rfl, ws_1 (List.mem_of_getElem? (i := 8) rfl) rfl, ws_4 (List.mem_of_getElem? (i := 77) rfl) rfl, ⟨by decide +kernel, by decide +kernel, by decide +kernel⟩, by decide⟩
theorem ls_R_runValue : Cond.instanceMethod Y_R_runValue.1 ∈ WS ∧ Cond.selects Y_R_runValue.1.cls Y_R_runValue.1 Y_R_runValue.1 ∈ WS := ⟨ws_4 (List.mem_of_getElem? (i := 76) rfl) rfl, ws_s4 (q := (⟨"MovieBoxesModel", "runValue", "(II)I"⟩, 21)) (List.mem_of_getElem? (i := 9) rfl) rfl⟩
theorem lm_R_162 : mx_L "MovieBoxesModel" 162 Y_R_mediaTime 2 := ⟨ws_4 (List.mem_of_getElem? (i := 90) rfl) rfl, ws_1 (List.mem_of_getElem? (i := 8) rfl) rfl, ws_4 (List.mem_of_getElem? (i := 93) rfl) rfl, ⟨by decide +kernel, by decide +kernel, by decide +kernel⟩, by decide⟩
theorem ls_R_mediaTime : Cond.instanceMethod Y_R_mediaTime.1 ∈ WS ∧ Cond.selects Y_R_mediaTime.1.cls Y_R_mediaTime.1 Y_R_mediaTime.1 ∈ WS := ⟨ws_4 (List.mem_of_getElem? (i := 92) rfl) rfl, ws_s4 (q := (⟨"MovieBoxesModel", "mediaTime", "(II)I"⟩, 21)) (List.mem_of_getElem? (i := 12) rfl) rfl⟩
theorem lm_R_168 : mx_L "MovieBoxesModel" 168 Y_R_firstData 0 := ⟨ws_4 (List.mem_of_getElem? (i := 98) rfl) rfl, ws_1 (List.mem_of_getElem? (i := 8) rfl) rfl, ws_4 (List.mem_of_getElem? (i := 101) rfl) rfl, ⟨by decide +kernel, by decide +kernel, by decide +kernel⟩, by decide⟩
theorem ls_R_firstData : Cond.instanceMethod Y_R_firstData.1 ∈ WS ∧ Cond.selects Y_R_firstData.1.cls Y_R_firstData.1 Y_R_firstData.1 ∈ WS := ⟨ws_4 (List.mem_of_getElem? (i := 100) rfl) rfl, ws_s4 (q := (⟨"MovieBoxesModel", "firstData", "()I"⟩, 21)) (List.mem_of_getElem? (i := 13) rfl) rfl⟩
theorem lm_R_171 : mx_L "MovieBoxesModel" 171 Y_R_layout 1 := ⟨ws_4 (List.mem_of_getElem? (i := 102) rfl) rfl, ws_1 (List.mem_of_getElem? (i := 8) rfl) rfl, ws_4 (List.mem_of_getElem? (i := 105) rfl) rfl, ⟨by decide +kernel, by decide +kernel, by decide +kernel⟩, by decide⟩
theorem ls_R_layout : Cond.instanceMethod Y_R_layout.1 ∈ WS ∧ Cond.selects Y_R_layout.1.cls Y_R_layout.1 Y_R_layout.1 ∈ WS := ⟨ws_4 (List.mem_of_getElem? (i := 104) rfl) rfl, ws_s4 (q := (⟨"MovieBoxesModel", "layout", "(I)I"⟩, 21)) (List.mem_of_getElem? (i := 14) rfl) rfl⟩
theorem lm_R_174 : mx_L "MovieBoxesModel" 174 Y_R_tooNarrow 1 := ⟨ws_4 (List.mem_of_getElem? (i := 106) rfl) rfl, ws_1 (List.mem_of_getElem? (i := 8) rfl) rfl, ws_4 (List.mem_of_getElem? (i := 109) rfl) rfl, ⟨by decide +kernel, by decide +kernel, by decide +kernel⟩, by decide⟩
theorem ls_R_tooNarrow : Cond.instanceMethod Y_R_tooNarrow.1 ∈ WS ∧ Cond.selects Y_R_tooNarrow.1.cls Y_R_tooNarrow.1 Y_R_tooNarrow.1 ∈ WS := ⟨ws_4 (List.mem_of_getElem? (i := 108) rfl) rfl, ws_s4 (q := (⟨"MovieBoxesModel", "tooNarrow", "(I)I"⟩, 21)) (List.mem_of_getElem? (i := 15) rfl) rfl⟩
theorem lm_R_177 : mx_L "MovieBoxesModel" 177 Y_R_write 3 := ⟨ws_4 (List.mem_of_getElem? (i := 114) rfl) rfl, ws_1 (List.mem_of_getElem? (i := 8) rfl) rfl, ws_4 (List.mem_of_getElem? (i := 117) rfl) rfl, ⟨by decide +kernel, by decide +kernel, by decide +kernel⟩, by decide⟩
theorem ls_R_write : Cond.instanceMethod Y_R_write.1 ∈ WS ∧ Cond.selects Y_R_write.1.cls Y_R_write.1 Y_R_write.1 ∈ WS := ⟨ws_4 (List.mem_of_getElem? (i := 116) rfl) rfl, ws_s5 (q := (⟨"MovieBoxesModel", "write", "(III)V"⟩, 21)) (List.mem_of_getElem? (i := 1) rfl) rfl⟩
theorem lm_R_165 : mx_L "MovieBoxesModel" 165 Y_R_newPlace 3 := ⟨ws_4 (List.mem_of_getElem? (i := 110) rfl) rfl, ws_1 (List.mem_of_getElem? (i := 8) rfl) rfl, ws_4 (List.mem_of_getElem? (i := 113) rfl) rfl, ⟨by decide +kernel, by decide +kernel, by decide +kernel⟩, by decide⟩
theorem ls_R_newPlace : Cond.instanceMethod Y_R_newPlace.1 ∈ WS ∧ Cond.selects Y_R_newPlace.1.cls Y_R_newPlace.1 Y_R_newPlace.1 ∈ WS := ⟨ws_4 (List.mem_of_getElem? (i := 112) rfl) rfl, ws_s5 (q := (⟨"MovieBoxesModel", "newPlace", "(III)I"⟩, 21)) (List.mem_of_getElem? (i := 0) rfl) rfl⟩
theorem lf_R_181 : mx_F "MovieBoxesModel" 181 7 20 false (.int) := ⟨"MovieBoxesModel", fd_R, 21, ft_R, rfl, by decide, fi_R, fo_R, fn_R, ws_3 (List.mem_of_getElem? (i := 133) rfl) rfl, rfl, by decide +kernel, rfl⟩
theorem lm_R_184 : mx_L "MovieBoxesModel" 184 Y_R_put 1 := ⟨ws_4 (List.mem_of_getElem? (i := 118) rfl) rfl, ws_1 (List.mem_of_getElem? (i := 8) rfl) rfl, ws_4 (List.mem_of_getElem? (i := 121) rfl) rfl, ⟨by decide +kernel, by decide +kernel, by decide +kernel⟩, by decide⟩
theorem ls_R_put : Cond.instanceMethod Y_R_put.1 ∈ WS ∧ Cond.selects Y_R_put.1.cls Y_R_put.1 Y_R_put.1 ∈ WS := ⟨ws_4 (List.mem_of_getElem? (i := 120) rfl) rfl, ws_s5 (q := (⟨"MovieBoxesModel", "put", "(I)V"⟩, 21)) (List.mem_of_getElem? (i := 2) rfl) rfl⟩
theorem lm_R_188 : mx_L "MovieBoxesModel" 188 Y_R_writeBox 3 := ⟨ws_4 (List.mem_of_getElem? (i := 122) rfl) rfl, ws_1 (List.mem_of_getElem? (i := 8) rfl) rfl, ws_4 (List.mem_of_getElem? (i := 125) rfl) rfl, ⟨by decide +kernel, by decide +kernel, by decide +kernel⟩, by decide⟩
theorem ls_R_writeBox : Cond.instanceMethod Y_R_writeBox.1 ∈ WS ∧ Cond.selects Y_R_writeBox.1.cls Y_R_writeBox.1 Y_R_writeBox.1 ∈ WS := ⟨ws_4 (List.mem_of_getElem? (i := 124) rfl) rfl, ws_s5 (q := (⟨"MovieBoxesModel", "writeBox", "(III)V"⟩, 21)) (List.mem_of_getElem? (i := 3) rfl) rfl⟩
theorem lk_W_7 : Cond.classLink "MovieBoxesLaw" 7 "MovieBoxes" ∈ WS := ws_1 (List.mem_of_getElem? (i := 10) rfl) rfl
theorem lm_W_9 : mx_L "MovieBoxesLaw" 9 Y_M_init 0 := ⟨ws_1 (List.mem_of_getElem? (i := 12) rfl) rfl, ws_1 (List.mem_of_getElem? (i := 1) rfl) rfl, ws_1 (List.mem_of_getElem? (i := 14) rfl) rfl, ⟨by decide +kernel, by decide +kernel, by decide +kernel⟩, by decide⟩
theorem ls_M_init : Cond.instanceMethod Y_M_init.1 ∈ WS ∧ Y_M_init.1.name = "<init>" ∧ Y_M_init.2.2.2.1 = none := ⟨ws_1 (List.mem_of_getElem? (i := 13) rfl) rfl, rfl, rfl⟩
theorem lk_W_10 : Cond.classLink "MovieBoxesLaw" 10 "MovieBoxesModel" ∈ WS := ws_3 (List.mem_of_getElem? (i := 107) rfl) rfl
theorem lm_W_12 : mx_L "MovieBoxesLaw" 12 Y_R_init 0 := ⟨ws_3 (List.mem_of_getElem? (i := 109) rfl) rfl, ws_1 (List.mem_of_getElem? (i := 8) rfl) rfl, ws_3 (List.mem_of_getElem? (i := 111) rfl) rfl, ⟨by decide +kernel, by decide +kernel, by decide +kernel⟩, by decide⟩
theorem ls_R_init : Cond.instanceMethod Y_R_init.1 ∈ WS ∧ Y_R_init.1.name = "<init>" ∧ Y_R_init.2.2.2.1 = none := ⟨ws_3 (List.mem_of_getElem? (i := 110) rfl) rfl, rfl, rfl⟩
theorem lm_W_15 : mx_L "MovieBoxesLaw" 15 Y_M_append 2 := ⟨ws_1 (List.mem_of_getElem? (i := 192) rfl) rfl, ws_1 (List.mem_of_getElem? (i := 1) rfl) rfl, ws_1 (List.mem_of_getElem? (i := 195) rfl) rfl, ⟨by decide +kernel, by decide +kernel, by decide +kernel⟩, by decide⟩
theorem ls_M_append : Cond.instanceMethod Y_M_append.1 ∈ WS ∧ Cond.selects Y_M_append.1.cls Y_M_append.1 Y_M_append.1 ∈ WS := ⟨ws_1 (List.mem_of_getElem? (i := 193) rfl) rfl, ws_1 (List.mem_of_getElem? (i := 194) rfl) rfl⟩
theorem lm_W_19 : mx_L "MovieBoxesLaw" 19 Y_R_append 2 := ⟨ws_3 (List.mem_of_getElem? (i := 177) rfl) rfl, ws_1 (List.mem_of_getElem? (i := 8) rfl) rfl, ws_3 (List.mem_of_getElem? (i := 180) rfl) rfl, ⟨by decide +kernel, by decide +kernel, by decide +kernel⟩, by decide⟩
theorem ls_R_append : Cond.instanceMethod Y_R_append.1 ∈ WS ∧ Cond.selects Y_R_append.1.cls Y_R_append.1 Y_R_append.1 ∈ WS := ⟨ws_3 (List.mem_of_getElem? (i := 178) rfl) rfl, ws_3 (List.mem_of_getElem? (i := 179) rfl) rfl⟩
theorem lm_W_20 : mx_L "MovieBoxesLaw" 20 Y_M_poke 2 := ⟨ws_1 (List.mem_of_getElem? (i := 204) rfl) rfl, ws_1 (List.mem_of_getElem? (i := 1) rfl) rfl, ws_1 (List.mem_of_getElem? (i := 207) rfl) rfl, ⟨by decide +kernel, by decide +kernel, by decide +kernel⟩, by decide⟩
theorem ls_M_poke : Cond.instanceMethod Y_M_poke.1 ∈ WS ∧ Cond.selects Y_M_poke.1.cls Y_M_poke.1 Y_M_poke.1 ∈ WS := ⟨ws_1 (List.mem_of_getElem? (i := 205) rfl) rfl, ws_1 (List.mem_of_getElem? (i := 206) rfl) rfl⟩
theorem lm_W_24 : mx_L "MovieBoxesLaw" 24 Y_R_poke 2 := ⟨ws_3 (List.mem_of_getElem? (i := 182) rfl) rfl, ws_1 (List.mem_of_getElem? (i := 8) rfl) rfl, ws_3 (List.mem_of_getElem? (i := 185) rfl) rfl, ⟨by decide +kernel, by decide +kernel, by decide +kernel⟩, by decide⟩
theorem ls_R_poke : Cond.instanceMethod Y_R_poke.1 ∈ WS ∧ Cond.selects Y_R_poke.1.cls Y_R_poke.1 Y_R_poke.1 ∈ WS := ⟨ws_3 (List.mem_of_getElem? (i := 183) rfl) rfl, ws_3 (List.mem_of_getElem? (i := 184) rfl) rfl⟩
theorem lm_W_25 : mx_L "MovieBoxesLaw" 25 Y_M_cut 1 := ⟨ws_1 (List.mem_of_getElem? (i := 221) rfl) rfl, ws_1 (List.mem_of_getElem? (i := 1) rfl) rfl, ws_1 (List.mem_of_getElem? (i := 224) rfl) rfl, ⟨by decide +kernel, by decide +kernel, by decide +kernel⟩, by decide⟩
theorem ls_M_cut : Cond.instanceMethod Y_M_cut.1 ∈ WS ∧ Cond.selects Y_M_cut.1.cls Y_M_cut.1 Y_M_cut.1 ∈ WS := ⟨ws_1 (List.mem_of_getElem? (i := 222) rfl) rfl, ws_1 (List.mem_of_getElem? (i := 223) rfl) rfl⟩
theorem lm_W_29 : mx_L "MovieBoxesLaw" 29 Y_R_cut 1 := ⟨ws_3 (List.mem_of_getElem? (i := 186) rfl) rfl, ws_1 (List.mem_of_getElem? (i := 8) rfl) rfl, ws_3 (List.mem_of_getElem? (i := 189) rfl) rfl, ⟨by decide +kernel, by decide +kernel, by decide +kernel⟩, by decide⟩
theorem ls_R_cut : Cond.instanceMethod Y_R_cut.1 ∈ WS ∧ Cond.selects Y_R_cut.1.cls Y_R_cut.1 Y_R_cut.1 ∈ WS := ⟨ws_3 (List.mem_of_getElem? (i := 187) rfl) rfl, ws_3 (List.mem_of_getElem? (i := 188) rfl) rfl⟩
theorem lm_W_30 : mx_L "MovieBoxesLaw" 30 Y_M_length 0 := ⟨ws_1 (List.mem_of_getElem? (i := 229) rfl) rfl, ws_1 (List.mem_of_getElem? (i := 1) rfl) rfl, ws_1 (List.mem_of_getElem? (i := 232) rfl) rfl, ⟨by decide +kernel, by decide +kernel, by decide +kernel⟩, by decide⟩
theorem ls_M_length : Cond.instanceMethod Y_M_length.1 ∈ WS ∧ Cond.selects Y_M_length.1.cls Y_M_length.1 Y_M_length.1 ∈ WS := ⟨ws_1 (List.mem_of_getElem? (i := 230) rfl) rfl, ws_1 (List.mem_of_getElem? (i := 231) rfl) rfl⟩
theorem lm_W_34 : mx_L "MovieBoxesLaw" 34 Y_R_length 0 := ⟨ws_3 (List.mem_of_getElem? (i := 190) rfl) rfl, ws_1 (List.mem_of_getElem? (i := 8) rfl) rfl, ws_3 (List.mem_of_getElem? (i := 193) rfl) rfl, ⟨by decide +kernel, by decide +kernel, by decide +kernel⟩, by decide⟩
theorem ls_R_length : Cond.instanceMethod Y_R_length.1 ∈ WS ∧ Cond.selects Y_R_length.1.cls Y_R_length.1 Y_R_length.1 ∈ WS := ⟨ws_3 (List.mem_of_getElem? (i := 191) rfl) rfl, ws_3 (List.mem_of_getElem? (i := 192) rfl) rfl⟩
theorem lm_W_35 : mx_L "MovieBoxesLaw" 35 Y_M_peek 1 := ⟨ws_1 (List.mem_of_getElem? (i := 233) rfl) rfl, ws_1 (List.mem_of_getElem? (i := 1) rfl) rfl, ws_1 (List.mem_of_getElem? (i := 236) rfl) rfl, ⟨by decide +kernel, by decide +kernel, by decide +kernel⟩, by decide⟩
theorem ls_M_peek : Cond.instanceMethod Y_M_peek.1 ∈ WS ∧ Cond.selects Y_M_peek.1.cls Y_M_peek.1 Y_M_peek.1 ∈ WS := ⟨ws_1 (List.mem_of_getElem? (i := 234) rfl) rfl, ws_1 (List.mem_of_getElem? (i := 235) rfl) rfl⟩
theorem lm_W_39 : mx_L "MovieBoxesLaw" 39 Y_R_peek 1 := ⟨ws_3 (List.mem_of_getElem? (i := 194) rfl) rfl, ws_1 (List.mem_of_getElem? (i := 8) rfl) rfl, ws_3 (List.mem_of_getElem? (i := 197) rfl) rfl, ⟨by decide +kernel, by decide +kernel, by decide +kernel⟩, by decide⟩
theorem ls_R_peek : Cond.instanceMethod Y_R_peek.1 ∈ WS ∧ Cond.selects Y_R_peek.1.cls Y_R_peek.1 Y_R_peek.1 ∈ WS := ⟨ws_3 (List.mem_of_getElem? (i := 195) rfl) rfl, ws_3 (List.mem_of_getElem? (i := 196) rfl) rfl⟩
theorem lm_W_40 : mx_L "MovieBoxesLaw" 40 Y_M_check 0 := ⟨ws_1 (List.mem_of_getElem? (i := 237) rfl) rfl, ws_1 (List.mem_of_getElem? (i := 1) rfl) rfl, ws_2 (List.mem_of_getElem? (i := 0) rfl) rfl, ⟨by decide +kernel, by decide +kernel, by decide +kernel⟩, by decide⟩
theorem ls_M_check : Cond.instanceMethod Y_M_check.1 ∈ WS ∧ Cond.selects Y_M_check.1.cls Y_M_check.1 Y_M_check.1 ∈ WS := ⟨ws_1 (List.mem_of_getElem? (i := 238) rfl) rfl, ws_1 (List.mem_of_getElem? (i := 239) rfl) rfl⟩
theorem lm_W_43 : mx_L "MovieBoxesLaw" 43 Y_R_check 0 := ⟨ws_3 (List.mem_of_getElem? (i := 198) rfl) rfl, ws_1 (List.mem_of_getElem? (i := 8) rfl) rfl, ws_3 (List.mem_of_getElem? (i := 201) rfl) rfl, ⟨by decide +kernel, by decide +kernel, by decide +kernel⟩, by decide⟩
theorem lm_W_44 : mx_L "MovieBoxesLaw" 44 Y_M_boxes 0 := ⟨ws_2 (List.mem_of_getElem? (i := 205) rfl) rfl, ws_1 (List.mem_of_getElem? (i := 1) rfl) rfl, ws_2 (List.mem_of_getElem? (i := 208) rfl) rfl, ⟨by decide +kernel, by decide +kernel, by decide +kernel⟩, by decide⟩
theorem ls_M_boxes : Cond.instanceMethod Y_M_boxes.1 ∈ WS ∧ Cond.selects Y_M_boxes.1.cls Y_M_boxes.1 Y_M_boxes.1 ∈ WS := ⟨ws_2 (List.mem_of_getElem? (i := 206) rfl) rfl, ws_2 (List.mem_of_getElem? (i := 207) rfl) rfl⟩
theorem lm_W_47 : mx_L "MovieBoxesLaw" 47 Y_R_boxes 0 := ⟨ws_4 (List.mem_of_getElem? (i := 37) rfl) rfl, ws_1 (List.mem_of_getElem? (i := 8) rfl) rfl, ws_4 (List.mem_of_getElem? (i := 40) rfl) rfl, ⟨by decide +kernel, by decide +kernel, by decide +kernel⟩, by decide⟩
theorem ls_R_boxes : Cond.instanceMethod Y_R_boxes.1 ∈ WS ∧ Cond.selects Y_R_boxes.1.cls Y_R_boxes.1 Y_R_boxes.1 ∈ WS := ⟨ws_4 (List.mem_of_getElem? (i := 38) rfl) rfl, ws_4 (List.mem_of_getElem? (i := 39) rfl) rfl⟩
theorem lm_W_48 : mx_L "MovieBoxesLaw" 48 Y_M_box 2 := ⟨ws_2 (List.mem_of_getElem? (i := 213) rfl) rfl, ws_1 (List.mem_of_getElem? (i := 1) rfl) rfl, ws_2 (List.mem_of_getElem? (i := 216) rfl) rfl, ⟨by decide +kernel, by decide +kernel, by decide +kernel⟩, by decide⟩
theorem ls_M_box : Cond.instanceMethod Y_M_box.1 ∈ WS ∧ Cond.selects Y_M_box.1.cls Y_M_box.1 Y_M_box.1 ∈ WS := ⟨ws_2 (List.mem_of_getElem? (i := 214) rfl) rfl, ws_2 (List.mem_of_getElem? (i := 215) rfl) rfl⟩
theorem lm_W_51 : mx_L "MovieBoxesLaw" 51 Y_R_box 2 := ⟨ws_4 (List.mem_of_getElem? (i := 41) rfl) rfl, ws_1 (List.mem_of_getElem? (i := 8) rfl) rfl, ws_4 (List.mem_of_getElem? (i := 44) rfl) rfl, ⟨by decide +kernel, by decide +kernel, by decide +kernel⟩, by decide⟩
theorem ls_R_box : Cond.instanceMethod Y_R_box.1 ∈ WS ∧ Cond.selects Y_R_box.1.cls Y_R_box.1 Y_R_box.1 ∈ WS := ⟨ws_4 (List.mem_of_getElem? (i := 42) rfl) rfl, ws_4 (List.mem_of_getElem? (i := 43) rfl) rfl⟩
theorem lm_W_52 : mx_L "MovieBoxesLaw" 52 Y_M_tracks 0 := ⟨ws_2 (List.mem_of_getElem? (i := 217) rfl) rfl, ws_1 (List.mem_of_getElem? (i := 1) rfl) rfl, ws_2 (List.mem_of_getElem? (i := 220) rfl) rfl, ⟨by decide +kernel, by decide +kernel, by decide +kernel⟩, by decide⟩
theorem ls_M_tracks : Cond.instanceMethod Y_M_tracks.1 ∈ WS ∧ Cond.selects Y_M_tracks.1.cls Y_M_tracks.1 Y_M_tracks.1 ∈ WS := ⟨ws_2 (List.mem_of_getElem? (i := 218) rfl) rfl, ws_2 (List.mem_of_getElem? (i := 219) rfl) rfl⟩
theorem lm_W_55 : mx_L "MovieBoxesLaw" 55 Y_R_tracks 0 := ⟨ws_4 (List.mem_of_getElem? (i := 45) rfl) rfl, ws_1 (List.mem_of_getElem? (i := 8) rfl) rfl, ws_4 (List.mem_of_getElem? (i := 48) rfl) rfl, ⟨by decide +kernel, by decide +kernel, by decide +kernel⟩, by decide⟩
theorem ls_R_tracks : Cond.instanceMethod Y_R_tracks.1 ∈ WS ∧ Cond.selects Y_R_tracks.1.cls Y_R_tracks.1 Y_R_tracks.1 ∈ WS := ⟨ws_4 (List.mem_of_getElem? (i := 46) rfl) rfl, ws_4 (List.mem_of_getElem? (i := 47) rfl) rfl⟩
theorem lm_W_56 : mx_L "MovieBoxesLaw" 56 Y_M_samples 1 := ⟨ws_2 (List.mem_of_getElem? (i := 221) rfl) rfl, ws_1 (List.mem_of_getElem? (i := 1) rfl) rfl, ws_2 (List.mem_of_getElem? (i := 224) rfl) rfl, ⟨by decide +kernel, by decide +kernel, by decide +kernel⟩, by decide⟩
theorem ls_M_samples : Cond.instanceMethod Y_M_samples.1 ∈ WS ∧ Cond.selects Y_M_samples.1.cls Y_M_samples.1 Y_M_samples.1 ∈ WS := ⟨ws_2 (List.mem_of_getElem? (i := 222) rfl) rfl, ws_2 (List.mem_of_getElem? (i := 223) rfl) rfl⟩
theorem lm_W_59 : mx_L "MovieBoxesLaw" 59 Y_R_samples 1 := ⟨ws_4 (List.mem_of_getElem? (i := 50) rfl) rfl, ws_1 (List.mem_of_getElem? (i := 8) rfl) rfl, ws_4 (List.mem_of_getElem? (i := 53) rfl) rfl, ⟨by decide +kernel, by decide +kernel, by decide +kernel⟩, by decide⟩
theorem ls_R_samples : Cond.instanceMethod Y_R_samples.1 ∈ WS ∧ Cond.selects Y_R_samples.1.cls Y_R_samples.1 Y_R_samples.1 ∈ WS := ⟨ws_4 (List.mem_of_getElem? (i := 51) rfl) rfl, ws_4 (List.mem_of_getElem? (i := 52) rfl) rfl⟩
theorem lm_W_60 : mx_L "MovieBoxesLaw" 60 Y_M_sample 3 := ⟨ws_2 (List.mem_of_getElem? (i := 233) rfl) rfl, ws_1 (List.mem_of_getElem? (i := 1) rfl) rfl, ws_2 (List.mem_of_getElem? (i := 236) rfl) rfl, ⟨by decide +kernel, by decide +kernel, by decide +kernel⟩, by decide⟩
theorem ls_M_sample : Cond.instanceMethod Y_M_sample.1 ∈ WS ∧ Cond.selects Y_M_sample.1.cls Y_M_sample.1 Y_M_sample.1 ∈ WS := ⟨ws_2 (List.mem_of_getElem? (i := 234) rfl) rfl, ws_2 (List.mem_of_getElem? (i := 235) rfl) rfl⟩
theorem lm_W_64 : mx_L "MovieBoxesLaw" 64 Y_R_sample 3 := ⟨ws_4 (List.mem_of_getElem? (i := 58) rfl) rfl, ws_1 (List.mem_of_getElem? (i := 8) rfl) rfl, ws_4 (List.mem_of_getElem? (i := 61) rfl) rfl, ⟨by decide +kernel, by decide +kernel, by decide +kernel⟩, by decide⟩
theorem ls_R_sample : Cond.instanceMethod Y_R_sample.1 ∈ WS ∧ Cond.selects Y_R_sample.1.cls Y_R_sample.1 Y_R_sample.1 ∈ WS := ⟨ws_4 (List.mem_of_getElem? (i := 59) rfl) rfl, ws_4 (List.mem_of_getElem? (i := 60) rfl) rfl⟩
theorem lm_W_65 : mx_L "MovieBoxesLaw" 65 Y_M_shown 2 := ⟨ws_3 (List.mem_of_getElem? (i := 1) rfl) rfl, ws_1 (List.mem_of_getElem? (i := 1) rfl) rfl, ws_3 (List.mem_of_getElem? (i := 4) rfl) rfl, ⟨by decide +kernel, by decide +kernel, by decide +kernel⟩, by decide⟩
theorem ls_M_shown : Cond.instanceMethod Y_M_shown.1 ∈ WS ∧ Cond.selects Y_M_shown.1.cls Y_M_shown.1 Y_M_shown.1 ∈ WS := ⟨ws_3 (List.mem_of_getElem? (i := 2) rfl) rfl, ws_3 (List.mem_of_getElem? (i := 3) rfl) rfl⟩
theorem lm_W_68 : mx_L "MovieBoxesLaw" 68 Y_R_shown 2 := ⟨ws_4 (List.mem_of_getElem? (i := 86) rfl) rfl, ws_1 (List.mem_of_getElem? (i := 8) rfl) rfl, ws_4 (List.mem_of_getElem? (i := 89) rfl) rfl, ⟨by decide +kernel, by decide +kernel, by decide +kernel⟩, by decide⟩
theorem ls_R_shown : Cond.instanceMethod Y_R_shown.1 ∈ WS ∧ Cond.selects Y_R_shown.1.cls Y_R_shown.1 Y_R_shown.1 ∈ WS := ⟨ws_4 (List.mem_of_getElem? (i := 87) rfl) rfl, ws_4 (List.mem_of_getElem? (i := 88) rfl) rfl⟩
theorem lm_W_69 : mx_L "MovieBoxesLaw" 69 Y_M_fastStart 0 := ⟨ws_3 (List.mem_of_getElem? (i := 13) rfl) rfl, ws_1 (List.mem_of_getElem? (i := 1) rfl) rfl, ws_3 (List.mem_of_getElem? (i := 16) rfl) rfl, ⟨by decide +kernel, by decide +kernel, by decide +kernel⟩, by decide⟩
theorem ls_M_fastStart : Cond.instanceMethod Y_M_fastStart.1 ∈ WS ∧ Cond.selects Y_M_fastStart.1.cls Y_M_fastStart.1 Y_M_fastStart.1 ∈ WS := ⟨ws_3 (List.mem_of_getElem? (i := 14) rfl) rfl, ws_3 (List.mem_of_getElem? (i := 15) rfl) rfl⟩
theorem lm_W_72 : mx_L "MovieBoxesLaw" 72 Y_R_fastStart 0 := ⟨ws_4 (List.mem_of_getElem? (i := 94) rfl) rfl, ws_1 (List.mem_of_getElem? (i := 8) rfl) rfl, ws_4 (List.mem_of_getElem? (i := 97) rfl) rfl, ⟨by decide +kernel, by decide +kernel, by decide +kernel⟩, by decide⟩
theorem ls_R_fastStart : Cond.instanceMethod Y_R_fastStart.1 ∈ WS ∧ Cond.selects Y_R_fastStart.1.cls Y_R_fastStart.1 Y_R_fastStart.1 ∈ WS := ⟨ws_4 (List.mem_of_getElem? (i := 95) rfl) rfl, ws_4 (List.mem_of_getElem? (i := 96) rfl) rfl⟩
theorem lo_1 : Cond.instanceMethod objectInit ∈ WS := ws_1 (List.mem_of_getElem? (i := 16) rfl) rfl
theorem lo_2 : Cond.code objectInit ⟨#[0xb1]⟩ 1 none ∈ WS := ws_1 (List.mem_of_getElem? (i := 17) rfl) rfl
theorem lq_M1 : Cond.instantiable "MovieBoxes" 7 ∈ WS := ws_1 (List.mem_of_getElem? (i := 11) rfl) rfl
theorem lq_M2 : Cond.initialized "MovieBoxes" ∈ WS := ws_1 (List.mem_of_getElem? (i := 1) rfl) rfl
theorem lq_B1 : Cond.instantiable "MovieBoxes$Bytes" 2 ∈ WS := ws_1 (List.mem_of_getElem? (i := 19) rfl) rfl
theorem lq_B2 : Cond.initialized "MovieBoxes$Bytes" ∈ WS := ws_1 (List.mem_of_getElem? (i := 2) rfl) rfl
theorem lq_L1 : Cond.instantiable "MovieBoxes$Layout" 3 ∈ WS := ws_1 (List.mem_of_getElem? (i := 33) rfl) rfl
theorem lq_L2 : Cond.initialized "MovieBoxes$Layout" ∈ WS := ws_1 (List.mem_of_getElem? (i := 3) rfl) rfl
theorem lq_T1 : Cond.instantiable "MovieBoxes$Table" 6 ∈ WS := ws_1 (List.mem_of_getElem? (i := 58) rfl) rfl
theorem lq_T2 : Cond.initialized "MovieBoxes$Table" ∈ WS := ws_1 (List.mem_of_getElem? (i := 5) rfl) rfl
theorem lq_Z1 : Cond.instantiable "MovieBoxes$SizeTable" 5 ∈ WS := ws_1 (List.mem_of_getElem? (i := 83) rfl) rfl
theorem lq_Z2 : Cond.initialized "MovieBoxes$SizeTable" ∈ WS := ws_1 (List.mem_of_getElem? (i := 6) rfl) rfl
theorem lq_K1 : Cond.instantiable "MovieBoxes$Track" 10 ∈ WS := ws_1 (List.mem_of_getElem? (i := 52) rfl) rfl
theorem lq_K2 : Cond.initialized "MovieBoxes$Track" ∈ WS := ws_1 (List.mem_of_getElem? (i := 4) rfl) rfl
theorem lq_V1 : Cond.instantiable "MovieBoxes$Mover" 8 ∈ WS := ws_1 (List.mem_of_getElem? (i := 137) rfl) rfl
theorem lq_V2 : Cond.initialized "MovieBoxes$Mover" ∈ WS := ws_1 (List.mem_of_getElem? (i := 7) rfl) rfl
theorem lq_R1 : Cond.instantiable "MovieBoxesModel" 21 ∈ WS := ws_3 (List.mem_of_getElem? (i := 108) rfl) rfl
theorem lq_R2 : Cond.initialized "MovieBoxesModel" ∈ WS := ws_1 (List.mem_of_getElem? (i := 8) rfl) rfl
theorem lq_int : Cond.arrayClass .int ∈ WS := ws_1 (List.mem_of_getElem? (i := 31) rfl) rfl
theorem lq_boo : Cond.arrayClass .boolean ∈ WS := ws_1 (List.mem_of_getElem? (i := 169) rfl) rfl
theorem lq_c1 : Cond.constantLong "MovieBoxesModel" 62 255 ∈ WS := ws_3 (List.mem_of_getElem? (i := 181) rfl) rfl
theorem lq_c2 : Cond.constantLong "MovieBoxesLaw" 13 4294967295 ∈ WS := ws_4 (List.mem_of_getElem? (i := 126) rfl) rfl
end
section
/-! the shape of the heap behind both constructors: what each cell is -/
def SH : mx_H := [
  .inr (0, [.ref 1, .ref 3, .ref 12, .ref 45, .int 0, .int 0, .int 0]),
  .inr (1, [.ref 2, .int 0]),
  .inl (0, 1000, .inl (fun _ => 0)),
  .inr (2, [.ref 1, .ref 4, .int 0]),
  .inl (3, 7, .inr (.inr (.inr (.inr (fun j => if j < 7 then some (4 + 1 + j) else none))))),
  .inl (0, 20, .inl (fun _ => 0)),
  .inl (0, 20, .inl (fun _ => 0)),
  .inl (0, 20, .inl (fun _ => 0)),
  .inl (0, 20, .inl (fun _ => 0)),
  .inl (0, 20, .inl (fun _ => 0)),
  .inl (0, 20, .inl (fun _ => 0)),
  .inl (0, 20, .inl (fun _ => 0)),
  .inl (2, 2, .inr (.inr (.inr (.inr (fun j => if j = 1 then some 29 else if j = 0 then some 13 else none))))),
  .inr (5, [.ref 3, .ref 14, .ref 15, .ref 16, .ref 17, .ref 18, .ref 19, .ref 20, .ref 21, .int 0]),
  .inr (3, [.ref 1, .int 0, .int 0, .int 0, .int 0, .int 0]),
  .inr (3, [.ref 1, .int 0, .int 0, .int 0, .int 0, .int 0]),
  .inr (3, [.ref 1, .int 0, .int 0, .int 0, .int 0, .int 0]),
  .inr (3, [.ref 1, .int 0, .int 0, .int 0, .int 0, .int 0]),
  .inr (3, [.ref 1, .int 0, .int 0, .int 0, .int 0, .int 0]),
  .inr (3, [.ref 1, .int 0, .int 0, .int 0, .int 0, .int 0]),
  .inr (4, [.ref 1, .int 0, .int 0, .int 0, .int 0]),
  .inl (3, 7, .inr (.inr (.inr (.inr (fun j => if j < 7 then some (21 + 1 + j) else none))))),
  .inl (0, 255, .inl (fun _ => 0)),
  .inl (0, 255, .inl (fun _ => 0)),
  .inl (0, 255, .inl (fun _ => 0)),
  .inl (0, 255, .inl (fun _ => 0)),
  .inl (0, 255, .inl (fun _ => 0)),
  .inl (0, 255, .inl (fun _ => 0)),
  .inl (0, 255, .inl (fun _ => 0)),
  .inr (5, [.ref 3, .ref 30, .ref 31, .ref 32, .ref 33, .ref 34, .ref 35, .ref 36, .ref 37, .int 0]),
  .inr (3, [.ref 1, .int 0, .int 0, .int 0, .int 0, .int 0]),
  .inr (3, [.ref 1, .int 0, .int 0, .int 0, .int 0, .int 0]),
  .inr (3, [.ref 1, .int 0, .int 0, .int 0, .int 0, .int 0]),
  .inr (3, [.ref 1, .int 0, .int 0, .int 0, .int 0, .int 0]),
  .inr (3, [.ref 1, .int 0, .int 0, .int 0, .int 0, .int 0]),
  .inr (3, [.ref 1, .int 0, .int 0, .int 0, .int 0, .int 0]),
  .inr (4, [.ref 1, .int 0, .int 0, .int 0, .int 0]),
  .inl (3, 7, .inr (.inr (.inr (.inr (fun j => if j < 7 then some (37 + 1 + j) else none))))),
  .inl (0, 255, .inl (fun _ => 0)),
  .inl (0, 255, .inl (fun _ => 0)),
  .inl (0, 255, .inl (fun _ => 0)),
  .inl (0, 255, .inl (fun _ => 0)),
  .inl (0, 255, .inl (fun _ => 0)),
  .inl (0, 255, .inl (fun _ => 0)),
  .inl (0, 255, .inl (fun _ => 0)),
  .inr (6, [.ref 1, .ref 3, .ref 46, .ref 48, .ref 49, .ref 50, .int 0, .int 0]),
  .inr (1, [.ref 47, .int 0]),
  .inl (0, 1000, .inl (fun _ => 0)),
  .inl (1, 20, .inl (fun _ => 0)),
  .inl (0, 20, .inl (fun _ => 0)),
  .inl (0, 20, .inl (fun _ => 0)),
  .inr (7, [.ref 52, .int 0, .int 0, .ref 53, .ref 54, .ref 55, .ref 56, .ref 57, .ref 58, .ref 59, .ref 60, .int 0, .int 0, .ref 61, .ref 62, .ref 63, .ref 64, .ref 65, .ref 66, .ref 67, .int 0]),
  .inl (0, 1000, .inl (fun _ => 0)),
  .inl (0, 20, .inl (fun _ => 0)),
  .inl (0, 20, .inl (fun _ => 0)),
  .inl (0, 20, .inl (fun _ => 0)),
  .inl (0, 20, .inl (fun _ => 0)),
  .inl (0, 20, .inl (fun _ => 0)),
  .inl (0, 20, .inl (fun _ => 0)),
  .inl (0, 3, .inl (fun _ => 0)),
  .inl (0, 3, .inl (fun _ => 0)),
  .inl (0, 2, .inl (fun _ => 0)),
  .inl (0, 16, .inl (fun _ => 0)),
  .inl (0, 512, .inl (fun _ => 0)),
  .inl (0, 20, .inl (fun _ => 0)),
  .inl (0, 20, .inl (fun _ => 0)),
  .inl (0, 20, .inl (fun _ => 0)),
  .inl (0, 1000, .inl (fun _ => 0))]
theorem sh_0 : SH[0]? = some (.inr (0, [.ref 1, .ref 3, .ref 12, .ref 45, .int 0, .int 0, .int 0])) := rfl
theorem sh_1 : SH[1]? = some (.inr (1, [.ref 2, .int 0])) := rfl
theorem sh_2 : SH[2]? = some (.inl (0, 1000, .inl (fun _ => 0))) := rfl
theorem sh_3 : SH[3]? = some (.inr (2, [.ref 1, .ref 4, .int 0])) := rfl
theorem sh_4 : SH[4]? = some (.inl (3, 7, .inr (.inr (.inr (.inr (fun j => if j < 7 then some (4 + 1 + j) else none)))))) := rfl
theorem sh_5 : SH[5]? = some (.inl (0, 20, .inl (fun _ => 0))) := rfl
theorem sh_6 : SH[6]? = some (.inl (0, 20, .inl (fun _ => 0))) := rfl
theorem sh_7 : SH[7]? = some (.inl (0, 20, .inl (fun _ => 0))) := rfl
theorem sh_8 : SH[8]? = some (.inl (0, 20, .inl (fun _ => 0))) := rfl
theorem sh_9 : SH[9]? = some (.inl (0, 20, .inl (fun _ => 0))) := rfl
theorem sh_10 : SH[10]? = some (.inl (0, 20, .inl (fun _ => 0))) := rfl
theorem sh_11 : SH[11]? = some (.inl (0, 20, .inl (fun _ => 0))) := rfl
theorem sh_12 : SH[12]? = some (.inl (2, 2, .inr (.inr (.inr (.inr (fun j => if j = 1 then some 29 else if j = 0 then some 13 else none)))))) := rfl
theorem sh_13 : SH[13]? = some (.inr (5, [.ref 3, .ref 14, .ref 15, .ref 16, .ref 17, .ref 18, .ref 19, .ref 20, .ref 21, .int 0])) := rfl
theorem sh_14 : SH[14]? = some (.inr (3, [.ref 1, .int 0, .int 0, .int 0, .int 0, .int 0])) := rfl
theorem sh_15 : SH[15]? = some (.inr (3, [.ref 1, .int 0, .int 0, .int 0, .int 0, .int 0])) := rfl
theorem sh_16 : SH[16]? = some (.inr (3, [.ref 1, .int 0, .int 0, .int 0, .int 0, .int 0])) := rfl
theorem sh_17 : SH[17]? = some (.inr (3, [.ref 1, .int 0, .int 0, .int 0, .int 0, .int 0])) := rfl
theorem sh_18 : SH[18]? = some (.inr (3, [.ref 1, .int 0, .int 0, .int 0, .int 0, .int 0])) := rfl
theorem sh_19 : SH[19]? = some (.inr (3, [.ref 1, .int 0, .int 0, .int 0, .int 0, .int 0])) := rfl
theorem sh_20 : SH[20]? = some (.inr (4, [.ref 1, .int 0, .int 0, .int 0, .int 0])) := rfl
theorem sh_21 : SH[21]? = some (.inl (3, 7, .inr (.inr (.inr (.inr (fun j => if j < 7 then some (21 + 1 + j) else none)))))) := rfl
theorem sh_22 : SH[22]? = some (.inl (0, 255, .inl (fun _ => 0))) := rfl
theorem sh_23 : SH[23]? = some (.inl (0, 255, .inl (fun _ => 0))) := rfl
theorem sh_24 : SH[24]? = some (.inl (0, 255, .inl (fun _ => 0))) := rfl
theorem sh_25 : SH[25]? = some (.inl (0, 255, .inl (fun _ => 0))) := rfl
theorem sh_26 : SH[26]? = some (.inl (0, 255, .inl (fun _ => 0))) := rfl
theorem sh_27 : SH[27]? = some (.inl (0, 255, .inl (fun _ => 0))) := rfl
theorem sh_28 : SH[28]? = some (.inl (0, 255, .inl (fun _ => 0))) := rfl
theorem sh_29 : SH[29]? = some (.inr (5, [.ref 3, .ref 30, .ref 31, .ref 32, .ref 33, .ref 34, .ref 35, .ref 36, .ref 37, .int 0])) := rfl
theorem sh_30 : SH[30]? = some (.inr (3, [.ref 1, .int 0, .int 0, .int 0, .int 0, .int 0])) := rfl
theorem sh_31 : SH[31]? = some (.inr (3, [.ref 1, .int 0, .int 0, .int 0, .int 0, .int 0])) := rfl
theorem sh_32 : SH[32]? = some (.inr (3, [.ref 1, .int 0, .int 0, .int 0, .int 0, .int 0])) := rfl
theorem sh_33 : SH[33]? = some (.inr (3, [.ref 1, .int 0, .int 0, .int 0, .int 0, .int 0])) := rfl
theorem sh_34 : SH[34]? = some (.inr (3, [.ref 1, .int 0, .int 0, .int 0, .int 0, .int 0])) := rfl
theorem sh_35 : SH[35]? = some (.inr (3, [.ref 1, .int 0, .int 0, .int 0, .int 0, .int 0])) := rfl
theorem sh_36 : SH[36]? = some (.inr (4, [.ref 1, .int 0, .int 0, .int 0, .int 0])) := rfl
theorem sh_37 : SH[37]? = some (.inl (3, 7, .inr (.inr (.inr (.inr (fun j => if j < 7 then some (37 + 1 + j) else none)))))) := rfl
theorem sh_38 : SH[38]? = some (.inl (0, 255, .inl (fun _ => 0))) := rfl
theorem sh_39 : SH[39]? = some (.inl (0, 255, .inl (fun _ => 0))) := rfl
theorem sh_40 : SH[40]? = some (.inl (0, 255, .inl (fun _ => 0))) := rfl
theorem sh_41 : SH[41]? = some (.inl (0, 255, .inl (fun _ => 0))) := rfl
theorem sh_42 : SH[42]? = some (.inl (0, 255, .inl (fun _ => 0))) := rfl
theorem sh_43 : SH[43]? = some (.inl (0, 255, .inl (fun _ => 0))) := rfl
theorem sh_44 : SH[44]? = some (.inl (0, 255, .inl (fun _ => 0))) := rfl
theorem sh_45 : SH[45]? = some (.inr (6, [.ref 1, .ref 3, .ref 46, .ref 48, .ref 49, .ref 50, .int 0, .int 0])) := rfl
theorem sh_46 : SH[46]? = some (.inr (1, [.ref 47, .int 0])) := rfl
theorem sh_47 : SH[47]? = some (.inl (0, 1000, .inl (fun _ => 0))) := rfl
theorem sh_48 : SH[48]? = some (.inl (1, 20, .inl (fun _ => 0))) := rfl
theorem sh_49 : SH[49]? = some (.inl (0, 20, .inl (fun _ => 0))) := rfl
theorem sh_50 : SH[50]? = some (.inl (0, 20, .inl (fun _ => 0))) := rfl
theorem sh_51 : SH[51]? = some (.inr (7, [.ref 52, .int 0, .int 0, .ref 53, .ref 54, .ref 55, .ref 56, .ref 57, .ref 58, .ref 59, .ref 60, .int 0, .int 0, .ref 61, .ref 62, .ref 63, .ref 64, .ref 65, .ref 66, .ref 67, .int 0])) := rfl
theorem sh_52 : SH[52]? = some (.inl (0, 1000, .inl (fun _ => 0))) := rfl
theorem sh_53 : SH[53]? = some (.inl (0, 20, .inl (fun _ => 0))) := rfl
theorem sh_54 : SH[54]? = some (.inl (0, 20, .inl (fun _ => 0))) := rfl
theorem sh_55 : SH[55]? = some (.inl (0, 20, .inl (fun _ => 0))) := rfl
theorem sh_56 : SH[56]? = some (.inl (0, 20, .inl (fun _ => 0))) := rfl
theorem sh_57 : SH[57]? = some (.inl (0, 20, .inl (fun _ => 0))) := rfl
theorem sh_58 : SH[58]? = some (.inl (0, 20, .inl (fun _ => 0))) := rfl
theorem sh_59 : SH[59]? = some (.inl (0, 3, .inl (fun _ => 0))) := rfl
theorem sh_60 : SH[60]? = some (.inl (0, 3, .inl (fun _ => 0))) := rfl
theorem sh_61 : SH[61]? = some (.inl (0, 2, .inl (fun _ => 0))) := rfl
theorem sh_62 : SH[62]? = some (.inl (0, 16, .inl (fun _ => 0))) := rfl
theorem sh_63 : SH[63]? = some (.inl (0, 512, .inl (fun _ => 0))) := rfl
theorem sh_64 : SH[64]? = some (.inl (0, 20, .inl (fun _ => 0))) := rfl
theorem sh_65 : SH[65]? = some (.inl (0, 20, .inl (fun _ => 0))) := rfl
theorem sh_66 : SH[66]? = some (.inl (0, 20, .inl (fun _ => 0))) := rfl
theorem sh_67 : SH[67]? = some (.inl (0, 1000, .inl (fun _ => 0))) := rfl
end
section
/-! whole numbers for Int32 -/
def iI (z : Int) : Int32 := Int32.ofInt z
abbrev rg (z : Int) : Prop := -2147483648 ≤ z ∧ z ≤ 2147483647
theorem iI_add (a b : Int) : iI a + iI b = iI (a + b) := (Int32.ofInt_add a b).symm
theorem iI_sub (a b : Int) : iI a - iI b = iI (a - b) := (Int32.ofInt_sub a b).symm
theorem iI_mul (a b : Int) : iI a * iI b = iI (a * b) := (Int32.ofInt_mul a b).symm
theorem iI_neg (a : Int) : -iI a = iI (-a) := (Int32.ofInt_neg a).symm
theorem iI_t {z : Int} (h : rg z) : (iI z).toInt = z := Int32.toInt_ofInt_of_le (by have := h.1; omega) (by have := h.2; omega)
theorem iI_lt {a b : Int} (ha : rg a) (hb : rg b) : iI a < iI b ↔ a < b := by rw [Int32.lt_iff_toInt_lt, iI_t ha, iI_t hb]
theorem iI_le {a b : Int} (ha : rg a) (hb : rg b) : iI a ≤ iI b ↔ a ≤ b := by rw [Int32.le_iff_toInt_le, iI_t ha, iI_t hb]
theorem iI_eq {a b : Int} (ha : rg a) (hb : rg b) : iI a = iI b ↔ a = b := by rw [← Int32.toInt_inj, iI_t ha, iI_t hb]
theorem iI_cl {z : Int} (h : rg z) : (iI z).toNatClampNeg = z.toNat := Int32.toNatClampNeg_ofInt_of_le (by have := h.1; omega) (by have := h.2; omega)
theorem iI_of (x : Int32) : ∃ z, rg z ∧ x = iI z := ⟨x.toInt, ⟨by have := x.le_toInt; omega, by have := x.toInt_lt; omega⟩, (Int32.ofInt_toInt x).symm⟩
theorem iI_in {z : Int} {N : Nat} (h0 : 0 ≤ z) (h1 : z < N) (hN : N ≤ 2147483647) : vp_in (iI z) N := by
  have hr : rg z := ⟨by omega, by omega⟩
  rw [vp_in_iff, iI_t hr]
  exact ⟨h0, h1⟩
theorem iI_0 : (0 : Int32) = iI 0 := rfl

section ST
variable {l : Launch} {Y : mx_Y} {sc : mx_S} {k n : Nat} {pc : Nat} {R st : List Value} {h : mx_H} {Q : Option Value → mx_H → Prop}
theorem wp_is0 {x : Int32} {u : Value} (hi : decode Y.2.1 pc = .ok (.istore_n 0, 1)) (kk : wp_m l Y sc k n (pc + 1) (.int x :: R) st h Q) : wp_m l Y sc k n pc (u :: R) (.int x :: st) h Q := wp_istore_n (i := 0) hi rfl rfl (by simp) rfl kk
theorem wp_as0 {x : Nat} {u : Value} (hi : decode Y.2.1 pc = .ok (.astore_n 0, 1)) (kk : wp_m l Y sc k n (pc + 1) (.ref x :: R) st h Q) : wp_m l Y sc k n pc (u :: R) (.ref x :: st) h Q := wp_astore_n (i := 0) hi rfl rfl (by simp) rfl kk
theorem wp_an0  {u : Value} (hi : decode Y.2.1 pc = .ok (.astore_n 0, 1)) (kk : wp_m l Y sc k n (pc + 1) (.null :: R) st h Q) : wp_m l Y sc k n pc (u :: R) (.null :: st) h Q := wp_astore_nN (i := 0) hi rfl rfl (by simp) rfl kk
theorem wp_ii0 {z d : Int}  (hi : decode Y.2.1 pc = .ok (.iinc 0 d, 3)) (kk : wp_m l Y sc k n (pc + 3) (.int (iI (z + d)) :: R) st h Q) : wp_m l Y sc k n pc (.int (iI z) :: R) st h Q := wp_iinc hi rfl (iI_add z d) rfl rfl kk
theorem wp_is1 {x : Int32} {x0 u : Value} (hi : decode Y.2.1 pc = .ok (.istore_n 1, 1)) (kk : wp_m l Y sc k n (pc + 1) (x0 :: .int x :: R) st h Q) (hc : x0.category = 1 := by rfl) : wp_m l Y sc k n pc (x0 :: u :: R) (.int x :: st) h Q := wp_istore_n (i := 1) hi rfl (by simp only [mx_ok1, List.getElem?_cons_succ, List.getElem?_cons_zero, hc]; rfl) (by simp) rfl kk
theorem wp_as1 {x : Nat} {x0 u : Value} (hi : decode Y.2.1 pc = .ok (.astore_n 1, 1)) (kk : wp_m l Y sc k n (pc + 1) (x0 :: .ref x :: R) st h Q) (hc : x0.category = 1 := by rfl) : wp_m l Y sc k n pc (x0 :: u :: R) (.ref x :: st) h Q := wp_astore_n (i := 1) hi rfl (by simp only [mx_ok1, List.getElem?_cons_succ, List.getElem?_cons_zero, hc]; rfl) (by simp) rfl kk
theorem wp_an1  {x0 u : Value} (hi : decode Y.2.1 pc = .ok (.astore_n 1, 1)) (kk : wp_m l Y sc k n (pc + 1) (x0 :: .null :: R) st h Q) (hc : x0.category = 1 := by rfl) : wp_m l Y sc k n pc (x0 :: u :: R) (.null :: st) h Q := wp_astore_nN (i := 1) hi rfl (by simp only [mx_ok1, List.getElem?_cons_succ, List.getElem?_cons_zero, hc]; rfl) (by simp) rfl kk
theorem wp_ii1 {z d : Int} {x0 : Value} (hi : decode Y.2.1 pc = .ok (.iinc 1 d, 3)) (kk : wp_m l Y sc k n (pc + 3) (x0 :: .int (iI (z + d)) :: R) st h Q) (hc : x0.category = 1 := by rfl) : wp_m l Y sc k n pc (x0 :: .int (iI z) :: R) st h Q := wp_iinc hi rfl (iI_add z d) (by simp only [mx_ok1, List.getElem?_cons_succ, List.getElem?_cons_zero, hc]; rfl) rfl kk
theorem wp_is2 {x : Int32} {x0 x1 u : Value} (hi : decode Y.2.1 pc = .ok (.istore_n 2, 1)) (kk : wp_m l Y sc k n (pc + 1) (x0 :: x1 :: .int x :: R) st h Q) (hc : x1.category = 1 := by rfl) : wp_m l Y sc k n pc (x0 :: x1 :: u :: R) (.int x :: st) h Q := wp_istore_n (i := 2) hi rfl (by simp only [mx_ok1, List.getElem?_cons_succ, List.getElem?_cons_zero, hc]; rfl) (by simp) rfl kk
theorem wp_as2 {x : Nat} {x0 x1 u : Value} (hi : decode Y.2.1 pc = .ok (.astore_n 2, 1)) (kk : wp_m l Y sc k n (pc + 1) (x0 :: x1 :: .ref x :: R) st h Q) (hc : x1.category = 1 := by rfl) : wp_m l Y sc k n pc (x0 :: x1 :: u :: R) (.ref x :: st) h Q := wp_astore_n (i := 2) hi rfl (by simp only [mx_ok1, List.getElem?_cons_succ, List.getElem?_cons_zero, hc]; rfl) (by simp) rfl kk
theorem wp_an2  {x0 x1 u : Value} (hi : decode Y.2.1 pc = .ok (.astore_n 2, 1)) (kk : wp_m l Y sc k n (pc + 1) (x0 :: x1 :: .null :: R) st h Q) (hc : x1.category = 1 := by rfl) : wp_m l Y sc k n pc (x0 :: x1 :: u :: R) (.null :: st) h Q := wp_astore_nN (i := 2) hi rfl (by simp only [mx_ok1, List.getElem?_cons_succ, List.getElem?_cons_zero, hc]; rfl) (by simp) rfl kk
theorem wp_ii2 {z d : Int} {x0 x1 : Value} (hi : decode Y.2.1 pc = .ok (.iinc 2 d, 3)) (kk : wp_m l Y sc k n (pc + 3) (x0 :: x1 :: .int (iI (z + d)) :: R) st h Q) (hc : x1.category = 1 := by rfl) : wp_m l Y sc k n pc (x0 :: x1 :: .int (iI z) :: R) st h Q := wp_iinc hi rfl (iI_add z d) (by simp only [mx_ok1, List.getElem?_cons_succ, List.getElem?_cons_zero, hc]; rfl) rfl kk
theorem wp_is3 {x : Int32} {x0 x1 x2 u : Value} (hi : decode Y.2.1 pc = .ok (.istore_n 3, 1)) (kk : wp_m l Y sc k n (pc + 1) (x0 :: x1 :: x2 :: .int x :: R) st h Q) (hc : x2.category = 1 := by rfl) : wp_m l Y sc k n pc (x0 :: x1 :: x2 :: u :: R) (.int x :: st) h Q := wp_istore_n (i := 3) hi rfl (by simp only [mx_ok1, List.getElem?_cons_succ, List.getElem?_cons_zero, hc]; rfl) (by simp) rfl kk
theorem wp_as3 {x : Nat} {x0 x1 x2 u : Value} (hi : decode Y.2.1 pc = .ok (.astore_n 3, 1)) (kk : wp_m l Y sc k n (pc + 1) (x0 :: x1 :: x2 :: .ref x :: R) st h Q) (hc : x2.category = 1 := by rfl) : wp_m l Y sc k n pc (x0 :: x1 :: x2 :: u :: R) (.ref x :: st) h Q := wp_astore_n (i := 3) hi rfl (by simp only [mx_ok1, List.getElem?_cons_succ, List.getElem?_cons_zero, hc]; rfl) (by simp) rfl kk
theorem wp_an3  {x0 x1 x2 u : Value} (hi : decode Y.2.1 pc = .ok (.astore_n 3, 1)) (kk : wp_m l Y sc k n (pc + 1) (x0 :: x1 :: x2 :: .null :: R) st h Q) (hc : x2.category = 1 := by rfl) : wp_m l Y sc k n pc (x0 :: x1 :: x2 :: u :: R) (.null :: st) h Q := wp_astore_nN (i := 3) hi rfl (by simp only [mx_ok1, List.getElem?_cons_succ, List.getElem?_cons_zero, hc]; rfl) (by simp) rfl kk
theorem wp_ii3 {z d : Int} {x0 x1 x2 : Value} (hi : decode Y.2.1 pc = .ok (.iinc 3 d, 3)) (kk : wp_m l Y sc k n (pc + 3) (x0 :: x1 :: x2 :: .int (iI (z + d)) :: R) st h Q) (hc : x2.category = 1 := by rfl) : wp_m l Y sc k n pc (x0 :: x1 :: x2 :: .int (iI z) :: R) st h Q := wp_iinc hi rfl (iI_add z d) (by simp only [mx_ok1, List.getElem?_cons_succ, List.getElem?_cons_zero, hc]; rfl) rfl kk
theorem wp_is4 {x : Int32} {x0 x1 x2 x3 u : Value} (hi : decode Y.2.1 pc = .ok (.istore 4, 2)) (kk : wp_m l Y sc k n (pc + 2) (x0 :: x1 :: x2 :: x3 :: .int x :: R) st h Q) (hc : x3.category = 1 := by rfl) : wp_m l Y sc k n pc (x0 :: x1 :: x2 :: x3 :: u :: R) (.int x :: st) h Q := wp_istore hi (by simp only [mx_ok1, List.getElem?_cons_succ, List.getElem?_cons_zero, hc]; rfl) (by simp) rfl kk
theorem wp_as4 {x : Nat} {x0 x1 x2 x3 u : Value} (hi : decode Y.2.1 pc = .ok (.astore 4, 2)) (kk : wp_m l Y sc k n (pc + 2) (x0 :: x1 :: x2 :: x3 :: .ref x :: R) st h Q) (hc : x3.category = 1 := by rfl) : wp_m l Y sc k n pc (x0 :: x1 :: x2 :: x3 :: u :: R) (.ref x :: st) h Q := wp_astore hi (by simp only [mx_ok1, List.getElem?_cons_succ, List.getElem?_cons_zero, hc]; rfl) (by simp) rfl kk
theorem wp_an4  {x0 x1 x2 x3 u : Value} (hi : decode Y.2.1 pc = .ok (.astore 4, 2)) (kk : wp_m l Y sc k n (pc + 2) (x0 :: x1 :: x2 :: x3 :: .null :: R) st h Q) (hc : x3.category = 1 := by rfl) : wp_m l Y sc k n pc (x0 :: x1 :: x2 :: x3 :: u :: R) (.null :: st) h Q := wp_astoreN hi (by simp only [mx_ok1, List.getElem?_cons_succ, List.getElem?_cons_zero, hc]; rfl) (by simp) rfl kk
theorem wp_ii4 {z d : Int} {x0 x1 x2 x3 : Value} (hi : decode Y.2.1 pc = .ok (.iinc 4 d, 3)) (kk : wp_m l Y sc k n (pc + 3) (x0 :: x1 :: x2 :: x3 :: .int (iI (z + d)) :: R) st h Q) (hc : x3.category = 1 := by rfl) : wp_m l Y sc k n pc (x0 :: x1 :: x2 :: x3 :: .int (iI z) :: R) st h Q := wp_iinc hi rfl (iI_add z d) (by simp only [mx_ok1, List.getElem?_cons_succ, List.getElem?_cons_zero, hc]; rfl) rfl kk
theorem wp_is5 {x : Int32} {x0 x1 x2 x3 x4 u : Value} (hi : decode Y.2.1 pc = .ok (.istore 5, 2)) (kk : wp_m l Y sc k n (pc + 2) (x0 :: x1 :: x2 :: x3 :: x4 :: .int x :: R) st h Q) (hc : x4.category = 1 := by rfl) : wp_m l Y sc k n pc (x0 :: x1 :: x2 :: x3 :: x4 :: u :: R) (.int x :: st) h Q := wp_istore hi (by simp only [mx_ok1, List.getElem?_cons_succ, List.getElem?_cons_zero, hc]; rfl) (by simp) rfl kk
theorem wp_as5 {x : Nat} {x0 x1 x2 x3 x4 u : Value} (hi : decode Y.2.1 pc = .ok (.astore 5, 2)) (kk : wp_m l Y sc k n (pc + 2) (x0 :: x1 :: x2 :: x3 :: x4 :: .ref x :: R) st h Q) (hc : x4.category = 1 := by rfl) : wp_m l Y sc k n pc (x0 :: x1 :: x2 :: x3 :: x4 :: u :: R) (.ref x :: st) h Q := wp_astore hi (by simp only [mx_ok1, List.getElem?_cons_succ, List.getElem?_cons_zero, hc]; rfl) (by simp) rfl kk
theorem wp_an5  {x0 x1 x2 x3 x4 u : Value} (hi : decode Y.2.1 pc = .ok (.astore 5, 2)) (kk : wp_m l Y sc k n (pc + 2) (x0 :: x1 :: x2 :: x3 :: x4 :: .null :: R) st h Q) (hc : x4.category = 1 := by rfl) : wp_m l Y sc k n pc (x0 :: x1 :: x2 :: x3 :: x4 :: u :: R) (.null :: st) h Q := wp_astoreN hi (by simp only [mx_ok1, List.getElem?_cons_succ, List.getElem?_cons_zero, hc]; rfl) (by simp) rfl kk
theorem wp_ii5 {z d : Int} {x0 x1 x2 x3 x4 : Value} (hi : decode Y.2.1 pc = .ok (.iinc 5 d, 3)) (kk : wp_m l Y sc k n (pc + 3) (x0 :: x1 :: x2 :: x3 :: x4 :: .int (iI (z + d)) :: R) st h Q) (hc : x4.category = 1 := by rfl) : wp_m l Y sc k n pc (x0 :: x1 :: x2 :: x3 :: x4 :: .int (iI z) :: R) st h Q := wp_iinc hi rfl (iI_add z d) (by simp only [mx_ok1, List.getElem?_cons_succ, List.getElem?_cons_zero, hc]; rfl) rfl kk
theorem wp_is6 {x : Int32} {x0 x1 x2 x3 x4 x5 u : Value} (hi : decode Y.2.1 pc = .ok (.istore 6, 2)) (kk : wp_m l Y sc k n (pc + 2) (x0 :: x1 :: x2 :: x3 :: x4 :: x5 :: .int x :: R) st h Q) (hc : x5.category = 1 := by rfl) : wp_m l Y sc k n pc (x0 :: x1 :: x2 :: x3 :: x4 :: x5 :: u :: R) (.int x :: st) h Q := wp_istore hi (by simp only [mx_ok1, List.getElem?_cons_succ, List.getElem?_cons_zero, hc]; rfl) (by simp) rfl kk
theorem wp_as6 {x : Nat} {x0 x1 x2 x3 x4 x5 u : Value} (hi : decode Y.2.1 pc = .ok (.astore 6, 2)) (kk : wp_m l Y sc k n (pc + 2) (x0 :: x1 :: x2 :: x3 :: x4 :: x5 :: .ref x :: R) st h Q) (hc : x5.category = 1 := by rfl) : wp_m l Y sc k n pc (x0 :: x1 :: x2 :: x3 :: x4 :: x5 :: u :: R) (.ref x :: st) h Q := wp_astore hi (by simp only [mx_ok1, List.getElem?_cons_succ, List.getElem?_cons_zero, hc]; rfl) (by simp) rfl kk
theorem wp_an6  {x0 x1 x2 x3 x4 x5 u : Value} (hi : decode Y.2.1 pc = .ok (.astore 6, 2)) (kk : wp_m l Y sc k n (pc + 2) (x0 :: x1 :: x2 :: x3 :: x4 :: x5 :: .null :: R) st h Q) (hc : x5.category = 1 := by rfl) : wp_m l Y sc k n pc (x0 :: x1 :: x2 :: x3 :: x4 :: x5 :: u :: R) (.null :: st) h Q := wp_astoreN hi (by simp only [mx_ok1, List.getElem?_cons_succ, List.getElem?_cons_zero, hc]; rfl) (by simp) rfl kk
theorem wp_ii6 {z d : Int} {x0 x1 x2 x3 x4 x5 : Value} (hi : decode Y.2.1 pc = .ok (.iinc 6 d, 3)) (kk : wp_m l Y sc k n (pc + 3) (x0 :: x1 :: x2 :: x3 :: x4 :: x5 :: .int (iI (z + d)) :: R) st h Q) (hc : x5.category = 1 := by rfl) : wp_m l Y sc k n pc (x0 :: x1 :: x2 :: x3 :: x4 :: x5 :: .int (iI z) :: R) st h Q := wp_iinc hi rfl (iI_add z d) (by simp only [mx_ok1, List.getElem?_cons_succ, List.getElem?_cons_zero, hc]; rfl) rfl kk
theorem wp_is7 {x : Int32} {x0 x1 x2 x3 x4 x5 x6 u : Value} (hi : decode Y.2.1 pc = .ok (.istore 7, 2)) (kk : wp_m l Y sc k n (pc + 2) (x0 :: x1 :: x2 :: x3 :: x4 :: x5 :: x6 :: .int x :: R) st h Q) (hc : x6.category = 1 := by rfl) : wp_m l Y sc k n pc (x0 :: x1 :: x2 :: x3 :: x4 :: x5 :: x6 :: u :: R) (.int x :: st) h Q := wp_istore hi (by simp only [mx_ok1, List.getElem?_cons_succ, List.getElem?_cons_zero, hc]; rfl) (by simp) rfl kk
theorem wp_as7 {x : Nat} {x0 x1 x2 x3 x4 x5 x6 u : Value} (hi : decode Y.2.1 pc = .ok (.astore 7, 2)) (kk : wp_m l Y sc k n (pc + 2) (x0 :: x1 :: x2 :: x3 :: x4 :: x5 :: x6 :: .ref x :: R) st h Q) (hc : x6.category = 1 := by rfl) : wp_m l Y sc k n pc (x0 :: x1 :: x2 :: x3 :: x4 :: x5 :: x6 :: u :: R) (.ref x :: st) h Q := wp_astore hi (by simp only [mx_ok1, List.getElem?_cons_succ, List.getElem?_cons_zero, hc]; rfl) (by simp) rfl kk
theorem wp_an7  {x0 x1 x2 x3 x4 x5 x6 u : Value} (hi : decode Y.2.1 pc = .ok (.astore 7, 2)) (kk : wp_m l Y sc k n (pc + 2) (x0 :: x1 :: x2 :: x3 :: x4 :: x5 :: x6 :: .null :: R) st h Q) (hc : x6.category = 1 := by rfl) : wp_m l Y sc k n pc (x0 :: x1 :: x2 :: x3 :: x4 :: x5 :: x6 :: u :: R) (.null :: st) h Q := wp_astoreN hi (by simp only [mx_ok1, List.getElem?_cons_succ, List.getElem?_cons_zero, hc]; rfl) (by simp) rfl kk
theorem wp_ii7 {z d : Int} {x0 x1 x2 x3 x4 x5 x6 : Value} (hi : decode Y.2.1 pc = .ok (.iinc 7 d, 3)) (kk : wp_m l Y sc k n (pc + 3) (x0 :: x1 :: x2 :: x3 :: x4 :: x5 :: x6 :: .int (iI (z + d)) :: R) st h Q) (hc : x6.category = 1 := by rfl) : wp_m l Y sc k n pc (x0 :: x1 :: x2 :: x3 :: x4 :: x5 :: x6 :: .int (iI z) :: R) st h Q := wp_iinc hi rfl (iI_add z d) (by simp only [mx_ok1, List.getElem?_cons_succ, List.getElem?_cons_zero, hc]; rfl) rfl kk
theorem wp_is8 {x : Int32} {x0 x1 x2 x3 x4 x5 x6 x7 u : Value} (hi : decode Y.2.1 pc = .ok (.istore 8, 2)) (kk : wp_m l Y sc k n (pc + 2) (x0 :: x1 :: x2 :: x3 :: x4 :: x5 :: x6 :: x7 :: .int x :: R) st h Q) (hc : x7.category = 1 := by rfl) : wp_m l Y sc k n pc (x0 :: x1 :: x2 :: x3 :: x4 :: x5 :: x6 :: x7 :: u :: R) (.int x :: st) h Q := wp_istore hi (by simp only [mx_ok1, List.getElem?_cons_succ, List.getElem?_cons_zero, hc]; rfl) (by simp) rfl kk
theorem wp_as8 {x : Nat} {x0 x1 x2 x3 x4 x5 x6 x7 u : Value} (hi : decode Y.2.1 pc = .ok (.astore 8, 2)) (kk : wp_m l Y sc k n (pc + 2) (x0 :: x1 :: x2 :: x3 :: x4 :: x5 :: x6 :: x7 :: .ref x :: R) st h Q) (hc : x7.category = 1 := by rfl) : wp_m l Y sc k n pc (x0 :: x1 :: x2 :: x3 :: x4 :: x5 :: x6 :: x7 :: u :: R) (.ref x :: st) h Q := wp_astore hi (by simp only [mx_ok1, List.getElem?_cons_succ, List.getElem?_cons_zero, hc]; rfl) (by simp) rfl kk
theorem wp_an8  {x0 x1 x2 x3 x4 x5 x6 x7 u : Value} (hi : decode Y.2.1 pc = .ok (.astore 8, 2)) (kk : wp_m l Y sc k n (pc + 2) (x0 :: x1 :: x2 :: x3 :: x4 :: x5 :: x6 :: x7 :: .null :: R) st h Q) (hc : x7.category = 1 := by rfl) : wp_m l Y sc k n pc (x0 :: x1 :: x2 :: x3 :: x4 :: x5 :: x6 :: x7 :: u :: R) (.null :: st) h Q := wp_astoreN hi (by simp only [mx_ok1, List.getElem?_cons_succ, List.getElem?_cons_zero, hc]; rfl) (by simp) rfl kk
theorem wp_ii8 {z d : Int} {x0 x1 x2 x3 x4 x5 x6 x7 : Value} (hi : decode Y.2.1 pc = .ok (.iinc 8 d, 3)) (kk : wp_m l Y sc k n (pc + 3) (x0 :: x1 :: x2 :: x3 :: x4 :: x5 :: x6 :: x7 :: .int (iI (z + d)) :: R) st h Q) (hc : x7.category = 1 := by rfl) : wp_m l Y sc k n pc (x0 :: x1 :: x2 :: x3 :: x4 :: x5 :: x6 :: x7 :: .int (iI z) :: R) st h Q := wp_iinc hi rfl (iI_add z d) (by simp only [mx_ok1, List.getElem?_cons_succ, List.getElem?_cons_zero, hc]; rfl) rfl kk
theorem wp_is9 {x : Int32} {x0 x1 x2 x3 x4 x5 x6 x7 x8 u : Value} (hi : decode Y.2.1 pc = .ok (.istore 9, 2)) (kk : wp_m l Y sc k n (pc + 2) (x0 :: x1 :: x2 :: x3 :: x4 :: x5 :: x6 :: x7 :: x8 :: .int x :: R) st h Q) (hc : x8.category = 1 := by rfl) : wp_m l Y sc k n pc (x0 :: x1 :: x2 :: x3 :: x4 :: x5 :: x6 :: x7 :: x8 :: u :: R) (.int x :: st) h Q := wp_istore hi (by simp only [mx_ok1, List.getElem?_cons_succ, List.getElem?_cons_zero, hc]; rfl) (by simp) rfl kk
theorem wp_as9 {x : Nat} {x0 x1 x2 x3 x4 x5 x6 x7 x8 u : Value} (hi : decode Y.2.1 pc = .ok (.astore 9, 2)) (kk : wp_m l Y sc k n (pc + 2) (x0 :: x1 :: x2 :: x3 :: x4 :: x5 :: x6 :: x7 :: x8 :: .ref x :: R) st h Q) (hc : x8.category = 1 := by rfl) : wp_m l Y sc k n pc (x0 :: x1 :: x2 :: x3 :: x4 :: x5 :: x6 :: x7 :: x8 :: u :: R) (.ref x :: st) h Q := wp_astore hi (by simp only [mx_ok1, List.getElem?_cons_succ, List.getElem?_cons_zero, hc]; rfl) (by simp) rfl kk
theorem wp_an9  {x0 x1 x2 x3 x4 x5 x6 x7 x8 u : Value} (hi : decode Y.2.1 pc = .ok (.astore 9, 2)) (kk : wp_m l Y sc k n (pc + 2) (x0 :: x1 :: x2 :: x3 :: x4 :: x5 :: x6 :: x7 :: x8 :: .null :: R) st h Q) (hc : x8.category = 1 := by rfl) : wp_m l Y sc k n pc (x0 :: x1 :: x2 :: x3 :: x4 :: x5 :: x6 :: x7 :: x8 :: u :: R) (.null :: st) h Q := wp_astoreN hi (by simp only [mx_ok1, List.getElem?_cons_succ, List.getElem?_cons_zero, hc]; rfl) (by simp) rfl kk
theorem wp_ii9 {z d : Int} {x0 x1 x2 x3 x4 x5 x6 x7 x8 : Value} (hi : decode Y.2.1 pc = .ok (.iinc 9 d, 3)) (kk : wp_m l Y sc k n (pc + 3) (x0 :: x1 :: x2 :: x3 :: x4 :: x5 :: x6 :: x7 :: x8 :: .int (iI (z + d)) :: R) st h Q) (hc : x8.category = 1 := by rfl) : wp_m l Y sc k n pc (x0 :: x1 :: x2 :: x3 :: x4 :: x5 :: x6 :: x7 :: x8 :: .int (iI z) :: R) st h Q := wp_iinc hi rfl (iI_add z d) (by simp only [mx_ok1, List.getElem?_cons_succ, List.getElem?_cons_zero, hc]; rfl) rfl kk
theorem wp_is10 {x : Int32} {x0 x1 x2 x3 x4 x5 x6 x7 x8 x9 u : Value} (hi : decode Y.2.1 pc = .ok (.istore 10, 2)) (kk : wp_m l Y sc k n (pc + 2) (x0 :: x1 :: x2 :: x3 :: x4 :: x5 :: x6 :: x7 :: x8 :: x9 :: .int x :: R) st h Q) (hc : x9.category = 1 := by rfl) : wp_m l Y sc k n pc (x0 :: x1 :: x2 :: x3 :: x4 :: x5 :: x6 :: x7 :: x8 :: x9 :: u :: R) (.int x :: st) h Q := wp_istore hi (by simp only [mx_ok1, List.getElem?_cons_succ, List.getElem?_cons_zero, hc]; rfl) (by simp) rfl kk
theorem wp_as10 {x : Nat} {x0 x1 x2 x3 x4 x5 x6 x7 x8 x9 u : Value} (hi : decode Y.2.1 pc = .ok (.astore 10, 2)) (kk : wp_m l Y sc k n (pc + 2) (x0 :: x1 :: x2 :: x3 :: x4 :: x5 :: x6 :: x7 :: x8 :: x9 :: .ref x :: R) st h Q) (hc : x9.category = 1 := by rfl) : wp_m l Y sc k n pc (x0 :: x1 :: x2 :: x3 :: x4 :: x5 :: x6 :: x7 :: x8 :: x9 :: u :: R) (.ref x :: st) h Q := wp_astore hi (by simp only [mx_ok1, List.getElem?_cons_succ, List.getElem?_cons_zero, hc]; rfl) (by simp) rfl kk
theorem wp_an10  {x0 x1 x2 x3 x4 x5 x6 x7 x8 x9 u : Value} (hi : decode Y.2.1 pc = .ok (.astore 10, 2)) (kk : wp_m l Y sc k n (pc + 2) (x0 :: x1 :: x2 :: x3 :: x4 :: x5 :: x6 :: x7 :: x8 :: x9 :: .null :: R) st h Q) (hc : x9.category = 1 := by rfl) : wp_m l Y sc k n pc (x0 :: x1 :: x2 :: x3 :: x4 :: x5 :: x6 :: x7 :: x8 :: x9 :: u :: R) (.null :: st) h Q := wp_astoreN hi (by simp only [mx_ok1, List.getElem?_cons_succ, List.getElem?_cons_zero, hc]; rfl) (by simp) rfl kk
theorem wp_ii10 {z d : Int} {x0 x1 x2 x3 x4 x5 x6 x7 x8 x9 : Value} (hi : decode Y.2.1 pc = .ok (.iinc 10 d, 3)) (kk : wp_m l Y sc k n (pc + 3) (x0 :: x1 :: x2 :: x3 :: x4 :: x5 :: x6 :: x7 :: x8 :: x9 :: .int (iI (z + d)) :: R) st h Q) (hc : x9.category = 1 := by rfl) : wp_m l Y sc k n pc (x0 :: x1 :: x2 :: x3 :: x4 :: x5 :: x6 :: x7 :: x8 :: x9 :: .int (iI z) :: R) st h Q := wp_iinc hi rfl (iI_add z d) (by simp only [mx_ok1, List.getElem?_cons_succ, List.getElem?_cons_zero, hc]; rfl) rfl kk
theorem wp_is11 {x : Int32} {x0 x1 x2 x3 x4 x5 x6 x7 x8 x9 x10 u : Value} (hi : decode Y.2.1 pc = .ok (.istore 11, 2)) (kk : wp_m l Y sc k n (pc + 2) (x0 :: x1 :: x2 :: x3 :: x4 :: x5 :: x6 :: x7 :: x8 :: x9 :: x10 :: .int x :: R) st h Q) (hc : x10.category = 1 := by rfl) : wp_m l Y sc k n pc (x0 :: x1 :: x2 :: x3 :: x4 :: x5 :: x6 :: x7 :: x8 :: x9 :: x10 :: u :: R) (.int x :: st) h Q := wp_istore hi (by simp only [mx_ok1, List.getElem?_cons_succ, List.getElem?_cons_zero, hc]; rfl) (by simp) rfl kk
theorem wp_as11 {x : Nat} {x0 x1 x2 x3 x4 x5 x6 x7 x8 x9 x10 u : Value} (hi : decode Y.2.1 pc = .ok (.astore 11, 2)) (kk : wp_m l Y sc k n (pc + 2) (x0 :: x1 :: x2 :: x3 :: x4 :: x5 :: x6 :: x7 :: x8 :: x9 :: x10 :: .ref x :: R) st h Q) (hc : x10.category = 1 := by rfl) : wp_m l Y sc k n pc (x0 :: x1 :: x2 :: x3 :: x4 :: x5 :: x6 :: x7 :: x8 :: x9 :: x10 :: u :: R) (.ref x :: st) h Q := wp_astore hi (by simp only [mx_ok1, List.getElem?_cons_succ, List.getElem?_cons_zero, hc]; rfl) (by simp) rfl kk
theorem wp_an11  {x0 x1 x2 x3 x4 x5 x6 x7 x8 x9 x10 u : Value} (hi : decode Y.2.1 pc = .ok (.astore 11, 2)) (kk : wp_m l Y sc k n (pc + 2) (x0 :: x1 :: x2 :: x3 :: x4 :: x5 :: x6 :: x7 :: x8 :: x9 :: x10 :: .null :: R) st h Q) (hc : x10.category = 1 := by rfl) : wp_m l Y sc k n pc (x0 :: x1 :: x2 :: x3 :: x4 :: x5 :: x6 :: x7 :: x8 :: x9 :: x10 :: u :: R) (.null :: st) h Q := wp_astoreN hi (by simp only [mx_ok1, List.getElem?_cons_succ, List.getElem?_cons_zero, hc]; rfl) (by simp) rfl kk
theorem wp_ii11 {z d : Int} {x0 x1 x2 x3 x4 x5 x6 x7 x8 x9 x10 : Value} (hi : decode Y.2.1 pc = .ok (.iinc 11 d, 3)) (kk : wp_m l Y sc k n (pc + 3) (x0 :: x1 :: x2 :: x3 :: x4 :: x5 :: x6 :: x7 :: x8 :: x9 :: x10 :: .int (iI (z + d)) :: R) st h Q) (hc : x10.category = 1 := by rfl) : wp_m l Y sc k n pc (x0 :: x1 :: x2 :: x3 :: x4 :: x5 :: x6 :: x7 :: x8 :: x9 :: x10 :: .int (iI z) :: R) st h Q := wp_iinc hi rfl (iI_add z d) (by simp only [mx_ok1, List.getElem?_cons_succ, List.getElem?_cons_zero, hc]; rfl) rfl kk
theorem wp_is12 {x : Int32} {x0 x1 x2 x3 x4 x5 x6 x7 x8 x9 x10 x11 u : Value} (hi : decode Y.2.1 pc = .ok (.istore 12, 2)) (kk : wp_m l Y sc k n (pc + 2) (x0 :: x1 :: x2 :: x3 :: x4 :: x5 :: x6 :: x7 :: x8 :: x9 :: x10 :: x11 :: .int x :: R) st h Q) (hc : x11.category = 1 := by rfl) : wp_m l Y sc k n pc (x0 :: x1 :: x2 :: x3 :: x4 :: x5 :: x6 :: x7 :: x8 :: x9 :: x10 :: x11 :: u :: R) (.int x :: st) h Q := wp_istore hi (by simp only [mx_ok1, List.getElem?_cons_succ, List.getElem?_cons_zero, hc]; rfl) (by simp) rfl kk
theorem wp_as12 {x : Nat} {x0 x1 x2 x3 x4 x5 x6 x7 x8 x9 x10 x11 u : Value} (hi : decode Y.2.1 pc = .ok (.astore 12, 2)) (kk : wp_m l Y sc k n (pc + 2) (x0 :: x1 :: x2 :: x3 :: x4 :: x5 :: x6 :: x7 :: x8 :: x9 :: x10 :: x11 :: .ref x :: R) st h Q) (hc : x11.category = 1 := by rfl) : wp_m l Y sc k n pc (x0 :: x1 :: x2 :: x3 :: x4 :: x5 :: x6 :: x7 :: x8 :: x9 :: x10 :: x11 :: u :: R) (.ref x :: st) h Q := wp_astore hi (by simp only [mx_ok1, List.getElem?_cons_succ, List.getElem?_cons_zero, hc]; rfl) (by simp) rfl kk
theorem wp_an12  {x0 x1 x2 x3 x4 x5 x6 x7 x8 x9 x10 x11 u : Value} (hi : decode Y.2.1 pc = .ok (.astore 12, 2)) (kk : wp_m l Y sc k n (pc + 2) (x0 :: x1 :: x2 :: x3 :: x4 :: x5 :: x6 :: x7 :: x8 :: x9 :: x10 :: x11 :: .null :: R) st h Q) (hc : x11.category = 1 := by rfl) : wp_m l Y sc k n pc (x0 :: x1 :: x2 :: x3 :: x4 :: x5 :: x6 :: x7 :: x8 :: x9 :: x10 :: x11 :: u :: R) (.null :: st) h Q := wp_astoreN hi (by simp only [mx_ok1, List.getElem?_cons_succ, List.getElem?_cons_zero, hc]; rfl) (by simp) rfl kk
theorem wp_ii12 {z d : Int} {x0 x1 x2 x3 x4 x5 x6 x7 x8 x9 x10 x11 : Value} (hi : decode Y.2.1 pc = .ok (.iinc 12 d, 3)) (kk : wp_m l Y sc k n (pc + 3) (x0 :: x1 :: x2 :: x3 :: x4 :: x5 :: x6 :: x7 :: x8 :: x9 :: x10 :: x11 :: .int (iI (z + d)) :: R) st h Q) (hc : x11.category = 1 := by rfl) : wp_m l Y sc k n pc (x0 :: x1 :: x2 :: x3 :: x4 :: x5 :: x6 :: x7 :: x8 :: x9 :: x10 :: x11 :: .int (iI z) :: R) st h Q := wp_iinc hi rfl (iI_add z d) (by simp only [mx_ok1, List.getElem?_cons_succ, List.getElem?_cons_zero, hc]; rfl) rfl kk
end ST
section WI
variable {l : Launch} {Y : mx_Y} {sc : mx_S} {k n : Nat} {pc : Nat} {L st : List Value} {h : mx_H} {Q : Option Value → mx_H → Prop}
theorem wi_iconst {i : Int} (hi : decode Y.2.1 pc = .ok (.iconst i, 1)) (kk : wp_m l Y sc k n (pc + 1) L (.int (iI i) :: st) h Q) : wp_m l Y sc k n pc L st h Q := wp_iconst hi rfl kk
theorem wi_bipush {i : Int} (hi : decode Y.2.1 pc = .ok (.bipush i, 2)) (kk : wp_m l Y sc k n (pc + 2) L (.int (iI i) :: st) h Q) (hv : (Int8.ofInt i).toInt32 = iI i := by decide) : wp_m l Y sc k n pc L st h Q := wp_bipush hi hv kk
theorem wi_sipush {i : Int} (hi : decode Y.2.1 pc = .ok (.sipush i, 3)) (kk : wp_m l Y sc k n (pc + 3) L (.int (iI i) :: st) h Q) (hv : (Int16.ofInt i).toInt32 = iI i := by decide) : wp_m l Y sc k n pc L st h Q := wp_sipush hi hv kk
theorem wi_iadd {x y : Int} (hi : decode Y.2.1 pc = .ok (.iadd, 1)) (kk : wp_m l Y sc k n (pc + 1) L (.int (iI (x + y)) :: st) h Q) : wp_m l Y sc k n pc L (.int (iI y) :: .int (iI x) :: st) h Q := wp_iadd hi (by rw [iI_add]; exact kk)
theorem wi_isub {x y : Int} (hi : decode Y.2.1 pc = .ok (.isub, 1)) (kk : wp_m l Y sc k n (pc + 1) L (.int (iI (x - y)) :: st) h Q) : wp_m l Y sc k n pc L (.int (iI y) :: .int (iI x) :: st) h Q := wp_isub hi (by rw [iI_sub]; exact kk)
theorem wi_imul {x y : Int} (hi : decode Y.2.1 pc = .ok (.imul, 1)) (kk : wp_m l Y sc k n (pc + 1) L (.int (iI (x * y)) :: st) h Q) : wp_m l Y sc k n pc L (.int (iI y) :: .int (iI x) :: st) h Q := wp_imul hi (by rw [iI_mul]; exact kk)

theorem wi_if_eq {x : Int} {off : Int} {t : Nat} (hi : decode Y.2.1 pc = .ok (.ifCond .eq off, 3)) (ht : (pc : Int) + off = (t : Int)) (kt : x = 0 → wp_m l Y sc k n t L st h Q) (kf : ¬ x = 0 → wp_m l Y sc k n (pc + 3) L st h Q) (hx : rg x := by first | assumption | (constructor <;> omega)) : wp_m l Y sc k n pc L (.int (iI x) :: st) h Q := have h0 : rg 0 := ⟨by decide, by decide⟩; wp_if_eq hi ht (fun q => kt ((iI_eq hx h0).mp q)) (fun q => kf (fun q2 => q ((iI_eq hx h0).mpr q2)))
theorem wi_ic_eq {x y : Int} {off : Int} {t : Nat} (hi : decode Y.2.1 pc = .ok (.if_icmp .eq off, 3)) (ht : (pc : Int) + off = (t : Int)) (kt : x = y → wp_m l Y sc k n t L st h Q) (kf : ¬ x = y → wp_m l Y sc k n (pc + 3) L st h Q) (hx : rg x := by first | assumption | (constructor <;> omega)) (hy : rg y := by first | assumption | (constructor <;> omega)) : wp_m l Y sc k n pc L (.int (iI y) :: .int (iI x) :: st) h Q := wp_ic_eq hi ht (fun q => kt ((iI_eq hx hy).mp q)) (fun q => kf (fun q2 => q ((iI_eq hx hy).mpr q2)))
theorem wi_if_ne {x : Int} {off : Int} {t : Nat} (hi : decode Y.2.1 pc = .ok (.ifCond .ne off, 3)) (ht : (pc : Int) + off = (t : Int)) (kt : ¬ x = 0 → wp_m l Y sc k n t L st h Q) (kf : x = 0 → wp_m l Y sc k n (pc + 3) L st h Q) (hx : rg x := by first | assumption | (constructor <;> omega)) : wp_m l Y sc k n pc L (.int (iI x) :: st) h Q := have h0 : rg 0 := ⟨by decide, by decide⟩; wp_if_ne hi ht (fun q => kt (fun q2 => q ((iI_eq hx h0).mpr q2))) (fun q => kf ((iI_eq hx h0).mp q))
theorem wi_ic_ne {x y : Int} {off : Int} {t : Nat} (hi : decode Y.2.1 pc = .ok (.if_icmp .ne off, 3)) (ht : (pc : Int) + off = (t : Int)) (kt : ¬ x = y → wp_m l Y sc k n t L st h Q) (kf : x = y → wp_m l Y sc k n (pc + 3) L st h Q) (hx : rg x := by first | assumption | (constructor <;> omega)) (hy : rg y := by first | assumption | (constructor <;> omega)) : wp_m l Y sc k n pc L (.int (iI y) :: .int (iI x) :: st) h Q := wp_ic_ne hi ht (fun q => kt (fun q2 => q ((iI_eq hx hy).mpr q2))) (fun q => kf ((iI_eq hx hy).mp q))
theorem wi_if_lt {x : Int} {off : Int} {t : Nat} (hi : decode Y.2.1 pc = .ok (.ifCond .lt off, 3)) (ht : (pc : Int) + off = (t : Int)) (kt : x < 0 → wp_m l Y sc k n t L st h Q) (kf : ¬ x < 0 → wp_m l Y sc k n (pc + 3) L st h Q) (hx : rg x := by first | assumption | (constructor <;> omega)) : wp_m l Y sc k n pc L (.int (iI x) :: st) h Q := have h0 : rg 0 := ⟨by decide, by decide⟩; wp_if_lt hi ht (fun q => kt ((iI_lt hx h0).mp q)) (fun q => kf (fun q2 => q ((iI_lt hx h0).mpr q2)))
theorem wi_ic_lt {x y : Int} {off : Int} {t : Nat} (hi : decode Y.2.1 pc = .ok (.if_icmp .lt off, 3)) (ht : (pc : Int) + off = (t : Int)) (kt : x < y → wp_m l Y sc k n t L st h Q) (kf : ¬ x < y → wp_m l Y sc k n (pc + 3) L st h Q) (hx : rg x := by first | assumption | (constructor <;> omega)) (hy : rg y := by first | assumption | (constructor <;> omega)) : wp_m l Y sc k n pc L (.int (iI y) :: .int (iI x) :: st) h Q := wp_ic_lt hi ht (fun q => kt ((iI_lt hx hy).mp q)) (fun q => kf (fun q2 => q ((iI_lt hx hy).mpr q2)))
theorem wi_if_ge {x : Int} {off : Int} {t : Nat} (hi : decode Y.2.1 pc = .ok (.ifCond .ge off, 3)) (ht : (pc : Int) + off = (t : Int)) (kt : 0 ≤ x → wp_m l Y sc k n t L st h Q) (kf : ¬ 0 ≤ x → wp_m l Y sc k n (pc + 3) L st h Q) (hx : rg x := by first | assumption | (constructor <;> omega)) : wp_m l Y sc k n pc L (.int (iI x) :: st) h Q := have h0 : rg 0 := ⟨by decide, by decide⟩; wp_if_ge hi ht (fun q => kt ((iI_le h0 hx).mp q)) (fun q => kf (fun q2 => q ((iI_le h0 hx).mpr q2)))
theorem wi_ic_ge {x y : Int} {off : Int} {t : Nat} (hi : decode Y.2.1 pc = .ok (.if_icmp .ge off, 3)) (ht : (pc : Int) + off = (t : Int)) (kt : y ≤ x → wp_m l Y sc k n t L st h Q) (kf : ¬ y ≤ x → wp_m l Y sc k n (pc + 3) L st h Q) (hx : rg x := by first | assumption | (constructor <;> omega)) (hy : rg y := by first | assumption | (constructor <;> omega)) : wp_m l Y sc k n pc L (.int (iI y) :: .int (iI x) :: st) h Q := wp_ic_ge hi ht (fun q => kt ((iI_le hy hx).mp q)) (fun q => kf (fun q2 => q ((iI_le hy hx).mpr q2)))
theorem wi_if_gt {x : Int} {off : Int} {t : Nat} (hi : decode Y.2.1 pc = .ok (.ifCond .gt off, 3)) (ht : (pc : Int) + off = (t : Int)) (kt : 0 < x → wp_m l Y sc k n t L st h Q) (kf : ¬ 0 < x → wp_m l Y sc k n (pc + 3) L st h Q) (hx : rg x := by first | assumption | (constructor <;> omega)) : wp_m l Y sc k n pc L (.int (iI x) :: st) h Q := have h0 : rg 0 := ⟨by decide, by decide⟩; wp_if_gt hi ht (fun q => kt ((iI_lt h0 hx).mp q)) (fun q => kf (fun q2 => q ((iI_lt h0 hx).mpr q2)))
theorem wi_ic_gt {x y : Int} {off : Int} {t : Nat} (hi : decode Y.2.1 pc = .ok (.if_icmp .gt off, 3)) (ht : (pc : Int) + off = (t : Int)) (kt : y < x → wp_m l Y sc k n t L st h Q) (kf : ¬ y < x → wp_m l Y sc k n (pc + 3) L st h Q) (hx : rg x := by first | assumption | (constructor <;> omega)) (hy : rg y := by first | assumption | (constructor <;> omega)) : wp_m l Y sc k n pc L (.int (iI y) :: .int (iI x) :: st) h Q := wp_ic_gt hi ht (fun q => kt ((iI_lt hy hx).mp q)) (fun q => kf (fun q2 => q ((iI_lt hy hx).mpr q2)))
theorem wi_if_le {x : Int} {off : Int} {t : Nat} (hi : decode Y.2.1 pc = .ok (.ifCond .le off, 3)) (ht : (pc : Int) + off = (t : Int)) (kt : x ≤ 0 → wp_m l Y sc k n t L st h Q) (kf : ¬ x ≤ 0 → wp_m l Y sc k n (pc + 3) L st h Q) (hx : rg x := by first | assumption | (constructor <;> omega)) : wp_m l Y sc k n pc L (.int (iI x) :: st) h Q := have h0 : rg 0 := ⟨by decide, by decide⟩; wp_if_le hi ht (fun q => kt ((iI_le hx h0).mp q)) (fun q => kf (fun q2 => q ((iI_le hx h0).mpr q2)))
theorem wi_ic_le {x y : Int} {off : Int} {t : Nat} (hi : decode Y.2.1 pc = .ok (.if_icmp .le off, 3)) (ht : (pc : Int) + off = (t : Int)) (kt : x ≤ y → wp_m l Y sc k n t L st h Q) (kf : ¬ x ≤ y → wp_m l Y sc k n (pc + 3) L st h Q) (hx : rg x := by first | assumption | (constructor <;> omega)) (hy : rg y := by first | assumption | (constructor <;> omega)) : wp_m l Y sc k n pc L (.int (iI y) :: .int (iI x) :: st) h Q := wp_ic_le hi ht (fun q => kt ((iI_le hx hy).mp q)) (fun q => kf (fun q2 => q ((iI_le hx hy).mpr q2)))
end WI
end
section
/-! the heap of a run: its shape is fixed (SH), its numbers are a function of cell and place -/
abbrev sg_ : Type := Nat → Int → Int
def up_ (σ : sg_) (a : Nat) (k v : Int) : sg_ := fun b j => if b = a ∧ j = k then v else σ b j
theorem up_s (σ : sg_) (a : Nat) (k v : Int) : up_ σ a k v a k = v := if_pos ⟨rfl, rfl⟩
theorem up_n (σ : sg_) {a b : Nat} {k j : Int} (v : Int) (h : ¬ (b = a ∧ j = k)) : up_ σ a k v b j = σ b j := if_neg h
theorem up_o (σ : sg_) {a b : Nat} (k v : Int) (h : b ≠ a) : up_ σ a k v b = σ b := funext fun j => if_neg (fun q => h q.1)
def fv_ (σ : sg_) (a : Nat) (k : Nat) (v : Value) : Value := match v with
  | .int _ => .int (iI (σ a (k : Int)))
  | v => v
def fl_ (σ : sg_) (a : Nat) (c : va_E) : va_E := match c with
  | .inr (ci, fs) => .inr (ci, fs.mapIdx (fv_ σ a))
  | .inl (t, n, .inl _) => .inl (t, n, .inl (fun i => iI (σ a (i : Int))))
  | c => c
def hp_ (σ : sg_) : mx_H := SH.mapIdx (fun a c => fl_ σ a c)
theorem hp_at {a : Nat} {c : va_E} (σ : sg_) (h : SH[a]? = some c) : (hp_ σ)[a]? = some (fl_ σ a c) := by
  unfold hp_
  rw [List.getElem?_mapIdx, h]
  rfl
theorem hp_ext {σ σ' : sg_} {a : Nat} {c c' : va_E} (h : SH[a]? = some c) (hc : fl_ σ' a c = c') (ho : ∀ b, b ≠ a → σ' b = σ b) : (hp_ σ).set a c' = hp_ σ' := by
  apply List.ext_getElem?
  intro j
  by_cases hj : j = a
  · subst hj
    have hl : j < (hp_ σ).length := (List.getElem?_eq_some_iff.mp (hp_at σ h)).1
    rw [List.getElem?_set_self hl, hp_at σ' h, hc]
  · rw [List.getElem?_set_ne (Ne.symm hj)]
    unfold hp_
    rw [List.getElem?_mapIdx, List.getElem?_mapIdx]
    cases hx : SH[j]? with
    | none => rfl
    | some x =>
      show some (fl_ σ j x) = some (fl_ σ' j x)
      unfold fl_ fv_
      rw [ho j hj]
theorem hp_put {σ : sg_} {a : Nat} {ci kf : Nat} {fs : List Value} {z : Int32} (v : Int) (h : SH[a]? = some (.inr (ci, fs))) (hk : fs[kf]? = some (.int z)) : (hp_ σ).set a (.inr (ci, (fs.mapIdx (fv_ σ a)).set kf (.int (iI v)))) = hp_ (up_ σ a (kf : Int) v) := by
  refine hp_ext h ?_ (fun b hb => up_o σ _ _ hb)
  show Sum.inr _ = Sum.inr _
  congr 2
  apply List.ext_getElem?
  intro j
  rw [List.getElem?_mapIdx]
  by_cases hj : j = kf
  · subst hj
    have hl : j < fs.length := (List.getElem?_eq_some_iff.mp hk).1
    rw [List.getElem?_set_self (by rw [List.length_mapIdx]; exact hl), hk]
    show some (Value.int (iI (up_ σ a (j : Int) v a (j : Int)))) = _
    rw [up_s]
  · rw [List.getElem?_set_ne (Ne.symm hj), List.getElem?_mapIdx]
    cases hx : fs[j]? with
    | none => rfl
    | some x =>
      cases x with
      | int y =>
        show some (Value.int (iI (up_ σ a (kf : Int) v a (j : Int)))) = some (Value.int (iI (σ a (j : Int))))
        rw [up_n _ _ (fun q => hj (by have := q.2; omega))]
      | _ => rfl
theorem hp_ast {σ : sg_} {a t N : Nat} {f0 : Nat → Int32} {i : Nat} {j : Int} (v : Int) (h : SH[a]? = some (.inl (t, N, .inl f0))) (hi : (i : Int) = j) : (hp_ σ).set a (.inl (t, N, .inl (upd (fun i => iI (σ a (i : Int))) i (iI v)))) = hp_ (up_ σ a j v) := by
  refine hp_ext h ?_ (fun b hb => up_o σ _ _ hb)
  show Sum.inl _ = Sum.inl _
  congr 4
  funext x
  by_cases hx : x = i
  · subst hx
    rw [pk_us, hi, up_s]
  · rw [pk_un hx, up_n _ _ (fun q => hx (by have := q.2; omega))]
section HI
variable {l : Launch} {Y : mx_Y} {sc : mx_S} {k n : Nat} {pc : Nat} {L st : List Value} {Q : Option Value → mx_H → Prop} {σ : sg_}
theorem fl_get {σ : sg_} {a kf : Nat} {fs : List Value} {v : Value} (h : fs[kf]? = some v) : (fs.mapIdx (fv_ σ a))[kf]? = some (fv_ σ a kf v) := by
  rw [List.getElem?_mapIdx, h]
  rfl
theorem wi_getI (kz : Int) {idx ci kf a : Nat} {fin : Bool} {ft : FieldType} {fs : List Value} {z : Int32} (hi : decode Y.2.1 pc = .ok (.getfield idx, 3)) (hF : mx_F Y.1.cls idx ci kf fin ft) (ha : SH[a]? = some (.inr (ci, fs))) (hv : fs[kf]? = some (.int z)) (hz : (kf : Int) = kz) (kk : wp_m l Y sc k n (pc + 3) L (.int (iI (σ a kz)) :: st) (hp_ σ) Q) : wp_m l Y sc k n pc L (.ref a :: st) (hp_ σ) Q :=
  by
  subst hz
  exact wp_getf hi hF (hp_at σ ha) (fl_get hv) kk
theorem wi_getR {idx ci kf a j : Nat} {fin : Bool} {ft : FieldType} {fs : List Value} (hi : decode Y.2.1 pc = .ok (.getfield idx, 3)) (hF : mx_F Y.1.cls idx ci kf fin ft) (ha : SH[a]? = some (.inr (ci, fs))) (hv : fs[kf]? = some (.ref j)) (kk : wp_m l Y sc k n (pc + 3) L (.ref j :: st) (hp_ σ) Q) : wp_m l Y sc k n pc L (.ref a :: st) (hp_ σ) Q :=
  wp_getf hi hF (hp_at σ ha) (fl_get hv) kk
theorem wi_putI (kz : Int) {idx ci kf a : Nat} {ft : FieldType} {fs : List Value} {z : Int32} {v : Int} (hi : decode Y.2.1 pc = .ok (.putfield idx, 3)) (hF : mx_F Y.1.cls idx ci kf false ft) (ha : SH[a]? = some (.inr (ci, fs))) (hv : fs[kf]? = some (.int z)) (hz : (kf : Int) = kz) (hp : ∀ (b : Nat) (as : List Nat) (v' : Value), rl_v b as (.int (iI v)) v' → narrow ft v' = v' ∧ fits ft v' = true) (kk : wp_m l Y sc k n (pc + 3) L st (hp_ (up_ σ a kz v)) Q) : wp_m l Y sc k n pc L (.int (iI v) :: .ref a :: st) (hp_ σ) Q :=
  wp_putf hi hF (hp_at σ ha) (by rw [List.length_mapIdx]; exact (List.getElem?_eq_some_iff.mp hv).1) hp (by rw [hp_put v ha hv, hz]; exact kk)
theorem wi_ald {a N : Nat} {f0 : Nat → Int32} {z : Int} (hi : decode Y.2.1 pc = .ok (.iaload, 1)) (ha : SH[a]? = some (.inl (0, N, .inl f0))) (h0 : 0 ≤ z) (h1 : z < N) (hN : N ≤ 2147483647) (kk : wp_m l Y sc k n (pc + 1) L (.int (iI (σ a z)) :: st) (hp_ σ) Q) : wp_m l Y sc k n pc L (.int (iI z) :: .ref a :: st) (hp_ σ) Q := by
  refine wp_iaload hi (hp_at σ ha) (iI_in h0 h1 hN) ?_
  rw [iI_cl ⟨by omega, by omega⟩, Int.toNat_of_nonneg h0]
  exact kk
theorem wi_bald {a N : Nat} {f0 : Nat → Int32} {z : Int} (hi : decode Y.2.1 pc = .ok (.baload, 1)) (ha : SH[a]? = some (.inl (1, N, .inl f0))) (h0 : 0 ≤ z) (h1 : z < N) (hN : N ≤ 2147483647) (kk : wp_m l Y sc k n (pc + 1) L (.int (iI (σ a z)) :: st) (hp_ σ) Q) : wp_m l Y sc k n pc L (.int (iI z) :: .ref a :: st) (hp_ σ) Q := by
  refine wp_baload hi (hp_at σ ha) (iI_in h0 h1 hN) ?_
  rw [iI_cl ⟨by omega, by omega⟩, Int.toNat_of_nonneg h0]
  exact kk
theorem wi_ast {a N : Nat} {f0 : Nat → Int32} {z v : Int} (hi : decode Y.2.1 pc = .ok (.iastore, 1)) (ha : SH[a]? = some (.inl (0, N, .inl f0))) (h0 : 0 ≤ z) (h1 : z < N) (hN : N ≤ 2147483647) (kk : wp_m l Y sc k n (pc + 1) L st (hp_ (up_ σ a z v)) Q) : wp_m l Y sc k n pc L (.int (iI v) :: .int (iI z) :: .ref a :: st) (hp_ σ) Q := by
  refine wp_iastore hi (hp_at σ ha) (iI_in h0 h1 hN) ?_
  rw [hp_ast (j := z) v ha (by rw [iI_cl ⟨by omega, by omega⟩, Int.toNat_of_nonneg h0])]
  exact kk
theorem wi_bast {a N : Nat} {f0 : Nat → Int32} {z v : Int} (hi : decode Y.2.1 pc = .ok (.bastore, 1)) (ha : SH[a]? = some (.inl (1, N, .inl f0))) (h0 : 0 ≤ z) (h1 : z < N) (hN : N ≤ 2147483647) (hv : vp_nar .boolean (iI v) = iI v) (kk : wp_m l Y sc k n (pc + 1) L st (hp_ (up_ σ a z v)) Q) : wp_m l Y sc k n pc L (.int (iI v) :: .int (iI z) :: .ref a :: st) (hp_ σ) Q := by
  refine wp_bastore hi (hp_at σ ha) (iI_in h0 h1 hN) hv ?_
  rw [hp_ast (j := z) v ha (by rw [iI_cl ⟨by omega, by omega⟩, Int.toNat_of_nonneg h0])]
  exact kk
theorem wi_aald {a t N j : Nat} {ft : FieldType} {f : Nat → Option Nat} {z : Int} (hi : decode Y.2.1 pc = .ok (.aaload, 1)) (ha : SH[a]? = some (.inl (t, N, .inr (.inr (.inr (.inr f)))))) (hT : TY[t]? = some ft) (hft : ft.isReference = true) (h0 : 0 ≤ z) (h1 : z < N) (hN : N ≤ 2147483647) (hj : f z.toNat = some j) (kk : wp_m l Y sc k n (pc + 1) L (.ref j :: st) (hp_ σ) Q) : wp_m l Y sc k n pc L (.int (iI z) :: .ref a :: st) (hp_ σ) Q := by
  refine wp_aaload hi (hp_at σ ha) hT hft (iI_in h0 h1 hN) ?_ kk
  rw [iI_cl ⟨by omega, by omega⟩]
  exact hj
end HI
end
section
/-! constructors: the heap is g ++ w, w the cells that are looked at, q the number of the first of them -/
theorem gl_at {g w : mx_H} {q i : Nat} (hq : g.length = q) : (g ++ w)[q + i]? = w[i]? := by
  rw [List.getElem?_append_right (by omega), hq, Nat.add_sub_cancel_left]
theorem gl_set {g w : mx_H} {q i : Nat} {c : va_E} (hq : g.length = q) : (g ++ w).set (q + i) c = g ++ w.set i c := by
  rw [List.set_append_right _ _ (by omega), hq, Nat.add_sub_cancel_left]
section CT
variable {l : Launch} {Y : mx_Y} {sc : mx_S} {k n : Nat} {pc : Nat} {L st : List Value} {g w : mx_H} {Q : Option Value → mx_H → Prop} {q : Nat}
theorem wq_get {idx ci kf i : Nat} {fin : Bool} {ft : FieldType} {fs : List Value} {v : Value} (hi : decode Y.2.1 pc = .ok (.getfield idx, 3)) (hF : mx_F Y.1.cls idx ci kf fin ft) (hq : g.length = q) (ha : w[i]? = some (.inr (ci, fs))) (hv : fs[kf]? = some v) (kk : wp_m l Y sc k n (pc + 3) L (v :: st) (g ++ w) Q) : wp_m l Y sc k n pc L (.ref (q + i) :: st) (g ++ w) Q :=
  wp_getf hi hF ((gl_at hq).trans ha) hv kk
theorem wq_put {idx ci kf i : Nat} {ft : FieldType} {fs : List Value} {v : Value} (hi : decode Y.2.1 pc = .ok (.putfield idx, 3)) (hF : mx_F Y.1.cls idx ci kf false ft) (hq : g.length = q) (ha : w[i]? = some (.inr (ci, fs))) (hkf : kf < fs.length) (hv : ∀ (b : Nat) (as : List Nat) (v' : Value), rl_v b as v v' → narrow ft v' = v' ∧ fits ft v' = true) (kk : wp_m l Y sc k n (pc + 3) L st (g ++ w.set i (.inr (ci, fs.set kf v))) Q) : wp_m l Y sc k n pc L (v :: .ref (q + i) :: st) (g ++ w) Q :=
  wp_putf hi hF ((gl_at hq).trans ha) hkf hv (by rw [gl_set hq]; exact kk)
theorem wq_putF {idx ci kf i : Nat} {ft : FieldType} {fs : List Value} {v : Value} (hi : decode Y.2.1 pc = .ok (.putfield idx, 3)) (hF : mx_F Y.1.cls idx ci kf true ft) (hin : Y.1.name = "<init>") (hq : g.length = q) (ha : w[i]? = some (.inr (ci, fs))) (hkf : kf < fs.length) (hv : ∀ (b : Nat) (as : List Nat) (v' : Value), rl_v b as v v' → narrow ft v' = v' ∧ fits ft v' = true) (kk : wp_m l Y sc k n (pc + 3) L st (g ++ w.set i (.inr (ci, fs.set kf v))) Q) : wp_m l Y sc k n pc L (v :: .ref (q + i) :: st) (g ++ w) Q :=
  wp_putF hi hF hin ((gl_at hq).trans ha) hkf hv (by rw [gl_set hq]; exact kk)
theorem wq_new {idx ci N m : Nat} {C : String} {T : u_T} {ty0 : Nat → FieldType} {fs : List Value} (hi : decode Y.2.1 pc = .ok (.new idx, 3)) (hc : classes[ci]? = some (C, T, N)) (hin : ∀ x ∈ u_ws C T N, x ∈ WS) (hty : ∀ k, k < N → parseFieldDescriptor (T k).2.2.1 = some (ty0 k)) (hcl : Cond.classLink Y.1.cls idx C ∈ WS) (hins : Cond.instantiable C N ∈ WS) (hini : Cond.initialized C ∈ WS) (hfs : ∀ j, j < N → defaultValue (ty0 j) = vp_V fs j) (hz : mx_z fs = true) (hk1 : 1 ≤ k) (hn1 : N ≤ n) (hq : g.length = q) (hm : w.length = m)
    (kk : wp_m l Y sc (k - 1) (n - N) (pc + 3) L (.ref (q + m) :: st) (g ++ (w ++ [.inr (ci, fs)])) Q) : wp_m l Y sc k n pc L st (g ++ w) Q :=
  wp_new hi hc hin hty hcl hins hini hfs hz hk1 hn1 (by rw [List.append_assoc, List.length_append, hq, hm]; exact kk)
theorem wq_newa {t N m : Nat} {at0 : ArrayType} {i : Int} (hi : decode Y.2.1 pc = .ok (.newarray at0, 2)) (hT : TY[t]? = some (newarray.typeOf at0)) (hd : defaultValue (newarray.typeOf at0) = .int 0) (hwd : Cond.arrayClass (newarray.typeOf at0) ∈ WS) (hi0 : ¬ iI i < 0) (hN : (iI i).toNatClampNeg = N) (hb : N * componentBytes (newarray.typeOf at0) ≤ 536870912) (hk1 : 1 ≤ k) (hn1 : N ≤ n) (hq : g.length = q) (hm : w.length = m)
    (kk : wp_m l Y sc (k - 1) (n - N) (pc + 2) L (.ref (q + m) :: st) (g ++ (w ++ [.inl (t, N, .inl (fun _ => 0))])) Q) : wp_m l Y sc k n pc L (.int (iI i) :: st) (g ++ w) Q :=
  wp_newarray hi hT hd hwd hi0 hN hb hk1 hn1 (by rw [List.append_assoc, List.length_append, hq, hm]; exact kk)
theorem wq_multi {idx N M m : Nat} {i j : Int} (hi : decode Y.2.1 pc = .ok (.multianewarray idx 2, 4)) (hcl : Cond.classLink Y.1.cls idx "[[I" ∈ WS) (hi0 : ¬ iI i < 0) (hj0 : ¬ iI j < 0) (hN : (iI i).toNatClampNeg = N) (hM : (iI j).toNatClampNeg = M) (hb1 : N ≤ 1000) (hb2 : M ≤ 1000) (hk1 : 1 + N ≤ k) (hn1 : N + N * M ≤ n) (hq : g.length = q) (hm : w.length = m)
    (kk : wp_m l Y sc (k - (1 + N)) (n - (N + N * M)) (pc + 4) L (.ref (q + m) :: st) (g ++ (w ++ mu_c (q + m) N M)) Q) : wp_m l Y sc k n pc L (.int (iI j) :: .int (iI i) :: st) (g ++ w) Q :=
  wp_multi hi hcl hi0 hj0 hN hM hb1 hb2 hk1 hn1 (by rw [List.append_assoc, List.length_append, hq, hm]; exact kk)
theorem wq_anew {idx N m : Nat} {i : Int} (hi : decode Y.2.1 pc = .ok (.anewarray idx, 3)) (hcl : Cond.classLink Y.1.cls idx TR ∈ WS) (hi0 : ¬ iI i < 0) (hN : (iI i).toNatClampNeg = N) (hb : N * 4 ≤ 536870912) (hk1 : 1 ≤ k) (hn1 : N ≤ n) (hq : g.length = q) (hm : w.length = m)
    (kk : wp_m l Y sc (k - 1) (n - N) (pc + 3) L (.ref (q + m) :: st) (g ++ (w ++ [.inl (2, N, .inr (.inr (.inr (.inr (fun _ => none)))))])) Q) : wp_m l Y sc k n pc L (.int (iI i) :: st) (g ++ w) Q :=
  wp_anewarray hi rfl hcl hi0 hN hb hk1 hn1 (by rw [List.append_assoc, List.length_append, hq, hm]; exact kk)
theorem wq_aast {a t N j ci : Nat} {r : vw_C} {f : Nat → Option Nat} {i : Int32} {fs : List Value} (hi : decode Y.2.1 pc = .ok (.aastore, 1)) (hq : g.length = q) (ha : w[a]? = some (.inl (t, N, .inr (.inr (.inr (.inr f)))))) (hT : TY[t]? = some (.object r.1)) (hin : vp_in i N) (hj : w[j]? = some (.inr (ci, fs))) (hc : classes[ci]? = some r) (kk : wp_m l Y sc k n (pc + 1) L st (g ++ w.set a (.inl (t, N, .inr (.inr (.inr (.inr (va_up f i.toNatClampNeg (some (q + j))))))))) Q) : wp_m l Y sc k n pc L (.ref (q + j) :: .int i :: .ref (q + a) :: st) (g ++ w) Q :=
  wp_aastore hi ((gl_at hq).trans ha) hT hin ((gl_at hq).trans hj) hc (by rw [gl_set hq]; exact kk)
end CT
theorem df_T : ∀ j, j < 6 → defaultValue (ft_T j) = vp_V [.null, .int 0, .int 0, .int 0, .int 0, .int 0] j := by decide
theorem df_Z : ∀ j, j < 5 → defaultValue (ft_Z j) = vp_V [.null, .int 0, .int 0, .int 0, .int 0] j := by decide
theorem df_B : ∀ j, j < 2 → defaultValue (ft_B j) = vp_V [.null, .int 0] j := by decide
theorem df_L : ∀ j, j < 3 → defaultValue (ft_L j) = vp_V [.null, .null, .int 0] j := by decide
theorem df_K : ∀ j, j < 10 → defaultValue (ft_K j) = vp_V [.null, .null, .null, .null, .null, .null, .null, .null, .null, .int 0] j := by decide
theorem df_V : ∀ j, j < 8 → defaultValue (ft_V j) = vp_V [.null, .null, .null, .null, .null, .null, .int 0, .int 0] j := by decide
theorem df_M : ∀ j, j < 7 → defaultValue (ft_M j) = vp_V [.null, .null, .null, .null, .int 0, .int 0, .int 0] j := by decide
theorem df_R : ∀ j, j < 21 → defaultValue (ft_R j) = vp_V [.null, .int 0, .int 0, .null, .null, .null, .null, .null, .null, .null, .null, .int 0, .int 0, .null, .null, .null, .null, .null, .null, .null, .int 0] j := by decide
section CU
variable {l : Launch} {K : Option Value → mx_H → Prop} {g : mx_H} {q : Nat}
theorem c_B_init (hq : g.length = q) (hK : K none (g ++ [.inr (1, [.ref (q + 1), .int 0]), .inl (0, 1000, .inl (fun _ => 0))])) : ct_m l Y_B_init 1 1000 [.ref (q + 0)] (g ++ [.inr (1, [.null, .int 0])]) K := by
  refine ct_of (L := [.ref (q + 0)]) (by decide +kernel) (Nat.le_of_ble_eq_true rfl) rfl ?_
  refine wp_aload_n dc_B_init_0 rfl rfl (wp_objInit dc_B_init_1 lm_B_3 lo_1 lo_2 (by decide) (wp_aload_n dc_B_init_4 rfl rfl (wi_sipush dc_B_init_5 (wq_newa dc_B_init_8 (m := 1) (N := 1000) (t := 0) rfl rfl lq_int (by decide) rfl (by decide) (by decide) (by decide) hq rfl (wq_putF dc_B_init_10 lf_B_9 rfl hq rfl (Nat.le_of_ble_eq_true rfl) (pv_ref rfl) ?_)))))
  dsimp only [List.set_cons_succ, List.set_cons_zero, List.cons_append, List.nil_append]
  refine wp_aload_n dc_B_init_13 rfl rfl (wi_iconst dc_B_init_14 (wq_put dc_B_init_15 lf_B_15 hq rfl (Nat.le_of_ble_eq_true rfl) pv_int ?_))
  dsimp only [List.set_cons_succ, List.set_cons_zero, List.cons_append, List.nil_append]
  refine wp_return dc_B_init_18 rfl hK
theorem c_L_init {f : Nat} (hq : g.length = q) (hK : K none (g ++ (.inr (2, [.ref f, .ref (q + 1), .int 0]) :: mu_c (q + 1) 7 20))) : ct_m l Y_L_init 8 147 [.ref (q + 0), .ref f] (g ++ [.inr (2, [.null, .null, .int 0])]) K := by
  refine ct_of (L := [.ref (q + 0), .ref f]) (by decide +kernel) (Nat.le_of_ble_eq_true rfl) rfl ?_
  refine wp_aload_n dc_L_init_0 rfl rfl (wp_objInit dc_L_init_1 lm_L_3 lo_1 lo_2 (by decide) (wp_aload_n dc_L_init_4 rfl rfl (wp_aload_n dc_L_init_5 rfl rfl (wq_putF dc_L_init_6 lf_L_9 rfl hq rfl (Nat.le_of_ble_eq_true rfl) (pv_ref rfl) ?_))))
  dsimp only [List.set_cons_succ, List.set_cons_zero, List.cons_append, List.nil_append]
  refine wp_aload_n dc_L_init_9 rfl rfl (wi_bipush dc_L_init_10 (wi_bipush dc_L_init_12 (wq_multi dc_L_init_14 (m := 1) (N := 7) (M := 20) lk_L_15 (by decide) (by decide) rfl rfl (by decide) (by decide) (by decide) (by decide) hq rfl (wq_putF dc_L_init_18 lf_L_17 rfl hq rfl (Nat.le_of_ble_eq_true rfl) (pv_ref rfl) ?_))))
  dsimp only [List.set_cons_succ, List.set_cons_zero, List.cons_append, List.nil_append]
  refine wp_aload_n dc_L_init_21 rfl rfl (wi_iconst dc_L_init_22 (wq_put dc_L_init_23 lf_L_20 hq rfl (Nat.le_of_ble_eq_true rfl) pv_int ?_))
  dsimp only [List.set_cons_succ, List.set_cons_zero, List.cons_append, List.nil_append]
  refine wp_return dc_L_init_26 rfl hK
theorem c_T_init {f : Nat} (hq : g.length = q) (hK : K none (g ++ [.inr (3, [.ref f, .int 0, .int 0, .int 0, .int 0, .int 0])])) : ct_m l Y_T_init 0 0 [.ref (q + 0), .ref f] (g ++ [.inr (3, [.null, .int 0, .int 0, .int 0, .int 0, .int 0])]) K := by
  refine ct_of (L := [.ref (q + 0), .ref f]) (by decide +kernel) (Nat.le_of_ble_eq_true rfl) rfl ?_
  refine wp_aload_n dc_T_init_0 rfl rfl (wp_objInit dc_T_init_1 lm_T_1 lo_1 lo_2 (by decide) (wp_aload_n dc_T_init_4 rfl rfl (wp_aload_n dc_T_init_5 rfl rfl (wq_putF dc_T_init_6 lf_T_7 rfl hq rfl (Nat.le_of_ble_eq_true rfl) (pv_ref rfl) ?_))))
  dsimp only [List.set_cons_succ, List.set_cons_zero, List.cons_append, List.nil_append]
  refine wp_aload_n dc_T_init_9 rfl rfl (wi_iconst dc_T_init_10 (wq_put dc_T_init_11 lf_T_13 hq rfl (Nat.le_of_ble_eq_true rfl) pv_0 ?_))
  dsimp only [List.set_cons_succ, List.set_cons_zero, List.cons_append, List.nil_append]
  refine wp_aload_n dc_T_init_14 rfl rfl (wi_iconst dc_T_init_15 (wq_put dc_T_init_16 lf_T_17 hq rfl (Nat.le_of_ble_eq_true rfl) pv_int ?_))
  dsimp only [List.set_cons_succ, List.set_cons_zero, List.cons_append, List.nil_append]
  refine wp_aload_n dc_T_init_19 rfl rfl (wi_iconst dc_T_init_20 (wq_put dc_T_init_21 lf_T_21 hq rfl (Nat.le_of_ble_eq_true rfl) pv_int ?_))
  dsimp only [List.set_cons_succ, List.set_cons_zero, List.cons_append, List.nil_append]
  refine wp_aload_n dc_T_init_24 rfl rfl (wi_iconst dc_T_init_25 (wq_put dc_T_init_26 lf_T_24 hq rfl (Nat.le_of_ble_eq_true rfl) pv_int ?_))
  dsimp only [List.set_cons_succ, List.set_cons_zero, List.cons_append, List.nil_append]
  refine wp_aload_n dc_T_init_29 rfl rfl (wi_iconst dc_T_init_30 (wq_put dc_T_init_31 lf_T_27 hq rfl (Nat.le_of_ble_eq_true rfl) pv_int ?_))
  dsimp only [List.set_cons_succ, List.set_cons_zero, List.cons_append, List.nil_append]
  refine wp_return dc_T_init_34 rfl hK
theorem c_Z_init {f : Nat} (hq : g.length = q) (hK : K none (g ++ [.inr (4, [.ref f, .int 0, .int 0, .int 0, .int 0])])) : ct_m l Y_Z_init 0 0 [.ref (q + 0), .ref f] (g ++ [.inr (4, [.null, .int 0, .int 0, .int 0, .int 0])]) K := by
  refine ct_of (L := [.ref (q + 0), .ref f]) (by decide +kernel) (Nat.le_of_ble_eq_true rfl) rfl ?_
  refine wp_aload_n dc_Z_init_0 rfl rfl (wp_objInit dc_Z_init_1 lm_Z_1 lo_1 lo_2 (by decide) (wp_aload_n dc_Z_init_4 rfl rfl (wp_aload_n dc_Z_init_5 rfl rfl (wq_putF dc_Z_init_6 lf_Z_7 rfl hq rfl (Nat.le_of_ble_eq_true rfl) (pv_ref rfl) ?_))))
  dsimp only [List.set_cons_succ, List.set_cons_zero, List.cons_append, List.nil_append]
  refine wp_aload_n dc_Z_init_9 rfl rfl (wi_iconst dc_Z_init_10 (wq_put dc_Z_init_11 lf_Z_13 hq rfl (Nat.le_of_ble_eq_true rfl) pv_int ?_))
  dsimp only [List.set_cons_succ, List.set_cons_zero, List.cons_append, List.nil_append]
  refine wp_aload_n dc_Z_init_14 rfl rfl (wi_iconst dc_Z_init_15 (wq_put dc_Z_init_16 lf_Z_17 hq rfl (Nat.le_of_ble_eq_true rfl) pv_int ?_))
  dsimp only [List.set_cons_succ, List.set_cons_zero, List.cons_append, List.nil_append]
  refine wp_aload_n dc_Z_init_19 rfl rfl (wi_iconst dc_Z_init_20 (wq_put dc_Z_init_21 lf_Z_20 hq rfl (Nat.le_of_ble_eq_true rfl) pv_int ?_))
  dsimp only [List.set_cons_succ, List.set_cons_zero, List.cons_append, List.nil_append]
  refine wp_aload_n dc_Z_init_24 rfl rfl (wi_iconst dc_Z_init_25 (wq_put dc_Z_init_26 lf_Z_23 hq rfl (Nat.le_of_ble_eq_true rfl) pv_int ?_))
  dsimp only [List.set_cons_succ, List.set_cons_zero, List.cons_append, List.nil_append]
  refine wp_return dc_Z_init_29 rfl hK
theorem c_R_init (hq : g.length = q) (hK : K none (g ++ [.inr (7, [.ref (q + 1), .int 0, .int 0, .ref (q + 2), .ref (q + 3), .ref (q + 4), .ref (q + 5), .ref (q + 6), .ref (q + 7), .ref (q + 8), .ref (q + 9), .int 0, .int 0, .ref (q + 10), .ref (q + 11), .ref (q + 12), .ref (q + 13), .ref (q + 14), .ref (q + 15), .ref (q + 16), .int 0]), .inl (0, 1000, .inl (fun _ => 0)), .inl (0, 20, .inl (fun _ => 0)), .inl (0, 20, .inl (fun _ => 0)), .inl (0, 20, .inl (fun _ => 0)), .inl (0, 20, .inl (fun _ => 0)), .inl (0, 20, .inl (fun _ => 0)), .inl (0, 20, .inl (fun _ => 0)), .inl (0, 3, .inl (fun _ => 0)), .inl (0, 3, .inl (fun _ => 0)), .inl (0, 2, .inl (fun _ => 0)), .inl (0, 16, .inl (fun _ => 0)), .inl (0, 512, .inl (fun _ => 0)), .inl (0, 20, .inl (fun _ => 0)), .inl (0, 20, .inl (fun _ => 0)), .inl (0, 20, .inl (fun _ => 0)), .inl (0, 1000, .inl (fun _ => 0))])) : ct_m l Y_R_init 16 2716 [.ref (q + 0)] (g ++ [.inr (7, [.null, .int 0, .int 0, .null, .null, .null, .null, .null, .null, .null, .null, .int 0, .int 0, .null, .null, .null, .null, .null, .null, .null, .int 0])]) K := by
  refine ct_of (L := [.ref (q + 0)]) (by decide +kernel) (Nat.le_of_ble_eq_true rfl) rfl ?_
  refine wp_aload_n dc_R_init_0 rfl rfl (wp_objInit dc_R_init_1 lm_R_1 lo_1 lo_2 (by decide) (wp_aload_n dc_R_init_4 rfl rfl (wi_sipush dc_R_init_5 (wq_newa dc_R_init_8 (m := 1) (N := 1000) (t := 0) rfl rfl lq_int (by decide) rfl (by decide) (by decide) (by decide) hq rfl (wq_putF dc_R_init_10 lf_R_7 rfl hq rfl (Nat.le_of_ble_eq_true rfl) (pv_ref rfl) ?_)))))
  dsimp only [List.set_cons_succ, List.set_cons_zero, List.cons_append, List.nil_append]
  refine wp_aload_n dc_R_init_13 rfl rfl (wi_bipush dc_R_init_14 (wq_newa dc_R_init_16 (m := 2) (N := 20) (t := 0) rfl rfl lq_int (by decide) rfl (by decide) (by decide) (by decide) hq rfl (wq_putF dc_R_init_18 lf_R_13 rfl hq rfl (Nat.le_of_ble_eq_true rfl) (pv_ref rfl) ?_)))
  dsimp only [List.set_cons_succ, List.set_cons_zero, List.cons_append, List.nil_append]
  refine wp_aload_n dc_R_init_21 rfl rfl (wi_bipush dc_R_init_22 (wq_newa dc_R_init_24 (m := 3) (N := 20) (t := 0) rfl rfl lq_int (by decide) rfl (by decide) (by decide) (by decide) hq rfl (wq_putF dc_R_init_26 lf_R_16 rfl hq rfl (Nat.le_of_ble_eq_true rfl) (pv_ref rfl) ?_)))
  dsimp only [List.set_cons_succ, List.set_cons_zero, List.cons_append, List.nil_append]
  refine wp_aload_n dc_R_init_29 rfl rfl (wi_bipush dc_R_init_30 (wq_newa dc_R_init_32 (m := 4) (N := 20) (t := 0) rfl rfl lq_int (by decide) rfl (by decide) (by decide) (by decide) hq rfl (wq_putF dc_R_init_34 lf_R_19 rfl hq rfl (Nat.le_of_ble_eq_true rfl) (pv_ref rfl) ?_)))
  dsimp only [List.set_cons_succ, List.set_cons_zero, List.cons_append, List.nil_append]
  refine wp_aload_n dc_R_init_37 rfl rfl (wi_bipush dc_R_init_38 (wq_newa dc_R_init_40 (m := 5) (N := 20) (t := 0) rfl rfl lq_int (by decide) rfl (by decide) (by decide) (by decide) hq rfl (wq_putF dc_R_init_42 lf_R_22 rfl hq rfl (Nat.le_of_ble_eq_true rfl) (pv_ref rfl) ?_)))
  dsimp only [List.set_cons_succ, List.set_cons_zero, List.cons_append, List.nil_append]
  refine wp_aload_n dc_R_init_45 rfl rfl (wi_bipush dc_R_init_46 (wq_newa dc_R_init_48 (m := 6) (N := 20) (t := 0) rfl rfl lq_int (by decide) rfl (by decide) (by decide) (by decide) hq rfl (wq_putF dc_R_init_50 lf_R_25 rfl hq rfl (Nat.le_of_ble_eq_true rfl) (pv_ref rfl) ?_)))
  dsimp only [List.set_cons_succ, List.set_cons_zero, List.cons_append, List.nil_append]
  refine wp_aload_n dc_R_init_53 rfl rfl (wi_bipush dc_R_init_54 (wq_newa dc_R_init_56 (m := 7) (N := 20) (t := 0) rfl rfl lq_int (by decide) rfl (by decide) (by decide) (by decide) hq rfl (wq_putF dc_R_init_58 lf_R_28 rfl hq rfl (Nat.le_of_ble_eq_true rfl) (pv_ref rfl) ?_)))
  dsimp only [List.set_cons_succ, List.set_cons_zero, List.cons_append, List.nil_append]
  refine wp_aload_n dc_R_init_61 rfl rfl (wi_iconst dc_R_init_62 (wq_newa dc_R_init_63 (m := 8) (N := 3) (t := 0) rfl rfl lq_int (by decide) rfl (by decide) (by decide) (by decide) hq rfl (wq_putF dc_R_init_65 lf_R_31 rfl hq rfl (Nat.le_of_ble_eq_true rfl) (pv_ref rfl) ?_)))
  dsimp only [List.set_cons_succ, List.set_cons_zero, List.cons_append, List.nil_append]
  refine wp_aload_n dc_R_init_68 rfl rfl (wi_iconst dc_R_init_69 (wq_newa dc_R_init_70 (m := 9) (N := 3) (t := 0) rfl rfl lq_int (by decide) rfl (by decide) (by decide) (by decide) hq rfl (wq_putF dc_R_init_72 lf_R_34 rfl hq rfl (Nat.le_of_ble_eq_true rfl) (pv_ref rfl) ?_)))
  dsimp only [List.set_cons_succ, List.set_cons_zero, List.cons_append, List.nil_append]
  refine wp_aload_n dc_R_init_75 rfl rfl (wi_iconst dc_R_init_76 (wq_newa dc_R_init_77 (m := 10) (N := 2) (t := 0) rfl rfl lq_int (by decide) rfl (by decide) (by decide) (by decide) hq rfl (wq_putF dc_R_init_79 lf_R_37 rfl hq rfl (Nat.le_of_ble_eq_true rfl) (pv_ref rfl) ?_)))
  dsimp only [List.set_cons_succ, List.set_cons_zero, List.cons_append, List.nil_append]
  refine wp_aload_n dc_R_init_82 rfl rfl (wi_bipush dc_R_init_83 (wq_newa dc_R_init_85 (m := 11) (N := 16) (t := 0) rfl rfl lq_int (by decide) rfl (by decide) (by decide) (by decide) hq rfl (wq_putF dc_R_init_87 lf_R_40 rfl hq rfl (Nat.le_of_ble_eq_true rfl) (pv_ref rfl) ?_)))
  dsimp only [List.set_cons_succ, List.set_cons_zero, List.cons_append, List.nil_append]
  refine wp_aload_n dc_R_init_90 rfl rfl (wi_sipush dc_R_init_91 (wq_newa dc_R_init_94 (m := 12) (N := 512) (t := 0) rfl rfl lq_int (by decide) rfl (by decide) (by decide) (by decide) hq rfl (wq_putF dc_R_init_96 lf_R_43 rfl hq rfl (Nat.le_of_ble_eq_true rfl) (pv_ref rfl) ?_)))
  dsimp only [List.set_cons_succ, List.set_cons_zero, List.cons_append, List.nil_append]
  refine wp_aload_n dc_R_init_99 rfl rfl (wi_bipush dc_R_init_100 (wq_newa dc_R_init_102 (m := 13) (N := 20) (t := 0) rfl rfl lq_int (by decide) rfl (by decide) (by decide) (by decide) hq rfl (wq_putF dc_R_init_104 lf_R_46 rfl hq rfl (Nat.le_of_ble_eq_true rfl) (pv_ref rfl) ?_)))
  dsimp only [List.set_cons_succ, List.set_cons_zero, List.cons_append, List.nil_append]
  refine wp_aload_n dc_R_init_107 rfl rfl (wi_bipush dc_R_init_108 (wq_newa dc_R_init_110 (m := 14) (N := 20) (t := 0) rfl rfl lq_int (by decide) rfl (by decide) (by decide) (by decide) hq rfl (wq_putF dc_R_init_112 lf_R_49 rfl hq rfl (Nat.le_of_ble_eq_true rfl) (pv_ref rfl) ?_)))
  dsimp only [List.set_cons_succ, List.set_cons_zero, List.cons_append, List.nil_append]
  refine wp_aload_n dc_R_init_115 rfl rfl (wi_bipush dc_R_init_116 (wq_newa dc_R_init_118 (m := 15) (N := 20) (t := 0) rfl rfl lq_int (by decide) rfl (by decide) (by decide) (by decide) hq rfl (wq_putF dc_R_init_120 lf_R_52 rfl hq rfl (Nat.le_of_ble_eq_true rfl) (pv_ref rfl) ?_)))
  dsimp only [List.set_cons_succ, List.set_cons_zero, List.cons_append, List.nil_append]
  refine wp_aload_n dc_R_init_123 rfl rfl (wi_sipush dc_R_init_124 (wq_newa dc_R_init_127 (m := 16) (N := 1000) (t := 0) rfl rfl lq_int (by decide) rfl (by decide) (by decide) (by decide) hq rfl (wq_putF dc_R_init_129 lf_R_55 rfl hq rfl (Nat.le_of_ble_eq_true rfl) (pv_ref rfl) ?_)))
  dsimp only [List.set_cons_succ, List.set_cons_zero, List.cons_append, List.nil_append]
  refine wp_return dc_R_init_132 rfl hK
theorem gl_ap {α : Type} (g w v : List α) : g ++ (w ++ v) = (g ++ w) ++ v := (List.append_assoc g w v).symm
theorem gl_len {g w : mx_H} {q m : Nat} (hq : g.length = q) (hm : w.length = m) : (g ++ w).length = q + m := by rw [List.length_append, hq, hm]
def kt_ (q : Nat) : mx_H := [.inr (5, [.ref 3, .ref (q + 1), .ref (q + 2), .ref (q + 3), .ref (q + 4), .ref (q + 5), .ref (q + 6), .ref (q + 7), .ref (q + 8), .int 0]), .inr (3, [.ref 1, .int 0, .int 0, .int 0, .int 0, .int 0]), .inr (3, [.ref 1, .int 0, .int 0, .int 0, .int 0, .int 0]), .inr (3, [.ref 1, .int 0, .int 0, .int 0, .int 0, .int 0]), .inr (3, [.ref 1, .int 0, .int 0, .int 0, .int 0, .int 0]), .inr (3, [.ref 1, .int 0, .int 0, .int 0, .int 0, .int 0]), .inr (3, [.ref 1, .int 0, .int 0, .int 0, .int 0, .int 0]), .inr (4, [.ref 1, .int 0, .int 0, .int 0, .int 0])] ++ mu_c (q + 8) 7 255
theorem c_K_init (hq : g.length = q) (hK : K none (g ++ kt_ q)) : ct_m l Y_K_init 15 1833 [.ref (q + 0), .ref 1, .ref 3] (g ++ [.inr (5, [.null, .null, .null, .null, .null, .null, .null, .null, .null, .int 0])]) K := by
  refine ct_of (L := [.ref (q + 0), .ref 1, .ref 3]) (by decide +kernel) (Nat.le_of_ble_eq_true rfl) rfl ?_
  refine wp_aload_n dc_K_init_0 rfl rfl (wp_objInit dc_K_init_1 lm_K_3 lo_1 lo_2 (by decide) (wp_aload_n dc_K_init_4 rfl rfl (wp_aload_n dc_K_init_5 rfl rfl (wq_putF dc_K_init_6 lf_K_9 rfl hq rfl (Nat.le_of_ble_eq_true rfl) (pv_ref rfl) ?_))))
  dsimp only [List.set_cons_succ, List.set_cons_zero, List.cons_append, List.nil_append]
  refine wp_aload_n dc_K_init_9 rfl rfl (wq_new dc_K_init_10 (m := 1) (ci := 3) rfl fi_T fo_T lk_K_15 lq_T1 lq_T2 df_T rfl (by decide) (by decide) hq rfl (wp_dup dc_K_init_13 (wp_aload_n dc_K_init_14 rfl rfl ?_)))
  refine wp_callI (As := [_]) dc_K_init_15 lm_K_17 ls_T_init (by decide) rfl rfl (Nat.le_of_ble_eq_true rfl) (k' := 0) (n' := 0) (by decide) (by decide) ?_
  rw [gl_ap]
  refine c_T_init (q := q + 1) (gl_len hq rfl) ?_
  rw [← gl_ap]
  refine wq_putF dc_K_init_18 lf_K_20 rfl hq rfl (Nat.le_of_ble_eq_true rfl) (pv_ref rfl) ?_
  dsimp only [List.set_cons_succ, List.set_cons_zero, List.cons_append, List.nil_append]
  refine wp_aload_n dc_K_init_21 rfl rfl (wq_new dc_K_init_22 (m := 2) (ci := 3) rfl fi_T fo_T lk_K_15 lq_T1 lq_T2 df_T rfl (by decide) (by decide) hq rfl (wp_dup dc_K_init_25 (wp_aload_n dc_K_init_26 rfl rfl ?_)))
  refine wp_callI (As := [_]) dc_K_init_27 lm_K_17 ls_T_init (by decide) rfl rfl (Nat.le_of_ble_eq_true rfl) (k' := 0) (n' := 0) (by decide) (by decide) ?_
  rw [gl_ap]
  refine c_T_init (q := q + 2) (gl_len hq rfl) ?_
  rw [← gl_ap]
  refine wq_putF dc_K_init_30 lf_K_24 rfl hq rfl (Nat.le_of_ble_eq_true rfl) (pv_ref rfl) ?_
  dsimp only [List.set_cons_succ, List.set_cons_zero, List.cons_append, List.nil_append]
  refine wp_aload_n dc_K_init_33 rfl rfl (wq_new dc_K_init_34 (m := 3) (ci := 3) rfl fi_T fo_T lk_K_15 lq_T1 lq_T2 df_T rfl (by decide) (by decide) hq rfl (wp_dup dc_K_init_37 (wp_aload_n dc_K_init_38 rfl rfl ?_)))
  refine wp_callI (As := [_]) dc_K_init_39 lm_K_17 ls_T_init (by decide) rfl rfl (Nat.le_of_ble_eq_true rfl) (k' := 0) (n' := 0) (by decide) (by decide) ?_
  rw [gl_ap]
  refine c_T_init (q := q + 3) (gl_len hq rfl) ?_
  rw [← gl_ap]
  refine wq_putF dc_K_init_42 lf_K_27 rfl hq rfl (Nat.le_of_ble_eq_true rfl) (pv_ref rfl) ?_
  dsimp only [List.set_cons_succ, List.set_cons_zero, List.cons_append, List.nil_append]
  refine wp_aload_n dc_K_init_45 rfl rfl (wq_new dc_K_init_46 (m := 4) (ci := 3) rfl fi_T fo_T lk_K_15 lq_T1 lq_T2 df_T rfl (by decide) (by decide) hq rfl (wp_dup dc_K_init_49 (wp_aload_n dc_K_init_50 rfl rfl ?_)))
  refine wp_callI (As := [_]) dc_K_init_51 lm_K_17 ls_T_init (by decide) rfl rfl (Nat.le_of_ble_eq_true rfl) (k' := 0) (n' := 0) (by decide) (by decide) ?_
  rw [gl_ap]
  refine c_T_init (q := q + 4) (gl_len hq rfl) ?_
  rw [← gl_ap]
  refine wq_putF dc_K_init_54 lf_K_30 rfl hq rfl (Nat.le_of_ble_eq_true rfl) (pv_ref rfl) ?_
  dsimp only [List.set_cons_succ, List.set_cons_zero, List.cons_append, List.nil_append]
  refine wp_aload_n dc_K_init_57 rfl rfl (wq_new dc_K_init_58 (m := 5) (ci := 3) rfl fi_T fo_T lk_K_15 lq_T1 lq_T2 df_T rfl (by decide) (by decide) hq rfl (wp_dup dc_K_init_61 (wp_aload_n dc_K_init_62 rfl rfl ?_)))
  refine wp_callI (As := [_]) dc_K_init_63 lm_K_17 ls_T_init (by decide) rfl rfl (Nat.le_of_ble_eq_true rfl) (k' := 0) (n' := 0) (by decide) (by decide) ?_
  rw [gl_ap]
  refine c_T_init (q := q + 5) (gl_len hq rfl) ?_
  rw [← gl_ap]
  refine wq_putF dc_K_init_66 lf_K_33 rfl hq rfl (Nat.le_of_ble_eq_true rfl) (pv_ref rfl) ?_
  dsimp only [List.set_cons_succ, List.set_cons_zero, List.cons_append, List.nil_append]
  refine wp_aload_n dc_K_init_69 rfl rfl (wq_new dc_K_init_70 (m := 6) (ci := 3) rfl fi_T fo_T lk_K_15 lq_T1 lq_T2 df_T rfl (by decide) (by decide) hq rfl (wp_dup dc_K_init_73 (wp_aload_n dc_K_init_74 rfl rfl ?_)))
  refine wp_callI (As := [_]) dc_K_init_75 lm_K_17 ls_T_init (by decide) rfl rfl (Nat.le_of_ble_eq_true rfl) (k' := 0) (n' := 0) (by decide) (by decide) ?_
  rw [gl_ap]
  refine c_T_init (q := q + 6) (gl_len hq rfl) ?_
  rw [← gl_ap]
  refine wq_putF dc_K_init_78 lf_K_36 rfl hq rfl (Nat.le_of_ble_eq_true rfl) (pv_ref rfl) ?_
  dsimp only [List.set_cons_succ, List.set_cons_zero, List.cons_append, List.nil_append]
  refine wp_aload_n dc_K_init_81 rfl rfl (wq_new dc_K_init_82 (m := 7) (ci := 4) rfl fi_Z fo_Z lk_K_39 lq_Z1 lq_Z2 df_Z rfl (by decide) (by decide) hq rfl (wp_dup dc_K_init_85 (wp_aload_n dc_K_init_86 rfl rfl ?_)))
  refine wp_callI (As := [_]) dc_K_init_87 lm_K_41 ls_Z_init (by decide) rfl rfl (Nat.le_of_ble_eq_true rfl) (k' := 0) (n' := 0) (by decide) (by decide) ?_
  rw [gl_ap]
  refine c_Z_init (q := q + 7) (gl_len hq rfl) ?_
  rw [← gl_ap]
  refine wq_putF dc_K_init_90 lf_K_42 rfl hq rfl (Nat.le_of_ble_eq_true rfl) (pv_ref rfl) ?_
  dsimp only [List.set_cons_succ, List.set_cons_zero, List.cons_append, List.nil_append]
  refine wp_aload_n dc_K_init_93 rfl rfl (wi_bipush dc_K_init_94 (wi_sipush dc_K_init_96 (wq_multi dc_K_init_99 (m := 8) (N := 7) (M := 255) lk_K_46 (by decide) (by decide) rfl rfl (by decide) (by decide) (by decide) (by decide) hq rfl (wq_putF dc_K_init_103 lf_K_48 rfl hq rfl (Nat.le_of_ble_eq_true rfl) (pv_ref rfl) ?_))))
  dsimp only [List.set_cons_succ, List.set_cons_zero, List.cons_append, List.nil_append]
  refine wp_aload_n dc_K_init_106 rfl rfl (wi_iconst dc_K_init_107 (wq_put dc_K_init_108 lf_K_51 hq rfl (Nat.le_of_ble_eq_true rfl) pv_int ?_))
  dsimp only [List.set_cons_succ, List.set_cons_zero, List.cons_append, List.nil_append]
  refine wp_return dc_K_init_111 rfl hK
theorem c_V_init (hq : g.length = q) (hK : K none (g ++ [.inr (6, [.ref 1, .ref 3, .ref (q + 1), .ref (q + 3), .ref (q + 4), .ref (q + 5), .int 0, .int 0]), .inr (1, [.ref (q + 2), .int 0]), .inl (0, 1000, .inl (fun _ => 0)), .inl (1, 20, .inl (fun _ => 0)), .inl (0, 20, .inl (fun _ => 0)), .inl (0, 20, .inl (fun _ => 0))])) : ct_m l Y_V_init 5 1062 [.ref (q + 0), .ref 1, .ref 3] (g ++ [.inr (6, [.null, .null, .null, .null, .null, .null, .int 0, .int 0])]) K := by
  refine ct_of (L := [.ref (q + 0), .ref 1, .ref 3]) (by decide +kernel) (Nat.le_of_ble_eq_true rfl) rfl ?_
  refine wp_aload_n dc_V_init_0 rfl rfl (wp_objInit dc_V_init_1 lm_V_3 lo_1 lo_2 (by decide) (wp_aload_n dc_V_init_4 rfl rfl (wp_aload_n dc_V_init_5 rfl rfl (wq_putF dc_V_init_6 lf_V_9 rfl hq rfl (Nat.le_of_ble_eq_true rfl) (pv_ref rfl) ?_))))
  dsimp only [List.set_cons_succ, List.set_cons_zero, List.cons_append, List.nil_append]
  refine wp_aload_n dc_V_init_9 rfl rfl (wp_aload_n dc_V_init_10 rfl rfl (wq_putF dc_V_init_11 lf_V_15 rfl hq rfl (Nat.le_of_ble_eq_true rfl) (pv_ref rfl) ?_))
  dsimp only [List.set_cons_succ, List.set_cons_zero, List.cons_append, List.nil_append]
  refine wp_aload_n dc_V_init_14 rfl rfl (wq_new dc_V_init_15 (m := 1) (ci := 1) rfl fi_B fo_B lk_V_19 lq_B1 lq_B2 df_B rfl (by decide) (by decide) hq rfl (wp_dup dc_V_init_18 ?_))
  refine wp_callI (As := []) dc_V_init_19 lm_V_21 ls_B_init (by decide) rfl rfl (Nat.le_of_ble_eq_true rfl) (k' := 1) (n' := 1000) (by decide) (by decide) ?_
  rw [gl_ap]
  refine c_B_init (q := q + 1) (gl_len hq rfl) ?_
  rw [← gl_ap]
  refine wq_putF dc_V_init_22 lf_V_22 rfl hq rfl (Nat.le_of_ble_eq_true rfl) (pv_ref rfl) ?_
  dsimp only [List.set_cons_succ, List.set_cons_zero, List.cons_append, List.nil_append]
  refine wp_aload_n dc_V_init_25 rfl rfl (wi_bipush dc_V_init_26 (wq_newa dc_V_init_28 (m := 3) (N := 20) (t := 1) rfl rfl lq_boo (by decide) rfl (by decide) (by decide) (by decide) hq rfl (wq_putF dc_V_init_30 lf_V_25 rfl hq rfl (Nat.le_of_ble_eq_true rfl) (pv_ref rfl) ?_)))
  dsimp only [List.set_cons_succ, List.set_cons_zero, List.cons_append, List.nil_append]
  refine wp_aload_n dc_V_init_33 rfl rfl (wi_bipush dc_V_init_34 (wq_newa dc_V_init_36 (m := 4) (N := 20) (t := 0) rfl rfl lq_int (by decide) rfl (by decide) (by decide) (by decide) hq rfl (wq_putF dc_V_init_38 lf_V_29 rfl hq rfl (Nat.le_of_ble_eq_true rfl) (pv_ref rfl) ?_)))
  dsimp only [List.set_cons_succ, List.set_cons_zero, List.cons_append, List.nil_append]
  refine wp_aload_n dc_V_init_41 rfl rfl (wi_bipush dc_V_init_42 (wq_newa dc_V_init_44 (m := 5) (N := 20) (t := 0) rfl rfl lq_int (by decide) rfl (by decide) (by decide) (by decide) hq rfl (wq_putF dc_V_init_46 lf_V_33 rfl hq rfl (Nat.le_of_ble_eq_true rfl) (pv_ref rfl) ?_)))
  dsimp only [List.set_cons_succ, List.set_cons_zero, List.cons_append, List.nil_append]
  refine wp_aload_n dc_V_init_49 rfl rfl (wi_iconst dc_V_init_50 (wq_put dc_V_init_51 lf_V_36 hq rfl (Nat.le_of_ble_eq_true rfl) pv_int ?_))
  dsimp only [List.set_cons_succ, List.set_cons_zero, List.cons_append, List.nil_append]
  refine wp_aload_n dc_V_init_54 rfl rfl (wi_iconst dc_V_init_55 (wq_put dc_V_init_56 lf_V_40 hq rfl (Nat.le_of_ble_eq_true rfl) pv_int ?_))
  dsimp only [List.set_cons_succ, List.set_cons_zero, List.cons_append, List.nil_append]
  refine wp_return dc_V_init_59 rfl hK
def mh_ : mx_H := [.inr (0, [.ref 1, .ref 3, .ref 12, .ref 45, .int 0, .int 0, .int 1]), .inr (1, [.ref 2, .int 0]), .inl (0, 1000, .inl (fun _ => 0))] ++ ((.inr (2, [.ref 1, .ref 4, .int 0]) :: mu_c 4 7 20) ++ ([.inl (2, 2, .inr (.inr (.inr (.inr (va_up (va_up (fun _ => none) 0 (some 13)) 1 (some 29))))))] ++ (kt_ 13 ++ (kt_ 29 ++ [.inr (6, [.ref 1, .ref 3, .ref 46, .ref 48, .ref 49, .ref 50, .int 0, .int 0]), .inr (1, [.ref 47, .int 0]), .inl (0, 1000, .inl (fun _ => 0)), .inl (1, 20, .inl (fun _ => 0)), .inl (0, 20, .inl (fun _ => 0)), .inl (0, 20, .inl (fun _ => 0))]))))
theorem c_M_init (hK : K none mh_) : ct_m l Y_M_init 50 5910 [.ref 0] [.inr (0, [.null, .null, .null, .null, .int 0, .int 0, .int 0])] K := by
  have hq : ([] : mx_H).length = 0 := rfl
  refine ct_of (L := [.ref 0, .retAddr 0]) (by decide +kernel) (Nat.le_of_ble_eq_true rfl) rfl ?_
  show wp_m l Y_M_init none 50 5910 0 [.ref (0 + 0), .retAddr 0] [] ([] ++ [.inr (0, [.null, .null, .null, .null, .int 0, .int 0, .int 0])]) K
  refine wp_aload_n dc_M_init_0 rfl rfl (wp_objInit dc_M_init_1 lm_M_1 lo_1 lo_2 (by decide) (wp_aload_n dc_M_init_4 rfl rfl (wq_new dc_M_init_5 (m := 1) (ci := 1) rfl fi_B fo_B lk_M_7 lq_B1 lq_B2 df_B rfl (by decide) (by decide) hq rfl (wp_dup dc_M_init_8 ?_))))
  refine wp_callI (As := []) dc_M_init_9 lm_M_9 ls_B_init (by decide) rfl rfl (Nat.le_of_ble_eq_true rfl) (k' := 1) (n' := 1000) (by decide) (by decide) ?_
  rw [gl_ap]
  refine c_B_init (q := 0 + 1) (gl_len hq rfl) ?_
  rw [← gl_ap]
  refine wq_putF dc_M_init_12 lf_M_10 rfl hq rfl (Nat.le_of_ble_eq_true rfl) (pv_ref rfl) ?_
  dsimp only [List.set_cons_succ, List.set_cons_zero, List.cons_append, List.nil_append]
  refine wp_aload_n dc_M_init_15 rfl rfl (wq_new dc_M_init_16 (m := 3) (ci := 2) rfl fi_L fo_L lk_M_16 lq_L1 lq_L2 df_L rfl (by decide) (by decide) hq rfl (wp_dup dc_M_init_19 (wp_aload_n dc_M_init_20 rfl rfl (wq_get dc_M_init_21 lf_M_10 hq rfl rfl ?_))))
  refine wp_callI (As := [_]) dc_M_init_24 lm_M_18 ls_L_init (by decide) rfl rfl (Nat.le_of_ble_eq_true rfl) (k' := 8) (n' := 147) (by decide) (by decide) ?_
  rw [gl_ap]
  refine c_L_init (q := 0 + 3) (gl_len hq rfl) ?_
  rw [← gl_ap]
  refine wq_putF dc_M_init_27 lf_M_21 rfl hq rfl (Nat.le_of_ble_eq_true rfl) (pv_ref rfl) ?_
  dsimp only [List.set_cons_succ, List.set_cons_zero, List.cons_append, List.nil_append]
  refine wp_aload_n dc_M_init_30 rfl rfl (wi_iconst dc_M_init_31 (wq_anew dc_M_init_32 (m := 12) (N := 2) lk_M_25 (by decide) rfl (by decide) (by decide) (by decide) hq rfl ?_))
  refine wq_putF dc_M_init_35 lf_M_27 rfl hq rfl (Nat.le_of_ble_eq_true rfl) (pv_ref rfl) ?_
  dsimp only [List.set_cons_succ, List.set_cons_zero, List.cons_append, List.nil_append]
  refine wi_iconst dc_M_init_38 (wp_is1 dc_M_init_39 ?_)
  refine wp_iload_n dc_M_init_40 rfl rfl (wi_iconst dc_M_init_41 (wi_ic_ge dc_M_init_42 rfl (fun hc => by omega) (fun hc => ?_)))
  refine wp_aload_n dc_M_init_45 rfl rfl (wq_get dc_M_init_46 lf_M_27 hq rfl rfl (wp_iload_n dc_M_init_49 rfl rfl (wq_new dc_M_init_50 (m := 13) (ci := 5) rfl fi_K fo_K lk_M_25 lq_K1 lq_K2 df_K rfl (by decide) (by decide) hq rfl (wp_dup dc_M_init_53 (wp_aload_n dc_M_init_54 rfl rfl (wq_get dc_M_init_55 lf_M_10 hq rfl rfl (wp_aload_n dc_M_init_58 rfl rfl (wq_get dc_M_init_59 lf_M_21 hq rfl rfl ?_))))))))
  refine wp_callI (As := [_, _]) dc_M_init_62 lm_M_31 ls_K_init (by decide) rfl rfl (Nat.le_of_ble_eq_true rfl) (k' := 15) (n' := 1833) (by decide) (by decide) ?_
  rw [gl_ap]
  refine c_K_init (q := 0 + 13) (gl_len hq rfl) ?_
  rw [← gl_ap]
  refine wq_aast (a := 12) (j := 13) dc_M_init_65 hq rfl rfl (by unfold vp_in; decide) rfl rfl ?_
  dsimp only [List.set_cons_succ, List.set_cons_zero, List.cons_append, List.nil_append]
  refine wp_ii1 dc_M_init_66 (wp_goto dc_M_init_69 rfl ?_)
  refine wp_iload_n dc_M_init_40 rfl rfl (wi_iconst dc_M_init_41 (wi_ic_ge dc_M_init_42 rfl (fun hc => by omega) (fun hc => ?_)))
  refine wp_aload_n dc_M_init_45 rfl rfl (wq_get dc_M_init_46 lf_M_27 hq rfl rfl (wp_iload_n dc_M_init_49 rfl rfl (wq_new dc_M_init_50 (m := 29) (ci := 5) rfl fi_K fo_K lk_M_25 lq_K1 lq_K2 df_K rfl (by decide) (by decide) hq rfl (wp_dup dc_M_init_53 (wp_aload_n dc_M_init_54 rfl rfl (wq_get dc_M_init_55 lf_M_10 hq rfl rfl (wp_aload_n dc_M_init_58 rfl rfl (wq_get dc_M_init_59 lf_M_21 hq rfl rfl ?_))))))))
  refine wp_callI (As := [_, _]) dc_M_init_62 lm_M_31 ls_K_init (by decide) rfl rfl (Nat.le_of_ble_eq_true rfl) (k' := 15) (n' := 1833) (by decide) (by decide) ?_
  rw [gl_ap]
  refine c_K_init (q := 0 + 29) (gl_len hq rfl) ?_
  rw [← gl_ap]
  refine wq_aast (a := 12) (j := 29) dc_M_init_65 hq rfl rfl (by unfold vp_in; decide) rfl rfl ?_
  dsimp only [List.set_cons_succ, List.set_cons_zero, List.cons_append, List.nil_append]
  refine wp_ii1 dc_M_init_66 (wp_goto dc_M_init_69 rfl ?_)
  refine wp_iload_n dc_M_init_40 rfl rfl (wi_iconst dc_M_init_41 (wi_ic_ge dc_M_init_42 rfl (fun hc => ?_) (fun hc => by omega)))
  refine wp_aload_n dc_M_init_72 rfl rfl (wq_new dc_M_init_73 (m := 45) (ci := 6) rfl fi_V fo_V lk_M_34 lq_V1 lq_V2 df_V rfl (by decide) (by decide) hq rfl (wp_dup dc_M_init_76 (wp_aload_n dc_M_init_77 rfl rfl (wq_get dc_M_init_78 lf_M_10 hq rfl rfl (wp_aload_n dc_M_init_81 rfl rfl (wq_get dc_M_init_82 lf_M_21 hq rfl rfl ?_))))))
  refine wp_callI (As := [_, _]) dc_M_init_85 lm_M_36 ls_V_init (by decide) rfl rfl (Nat.le_of_ble_eq_true rfl) (k' := 5) (n' := 1062) (by decide) (by decide) ?_
  rw [gl_ap]
  refine c_V_init (q := 0 + 45) (gl_len hq rfl) ?_
  rw [← gl_ap]
  refine wq_putF dc_M_init_88 lf_M_37 rfl hq rfl (Nat.le_of_ble_eq_true rfl) (pv_ref rfl) ?_
  dsimp only [List.set_cons_succ, List.set_cons_zero, List.cons_append, List.nil_append]
  refine wp_aload_n dc_M_init_91 rfl rfl (wi_iconst dc_M_init_92 (wq_put dc_M_init_93 lf_M_41 hq rfl (Nat.le_of_ble_eq_true rfl) pv_int ?_))
  dsimp only [List.set_cons_succ, List.set_cons_zero, List.cons_append, List.nil_append]
  refine wp_aload_n dc_M_init_96 rfl rfl (wi_iconst dc_M_init_97 (wq_put dc_M_init_98 lf_M_45 hq rfl (Nat.le_of_ble_eq_true rfl) pv_int ?_))
  dsimp only [List.set_cons_succ, List.set_cons_zero, List.cons_append, List.nil_append]
  refine wp_aload_n dc_M_init_101 rfl rfl (wi_iconst dc_M_init_102 (wq_put dc_M_init_103 lf_M_48 hq rfl (Nat.le_of_ble_eq_true rfl) pv_1 ?_))
  dsimp only [List.set_cons_succ, List.set_cons_zero, List.cons_append, List.nil_append]
  refine wp_return dc_M_init_106 rfl hK
end CU
end
section
/-! rows of bytes: the objects 1 and 46, their cells 2 and 47 -/
abbrev by_ (a : Nat) : Prop := SH[a]? = some (.inr (1, [.ref (a + 1), .int 0])) ∧ SH[a + 1]? = some (.inl (0, 1000, .inl (fun _ => 0)))
theorem by_1 : by_ 1 := ⟨rfl, rfl⟩
theorem by_46 : by_ 46 := ⟨rfl, rfl⟩
def at_ (f : Int → Int) (n p : Int) : Int := if 0 ≤ p ∧ p < n then f p else -1000
theorem at_in {f : Int → Int} {n p : Int} (h0 : 0 ≤ p) (h1 : p < n) : at_ f n p = f p := if_pos ⟨h0, h1⟩
theorem at_out {f : Int → Int} {n p : Int} (h : ¬ (0 ≤ p ∧ p < n)) : at_ f n p = -1000 := if_neg h
theorem nI_iI (n : Nat) : nI n = iI (n : Int) := (Int32.ofInt_eq_ofNat).symm
theorem iI_255 (z : Int) : iI z &&& iI 255 = iI (z % 256) := by
  rw [pk_and (iI z) (m := iI 255) 8 (by decide)]
  have e : (iI z).toBitVec.toNat = (z % 4294967296).toNat := by
    show (BitVec.ofInt 32 z).toNat = _
    rw [BitVec.toNat_ofInt]
    rfl
  rw [e, nI_iI]
  congr 1
  omega
theorem iI_shr8 {z : Int} (h : rg z) : iI z >>> (iI 8 &&& 31) = iI (z / 256) := by
  rw [← Int32.toInt_inj, pk_shr (iI z) (iI 8 &&& 31) 8 (by decide), iI_t h, iI_t ⟨by omega, by omega⟩, Int.shiftRight_eq_div_pow]
  rfl
section BY
variable {l : Launch} {σ : sg_} {K : Option Value → mx_H → Prop} {a b : Nat} {p q x : Int}
theorem wi_and255 {Y : mx_Y} {sc : mx_S} {k n : Nat} {pc : Nat} {L st : List Value} {h : mx_H} {Q : Option Value → mx_H → Prop} {x : Int} (hi : decode Y.2.1 pc = .ok (.iand, 1)) (kk : wp_m l Y sc k n (pc + 1) L (.int (iI (x % 256)) :: st) h Q) : wp_m l Y sc k n pc L (.int (iI 255) :: .int (iI x) :: st) h Q := wp_iand hi (by rw [iI_255]; exact kk)
theorem wi_shr8 {Y : mx_Y} {sc : mx_S} {k n : Nat} {pc : Nat} {L st : List Value} {h : mx_H} {Q : Option Value → mx_H → Prop} {x : Int} (hi : decode Y.2.1 pc = .ok (.ishr, 1)) (kk : wp_m l Y sc k n (pc + 1) L (.int (iI (x / 256)) :: st) h Q) (hx : rg x := by first | assumption | (constructor <;> omega)) : wp_m l Y sc k n pc L (.int (iI 8) :: .int (iI x) :: st) h Q := wp_ishr hi (by rw [iI_shr8 hx]; exact kk)
theorem c_B_size (hb : by_ a) (hK : K (some (.int (iI (σ a 1)))) (hp_ σ)) : ct_m l Y_B_size 0 0 [.ref a] (hp_ σ) K := by
  obtain ⟨hB, hA⟩ := hb
  refine ct_of (L := [.ref a]) (by decide +kernel) (Nat.le_of_ble_eq_true rfl) rfl ?_
  refine wp_aload_n dc_B_size_0 rfl rfl (wi_getI 1 dc_B_size_1 lf_B_15 hB rfl rfl ?_)
  refine wp_ireturn dc_B_size_4 rfl rfl hK
theorem c_B_has (hb : by_ a) (h0 : 0 ≤ σ a 1) (h1 : σ a 1 ≤ 1000) (hp : rg p) (hK : K (some (.int (iI (if 0 ≤ p ∧ p < σ a 1 then 1 else 0)))) (hp_ σ)) : ct_m l Y_B_has 0 0 [.ref a, .int (iI p)] (hp_ σ) K := by
  obtain ⟨hB, hA⟩ := hb
  refine ct_of (L := [.ref a, .int (iI p)]) (by decide +kernel) (Nat.le_of_ble_eq_true rfl) rfl ?_
  refine wp_iload_n dc_B_has_0 rfl rfl ?_
  refine wi_if_lt dc_B_has_1 rfl (fun hc => ?_) (fun hc => ?_)
  · rw [if_neg (by omega)] at hK
    refine wi_iconst dc_B_has_16 ?_
    refine wp_ireturn dc_B_has_17 rfl rfl hK
  · refine wp_iload_n dc_B_has_4 rfl rfl (wp_aload_n dc_B_has_5 rfl rfl (wi_getI 1 dc_B_has_6 lf_B_15 hB rfl rfl ?_))
    refine wi_ic_ge dc_B_has_9 rfl (fun hd => ?_) (fun hd => ?_)
    · rw [if_neg (by omega)] at hK
      refine wi_iconst dc_B_has_16 ?_
      refine wp_ireturn dc_B_has_17 rfl rfl hK
    · rw [if_pos (by omega)] at hK
      refine wi_iconst dc_B_has_12 (wp_goto dc_B_has_13 rfl ?_)
      refine wp_ireturn dc_B_has_17 rfl rfl hK
theorem c_B_at (hb : by_ a) (h0 : 0 ≤ σ a 1) (h1 : σ a 1 ≤ 1000) (hp : rg p) (hK : K (some (.int (iI (at_ (σ (a + 1)) (σ a 1) p)))) (hp_ σ)) : ct_m l Y_B_at 0 0 [.ref a, .int (iI p)] (hp_ σ) K := by
  obtain ⟨hB, hA⟩ := hb
  refine ct_of (L := [.ref a, .int (iI p)]) (by decide +kernel) (Nat.le_of_ble_eq_true rfl) rfl ?_
  refine wp_iload_n dc_B_at_0 rfl rfl ?_
  refine wi_if_lt dc_B_at_1 rfl (fun hc => ?_) (fun hc => ?_)
  · rw [at_out (by omega)] at hK
    refine wi_sipush dc_B_at_21 ?_
    refine wp_ireturn dc_B_at_24 rfl rfl hK
  · refine wp_iload_n dc_B_at_4 rfl rfl (wp_aload_n dc_B_at_5 rfl rfl (wi_getI 1 dc_B_at_6 lf_B_15 hB rfl rfl ?_))
    refine wi_ic_ge dc_B_at_9 rfl (fun hd => ?_) (fun hd => ?_)
    · rw [at_out (by omega)] at hK
      refine wi_sipush dc_B_at_21 ?_
      refine wp_ireturn dc_B_at_24 rfl rfl hK
    · rw [at_in (by omega) (by omega)] at hK
      refine wp_aload_n dc_B_at_12 rfl rfl (wi_getR dc_B_at_13 lf_B_9 hB rfl (wp_iload_n dc_B_at_16 rfl rfl (wi_ald dc_B_at_17 hA (by omega) (by omega) (by decide) (wp_goto dc_B_at_18 rfl ?_))))
      refine wp_ireturn dc_B_at_24 rfl rfl hK
theorem c_B_pairAt (hb : by_ a) (h0 : 0 ≤ σ a 1) (h1 : σ a 1 ≤ 1000) (hp0 : 0 ≤ p) (hp1 : p < σ a 1 - 1) (hK : K (some (.int (iI (σ (a + 1) p * 256 + σ (a + 1) (p + 1))))) (hp_ σ)) : ct_m l Y_B_pairAt 0 0 [.ref a, .int (iI p)] (hp_ σ) K := by
  obtain ⟨hB, hA⟩ := hb
  refine ct_of (L := [.ref a, .int (iI p)]) (by decide +kernel) (Nat.le_of_ble_eq_true rfl) rfl ?_
  refine wp_iload_n dc_B_pairAt_0 rfl rfl ?_
  refine wi_if_lt dc_B_pairAt_1 rfl (fun hc => ?_) (fun hc => ?_)
  · omega
  · refine wp_iload_n dc_B_pairAt_4 rfl rfl (wp_aload_n dc_B_pairAt_5 rfl rfl (wi_getI 1 dc_B_pairAt_6 lf_B_15 hB rfl rfl (wi_iconst dc_B_pairAt_9 (wi_isub dc_B_pairAt_10 ?_))))
    refine wi_ic_ge dc_B_pairAt_11 rfl (fun hd => ?_) (fun hd => ?_)
    · omega
    · refine wp_aload_n dc_B_pairAt_14 rfl rfl (wi_getR dc_B_pairAt_15 lf_B_9 hB rfl (wp_iload_n dc_B_pairAt_18 rfl rfl (wi_ald dc_B_pairAt_19 hA (by omega) (by omega) (by decide) (wi_sipush dc_B_pairAt_20 (wi_imul dc_B_pairAt_23 (wp_aload_n dc_B_pairAt_24 rfl rfl (wi_getR dc_B_pairAt_25 lf_B_9 hB rfl (wp_iload_n dc_B_pairAt_28 rfl rfl (wi_iconst dc_B_pairAt_29 (wi_iadd dc_B_pairAt_30 (wi_ald dc_B_pairAt_31 hA (by omega) (by omega) (by decide) (wi_iadd dc_B_pairAt_32 (wp_goto dc_B_pairAt_33 rfl ?_)))))))))))))
      refine wp_ireturn dc_B_pairAt_39 rfl rfl hK
theorem c_B_put (hb : by_ a) (h0 : 0 ≤ σ a 1) (h1 : σ a 1 ≤ 1000) (hp0 : 0 ≤ p) (hp1 : p < σ a 1) (hK : K none (hp_ (up_ σ (a + 1) p (x % 256)))) : ct_m l Y_B_put 0 0 [.ref a, .int (iI p), .int (iI x)] (hp_ σ) K := by
  have hb' := hb
  obtain ⟨hB, hA⟩ := hb'
  refine ct_of (L := [.ref a, .int (iI p), .int (iI x)]) (by decide +kernel) (Nat.le_of_ble_eq_true rfl) rfl ?_
  refine wp_aload_n dc_B_put_0 rfl rfl (wp_iload_n dc_B_put_1 rfl rfl ?_)
  refine wp_callV (As := [_]) dc_B_put_2 lm_B_19 ls_B_has (by decide) rfl rfl (hp_at _ hB) rfl rfl (Nat.le_of_ble_eq_true rfl) (Nat.le_refl _) (Nat.le_refl _) ?_
  refine c_B_has hb h0 h1 ⟨by omega, by omega⟩ ?_
  rw [if_pos ⟨hp0, hp1⟩]
  refine wi_if_eq dc_B_put_5 rfl (fun hc => ?_) (fun hc => ?_)
  · omega
  · refine wp_aload_n dc_B_put_8 rfl rfl (wi_getR dc_B_put_9 lf_B_9 hB rfl (wp_iload_n dc_B_put_12 rfl rfl (wp_iload_n dc_B_put_13 rfl rfl (wi_sipush dc_B_put_14 (wi_and255 dc_B_put_17 (wi_ast dc_B_put_18 hA (by omega) (by omega) (by decide) ?_))))))
    refine wp_return dc_B_put_19 rfl hK
theorem c_B_add (hb : by_ a) (h0 : 0 ≤ σ a 1) (h1 : σ a 1 < 1000) (hK : K none (hp_ (up_ (up_ σ (a + 1) (σ a 1) (x % 256)) a 1 (σ a 1 + 1)))) : ct_m l Y_B_add 0 0 [.ref a, .int (iI x)] (hp_ σ) K := by
  obtain ⟨hB, hA⟩ := hb
  refine ct_of (L := [.ref a, .int (iI x)]) (by decide +kernel) (Nat.le_of_ble_eq_true rfl) rfl ?_
  refine wp_aload_n dc_B_add_0 rfl rfl (wi_getI 1 dc_B_add_1 lf_B_15 hB rfl rfl (wi_sipush dc_B_add_4 ?_))
  refine wi_ic_ge dc_B_add_7 rfl (fun hc => ?_) (fun hc => ?_)
  · omega
  · refine wp_aload_n dc_B_add_10 rfl rfl (wi_getR dc_B_add_11 lf_B_9 hB rfl (wp_aload_n dc_B_add_14 rfl rfl (wi_getI 1 dc_B_add_15 lf_B_15 hB rfl rfl (wp_iload_n dc_B_add_18 rfl rfl (wi_sipush dc_B_add_19 (wi_and255 dc_B_add_22 (wi_ast dc_B_add_23 hA (by omega) (by omega) (by decide) (wp_aload_n dc_B_add_24 rfl rfl (wp_dup dc_B_add_25 (wi_getI 1 dc_B_add_26 lf_B_15 hB rfl rfl (wi_iconst dc_B_add_29 (wi_iadd dc_B_add_30 (wi_putI 1 dc_B_add_31 lf_B_15 hB rfl rfl pv_int ?_)))))))))))))
    rw [up_n _ _ (fun q => by omega)]
    refine wp_return dc_B_add_34 rfl hK
theorem c_B_addPair (hb : by_ a) (h0 : 0 ≤ σ a 1) (h1 : σ a 1 < 999) (hx : rg x) (hK : K none (hp_ (up_ (up_ (up_ (up_ σ (a + 1) (σ a 1) (x / 256 % 256)) a 1 (σ a 1 + 1)) (a + 1) (σ a 1 + 1) (x % 256)) a 1 (σ a 1 + 1 + 1)))) : ct_m l Y_B_addPair 0 0 [.ref a, .int (iI x)] (hp_ σ) K := by
  have hb' := hb
  obtain ⟨hB, hA⟩ := hb'
  refine ct_of (L := [.ref a, .int (iI x)]) (by decide +kernel) (Nat.le_of_ble_eq_true rfl) rfl ?_
  refine wp_aload_n dc_B_addPair_0 rfl rfl (wp_iload_n dc_B_addPair_1 rfl rfl (wi_bipush dc_B_addPair_2 (wi_shr8 dc_B_addPair_4 ?_)))
  refine wp_callV (As := [_]) dc_B_addPair_5 lm_B_23 ls_B_add (by decide) rfl rfl (hp_at _ hB) rfl rfl (Nat.le_of_ble_eq_true rfl) (Nat.le_refl _) (Nat.le_refl _) ?_
  refine c_B_add hb h0 (by omega) ?_
  refine wp_aload_n dc_B_addPair_8 rfl rfl (wp_iload_n dc_B_addPair_9 rfl rfl ?_)
  refine wp_callV (As := [_]) dc_B_addPair_10 lm_B_23 ls_B_add (by decide) rfl rfl (hp_at _ hB) rfl rfl (Nat.le_of_ble_eq_true rfl) (Nat.le_refl _) (Nat.le_refl _) ?_
  refine c_B_add hb (by rw [up_s]; omega) (by rw [up_s]; omega) ?_
  rw [up_s]
  refine wp_return dc_B_addPair_13 rfl hK
theorem c_B_keep (hb : by_ a) (h0 : 0 ≤ σ a 1) (h1 : σ a 1 ≤ 1000) (hp0 : 0 ≤ p) (hp1 : p ≤ σ a 1) (hK : K none (hp_ (up_ σ a 1 p))) : ct_m l Y_B_keep 0 0 [.ref a, .int (iI p)] (hp_ σ) K := by
  obtain ⟨hB, hA⟩ := hb
  refine ct_of (L := [.ref a, .int (iI p)]) (by decide +kernel) (Nat.le_of_ble_eq_true rfl) rfl ?_
  refine wp_iload_n dc_B_keep_0 rfl rfl ?_
  refine wi_if_lt dc_B_keep_1 rfl (fun hc => ?_) (fun hc => ?_)
  · omega
  · refine wp_iload_n dc_B_keep_4 rfl rfl (wp_aload_n dc_B_keep_5 rfl rfl (wi_getI 1 dc_B_keep_6 lf_B_15 hB rfl rfl ?_))
    refine wi_ic_gt dc_B_keep_9 rfl (fun hd => ?_) (fun hd => ?_)
    · omega
    · refine wp_aload_n dc_B_keep_12 rfl rfl (wp_iload_n dc_B_keep_13 rfl rfl (wi_putI 1 dc_B_keep_14 lf_B_15 hB rfl rfl pv_int ?_))
      refine wp_return dc_B_keep_17 rfl hK
/-- m bytes of the cells c, from s on, are added to the row a -/
def ap_ (σ : sg_) (a c : Nat) (s m : Int) : sg_ := fun b j => if b = a + 1 ∧ σ a 1 ≤ j ∧ j < σ a 1 + m then σ c (s + (j - σ a 1)) else if b = a ∧ j = 1 then σ a 1 + m else σ b j
theorem ap_0 (σ : sg_) (a c : Nat) (s : Int) : ap_ σ a c s 0 = σ := by
  funext b j
  unfold ap_
  rw [if_neg (by omega)]
  split
  · rename_i h
    obtain ⟨rfl, rfl⟩ := h
    omega
  · rfl
theorem ap_n (σ : sg_) (a c : Nat) (s m : Int) : ap_ σ a c s m a 1 = σ a 1 + m := by
  unfold ap_
  rw [if_neg (by omega), if_pos ⟨rfl, rfl⟩]
theorem ap_o (σ : sg_) {a c b : Nat} (s m : Int) (h1 : b ≠ a) (h2 : b ≠ a + 1) : ap_ σ a c s m b = σ b := by
  funext j
  unfold ap_
  rw [if_neg (by omega), if_neg (by omega)]
theorem ap_S (σ : sg_) {a c : Nat} {s m x : Int} (hm : 0 ≤ m) (hc : σ c (s + m) = x) : up_ (up_ (ap_ σ a c s m) (a + 1) (σ a 1 + m) x) a 1 (σ a 1 + m + 1) = ap_ σ a c s (m + 1) := by
  funext b j
  unfold up_ ap_
  by_cases h1 : b = a ∧ j = 1
  · obtain ⟨rfl, rfl⟩ := h1
    rw [if_pos ⟨rfl, rfl⟩, if_neg (by omega), if_pos ⟨rfl, rfl⟩]
    omega
  · rw [if_neg h1, if_neg h1]
    by_cases h2 : b = a + 1 ∧ j = σ a 1 + m
    · rw [if_pos h2, if_pos (by omega), h2.2, ← hc]
      congr 1
      omega
    · rw [if_neg h2]
      by_cases h3 : b = a + 1 ∧ σ a 1 ≤ j ∧ j < σ a 1 + m
      · rw [if_pos h3, if_pos (by omega)]
      · rw [if_neg h3, if_neg (by omega), if_neg h1]
theorem lp_B_addPart (hb : by_ a) (hb2 : by_ b) (hne : b ≠ a) (hne1 : b ≠ a + 1) (hne2 : b + 1 ≠ a) (hn0 : 0 ≤ σ a 1) (hf : 0 ≤ p) (ht : q ≤ σ b 1) (h1000 : σ b 1 ≤ 1000) (hm : σ a 1 + (q - p) ≤ 1000) (hby : ∀ i, p ≤ i → i < q → 0 ≤ σ (b + 1) i ∧ σ (b + 1) i < 256) (hK : K none (hp_ (ap_ σ a (b + 1) p (q - p)))) :
    ∀ (j : Nat) (i : Int), i = q - j → p ≤ i → wp_m l Y_B_addPart none 0 0 3 [.ref a, .ref b, .int (iI p), .int (iI q), .int (iI i)] [] (hp_ (ap_ σ a (b + 1) p (i - p))) K := by
  intro j
  have hb' := hb
  obtain ⟨hB, hA⟩ := hb'
  induction j with
  | zero =>
    intro i hi hpi
    refine wp_iload dc_B_addPart_3 rfl (wp_iload_n dc_B_addPart_5 rfl rfl ?_)
    refine wi_ic_ge dc_B_addPart_6 rfl (fun hc => ?_) (fun hc => ?_)
    · have e : i - p = q - p := by omega
      rw [e]
      refine wp_return dc_B_addPart_25 rfl hK
    · omega
  | succ j ih =>
    intro i hi hpi
    refine wp_iload dc_B_addPart_3 rfl (wp_iload_n dc_B_addPart_5 rfl rfl ?_)
    refine wi_ic_ge dc_B_addPart_6 rfl (fun hc => ?_) (fun hc => ?_)
    · omega
    · refine wp_aload_n dc_B_addPart_9 rfl rfl (wp_aload_n dc_B_addPart_10 rfl rfl (wp_iload dc_B_addPart_11 rfl ?_))
      have e1 := ap_o σ (a := a) (c := b + 1) p (i - p) hne hne1
      have e2 := ap_o σ (a := a) (c := b + 1) (b := b + 1) p (i - p) hne2 (by omega)
      have h2 := hby i hpi (by omega)
      refine wp_callV (As := [_]) dc_B_addPart_13 lm_B_27 ls_B_at (by decide) rfl rfl (hp_at _ hb2.1) rfl rfl (Nat.le_of_ble_eq_true rfl) (Nat.le_refl _) (Nat.le_refl _) ?_
      refine c_B_at hb2 (by rw [e1]; omega) (by rw [e1]; omega) ⟨by omega, by omega⟩ ?_
      rw [e1, e2, at_in (by omega) (by omega)]
      refine wp_callV (As := [_]) dc_B_addPart_16 lm_B_23 ls_B_add (by decide) rfl rfl (hp_at _ hB) rfl rfl (Nat.le_of_ble_eq_true rfl) (Nat.le_refl _) (Nat.le_refl _) ?_
      refine c_B_add hb (by rw [ap_n]; omega) (by rw [ap_n]; omega) ?_
      rw [ap_n, ap_S σ (by omega) (show σ (b + 1) (p + (i - p)) = σ (b + 1) i % 256 by rw [show p + (i - p) = i by omega]; omega), show i - p + 1 = i + 1 - p by omega]
      refine wp_ii4 dc_B_addPart_19 (wp_goto dc_B_addPart_22 rfl ?_)
      exact ih (i + 1) (by omega) (by omega)
theorem c_B_addPart (hb : by_ a) (hb2 : by_ b) (hne : b ≠ a) (hne1 : b ≠ a + 1) (hne2 : b + 1 ≠ a) (hn0 : 0 ≤ σ a 1) (hf : 0 ≤ p) (hpq : p ≤ q) (ht : q ≤ σ b 1) (h1000 : σ b 1 ≤ 1000) (hm : σ a 1 + (q - p) ≤ 1000) (hby : ∀ i, p ≤ i → i < q → 0 ≤ σ (b + 1) i ∧ σ (b + 1) i < 256) (hK : K none (hp_ (ap_ σ a (b + 1) p (q - p)))) : ct_m l Y_B_addPart 0 0 [.ref a, .ref b, .int (iI p), .int (iI q)] (hp_ σ) K := by
  have hb' := hb
  obtain ⟨hB, hA⟩ := hb'
  refine ct_of (L := [.ref a, .ref b, .int (iI p), .int (iI q), .retAddr 0]) (by decide +kernel) (Nat.le_of_ble_eq_true rfl) rfl ?_
  refine wp_iload_n dc_B_addPart_0 rfl rfl (wp_is4 dc_B_addPart_1 ?_)
  have h := lp_B_addPart (l := l) hb hb2 hne hne1 hne2 hn0 hf ht h1000 hm hby hK (q - p).toNat p (by omega) (by omega)
  rw [show p - p = 0 by omega, ap_0] at h
  exact h
theorem c_B_become (hb : by_ a) (hb2 : by_ b) (hne : b ≠ a) (hne1 : b ≠ a + 1) (hne2 : b + 1 ≠ a) (h0 : 0 ≤ σ a 1) (h1 : σ a 1 ≤ 1000) (hn0 : 0 ≤ σ b 1) (h1000 : σ b 1 ≤ 1000) (hby : ∀ i, 0 ≤ i → i < σ b 1 → 0 ≤ σ (b + 1) i ∧ σ (b + 1) i < 256) (hK : K none (hp_ (ap_ (up_ σ a 1 0) a (b + 1) 0 (σ b 1)))) : ct_m l Y_B_become 0 0 [.ref a, .ref b] (hp_ σ) K := by
  have hb' := hb
  obtain ⟨hB, hA⟩ := hb'
  have e1 : ∀ j, up_ σ a 1 0 b j = σ b j := fun j => by rw [up_n _ _ (fun q => hne q.1)]
  have e2 : ∀ j, up_ σ a 1 0 (b + 1) j = σ (b + 1) j := fun j => by rw [up_n _ _ (fun q => hne2 q.1)]
  refine ct_of (L := [.ref a, .ref b]) (by decide +kernel) (Nat.le_of_ble_eq_true rfl) rfl ?_
  refine wp_aload_n dc_B_become_0 rfl rfl (wi_iconst dc_B_become_1 ?_)
  refine wp_callV (As := [_]) dc_B_become_2 lm_B_31 ls_B_keep (by decide) rfl rfl (hp_at _ hB) rfl rfl (Nat.le_of_ble_eq_true rfl) (Nat.le_refl _) (Nat.le_refl _) ?_
  refine c_B_keep hb h0 h1 (by omega) h0 ?_
  refine wp_aload_n dc_B_become_5 rfl rfl (wp_aload_n dc_B_become_6 rfl rfl (wi_iconst dc_B_become_7 (wp_aload_n dc_B_become_8 rfl rfl ?_)))
  refine wp_callV (As := []) dc_B_become_9 lm_B_34 ls_B_size (by decide) rfl rfl (hp_at _ hb2.1) rfl rfl (Nat.le_of_ble_eq_true rfl) (Nat.le_refl _) (Nat.le_refl _) ?_
  refine c_B_size hb2 ?_
  rw [e1]
  refine wp_callV (As := [_, _, _]) dc_B_become_12 lm_B_38 ls_B_addPart (by decide) rfl rfl (hp_at _ hB) rfl rfl (Nat.le_of_ble_eq_true rfl) (Nat.le_refl _) (Nat.le_refl _) ?_
  refine c_B_addPart hb hb2 hne hne1 hne2 (by rw [up_s]; omega) (by omega) hn0 (by rw [e1]; omega) (by rw [e1]; omega) (by rw [up_s]; omega) (fun i h1 h2 => by rw [e2]; exact hby i h1 h2) ?_
  rw [show σ b 1 - 0 = σ b 1 by omega]
  refine wp_return dc_B_become_15 rfl hK
end BY
end
section
/-! rules with the value that is read under another name -/
section RU
variable {l : Launch} {Y : mx_Y} {sc : mx_S} {k n : Nat} {pc : Nat} {L st : List Value} {Q : Option Value → mx_H → Prop} {σ : sg_}
theorem wi_getE (kz x : Int) {idx ci kf a : Nat} {fin : Bool} {ft : FieldType} {fs : List Value} {z : Int32} (hi : decode Y.2.1 pc = .ok (.getfield idx, 3)) (hF : mx_F Y.1.cls idx ci kf fin ft) (ha : SH[a]? = some (.inr (ci, fs))) (hv : fs[kf]? = some (.int z)) (hz : (kf : Int) = kz) (he : σ a kz = x) (kk : wp_m l Y sc k n (pc + 3) L (.int (iI x) :: st) (hp_ σ) Q) : wp_m l Y sc k n pc L (.ref a :: st) (hp_ σ) Q :=
  wi_getI kz hi hF ha hv hz (by rw [he]; exact kk)
theorem wi_aldE (x : Int) {a N : Nat} {f0 : Nat → Int32} {z : Int} (hi : decode Y.2.1 pc = .ok (.iaload, 1)) (ha : SH[a]? = some (.inl (0, N, .inl f0))) (h0 : 0 ≤ z) (h1 : z < N) (hN : N ≤ 2147483647) (he : σ a z = x) (kk : wp_m l Y sc k n (pc + 1) L (.int (iI x) :: st) (hp_ σ) Q) : wp_m l Y sc k n pc L (.int (iI z) :: .ref a :: st) (hp_ σ) Q :=
  wi_ald hi ha h0 h1 hN (by rw [he]; exact kk)
theorem wi_baldE (x : Int) {a N : Nat} {f0 : Nat → Int32} {z : Int} (hi : decode Y.2.1 pc = .ok (.baload, 1)) (ha : SH[a]? = some (.inl (1, N, .inl f0))) (h0 : 0 ≤ z) (h1 : z < N) (hN : N ≤ 2147483647) (he : σ a z = x) (kk : wp_m l Y sc k n (pc + 1) L (.int (iI x) :: st) (hp_ σ) Q) : wp_m l Y sc k n pc L (.int (iI z) :: .ref a :: st) (hp_ σ) Q :=
  wi_bald hi ha h0 h1 hN (by rw [he]; exact kk)
end RU
end
section
/-! the reading of a file into boxes, as numbers: what both programs do -/
abbrev px_T : Type := Nat → Int → Int
def px_pop (p : Int) (E : Nat → Int) : Nat → Nat
  | 0 => 0
  | v + 1 => if p = E (v + 1) then px_pop p E v else v + 1
def px_w (F : Int → Int) (p left : Int) : Int := if F p = 0 then left else if F p = 1 then 256 * F (p + 2) + F (p + 3) else F p
def px_h (F : Int → Int) (p : Int) : Int := if F p = 1 then 4 else 2
/-- one box at p, of which 'left' bytes are left in the holder: its length and its header's -/
def px_one (F : Int → Int) (p left : Int) (v : Nat) : Option (Int × Int) :=
  if left < 2 then none else
  if left < px_h F p ∨ (F p = 0 ∧ 0 < v) then none else
  if px_w F p left < px_h F p ∨ left < px_w F p left then none else
  some (px_w F p left, px_h F p)
def px_put (T : px_T) (k a s t h v o : Int) : px_T := fun c i => if i = k then (if c = 0 then a else if c = 1 then s else if c = 2 then t else if c = 3 then h else if c = 4 then v else if c = 5 then o else T c i) else T c i
abbrev px_hold (v : Nat) (t : Int) : Prop := (v = 0 ∧ t = 77) ∨ (v = 1 ∧ t = 84)
def px_upN (E : Nat → Int) (i : Nat) (x : Int) : Nat → Int := fun j => if j = i then x else E j
def px_rd (F : Int → Int) : Nat → Int → Int → Nat → (Nat → Int) → (Nat → Int) → px_T → Int × Int × px_T
  | 0, k, p, v, E, _, T => if p = E (px_pop p E v) then (0, k, T) else (2, k, T)
  | j + 1, k, p, v, E, O, T => if p = E (px_pop p E v) then (0, k, T) else
    match px_one F p (E (px_pop p E v) - p) (px_pop p E v) with
    | none => (1, k, T)
    | some (s, h) => if px_hold (px_pop p E v) (F (p + 1)) then px_rd F j (k + 1) (p + h) (px_pop p E v + 1) (px_upN E (px_pop p E v + 1) (p + s)) (px_upN O (px_pop p E v + 1) k) (px_put T k p s (F (p + 1)) h (px_pop p E v) (O (px_pop p E v)))
      else px_rd F j (k + 1) (p + s) (px_pop p E v) E O (px_put T k p s (F (p + 1)) h (px_pop p E v) (O (px_pop p E v)))
/-- the whole reading: the fault, the number of boxes, their table -/
def px_ (F : Int → Int) (n : Int) : Int × Int × px_T := px_rd F 20 0 0 0 (fun _ => n) (fun _ => -1) (fun _ _ => 0)
def bx_ (n : Int) (T : px_T) (j : Int) : Prop := 0 ≤ T 0 j ∧ (T 3 j = 2 ∨ T 3 j = 4) ∧ T 3 j ≤ T 1 j ∧ T 0 j + T 1 j ≤ n ∧ 0 ≤ T 2 j ∧ T 2 j < 256 ∧ 0 ≤ T 4 j ∧ T 4 j ≤ 2 ∧ -1 ≤ T 5 j ∧ T 5 j < j
def gi_ (n k p : Int) (v : Nat) (E O : Nat → Int) (T : px_T) : Prop :=
  0 ≤ k ∧ v ≤ 2 ∧ 0 ≤ p ∧ p ≤ E v ∧ E 0 = n ∧ O 0 = -1 ∧ (∀ i, i < v → E (i + 1) ≤ E i) ∧ (∀ i : Nat, i < v → 0 ≤ O (i + 1) ∧ O (i + 1) < k ∧ T 4 (O (i + 1)) = i ∧ T 5 (O (i + 1)) = O i ∧ T 0 (O (i + 1)) + T 1 (O (i + 1)) = E (i + 1) ∧ T 2 (O (i + 1)) = (if i = 0 then 77 else 84)) ∧ (∀ j, 0 ≤ j → j < k → bx_ n T j)
theorem px_pop_le (p : Int) (E : Nat → Int) : ∀ v, px_pop p E v ≤ v
  | 0 => Nat.le_refl _
  | v + 1 => by
    unfold px_pop
    split
    · exact Nat.le_succ_of_le (px_pop_le p E v)
    · exact Nat.le_refl _
theorem px_pop_ne (p : Int) (E : Nat → Int) : ∀ v, px_pop p E v = 0 ∨ p ≠ E (px_pop p E v)
  | 0 => Or.inl rfl
  | v + 1 => by
    unfold px_pop
    split
    · exact px_pop_ne p E v
    · exact Or.inr (by assumption)
theorem gi_pop {n k p : Int} {v : Nat} {E O : Nat → Int} {T : px_T} (h : gi_ n k p v E O T) : gi_ n k p (px_pop p E v) E O T := by
  obtain ⟨h1, h2, h3, h4, h5, h6, h7, h8, h9⟩ := h
  have hle := px_pop_le p E v
  have hE : ∀ v, (∀ i, i < v → E (i + 1) ≤ E i) → p ≤ E v → p ≤ E (px_pop p E v) := by
    intro v
    induction v with
    | zero => intro _ h; exact h
    | succ v ih =>
      intro hm hp
      unfold px_pop
      split
      · exact ih (fun i hi => hm i (by omega)) (Int.le_trans hp (hm v (by omega)))
      · exact hp
  exact ⟨h1, by omega, h3, hE v h7 h4, h5, h6, fun i hi => h7 i (by omega), fun i hi => h8 i (by omega), h9⟩
theorem one_spec {F : Int → Int} {p left : Int} {v : Nat} {s h : Int} (ho : px_one F p left v = some (s, h)) : 2 ≤ left ∧ s = px_w F p left ∧ h = px_h F p ∧ (h = 2 ∨ h = 4) ∧ h ≤ left ∧ h ≤ s ∧ s ≤ left ∧ ¬ (F p = 0 ∧ 0 < v) := by
  unfold px_one at ho
  split at ho
  · cases ho
  split at ho
  · cases ho
  split at ho
  · cases ho
  · cases ho
    have hh : px_h F p = 2 ∨ px_h F p = 4 := by
      unfold px_h
      split
      · exact Or.inr rfl
      · exact Or.inl rfl
    refine ⟨by omega, rfl, rfl, hh, by omega, by omega, by omega, fun q => ?_⟩
    rename_i h2 _
    exact h2 (Or.inr q)
theorem put_ne (T : px_T) {k a s t h v o : Int} {c : Nat} {i : Int} (hi : i ≠ k) : px_put T k a s t h v o c i = T c i := if_neg hi
theorem put_0 (T : px_T) {k a s t h v o : Int} : px_put T k a s t h v o 0 k = a := by simp [px_put]
theorem put_1 (T : px_T) {k a s t h v o : Int} : px_put T k a s t h v o 1 k = s := by simp [px_put]
theorem put_2 (T : px_T) {k a s t h v o : Int} : px_put T k a s t h v o 2 k = t := by simp [px_put]
theorem put_3 (T : px_T) {k a s t h v o : Int} : px_put T k a s t h v o 3 k = h := by simp [px_put]
theorem put_4 (T : px_T) {k a s t h v o : Int} : px_put T k a s t h v o 4 k = v := by simp [px_put]
theorem put_5 (T : px_T) {k a s t h v o : Int} : px_put T k a s t h v o 5 k = o := by simp [px_put]
/-- one box more -/
theorem gi_put {F : Int → Int} {n k p : Int} {v : Nat} {E O : Nat → Int} {T : px_T} {s h : Int} (hF : ∀ i, 0 ≤ F i ∧ F i < 256) (hg : gi_ n k p v E O T) (ho : px_one F p (E v - p) v = some (s, h)) : gi_ n (k + 1) (p + s) v E O (px_put T k p s (F (p + 1)) h v (O v)) := by
  obtain ⟨h1, h2, h3, h4, h5, h6, h7, h8, h9⟩ := hg
  obtain ⟨o1, o2, o3, o4, o5, o6, o7, o8⟩ := one_spec ho
  have hEn : ∀ v, (∀ i, i < v → E (i + 1) ≤ E i) → E v ≤ n := by
    intro v
    induction v with
    | zero => intro _; omega
    | succ v ih =>
      intro hm
      exact Int.le_trans (hm v (by omega)) (ih (fun i hi => hm i (by omega)))
  have hEv := hEn v h7
  have hOv : -1 ≤ O v ∧ O v < k := by
    cases v with
    | zero => omega
    | succ v =>
      have h8' := h8 v (by omega)
      omega
  refine ⟨by omega, h2, by omega, by omega, h5, h6, h7, fun i hi => ?_, fun j j0 j1 => ?_⟩
  · have h8' := h8 i hi
    rw [put_ne T (by omega), put_ne T (by omega), put_ne T (by omega), put_ne T (by omega), put_ne T (by omega)]
    exact ⟨h8'.1, by omega, h8'.2.2⟩
  · by_cases hj : j = k
    · subst hj
      unfold bx_
      rw [put_0, put_1, put_2, put_3, put_4, put_5]
      have hF1 := hF (p + 1)
      omega
    · have h9' := h9 j j0 (by omega)
      unfold bx_ at h9' ⊢
      rw [put_ne T hj, put_ne T hj, put_ne T hj, put_ne T hj, put_ne T hj, put_ne T hj]
      exact h9'
theorem upN_s (E : Nat → Int) (i : Nat) (x : Int) : px_upN E i x i = x := if_pos rfl
theorem upN_n (E : Nat → Int) {i j : Nat} (x : Int) (h : j ≠ i) : px_upN E i x j = E j := if_neg h
/-- one box more, that holds boxes -/
theorem gi_hold {F : Int → Int} {n k p : Int} {v : Nat} {E O : Nat → Int} {T : px_T} {s h : Int} (hF : ∀ i, 0 ≤ F i ∧ F i < 256) (hg : gi_ n k p v E O T) (ho : px_one F p (E v - p) v = some (s, h)) (hh : px_hold v (F (p + 1))) : gi_ n (k + 1) (p + h) (v + 1) (px_upN E (v + 1) (p + s)) (px_upN O (v + 1) k) (px_put T k p s (F (p + 1)) h v (O v)) := by
  have hg2 := gi_put hF hg ho
  obtain ⟨o1, o2, o3, o4, o5, o6, o7, o8⟩ := one_spec ho
  obtain ⟨h1, h2, h3, h4, h5, h6, h7, h8, h9⟩ := hg2
  have hv : v ≤ 1 := by omega
  have g3 := hg.2.2.1
  refine ⟨h1, by omega, by omega, by rw [upN_s]; omega, by rw [upN_n _ _ (by omega)]; exact h5, by rw [upN_n _ _ (by omega)]; exact h6, fun i hi => ?_, fun i hi => ?_, h9⟩
  · by_cases hi2 : i = v
    · subst hi2
      rw [upN_s, upN_n _ _ (by omega)]
      omega
    · rw [upN_n _ _ (by omega), upN_n _ _ (by omega)]
      exact h7 i (by omega)
  · by_cases hi2 : i = v
    · subst hi2
      rw [upN_s, upN_s, upN_n _ _ (by omega), put_0, put_1, put_2, put_4, put_5]
      refine ⟨by have := hg.1; omega, by omega, rfl, rfl, rfl, ?_⟩
      rcases hh with ⟨q1, q2⟩ | ⟨q1, q2⟩
      · rw [if_pos q1]; exact q2
      · rw [if_neg (by omega)]; exact q2
    · rw [upN_n _ _ (by omega), upN_n _ _ (by omega), upN_n _ _ (by omega)]
      exact h8 i (by omega)
theorem rd_good {F : Int → Int} {n : Int} (hF : ∀ i, 0 ≤ F i ∧ F i < 256) : ∀ (j : Nat) (k p : Int) (v : Nat) (E O : Nat → Int) (T : px_T), gi_ n k p v E O T → 0 ≤ (px_rd F j k p v E O T).2.1 ∧ (px_rd F j k p v E O T).2.1 ≤ k + j ∧ (0 ≤ (px_rd F j k p v E O T).1 ∧ (px_rd F j k p v E O T).1 ≤ 2) ∧ ∀ i, 0 ≤ i → i < (px_rd F j k p v E O T).2.1 → bx_ n (px_rd F j k p v E O T).2.2 i := by
  intro j
  induction j with
  | zero =>
    intro k p v E O T hg
    unfold px_rd
    split
    · exact ⟨hg.1, by simp, by simp, hg.2.2.2.2.2.2.2.2⟩
    · exact ⟨hg.1, by simp, by simp, hg.2.2.2.2.2.2.2.2⟩
  | succ j ih =>
    intro k p v E O T hg
    have hg1 := gi_pop hg
    unfold px_rd
    split
    · exact ⟨hg.1, by show k ≤ _; omega, by simp, hg.2.2.2.2.2.2.2.2⟩
    · split
      · exact ⟨hg.1, by show k ≤ _; omega, by simp, hg.2.2.2.2.2.2.2.2⟩
      · rename_i s h ho
        split
        · rename_i hh
          obtain ⟨a1, a2, a3, a4⟩ := ih _ _ _ _ _ _ (gi_hold hF hg1 ho hh)
          exact ⟨a1, by omega, a3, a4⟩
        · obtain ⟨a1, a2, a3, a4⟩ := ih _ _ _ _ _ _ (gi_put hF hg1 ho)
          exact ⟨a1, by omega, a3, a4⟩
theorem gi_0 {n : Int} (hn : 0 ≤ n) : gi_ n 0 0 0 (fun _ => n) (fun _ => -1) (fun _ _ => 0) := ⟨by omega, by omega, by omega, hn, rfl, rfl, fun i hi => by omega, fun i hi => by omega, fun j h1 h2 => by omega⟩
theorem px_good {F : Int → Int} {n : Int} (hF : ∀ i, 0 ≤ F i ∧ F i < 256) (hn : 0 ≤ n) : 0 ≤ (px_ F n).2.1 ∧ (px_ F n).2.1 ≤ 20 ∧ (0 ≤ (px_ F n).1 ∧ (px_ F n).1 ≤ 2) ∧ ∀ i, 0 ≤ i → i < (px_ F n).2.1 → bx_ n (px_ F n).2.2 i := by
  obtain ⟨a1, a2, a3, a4⟩ := rd_good hF 20 0 0 0 _ _ _ (gi_0 hn)
  exact ⟨a1, by unfold px_; simpa using a2, a3, a4⟩
theorem gi_En {n k p : Int} {v : Nat} {E O : Nat → Int} {T : px_T} (h : gi_ n k p v E O T) : E v ≤ n := by
  obtain ⟨-, -, -, -, h5, -, h7, -⟩ := h
  have hEn : ∀ v, (∀ i, i < v → E (i + 1) ≤ E i) → E v ≤ n := by
    intro v
    induction v with
    | zero => intro _; omega
    | succ v ih =>
      intro hm
      exact Int.le_trans (hm v (by omega)) (ih (fun i hi => hm i (by omega)))
  exact hEn v h7
end
section
/-! the reference's reading -/
/-- nothing but what P names has changed -/
def fr_ (P : Nat → Int → Prop) (σ σ' : sg_) : Prop := ∀ b j, ¬ P b j → σ' b j = σ b j
theorem fr_.rf {P : Nat → Int → Prop} {σ : sg_} : fr_ P σ σ := fun _ _ _ => rfl
theorem fr_.tr {P : Nat → Int → Prop} {σ σ1 σ2 : sg_} (h1 : fr_ P σ σ1) (h2 : fr_ P σ1 σ2) : fr_ P σ σ2 := fun b j h => (h2 b j h).trans (h1 b j h)
theorem fr_.up {P : Nat → Int → Prop} {σ σ' : sg_} {a : Nat} {k v : Int} (h : fr_ P σ σ') (hp : P a k) : fr_ P σ (up_ σ' a k v) := fun b j hb => by
  rw [up_n _ _ (fun q => hb (by rw [q.1, q.2]; exact hp))]
  exact h b j hb
theorem fr_.mono {P P' : Nat → Int → Prop} {σ σ' : sg_} (h : fr_ P σ σ') (hp : ∀ b j, P b j → P' b j) : fr_ P' σ σ' := fun b j hb => h b j (fun q => hb (hp b j q))
/-- the reference's file: n bytes F -/
def ro_ (σ : sg_) (F : Int → Int) (n : Int) : Prop := 0 ≤ n ∧ n ≤ 1000 ∧ σ 51 1 = n ∧ (∀ i, 0 ≤ i → i < n → σ 52 i = F i) ∧ ∀ i, 0 ≤ F i ∧ F i < 256
def rdW (b : Nat) (j : Int) : Prop := (b = 51 ∧ j = 2) ∨ (53 ≤ b ∧ b ≤ 60)
theorem ro_.fr {σ σ' : sg_} {F : Int → Int} {n : Int} {P : Nat → Int → Prop} (h : ro_ σ F n) (hf : fr_ P σ σ') (h1 : ¬ P 51 1) (h2 : ∀ j, ¬ P 52 j) : ro_ σ' F n := by
  obtain ⟨a1, a2, a3, a4, a5⟩ := h
  exact ⟨a1, a2, by rw [hf 51 1 h1]; exact a3, fun i i0 i1 => by rw [hf 52 i (h2 i)]; exact a4 i i0 i1, a5⟩
/-- the reference's table of k boxes -/
def rt_ (σ : sg_) (k : Int) (T : px_T) : Prop := σ 51 2 = k ∧ ∀ (c : Nat) (i : Int), c < 6 → 0 ≤ i → i < k → σ (53 + c) i = T c i
section RR
variable {l : Launch} {σ : sg_} {K : Option Value → mx_H → Prop} {F : Int → Int} {n k p : Int} {v : Nat} {E O : Nat → Int} {T : px_T}
theorem c_R_isHolder {i : Int} (h0 : 0 ≤ i) (h1 : i < 20) (r4 : rg (σ 57 i)) (r2 : rg (σ 55 i)) (hK : K (some (.int (iI (if (σ 57 i = 0 ∧ σ 55 i = 77) ∨ (σ 57 i = 1 ∧ σ 55 i = 84) then 1 else 0)))) (hp_ σ)) : ct_m l Y_R_isHolder 0 0 [.ref 51, .int (iI i)] (hp_ σ) K := by
  refine ct_of (L := [.ref 51, .int (iI i)]) (by decide +kernel) (Nat.le_of_ble_eq_true rfl) rfl ?_
  refine wp_aload_n dc_R_isHolder_0 rfl rfl (wi_getR dc_R_isHolder_1 lf_R_25 sh_51 rfl (wp_iload_n dc_R_isHolder_4 rfl rfl (wi_ald dc_R_isHolder_5 sh_57 (by omega) (by omega) (by decide) ?_)))
  refine wi_if_ne dc_R_isHolder_6 rfl (fun hc => ?_) (fun hc => ?_)
  · refine wp_aload_n dc_R_isHolder_20 rfl rfl (wi_getR dc_R_isHolder_21 lf_R_25 sh_51 rfl (wp_iload_n dc_R_isHolder_24 rfl rfl (wi_ald dc_R_isHolder_25 sh_57 (by omega) (by omega) (by decide) (wi_iconst dc_R_isHolder_26 ?_))))
    refine wi_ic_ne dc_R_isHolder_27 rfl (fun hd => ?_) (fun hd => ?_)
    · rw [if_neg (by omega)] at hK
      refine wi_iconst dc_R_isHolder_45 ?_
      refine wp_ireturn dc_R_isHolder_46 rfl rfl hK
    · refine wp_aload_n dc_R_isHolder_30 rfl rfl (wi_getR dc_R_isHolder_31 lf_R_19 sh_51 rfl (wp_iload_n dc_R_isHolder_34 rfl rfl (wi_ald dc_R_isHolder_35 sh_55 (by omega) (by omega) (by decide) (wi_bipush dc_R_isHolder_36 ?_))))
      refine wi_ic_ne dc_R_isHolder_38 rfl (fun he => ?_) (fun he => ?_)
      · rw [if_neg (by omega)] at hK
        refine wi_iconst dc_R_isHolder_45 ?_
        refine wp_ireturn dc_R_isHolder_46 rfl rfl hK
      · rw [if_pos (by omega)] at hK
        refine wi_iconst dc_R_isHolder_41 (wp_goto dc_R_isHolder_42 rfl ?_)
        refine wp_ireturn dc_R_isHolder_46 rfl rfl hK
  · refine wp_aload_n dc_R_isHolder_9 rfl rfl (wi_getR dc_R_isHolder_10 lf_R_19 sh_51 rfl (wp_iload_n dc_R_isHolder_13 rfl rfl (wi_ald dc_R_isHolder_14 sh_55 (by omega) (by omega) (by decide) (wi_bipush dc_R_isHolder_15 ?_))))
    refine wi_ic_eq dc_R_isHolder_17 rfl (fun hd => ?_) (fun hd => ?_)
    · rw [if_pos (by omega)] at hK
      refine wi_iconst dc_R_isHolder_41 (wp_goto dc_R_isHolder_42 rfl ?_)
      refine wp_ireturn dc_R_isHolder_46 rfl rfl hK
    · refine wp_aload_n dc_R_isHolder_20 rfl rfl (wi_getR dc_R_isHolder_21 lf_R_25 sh_51 rfl (wp_iload_n dc_R_isHolder_24 rfl rfl (wi_ald dc_R_isHolder_25 sh_57 (by omega) (by omega) (by decide) (wi_iconst dc_R_isHolder_26 ?_))))
      refine wi_ic_ne dc_R_isHolder_27 rfl (fun he => ?_) (fun he => ?_)
      · rw [if_neg (by omega)] at hK
        refine wi_iconst dc_R_isHolder_45 ?_
        refine wp_ireturn dc_R_isHolder_46 rfl rfl hK
      · omega
/-- the state behind a box that was read -/
def s1_ (σ : sg_) (k a s t h v o : Int) : sg_ := up_ (up_ (up_ (up_ (up_ (up_ (up_ σ 53 k a) 54 k s) 55 k t) 56 k h) 57 k v) 58 k o) 51 2 (k + 1)
theorem s1_fr (σ : sg_) (k a s t h v o : Int) : fr_ rdW σ (s1_ σ k a s t h v o) := by
  unfold s1_
  refine fr_.up (fr_.up (fr_.up (fr_.up (fr_.up (fr_.up (fr_.up fr_.rf ?_) ?_) ?_) ?_) ?_) ?_) ?_ <;> (unfold rdW; omega)
theorem s1_rt {σ : sg_} {k a s t h v o : Int} {T : px_T} (hr : rt_ σ k T) : rt_ (s1_ σ k a s t h v o) (k + 1) (px_put T k a s t h v o) := by
  refine ⟨by unfold s1_; rw [up_s], fun c i hc h0 h1 => ?_⟩
  by_cases hi : i = k
  · subst hi
    match c, hc with
    | 0, _ => simp [s1_, up_, px_put]
    | 1, _ => simp [s1_, up_, px_put]
    | 2, _ => simp [s1_, up_, px_put]
    | 3, _ => simp [s1_, up_, px_put]
    | 4, _ => simp [s1_, up_, px_put]
    | 5, _ => simp [s1_, up_, px_put]
  · rw [put_ne T hi, ← hr.2 c i hc h0 (by omega)]
    unfold s1_ up_
    simp [hi]
    omega
theorem s1_59 (σ : sg_) (k a s t h v o : Int) : s1_ σ k a s t h v o 59 = σ 59 ∧ s1_ σ k a s t h v o 60 = σ 60 := by
  constructor <;> (funext j; simp [s1_, up_])
theorem c_R_readOne (hro : ro_ σ F n) (hk : σ 51 2 = k) (hk0 : 0 ≤ k) (hk1 : k < 20) (hv : v ≤ 2) (hO : σ 60 v = O v) (hp : 0 ≤ p) (hE : p ≤ E v) (hEn : E v ≤ n)
    (hN : px_one F p (E v - p) v = none → K (some (.int (iI 0))) (hp_ σ)) (hS : ∀ s h, px_one F p (E v - p) v = some (s, h) → K (some (.int (iI 1))) (hp_ (s1_ σ k p s (F (p + 1)) h v (O v)))) : ct_m l Y_R_readOne 0 0 [.ref 51, .int (iI p), .int (iI (E v - p)), .int (iI v)] (hp_ σ) K := by
  obtain ⟨a1, a2, a3, a4, a5⟩ := hro
  have hpw : px_one F p (E v - p) v = if E v - p < 2 then none else if E v - p < px_h F p ∨ (F p = 0 ∧ 0 < v) then none else if px_w F p (E v - p) < px_h F p ∨ E v - p < px_w F p (E v - p) then none else some (px_w F p (E v - p), px_h F p) := rfl
  have hh : px_h F p = 2 ∨ px_h F p = 4 := by
    unfold px_h
    split
    · exact Or.inr rfl
    · exact Or.inl rfl
  have hF0 := a5 p
  have hF2 := a5 (p + 2)
  have hF3 := a5 (p + 3)
  have hwr : 0 ≤ px_w F p (E v - p) ∧ px_w F p (E v - p) ≤ 70000 := by
    unfold px_w
    split
    · omega
    split <;> omega
  refine ct_of (L := [.ref 51, .int (iI p), .int (iI (E v - p)), .int (iI v), .retAddr 0, .retAddr 0, .retAddr 0]) (by decide +kernel) (Nat.le_of_ble_eq_true rfl) rfl ?_
  refine wp_iload_n dc_R_readOne_0 rfl rfl (wi_iconst dc_R_readOne_1 ?_)
  refine wi_ic_ge dc_R_readOne_2 rfl (fun hc => ?_) (fun hc => ?_)
  rotate_left
  · refine wi_iconst dc_R_readOne_5 ?_
    refine wp_ireturn dc_R_readOne_6 rfl rfl (hN (by rw [hpw, if_pos (by omega)]))
  suffices K26 : wp_m l Y_R_readOne none 0 0 26 [.ref 51, .int (iI p), .int (iI (E v - p)), .int (iI v), .int (iI (F p)), .retAddr 0, .retAddr 0] [.int (iI (px_h F p))] (hp_ σ) K by
    refine wp_aload_n dc_R_readOne_7 rfl rfl (wi_getR dc_R_readOne_8 lf_R_7 sh_51 rfl (wp_iload_n dc_R_readOne_11 rfl rfl (wi_aldE (F p) dc_R_readOne_12 sh_52 (by omega) (by omega) (by decide) (a4 p hp (by omega)) (wp_is4 dc_R_readOne_13 (wp_iload dc_R_readOne_15 rfl (wi_iconst dc_R_readOne_17 ?_))))))
    refine wi_ic_ne dc_R_readOne_18 rfl (fun hd => ?_) (fun hd => ?_)
    · rw [show px_h F p = 2 from if_neg hd] at K26
      refine wi_iconst dc_R_readOne_25 ?_
      exact K26
    · rw [show px_h F p = 4 from if_pos hd] at K26
      refine wi_iconst dc_R_readOne_21 (wp_goto dc_R_readOne_22 rfl ?_)
      exact K26
  refine wp_is5 dc_R_readOne_26 (wp_iload_n dc_R_readOne_28 rfl rfl (wp_iload dc_R_readOne_29 rfl ?_))
  refine wi_ic_lt dc_R_readOne_31 rfl (fun hd => ?_) (fun hd => ?_)
  · refine wi_iconst dc_R_readOne_43 ?_
    refine wp_ireturn dc_R_readOne_44 rfl rfl (hN (by rw [hpw, if_neg (by omega), if_pos (Or.inl hd)]))
  suffices K45 : ¬ (F p = 0 ∧ 0 < v) → wp_m l Y_R_readOne none 0 0 45 [.ref 51, .int (iI p), .int (iI (E v - p)), .int (iI v), .int (iI (F p)), .int (iI (px_h F p)), .retAddr 0] [] (hp_ σ) K by
    refine wp_iload dc_R_readOne_34 rfl ?_
    refine wi_if_ne dc_R_readOne_36 rfl (fun he => ?_) (fun he => ?_)
    · exact K45 (by omega)
    · refine wp_iload_n dc_R_readOne_39 rfl rfl ?_
      refine wi_if_le dc_R_readOne_40 rfl (fun hf => ?_) (fun hf => ?_)
      · exact K45 (by omega)
      · refine wi_iconst dc_R_readOne_43 ?_
        refine wp_ireturn dc_R_readOne_44 rfl rfl (hN (by rw [hpw, if_neg (by omega), if_pos (Or.inr ⟨he, by omega⟩)]))
  intro hz
  suffices K86 : wp_m l Y_R_readOne none 0 0 86 [.ref 51, .int (iI p), .int (iI (E v - p)), .int (iI v), .int (iI (F p)), .int (iI (px_h F p)), .retAddr 0] [.int (iI (px_w F p (E v - p)))] (hp_ σ) K by
    refine wp_iload dc_R_readOne_45 rfl ?_
    refine wi_if_ne dc_R_readOne_47 rfl (fun he => ?_) (fun he => ?_)
    · refine wp_iload dc_R_readOne_54 rfl (wi_iconst dc_R_readOne_56 ?_)
      refine wi_ic_ne dc_R_readOne_57 rfl (fun hf => ?_) (fun hf => ?_)
      · rw [show px_w F p (E v - p) = F p by unfold px_w; rw [if_neg he, if_neg hf]] at K86
        refine wp_iload dc_R_readOne_84 rfl ?_
        exact K86
      · have h4 : px_h F p = 4 := if_pos hf
        rw [show px_w F p (E v - p) = 256 * F (p + 2) + F (p + 3) by unfold px_w; rw [if_neg he, if_pos hf]] at K86
        refine wi_sipush dc_R_readOne_60 (wp_aload_n dc_R_readOne_63 rfl rfl (wi_getR dc_R_readOne_64 lf_R_7 sh_51 rfl (wp_iload_n dc_R_readOne_67 rfl rfl (wi_iconst dc_R_readOne_68 (wi_iadd dc_R_readOne_69 (wi_aldE (F (p + 2)) dc_R_readOne_70 sh_52 (by omega) (by omega) (by decide) (a4 (p + 2) (by omega) (by omega)) (wi_imul dc_R_readOne_71 (wp_aload_n dc_R_readOne_72 rfl rfl (wi_getR dc_R_readOne_73 lf_R_7 sh_51 rfl (wp_iload_n dc_R_readOne_76 rfl rfl (wi_iconst dc_R_readOne_77 (wi_iadd dc_R_readOne_78 (wi_aldE (F (p + 3)) dc_R_readOne_79 sh_52 (by omega) (by omega) (by decide) (a4 (p + 3) (by omega) (by omega)) ?_)))))))))))))
        refine wi_iadd dc_R_readOne_80 (wp_goto dc_R_readOne_81 rfl ?_)
        exact K86
    · rw [show px_w F p (E v - p) = E v - p by unfold px_w; rw [if_pos he]] at K86
      refine wp_iload_n dc_R_readOne_50 rfl rfl (wp_goto dc_R_readOne_51 rfl ?_)
      exact K86
  refine wp_is6 dc_R_readOne_86 (wp_iload dc_R_readOne_88 rfl (wp_iload dc_R_readOne_90 rfl ?_))
  refine wi_ic_lt dc_R_readOne_92 rfl (fun he => ?_) (fun he => ?_)
  · refine wi_iconst dc_R_readOne_101 ?_
    refine wp_ireturn dc_R_readOne_102 rfl rfl (hN (by rw [hpw, if_neg (by omega), if_neg (by omega), if_pos (Or.inl he)]))
  · refine wp_iload dc_R_readOne_95 rfl (wp_iload_n dc_R_readOne_97 rfl rfl ?_)
    refine wi_ic_le dc_R_readOne_98 rfl (fun hf => ?_) (fun hf => ?_)
    rotate_left
    · refine wi_iconst dc_R_readOne_101 ?_
      refine wp_ireturn dc_R_readOne_102 rfl rfl (hN (by rw [hpw, if_neg (by omega), if_neg (by omega), if_pos (Or.inr (by omega))]))
    · refine wp_aload_n dc_R_readOne_103 rfl rfl (wi_getR dc_R_readOne_104 lf_R_13 sh_51 rfl (wp_aload_n dc_R_readOne_107 rfl rfl (wi_getE 2 (k) dc_R_readOne_108 lf_R_64 sh_51 rfl rfl (by simp [up_, hk]) (wp_iload_n dc_R_readOne_111 rfl rfl (wi_ast dc_R_readOne_112 sh_53 (by omega) (by omega) (by decide) (wp_aload_n dc_R_readOne_113 rfl rfl (wi_getR dc_R_readOne_114 lf_R_16 sh_51 rfl (wp_aload_n dc_R_readOne_117 rfl rfl (wi_getE 2 (k) dc_R_readOne_118 lf_R_64 sh_51 rfl rfl (by simp [up_, hk]) (wp_iload dc_R_readOne_121 rfl (wi_ast dc_R_readOne_123 sh_54 (by omega) (by omega) (by decide) (wp_aload_n dc_R_readOne_124 rfl rfl (wi_getR dc_R_readOne_125 lf_R_19 sh_51 rfl ?_)))))))))))))
      refine wp_aload_n dc_R_readOne_128 rfl rfl (wi_getE 2 (k) dc_R_readOne_129 lf_R_64 sh_51 rfl rfl (by simp [up_, hk]) (wp_aload_n dc_R_readOne_132 rfl rfl (wi_getR dc_R_readOne_133 lf_R_7 sh_51 rfl (wp_iload_n dc_R_readOne_136 rfl rfl (wi_iconst dc_R_readOne_137 (wi_iadd dc_R_readOne_138 (wi_aldE (F (p + 1)) dc_R_readOne_139 sh_52 (by omega) (by omega) (by decide) (by simp [up_]; exact a4 (p + 1) (by omega) (by omega)) (wi_ast dc_R_readOne_140 sh_55 (by omega) (by omega) (by decide) (wp_aload_n dc_R_readOne_141 rfl rfl (wi_getR dc_R_readOne_142 lf_R_22 sh_51 rfl (wp_aload_n dc_R_readOne_145 rfl rfl (wi_getE 2 (k) dc_R_readOne_146 lf_R_64 sh_51 rfl rfl (by simp [up_, hk]) (wp_iload dc_R_readOne_149 rfl ?_)))))))))))))
      refine wi_ast dc_R_readOne_151 sh_56 (by omega) (by omega) (by decide) (wp_aload_n dc_R_readOne_152 rfl rfl (wi_getR dc_R_readOne_153 lf_R_25 sh_51 rfl (wp_aload_n dc_R_readOne_156 rfl rfl (wi_getE 2 (k) dc_R_readOne_157 lf_R_64 sh_51 rfl rfl (by simp [up_, hk]) (wp_iload_n dc_R_readOne_160 rfl rfl (wi_ast dc_R_readOne_161 sh_57 (by omega) (by omega) (by decide) (wp_aload_n dc_R_readOne_162 rfl rfl (wi_getR dc_R_readOne_163 lf_R_28 sh_51 rfl (wp_aload_n dc_R_readOne_166 rfl rfl (wi_getE 2 (k) dc_R_readOne_167 lf_R_64 sh_51 rfl rfl (by simp [up_, hk]) (wp_aload_n dc_R_readOne_170 rfl rfl (wi_getR dc_R_readOne_171 lf_R_34 sh_51 rfl (wp_iload_n dc_R_readOne_174 rfl rfl ?_)))))))))))))
      refine wi_aldE (O v) dc_R_readOne_175 sh_60 (by omega) (by omega) (by decide) (by simp [up_, hO]) (wi_ast dc_R_readOne_176 sh_58 (by omega) (by omega) (by decide) (wp_aload_n dc_R_readOne_177 rfl rfl (wp_dup dc_R_readOne_178 (wi_getE 2 (k) dc_R_readOne_179 lf_R_64 sh_51 rfl rfl (by simp [up_, hk]) (wi_iconst dc_R_readOne_182 (wi_iadd dc_R_readOne_183 (wi_putI 2 dc_R_readOne_184 lf_R_64 sh_51 rfl rfl pv_int (wi_iconst dc_R_readOne_187 ?_))))))))
      have hk2 := hS (px_w F p (E v - p)) (px_h F p) (by rw [hpw, if_neg (by omega), if_neg (by omega), if_neg (by omega)])
      refine wp_ireturn dc_R_readOne_188 rfl rfl hk2
theorem lp_R_pop {s u : Value} (hn : n ≤ 1000) (hE : ∀ i : Nat, i ≤ v → σ 59 i = E i) (hg : gi_ n k p v E O T) (hc : s.category = 1) (kk : wp_m l Y_R_read none 0 0 54 [.ref 51, .int (iI p), .int (iI (px_pop p E v)), s, u] [] (hp_ σ) K) : wp_m l Y_R_read none 0 0 34 [.ref 51, .int (iI p), .int (iI v), s, u] [] (hp_ σ) K := by
  induction v with
  | zero =>
    refine wp_iload_n dc_R_read_34 rfl rfl ?_
    refine wi_if_le dc_R_read_35 rfl (fun hd => ?_) (fun hd => ?_)
    · exact kk
    · omega
  | succ v ih =>
    obtain ⟨g1, g2, g3, g4, g5, g6, g7, g8, g9⟩ := id hg
    have hr : 0 ≤ E (v + 1) ∧ E (v + 1) ≤ n := by
      have a1 := g7 v (by omega)
      have a2 : E v ≤ n := by
        cases v with
        | zero => omega
        | succ w =>
          have a3 := g7 w (by omega)
          have a4 : w = 0 := by omega
          subst a4
          omega
      omega
    refine wp_iload_n dc_R_read_34 rfl rfl ?_
    refine wi_if_le dc_R_read_35 rfl (fun hd => ?_) (fun hd => ?_)
    · omega
    · refine wp_iload_n dc_R_read_38 rfl rfl (wp_aload_n dc_R_read_39 rfl rfl (wi_getR dc_R_read_40 lf_R_31 sh_51 rfl (wp_iload_n dc_R_read_43 rfl rfl (wi_aldE (E (v + 1)) dc_R_read_44 sh_59 (by omega) (by omega) (by decide) (hE (v + 1) (Nat.le_refl _)) ?_))))
      unfold px_pop at kk
      refine wi_ic_ne dc_R_read_45 rfl (fun he => ?_) (fun he => ?_)
      · rw [if_neg he] at kk
        exact kk
      · rw [if_pos he] at kk
        refine wp_ii2 dc_R_read_48 (wp_goto dc_R_read_51 rfl ?_)
        rw [show ((v + 1 : Nat) : Int) + -1 = v by omega]
        exact ih (fun i hi => hE i (by omega)) ⟨g1, by omega, g3, by have := g7 v (by omega); omega, g5, g6, fun i hi => g7 i (by omega), fun i hi => g8 i (by omega), g9⟩ kk
theorem rt_put {σ : sg_} {k a : Int} {b : Nat} {T : px_T} {y : Int} (h : rt_ σ k T) (hx : ¬ (53 ≤ b ∧ b ≤ 58)) (hb : b ≠ 51) : rt_ (up_ σ b a y) k T := by
  refine ⟨by rw [up_n _ _ (fun q => hb q.1.symm)]; exact h.1, fun c i hc h0 h1 => ?_⟩
  rw [up_n _ _ (fun q => hx (by omega))]
  exact h.2 c i hc h0 h1
theorem lp_R_read {σ0 : sg_} (hro : ro_ σ0 F n) : ∀ (j : Nat) (k p : Int) (v : Nat) (E O : Nat → Int) (T : px_T) (σ : sg_) (u : Value), (20 : Int) - j = k → fr_ rdW σ0 σ → rt_ σ k T → (∀ i : Nat, i ≤ v → σ 59 i = E i ∧ σ 60 i = O i) → gi_ n k p v E O T →
    (∀ σ', fr_ rdW σ0 σ' → rt_ σ' (px_rd F j k p v E O T).2.1 (px_rd F j k p v E O T).2.2 → K (some (.int (iI (px_rd F j k p v E O T).1))) (hp_ σ')) →
    wp_m l Y_R_read none 0 0 28 [.ref 51, .int (iI p), .int (iI v), .int (iI k), u] [] (hp_ σ) K := by
  intro j
  induction j with
  | zero =>
    intro k p v E O T σ u hj hfr hrt hEO hg hK
    have hg' := gi_pop hg
    have hro' := hro.fr hfr (by unfold rdW; omega) (fun j => by unfold rdW; omega)
    obtain ⟨a1, a2, a3, a4, a5⟩ := id hro'
    obtain ⟨g1, g2, g3, g4, g5, g6, g7, g8, g9⟩ := id hg'
    have hle := px_pop_le p E v
    have hEv := gi_En hg'
    have e59 := hEO (px_pop p E v) hle
    refine wp_iload_n dc_R_read_28 rfl rfl (wi_bipush dc_R_read_29 ?_)
    refine wi_ic_ge dc_R_read_31 rfl (fun hd => ?_) (fun hd => ?_)
    · omega
    refine lp_R_pop a2 (fun i hi => (hEO i hi).1) hg rfl ?_
    refine wp_iload_n dc_R_read_54 rfl rfl (wp_aload_n dc_R_read_55 rfl rfl (wi_getR dc_R_read_56 lf_R_31 sh_51 rfl (wp_iload_n dc_R_read_59 rfl rfl (wi_aldE (E (px_pop p E v)) dc_R_read_60 sh_59 (by omega) (by omega) (by decide) e59.1 ?_))))
    unfold px_rd at hK
    refine wi_ic_ne dc_R_read_61 rfl (fun he => ?_) (fun he => ?_)
    · rw [if_neg he] at hK
      refine wp_aload_n dc_R_read_66 rfl rfl (wi_getE 2 (k) dc_R_read_67 lf_R_64 sh_51 rfl rfl hrt.1 (wi_bipush dc_R_read_70 ?_))
      refine wi_ic_ne dc_R_read_72 rfl (fun hf => ?_) (fun hf => ?_)
      · omega
      · refine wi_iconst dc_R_read_75 ?_
        refine wp_ireturn dc_R_read_76 rfl rfl (hK σ hfr hrt)
    · rw [if_pos he] at hK
      refine wi_iconst dc_R_read_64 ?_
      refine wp_ireturn dc_R_read_65 rfl rfl (hK σ hfr hrt)
  | succ j ih =>
    intro k p v E O T σ u hj hfr hrt hEO hg hK
    have hg' := gi_pop hg
    have hro' := hro.fr hfr (by unfold rdW; omega) (fun j => by unfold rdW; omega)
    obtain ⟨a1, a2, a3, a4, a5⟩ := id hro'
    obtain ⟨g1, g2, g3, g4, g5, g6, g7, g8, g9⟩ := id hg'
    have hle := px_pop_le p E v
    have hEv := gi_En hg'
    have e59 := hEO (px_pop p E v) hle
    refine wp_iload_n dc_R_read_28 rfl rfl (wi_bipush dc_R_read_29 ?_)
    refine wi_ic_ge dc_R_read_31 rfl (fun hd => ?_) (fun hd => ?_)
    · omega
    refine lp_R_pop a2 (fun i hi => (hEO i hi).1) hg rfl ?_
    refine wp_iload_n dc_R_read_54 rfl rfl (wp_aload_n dc_R_read_55 rfl rfl (wi_getR dc_R_read_56 lf_R_31 sh_51 rfl (wp_iload_n dc_R_read_59 rfl rfl (wi_aldE (E (px_pop p E v)) dc_R_read_60 sh_59 (by omega) (by omega) (by decide) e59.1 ?_))))
    unfold px_rd at hK
    refine wi_ic_ne dc_R_read_61 rfl (fun he => ?_) (fun he => ?_)
    rotate_left
    · rw [if_pos he] at hK
      refine wi_iconst dc_R_read_64 ?_
      refine wp_ireturn dc_R_read_65 rfl rfl (hK σ hfr hrt)
    rw [if_neg he] at hK
    refine wp_aload_n dc_R_read_66 rfl rfl (wi_getE 2 (k) dc_R_read_67 lf_R_64 sh_51 rfl rfl hrt.1 (wi_bipush dc_R_read_70 ?_))
    refine wi_ic_ne dc_R_read_72 rfl (fun hf => ?_) (fun hf => ?_)
    rotate_left
    · omega
    refine wp_aload_n dc_R_read_77 rfl rfl (wp_iload_n dc_R_read_78 rfl rfl (wp_aload_n dc_R_read_79 rfl rfl (wi_getR dc_R_read_80 lf_R_31 sh_51 rfl (wp_iload_n dc_R_read_83 rfl rfl (wi_aldE (E (px_pop p E v)) dc_R_read_84 sh_59 (by omega) (by omega) (by decide) e59.1 (wp_iload_n dc_R_read_85 rfl rfl (wi_isub dc_R_read_86 (wp_iload_n dc_R_read_87 rfl rfl ?_))))))))
    refine wp_callV (As := [_, _, _]) dc_R_read_88 lm_R_67 ls_R_readOne (by decide) rfl rfl (hp_at _ sh_51) rfl rfl (Nat.le_of_ble_eq_true rfl) (Nat.le_refl _) (Nat.le_refl _) ?_
    generalize hw : px_pop p E v = w at *
    refine c_R_readOne hro' hrt.1 g1 (by omega) g2 e59.2 g3 g4 hEv (fun ho => ?_) (fun s h ho => ?_)
    · rw [ho] at hK
      refine wi_if_ne dc_R_read_91 rfl (fun hx => ?_) (fun hx => ?_)
      · omega
      · refine wi_iconst dc_R_read_94 ?_
        refine wp_ireturn dc_R_read_95 rfl rfl (hK σ hfr hrt)
    · rw [ho] at hK
      dsimp only at hK
      obtain ⟨o1, o2, o3, o4, o5, o6, o7, o8⟩ := one_spec ho
      have hrt1 := s1_rt (a := p) (s := s) (t := F (p + 1)) (h := h) (v := w) (o := O w) hrt
      have hfr1 := hfr.tr (s1_fr σ k p s (F (p + 1)) h w (O w))
      have hEO1 : ∀ i : Nat, i ≤ w → s1_ σ k p s (F (p + 1)) h w (O w) 59 i = E i ∧ s1_ σ k p s (F (p + 1)) h w (O w) 60 i = O i := fun i hi => by
        rw [(s1_59 σ k p s (F (p + 1)) h w (O w)).1, (s1_59 σ k p s (F (p + 1)) h w (O w)).2]
        exact hEO i (by omega)
      have t0 := hrt1.2 0 k (by decide) g1 (by omega)
      have t1 := hrt1.2 1 k (by decide) g1 (by omega)
      have t2 := hrt1.2 2 k (by decide) g1 (by omega)
      have t3 := hrt1.2 3 k (by decide) g1 (by omega)
      have t4 := hrt1.2 4 k (by decide) g1 (by omega)
      rw [put_0] at t0
      rw [put_1] at t1
      rw [put_2] at t2
      rw [put_3] at t3
      rw [put_4] at t4
      have hF1 := a5 (p + 1)
      generalize s1_ σ k p s (F (p + 1)) h w (O w) = σ1 at *
      refine wi_if_ne dc_R_read_91 rfl (fun hx => ?_) (fun hx => ?_)
      rotate_left
      · omega
      refine wp_aload_n dc_R_read_96 rfl rfl (wi_getE 2 (k + 1) dc_R_read_97 lf_R_64 sh_51 rfl rfl hrt1.1 (wi_iconst dc_R_read_100 (wi_isub dc_R_read_101 (wp_is4 dc_R_read_102 (wp_aload_n dc_R_read_104 rfl rfl (wp_iload dc_R_read_105 rfl ?_))))))
      rw [show k + 1 - 1 = k by omega]
      refine wp_callV (As := [_]) dc_R_read_107 lm_R_71 ls_R_isHolder (by decide) rfl rfl (hp_at _ sh_51) rfl rfl (Nat.le_of_ble_eq_true rfl) (Nat.le_refl _) (Nat.le_refl _) ?_
      refine c_R_isHolder g1 (by omega) (by rw [t4]; constructor <;> omega) (by rw [t2]; constructor <;> omega) ?_
      rw [t4, t2]
      by_cases hh : px_hold w (F (p + 1))
      · rw [if_pos hh] at hK
        rw [if_pos (by omega)]
        refine wi_if_eq dc_R_read_110 rfl (fun hy => ?_) (fun hy => ?_)
        · omega
        have hgn := gi_hold a5 hg' ho hh
        refine wp_ii2 dc_R_read_113 (wp_aload_n dc_R_read_116 rfl rfl (wi_getR dc_R_read_117 lf_R_31 sh_51 rfl (wp_iload_n dc_R_read_120 rfl rfl (wp_iload_n dc_R_read_121 rfl rfl (wp_aload_n dc_R_read_122 rfl rfl (wi_getR dc_R_read_123 lf_R_16 sh_51 rfl (wp_iload dc_R_read_126 rfl (wi_aldE (s) dc_R_read_128 sh_54 (by omega) (by omega) (by decide) t1 (wi_iadd dc_R_read_129 (wi_ast dc_R_read_130 sh_59 (by omega)  (by omega) (by decide) (wp_aload_n dc_R_read_131 rfl rfl (wi_getR dc_R_read_132 lf_R_34 sh_51 rfl (wp_iload_n dc_R_read_135 rfl rfl ?_)))))))))))))
        refine wp_iload dc_R_read_136 rfl (wi_ast dc_R_read_138 sh_60 (by omega)  (by omega) (by decide) (wp_iload_n dc_R_read_139 rfl rfl (wp_aload_n dc_R_read_140 rfl rfl (wi_getR dc_R_read_141 lf_R_22 sh_51 rfl (wp_iload dc_R_read_144 rfl (wi_aldE (h) dc_R_read_146 sh_56 (by omega) (by omega) (by decide) (by rw [up_n _ _ (fun q => absurd q.1 (by decide)), up_n _ _ (fun q => absurd q.1 (by decide))]; exact t3) (wi_iadd dc_R_read_147 (wp_is1 dc_R_read_148 (wp_goto dc_R_read_149 rfl (wp_ii3 dc_R_read_162 (wp_goto dc_R_read_165 rfl ?_)))))))))))
        rw [show (w : Int) + 1 = ((w + 1 : Nat) : Int) by omega]
        refine ih (k + 1) (p + h) (w + 1) _ _ _ _ _ (by omega) ((hfr1.up (by unfold rdW; omega)).up (by unfold rdW; omega)) (rt_put (rt_put hrt1 (by omega) (by decide)) (by omega) (by decide)) (fun i hi => ?_) hgn hK
        by_cases hi2 : i = w + 1
        · subst hi2
          rw [upN_s, upN_s, up_s, up_n _ _ (fun q => absurd q.1 (by decide)), up_s]
          exact ⟨rfl, rfl⟩
        · rw [upN_n _ _ hi2, upN_n _ _ hi2, up_n _ _ (fun q => absurd q.1 (by decide)), up_n _ _ (fun q => by omega), up_n _ _ (fun q => by omega), up_n _ _ (fun q => absurd q.1 (by decide))]
          exact hEO1 i (by omega)
      · rw [if_neg hh] at hK
        rw [if_neg (by omega)]
        refine wi_if_eq dc_R_read_110 rfl (fun hy => ?_) (fun hy => ?_)
        rotate_left
        · omega
        refine wp_iload_n dc_R_read_152 rfl rfl (wp_aload_n dc_R_read_153 rfl rfl (wi_getR dc_R_read_154 lf_R_16 sh_51 rfl (wp_iload dc_R_read_157 rfl (wi_aldE (s) dc_R_read_159 sh_54 (by omega) (by omega) (by decide) t1 (wi_iadd dc_R_read_160 (wp_is1 dc_R_read_161 (wp_ii3 dc_R_read_162 (wp_goto dc_R_read_165 rfl ?_))))))))
        exact ih (k + 1) (p + s) w E O _ _ _ (by omega) hfr1 hrt1 hEO1 (gi_put a5 hg' ho) hK
theorem c_R_read (hro : ro_ σ F n) (hK : ∀ σ', fr_ rdW σ σ' → rt_ σ' (px_ F n).2.1 (px_ F n).2.2 → K (some (.int (iI (px_ F n).1))) (hp_ σ')) : ct_m l Y_R_read 0 0 [.ref 51] (hp_ σ) K := by
  refine ct_of (L := [.ref 51, .retAddr 0, .retAddr 0, .retAddr 0, .retAddr 0]) (by decide +kernel) (Nat.le_of_ble_eq_true rfl) rfl ?_
  refine wp_aload_n dc_R_read_0 rfl rfl (wi_iconst dc_R_read_1 (wi_putI 2 dc_R_read_2 lf_R_64 sh_51 rfl rfl pv_int (wi_iconst dc_R_read_5 (wp_is1 dc_R_read_6 (wi_iconst dc_R_read_7 (wp_is2 dc_R_read_8 (wp_aload_n dc_R_read_9 rfl rfl (wi_getR dc_R_read_10 lf_R_31 sh_51 rfl (wi_iconst dc_R_read_13 (wp_aload_n dc_R_read_14 rfl rfl (wi_getE 1 (n) dc_R_read_15 lf_R_58 sh_51 rfl rfl hro.2.2.1 (wi_ast dc_R_read_18 sh_59 (by omega) (by omega) (by decide) (wp_aload_n dc_R_read_19 rfl rfl ?_)))))))))))))
  refine wi_getR dc_R_read_20 lf_R_34 sh_51 rfl (wi_iconst dc_R_read_23 (wi_iconst dc_R_read_24 (wi_ast dc_R_read_25 sh_60 (by omega) (by omega) (by decide) (wi_iconst dc_R_read_26 (wp_is3 dc_R_read_27 ?_)))))
  refine lp_R_read (n := n) hro 20 0 0 0 (fun _ => n) (fun _ => -1) (fun _ _ => 0) _ _ (by omega) (((fr_.rf.up ?_).up ?_).up ?_) ⟨?_, fun c i _ h0 h1 => by omega⟩ (fun i hi => ?_) (gi_0 hro.1) hK
  · unfold rdW; omega
  · unfold rdW; omega
  · unfold rdW; omega
  · simp [up_]
  · have hi0 : i = 0 := by omega
    subst hi0
    exact ⟨by simp [up_], by simp [up_]⟩
end RR
end
section
/-! the class's reading -/
def lo_ (σ : sg_) (F : Int → Int) (n : Int) : Prop := 0 ≤ n ∧ n ≤ 1000 ∧ σ 1 1 = n ∧ (∀ i, 0 ≤ i → i < n → σ 2 i = F i) ∧ ∀ i, 0 ≤ F i ∧ F i < 256
def rdL (b : Nat) (j : Int) : Prop := (b = 3 ∧ j = 2) ∨ (5 ≤ b ∧ b ≤ 11)
theorem lo_.fr {σ σ' : sg_} {F : Int → Int} {n : Int} {P : Nat → Int → Prop} (h : lo_ σ F n) (hf : fr_ P σ σ') (h1 : ¬ P 1 1) (h2 : ∀ j, ¬ P 2 j) : lo_ σ' F n := by
  obtain ⟨a1, a2, a3, a4, a5⟩ := h
  exact ⟨a1, a2, by rw [hf 1 1 h1]; exact a3, fun i i0 i1 => by rw [hf 2 i (h2 i)]; exact a4 i i0 i1, a5⟩
def px_tab (t : Int) : Prop := t = 79 ∨ t = 99 ∨ t = 101 ∨ t = 107 ∨ t = 111 ∨ t = 115 ∨ t = 121 ∨ t = 122
theorem px_tabD (t : Int) : px_tab t ∨ ¬ px_tab t := Classical.em _
noncomputable def px_kind (t v : Int) : Int := if (v = 0 ∧ (t = 77 ∨ t = 68)) ∨ (v = 1 ∧ t = 84) ∨ (v ≠ 0 ∧ v ≠ 1 ∧ (t = 79 ∨ t = 99 ∨ t = 101 ∨ t = 107 ∨ t = 111 ∨ t = 115 ∨ t = 121 ∨ t = 122)) then t else -1
/-- the class's table of k boxes -/
def lt_ (σ : sg_) (k : Int) (T : px_T) : Prop := σ 3 2 = k ∧ (∀ (c : Nat) (i : Int), c < 6 → 0 ≤ i → i < k → σ (5 + c) i = T c i) ∧ ∀ i, 0 ≤ i → i < k → σ 11 i = px_kind (T 2 i) (T 4 i)
theorem sh_col {c : Nat} (hc : c < 7) : SH[5 + c]? = some (.inl (0, 20, .inl (fun _ => 0))) := by
  match c, hc with
  | 0, _ => rfl
  | 1, _ => rfl
  | 2, _ => rfl
  | 3, _ => rfl
  | 4, _ => rfl
  | 5, _ => rfl
  | 6, _ => rfl
section RL
variable {l : Launch} {σ : sg_} {K : Option Value → mx_H → Prop} {F : Int → Int} {n k p i : Int} {v : Nat} {E O : Nat → Int} {T : px_T}
theorem c_L_size (hK : K (some (.int (iI (σ 3 2)))) (hp_ σ)) : ct_m l Y_L_size 0 0 [.ref 3] (hp_ σ) K := by
  refine ct_of (L := [.ref 3]) (by decide +kernel) (Nat.le_of_ble_eq_true rfl) rfl ?_
  refine wp_aload_n dc_L_size_0 rfl rfl (wi_getI 2 dc_L_size_1 lf_L_20 sh_3 rfl rfl ?_)
  refine wp_ireturn dc_L_size_4 rfl rfl hK
theorem c_L_of {c : Nat} (hc : c < 7) (h0 : 0 ≤ σ 3 2) (h1 : σ 3 2 ≤ 20) (hi : rg i) (hK : K (some (.int (iI (at_ (σ (5 + c)) (σ 3 2) i)))) (hp_ σ)) : ct_m l Y_L_of 0 0 [.ref 3, .int (iI i), .int (iI c)] (hp_ σ) K := by
  refine ct_of (L := [.ref 3, .int (iI i), .int (iI c)]) (by decide +kernel) (Nat.le_of_ble_eq_true rfl) rfl ?_
  refine wp_iload_n dc_L_of_0 rfl rfl ?_
  refine wi_if_lt dc_L_of_1 rfl (fun hd => ?_) (fun hd => ?_)
  · rw [at_out (by omega)] at hK
    refine wi_sipush dc_L_of_22 ?_
    refine wp_ireturn dc_L_of_25 rfl rfl hK
  · refine wp_iload_n dc_L_of_4 rfl rfl (wp_aload_n dc_L_of_5 rfl rfl (wi_getI 2 dc_L_of_6 lf_L_20 sh_3 rfl rfl ?_))
    refine wi_ic_ge dc_L_of_9 rfl (fun he => ?_) (fun he => ?_)
    · rw [at_out (by omega)] at hK
      refine wi_sipush dc_L_of_22 ?_
      refine wp_ireturn dc_L_of_25 rfl rfl hK
    · refine wp_iload_n dc_L_of_12 rfl rfl ?_
      refine wi_if_lt dc_L_of_13 rfl (fun hf => ?_) (fun hf => ?_)
      · omega
      · refine wp_iload_n dc_L_of_16 rfl rfl (wi_bipush dc_L_of_17 ?_)
        refine wi_ic_lt dc_L_of_19 rfl (fun hg => ?_) (fun hg => ?_)
        · rw [at_in (by omega) (by omega)] at hK
          refine wp_aload_n dc_L_of_26 rfl rfl (wi_getR dc_L_of_27 lf_L_17 sh_3 rfl (wp_iload_n dc_L_of_30 rfl rfl (wi_aald dc_L_of_31 sh_4 rfl rfl (by omega) (by omega) (by decide) (j := 5 + c) (by rw [Int.toNat_natCast, if_pos hc]) (wp_iload_n dc_L_of_32 rfl rfl (wi_ald dc_L_of_33 (sh_col hc) (by omega) (by omega) (by decide) ?_)))))
          refine wp_ireturn dc_L_of_34 rfl rfl hK
        · omega
theorem c_L_endOf (h0 : 0 ≤ σ 3 2) (h1 : σ 3 2 ≤ 20) (hi : rg i) (hK : K (some (.int (iI (at_ (fun i => σ 5 i + σ 6 i) (σ 3 2) i)))) (hp_ σ)) : ct_m l Y_L_endOf 0 0 [.ref 3, .int (iI i)] (hp_ σ) K := by
  refine ct_of (L := [.ref 3, .int (iI i)]) (by decide +kernel) (Nat.le_of_ble_eq_true rfl) rfl ?_
  refine wp_iload_n dc_L_endOf_0 rfl rfl ?_
  refine wi_if_lt dc_L_endOf_1 rfl (fun hd => ?_) (fun hd => ?_)
  · rw [at_out (by omega)] at hK
    refine wi_sipush dc_L_endOf_32 ?_
    refine wp_ireturn dc_L_endOf_35 rfl rfl hK
  · refine wp_iload_n dc_L_endOf_4 rfl rfl (wp_aload_n dc_L_endOf_5 rfl rfl (wi_getI 2 dc_L_endOf_6 lf_L_20 sh_3 rfl rfl ?_))
    refine wi_ic_ge dc_L_endOf_9 rfl (fun he => ?_) (fun he => ?_)
    · rw [at_out (by omega)] at hK
      refine wi_sipush dc_L_endOf_32 ?_
      refine wp_ireturn dc_L_endOf_35 rfl rfl hK
    · rw [at_in (by omega) (by omega)] at hK
      refine wp_aload_n dc_L_endOf_12 rfl rfl (wi_getR dc_L_endOf_13 lf_L_17 sh_3 rfl (wi_iconst dc_L_endOf_16 (wi_aald dc_L_endOf_17 sh_4 rfl rfl (by decide) (by decide) (by decide) rfl (wp_iload_n dc_L_endOf_18 rfl rfl (wi_ald dc_L_endOf_19 sh_5 (by omega) (by omega) (by decide) (wp_aload_n dc_L_endOf_20 rfl rfl (wi_getR dc_L_endOf_21 lf_L_17 sh_3 rfl (wi_iconst dc_L_endOf_24 (wi_aald dc_L_endOf_25 sh_4 rfl rfl (by decide) (by decide) (by decide) rfl (wp_iload_n dc_L_endOf_26 rfl rfl (wi_ald dc_L_endOf_27 sh_6 (by omega) (by omega) (by decide) (wi_iadd dc_L_endOf_28 (wp_goto dc_L_endOf_29 rfl ?_)))))))))))))
      refine wp_ireturn dc_L_endOf_35 rfl rfl hK
theorem c_L_payloadOf (h0 : 0 ≤ σ 3 2) (h1 : σ 3 2 ≤ 20) (hi : rg i) (hK : K (some (.int (iI (at_ (fun i => σ 5 i + σ 8 i) (σ 3 2) i)))) (hp_ σ)) : ct_m l Y_L_payloadOf 0 0 [.ref 3, .int (iI i)] (hp_ σ) K := by
  refine ct_of (L := [.ref 3, .int (iI i)]) (by decide +kernel) (Nat.le_of_ble_eq_true rfl) rfl ?_
  refine wp_iload_n dc_L_payloadOf_0 rfl rfl ?_
  refine wi_if_lt dc_L_payloadOf_1 rfl (fun hd => ?_) (fun hd => ?_)
  · rw [at_out (by omega)] at hK
    refine wi_sipush dc_L_payloadOf_32 ?_
    refine wp_ireturn dc_L_payloadOf_35 rfl rfl hK
  · refine wp_iload_n dc_L_payloadOf_4 rfl rfl (wp_aload_n dc_L_payloadOf_5 rfl rfl (wi_getI 2 dc_L_payloadOf_6 lf_L_20 sh_3 rfl rfl ?_))
    refine wi_ic_ge dc_L_payloadOf_9 rfl (fun he => ?_) (fun he => ?_)
    · rw [at_out (by omega)] at hK
      refine wi_sipush dc_L_payloadOf_32 ?_
      refine wp_ireturn dc_L_payloadOf_35 rfl rfl hK
    · rw [at_in (by omega) (by omega)] at hK
      refine wp_aload_n dc_L_payloadOf_12 rfl rfl (wi_getR dc_L_payloadOf_13 lf_L_17 sh_3 rfl (wi_iconst dc_L_payloadOf_16 (wi_aald dc_L_payloadOf_17 sh_4 rfl rfl (by decide) (by decide) (by decide) rfl (wp_iload_n dc_L_payloadOf_18 rfl rfl (wi_ald dc_L_payloadOf_19 sh_5 (by omega) (by omega) (by decide) (wp_aload_n dc_L_payloadOf_20 rfl rfl (wi_getR dc_L_payloadOf_21 lf_L_17 sh_3 rfl (wi_iconst dc_L_payloadOf_24 (wi_aald dc_L_payloadOf_25 sh_4 rfl rfl (by decide) (by decide) (by decide) rfl (wp_iload_n dc_L_payloadOf_26 rfl rfl (wi_ald dc_L_payloadOf_27 sh_8 (by omega) (by omega) (by decide) (wi_iadd dc_L_payloadOf_28 (wp_goto dc_L_payloadOf_29 rfl ?_)))))))))))))
      refine wp_ireturn dc_L_payloadOf_35 rfl rfl hK
theorem c_L_payloadSizeOf (h0 : 0 ≤ σ 3 2) (h1 : σ 3 2 ≤ 20) (hi : rg i) (hK : K (some (.int (iI (at_ (fun i => σ 6 i - σ 8 i) (σ 3 2) i)))) (hp_ σ)) : ct_m l Y_L_payloadSizeOf 0 0 [.ref 3, .int (iI i)] (hp_ σ) K := by
  refine ct_of (L := [.ref 3, .int (iI i)]) (by decide +kernel) (Nat.le_of_ble_eq_true rfl) rfl ?_
  refine wp_iload_n dc_L_payloadSizeOf_0 rfl rfl ?_
  refine wi_if_lt dc_L_payloadSizeOf_1 rfl (fun hd => ?_) (fun hd => ?_)
  · rw [at_out (by omega)] at hK
    refine wi_sipush dc_L_payloadSizeOf_32 ?_
    refine wp_ireturn dc_L_payloadSizeOf_35 rfl rfl hK
  · refine wp_iload_n dc_L_payloadSizeOf_4 rfl rfl (wp_aload_n dc_L_payloadSizeOf_5 rfl rfl (wi_getI 2 dc_L_payloadSizeOf_6 lf_L_20 sh_3 rfl rfl ?_))
    refine wi_ic_ge dc_L_payloadSizeOf_9 rfl (fun he => ?_) (fun he => ?_)
    · rw [at_out (by omega)] at hK
      refine wi_sipush dc_L_payloadSizeOf_32 ?_
      refine wp_ireturn dc_L_payloadSizeOf_35 rfl rfl hK
    · rw [at_in (by omega) (by omega)] at hK
      refine wp_aload_n dc_L_payloadSizeOf_12 rfl rfl (wi_getR dc_L_payloadSizeOf_13 lf_L_17 sh_3 rfl (wi_iconst dc_L_payloadSizeOf_16 (wi_aald dc_L_payloadSizeOf_17 sh_4 rfl rfl (by decide) (by decide) (by decide) rfl (wp_iload_n dc_L_payloadSizeOf_18 rfl rfl (wi_ald dc_L_payloadSizeOf_19 sh_6 (by omega) (by omega) (by decide) (wp_aload_n dc_L_payloadSizeOf_20 rfl rfl (wi_getR dc_L_payloadSizeOf_21 lf_L_17 sh_3 rfl (wi_iconst dc_L_payloadSizeOf_24 (wi_aald dc_L_payloadSizeOf_25 sh_4 rfl rfl (by decide) (by decide) (by decide) rfl (wp_iload_n dc_L_payloadSizeOf_26 rfl rfl (wi_ald dc_L_payloadSizeOf_27 sh_8 (by omega) (by omega) (by decide) (wi_isub dc_L_payloadSizeOf_28 (wp_goto dc_L_payloadSizeOf_29 rfl ?_)))))))))))))
      refine wp_ireturn dc_L_payloadSizeOf_35 rfl rfl hK
theorem c_L_holdsBoxes (h0 : 0 ≤ σ 3 2) (h1 : σ 3 2 ≤ 20) (hi0 : 0 ≤ i) (hi1 : i < σ 3 2) (hr : rg (σ 11 i)) (hK : K (some (.int (iI (if σ 11 i = 77 ∨ σ 11 i = 84 then 1 else 0)))) (hp_ σ)) : ct_m l Y_L_holdsBoxes 0 0 [.ref 3, .int (iI i)] (hp_ σ) K := by
  refine ct_of (L := [.ref 3, .int (iI i), .retAddr 0]) (by decide +kernel) (Nat.le_of_ble_eq_true rfl) rfl ?_
  refine wp_aload_n dc_L_holdsBoxes_0 rfl rfl (wp_iload_n dc_L_holdsBoxes_1 rfl rfl (wi_bipush dc_L_holdsBoxes_2 ?_))
  refine wp_callV (As := [_, _]) dc_L_holdsBoxes_4 lm_L_24 ls_L_of (by decide) rfl rfl (hp_at _ sh_3) rfl rfl (Nat.le_of_ble_eq_true rfl) (Nat.le_refl _) (Nat.le_refl _) ?_
  refine c_L_of (c := 6) (by decide) h0 h1 ⟨by omega, by omega⟩ ?_
  rw [at_in hi0 hi1, show σ (5 + 6) i = σ 11 i from rfl]
  refine wp_is2 dc_L_holdsBoxes_7 (wp_iload_n dc_L_holdsBoxes_8 rfl rfl (wi_bipush dc_L_holdsBoxes_9 ?_))
  refine wi_ic_eq dc_L_holdsBoxes_11 rfl (fun hd => ?_) (fun hd => ?_)
  · rw [if_pos (Or.inl hd)] at hK
    refine wi_iconst dc_L_holdsBoxes_20 (wp_goto dc_L_holdsBoxes_21 rfl ?_)
    refine wp_ireturn dc_L_holdsBoxes_25 rfl rfl hK
  · refine wp_iload_n dc_L_holdsBoxes_14 rfl rfl (wi_bipush dc_L_holdsBoxes_15 ?_)
    refine wi_ic_ne dc_L_holdsBoxes_17 rfl (fun he => ?_) (fun he => ?_)
    · rw [if_neg (by omega)] at hK
      refine wi_iconst dc_L_holdsBoxes_24 ?_
      refine wp_ireturn dc_L_holdsBoxes_25 rfl rfl hK
    · rw [if_pos (Or.inr he)] at hK
      refine wi_iconst dc_L_holdsBoxes_20 (wp_goto dc_L_holdsBoxes_21 rfl ?_)
      refine wp_ireturn dc_L_holdsBoxes_25 rfl rfl hK
theorem c_L_isTable {t : Int} {h : mx_H} (ht : rg t) (hK : K (some (.int (iI (if t = 79 ∨ t = 99 ∨ t = 101 ∨ t = 107 ∨ t = 111 ∨ t = 115 ∨ t = 121 ∨ t = 122 then 1 else 0)))) h) : ct_m l Y_L_isTable 0 0 [.int (iI t)] h K := by
  refine ct_of (L := [.int (iI t)]) (by decide +kernel) (Nat.le_of_ble_eq_true rfl) rfl ?_
  refine wp_iload_n dc_L_isTable_0 rfl rfl ?_
  by_cases hc : t = 79 ∨ t = 99 ∨ t = 101 ∨ t = 107 ∨ t = 111 ∨ t = 115 ∨ t = 121 ∨ t = 122
  · rw [if_pos hc] at hK
    refine wp_lookup dc_L_isTable_1 (off := 75) (t := 76) rfl ?_ rfl (wi_iconst dc_L_isTable_76 (wp_ireturn dc_L_isTable_77 rfl rfl hK))
    rw [iI_t ht]
    rcases hc with rfl | rfl | rfl | rfl | rfl | rfl | rfl | rfl <;> rfl
  · rw [if_neg hc] at hK
    refine wp_lookup dc_L_isTable_1 (off := 77) (t := 78) rfl ?_ rfl (wi_iconst dc_L_isTable_78 (wp_ireturn dc_L_isTable_79 rfl rfl hK))
    rw [iI_t ht]
    simp only [Op.lookupswitch.offset_cons]
    rw [if_neg (by omega), if_neg (by omega), if_neg (by omega), if_neg (by omega), if_neg (by omega), if_neg (by omega), if_neg (by omega), if_neg (by omega)]
    rfl
theorem c_L_kindOf {t x : Int} {h : mx_H} (ht : rg t) (hx : rg x) (hK : K (some (.int (iI (px_kind t x)))) h) : ct_m l Y_L_kindOf 0 0 [.int (iI t), .int (iI x)] h K := by
  refine ct_of (L := [.int (iI t), .int (iI x), .retAddr 0]) (by decide +kernel) (Nat.le_of_ble_eq_true rfl) rfl ?_
  unfold px_kind at hK
  have key : ∀ b : Int, (b = 1 ∧ ((x = 0 ∧ (t = 77 ∨ t = 68)) ∨ (x = 1 ∧ t = 84) ∨ (x ≠ 0 ∧ x ≠ 1 ∧ (t = 79 ∨ t = 99 ∨ t = 101 ∨ t = 107 ∨ t = 111 ∨ t = 115 ∨ t = 121 ∨ t = 122)))) ∨ (b = 0 ∧ ¬ ((x = 0 ∧ (t = 77 ∨ t = 68)) ∨ (x = 1 ∧ t = 84) ∨ (x ≠ 0 ∧ x ≠ 1 ∧ (t = 79 ∨ t = 99 ∨ t = 101 ∨ t = 107 ∨ t = 111 ∨ t = 115 ∨ t = 121 ∨ t = 122)))) → wp_m l Y_L_kindOf none 0 0 50 [.int (iI t), .int (iI x), .int (iI b)] [] h K := by
    intro b hb
    rcases hb with ⟨rfl, hb⟩ | ⟨rfl, hb⟩
    · rw [if_pos hb] at hK
      refine wp_iload_n dc_L_kindOf_50 rfl rfl ?_
      refine wi_if_eq dc_L_kindOf_51 rfl (fun hd => ?_) (fun hd => ?_)
      · omega
      · refine wp_iload_n dc_L_kindOf_54 rfl rfl (wp_goto dc_L_kindOf_55 rfl ?_)
        refine wp_ireturn dc_L_kindOf_59 rfl rfl hK
    · rw [if_neg hb] at hK
      refine wp_iload_n dc_L_kindOf_50 rfl rfl ?_
      refine wi_if_eq dc_L_kindOf_51 rfl (fun hd => ?_) (fun hd => ?_)
      · refine wi_iconst dc_L_kindOf_58 ?_
        refine wp_ireturn dc_L_kindOf_59 rfl rfl hK
      · omega
  refine wp_iload_n dc_L_kindOf_0 rfl rfl ?_
  refine wi_if_ne dc_L_kindOf_1 rfl (fun hd => ?_) (fun hd => ?_)
  · refine wp_iload_n dc_L_kindOf_25 rfl rfl (wi_iconst dc_L_kindOf_26 ?_)
    refine wi_ic_ne dc_L_kindOf_27 rfl (fun he => ?_) (fun he => ?_)
    · refine wp_iload_n dc_L_kindOf_45 rfl rfl ?_
      refine wp_callS (As := [_]) dc_L_kindOf_46 lm_L_65 ls_L_isTable (by decide) rfl rfl (Nat.le_of_ble_eq_true rfl) (Nat.le_refl _) (Nat.le_refl _) ?_
      refine c_L_isTable ht ?_
      refine wp_is2 dc_L_kindOf_49 ?_
      by_cases hc : t = 79 ∨ t = 99 ∨ t = 101 ∨ t = 107 ∨ t = 111 ∨ t = 115 ∨ t = 121 ∨ t = 122
      · rw [if_pos hc]
        exact key 1 (Or.inl ⟨rfl, Or.inr (Or.inr ⟨hd, he, hc⟩)⟩)
      · rw [if_neg hc]
        exact key 0 (Or.inr ⟨rfl, by omega⟩)
    · refine wp_iload_n dc_L_kindOf_30 rfl rfl (wi_bipush dc_L_kindOf_31 ?_)
      refine wi_ic_ne dc_L_kindOf_33 rfl (fun hf => ?_) (fun hf => ?_)
      · refine wi_iconst dc_L_kindOf_40 (wp_is2 dc_L_kindOf_41 (wp_goto dc_L_kindOf_42 rfl ?_))
        exact key 0 (Or.inr ⟨rfl, by omega⟩)
      · refine wi_iconst dc_L_kindOf_36 (wp_goto dc_L_kindOf_37 rfl (wp_is2 dc_L_kindOf_41 (wp_goto dc_L_kindOf_42 rfl ?_)))
        exact key 1 (Or.inl ⟨rfl, by omega⟩)
  · refine wp_iload_n dc_L_kindOf_4 rfl rfl (wi_bipush dc_L_kindOf_5 ?_)
    refine wi_ic_eq dc_L_kindOf_7 rfl (fun he => ?_) (fun he => ?_)
    · refine wi_iconst dc_L_kindOf_16 (wp_goto dc_L_kindOf_17 rfl (wp_is2 dc_L_kindOf_21 (wp_goto dc_L_kindOf_22 rfl ?_)))
      exact key 1 (Or.inl ⟨rfl, by omega⟩)
    · refine wp_iload_n dc_L_kindOf_10 rfl rfl (wi_bipush dc_L_kindOf_11 ?_)
      refine wi_ic_ne dc_L_kindOf_13 rfl (fun hf => ?_) (fun hf => ?_)
      · refine wi_iconst dc_L_kindOf_20 (wp_is2 dc_L_kindOf_21 (wp_goto dc_L_kindOf_22 rfl ?_))
        exact key 0 (Or.inr ⟨rfl, by omega⟩)
      · refine wi_iconst dc_L_kindOf_16 (wp_goto dc_L_kindOf_17 rfl (wp_is2 dc_L_kindOf_21 (wp_goto dc_L_kindOf_22 rfl ?_)))
        exact key 1 (Or.inl ⟨rfl, by omega⟩)
/-- the state behind a box that was noted -/
def s2_ (σ : sg_) (k a s t h v o d : Int) : sg_ := up_ (up_ (up_ (up_ (up_ (up_ (up_ (up_ σ 5 k a) 6 k s) 7 k t) 8 k h) 9 k v) 10 k o) 11 k d) 3 2 (k + 1)
theorem s2_fr (σ : sg_) (k a s t h v o d : Int) : fr_ rdL σ (s2_ σ k a s t h v o d) := by
  unfold s2_
  refine fr_.up (fr_.up (fr_.up (fr_.up (fr_.up (fr_.up (fr_.up (fr_.up fr_.rf ?_) ?_) ?_) ?_) ?_) ?_) ?_) ?_ <;> (unfold rdL; omega)
theorem s2_lt {σ : sg_} {k a s t h v o : Int} {T : px_T} (hr : lt_ σ k T) : lt_ (s2_ σ k a s t h v o (px_kind t v)) (k + 1) (px_put T k a s t h v o) := by
  refine ⟨by unfold s2_; rw [up_s], fun c i hc h0 h1 => ?_, fun i h0 h1 => ?_⟩
  · by_cases hi : i = k
    · subst hi
      match c, hc with
      | 0, _ => simp [s2_, up_, px_put]
      | 1, _ => simp [s2_, up_, px_put]
      | 2, _ => simp [s2_, up_, px_put]
      | 3, _ => simp [s2_, up_, px_put]
      | 4, _ => simp [s2_, up_, px_put]
      | 5, _ => simp [s2_, up_, px_put]
    · rw [put_ne T hi, ← hr.2.1 c i hc h0 (by omega)]
      unfold s2_ up_
      simp [hi]
      omega
  · by_cases hi : i = k
    · subst hi
      rw [put_2, put_4]
      simp [s2_, up_]
    · rw [put_ne T hi, put_ne T hi, ← hr.2.2 i h0 (by omega)]
      unfold s2_ up_
      simp [hi]
theorem c_L_note {s h : Int} (hlo : lo_ σ F n) (hlt : lt_ σ k T) (hg : gi_ n k p v E O T) (hk1 : k < 20) (hs : 2 ≤ E v - p) (hK : K none (hp_ (s2_ σ k p s (F (p + 1)) h v (O v) (px_kind (F (p + 1)) v)))) : ct_m l Y_L_note 0 0 [.ref 3, .int (iI p), .int (iI s), .int (iI h), .int (iI (O v))] (hp_ σ) K := by
  obtain ⟨a1, a2, a3, a4, a5⟩ := id hlo
  obtain ⟨g1, g2, g3, g4, g5, g6, g7, g8, g9⟩ := id hg
  have hEv := gi_En hg
  have hk := hlt.1
  have hF1 := a5 (p + 1)
  refine ct_of (L := [.ref 3, .int (iI p), .int (iI s), .int (iI h), .int (iI (O v)), .retAddr 0, .retAddr 0]) (by decide +kernel) (Nat.le_of_ble_eq_true rfl) rfl ?_
  refine wp_aload_n dc_L_note_0 rfl rfl (wi_getE 2 (k) dc_L_note_1 lf_L_20 sh_3 rfl rfl hk (wi_bipush dc_L_note_4 ?_))
  refine wi_ic_lt dc_L_note_6 rfl (fun hd => ?_) (fun hd => ?_)
  rotate_left
  · omega
  refine wp_aload_n dc_L_note_10 rfl rfl (wi_getR dc_L_note_11 lf_L_9 sh_3 rfl (wp_iload_n dc_L_note_14 rfl rfl (wi_iconst dc_L_note_15 (wi_iadd dc_L_note_16 ?_))))
  refine wp_callV (As := [_]) dc_L_note_17 lm_L_52 ls_B_at (by decide) rfl rfl (hp_at _ sh_1) rfl rfl (Nat.le_of_ble_eq_true rfl) (Nat.le_refl _) (Nat.le_refl _) ?_
  refine c_B_at by_1 (by omega) (by omega) ⟨by omega, by omega⟩ ?_
  rw [a3, at_in (by omega) (by omega), show σ (1 + 1) (p + 1) = σ 2 (p + 1) from rfl, a4 (p + 1) (by omega) (by omega)]
  suffices K41 : wp_m l Y_L_note none 0 0 41 [.ref 3, .int (iI p), .int (iI s), .int (iI h), .int (iI (O v)), .int (iI (F (p + 1))), .retAddr 0] [.int (iI v)] (hp_ σ) K by
    have hOr : rg (O v) := by
      cases v with
      | zero => rw [g6]; decide
      | succ w =>
        have h8 := g8 w (by omega)
        exact ⟨by omega, by omega⟩
    refine wp_is5 dc_L_note_20 (wp_iload dc_L_note_22 rfl (wi_iconst dc_L_note_24 ?_))
    cases v with
    | zero =>
      refine wi_ic_ne dc_L_note_25 rfl (fun he => ?_) (fun he => ?_)
      · omega
      · refine wi_iconst dc_L_note_28 (wp_goto dc_L_note_29 rfl ?_)
        exact K41
    | succ w =>
      have h8 := g8 w (by omega)
      refine wi_ic_ne dc_L_note_25 rfl (fun he => ?_) (fun he => ?_)
      · refine wp_aload_n dc_L_note_32 rfl rfl (wp_iload dc_L_note_33 rfl (wi_iconst dc_L_note_35 ?_))
        refine wp_callV (As := [_, _]) dc_L_note_36 lm_L_24 ls_L_of (by decide) rfl rfl (hp_at _ sh_3) rfl rfl (Nat.le_of_ble_eq_true rfl) (Nat.le_refl _) (Nat.le_refl _) ?_
        refine c_L_of (c := 4) (by decide) (by omega) (by omega) hOr ?_
        rw [hk, at_in (by omega) (by omega), hlt.2.1 4 (O (w + 1)) (by decide) (by omega) (by omega), h8.2.2.1]
        refine wi_iconst dc_L_note_39 (wi_iadd dc_L_note_40 ?_)
        exact K41
      · omega
  refine wp_is6 dc_L_note_41 (wp_aload_n dc_L_note_43 rfl rfl (wi_getR dc_L_note_44 lf_L_17 sh_3 rfl (wi_iconst dc_L_note_47 (wi_aald dc_L_note_48 sh_4 rfl rfl (by decide) (by decide) (by decide) rfl (wp_aload_n dc_L_note_49 rfl rfl (wi_getE 2 (k) dc_L_note_50 lf_L_20 sh_3 rfl rfl (by simp [up_, hk]) (wp_iload_n dc_L_note_53 rfl rfl (wi_ast dc_L_note_54 sh_5 (by omega) (by omega) (by decide) (wp_aload_n dc_L_note_55 rfl rfl (wi_getR dc_L_note_56 lf_L_17 sh_3 rfl (wi_iconst dc_L_note_59 (wi_aald dc_L_note_60 sh_4 rfl rfl (by decide) (by decide) (by decide) rfl (wp_aload_n dc_L_note_61 rfl rfl ?_)))))))))))))
  refine wi_getE 2 (k) dc_L_note_62 lf_L_20 sh_3 rfl rfl (by simp [up_, hk]) (wp_iload_n dc_L_note_65 rfl rfl (wi_ast dc_L_note_66 sh_6 (by omega) (by omega) (by decide) (wp_aload_n dc_L_note_67 rfl rfl (wi_getR dc_L_note_68 lf_L_17 sh_3 rfl (wi_iconst dc_L_note_71 (wi_aald dc_L_note_72 sh_4 rfl rfl (by decide) (by decide) (by decide) rfl (wp_aload_n dc_L_note_73 rfl rfl (wi_getE 2 (k) dc_L_note_74 lf_L_20 sh_3 rfl rfl (by simp [up_, hk]) (wp_iload dc_L_note_77 rfl (wi_ast dc_L_note_79 sh_7 (by omega) (by omega) (by decide) (wp_aload_n dc_L_note_80 rfl rfl (wi_getR dc_L_note_81 lf_L_17 sh_3 rfl (wi_iconst dc_L_note_84 ?_)))))))))))))
  refine wi_aald dc_L_note_85 sh_4 rfl rfl (by decide) (by decide) (by decide) rfl (wp_aload_n dc_L_note_86 rfl rfl (wi_getE 2 (k) dc_L_note_87 lf_L_20 sh_3 rfl rfl (by simp [up_, hk]) (wp_iload_n dc_L_note_90 rfl rfl (wi_ast dc_L_note_91 sh_8 (by omega) (by omega) (by decide) (wp_aload_n dc_L_note_92 rfl rfl (wi_getR dc_L_note_93 lf_L_17 sh_3 rfl (wi_iconst dc_L_note_96 (wi_aald dc_L_note_97 sh_4 rfl rfl (by decide) (by decide) (by decide) rfl (wp_aload_n dc_L_note_98 rfl rfl (wi_getE 2 (k) dc_L_note_99 lf_L_20 sh_3 rfl rfl (by simp [up_, hk]) (wp_iload dc_L_note_102 rfl (wi_ast dc_L_note_104 sh_9 (by omega) (by omega) (by decide) (wp_aload_n dc_L_note_105 rfl rfl ?_)))))))))))))
  refine wi_getR dc_L_note_106 lf_L_17 sh_3 rfl (wi_iconst dc_L_note_109 (wi_aald dc_L_note_110 sh_4 rfl rfl (by decide) (by decide) (by decide) rfl (wp_aload_n dc_L_note_111 rfl rfl (wi_getE 2 (k) dc_L_note_112 lf_L_20 sh_3 rfl rfl (by simp [up_, hk]) (wp_iload dc_L_note_115 rfl (wi_ast dc_L_note_117 sh_10 (by omega) (by omega) (by decide) (wp_aload_n dc_L_note_118 rfl rfl (wi_getR dc_L_note_119 lf_L_17 sh_3 rfl (wi_bipush dc_L_note_122 (wi_aald dc_L_note_124 sh_4 rfl rfl (by decide) (by decide) (by decide) rfl (wp_aload_n dc_L_note_125 rfl rfl (wi_getE 2 (k) dc_L_note_126 lf_L_20 sh_3 rfl rfl (by simp [up_, hk]) (wp_iload dc_L_note_129 rfl ?_)))))))))))))
  refine wp_iload dc_L_note_131 rfl ?_
  refine wp_callS (As := [_, _]) dc_L_note_133 lm_L_62 ls_L_kindOf (by decide) rfl rfl (Nat.le_of_ble_eq_true rfl) (Nat.le_refl _) (Nat.le_refl _) ?_
  refine c_L_kindOf ⟨by omega, by omega⟩ ⟨by omega, by omega⟩ ?_
  refine wi_ast dc_L_note_136 sh_11 (by omega) (by omega) (by decide) (wp_aload_n dc_L_note_137 rfl rfl (wp_dup dc_L_note_138 (wi_getE 2 (k) dc_L_note_139 lf_L_20 sh_3 rfl rfl (by simp [up_, hk]) (wi_iconst dc_L_note_142 (wi_iadd dc_L_note_143 (wi_putI 2 dc_L_note_144 lf_L_20 sh_3 rfl rfl pv_int ?_))))))
  refine wp_return dc_L_note_147 rfl hK
end RL
end
section
/-! the class's reading, on -/
section RM
variable {l : Launch} {σ : sg_} {K : Option Value → mx_H → Prop} {F : Int → Int} {n k p i : Int} {v : Nat} {E O : Nat → Int} {T : px_T}
theorem gi_O {n k p : Int} {v : Nat} {E O : Nat → Int} {T : px_T} (hg : gi_ n k p v E O T) : -1 ≤ O v ∧ O v < k ∧ (O v = -1 ↔ v = 0) := by
  obtain ⟨g1, g2, g3, g4, g5, g6, g7, g8, g9⟩ := hg
  cases v with
  | zero => omega
  | succ w =>
    have h8 := g8 w (by omega)
    omega
theorem lp_L_open (hlt : lt_ σ k T) (hk1 : k ≤ 20) (hn : n ≤ 1000) {x : Value} (hg0 : 0 ≤ p) : ∀ (v : Nat) (up : Int), gi_ n k p v E O T → 0 ≤ up → up + v ≤ 2 → K (some (.int (iI (O (px_pop p E v))))) (hp_ σ) → wp_m l Y_L_openHolder none 0 0 5 [.ref 3, x, .int (iI p), .int (iI (O v)), .int (iI up)] [] (hp_ σ) K := by
  intro v
  induction v with
  | zero =>
    intro up hg h0 h1 hK
    obtain ⟨g1, g2, g3, g4, g5, g6, g7, g8, g9⟩ := id hg
    have hk := hlt.1
    refine wp_iload dc_L_openHolder_5 rfl (wi_iconst dc_L_openHolder_7 ?_)
    refine wi_ic_ge dc_L_openHolder_8 rfl (fun hd => ?_) (fun hd => ?_)
    · refine wp_iload_n dc_L_openHolder_38 rfl rfl ?_
      refine wp_ireturn dc_L_openHolder_39 rfl rfl hK
    · refine wp_iload_n dc_L_openHolder_11 rfl rfl (wi_iconst dc_L_openHolder_12 ?_)
      refine wi_ic_eq dc_L_openHolder_13 rfl (fun he => ?_) (fun he => ?_)
      · refine wp_iload_n dc_L_openHolder_38 rfl rfl ?_
        refine wp_ireturn dc_L_openHolder_39 rfl rfl hK
      · omega
  | succ v ih =>
    intro up hg h0 h1 hK
    obtain ⟨g1, g2, g3, g4, g5, g6, g7, g8, g9⟩ := id hg
    have hk := hlt.1
    have h8 := g8 v (by omega)
    have hEn := gi_En hg
    have e0 := hlt.2.1 0 (O (v + 1)) (by decide) (by omega) (by omega)
    have e1 := hlt.2.1 1 (O (v + 1)) (by decide) (by omega) (by omega)
    have e5 := hlt.2.1 5 (O (v + 1)) (by decide) (by omega) (by omega)
    refine wp_iload dc_L_openHolder_5 rfl (wi_iconst dc_L_openHolder_7 ?_)
    refine wi_ic_ge dc_L_openHolder_8 rfl (fun hd => ?_) (fun hd => ?_)
    · omega
    · refine wp_iload_n dc_L_openHolder_11 rfl rfl (wi_iconst dc_L_openHolder_12 ?_)
      refine wi_ic_eq dc_L_openHolder_13 rfl (fun he => ?_) (fun he => ?_)
      · omega
      · refine wp_iload_n dc_L_openHolder_16 rfl rfl (wp_aload_n dc_L_openHolder_17 rfl rfl (wp_iload_n dc_L_openHolder_18 rfl rfl ?_))
        refine wp_callV (As := [_]) dc_L_openHolder_19 lm_L_37 ls_L_endOf (by decide) rfl rfl (hp_at _ sh_3) rfl rfl (Nat.le_of_ble_eq_true rfl) (Nat.le_refl _) (Nat.le_refl _) ?_
        refine c_L_endOf (by omega) (by omega) ⟨by omega, by omega⟩ ?_
        rw [hk, at_in (by omega) (by omega), show σ 5 (O (v + 1)) = _ from e0, show σ 6 (O (v + 1)) = _ from e1, h8.2.2.2.2.1]
        unfold px_pop at hK
        refine wi_ic_lt dc_L_openHolder_22 rfl (fun hf => ?_) (fun hf => ?_)
        · rw [if_neg (by omega)] at hK
          refine wp_iload_n dc_L_openHolder_38 rfl rfl ?_
          refine wp_ireturn dc_L_openHolder_39 rfl rfl hK
        · rw [if_pos (by omega)] at hK
          refine wp_aload_n dc_L_openHolder_25 rfl rfl (wp_iload_n dc_L_openHolder_26 rfl rfl (wi_iconst dc_L_openHolder_27 ?_))
          refine wp_callV (As := [_, _]) dc_L_openHolder_28 lm_L_24 ls_L_of (by decide) rfl rfl (hp_at _ sh_3) rfl rfl (Nat.le_of_ble_eq_true rfl) (Nat.le_refl _) (Nat.le_refl _) ?_
          refine c_L_of (c := 5) (by decide) (by omega) (by omega) ⟨by omega, by omega⟩ ?_
          rw [hk, at_in (by omega) (by omega), e5, h8.2.2.2.1]
          refine wp_is3 dc_L_openHolder_31 (wp_ii4 dc_L_openHolder_32 (wp_goto dc_L_openHolder_35 rfl ?_))
          exact ih (up + 1) ⟨g1, by omega, g3, by have := g7 v (by omega); omega, g5, g6, fun i hi => g7 i (by omega), fun i hi => g8 i (by omega), g9⟩ (by omega) (by omega) hK
theorem c_L_openHolder (hlt : lt_ σ k T) (hk1 : k ≤ 20) (hn : n ≤ 1000) (hg : gi_ n k p v E O T) (hK : K (some (.int (iI (O (px_pop p E v))))) (hp_ σ)) : ct_m l Y_L_openHolder 0 0 [.ref 3, .int (iI (O v)), .int (iI p)] (hp_ σ) K := by
  have g2 := hg.2.1
  refine ct_of (L := [.ref 3, .int (iI (O v)), .int (iI p), .retAddr 0, .retAddr 0]) (by decide +kernel) (Nat.le_of_ble_eq_true rfl) rfl ?_
  refine wp_iload_n dc_L_openHolder_0 rfl rfl (wp_is3 dc_L_openHolder_1 (wi_iconst dc_L_openHolder_2 (wp_is4 dc_L_openHolder_3 ?_)))
  exact lp_L_open hlt hk1 hn hg.2.2.1 v 0 hg (by omega) (by omega) hK
theorem c_L_readBox (hlo : lo_ σ F n) (hlt : lt_ σ k T) (hg : gi_ n k p v E O T) (hk1 : k < 20)
    (hN : px_one F p (E v - p) v = none → K (some (.int (iI 0))) (hp_ σ)) (hS : ∀ s h, px_one F p (E v - p) v = some (s, h) → K (some (.int (iI 1))) (hp_ (s2_ σ k p s (F (p + 1)) h v (O v) (px_kind (F (p + 1)) v)))) : ct_m l Y_L_readBox 0 0 [.ref 3, .int (iI p), .int (iI (E v - p)), .int (iI (O v))] (hp_ σ) K := by
  obtain ⟨a1, a2, a3, a4, a5⟩ := id hlo
  have hEn := gi_En hg
  have hp := hg.2.2.1
  have hE := hg.2.2.2.1
  have hO := gi_O hg
  have hpw : px_one F p (E v - p) v = if E v - p < 2 then none else if E v - p < px_h F p ∨ (F p = 0 ∧ 0 < v) then none else if px_w F p (E v - p) < px_h F p ∨ E v - p < px_w F p (E v - p) then none else some (px_w F p (E v - p), px_h F p) := rfl
  have hh : px_h F p = 2 ∨ px_h F p = 4 := by
    unfold px_h
    split
    · exact Or.inr rfl
    · exact Or.inl rfl
  have hF0 := a5 p
  have hF2 := a5 (p + 2)
  have hF3 := a5 (p + 3)
  have hwr : 0 ≤ px_w F p (E v - p) ∧ px_w F p (E v - p) ≤ 70000 := by
    unfold px_w
    split
    · omega
    split <;> omega
  refine ct_of (L := [.ref 3, .int (iI p), .int (iI (E v - p)), .int (iI (O v)), .retAddr 0, .retAddr 0, .retAddr 0]) (by decide +kernel) (Nat.le_of_ble_eq_true rfl) rfl ?_
  refine wp_iload_n dc_L_readBox_0 rfl rfl (wi_iconst dc_L_readBox_1 ?_)
  refine wi_ic_ge dc_L_readBox_2 rfl (fun hc => ?_) (fun hc => ?_)
  rotate_left
  · refine wi_iconst dc_L_readBox_5 ?_
    refine wp_ireturn dc_L_readBox_6 rfl rfl (hN (by rw [hpw, if_pos (by omega)]))
  suffices K28 : wp_m l Y_L_readBox none 0 0 28 [.ref 3, .int (iI p), .int (iI (E v - p)), .int (iI (O v)), .int (iI (F p)), .retAddr 0, .retAddr 0] [.int (iI (px_h F p))] (hp_ σ) K by
    refine wp_aload_n dc_L_readBox_7 rfl rfl (wi_getR dc_L_readBox_8 lf_L_9 sh_3 rfl (wp_iload_n dc_L_readBox_11 rfl rfl ?_))
    refine wp_callV (As := [_]) dc_L_readBox_12 lm_L_52 ls_B_at (by decide) rfl rfl (hp_at _ sh_1) rfl rfl (Nat.le_of_ble_eq_true rfl) (Nat.le_refl _) (Nat.le_refl _) ?_
    refine c_B_at by_1 (by omega) (by omega) ⟨by omega, by omega⟩ ?_
    rw [a3, at_in (by omega) (by omega), show σ (1 + 1) p = σ 2 p from rfl, a4 p (by omega) (by omega)]
    refine wp_is4 dc_L_readBox_15 (wp_iload dc_L_readBox_17 rfl (wi_iconst dc_L_readBox_19 ?_))
    refine wi_ic_ne dc_L_readBox_20 rfl (fun hd => ?_) (fun hd => ?_)
    · rw [show px_h F p = 2 from if_neg hd] at K28
      refine wi_iconst dc_L_readBox_27 ?_
      exact K28
    · rw [show px_h F p = 4 from if_pos hd] at K28
      refine wi_iconst dc_L_readBox_23 (wp_goto dc_L_readBox_24 rfl ?_)
      exact K28
  refine wp_is5 dc_L_readBox_28 (wp_iload_n dc_L_readBox_30 rfl rfl (wp_iload dc_L_readBox_31 rfl ?_))
  refine wi_ic_lt dc_L_readBox_33 rfl (fun hd => ?_) (fun hd => ?_)
  · refine wi_iconst dc_L_readBox_46 ?_
    refine wp_ireturn dc_L_readBox_47 rfl rfl (hN (by rw [hpw, if_neg (by omega), if_pos (Or.inl hd)]))
  suffices K48 : ¬ (F p = 0 ∧ 0 < v) → wp_m l Y_L_readBox none 0 0 48 [.ref 3, .int (iI p), .int (iI (E v - p)), .int (iI (O v)), .int (iI (F p)), .int (iI (px_h F p)), .retAddr 0] [] (hp_ σ) K by
    refine wp_iload dc_L_readBox_36 rfl ?_
    refine wi_if_ne dc_L_readBox_38 rfl (fun he => ?_) (fun he => ?_)
    · exact K48 (by omega)
    · refine wp_iload_n dc_L_readBox_41 rfl rfl (wi_iconst dc_L_readBox_42 ?_)
      have hk20 : k < 20 := hk1
      refine wi_ic_eq dc_L_readBox_43 rfl (fun hf => ?_) (fun hf => ?_)
      · exact K48 (by omega)
      · refine wi_iconst dc_L_readBox_46 ?_
        refine wp_ireturn dc_L_readBox_47 rfl rfl (hN (by rw [hpw, if_neg (by omega), if_pos (Or.inr ⟨he, by omega⟩)]))
  intro hz
  suffices K81 : wp_m l Y_L_readBox none 0 0 81 [.ref 3, .int (iI p), .int (iI (E v - p)), .int (iI (O v)), .int (iI (F p)), .int (iI (px_h F p)), .int (iI (px_w F p (E v - p)))] [] (hp_ σ) K by
    refine wp_iload dc_L_readBox_48 rfl (wp_is6 dc_L_readBox_50 (wp_iload dc_L_readBox_52 rfl (wi_iconst dc_L_readBox_54 ?_)))
    refine wi_ic_ne dc_L_readBox_55 rfl (fun he => ?_) (fun he => ?_)
    · refine wp_iload dc_L_readBox_73 rfl ?_
      refine wi_if_ne dc_L_readBox_75 rfl (fun hf => ?_) (fun hf => ?_)
      · rw [show px_w F p (E v - p) = F p by unfold px_w; rw [if_neg hf, if_neg he]] at K81
        exact K81
      · rw [show px_w F p (E v - p) = E v - p by unfold px_w; rw [if_pos hf]] at K81
        refine wp_iload_n dc_L_readBox_78 rfl rfl (wp_is6 dc_L_readBox_79 ?_)
        exact K81
    · have h4 : px_h F p = 4 := if_pos he
      rw [show px_w F p (E v - p) = F (p + 2) * 256 + F (p + 2 + 1) by unfold px_w; rw [if_neg (by omega), if_pos he, show p + 2 + 1 = p + 3 by omega]; omega] at K81
      refine wp_aload_n dc_L_readBox_58 rfl rfl (wi_getR dc_L_readBox_59 lf_L_9 sh_3 rfl (wp_iload_n dc_L_readBox_62 rfl rfl (wi_iconst dc_L_readBox_63 (wi_iadd dc_L_readBox_64 ?_))))
      refine wp_callV (As := [_]) dc_L_readBox_65 lm_L_55 ls_B_pairAt (by decide) rfl rfl (hp_at _ sh_1) rfl rfl (Nat.le_of_ble_eq_true rfl) (Nat.le_refl _) (Nat.le_refl _) ?_
      refine c_B_pairAt by_1 (by omega) (by omega) (by omega) (by omega) ?_
      rw [show σ (1 + 1) (p + 2) = σ 2 (p + 2) from rfl, show σ (1 + 1) (p + 2 + 1) = σ 2 (p + 2 + 1) from rfl, a4 (p + 2) (by omega) (by omega), a4 (p + 2 + 1) (by omega) (by omega)]
      refine wp_is6 dc_L_readBox_68 (wp_goto dc_L_readBox_70 rfl ?_)
      exact K81
  refine wp_iload dc_L_readBox_81 rfl (wp_iload dc_L_readBox_83 rfl ?_)
  refine wi_ic_lt dc_L_readBox_85 rfl (fun he => ?_) (fun he => ?_)
  · refine wi_iconst dc_L_readBox_94 ?_
    refine wp_ireturn dc_L_readBox_95 rfl rfl (hN (by rw [hpw, if_neg (by omega), if_neg (by omega), if_pos (Or.inl he)]))
  · refine wp_iload dc_L_readBox_88 rfl (wp_iload_n dc_L_readBox_90 rfl rfl ?_)
    refine wi_ic_le dc_L_readBox_91 rfl (fun hf => ?_) (fun hf => ?_)
    rotate_left
    · refine wi_iconst dc_L_readBox_94 ?_
      refine wp_ireturn dc_L_readBox_95 rfl rfl (hN (by rw [hpw, if_neg (by omega), if_neg (by omega), if_pos (Or.inr (by omega))]))
    · have hk2 := hS (px_w F p (E v - p)) (px_h F p) (by rw [hpw, if_neg (by omega), if_neg (by omega), if_neg (by omega)])
      refine wp_aload_n dc_L_readBox_96 rfl rfl (wp_iload_n dc_L_readBox_97 rfl rfl (wp_iload dc_L_readBox_98 rfl (wp_iload dc_L_readBox_100 rfl (wp_iload_n dc_L_readBox_102 rfl rfl ?_))))
      refine wp_callV (As := [_, _, _, _]) dc_L_readBox_103 lm_L_58 ls_L_note (by decide) rfl rfl (hp_at _ sh_3) rfl rfl (Nat.le_of_ble_eq_true rfl) (Nat.le_refl _) (Nat.le_refl _) ?_
      refine c_L_note hlo hlt hg hk1 (by omega) ?_
      refine wi_iconst dc_L_readBox_106 ?_
      refine wp_ireturn dc_L_readBox_107 rfl rfl hk2
theorem kind_hold {t : Int} {v : Nat} (hv : v ≤ 2) : (px_kind t v = 77 ∨ px_kind t v = 84) ↔ px_hold v t := by
  unfold px_kind
  split <;> omega
theorem lp_L_read {σ0 : sg_} (hlo : lo_ σ0 F n) : ∀ (j : Nat) (k p : Int) (v : Nat) (E O : Nat → Int) (T : px_T) (σ : sg_) (u1 u2 u3 : Value), u1.category = 1 → u2.category = 1 → (20 : Int) - j = k → fr_ rdL σ0 σ → lt_ σ k T → gi_ n k p v E O T →
    (∀ σ', fr_ rdL σ0 σ' → lt_ σ' (px_rd F j k p v E O T).2.1 (px_rd F j k p v E O T).2.2 → K (some (.int (iI (px_rd F j k p v E O T).1))) (hp_ σ')) →
    wp_m l Y_L_read none 0 0 11 [.ref 3, .int (iI p), .int (iI (O v)), .int (iI k), u1, u2, u3] [] (hp_ σ) K := by
  have pre : ∀ (j : Nat) (k p : Int) (v : Nat) (E O : Nat → Int) (T : px_T) (σ : sg_) (u1 u2 u3 : Value), u1.category = 1 → u2.category = 1 → (20 : Int) - j = k → fr_ rdL σ0 σ → lt_ σ k T → gi_ n k p v E O T →
      (p = E (px_pop p E v) → K (some (.int (iI 0))) (hp_ σ)) → (p ≠ E (px_pop p E v) → wp_m l Y_L_read none 0 0 54 [.ref 3, .int (iI p), .int (iI (O (px_pop p E v))), .int (iI k), .int (iI (E (px_pop p E v))), u2, u3] [] (hp_ σ) K) → wp_m l Y_L_read none 0 0 11 [.ref 3, .int (iI p), .int (iI (O v)), .int (iI k), u1, u2, u3] [] (hp_ σ) K := by
    intro j k p v E O T σ u1 u2 u3 hu1 hu2 hj hfr hlt hg hK1 hK2
    have hg' := gi_pop hg
    have hEv := gi_En hg'
    have hO' := gi_O hg'
    have hlo' := hlo.fr hfr (by unfold rdL; omega) (fun j => by unfold rdL; omega)
    obtain ⟨a1, a2, a3, a4, a5⟩ := id hlo'
    obtain ⟨g1, g2, g3, g4, g5, g6, g7, g8, g9⟩ := id hg'
    have hk := hlt.1
    refine wp_iload_n dc_L_read_11 rfl rfl (wi_bipush dc_L_read_12 ?_)
    refine wi_ic_gt dc_L_read_14 rfl (fun hd => ?_) (fun hd => ?_)
    · omega
    refine wp_aload_n dc_L_read_17 rfl rfl (wp_iload_n dc_L_read_18 rfl rfl (wp_iload_n dc_L_read_19 rfl rfl ?_))
    refine wp_callV (As := [_, _]) dc_L_read_20 lm_L_28 ls_L_openHolder (by decide) rfl rfl (hp_at _ sh_3) rfl rfl (Nat.le_of_ble_eq_true rfl) (Nat.le_refl _) (Nat.le_refl _) ?_
    refine c_L_openHolder hlt (by omega) a2 hg ?_
    refine wp_is2 dc_L_read_23 (wp_iload_n dc_L_read_24 rfl rfl (wi_iconst dc_L_read_25 ?_))
    suffices K44 : wp_m l Y_L_read none 0 0 44 [.ref 3, .int (iI p), .int (iI (O (px_pop p E v))), .int (iI k), u1, u2, u3] [.int (iI (E (px_pop p E v)))] (hp_ σ) K by
      generalize px_pop p E v = w at *
      cases w with
      | zero =>
        refine wi_ic_ne dc_L_read_26 rfl (fun he => ?_) (fun he => ?_)
        · omega
        · refine wp_aload_n dc_L_read_29 rfl rfl (wi_getR dc_L_read_30 lf_L_9 sh_3 rfl ?_)
          refine wp_callV (As := []) dc_L_read_33 lm_L_31 ls_B_size (by decide) rfl rfl (hp_at _ sh_1) rfl rfl (Nat.le_of_ble_eq_true rfl) (Nat.le_refl _) (Nat.le_refl _) ?_
          refine c_B_size by_1 ?_
          rw [a3, ← g5]
          refine wp_goto dc_L_read_36 rfl ?_
          exact K44
      | succ w =>
        have h8 := g8 w (by omega)
        refine wi_ic_ne dc_L_read_26 rfl (fun he => ?_) (fun he => ?_)
        · refine wp_aload_n dc_L_read_39 rfl rfl (wp_iload_n dc_L_read_40 rfl rfl ?_)
          refine wp_callV (As := [_]) dc_L_read_41 lm_L_37 ls_L_endOf (by decide) rfl rfl (hp_at _ sh_3) rfl rfl (Nat.le_of_ble_eq_true rfl) (Nat.le_refl _) (Nat.le_refl _) ?_
          refine c_L_endOf (by omega) (by omega) ⟨by omega, by omega⟩ ?_
          rw [hk, at_in (by omega) (by omega), show σ 5 (O (w + 1)) = _ from hlt.2.1 0 (O (w + 1)) (by decide) (by omega) (by omega), show σ 6 (O (w + 1)) = _ from hlt.2.1 1 (O (w + 1)) (by decide) (by omega) (by omega), h8.2.2.2.2.1]
          exact K44
        · omega
    refine wp_is4 dc_L_read_44 (wp_iload_n dc_L_read_46 rfl rfl (wp_iload dc_L_read_47 rfl ?_))
    refine wi_ic_lt dc_L_read_49 rfl (fun he => ?_) (fun he => ?_)
    · exact hK2 (by omega)
    · refine wi_iconst dc_L_read_52 ?_
      refine wp_ireturn dc_L_read_53 rfl rfl (hK1 (by omega))
  intro j
  induction j with
  | zero =>
    intro k p v E O T σ u1 u2 u3 hu1 hu2 hj hfr hlt hg hK
    unfold px_rd at hK
    have hk := hlt.1
    refine pre 0 k p v E O T σ u1 u2 u3 hu1 hu2 hj hfr hlt hg (fun he => ?_) (fun he => ?_)
    · rw [if_pos he] at hK
      exact hK σ hfr hlt
    · rw [if_neg he] at hK
      refine wp_aload_n dc_L_read_54 rfl rfl (wi_getE 2 (k) dc_L_read_55 lf_L_20 sh_3 rfl rfl hk (wi_bipush dc_L_read_58 ?_))
      refine wi_ic_lt dc_L_read_60 rfl (fun hf => ?_) (fun hf => ?_)
      · omega
      · refine wi_iconst dc_L_read_63 ?_
        refine wp_ireturn dc_L_read_64 rfl rfl (hK σ hfr hlt)
  | succ j ih =>
    intro k p v E O T σ u1 u2 u3 hu1 hu2 hj hfr hlt hg hK
    unfold px_rd at hK
    have hk := hlt.1
    refine pre (j + 1) k p v E O T σ u1 u2 u3 hu1 hu2 hj hfr hlt hg (fun he => ?_) (fun he => ?_)
    · rw [if_pos he] at hK
      exact hK σ hfr hlt
    rw [if_neg he] at hK
    have hg' := gi_pop hg
    have hlo' := hlo.fr hfr (by unfold rdL; omega) (fun j => by unfold rdL; omega)
    obtain ⟨a1, a2, a3, a4, a5⟩ := id hlo'
    obtain ⟨g1, g2, g3, g4, g5, g6, g7, g8, g9⟩ := id hg'
    have hEv := gi_En hg'
    have hO' := gi_O hg'
    generalize hw : px_pop p E v = w at *
    refine wp_aload_n dc_L_read_54 rfl rfl (wi_getE 2 (k) dc_L_read_55 lf_L_20 sh_3 rfl rfl hk (wi_bipush dc_L_read_58 ?_))
    refine wi_ic_lt dc_L_read_60 rfl (fun hf => ?_) (fun hf => ?_)
    rotate_left
    · omega
    refine wp_aload_n dc_L_read_65 rfl rfl (wp_iload_n dc_L_read_66 rfl rfl (wp_iload dc_L_read_67 rfl (wp_iload_n dc_L_read_69 rfl rfl (wi_isub dc_L_read_70 (wp_iload_n dc_L_read_71 rfl rfl ?_)))))
    refine wp_callV (As := [_, _, _]) dc_L_read_72 lm_L_41 ls_L_readBox (by decide) rfl rfl (hp_at _ sh_3) rfl rfl (Nat.le_of_ble_eq_true rfl) (Nat.le_refl _) (Nat.le_refl _) ?_
    refine c_L_readBox hlo' hlt hg' (by omega) (fun ho => ?_) (fun s h ho => ?_)
    · rw [ho] at hK
      refine wi_if_ne dc_L_read_75 rfl (fun hx => ?_) (fun hx => ?_)
      · omega
      · refine wi_iconst dc_L_read_78 ?_
        refine wp_ireturn dc_L_read_79 rfl rfl (hK σ hfr hlt)
    · rw [ho] at hK
      dsimp only at hK
      obtain ⟨o1, o2, o3, o4, o5, o6, o7, o8⟩ := one_spec ho
      have hlt1 := s2_lt (a := p) (s := s) (t := F (p + 1)) (h := h) (v := w) (o := O w) hlt
      have hfr1 := hfr.tr (s2_fr σ k p s (F (p + 1)) h w (O w) (px_kind (F (p + 1)) w))
      have hk1 := hlt1.1
      have t0 := hlt1.2.1 0 k (by decide) g1 (by omega)
      have t1 := hlt1.2.1 1 k (by decide) g1 (by omega)
      have t3 := hlt1.2.1 3 k (by decide) g1 (by omega)
      have t6 := hlt1.2.2 k g1 (by omega)
      rw [put_0] at t0
      rw [put_1] at t1
      rw [put_3] at t3
      rw [put_2, put_4] at t6
      have hF1 := a5 (p + 1)
      have hkr : rg (px_kind (F (p + 1)) w) := by
        unfold px_kind
        split <;> (constructor <;> omega)
      generalize s2_ σ k p s (F (p + 1)) h w (O w) (px_kind (F (p + 1)) w) = σ1 at *
      refine wi_if_ne dc_L_read_75 rfl (fun hx => ?_) (fun hx => ?_)
      rotate_left
      · omega
      refine wp_aload_n dc_L_read_80 rfl rfl (wi_getE 2 (k + 1) dc_L_read_81 lf_L_20 sh_3 rfl rfl hk1 (wi_iconst dc_L_read_84 (wi_isub dc_L_read_85 (wp_is5 dc_L_read_86 (wp_aload_n dc_L_read_88 rfl rfl (wp_iload dc_L_read_89 rfl ?_))))))
      rw [show k + 1 - 1 = k by omega]
      refine wp_callV (As := [_]) dc_L_read_91 lm_L_45 ls_L_holdsBoxes (by decide) rfl rfl (hp_at _ sh_3) rfl rfl (Nat.le_of_ble_eq_true rfl) (Nat.le_refl _) (Nat.le_refl _) ?_
      refine c_L_holdsBoxes (by omega) (by omega) g1 (by omega) (by rw [t6]; exact hkr) ?_
      rw [t6]
      by_cases hh : px_hold w (F (p + 1))
      · rw [if_pos hh] at hK
        rw [if_pos ((kind_hold g2).mpr hh)]
        have hgn := gi_hold a5 hg' ho hh
        refine wp_is6 dc_L_read_94 (wp_iload dc_L_read_96 rfl ?_)
        refine wi_if_eq dc_L_read_98 rfl (fun hy => ?_) (fun hy => ?_)
        · omega
        refine wp_iload dc_L_read_101 rfl (wp_goto dc_L_read_103 rfl (wp_is2 dc_L_read_107 (wp_iload dc_L_read_108 rfl ?_)))
        refine wi_if_eq dc_L_read_110 rfl (fun hz => ?_) (fun hz => ?_)
        · omega
        refine wp_aload_n dc_L_read_113 rfl rfl (wp_iload dc_L_read_114 rfl ?_)
        refine wp_callV (As := [_]) dc_L_read_116 lm_L_49 ls_L_payloadOf (by decide) rfl rfl (hp_at _ sh_3) rfl rfl (Nat.le_of_ble_eq_true rfl) (Nat.le_refl _) (Nat.le_refl _) ?_
        refine c_L_payloadOf (by omega) (by omega) ⟨by omega, by omega⟩ ?_
        rw [hk1, at_in (by omega) (by omega), show σ1 5 k = p from t0, show σ1 8 k = h from t3]
        refine wp_goto dc_L_read_119 rfl (wp_is1 dc_L_read_128 (wp_ii3 dc_L_read_129 (wp_goto dc_L_read_132 rfl ?_)))
        have e1 : k = px_upN O (w + 1) k (w + 1) := (upN_s O (w + 1) k).symm
        have ih' := ih (k + 1) (p + h) (w + 1) _ _ _ σ1 (.int (iI (E w))) (.int (iI k)) (.int (iI 1)) rfl rfl (by omega) hfr1 hlt1 hgn hK
        rw [upN_s] at ih'
        exact ih'
      · rw [if_neg hh] at hK
        rw [if_neg (fun q => hh ((kind_hold g2).mp q))]
        refine wp_is6 dc_L_read_94 (wp_iload dc_L_read_96 rfl ?_)
        refine wi_if_eq dc_L_read_98 rfl (fun hy => ?_) (fun hy => ?_)
        rotate_left
        · omega
        refine wp_iload_n dc_L_read_106 rfl rfl (wp_is2 dc_L_read_107 (wp_iload dc_L_read_108 rfl ?_))
        refine wi_if_eq dc_L_read_110 rfl (fun hz => ?_) (fun hz => ?_)
        rotate_left
        · omega
        refine wp_aload_n dc_L_read_122 rfl rfl (wp_iload dc_L_read_123 rfl ?_)
        refine wp_callV (As := [_]) dc_L_read_125 lm_L_37 ls_L_endOf (by decide) rfl rfl (hp_at _ sh_3) rfl rfl (Nat.le_of_ble_eq_true rfl) (Nat.le_refl _) (Nat.le_refl _) ?_
        refine c_L_endOf (by omega) (by omega) ⟨by omega, by omega⟩ ?_
        rw [hk1, at_in (by omega) (by omega), show σ1 5 k = p from t0, show σ1 6 k = s from t1]
        refine wp_is1 dc_L_read_128 (wp_ii3 dc_L_read_129 (wp_goto dc_L_read_132 rfl ?_))
        exact ih (k + 1) (p + s) w E O _ σ1 (.int (iI (E w))) (.int (iI k)) (.int (iI 0)) rfl rfl (by omega) hfr1 hlt1 (gi_put a5 hg' ho) hK
theorem c_L_read (hlo : lo_ σ F n) (hK : ∀ σ', fr_ rdL σ σ' → lt_ σ' (px_ F n).2.1 (px_ F n).2.2 → K (some (.int (iI (px_ F n).1))) (hp_ σ')) : ct_m l Y_L_read 0 0 [.ref 3] (hp_ σ) K := by
  refine ct_of (L := [.ref 3, .retAddr 0, .retAddr 0, .retAddr 0, .retAddr 0, .retAddr 0, .retAddr 0]) (by decide +kernel) (Nat.le_of_ble_eq_true rfl) rfl ?_
  refine wp_aload_n dc_L_read_0 rfl rfl (wi_iconst dc_L_read_1 (wi_putI 2 dc_L_read_2 lf_L_20 sh_3 rfl rfl pv_int (wi_iconst dc_L_read_5 (wp_is1 dc_L_read_6 (wi_iconst dc_L_read_7 (wp_is2 dc_L_read_8 (wi_iconst dc_L_read_9 (wp_is3 dc_L_read_10 ?_))))))))
  refine lp_L_read (n := n) hlo 20 0 0 0 (fun _ => n) (fun _ => -1) (fun _ _ => 0) _ _ _ _ rfl rfl (by omega) (fr_.rf.up ?_) ⟨?_, fun c i _ h0 h1 => by omega, fun i h0 h1 => by omega⟩ (gi_0 hlo.1) hK
  · unfold rdL; omega
  · simp [up_]
end RM
end
section
/-! how the boxes of a reading lie: holders, levels, places -/
def MV_ (T : px_T) (j : Int) : Prop := T 4 j = 0 ∧ T 2 j = 77
def TK_ (T : px_T) (j : Int) : Prop := T 4 j = 1 ∧ T 2 j = 84
def l1_ (T : px_T) (j o : Int) : Prop := 0 ≤ o ∧ o < j ∧ MV_ T o ∧ ∀ i, o < i → i < j → 1 ≤ T 4 i
def l2_ (T : px_T) (j o : Int) : Prop := 0 ≤ o ∧ o < j ∧ TK_ T o ∧ ∀ i, o < i → i < j → T 4 i = 2
def sx_ (T : px_T) (j : Int) : Prop := (T 4 j = 0 → T 5 j = -1) ∧ (T 4 j = 1 → l1_ T j (T 5 j)) ∧ (T 4 j = 2 → l2_ T j (T 5 j))
def si_ (k p : Int) (v : Nat) (E O : Nat → Int) (T : px_T) : Prop := (1 ≤ v → l1_ T k (O 1)) ∧ (2 ≤ v → l2_ T k (O 2)) ∧ (∀ j, 0 ≤ j → j < k → sx_ T j) ∧ (∀ i, 0 ≤ i → i < k → T 4 i = 0 → T 0 i + T 1 i ≤ (if v = 0 then p else E 1)) ∧ (∀ i j, 0 ≤ i → i < j → j < k → T 4 i = 0 → T 4 j = 0 → T 0 i + T 1 i ≤ T 0 j)
theorem l1_put {T : px_T} {k a s t h v o j x : Int} (hj : j ≤ k) : l1_ (px_put T k a s t h v o) j x ↔ l1_ T j x := by
  unfold l1_ MV_
  constructor
  · rintro ⟨h1, h2, h3, h4⟩
    rw [put_ne T (by omega), put_ne T (by omega)] at h3
    exact ⟨h1, h2, h3, fun i i0 i1 => by have := h4 i i0 i1; rwa [put_ne T (by omega)] at this⟩
  · rintro ⟨h1, h2, h3, h4⟩
    rw [put_ne T (by omega), put_ne T (by omega)]
    exact ⟨h1, h2, h3, fun i i0 i1 => by rw [put_ne T (by omega)]; exact h4 i i0 i1⟩
theorem l2_put {T : px_T} {k a s t h v o j x : Int} (hj : j ≤ k) : l2_ (px_put T k a s t h v o) j x ↔ l2_ T j x := by
  unfold l2_ TK_
  constructor
  · rintro ⟨h1, h2, h3, h4⟩
    rw [put_ne T (by omega), put_ne T (by omega)] at h3
    exact ⟨h1, h2, h3, fun i i0 i1 => by have := h4 i i0 i1; rwa [put_ne T (by omega)] at this⟩
  · rintro ⟨h1, h2, h3, h4⟩
    rw [put_ne T (by omega), put_ne T (by omega)]
    exact ⟨h1, h2, h3, fun i i0 i1 => by rw [put_ne T (by omega)]; exact h4 i i0 i1⟩
theorem sx_put {T : px_T} {k a s t h v o j : Int} (hj : j < k) : sx_ (px_put T k a s t h v o) j ↔ sx_ T j := by
  unfold sx_
  rw [put_ne T (by omega), put_ne T (by omega), l1_put (by omega), l2_put (by omega)]
theorem si_pop {n k p : Int} {v : Nat} {E O : Nat → Int} {T : px_T} (hg : gi_ n k p v E O T) (h : si_ k p v E O T) : si_ k p (px_pop p E v) E O T := by
  obtain ⟨h1, h2, h3, h4, h5⟩ := h
  have hle := px_pop_le p E v
  refine ⟨fun q => h1 (by omega), fun q => h2 (by omega), h3, fun i i0 i1 i2 => ?_, h5⟩
  have h6 := h4 i i0 i1 i2
  obtain ⟨-, g2, -, g4, -⟩ := hg
  match v, g2, hle with
  | 0, _, _ => exact h6
  | 1, _, _ =>
    rw [if_neg (by decide)] at h6
    unfold px_pop
    by_cases hp : p = E (0 + 1)
    · rw [if_pos hp]
      show _ ≤ p
      rw [hp]
      exact h6
    · rw [if_neg hp]
      exact h6
  | 2, _, _ =>
    rw [if_neg (by decide)] at h6
    unfold px_pop
    by_cases hp : p = E (1 + 1)
    · rw [if_pos hp]
      unfold px_pop
      by_cases hp2 : p = E (0 + 1)
      · rw [if_pos hp2]
        show _ ≤ p
        rw [hp2]
        exact h6
      · rw [if_neg hp2]
        exact h6
    · rw [if_neg hp]
      exact h6
theorem si_put {F : Int → Int} {n k p : Int} {v : Nat} {E O : Nat → Int} {T : px_T} {s h : Int} (hg : gi_ n k p v E O T) (hs : si_ k p v E O T) (ho : px_one F p (E v - p) v = some (s, h)) : si_ (k + 1) (p + s) v E O (px_put T k p s (F (p + 1)) h v (O v)) := by
  obtain ⟨h1, h2, h3, h4, h5⟩ := hs
  obtain ⟨g1, g2, g3, g4, g5, g6, g7, g8, g9⟩ := id hg
  obtain ⟨o1, o2, o3, o4, o5, o6, o7, o8⟩ := one_spec ho
  have e4 : px_put T k p s (F (p + 1)) h v (O v) 4 k = v := put_4 T
  have e5 : px_put T k p s (F (p + 1)) h v (O v) 5 k = O v := put_5 T
  refine ⟨fun q => ?_, fun q => ?_, fun j j0 j1 => ?_, fun i i0 i1 i2 => ?_, fun i j i0 i1 i2 i3 i4 => ?_⟩
  · obtain ⟨a1, a2, a3, a4⟩ := (l1_put (Int.le_refl k)).mpr (h1 q)
    exact ⟨a1, by omega, a3, fun i i0 i1 => by
      by_cases hi : i = k
      · subst hi; rw [e4]; omega
      · exact a4 i i0 (by omega)⟩
  · obtain ⟨a1, a2, a3, a4⟩ := (l2_put (Int.le_refl k)).mpr (h2 q)
    exact ⟨a1, by omega, a3, fun i i0 i1 => by
      by_cases hi : i = k
      · subst hi; rw [e4]; omega
      · exact a4 i i0 (by omega)⟩
  · by_cases hj : j = k
    · subst hj
      refine ⟨fun q => ?_, fun q => ?_, fun q => ?_⟩
      · rw [e4] at q
        have hv : v = 0 := by omega
        subst hv
        rw [e5]; exact g6
      · rw [e4] at q
        have hv : v = 1 := by omega
        subst hv
        rw [e5]
        exact (l1_put (Int.le_refl _)).mpr (h1 (by omega))
      · rw [e4] at q
        have hv : v = 2 := by omega
        subst hv
        rw [e5]
        exact (l2_put (Int.le_refl _)).mpr (h2 (by omega))
    · exact (sx_put (by omega)).mpr (h3 j j0 (by omega))
  · by_cases hi : i = k
    · subst hi
      rw [e4] at i2
      have hv : v = 0 := by omega
      subst hv
      rw [put_0, put_1, if_pos rfl]
      omega
    · rw [put_ne T hi] at i2
      rw [put_ne T hi, put_ne T hi]
      have h6 := h4 i i0 (by omega) i2
      by_cases hv : v = 0
      · rw [if_pos hv] at h6 ⊢
        omega
      · rw [if_neg hv] at h6 ⊢
        exact h6
  · rw [put_ne T (show i ≠ k by omega)] at i3
    by_cases hj : j = k
    · subst hj
      rw [e4] at i4
      have hv : v = 0 := by omega
      subst hv
      rw [put_0, put_ne T (by omega), put_ne T (by omega)]
      have h6 := h4 i i0 (by omega) i3
      rw [if_pos rfl] at h6
      exact h6
    · rw [put_ne T hj] at i4 ⊢
      rw [put_ne T (by omega), put_ne T (by omega)]
      exact h5 i j i0 i1 (by omega) i3 i4
theorem si_hold {F : Int → Int} {n k p : Int} {v : Nat} {E O : Nat → Int} {T : px_T} {s h : Int} (hg : gi_ n k p v E O T) (hs : si_ k p v E O T) (ho : px_one F p (E v - p) v = some (s, h)) (hh : px_hold v (F (p + 1))) : si_ (k + 1) (p + h) (v + 1) (px_upN E (v + 1) (p + s)) (px_upN O (v + 1) k) (px_put T k p s (F (p + 1)) h v (O v)) := by
  obtain ⟨b1, b2, b3, b4, b5⟩ := si_put hg hs ho
  obtain ⟨o1, o2, o3, o4, o5, o6, o7, o8⟩ := one_spec ho
  have g1 := hg.1
  have e4 : px_put T k p s (F (p + 1)) h v (O v) 4 k = v := put_4 T
  have e2 : px_put T k p s (F (p + 1)) h v (O v) 2 k = F (p + 1) := put_2 T
  rcases hh with ⟨hv, ht⟩ | ⟨hv, ht⟩
  · subst hv
    refine ⟨fun _ => ?_, fun q => by omega, b3, fun i i0 i1 i2 => ?_, b5⟩
    · rw [upN_s]
      exact ⟨g1, by omega, ⟨e4, by rw [e2]; exact ht⟩, fun i i0 i1 => by omega⟩
    · rw [if_neg (by omega), upN_s]
      have h6 := b4 i i0 i1 i2
      rw [if_pos rfl] at h6
      exact h6
  · subst hv
    refine ⟨fun _ => ?_, fun _ => ?_, b3, fun i i0 i1 i2 => ?_, b5⟩
    · rw [upN_n _ _ (by decide)]
      exact b1 (by decide)
    · rw [upN_s]
      exact ⟨g1, by omega, ⟨e4, by rw [e2]; exact ht⟩, fun i i0 i1 => by omega⟩
    · rw [if_neg (by omega), upN_n _ _ (by decide)]
      have h6 := b4 i i0 i1 i2
      rw [if_neg (by decide)] at h6
      exact h6
theorem rd_struct {F : Int → Int} {n : Int} (hF : ∀ i, 0 ≤ F i ∧ F i < 256) : ∀ (j : Nat) (k p : Int) (v : Nat) (E O : Nat → Int) (T : px_T), gi_ n k p v E O T → si_ k p v E O T → (∀ i, 0 ≤ i → i < (px_rd F j k p v E O T).2.1 → sx_ (px_rd F j k p v E O T).2.2 i) ∧ ∀ a b, 0 ≤ a → a < b → b < (px_rd F j k p v E O T).2.1 → (px_rd F j k p v E O T).2.2 4 a = 0 → (px_rd F j k p v E O T).2.2 4 b = 0 → (px_rd F j k p v E O T).2.2 0 a + (px_rd F j k p v E O T).2.2 1 a ≤ (px_rd F j k p v E O T).2.2 0 b := by
  intro j
  induction j with
  | zero =>
    intro k p v E O T hg hs
    unfold px_rd
    split
    · exact ⟨hs.2.2.1, hs.2.2.2.2⟩
    · exact ⟨hs.2.2.1, hs.2.2.2.2⟩
  | succ j ih =>
    intro k p v E O T hg hs
    have hg1 := gi_pop hg
    have hs1 := si_pop hg hs
    unfold px_rd
    split
    · exact ⟨hs.2.2.1, hs.2.2.2.2⟩
    · split
      · exact ⟨hs.2.2.1, hs.2.2.2.2⟩
      · rename_i s h ho
        split
        · rename_i hh
          exact ih _ _ _ _ _ _ (gi_hold hF hg1 ho hh) (si_hold hg1 hs1 ho hh)
        · exact ih _ _ _ _ _ _ (gi_put hF hg1 ho) (si_put hg1 hs1 ho)
/-- all that is kept of a reading: N boxes, T -/
def tt_ (n N : Int) (T : px_T) : Prop := 0 ≤ N ∧ N ≤ 20 ∧ (∀ i, 0 ≤ i → i < N → bx_ n T i) ∧ (∀ i, 0 ≤ i → i < N → sx_ T i) ∧ ∀ a b, 0 ≤ a → a < b → b < N → T 4 a = 0 → T 4 b = 0 → T 0 a + T 1 a ≤ T 0 b
theorem px_tt {F : Int → Int} {n : Int} (hF : ∀ i, 0 ≤ F i ∧ F i < 256) (hn : 0 ≤ n) : tt_ n (px_ F n).2.1 (px_ F n).2.2 := by
  obtain ⟨a1, a2, a3, a4⟩ := px_good hF hn
  obtain ⟨b1, b2⟩ := rd_struct hF 20 0 0 0 (fun _ => n) (fun _ => -1) (fun _ _ => 0) (gi_0 hn) ⟨fun q => by omega, fun q => by omega, fun j h1 h2 => by omega, fun i h1 h2 => by omega, fun i j h1 h2 h3 => by omega⟩
  exact ⟨a1, a2, a4, b1, b2⟩
end
