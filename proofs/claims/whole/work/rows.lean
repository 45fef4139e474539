section
-- ===== PART A: goes FIRST, ahead of the names: the tables' words, and 'selects' of the private methods out of them =====
/-- a private method of a class that the tables say can be made, by its rows of tables_1 -/
def lw_okq (q : MethodName × Nat) : Prop := (q.1.cls ≠ "java/lang/invoke/MethodHandle" ∧ q.1.cls ≠ "java/lang/invoke/VarHandle") ∧ Cond.instantiable q.1.cls q.2 ∈ tables_1 ∧ Cond.privateMethod q.1 ∈ tables_1 ∧ Cond.instanceMethod q.1 ∈ tables_1
theorem lw_p0 : lw_okq (⟨"MovieBoxes", "look", "()V"⟩, 7) := ⟨⟨by decide +kernel, by decide +kernel⟩, List.mem_of_getElem? (i := 11) (by decide +kernel), List.mem_of_getElem? (i := 242) (by decide +kernel), List.mem_of_getElem? (i := 243) (by decide +kernel)⟩
theorem lw_p1 : lw_okq (⟨"MovieBoxes$Layout", "openHolder", "(II)I"⟩, 3) := ⟨⟨by decide +kernel, by decide +kernel⟩, List.mem_of_getElem? (i := 33) (by decide +kernel), List.mem_of_getElem? (i := 250) (by decide +kernel), List.mem_of_getElem? (i := 251) (by decide +kernel)⟩
theorem lw_p2 : lw_okq (⟨"MovieBoxes$Layout", "readBox", "(III)Z"⟩, 3) := ⟨⟨by decide +kernel, by decide +kernel⟩, List.mem_of_getElem? (i := 33) (by decide +kernel), List.mem_of_getElem? (i := 263) (by decide +kernel), List.mem_of_getElem? (i := 264) (by decide +kernel)⟩
theorem lw_p3 : lw_okq (⟨"MovieBoxes$Layout", "note", "(IIII)V"⟩, 3) := ⟨⟨by decide +kernel, by decide +kernel⟩, List.mem_of_getElem? (i := 33) (by decide +kernel), List.mem_of_getElem? (i := 272) (by decide +kernel), List.mem_of_getElem? (i := 273) (by decide +kernel)⟩
theorem lw_p4 : lw_okq (⟨"MovieBoxes$Layout", "countIn", "(II)I"⟩, 3) := ⟨⟨by decide +kernel, by decide +kernel⟩, List.mem_of_getElem? (i := 33) (by decide +kernel), List.mem_of_getElem? (i := 294) (by decide +kernel), List.mem_of_getElem? (i := 295) (by decide +kernel)⟩
theorem lw_p5 : lw_okq (⟨"MovieBoxes$Layout", "trackKindsHold", "(I)Z"⟩, 3) := ⟨⟨by decide +kernel, by decide +kernel⟩, List.mem_of_getElem? (i := 33) (by decide +kernel), List.mem_of_getElem? (i := 302) (by decide +kernel), List.mem_of_getElem? (i := 303) (by decide +kernel)⟩
theorem lw_p6 : lw_okq (⟨"MovieBoxes", "bindTracks", "()V"⟩, 7) := ⟨⟨by decide +kernel, by decide +kernel⟩, List.mem_of_getElem? (i := 11) (by decide +kernel), List.mem_of_getElem? (i := 306) (by decide +kernel), List.mem_of_getElem? (i := 307) (by decide +kernel)⟩
theorem lw_p7 : lw_okq (⟨"MovieBoxes", "tableFault", "()I"⟩, 7) := ⟨⟨by decide +kernel, by decide +kernel⟩, List.mem_of_getElem? (i := 11) (by decide +kernel), List.mem_of_getElem? (i := 337) (by decide +kernel), List.mem_of_getElem? (i := 338) (by decide +kernel)⟩
theorem lw_p8 : lw_okq (⟨"MovieBoxes$Track", "everyChunkRowHasSamples", "()Z"⟩, 10) := ⟨⟨by decide +kernel, by decide +kernel⟩, List.mem_of_getElem? (i := 52) (by decide +kernel), List.mem_of_getElem? (i := 366) (by decide +kernel), List.mem_of_getElem? (i := 367) (by decide +kernel)⟩
theorem lw_p9 : lw_okq (⟨"MovieBoxes$Track", "chunkRowsMeetChunks", "()Z"⟩, 10) := ⟨⟨by decide +kernel, by decide +kernel⟩, List.mem_of_getElem? (i := 52) (by decide +kernel), List.mem_of_getElem? (i := 386) (by decide +kernel), List.mem_of_getElem? (i := 387) (by decide +kernel)⟩
theorem lw_p10 : lw_okq (⟨"MovieBoxes$Track", "samplesInChunks", "()I"⟩, 10) := ⟨⟨by decide +kernel, by decide +kernel⟩, List.mem_of_getElem? (i := 52) (by decide +kernel), List.mem_of_getElem? (i := 390) (by decide +kernel), List.mem_of_getElem? (i := 391) (by decide +kernel)⟩
theorem lw_p11 : lw_okq (⟨"MovieBoxes$Track", "syncsStayWithin", "(I)Z"⟩, 10) := ⟨⟨by decide +kernel, by decide +kernel⟩, List.mem_of_getElem? (i := 52) (by decide +kernel), List.mem_of_getElem? (i := 394) (by decide +kernel), List.mem_of_getElem? (i := 395) (by decide +kernel)⟩
theorem lw_p12 : lw_okq (⟨"MovieBoxes$Track", "chunkRow", "(II)I"⟩, 10) := ⟨⟨by decide +kernel, by decide +kernel⟩, List.mem_of_getElem? (i := 52) (by decide +kernel), List.mem_of_getElem? (i := 402) (by decide +kernel), List.mem_of_getElem? (i := 403) (by decide +kernel)⟩
theorem lw_p13 : lw_okq (⟨"MovieBoxes$Track", "bytesOf", "(II)I"⟩, 10) := ⟨⟨by decide +kernel, by decide +kernel⟩, List.mem_of_getElem? (i := 52) (by decide +kernel), List.mem_of_getElem? (i := 414) (by decide +kernel), List.mem_of_getElem? (i := 415) (by decide +kernel)⟩
theorem lw_p14 : lw_okq (⟨"MovieBoxes$Track", "spreadDurations", "()V"⟩, 10) := ⟨⟨by decide +kernel, by decide +kernel⟩, List.mem_of_getElem? (i := 52) (by decide +kernel), List.mem_of_getElem? (i := 430) (by decide +kernel), List.mem_of_getElem? (i := 431) (by decide +kernel)⟩
theorem lw_p15 : lw_okq (⟨"MovieBoxes$Track", "spreadShifts", "()V"⟩, 10) := ⟨⟨by decide +kernel, by decide +kernel⟩, List.mem_of_getElem? (i := 52) (by decide +kernel), List.mem_of_getElem? (i := 434) (by decide +kernel), List.mem_of_getElem? (i := 435) (by decide +kernel)⟩
def lw_privs_1 : List (MethodName × Nat) := [(⟨"MovieBoxes", "look", "()V"⟩, 7), (⟨"MovieBoxes$Layout", "openHolder", "(II)I"⟩, 3), (⟨"MovieBoxes$Layout", "readBox", "(III)Z"⟩, 3), (⟨"MovieBoxes$Layout", "note", "(IIII)V"⟩, 3), (⟨"MovieBoxes$Layout", "countIn", "(II)I"⟩, 3), (⟨"MovieBoxes$Layout", "trackKindsHold", "(I)Z"⟩, 3), (⟨"MovieBoxes", "bindTracks", "()V"⟩, 7), (⟨"MovieBoxes", "tableFault", "()I"⟩, 7), (⟨"MovieBoxes$Track", "everyChunkRowHasSamples", "()Z"⟩, 10), (⟨"MovieBoxes$Track", "chunkRowsMeetChunks", "()Z"⟩, 10), (⟨"MovieBoxes$Track", "samplesInChunks", "()I"⟩, 10), (⟨"MovieBoxes$Track", "syncsStayWithin", "(I)Z"⟩, 10), (⟨"MovieBoxes$Track", "chunkRow", "(II)I"⟩, 10), (⟨"MovieBoxes$Track", "bytesOf", "(II)I"⟩, 10), (⟨"MovieBoxes$Track", "spreadDurations", "()V"⟩, 10), (⟨"MovieBoxes$Track", "spreadShifts", "()V"⟩, 10)]
theorem lw_r1 : ∀ q ∈ lw_privs_1, lw_okq q := List.forall_mem_cons.mpr ⟨lw_p0, List.forall_mem_cons.mpr ⟨lw_p1, List.forall_mem_cons.mpr ⟨lw_p2, List.forall_mem_cons.mpr ⟨lw_p3, List.forall_mem_cons.mpr ⟨lw_p4, List.forall_mem_cons.mpr ⟨lw_p5, List.forall_mem_cons.mpr ⟨lw_p6, List.forall_mem_cons.mpr ⟨lw_p7, List.forall_mem_cons.mpr ⟨lw_p8, List.forall_mem_cons.mpr ⟨lw_p9, List.forall_mem_cons.mpr ⟨lw_p10, List.forall_mem_cons.mpr ⟨lw_p11, List.forall_mem_cons.mpr ⟨lw_p12, List.forall_mem_cons.mpr ⟨lw_p13, List.forall_mem_cons.mpr ⟨lw_p14, List.forall_mem_cons.mpr ⟨lw_p15, fun _ h => absurd h List.not_mem_nil⟩⟩⟩⟩⟩⟩⟩⟩⟩⟩⟩⟩⟩⟩⟩⟩
theorem lw_p16 : lw_okq (⟨"MovieBoxes$Track", "spreadSyncs", "()V"⟩, 10) := ⟨⟨by decide +kernel, by decide +kernel⟩, List.mem_of_getElem? (i := 52) (by decide +kernel), List.mem_of_getElem? (i := 438) (by decide +kernel), List.mem_of_getElem? (i := 439) (by decide +kernel)⟩
theorem lw_p17 : lw_okq (⟨"MovieBoxes$Track", "spreadChunks", "()V"⟩, 10) := ⟨⟨by decide +kernel, by decide +kernel⟩, List.mem_of_getElem? (i := 52) (by decide +kernel), List.mem_of_getElem? (i := 442) (by decide +kernel), List.mem_of_getElem? (i := 443) (by decide +kernel)⟩
theorem lw_p18 : lw_okq (⟨"MovieBoxes", "boxesAreKnown", "()Z"⟩, 7) := ⟨⟨by decide +kernel, by decide +kernel⟩, List.mem_of_getElem? (i := 11) (by decide +kernel), List.mem_of_getElem? (i := 450) (by decide +kernel), List.mem_of_getElem? (i := 451) (by decide +kernel)⟩
theorem lw_p19 : lw_okq (⟨"MovieBoxes", "soundTrack", "(I)LMovieBoxes$Track;"⟩, 7) := ⟨⟨by decide +kernel, by decide +kernel⟩, List.mem_of_getElem? (i := 11) (by decide +kernel), List.mem_of_getElem? (i := 466) (by decide +kernel), List.mem_of_getElem? (i := 467) (by decide +kernel)⟩
theorem lw_p20 : lw_okq (⟨"MovieBoxes$Track", "mediaTime", "(I)I"⟩, 10) := ⟨⟨by decide +kernel, by decide +kernel⟩, List.mem_of_getElem? (i := 52) (by decide +kernel), List.mem_of_getElem? (i := 490) (by decide +kernel), List.mem_of_getElem? (i := 491) (by decide +kernel)⟩
theorem lw_p21 : lw_okq (⟨"MovieBoxes$Mover", "behindMovie", "()I"⟩, 8) := ⟨⟨by decide +kernel, by decide +kernel⟩, List.mem_of_getElem? (i := 137) (by decide +kernel), List.mem_of_getElem? (i := 503) (by decide +kernel), List.mem_of_getElem? (i := 504) (by decide +kernel)⟩
theorem lw_p22 : lw_okq (⟨"MovieBoxes$Mover", "settleWidths", "()V"⟩, 8) := ⟨⟨by decide +kernel, by decide +kernel⟩, List.mem_of_getElem? (i := 137) (by decide +kernel), List.mem_of_getElem? (i := 509) (by decide +kernel), List.mem_of_getElem? (i := 510) (by decide +kernel)⟩
theorem lw_p23 : lw_okq (⟨"MovieBoxes$Mover", "measure", "()V"⟩, 8) := ⟨⟨by decide +kernel, by decide +kernel⟩, List.mem_of_getElem? (i := 137) (by decide +kernel), List.mem_of_getElem? (i := 513) (by decide +kernel), List.mem_of_getElem? (i := 514) (by decide +kernel)⟩
theorem lw_p24 : lw_okq (⟨"MovieBoxes$Mover", "ownPayload", "(I)I"⟩, 8) := ⟨⟨by decide +kernel, by decide +kernel⟩, List.mem_of_getElem? (i := 137) (by decide +kernel), List.mem_of_getElem? (i := 517) (by decide +kernel), List.mem_of_getElem? (i := 518) (by decide +kernel)⟩
theorem lw_p25 : lw_okq (⟨"MovieBoxes$Mover", "rowsOf", "(I)I"⟩, 8) := ⟨⟨by decide +kernel, by decide +kernel⟩, List.mem_of_getElem? (i := 137) (by decide +kernel), List.mem_of_getElem? (i := 523) (by decide +kernel), List.mem_of_getElem? (i := 524) (by decide +kernel)⟩
theorem lw_p26 : lw_okq (⟨"MovieBoxes$Mover", "newHeader", "(I)I"⟩, 8) := ⟨⟨by decide +kernel, by decide +kernel⟩, List.mem_of_getElem? (i := 137) (by decide +kernel), List.mem_of_getElem? (i := 529) (by decide +kernel), List.mem_of_getElem? (i := 530) (by decide +kernel)⟩
theorem lw_p27 : lw_okq (⟨"MovieBoxes$Mover", "newSize", "(I)I"⟩, 8) := ⟨⟨by decide +kernel, by decide +kernel⟩, List.mem_of_getElem? (i := 137) (by decide +kernel), List.mem_of_getElem? (i := 533) (by decide +kernel), List.mem_of_getElem? (i := 534) (by decide +kernel)⟩
theorem lw_p28 : lw_okq (⟨"MovieBoxes$Mover", "widenSome", "()Z"⟩, 8) := ⟨⟨by decide +kernel, by decide +kernel⟩, List.mem_of_getElem? (i := 137) (by decide +kernel), List.mem_of_getElem? (i := 537) (by decide +kernel), List.mem_of_getElem? (i := 538) (by decide +kernel)⟩
theorem lw_p29 : lw_okq (⟨"MovieBoxes$Mover", "outgrowsBytes", "(I)Z"⟩, 8) := ⟨⟨by decide +kernel, by decide +kernel⟩, List.mem_of_getElem? (i := 137) (by decide +kernel), List.mem_of_getElem? (i := 541) (by decide +kernel), List.mem_of_getElem? (i := 542) (by decide +kernel)⟩
theorem lw_p30 : lw_okq (⟨"MovieBoxes$Mover", "oldPlace", "(II)I"⟩, 8) := ⟨⟨by decide +kernel, by decide +kernel⟩, List.mem_of_getElem? (i := 137) (by decide +kernel), List.mem_of_getElem? (i := 545) (by decide +kernel), List.mem_of_getElem? (i := 546) (by decide +kernel)⟩
theorem lw_p31 : lw_okq (⟨"MovieBoxes$Mover", "newPlace", "(I)I"⟩, 8) := ⟨⟨by decide +kernel, by decide +kernel⟩, List.mem_of_getElem? (i := 137) (by decide +kernel), List.mem_of_getElem? (i := 550) (by decide +kernel), List.mem_of_getElem? (i := 551) (by decide +kernel)⟩
def lw_privs_2 : List (MethodName × Nat) := [(⟨"MovieBoxes$Track", "spreadSyncs", "()V"⟩, 10), (⟨"MovieBoxes$Track", "spreadChunks", "()V"⟩, 10), (⟨"MovieBoxes", "boxesAreKnown", "()Z"⟩, 7), (⟨"MovieBoxes", "soundTrack", "(I)LMovieBoxes$Track;"⟩, 7), (⟨"MovieBoxes$Track", "mediaTime", "(I)I"⟩, 10), (⟨"MovieBoxes$Mover", "behindMovie", "()I"⟩, 8), (⟨"MovieBoxes$Mover", "settleWidths", "()V"⟩, 8), (⟨"MovieBoxes$Mover", "measure", "()V"⟩, 8), (⟨"MovieBoxes$Mover", "ownPayload", "(I)I"⟩, 8), (⟨"MovieBoxes$Mover", "rowsOf", "(I)I"⟩, 8), (⟨"MovieBoxes$Mover", "newHeader", "(I)I"⟩, 8), (⟨"MovieBoxes$Mover", "newSize", "(I)I"⟩, 8), (⟨"MovieBoxes$Mover", "widenSome", "()Z"⟩, 8), (⟨"MovieBoxes$Mover", "outgrowsBytes", "(I)Z"⟩, 8), (⟨"MovieBoxes$Mover", "oldPlace", "(II)I"⟩, 8), (⟨"MovieBoxes$Mover", "newPlace", "(I)I"⟩, 8)]
theorem lw_r2 : ∀ q ∈ lw_privs_2, lw_okq q := List.forall_mem_cons.mpr ⟨lw_p16, List.forall_mem_cons.mpr ⟨lw_p17, List.forall_mem_cons.mpr ⟨lw_p18, List.forall_mem_cons.mpr ⟨lw_p19, List.forall_mem_cons.mpr ⟨lw_p20, List.forall_mem_cons.mpr ⟨lw_p21, List.forall_mem_cons.mpr ⟨lw_p22, List.forall_mem_cons.mpr ⟨lw_p23, List.forall_mem_cons.mpr ⟨lw_p24, List.forall_mem_cons.mpr ⟨lw_p25, List.forall_mem_cons.mpr ⟨lw_p26, List.forall_mem_cons.mpr ⟨lw_p27, List.forall_mem_cons.mpr ⟨lw_p28, List.forall_mem_cons.mpr ⟨lw_p29, List.forall_mem_cons.mpr ⟨lw_p30, List.forall_mem_cons.mpr ⟨lw_p31, fun _ h => absurd h List.not_mem_nil⟩⟩⟩⟩⟩⟩⟩⟩⟩⟩⟩⟩⟩⟩⟩⟩
theorem lw_p32 : lw_okq (⟨"MovieBoxes$Mover", "writeBox", "(I)V"⟩, 8) := ⟨⟨by decide +kernel, by decide +kernel⟩, List.mem_of_getElem? (i := 137) (by decide +kernel), List.mem_of_getElem? (i := 563) (by decide +kernel), List.mem_of_getElem? (i := 564) (by decide +kernel)⟩
theorem lw_p33 : lw_okq (⟨"MovieBoxes$Mover", "writeHeader", "(I)V"⟩, 8) := ⟨⟨by decide +kernel, by decide +kernel⟩, List.mem_of_getElem? (i := 137) (by decide +kernel), List.mem_of_getElem? (i := 567) (by decide +kernel), List.mem_of_getElem? (i := 568) (by decide +kernel)⟩
theorem lw_p34 : lw_okq (⟨"MovieBoxes$Mover", "writePlaces", "(I)V"⟩, 8) := ⟨⟨by decide +kernel, by decide +kernel⟩, List.mem_of_getElem? (i := 137) (by decide +kernel), List.mem_of_getElem? (i := 576) (by decide +kernel), List.mem_of_getElem? (i := 577) (by decide +kernel)⟩
theorem lw_p35 : lw_okq (⟨"MovieBoxesModel", "read", "()I"⟩, 21) := ⟨⟨by decide +kernel, by decide +kernel⟩, List.mem_of_getElem? (i := 588) (by decide +kernel), List.mem_of_getElem? (i := 683) (by decide +kernel), List.mem_of_getElem? (i := 684) (by decide +kernel)⟩
theorem lw_p36 : lw_okq (⟨"MovieBoxesModel", "readOne", "(III)Z"⟩, 21) := ⟨⟨by decide +kernel, by decide +kernel⟩, List.mem_of_getElem? (i := 588) (by decide +kernel), List.mem_of_getElem? (i := 687) (by decide +kernel), List.mem_of_getElem? (i := 688) (by decide +kernel)⟩
theorem lw_p37 : lw_okq (⟨"MovieBoxesModel", "isHolder", "(I)Z"⟩, 21) := ⟨⟨by decide +kernel, by decide +kernel⟩, List.mem_of_getElem? (i := 588) (by decide +kernel), List.mem_of_getElem? (i := 691) (by decide +kernel), List.mem_of_getElem? (i := 692) (by decide +kernel)⟩
theorem lw_p38 : lw_okq (⟨"MovieBoxesModel", "kindsWrong", "()Z"⟩, 21) := ⟨⟨by decide +kernel, by decide +kernel⟩, List.mem_of_getElem? (i := 588) (by decide +kernel), List.mem_of_getElem? (i := 695) (by decide +kernel), List.mem_of_getElem? (i := 696) (by decide +kernel)⟩
theorem lw_p39 : lw_okq (⟨"MovieBoxesModel", "rowsWrong", "(II)Z"⟩, 21) := ⟨⟨by decide +kernel, by decide +kernel⟩, List.mem_of_getElem? (i := 588) (by decide +kernel), List.mem_of_getElem? (i := 702) (by decide +kernel), List.mem_of_getElem? (i := 703) (by decide +kernel)⟩
theorem lw_p40 : lw_okq (⟨"MovieBoxesModel", "payLength", "(I)I"⟩, 21) := ⟨⟨by decide +kernel, by decide +kernel⟩, List.mem_of_getElem? (i := 588) (by decide +kernel), List.mem_of_getElem? (i := 706) (by decide +kernel), List.mem_of_getElem? (i := 707) (by decide +kernel)⟩
theorem lw_p41 : lw_okq (⟨"MovieBoxesModel", "pay", "(II)I"⟩, 21) := ⟨⟨by decide +kernel, by decide +kernel⟩, List.mem_of_getElem? (i := 588) (by decide +kernel), List.mem_of_getElem? (i := 710) (by decide +kernel), List.mem_of_getElem? (i := 711) (by decide +kernel)⟩
theorem lw_p42 : lw_okq (⟨"MovieBoxesModel", "countsWrong", "(I)Z"⟩, 21) := ⟨⟨by decide +kernel, by decide +kernel⟩, List.mem_of_getElem? (i := 588) (by decide +kernel), List.mem_of_getElem? (i := 714) (by decide +kernel), List.mem_of_getElem? (i := 715) (by decide +kernel)⟩
theorem lw_p43 : lw_okq (⟨"MovieBoxesModel", "sampleCount", "(I)I"⟩, 21) := ⟨⟨by decide +kernel, by decide +kernel⟩, List.mem_of_getElem? (i := 588) (by decide +kernel), List.mem_of_getElem? (i := 718) (by decide +kernel), List.mem_of_getElem? (i := 719) (by decide +kernel)⟩
theorem lw_p44 : lw_okq (⟨"MovieBoxesModel", "total", "(I)I"⟩, 21) := ⟨⟨by decide +kernel, by decide +kernel⟩, List.mem_of_getElem? (i := 588) (by decide +kernel), List.mem_of_getElem? (i := 722) (by decide +kernel), List.mem_of_getElem? (i := 723) (by decide +kernel)⟩
theorem lw_p45 : lw_okq (⟨"MovieBoxesModel", "chunkCount", "(I)I"⟩, 21) := ⟨⟨by decide +kernel, by decide +kernel⟩, List.mem_of_getElem? (i := 588) (by decide +kernel), List.mem_of_getElem? (i := 726) (by decide +kernel), List.mem_of_getElem? (i := 727) (by decide +kernel)⟩
theorem lw_p46 : lw_okq (⟨"MovieBoxesModel", "placesBox", "(I)I"⟩, 21) := ⟨⟨by decide +kernel, by decide +kernel⟩, List.mem_of_getElem? (i := 588) (by decide +kernel), List.mem_of_getElem? (i := 730) (by decide +kernel), List.mem_of_getElem? (i := 731) (by decide +kernel)⟩
theorem lw_p47 : lw_okq (⟨"MovieBoxesModel", "many", "(II)I"⟩, 21) := ⟨⟨by decide +kernel, by decide +kernel⟩, List.mem_of_getElem? (i := 588) (by decide +kernel), List.mem_of_getElem? (i := 734) (by decide +kernel), List.mem_of_getElem? (i := 735) (by decide +kernel)⟩
def lw_privs_3 : List (MethodName × Nat) := [(⟨"MovieBoxes$Mover", "writeBox", "(I)V"⟩, 8), (⟨"MovieBoxes$Mover", "writeHeader", "(I)V"⟩, 8), (⟨"MovieBoxes$Mover", "writePlaces", "(I)V"⟩, 8), (⟨"MovieBoxesModel", "read", "()I"⟩, 21), (⟨"MovieBoxesModel", "readOne", "(III)Z"⟩, 21), (⟨"MovieBoxesModel", "isHolder", "(I)Z"⟩, 21), (⟨"MovieBoxesModel", "kindsWrong", "()Z"⟩, 21), (⟨"MovieBoxesModel", "rowsWrong", "(II)Z"⟩, 21), (⟨"MovieBoxesModel", "payLength", "(I)I"⟩, 21), (⟨"MovieBoxesModel", "pay", "(II)I"⟩, 21), (⟨"MovieBoxesModel", "countsWrong", "(I)Z"⟩, 21), (⟨"MovieBoxesModel", "sampleCount", "(I)I"⟩, 21), (⟨"MovieBoxesModel", "total", "(I)I"⟩, 21), (⟨"MovieBoxesModel", "chunkCount", "(I)I"⟩, 21), (⟨"MovieBoxesModel", "placesBox", "(I)I"⟩, 21), (⟨"MovieBoxesModel", "many", "(II)I"⟩, 21)]
theorem lw_r3 : ∀ q ∈ lw_privs_3, lw_okq q := List.forall_mem_cons.mpr ⟨lw_p32, List.forall_mem_cons.mpr ⟨lw_p33, List.forall_mem_cons.mpr ⟨lw_p34, List.forall_mem_cons.mpr ⟨lw_p35, List.forall_mem_cons.mpr ⟨lw_p36, List.forall_mem_cons.mpr ⟨lw_p37, List.forall_mem_cons.mpr ⟨lw_p38, List.forall_mem_cons.mpr ⟨lw_p39, List.forall_mem_cons.mpr ⟨lw_p40, List.forall_mem_cons.mpr ⟨lw_p41, List.forall_mem_cons.mpr ⟨lw_p42, List.forall_mem_cons.mpr ⟨lw_p43, List.forall_mem_cons.mpr ⟨lw_p44, List.forall_mem_cons.mpr ⟨lw_p45, List.forall_mem_cons.mpr ⟨lw_p46, List.forall_mem_cons.mpr ⟨lw_p47, fun _ h => absurd h List.not_mem_nil⟩⟩⟩⟩⟩⟩⟩⟩⟩⟩⟩⟩⟩⟩⟩⟩
theorem lw_p48 : lw_okq (⟨"MovieBoxesModel", "rowOf", "(II)I"⟩, 21) := ⟨⟨by decide +kernel, by decide +kernel⟩, List.mem_of_getElem? (i := 588) (by decide +kernel), List.mem_of_getElem? (i := 738) (by decide +kernel), List.mem_of_getElem? (i := 739) (by decide +kernel)⟩
theorem lw_p49 : lw_okq (⟨"MovieBoxesModel", "settle", "(I)Z"⟩, 21) := ⟨⟨by decide +kernel, by decide +kernel⟩, List.mem_of_getElem? (i := 588) (by decide +kernel), List.mem_of_getElem? (i := 742) (by decide +kernel), List.mem_of_getElem? (i := 743) (by decide +kernel)⟩
theorem lw_p50 : lw_okq (⟨"MovieBoxesModel", "sizeOf", "(II)I"⟩, 21) := ⟨⟨by decide +kernel, by decide +kernel⟩, List.mem_of_getElem? (i := 588) (by decide +kernel), List.mem_of_getElem? (i := 746) (by decide +kernel), List.mem_of_getElem? (i := 747) (by decide +kernel)⟩
theorem lw_p51 : lw_okq (⟨"MovieBoxesModel", "chunkPlace", "(II)I"⟩, 21) := ⟨⟨by decide +kernel, by decide +kernel⟩, List.mem_of_getElem? (i := 588) (by decide +kernel), List.mem_of_getElem? (i := 750) (by decide +kernel), List.mem_of_getElem? (i := 751) (by decide +kernel)⟩
theorem lw_p52 : lw_okq (⟨"MovieBoxesModel", "dataBox", "(II)I"⟩, 21) := ⟨⟨by decide +kernel, by decide +kernel⟩, List.mem_of_getElem? (i := 588) (by decide +kernel), List.mem_of_getElem? (i := 754) (by decide +kernel), List.mem_of_getElem? (i := 755) (by decide +kernel)⟩
theorem lw_p53 : lw_okq (⟨"MovieBoxesModel", "isTrack", "(I)Z"⟩, 21) := ⟨⟨by decide +kernel, by decide +kernel⟩, List.mem_of_getElem? (i := 588) (by decide +kernel), List.mem_of_getElem? (i := 775) (by decide +kernel), List.mem_of_getElem? (i := 776) (by decide +kernel)⟩
theorem lw_p54 : lw_okq (⟨"MovieBoxesModel", "inChunk", "(III)I"⟩, 21) := ⟨⟨by decide +kernel, by decide +kernel⟩, List.mem_of_getElem? (i := 588) (by decide +kernel), List.mem_of_getElem? (i := 783) (by decide +kernel), List.mem_of_getElem? (i := 784) (by decide +kernel)⟩
theorem lw_p55 : lw_okq (⟨"MovieBoxesModel", "decodeTime", "(II)I"⟩, 21) := ⟨⟨by decide +kernel, by decide +kernel⟩, List.mem_of_getElem? (i := 588) (by decide +kernel), List.mem_of_getElem? (i := 787) (by decide +kernel), List.mem_of_getElem? (i := 788) (by decide +kernel)⟩
theorem lw_p56 : lw_okq (⟨"MovieBoxesModel", "durationOf", "(II)I"⟩, 21) := ⟨⟨by decide +kernel, by decide +kernel⟩, List.mem_of_getElem? (i := 588) (by decide +kernel), List.mem_of_getElem? (i := 791) (by decide +kernel), List.mem_of_getElem? (i := 792) (by decide +kernel)⟩
theorem lw_p57 : lw_okq (⟨"MovieBoxesModel", "runValue", "(II)I"⟩, 21) := ⟨⟨by decide +kernel, by decide +kernel⟩, List.mem_of_getElem? (i := 588) (by decide +kernel), List.mem_of_getElem? (i := 795) (by decide +kernel), List.mem_of_getElem? (i := 796) (by decide +kernel)⟩
theorem lw_p58 : lw_okq (⟨"MovieBoxesModel", "shiftOf", "(II)I"⟩, 21) := ⟨⟨by decide +kernel, by decide +kernel⟩, List.mem_of_getElem? (i := 588) (by decide +kernel), List.mem_of_getElem? (i := 799) (by decide +kernel), List.mem_of_getElem? (i := 800) (by decide +kernel)⟩
theorem lw_p59 : lw_okq (⟨"MovieBoxesModel", "isSync", "(II)I"⟩, 21) := ⟨⟨by decide +kernel, by decide +kernel⟩, List.mem_of_getElem? (i := 588) (by decide +kernel), List.mem_of_getElem? (i := 803) (by decide +kernel), List.mem_of_getElem? (i := 804) (by decide +kernel)⟩
theorem lw_p60 : lw_okq (⟨"MovieBoxesModel", "mediaTime", "(II)I"⟩, 21) := ⟨⟨by decide +kernel, by decide +kernel⟩, List.mem_of_getElem? (i := 588) (by decide +kernel), List.mem_of_getElem? (i := 811) (by decide +kernel), List.mem_of_getElem? (i := 812) (by decide +kernel)⟩
theorem lw_p61 : lw_okq (⟨"MovieBoxesModel", "firstData", "()I"⟩, 21) := ⟨⟨by decide +kernel, by decide +kernel⟩, List.mem_of_getElem? (i := 588) (by decide +kernel), List.mem_of_getElem? (i := 819) (by decide +kernel), List.mem_of_getElem? (i := 820) (by decide +kernel)⟩
theorem lw_p62 : lw_okq (⟨"MovieBoxesModel", "layout", "(I)I"⟩, 21) := ⟨⟨by decide +kernel, by decide +kernel⟩, List.mem_of_getElem? (i := 588) (by decide +kernel), List.mem_of_getElem? (i := 823) (by decide +kernel), List.mem_of_getElem? (i := 824) (by decide +kernel)⟩
theorem lw_p63 : lw_okq (⟨"MovieBoxesModel", "tooNarrow", "(I)I"⟩, 21) := ⟨⟨by decide +kernel, by decide +kernel⟩, List.mem_of_getElem? (i := 588) (by decide +kernel), List.mem_of_getElem? (i := 827) (by decide +kernel), List.mem_of_getElem? (i := 828) (by decide +kernel)⟩
def lw_privs_4 : List (MethodName × Nat) := [(⟨"MovieBoxesModel", "rowOf", "(II)I"⟩, 21), (⟨"MovieBoxesModel", "settle", "(I)Z"⟩, 21), (⟨"MovieBoxesModel", "sizeOf", "(II)I"⟩, 21), (⟨"MovieBoxesModel", "chunkPlace", "(II)I"⟩, 21), (⟨"MovieBoxesModel", "dataBox", "(II)I"⟩, 21), (⟨"MovieBoxesModel", "isTrack", "(I)Z"⟩, 21), (⟨"MovieBoxesModel", "inChunk", "(III)I"⟩, 21), (⟨"MovieBoxesModel", "decodeTime", "(II)I"⟩, 21), (⟨"MovieBoxesModel", "durationOf", "(II)I"⟩, 21), (⟨"MovieBoxesModel", "runValue", "(II)I"⟩, 21), (⟨"MovieBoxesModel", "shiftOf", "(II)I"⟩, 21), (⟨"MovieBoxesModel", "isSync", "(II)I"⟩, 21), (⟨"MovieBoxesModel", "mediaTime", "(II)I"⟩, 21), (⟨"MovieBoxesModel", "firstData", "()I"⟩, 21), (⟨"MovieBoxesModel", "layout", "(I)I"⟩, 21), (⟨"MovieBoxesModel", "tooNarrow", "(I)I"⟩, 21)]
theorem lw_r4 : ∀ q ∈ lw_privs_4, lw_okq q := List.forall_mem_cons.mpr ⟨lw_p48, List.forall_mem_cons.mpr ⟨lw_p49, List.forall_mem_cons.mpr ⟨lw_p50, List.forall_mem_cons.mpr ⟨lw_p51, List.forall_mem_cons.mpr ⟨lw_p52, List.forall_mem_cons.mpr ⟨lw_p53, List.forall_mem_cons.mpr ⟨lw_p54, List.forall_mem_cons.mpr ⟨lw_p55, List.forall_mem_cons.mpr ⟨lw_p56, List.forall_mem_cons.mpr ⟨lw_p57, List.forall_mem_cons.mpr ⟨lw_p58, List.forall_mem_cons.mpr ⟨lw_p59, List.forall_mem_cons.mpr ⟨lw_p60, List.forall_mem_cons.mpr ⟨lw_p61, List.forall_mem_cons.mpr ⟨lw_p62, List.forall_mem_cons.mpr ⟨lw_p63, fun _ h => absurd h List.not_mem_nil⟩⟩⟩⟩⟩⟩⟩⟩⟩⟩⟩⟩⟩⟩⟩⟩
theorem lw_p64 : lw_okq (⟨"MovieBoxesModel", "newPlace", "(III)I"⟩, 21) := ⟨⟨by decide +kernel, by decide +kernel⟩, List.mem_of_getElem? (i := 588) (by decide +kernel), List.mem_of_getElem? (i := 831) (by decide +kernel), List.mem_of_getElem? (i := 832) (by decide +kernel)⟩
theorem lw_p65 : lw_okq (⟨"MovieBoxesModel", "write", "(III)V"⟩, 21) := ⟨⟨by decide +kernel, by decide +kernel⟩, List.mem_of_getElem? (i := 588) (by decide +kernel), List.mem_of_getElem? (i := 835) (by decide +kernel), List.mem_of_getElem? (i := 836) (by decide +kernel)⟩
theorem lw_p66 : lw_okq (⟨"MovieBoxesModel", "put", "(I)V"⟩, 21) := ⟨⟨by decide +kernel, by decide +kernel⟩, List.mem_of_getElem? (i := 588) (by decide +kernel), List.mem_of_getElem? (i := 839) (by decide +kernel), List.mem_of_getElem? (i := 840) (by decide +kernel)⟩
theorem lw_p67 : lw_okq (⟨"MovieBoxesModel", "writeBox", "(III)V"⟩, 21) := ⟨⟨by decide +kernel, by decide +kernel⟩, List.mem_of_getElem? (i := 588) (by decide +kernel), List.mem_of_getElem? (i := 843) (by decide +kernel), List.mem_of_getElem? (i := 844) (by decide +kernel)⟩
def lw_privs_5 : List (MethodName × Nat) := [(⟨"MovieBoxesModel", "newPlace", "(III)I"⟩, 21), (⟨"MovieBoxesModel", "write", "(III)V"⟩, 21), (⟨"MovieBoxesModel", "put", "(I)V"⟩, 21), (⟨"MovieBoxesModel", "writeBox", "(III)V"⟩, 21)]
theorem lw_r5 : ∀ q ∈ lw_privs_5, lw_okq q := List.forall_mem_cons.mpr ⟨lw_p64, List.forall_mem_cons.mpr ⟨lw_p65, List.forall_mem_cons.mpr ⟨lw_p66, List.forall_mem_cons.mpr ⟨lw_p67, fun _ h => absurd h List.not_mem_nil⟩⟩⟩⟩
def lw_privs : List (MethodName × Nat) := lw_privs_1 ++ (lw_privs_2 ++ (lw_privs_3 ++ (lw_privs_4 ++ (lw_privs_5))))
def lw_tbl : List Cond := k2_sels lw_privs ++ tables_1
theorem lw_privs_ok : ∀ q ∈ lw_privs, lw_okq q := by
  show ∀ q ∈ lw_privs_1 ++ (lw_privs_2 ++ (lw_privs_3 ++ (lw_privs_4 ++ (lw_privs_5)))), lw_okq q
  exact List.forall_mem_append.mpr ⟨lw_r1, List.forall_mem_append.mpr ⟨lw_r2, List.forall_mem_append.mpr ⟨lw_r3, List.forall_mem_append.mpr ⟨lw_r4, lw_r5⟩⟩⟩⟩
end
section
/-! the words of the tables that stay (all but arrayOver) -/
def TR : String := "MovieBoxes$Track"
def TY : List FieldType := [.int, .boolean, .object TR, .array .int]
def WS : List Cond := lw_tbl.filter goodWord
theorem ws_good : ∀ w ∈ WS, (w.onTables && w.keeps) = true ∨ ∃ ty, w = .arrayClass ty := fun w hw => good_of_word (List.mem_filter.mp hw).2
theorem ws_tbl : ∀ w ∈ WS, w ∈ lw_tbl := fun w hw => (List.mem_filter.mp hw).1
theorem ws_1 {w : Cond} (h : w ∈ tables_1_1) (hg : goodWord w = true) : w ∈ WS := List.mem_filter.mpr ⟨List.mem_append_right _ (List.mem_append_left _ (h)), hg⟩
theorem ws_2 {w : Cond} (h : w ∈ tables_1_2) (hg : goodWord w = true) : w ∈ WS := List.mem_filter.mpr ⟨List.mem_append_right _ (List.mem_append_right _ (List.mem_append_left _ (h))), hg⟩
theorem ws_3 {w : Cond} (h : w ∈ tables_1_3) (hg : goodWord w = true) : w ∈ WS := List.mem_filter.mpr ⟨List.mem_append_right _ (List.mem_append_right _ (List.mem_append_right _ (List.mem_append_left _ (h)))), hg⟩
theorem ws_4 {w : Cond} (h : w ∈ tables_1_4) (hg : goodWord w = true) : w ∈ WS := List.mem_filter.mpr ⟨List.mem_append_right _ (List.mem_append_right _ (List.mem_append_right _ (List.mem_append_right _ (h)))), hg⟩
theorem ws_s1 {q : MethodName × Nat} (h : q ∈ lw_privs_1) (hg : goodWord (Cond.selects q.1.cls q.1 q.1) = true) : Cond.selects q.1.cls q.1 q.1 ∈ WS := List.mem_filter.mpr ⟨List.mem_append_left _ (List.mem_map.mpr ⟨q, List.mem_append_left _ (h), rfl⟩), hg⟩
theorem ws_s2 {q : MethodName × Nat} (h : q ∈ lw_privs_2) (hg : goodWord (Cond.selects q.1.cls q.1 q.1) = true) : Cond.selects q.1.cls q.1 q.1 ∈ WS := List.mem_filter.mpr ⟨List.mem_append_left _ (List.mem_map.mpr ⟨q, List.mem_append_right _ (List.mem_append_left _ (h)), rfl⟩), hg⟩
theorem ws_s3 {q : MethodName × Nat} (h : q ∈ lw_privs_3) (hg : goodWord (Cond.selects q.1.cls q.1 q.1) = true) : Cond.selects q.1.cls q.1 q.1 ∈ WS := List.mem_filter.mpr ⟨List.mem_append_left _ (List.mem_map.mpr ⟨q, List.mem_append_right _ (List.mem_append_right _ (List.mem_append_left _ (h))), rfl⟩), hg⟩
theorem ws_s4 {q : MethodName × Nat} (h : q ∈ lw_privs_4) (hg : goodWord (Cond.selects q.1.cls q.1 q.1) = true) : Cond.selects q.1.cls q.1 q.1 ∈ WS := List.mem_filter.mpr ⟨List.mem_append_left _ (List.mem_map.mpr ⟨q, List.mem_append_right _ (List.mem_append_right _ (List.mem_append_right _ (List.mem_append_left _ (h)))), rfl⟩), hg⟩
theorem ws_s5 {q : MethodName × Nat} (h : q ∈ lw_privs_5) (hg : goodWord (Cond.selects q.1.cls q.1 q.1) = true) : Cond.selects q.1.cls q.1 q.1 ∈ WS := List.mem_filter.mpr ⟨List.mem_append_left _ (List.mem_map.mpr ⟨q, List.mem_append_right _ (List.mem_append_right _ (List.mem_append_right _ (List.mem_append_right _ (h)))), rfl⟩), hg⟩
end
section
def fd_M : u_T := fun k => match k with
  | 0 => ("MovieBoxes", "file", "LMovieBoxes$Bytes;", true)
  | 1 => ("MovieBoxes", "layout", "LMovieBoxes$Layout;", true)
  | 2 => ("MovieBoxes", "trackRow", "[LMovieBoxes$Track;", true)
  | 3 => ("MovieBoxes", "mover", "LMovieBoxes$Mover;", true)
  | 4 => ("MovieBoxes", "trackCount", "I", false)
  | 5 => ("MovieBoxes", "fault", "I", false)
  | _ => ("MovieBoxes", "stale", "Z", false)
def ft_M : Nat → FieldType := fun k => match k with
  | 0 => .object "MovieBoxes$Bytes"
  | 1 => .object "MovieBoxes$Layout"
  | 2 => .array (.object "MovieBoxes$Track")
  | 3 => .object "MovieBoxes$Mover"
  | 4 => .int
  | 5 => .int
  | _ => .boolean
theorem fn_M : ∀ a, a < 7 → ∀ b, b < 7 → a ≠ b → (fd_M a).2.1 ≠ (fd_M b).2.1 := by decide +kernel
theorem fo_M : ∀ k, k < 7 → parseFieldDescriptor (fd_M k).2.2.1 = some (ft_M k) := by decide +kernel
theorem fi_M : ∀ w ∈ u_ws "MovieBoxes" fd_M 7, w ∈ WS := by
  intro w hw
  obtain ⟨k, hk, rfl⟩ := List.mem_map.mp hw
  have hk := List.mem_range.mp hk
  match k, hk with
  | 0, _ => exact ws_1 (List.mem_of_getElem? (i := 177) rfl) rfl
  | 1, _ => exact ws_1 (List.mem_of_getElem? (i := 179) rfl) rfl
  | 2, _ => exact ws_1 (List.mem_of_getElem? (i := 181) rfl) rfl
  | 3, _ => exact ws_1 (List.mem_of_getElem? (i := 183) rfl) rfl
  | 4, _ => exact ws_1 (List.mem_of_getElem? (i := 185) rfl) rfl
  | 5, _ => exact ws_1 (List.mem_of_getElem? (i := 187) rfl) rfl
  | 6, _ => exact ws_1 (List.mem_of_getElem? (i := 189) rfl) rfl
def fd_B : u_T := fun k => match k with
  | 0 => ("MovieBoxes$Bytes", "cells", "[I", true)
  | _ => ("MovieBoxes$Bytes", "count", "I", false)
def ft_B : Nat → FieldType := fun k => match k with
  | 0 => .array .int
  | _ => .int
theorem fn_B : ∀ a, a < 2 → ∀ b, b < 2 → a ≠ b → (fd_B a).2.1 ≠ (fd_B b).2.1 := by decide +kernel
theorem fo_B : ∀ k, k < 2 → parseFieldDescriptor (fd_B k).2.2.1 = some (ft_B k) := by decide +kernel
theorem fi_B : ∀ w ∈ u_ws "MovieBoxes$Bytes" fd_B 2, w ∈ WS := by
  intro w hw
  obtain ⟨k, hk, rfl⟩ := List.mem_map.mp hw
  have hk := List.mem_range.mp hk
  match k, hk with
  | 0, _ => exact ws_1 (List.mem_of_getElem? (i := 26) rfl) rfl
  | 1, _ => exact ws_1 (List.mem_of_getElem? (i := 28) rfl) rfl
def fd_L : u_T := fun k => match k with
  | 0 => ("MovieBoxes$Layout", "file", "LMovieBoxes$Bytes;", true)
  | 1 => ("MovieBoxes$Layout", "columns", "[[I", true)
  | _ => ("MovieBoxes$Layout", "count", "I", false)
def ft_L : Nat → FieldType := fun k => match k with
  | 0 => .object "MovieBoxes$Bytes"
  | 1 => .array (.array .int)
  | _ => .int
theorem fn_L : ∀ a, a < 3 → ∀ b, b < 3 → a ≠ b → (fd_L a).2.1 ≠ (fd_L b).2.1 := by decide +kernel
theorem fo_L : ∀ k, k < 3 → parseFieldDescriptor (fd_L k).2.2.1 = some (ft_L k) := by decide +kernel
theorem fi_L : ∀ w ∈ u_ws "MovieBoxes$Layout" fd_L 3, w ∈ WS := by
  intro w hw
  obtain ⟨k, hk, rfl⟩ := List.mem_map.mp hw
  have hk := List.mem_range.mp hk
  match k, hk with
  | 0, _ => exact ws_1 (List.mem_of_getElem? (i := 43) rfl) rfl
  | 1, _ => exact ws_1 (List.mem_of_getElem? (i := 45) rfl) rfl
  | 2, _ => exact ws_1 (List.mem_of_getElem? (i := 47) rfl) rfl
def fd_T : u_T := fun k => match k with
  | 0 => ("MovieBoxes$Table", "file", "LMovieBoxes$Bytes;", true)
  | 1 => ("MovieBoxes$Table", "present", "Z", false)
  | 2 => ("MovieBoxes$Table", "start", "I", false)
  | 3 => ("MovieBoxes$Table", "payload", "I", false)
  | 4 => ("MovieBoxes$Table", "width", "I", false)
  | _ => ("MovieBoxes$Table", "rows", "I", false)
def ft_T : Nat → FieldType := fun k => match k with
  | 0 => .object "MovieBoxes$Bytes"
  | 1 => .boolean
  | 2 => .int
  | 3 => .int
  | 4 => .int
  | _ => .int
theorem fn_T : ∀ a, a < 6 → ∀ b, b < 6 → a ≠ b → (fd_T a).2.1 ≠ (fd_T b).2.1 := by decide +kernel
theorem fo_T : ∀ k, k < 6 → parseFieldDescriptor (fd_T k).2.2.1 = some (ft_T k) := by decide +kernel
theorem fi_T : ∀ w ∈ u_ws "MovieBoxes$Table" fd_T 6, w ∈ WS := by
  intro w hw
  obtain ⟨k, hk, rfl⟩ := List.mem_map.mp hw
  have hk := List.mem_range.mp hk
  match k, hk with
  | 0, _ => exact ws_1 (List.mem_of_getElem? (i := 69) rfl) rfl
  | 1, _ => exact ws_1 (List.mem_of_getElem? (i := 71) rfl) rfl
  | 2, _ => exact ws_1 (List.mem_of_getElem? (i := 73) rfl) rfl
  | 3, _ => exact ws_1 (List.mem_of_getElem? (i := 75) rfl) rfl
  | 4, _ => exact ws_1 (List.mem_of_getElem? (i := 77) rfl) rfl
  | 5, _ => exact ws_1 (List.mem_of_getElem? (i := 79) rfl) rfl
def fd_Z : u_T := fun k => match k with
  | 0 => ("MovieBoxes$SizeTable", "file", "LMovieBoxes$Bytes;", true)
  | 1 => ("MovieBoxes$SizeTable", "start", "I", false)
  | 2 => ("MovieBoxes$SizeTable", "payload", "I", false)
  | 3 => ("MovieBoxes$SizeTable", "fixed", "I", false)
  | _ => ("MovieBoxes$SizeTable", "count", "I", false)
def ft_Z : Nat → FieldType := fun k => match k with
  | 0 => .object "MovieBoxes$Bytes"
  | 1 => .int
  | 2 => .int
  | 3 => .int
  | _ => .int
theorem fn_Z : ∀ a, a < 5 → ∀ b, b < 5 → a ≠ b → (fd_Z a).2.1 ≠ (fd_Z b).2.1 := by decide +kernel
theorem fo_Z : ∀ k, k < 5 → parseFieldDescriptor (fd_Z k).2.2.1 = some (ft_Z k) := by decide +kernel
theorem fi_Z : ∀ w ∈ u_ws "MovieBoxes$SizeTable" fd_Z 5, w ∈ WS := by
  intro w hw
  obtain ⟨k, hk, rfl⟩ := List.mem_map.mp hw
  have hk := List.mem_range.mp hk
  match k, hk with
  | 0, _ => exact ws_1 (List.mem_of_getElem? (i := 93) rfl) rfl
  | 1, _ => exact ws_1 (List.mem_of_getElem? (i := 95) rfl) rfl
  | 2, _ => exact ws_1 (List.mem_of_getElem? (i := 97) rfl) rfl
  | 3, _ => exact ws_1 (List.mem_of_getElem? (i := 99) rfl) rfl
  | 4, _ => exact ws_1 (List.mem_of_getElem? (i := 101) rfl) rfl
def fd_K : u_T := fun k => match k with
  | 0 => ("MovieBoxes$Track", "layout", "LMovieBoxes$Layout;", true)
  | 1 => ("MovieBoxes$Track", "durations", "LMovieBoxes$Table;", true)
  | 2 => ("MovieBoxes$Track", "shifts", "LMovieBoxes$Table;", true)
  | 3 => ("MovieBoxes$Track", "chunks", "LMovieBoxes$Table;", true)
  | 4 => ("MovieBoxes$Track", "places", "LMovieBoxes$Table;", true)
  | 5 => ("MovieBoxes$Track", "syncs", "LMovieBoxes$Table;", true)
  | 6 => ("MovieBoxes$Track", "edits", "LMovieBoxes$Table;", true)
  | 7 => ("MovieBoxes$Track", "sizes", "LMovieBoxes$SizeTable;", true)
  | 8 => ("MovieBoxes$Track", "columns", "[[I", true)
  | _ => ("MovieBoxes$Track", "count", "I", false)
def ft_K : Nat → FieldType := fun k => match k with
  | 0 => .object "MovieBoxes$Layout"
  | 1 => .object "MovieBoxes$Table"
  | 2 => .object "MovieBoxes$Table"
  | 3 => .object "MovieBoxes$Table"
  | 4 => .object "MovieBoxes$Table"
  | 5 => .object "MovieBoxes$Table"
  | 6 => .object "MovieBoxes$Table"
  | 7 => .object "MovieBoxes$SizeTable"
  | 8 => .array (.array .int)
  | _ => .int
theorem fn_K : ∀ a, a < 10 → ∀ b, b < 10 → a ≠ b → (fd_K a).2.1 ≠ (fd_K b).2.1 := by decide +kernel
theorem fo_K : ∀ k, k < 10 → parseFieldDescriptor (fd_K k).2.2.1 = some (ft_K k) := by decide +kernel
theorem fi_K : ∀ w ∈ u_ws "MovieBoxes$Track" fd_K 10, w ∈ WS := by
  intro w hw
  obtain ⟨k, hk, rfl⟩ := List.mem_map.mp hw
  have hk := List.mem_range.mp hk
  match k, hk with
  | 0, _ => exact ws_1 (List.mem_of_getElem? (i := 115) rfl) rfl
  | 1, _ => exact ws_1 (List.mem_of_getElem? (i := 117) rfl) rfl
  | 2, _ => exact ws_1 (List.mem_of_getElem? (i := 119) rfl) rfl
  | 3, _ => exact ws_1 (List.mem_of_getElem? (i := 121) rfl) rfl
  | 4, _ => exact ws_1 (List.mem_of_getElem? (i := 123) rfl) rfl
  | 5, _ => exact ws_1 (List.mem_of_getElem? (i := 125) rfl) rfl
  | 6, _ => exact ws_1 (List.mem_of_getElem? (i := 127) rfl) rfl
  | 7, _ => exact ws_1 (List.mem_of_getElem? (i := 129) rfl) rfl
  | 8, _ => exact ws_1 (List.mem_of_getElem? (i := 131) rfl) rfl
  | 9, _ => exact ws_1 (List.mem_of_getElem? (i := 133) rfl) rfl
def fd_V : u_T := fun k => match k with
  | 0 => ("MovieBoxes$Mover", "file", "LMovieBoxes$Bytes;", true)
  | 1 => ("MovieBoxes$Mover", "layout", "LMovieBoxes$Layout;", true)
  | 2 => ("MovieBoxes$Mover", "outcome", "LMovieBoxes$Bytes;", true)
  | 3 => ("MovieBoxes$Mover", "widened", "[Z", true)
  | 4 => ("MovieBoxes$Mover", "payloads", "[I", true)
  | 5 => ("MovieBoxes$Mover", "headers", "[I", true)
  | 6 => ("MovieBoxes$Mover", "movie", "I", false)
  | _ => ("MovieBoxes$Mover", "movieEnd", "I", false)
def ft_V : Nat → FieldType := fun k => match k with
  | 0 => .object "MovieBoxes$Bytes"
  | 1 => .object "MovieBoxes$Layout"
  | 2 => .object "MovieBoxes$Bytes"
  | 3 => .array .boolean
  | 4 => .array .int
  | 5 => .array .int
  | 6 => .int
  | _ => .int
theorem fn_V : ∀ a, a < 8 → ∀ b, b < 8 → a ≠ b → (fd_V a).2.1 ≠ (fd_V b).2.1 := by decide +kernel
theorem fo_V : ∀ k, k < 8 → parseFieldDescriptor (fd_V k).2.2.1 = some (ft_V k) := by decide +kernel
theorem fi_V : ∀ w ∈ u_ws "MovieBoxes$Mover" fd_V 8, w ∈ WS := by
  intro w hw
  obtain ⟨k, hk, rfl⟩ := List.mem_map.mp hw
  have hk := List.mem_range.mp hk
  match k, hk with
  | 0, _ => exact ws_1 (List.mem_of_getElem? (i := 152) rfl) rfl
  | 1, _ => exact ws_1 (List.mem_of_getElem? (i := 154) rfl) rfl
  | 2, _ => exact ws_1 (List.mem_of_getElem? (i := 156) rfl) rfl
  | 3, _ => exact ws_1 (List.mem_of_getElem? (i := 158) rfl) rfl
  | 4, _ => exact ws_1 (List.mem_of_getElem? (i := 160) rfl) rfl
  | 5, _ => exact ws_1 (List.mem_of_getElem? (i := 162) rfl) rfl
  | 6, _ => exact ws_1 (List.mem_of_getElem? (i := 164) rfl) rfl
  | 7, _ => exact ws_1 (List.mem_of_getElem? (i := 166) rfl) rfl
def fd_R : u_T := fun k => match k with
  | 0 => ("MovieBoxesModel", "file", "[I", true)
  | 1 => ("MovieBoxesModel", "size", "I", false)
  | 2 => ("MovieBoxesModel", "count", "I", false)
  | 3 => ("MovieBoxesModel", "at", "[I", true)
  | 4 => ("MovieBoxesModel", "len", "[I", true)
  | 5 => ("MovieBoxesModel", "type", "[I", true)
  | 6 => ("MovieBoxesModel", "head", "[I", true)
  | 7 => ("MovieBoxesModel", "level", "[I", true)
  | 8 => ("MovieBoxesModel", "holder", "[I", true)
  | 9 => ("MovieBoxesModel", "end", "[I", true)
  | 10 => ("MovieBoxesModel", "open", "[I", true)
  | 11 => ("MovieBoxesModel", "movie", "I", false)
  | 12 => ("MovieBoxesModel", "trackCount", "I", false)
  | 13 => ("MovieBoxesModel", "trackBox", "[I", true)
  | 14 => ("MovieBoxesModel", "table", "[I", true)
  | 15 => ("MovieBoxesModel", "home", "[I", true)
  | 16 => ("MovieBoxesModel", "newHead", "[I", true)
  | 17 => ("MovieBoxesModel", "newLen", "[I", true)
  | 18 => ("MovieBoxesModel", "inner", "[I", true)
  | 19 => ("MovieBoxesModel", "out", "[I", true)
  | _ => ("MovieBoxesModel", "outSize", "I", false)
def ft_R : Nat → FieldType := fun k => match k with
  | 0 => .array .int
  | 1 => .int
  | 2 => .int
  | 3 => .array .int
  | 4 => .array .int
  | 5 => .array .int
  | 6 => .array .int
  | 7 => .array .int
  | 8 => .array .int
  | 9 => .array .int
  | 10 => .array .int
  | 11 => .int
  | 12 => .int
  | 13 => .array .int
  | 14 => .array .int
  | 15 => .array .int
  | 16 => .array .int
  | 17 => .array .int
  | 18 => .array .int
  | 19 => .array .int
  | _ => .int
theorem fn_R : ∀ a, a < 21 → ∀ b, b < 21 → a ≠ b → (fd_R a).2.1 ≠ (fd_R b).2.1 := by decide +kernel
theorem fo_R : ∀ k, k < 21 → parseFieldDescriptor (fd_R k).2.2.1 = some (ft_R k) := by decide +kernel
theorem fi_R : ∀ w ∈ u_ws "MovieBoxesModel" fd_R 21, w ∈ WS := by
  intro w hw
  obtain ⟨k, hk, rfl⟩ := List.mem_map.mp hw
  have hk := List.mem_range.mp hk
  match k, hk with
  | 0, _ => exact ws_3 (List.mem_of_getElem? (i := 134) rfl) rfl
  | 1, _ => exact ws_3 (List.mem_of_getElem? (i := 136) rfl) rfl
  | 2, _ => exact ws_3 (List.mem_of_getElem? (i := 138) rfl) rfl
  | 3, _ => exact ws_3 (List.mem_of_getElem? (i := 140) rfl) rfl
  | 4, _ => exact ws_3 (List.mem_of_getElem? (i := 142) rfl) rfl
  | 5, _ => exact ws_3 (List.mem_of_getElem? (i := 144) rfl) rfl
  | 6, _ => exact ws_3 (List.mem_of_getElem? (i := 146) rfl) rfl
  | 7, _ => exact ws_3 (List.mem_of_getElem? (i := 148) rfl) rfl
  | 8, _ => exact ws_3 (List.mem_of_getElem? (i := 150) rfl) rfl
  | 9, _ => exact ws_3 (List.mem_of_getElem? (i := 152) rfl) rfl
  | 10, _ => exact ws_3 (List.mem_of_getElem? (i := 154) rfl) rfl
  | 11, _ => exact ws_3 (List.mem_of_getElem? (i := 156) rfl) rfl
  | 12, _ => exact ws_3 (List.mem_of_getElem? (i := 158) rfl) rfl
  | 13, _ => exact ws_3 (List.mem_of_getElem? (i := 160) rfl) rfl
  | 14, _ => exact ws_3 (List.mem_of_getElem? (i := 162) rfl) rfl
  | 15, _ => exact ws_3 (List.mem_of_getElem? (i := 164) rfl) rfl
  | 16, _ => exact ws_3 (List.mem_of_getElem? (i := 166) rfl) rfl
  | 17, _ => exact ws_3 (List.mem_of_getElem? (i := 168) rfl) rfl
  | 18, _ => exact ws_3 (List.mem_of_getElem? (i := 170) rfl) rfl
  | 19, _ => exact ws_3 (List.mem_of_getElem? (i := 172) rfl) rfl
  | 20, _ => exact ws_3 (List.mem_of_getElem? (i := 174) rfl) rfl
  | k + 21, h => exact absurd h (by omega)
abbrev classes : List vw_C := [("MovieBoxes", fd_M, 7), ("MovieBoxes$Bytes", fd_B, 2), ("MovieBoxes$Layout", fd_L, 3), ("MovieBoxes$Table", fd_T, 6), ("MovieBoxes$SizeTable", fd_Z, 5), ("MovieBoxes$Track", fd_K, 10), ("MovieBoxes$Mover", fd_V, 8), ("MovieBoxesModel", fd_R, 21)]
end
section
abbrev mx_Y : Type := MethodName × ByteArray × Nat × Option FieldType × Nat
abbrev bb_M_init : ByteArray := prog_1_method_1_code
abbrev Y_M_init : mx_Y := (⟨"MovieBoxes", "<init>", "()V"⟩, bb_M_init, 2, none, 3)
abbrev bb_B_init : ByteArray := prog_2_method_1_code
abbrev Y_B_init : mx_Y := (⟨"MovieBoxes$Bytes", "<init>", "()V"⟩, bb_B_init, 1, none, 1)
abbrev bb_L_init : ByteArray := prog_3_method_1_code
abbrev Y_L_init : mx_Y := (⟨"MovieBoxes$Layout", "<init>", "(LMovieBoxes$Bytes;)V"⟩, bb_L_init, 2, none, 1)
abbrev bb_K_init : ByteArray := prog_7_method_1_code
abbrev Y_K_init : mx_Y := (⟨"MovieBoxes$Track", "<init>", "(LMovieBoxes$Bytes;LMovieBoxes$Layout;)V"⟩, bb_K_init, 3, none, 2)
abbrev bb_T_init : ByteArray := prog_6_method_1_code
abbrev Y_T_init : mx_Y := (⟨"MovieBoxes$Table", "<init>", "(LMovieBoxes$Bytes;)V"⟩, bb_T_init, 2, none, 1)
abbrev bb_Z_init : ByteArray := prog_5_method_1_code
abbrev Y_Z_init : mx_Y := (⟨"MovieBoxes$SizeTable", "<init>", "(LMovieBoxes$Bytes;)V"⟩, bb_Z_init, 2, none, 1)
abbrev bb_V_init : ByteArray := prog_4_method_1_code
abbrev Y_V_init : mx_Y := (⟨"MovieBoxes$Mover", "<init>", "(LMovieBoxes$Bytes;LMovieBoxes$Layout;)V"⟩, bb_V_init, 3, none, 2)
abbrev bb_M_append : ByteArray := prog_1_method_2_code
abbrev Y_M_append : mx_Y := (⟨"MovieBoxes", "append", "(JI)I"⟩, bb_M_append, 5, (some .int), 1)
abbrev bb_B_size : ByteArray := prog_2_method_2_code
abbrev Y_B_size : mx_Y := (⟨"MovieBoxes$Bytes", "size", "()I"⟩, bb_B_size, 1, (some .int), 0)
abbrev bb_B_add : ByteArray := prog_2_method_7_code
abbrev Y_B_add : mx_Y := (⟨"MovieBoxes$Bytes", "add", "(I)V"⟩, bb_B_add, 2, none, 0)
abbrev bb_M_poke : ByteArray := prog_1_method_3_code
abbrev Y_M_poke : mx_Y := (⟨"MovieBoxes", "poke", "(II)I"⟩, bb_M_poke, 4, (some .int), 2)
abbrev bb_B_has : ByteArray := prog_2_method_3_code
abbrev Y_B_has : mx_Y := (⟨"MovieBoxes$Bytes", "has", "(I)Z"⟩, bb_B_has, 2, (some .boolean), 0)
abbrev bb_B_at : ByteArray := prog_2_method_4_code
abbrev Y_B_at : mx_Y := (⟨"MovieBoxes$Bytes", "at", "(I)I"⟩, bb_B_at, 2, (some .int), 0)
abbrev bb_B_put : ByteArray := prog_2_method_6_code
abbrev Y_B_put : mx_Y := (⟨"MovieBoxes$Bytes", "put", "(II)V"⟩, bb_B_put, 3, none, 1)
abbrev bb_M_cut : ByteArray := prog_1_method_4_code
abbrev Y_M_cut : mx_Y := (⟨"MovieBoxes", "cut", "(I)Z"⟩, bb_M_cut, 2, (some .boolean), 1)
abbrev bb_B_keep : ByteArray := prog_2_method_10_code
abbrev Y_B_keep : mx_Y := (⟨"MovieBoxes$Bytes", "keep", "(I)V"⟩, bb_B_keep, 2, none, 0)
abbrev bb_M_length : ByteArray := prog_1_method_5_code
abbrev Y_M_length : mx_Y := (⟨"MovieBoxes", "length", "()I"⟩, bb_M_length, 1, (some .int), 1)
abbrev bb_M_peek : ByteArray := prog_1_method_6_code
abbrev Y_M_peek : mx_Y := (⟨"MovieBoxes", "peek", "(I)I"⟩, bb_M_peek, 2, (some .int), 1)
abbrev bb_M_check : ByteArray := prog_1_method_7_code
abbrev Y_M_check : mx_Y := (⟨"MovieBoxes", "check", "()I"⟩, bb_M_check, 1, (some .int), 6)
abbrev bb_M_look : ByteArray := prog_1_method_15_code
abbrev Y_M_look : mx_Y := (⟨"MovieBoxes", "look", "()V"⟩, bb_M_look, 2, none, 5)
abbrev bb_L_read : ByteArray := prog_3_method_8_code
abbrev Y_L_read : mx_Y := (⟨"MovieBoxes$Layout", "read", "()I"⟩, bb_L_read, 7, (some .int), 4)
abbrev bb_L_openHolder : ByteArray := prog_3_method_9_code
abbrev Y_L_openHolder : mx_Y := (⟨"MovieBoxes$Layout", "openHolder", "(II)I"⟩, bb_L_openHolder, 5, (some .int), 1)
abbrev bb_L_endOf : ByteArray := prog_3_method_4_code
abbrev Y_L_endOf : mx_Y := (⟨"MovieBoxes$Layout", "endOf", "(I)I"⟩, bb_L_endOf, 2, (some .int), 0)
abbrev bb_L_of : ByteArray := prog_3_method_3_code
abbrev Y_L_of : mx_Y := (⟨"MovieBoxes$Layout", "of", "(II)I"⟩, bb_L_of, 3, (some .int), 0)
abbrev bb_L_readBox : ByteArray := prog_3_method_10_code
abbrev Y_L_readBox : mx_Y := (⟨"MovieBoxes$Layout", "readBox", "(III)Z"⟩, bb_L_readBox, 7, (some .boolean), 3)
abbrev bb_B_pairAt : ByteArray := prog_2_method_5_code
abbrev Y_B_pairAt : mx_Y := (⟨"MovieBoxes$Bytes", "pairAt", "(I)I"⟩, bb_B_pairAt, 2, (some .int), 0)
abbrev bb_L_note : ByteArray := prog_3_method_11_code
abbrev Y_L_note : mx_Y := (⟨"MovieBoxes$Layout", "note", "(IIII)V"⟩, bb_L_note, 7, none, 2)
abbrev bb_L_kindOf : ByteArray := prog_3_method_12_code
abbrev Y_L_kindOf : mx_Y := (⟨"MovieBoxes$Layout", "kindOf", "(II)I"⟩, bb_L_kindOf, 3, (some .int), 1)
abbrev bb_L_isTable : ByteArray := prog_3_method_13_code
abbrev Y_L_isTable : mx_Y := (⟨"MovieBoxes$Layout", "isTable", "(I)Z"⟩, bb_L_isTable, 1, (some .boolean), 0)
abbrev bb_L_holdsBoxes : ByteArray := prog_3_method_7_code
abbrev Y_L_holdsBoxes : mx_Y := (⟨"MovieBoxes$Layout", "holdsBoxes", "(I)Z"⟩, bb_L_holdsBoxes, 3, (some .boolean), 1)
abbrev bb_L_payloadOf : ByteArray := prog_3_method_5_code
abbrev Y_L_payloadOf : mx_Y := (⟨"MovieBoxes$Layout", "payloadOf", "(I)I"⟩, bb_L_payloadOf, 2, (some .int), 0)
abbrev bb_L_kindsHold : ByteArray := prog_3_method_16_code
abbrev Y_L_kindsHold : mx_Y := (⟨"MovieBoxes$Layout", "kindsHold", "()Z"⟩, bb_L_kindsHold, 3, (some .boolean), 2)
abbrev bb_L_countIn : ByteArray := prog_3_method_15_code
abbrev Y_L_countIn : mx_Y := (⟨"MovieBoxes$Layout", "countIn", "(II)I"⟩, bb_L_countIn, 5, (some .int), 0)
abbrev bb_L_find : ByteArray := prog_3_method_14_code
abbrev Y_L_find : mx_Y := (⟨"MovieBoxes$Layout", "find", "(II)I"⟩, bb_L_find, 4, (some .int), 0)
abbrev bb_L_trackKindsHold : ByteArray := prog_3_method_17_code
abbrev Y_L_trackKindsHold : mx_Y := (⟨"MovieBoxes$Layout", "trackKindsHold", "(I)Z"⟩, bb_L_trackKindsHold, 2, (some .boolean), 1)
abbrev bb_M_bindTracks : ByteArray := prog_1_method_18_code
abbrev Y_M_bindTracks : mx_Y := (⟨"MovieBoxes", "bindTracks", "()V"⟩, bb_M_bindTracks, 2, none, 3)
abbrev bb_L_size : ByteArray := prog_3_method_2_code
abbrev Y_L_size : mx_Y := (⟨"MovieBoxes$Layout", "size", "()I"⟩, bb_L_size, 1, (some .int), 0)
abbrev bb_K_bind : ByteArray := prog_7_method_2_code
abbrev Y_K_bind : mx_Y := (⟨"MovieBoxes$Track", "bind", "(I)V"⟩, bb_K_bind, 3, none, 2)
abbrev bb_T_bind : ByteArray := prog_6_method_2_code
abbrev Y_T_bind : mx_Y := (⟨"MovieBoxes$Table", "bind", "(LMovieBoxes$Layout;II)V"⟩, bb_T_bind, 4, none, 1)
abbrev bb_L_payloadSizeOf : ByteArray := prog_3_method_6_code
abbrev Y_L_payloadSizeOf : mx_Y := (⟨"MovieBoxes$Layout", "payloadSizeOf", "(I)I"⟩, bb_L_payloadSizeOf, 2, (some .int), 0)
abbrev bb_Z_bind : ByteArray := prog_5_method_2_code
abbrev Y_Z_bind : mx_Y := (⟨"MovieBoxes$SizeTable", "bind", "(LMovieBoxes$Layout;I)V"⟩, bb_Z_bind, 3, none, 1)
abbrev bb_M_tableFault : ByteArray := prog_1_method_19_code
abbrev Y_M_tableFault : mx_Y := (⟨"MovieBoxes", "tableFault", "()I"⟩, bb_M_tableFault, 2, (some .int), 4)
abbrev bb_K_rowsHold : ByteArray := prog_7_method_3_code
abbrev Y_K_rowsHold : mx_Y := (⟨"MovieBoxes$Track", "rowsHold", "()Z"⟩, bb_K_rowsHold, 1, (some .boolean), 3)
abbrev bb_Z_lengthHolds : ByteArray := prog_5_method_4_code
abbrev Y_Z_lengthHolds : mx_Y := (⟨"MovieBoxes$SizeTable", "lengthHolds", "()Z"⟩, bb_Z_lengthHolds, 1, (some .boolean), 0)
abbrev bb_T_lengthHolds : ByteArray := prog_6_method_4_code
abbrev Y_T_lengthHolds : mx_Y := (⟨"MovieBoxes$Table", "lengthHolds", "()Z"⟩, bb_T_lengthHolds, 1, (some .boolean), 0)
abbrev bb_T_rows : ByteArray := prog_6_method_5_code
abbrev Y_T_rows : mx_Y := (⟨"MovieBoxes$Table", "rows", "()I"⟩, bb_T_rows, 1, (some .int), 0)
abbrev bb_T_value : ByteArray := prog_6_method_6_code
abbrev Y_T_value : mx_Y := (⟨"MovieBoxes$Table", "value", "(II)I"⟩, bb_T_value, 3, (some .int), 1)
abbrev bb_T_grows : ByteArray := prog_6_method_9_code
abbrev Y_T_grows : mx_Y := (⟨"MovieBoxes$Table", "grows", "()Z"⟩, bb_T_grows, 2, (some .boolean), 2)
abbrev bb_K_everyChunkRowHasSamples : ByteArray := prog_7_method_4_code
abbrev Y_K_everyChunkRowHasSamples : mx_Y := (⟨"MovieBoxes$Track", "everyChunkRowHasSamples", "()Z"⟩, bb_K_everyChunkRowHasSamples, 2, (some .boolean), 2)
abbrev bb_K_countsHold : ByteArray := prog_7_method_5_code
abbrev Y_K_countsHold : mx_Y := (⟨"MovieBoxes$Track", "countsHold", "()Z"⟩, bb_K_countsHold, 2, (some .boolean), 3)
abbrev bb_Z_count : ByteArray := prog_5_method_3_code
abbrev Y_Z_count : mx_Y := (⟨"MovieBoxes$SizeTable", "count", "()I"⟩, bb_Z_count, 1, (some .int), 0)
abbrev bb_T_totalOfCounts : ByteArray := prog_6_method_8_code
abbrev Y_T_totalOfCounts : mx_Y := (⟨"MovieBoxes$Table", "totalOfCounts", "()I"⟩, bb_T_totalOfCounts, 3, (some .int), 2)
abbrev bb_T_isPresent : ByteArray := prog_6_method_3_code
abbrev Y_T_isPresent : mx_Y := (⟨"MovieBoxes$Table", "isPresent", "()Z"⟩, bb_T_isPresent, 1, (some .boolean), 0)
abbrev bb_K_chunkRowsMeetChunks : ByteArray := prog_7_method_6_code
abbrev Y_K_chunkRowsMeetChunks : mx_Y := (⟨"MovieBoxes$Track", "chunkRowsMeetChunks", "()Z"⟩, bb_K_chunkRowsMeetChunks, 2, (some .boolean), 2)
abbrev bb_K_samplesInChunks : ByteArray := prog_7_method_7_code
abbrev Y_K_samplesInChunks : mx_Y := (⟨"MovieBoxes$Track", "samplesInChunks", "()I"⟩, bb_K_samplesInChunks, 5, (some .int), 2)
abbrev bb_K_syncsStayWithin : ByteArray := prog_7_method_8_code
abbrev Y_K_syncsStayWithin : mx_Y := (⟨"MovieBoxes$Track", "syncsStayWithin", "(I)Z"⟩, bb_K_syncsStayWithin, 3, (some .boolean), 2)
abbrev bb_K_dataHolds : ByteArray := prog_7_method_9_code
abbrev Y_K_dataHolds : mx_Y := (⟨"MovieBoxes$Track", "dataHolds", "()Z"⟩, bb_K_dataHolds, 7, (some .boolean), 3)
abbrev bb_K_chunkRow : ByteArray := prog_7_method_10_code
abbrev Y_K_chunkRow : mx_Y := (⟨"MovieBoxes$Track", "chunkRow", "(II)I"⟩, bb_K_chunkRow, 4, (some .int), 2)
abbrev bb_T_number : ByteArray := prog_6_method_7_code
abbrev Y_T_number : mx_Y := (⟨"MovieBoxes$Table", "number", "(I)I"⟩, bb_T_number, 2, (some .int), 2)
abbrev bb_L_dataAround : ByteArray := prog_3_method_18_code
abbrev Y_L_dataAround : mx_Y := (⟨"MovieBoxes$Layout", "dataAround", "(I)I"⟩, bb_L_dataAround, 5, (some .int), 0)
abbrev bb_K_bytesOf : ByteArray := prog_7_method_11_code
abbrev Y_K_bytesOf : mx_Y := (⟨"MovieBoxes$Track", "bytesOf", "(II)I"⟩, bb_K_bytesOf, 5, (some .int), 2)
abbrev bb_Z_sizeOf : ByteArray := prog_5_method_5_code
abbrev Y_Z_sizeOf : mx_Y := (⟨"MovieBoxes$SizeTable", "sizeOf", "(I)I"⟩, bb_Z_sizeOf, 2, (some .int), 1)
abbrev bb_K_spread : ByteArray := prog_7_method_12_code
abbrev Y_K_spread : mx_Y := (⟨"MovieBoxes$Track", "spread", "()V"⟩, bb_K_spread, 1, none, 4)
abbrev bb_J_min : ByteArray := prog_10_method_69_code
abbrev Y_J_min : mx_Y := (⟨"java/lang/Math", "min", "(II)I"⟩, bb_J_min, 2, (some .int), 0)
abbrev bb_K_spreadDurations : ByteArray := prog_7_method_13_code
abbrev Y_K_spreadDurations : mx_Y := (⟨"MovieBoxes$Track", "spreadDurations", "()V"⟩, bb_K_spreadDurations, 6, none, 2)
abbrev bb_K_spreadShifts : ByteArray := prog_7_method_14_code
abbrev Y_K_spreadShifts : mx_Y := (⟨"MovieBoxes$Track", "spreadShifts", "()V"⟩, bb_K_spreadShifts, 5, none, 2)
abbrev bb_K_spreadSyncs : ByteArray := prog_7_method_15_code
abbrev Y_K_spreadSyncs : mx_Y := (⟨"MovieBoxes$Track", "spreadSyncs", "()V"⟩, bb_K_spreadSyncs, 4, none, 2)
abbrev bb_K_spreadChunks : ByteArray := prog_7_method_16_code
abbrev Y_K_spreadChunks : mx_Y := (⟨"MovieBoxes$Track", "spreadChunks", "()V"⟩, bb_K_spreadChunks, 6, none, 3)
abbrev bb_M_boxes : ByteArray := prog_1_method_8_code
abbrev Y_M_boxes : mx_Y := (⟨"MovieBoxes", "boxes", "()I"⟩, bb_M_boxes, 1, (some .int), 6)
abbrev bb_M_boxesAreKnown : ByteArray := prog_1_method_16_code
abbrev Y_M_boxesAreKnown : mx_Y := (⟨"MovieBoxes", "boxesAreKnown", "()Z"⟩, bb_M_boxesAreKnown, 1, (some .boolean), 0)
abbrev bb_M_box : ByteArray := prog_1_method_9_code
abbrev Y_M_box : mx_Y := (⟨"MovieBoxes", "box", "(II)I"⟩, bb_M_box, 3, (some .int), 6)
abbrev bb_M_tracks : ByteArray := prog_1_method_10_code
abbrev Y_M_tracks : mx_Y := (⟨"MovieBoxes", "tracks", "()I"⟩, bb_M_tracks, 1, (some .int), 6)
abbrev bb_M_samples : ByteArray := prog_1_method_11_code
abbrev Y_M_samples : mx_Y := (⟨"MovieBoxes", "samples", "(I)I"⟩, bb_M_samples, 3, (some .int), 6)
abbrev bb_M_soundTrack : ByteArray := prog_1_method_17_code
abbrev Y_M_soundTrack : mx_Y := (⟨"MovieBoxes", "soundTrack", "(I)LMovieBoxes$Track;"⟩, bb_M_soundTrack, 2, (some (.object "MovieBoxes$Track")), 0)
abbrev bb_K_sampleCount : ByteArray := prog_7_method_17_code
abbrev Y_K_sampleCount : mx_Y := (⟨"MovieBoxes$Track", "sampleCount", "()I"⟩, bb_K_sampleCount, 1, (some .int), 0)
abbrev bb_M_sample : ByteArray := prog_1_method_12_code
abbrev Y_M_sample : mx_Y := (⟨"MovieBoxes", "sample", "(III)I"⟩, bb_M_sample, 5, (some .int), 6)
abbrev bb_K_of : ByteArray := prog_7_method_18_code
abbrev Y_K_of : mx_Y := (⟨"MovieBoxes$Track", "of", "(II)I"⟩, bb_K_of, 3, (some .int), 0)
abbrev bb_M_shown : ByteArray := prog_1_method_13_code
abbrev Y_M_shown : mx_Y := (⟨"MovieBoxes", "shown", "(II)I"⟩, bb_M_shown, 4, (some .int), 6)
abbrev bb_K_shownAt : ByteArray := prog_7_method_19_code
abbrev Y_K_shownAt : mx_Y := (⟨"MovieBoxes$Track", "shownAt", "(I)I"⟩, bb_K_shownAt, 5, (some .int), 3)
abbrev bb_K_mediaTime : ByteArray := prog_7_method_20_code
abbrev Y_K_mediaTime : mx_Y := (⟨"MovieBoxes$Track", "mediaTime", "(I)I"⟩, bb_K_mediaTime, 6, (some .int), 2)
abbrev bb_M_fastStart : ByteArray := prog_1_method_14_code
abbrev Y_M_fastStart : mx_Y := (⟨"MovieBoxes", "fastStart", "()I"⟩, bb_M_fastStart, 4, (some .int), 6)
abbrev bb_V_move : ByteArray := prog_4_method_2_code
abbrev Y_V_move : mx_Y := (⟨"MovieBoxes$Mover", "move", "(II)I"⟩, bb_V_move, 6, (some .int), 5)
abbrev bb_V_behindMovie : ByteArray := prog_4_method_3_code
abbrev Y_V_behindMovie : mx_Y := (⟨"MovieBoxes$Mover", "behindMovie", "()I"⟩, bb_V_behindMovie, 2, (some .int), 1)
abbrev bb_V_settleWidths : ByteArray := prog_4_method_4_code
abbrev Y_V_settleWidths : mx_Y := (⟨"MovieBoxes$Mover", "settleWidths", "()V"⟩, bb_V_settleWidths, 2, none, 4)
abbrev bb_V_measure : ByteArray := prog_4_method_5_code
abbrev Y_V_measure : mx_Y := (⟨"MovieBoxes$Mover", "measure", "()V"⟩, bb_V_measure, 3, none, 3)
abbrev bb_V_ownPayload : ByteArray := prog_4_method_6_code
abbrev Y_V_ownPayload : mx_Y := (⟨"MovieBoxes$Mover", "ownPayload", "(I)I"⟩, bb_V_ownPayload, 3, (some .int), 2)
abbrev bb_V_rowsOf : ByteArray := prog_4_method_9_code
abbrev Y_V_rowsOf : mx_Y := (⟨"MovieBoxes$Mover", "rowsOf", "(I)I"⟩, bb_V_rowsOf, 2, (some .int), 1)
abbrev bb_V_newHeader : ByteArray := prog_4_method_7_code
abbrev Y_V_newHeader : mx_Y := (⟨"MovieBoxes$Mover", "newHeader", "(I)I"⟩, bb_V_newHeader, 4, (some .int), 1)
abbrev bb_V_newSize : ByteArray := prog_4_method_8_code
abbrev Y_V_newSize : mx_Y := (⟨"MovieBoxes$Mover", "newSize", "(I)I"⟩, bb_V_newSize, 2, (some .int), 0)
abbrev bb_V_widenSome : ByteArray := prog_4_method_10_code
abbrev Y_V_widenSome : mx_Y := (⟨"MovieBoxes$Mover", "widenSome", "()Z"⟩, bb_V_widenSome, 3, (some .boolean), 3)
abbrev bb_V_outgrowsBytes : ByteArray := prog_4_method_11_code
abbrev Y_V_outgrowsBytes : mx_Y := (⟨"MovieBoxes$Mover", "outgrowsBytes", "(I)Z"⟩, bb_V_outgrowsBytes, 3, (some .boolean), 2)
abbrev bb_V_oldPlace : ByteArray := prog_4_method_12_code
abbrev Y_V_oldPlace : mx_Y := (⟨"MovieBoxes$Mover", "oldPlace", "(II)I"⟩, bb_V_oldPlace, 5, (some .int), 1)
abbrev bb_V_newPlace : ByteArray := prog_4_method_13_code
abbrev Y_V_newPlace : mx_Y := (⟨"MovieBoxes$Mover", "newPlace", "(I)I"⟩, bb_V_newPlace, 4, (some .int), 1)
abbrev bb_B_addPart : ByteArray := prog_2_method_9_code
abbrev Y_B_addPart : mx_Y := (⟨"MovieBoxes$Bytes", "addPart", "(LMovieBoxes$Bytes;II)V"⟩, bb_B_addPart, 5, none, 1)
abbrev bb_V_writeBox : ByteArray := prog_4_method_14_code
abbrev Y_V_writeBox : mx_Y := (⟨"MovieBoxes$Mover", "writeBox", "(I)V"⟩, bb_V_writeBox, 3, none, 3)
abbrev bb_V_writeHeader : ByteArray := prog_4_method_15_code
abbrev Y_V_writeHeader : mx_Y := (⟨"MovieBoxes$Mover", "writeHeader", "(I)V"⟩, bb_V_writeHeader, 4, none, 2)
abbrev bb_B_addPair : ByteArray := prog_2_method_8_code
abbrev Y_B_addPair : mx_Y := (⟨"MovieBoxes$Bytes", "addPair", "(I)V"⟩, bb_B_addPair, 2, none, 1)
abbrev bb_V_writePlaces : ByteArray := prog_4_method_16_code
abbrev Y_V_writePlaces : mx_Y := (⟨"MovieBoxes$Mover", "writePlaces", "(I)V"⟩, bb_V_writePlaces, 5, none, 2)
abbrev bb_B_become : ByteArray := prog_2_method_11_code
abbrev Y_B_become : mx_Y := (⟨"MovieBoxes$Bytes", "become", "(LMovieBoxes$Bytes;)V"⟩, bb_B_become, 2, none, 2)
abbrev bb_R_init : ByteArray := prog_9_method_1_code
abbrev Y_R_init : mx_Y := (⟨"MovieBoxesModel", "<init>", "()V"⟩, bb_R_init, 1, none, 1)
abbrev bb_R_append : ByteArray := prog_9_method_2_code
abbrev Y_R_append : mx_Y := (⟨"MovieBoxesModel", "append", "(JI)I"⟩, bb_R_append, 5, (some .int), 0)
abbrev bb_R_poke : ByteArray := prog_9_method_3_code
abbrev Y_R_poke : mx_Y := (⟨"MovieBoxesModel", "poke", "(II)I"⟩, bb_R_poke, 4, (some .int), 0)
abbrev bb_R_cut : ByteArray := prog_9_method_4_code
abbrev Y_R_cut : mx_Y := (⟨"MovieBoxesModel", "cut", "(I)Z"⟩, bb_R_cut, 2, (some .boolean), 0)
abbrev bb_R_length : ByteArray := prog_9_method_5_code
abbrev Y_R_length : mx_Y := (⟨"MovieBoxesModel", "length", "()I"⟩, bb_R_length, 1, (some .int), 0)
abbrev bb_R_peek : ByteArray := prog_9_method_6_code
abbrev Y_R_peek : mx_Y := (⟨"MovieBoxesModel", "peek", "(I)I"⟩, bb_R_peek, 2, (some .int), 0)
abbrev bb_R_check : ByteArray := prog_9_method_13_code
abbrev Y_R_check : mx_Y := (⟨"MovieBoxesModel", "check", "()I"⟩, bb_R_check, 7, (some .int), 4)
abbrev bb_R_read : ByteArray := prog_9_method_7_code
abbrev Y_R_read : mx_Y := (⟨"MovieBoxesModel", "read", "()I"⟩, bb_R_read, 5, (some .int), 1)
abbrev bb_R_readOne : ByteArray := prog_9_method_8_code
abbrev Y_R_readOne : mx_Y := (⟨"MovieBoxesModel", "readOne", "(III)Z"⟩, bb_R_readOne, 7, (some .boolean), 0)
abbrev bb_R_isHolder : ByteArray := prog_9_method_9_code
abbrev Y_R_isHolder : mx_Y := (⟨"MovieBoxesModel", "isHolder", "(I)Z"⟩, bb_R_isHolder, 2, (some .boolean), 0)
abbrev bb_R_kindsWrong : ByteArray := prog_9_method_14_code
abbrev Y_R_kindsWrong : mx_Y := (⟨"MovieBoxesModel", "kindsWrong", "()Z"⟩, bb_R_kindsWrong, 6, (some .boolean), 1)
abbrev bb_R_kindOf : ByteArray := prog_9_method_12_code
abbrev Y_R_kindOf : mx_Y := (⟨"MovieBoxesModel", "kindOf", "(I)I"⟩, bb_R_kindOf, 1, (some .int), 0)
abbrev bb_R_rowsWrong : ByteArray := prog_9_method_15_code
abbrev Y_R_rowsWrong : mx_Y := (⟨"MovieBoxesModel", "rowsWrong", "(II)Z"⟩, bb_R_rowsWrong, 10, (some .boolean), 1)
abbrev bb_R_payLength : ByteArray := prog_9_method_11_code
abbrev Y_R_payLength : mx_Y := (⟨"MovieBoxesModel", "payLength", "(I)I"⟩, bb_R_payLength, 2, (some .int), 0)
abbrev bb_R_pay : ByteArray := prog_9_method_10_code
abbrev Y_R_pay : mx_Y := (⟨"MovieBoxesModel", "pay", "(II)I"⟩, bb_R_pay, 3, (some .int), 0)
abbrev bb_R_countsWrong : ByteArray := prog_9_method_17_code
abbrev Y_R_countsWrong : mx_Y := (⟨"MovieBoxesModel", "countsWrong", "(I)Z"⟩, bb_R_countsWrong, 12, (some .boolean), 3)
abbrev bb_R_sampleCount : ByteArray := prog_9_method_18_code
abbrev Y_R_sampleCount : mx_Y := (⟨"MovieBoxesModel", "sampleCount", "(I)I"⟩, bb_R_sampleCount, 2, (some .int), 1)
abbrev bb_R_total : ByteArray := prog_9_method_16_code
abbrev Y_R_total : mx_Y := (⟨"MovieBoxesModel", "total", "(I)I"⟩, bb_R_total, 4, (some .int), 1)
abbrev bb_R_chunkCount : ByteArray := prog_9_method_21_code
abbrev Y_R_chunkCount : mx_Y := (⟨"MovieBoxesModel", "chunkCount", "(I)I"⟩, bb_R_chunkCount, 3, (some .int), 1)
abbrev bb_R_placesBox : ByteArray := prog_9_method_20_code
abbrev Y_R_placesBox : mx_Y := (⟨"MovieBoxesModel", "placesBox", "(I)I"⟩, bb_R_placesBox, 3, (some .int), 0)
abbrev bb_R_many : ByteArray := prog_9_method_24_code
abbrev Y_R_many : mx_Y := (⟨"MovieBoxesModel", "many", "(II)I"⟩, bb_R_many, 4, (some .int), 2)
abbrev bb_R_rowOf : ByteArray := prog_9_method_23_code
abbrev Y_R_rowOf : mx_Y := (⟨"MovieBoxesModel", "rowOf", "(II)I"⟩, bb_R_rowOf, 6, (some .int), 1)
abbrev bb_R_settle : ByteArray := prog_9_method_26_code
abbrev Y_R_settle : mx_Y := (⟨"MovieBoxesModel", "settle", "(I)Z"⟩, bb_R_settle, 8, (some .boolean), 3)
abbrev bb_R_sizeOf : ByteArray := prog_9_method_19_code
abbrev Y_R_sizeOf : mx_Y := (⟨"MovieBoxesModel", "sizeOf", "(II)I"⟩, bb_R_sizeOf, 5, (some .int), 1)
abbrev bb_R_chunkPlace : ByteArray := prog_9_method_22_code
abbrev Y_R_chunkPlace : mx_Y := (⟨"MovieBoxesModel", "chunkPlace", "(II)I"⟩, bb_R_chunkPlace, 4, (some .int), 1)
abbrev bb_R_dataBox : ByteArray := prog_9_method_25_code
abbrev Y_R_dataBox : mx_Y := (⟨"MovieBoxesModel", "dataBox", "(II)I"⟩, bb_R_dataBox, 4, (some .int), 0)
abbrev bb_R_boxes : ByteArray := prog_9_method_27_code
abbrev Y_R_boxes : mx_Y := (⟨"MovieBoxesModel", "boxes", "()I"⟩, bb_R_boxes, 2, (some .int), 2)
abbrev bb_R_box : ByteArray := prog_9_method_28_code
abbrev Y_R_box : mx_Y := (⟨"MovieBoxesModel", "box", "(II)I"⟩, bb_R_box, 4, (some .int), 2)
abbrev bb_R_tracks : ByteArray := prog_9_method_29_code
abbrev Y_R_tracks : mx_Y := (⟨"MovieBoxesModel", "tracks", "()I"⟩, bb_R_tracks, 2, (some .int), 5)
abbrev bb_R_samples : ByteArray := prog_9_method_31_code
abbrev Y_R_samples : mx_Y := (⟨"MovieBoxesModel", "samples", "(I)I"⟩, bb_R_samples, 2, (some .int), 6)
abbrev bb_R_isTrack : ByteArray := prog_9_method_30_code
abbrev Y_R_isTrack : mx_Y := (⟨"MovieBoxesModel", "isTrack", "(I)Z"⟩, bb_R_isTrack, 3, (some .boolean), 5)
abbrev bb_R_sample : ByteArray := prog_9_method_38_code
abbrev Y_R_sample : mx_Y := (⟨"MovieBoxesModel", "sample", "(III)I"⟩, bb_R_sample, 4, (some .int), 6)
abbrev bb_R_inChunk : ByteArray := prog_9_method_36_code
abbrev Y_R_inChunk : mx_Y := (⟨"MovieBoxesModel", "inChunk", "(III)I"⟩, bb_R_inChunk, 9, (some .int), 3)
abbrev bb_R_decodeTime : ByteArray := prog_9_method_35_code
abbrev Y_R_decodeTime : mx_Y := (⟨"MovieBoxesModel", "decodeTime", "(II)I"⟩, bb_R_decodeTime, 5, (some .int), 3)
abbrev bb_R_durationOf : ByteArray := prog_9_method_33_code
abbrev Y_R_durationOf : mx_Y := (⟨"MovieBoxesModel", "durationOf", "(II)I"⟩, bb_R_durationOf, 3, (some .int), 2)
abbrev bb_R_runValue : ByteArray := prog_9_method_32_code
abbrev Y_R_runValue : mx_Y := (⟨"MovieBoxesModel", "runValue", "(II)I"⟩, bb_R_runValue, 5, (some .int), 1)
abbrev bb_R_shiftOf : ByteArray := prog_9_method_34_code
abbrev Y_R_shiftOf : mx_Y := (⟨"MovieBoxesModel", "shiftOf", "(II)I"⟩, bb_R_shiftOf, 5, (some .int), 2)
abbrev bb_R_isSync : ByteArray := prog_9_method_37_code
abbrev Y_R_isSync : mx_Y := (⟨"MovieBoxesModel", "isSync", "(II)I"⟩, bb_R_isSync, 7, (some .int), 1)
abbrev bb_R_shown : ByteArray := prog_9_method_40_code
abbrev Y_R_shown : mx_Y := (⟨"MovieBoxesModel", "shown", "(II)I"⟩, bb_R_shown, 8, (some .int), 6)
abbrev bb_R_mediaTime : ByteArray := prog_9_method_39_code
abbrev Y_R_mediaTime : mx_Y := (⟨"MovieBoxesModel", "mediaTime", "(II)I"⟩, bb_R_mediaTime, 8, (some .int), 1)
abbrev bb_R_fastStart : ByteArray := prog_9_method_45_code
abbrev Y_R_fastStart : mx_Y := (⟨"MovieBoxesModel", "fastStart", "()I"⟩, bb_R_fastStart, 6, (some .int), 5)
abbrev bb_R_firstData : ByteArray := prog_9_method_44_code
abbrev Y_R_firstData : mx_Y := (⟨"MovieBoxesModel", "firstData", "()I"⟩, bb_R_firstData, 2, (some .int), 0)
abbrev bb_R_layout : ByteArray := prog_9_method_41_code
abbrev Y_R_layout : mx_Y := (⟨"MovieBoxesModel", "layout", "(I)I"⟩, bb_R_layout, 6, (some .int), 1)
abbrev bb_R_tooNarrow : ByteArray := prog_9_method_43_code
abbrev Y_R_tooNarrow : mx_Y := (⟨"MovieBoxesModel", "tooNarrow", "(I)I"⟩, bb_R_tooNarrow, 6, (some .int), 3)
abbrev bb_R_newPlace : ByteArray := prog_9_method_42_code
abbrev Y_R_newPlace : mx_Y := (⟨"MovieBoxesModel", "newPlace", "(III)I"⟩, bb_R_newPlace, 6, (some .int), 2)
abbrev bb_R_write : ByteArray := prog_9_method_47_code
abbrev Y_R_write : mx_Y := (⟨"MovieBoxesModel", "write", "(III)V"⟩, bb_R_write, 5, none, 4)
abbrev bb_R_put : ByteArray := prog_9_method_46_code
abbrev Y_R_put : mx_Y := (⟨"MovieBoxesModel", "put", "(I)V"⟩, bb_R_put, 2, none, 0)
abbrev bb_R_writeBox : ByteArray := prog_9_method_48_code
abbrev Y_R_writeBox : mx_Y := (⟨"MovieBoxesModel", "writeBox", "(III)V"⟩, bb_R_writeBox, 9, none, 3)
abbrev bb_W_law : ByteArray := code
abbrev Y_W_law : mx_Y := (⟨"MovieBoxesLaw", "law", "([I)Z"⟩, bb_W_law, 4, (some .boolean), 7)
end
section
/-! A mirror of the machine over an abstract heap: cells have numbers (places in a list), values that are references are numbers; the script is .retAddr 1, a local that isn't set .retAddr 0. wp: from such a state the method comes to its return, and there Q holds. ct: the contract of a method. -/
abbrev mx_H : Type := List va_E
abbrev mx_T : Type := List (ClassId × FieldType)
abbrev mx_S : Type := Option (Nat × (Nat → Int32))
def mx_ws (Y : mx_Y) : List Cond := Cond.code Y.1 Y.2.1 Y.2.2.1 Y.2.2.2.1 :: WS
def mx_rm (Y : mx_Y) (k n : Nat) : Room := { frames := Y.2.2.2.2, cells := k, slots := n, locals := 40 * Y.2.2.2.2 }
/-- what is known of the tables: classes, array classes, and the two array classes over others -/
def mx_X (ty : mx_T) (U : State) : Prop := va_AO TR U ∧ ∃ qI qG kA, ty[0]? = some qI ∧ ty[3]? = some qG ∧ U.vm.classes[qG.1]? = some kA ∧ kA.kind = .array qI.1 (.array .int)
def mx_K (D : va_G) (ty : mx_T) (U : State) : Prop := va_K D classes ty U ∧ mx_X ty U
theorem mx_K.moved {D : va_G} {ty : mx_T} {u U : State} (hvm : u.vm.Alike U.vm) (h : mx_K D ty u) : mx_K D ty U := by
  obtain ⟨h1, h2, qI, qG, kA, a1, a2, a3, a4⟩ := h
  obtain ⟨k', hk', he⟩ := hvm.2.2 _ _ a3
  exact ⟨va_K.moved hvm h1, h2.moved hvm, qI, qG, k', a1, a2, hk', by rw [he]; exact a4⟩
def rl_v (b : Nat) (as : List Nat) (v v' : Value) : Prop := match v with
  | .ref i => ∃ a, as[i]? = some a ∧ v' = .ref a
  | .retAddr n => n = 1 ∧ v' = .ref b
  | v => v' = v
def rl_s (b : Nat) (as : List Nat) : List Value → List Value → Prop
  | [], l => l = []
  | v :: t, l => ∃ v' t', l = v' :: t' ∧ rl_v b as v v' ∧ rl_s b as t t'
def rl_r (as : List Nat) (x x' : Option Nat) : Prop := match x with
  | none => x' = none
  | some i => ∃ a, as[i]? = some a ∧ x' = some a
def rl_o (b : Nat) (as : List Nat) (v v' : Option Value) : Prop := match v with
  | none => v' = none
  | some x => ∃ x', v' = some x' ∧ rl_v b as x x'
def rl_e (b : Nat) (as : List Nat) (ty : mx_T) (c c' : va_E) : Prop := match c with
  | .inr (ci, fs) => ∃ fs', c' = .inr (ci, fs') ∧ rl_s b as fs fs'
  | .inl (t, n, .inl f) => ∃ q, ty[t]? = some q ∧ c' = .inl (q.1, n, .inl f)
  | .inl (t, n, .inr (.inr (.inr (.inr f)))) => ∃ q f', ty[t]? = some q ∧ c' = .inl (q.1, n, .inr (.inr (.inr (.inr f')))) ∧ ∀ i, rl_r as (f i) (f' i)
  | _ => False
def rl_c (b : Nat) (as : List Nat) (ty : mx_T) (h : mx_H) (ws : va_W) : Prop := ws.map (·.1) = as ∧ as.length = h.length ∧ ∀ (i : Nat) (c : va_E), h[i]? = some c → ∃ a c', ws[i]? = some (a, c') ∧ rl_e b as ty c c'
def rl_w (D : va_G) (ty : mx_T) (A : Nat → Prop) (H0 : Heap) (b : Nat) (as : List Nat) (h : mx_H) (H : Heap) (locs : List Loc) : Prop := ∃ ws : va_W, rl_c b as ty h ws ∧ va_P D classes ws H ∧ va_D A ws ∧ va_S A H0 H locs
def rl_l (b : Nat) (as : List Nat) (L : List Value) (ls : Array Slot) (nL : Nat) : Prop := L.length = nL ∧ ∃ lv, lv_has ls nL lv ∧ ∀ (i : Nat) (v : Value), L[i]? = some v → v ≠ .retAddr 0 → ∃ v', rl_v b as v v' ∧ (i, v') ∈ lv
def fx_R (Y : mx_Y) (pc : Nat) (v' : Option Value) : Prop := match v' with
  | none => decode Y.2.1 pc = .ok (.return_, 1) ∧ Y.2.2.2.1 = none
  | some (.int x) => decode Y.2.1 pc = .ok (.ireturn, 1) ∧ ∃ t, Y.2.2.2.1 = some t ∧ narrow t (.int x) = .int x
  | some v => decode Y.2.1 pc = .ok (.areturn, 1) ∧ ∃ t, Y.2.2.2.1 = some t ∧ ((∃ n, t = .object n) ∨ ∃ u, t = .array u) ∧ (v = .null ∨ ∃ a, v = .ref a)
def fx_C (Y : mx_Y) (sc : mx_S) (D : va_G) (ty : mx_T) (A : Nat → Prop) (H0 : Heap) (b mcT msT : Nat) (p : Program) (R : Room) (s : State) (m : MethodId) (args : Array Value) (meth : Method) (c : Code) : Prop :=
  p.tables.exec = Jvm.exec ∧ c.code = Y.2.1 ∧ meth.sig.returnType = Y.2.2.2.1 ∧ c.maxLocals = Y.2.2.1 ∧ s.vm.findClass Y.1.cls = some m.cls ∧ meth.locks = false ∧ (Y.1.name = "<init>" → meth.name = "<init>") ∧ (∀ w ∈ WS, w.before args s = true) ∧ mx_K D ty s ∧ ty.map (·.2) = TY ∧ Y.2.2.2.2 ≤ R.frames ∧ 40 * Y.2.2.2.2 ≤ R.locals ∧ mcT ≤ R.cells ∧ msT ≤ R.slots ∧ (∀ q, H0.size ≤ q → A q) ∧ (∀ x, sc = some x → va_X b x.1 x.2 s H0 ∧ b < H0.size ∧ ¬ A b)
/-- from this state of method Y (k cells and n slots may still be made) the method returns, and Q holds of its answer and the heap then -/
def wp_m (l : Launch) (Y : mx_Y) (sc : mx_S) (k n : Nat) (pc : Nat) (L st : List Value) (h : mx_H) (Q : Option Value → mx_H → Prop) : Prop :=
  ∀ (D : va_G) (ty : mx_T) (A : Nat → Prop) (H0 : Heap) (b : Nat) (as0 : List Nat) (mcT msT : Nat) (p : Program) (e : Env) (R : Room) (s : State) (m : MethodId) (args : Array Value) (below : List Frame) (meth : Method) (c : Code) (Z : State → Prop),
    fx_C Y sc D ty A H0 b mcT msT p R s m args meth c →
    (∀ (as : List Nat) (h' : mx_H) (H : Heap) (locs : List Loc) (pc' : Nat) (ls : Array Slot) (v v' : Option Value), rl_w D ty A H0 b as h' H locs → as0 <+: as → fx_R Y pc' v' → rl_o b as v v' → Q v h' → W p l e R s m args below meth c H locs mcT msT Z (F0 m pc' ls v'.toList)) →
    ∀ (as : List Nat) (H : Heap) (locs : List Loc) (ls : Array Slot) (st' : List Value) (cells slots : Nat), rl_w D ty A H0 b as h H locs → as0 <+: as → rl_l b as L ls Y.2.2.1 → rl_s b as st st' → cells + k ≤ mcT → slots + n ≤ msT →
    W p l e R s m args below meth c H locs cells slots Z (F0 m pc ls st')
section MX
variable {l : Launch} {Y : mx_Y} {sc : mx_S} {k n : Nat} {pc : Nat} {L st : List Value} {h : mx_H} {Q : Option Value → mx_H → Prop}

theorem wp_iconst {i : Int} {v : Int32} (hi : decode Y.2.1 pc = .ok (.iconst i, 1)) (hv : Int32.ofInt i = v) (kk : wp_m l Y sc k n (pc + 1) L (.int v :: st) h Q) : wp_m l Y sc k n pc L (st) h Q := by
  intro D ty A H0 b as0 mcT msT p e R s m args below meth c Z hC hR as H locs ls st' cells slots hw hpre hl hs hk hn
  exact lv_iconst hC.1 hC.2.1 hi hv (kk D ty A H0 b as0 mcT msT p e R s m args below meth c Z hC hR as H locs ls _ cells slots hw hpre hl ⟨_, _, rfl, rfl, hs⟩ hk hn)
theorem wp_bipush {i : Int} {v : Int32} (hi : decode Y.2.1 pc = .ok (.bipush i, 2)) (hv : (Int8.ofInt i).toInt32 = v) (kk : wp_m l Y sc k n (pc + 2) L (.int v :: st) h Q) : wp_m l Y sc k n pc L (st) h Q := by
  intro D ty A H0 b as0 mcT msT p e R s m args below meth c Z hC hR as H locs ls st' cells slots hw hpre hl hs hk hn
  exact lv_bipush hC.1 hC.2.1 hi hv (kk D ty A H0 b as0 mcT msT p e R s m args below meth c Z hC hR as H locs ls _ cells slots hw hpre hl ⟨_, _, rfl, rfl, hs⟩ hk hn)
theorem wp_sipush {i : Int} {v : Int32} (hi : decode Y.2.1 pc = .ok (.sipush i, 3)) (hv : (Int16.ofInt i).toInt32 = v) (kk : wp_m l Y sc k n (pc + 3) L (.int v :: st) h Q) : wp_m l Y sc k n pc L (st) h Q := by
  intro D ty A H0 b as0 mcT msT p e R s m args below meth c Z hC hR as H locs ls st' cells slots hw hpre hl hs hk hn
  exact lv_sipush hC.1 hC.2.1 hi hv (kk D ty A H0 b as0 mcT msT p e R s m args below meth c Z hC hR as H locs ls _ cells slots hw hpre hl ⟨_, _, rfl, rfl, hs⟩ hk hn)
theorem wp_null  (hi : decode Y.2.1 pc = .ok (.aconst_null, 1)) (kk : wp_m l Y sc k n (pc + 1) L (.null :: st) h Q) : wp_m l Y sc k n pc L (st) h Q := by
  intro D ty A H0 b as0 mcT msT p e R s m args below meth c Z hC hR as H locs ls st' cells slots hw hpre hl hs hk hn
  exact lv_null hC.1 hC.2.1 hi (kk D ty A H0 b as0 mcT msT p e R s m args below meth c Z hC hR as H locs ls _ cells slots hw hpre hl ⟨_, _, rfl, rfl, hs⟩ hk hn)
theorem wp_iadd {x y : Int32} (hi : decode Y.2.1 pc = .ok (.iadd, 1)) (kk : wp_m l Y sc k n (pc + 1) L (.int (x + y) :: st) h Q) : wp_m l Y sc k n pc L (.int y :: .int x :: st) h Q := by
  intro D ty A H0 b as0 mcT msT p e R s m args below meth c Z hC hR as H locs ls st' cells slots hw hpre hl hs hk hn
  obtain ⟨_, _, rfl, rfl, hs⟩ := hs
  obtain ⟨_, _, rfl, rfl, hs⟩ := hs
  exact lv_iadd hC.1 hC.2.1 hi (kk D ty A H0 b as0 mcT msT p e R s m args below meth c Z hC hR as H locs ls _ cells slots hw hpre hl ⟨_, _, rfl, rfl, hs⟩ hk hn)
theorem wp_isub {x y : Int32} (hi : decode Y.2.1 pc = .ok (.isub, 1)) (kk : wp_m l Y sc k n (pc + 1) L (.int (x - y) :: st) h Q) : wp_m l Y sc k n pc L (.int y :: .int x :: st) h Q := by
  intro D ty A H0 b as0 mcT msT p e R s m args below meth c Z hC hR as H locs ls st' cells slots hw hpre hl hs hk hn
  obtain ⟨_, _, rfl, rfl, hs⟩ := hs
  obtain ⟨_, _, rfl, rfl, hs⟩ := hs
  exact lv_isub hC.1 hC.2.1 hi (kk D ty A H0 b as0 mcT msT p e R s m args below meth c Z hC hR as H locs ls _ cells slots hw hpre hl ⟨_, _, rfl, rfl, hs⟩ hk hn)
theorem wp_imul {x y : Int32} (hi : decode Y.2.1 pc = .ok (.imul, 1)) (kk : wp_m l Y sc k n (pc + 1) L (.int (x * y) :: st) h Q) : wp_m l Y sc k n pc L (.int y :: .int x :: st) h Q := by
  intro D ty A H0 b as0 mcT msT p e R s m args below meth c Z hC hR as H locs ls st' cells slots hw hpre hl hs hk hn
  obtain ⟨_, _, rfl, rfl, hs⟩ := hs
  obtain ⟨_, _, rfl, rfl, hs⟩ := hs
  exact lv_imul hC.1 hC.2.1 hi (kk D ty A H0 b as0 mcT msT p e R s m args below meth c Z hC hR as H locs ls _ cells slots hw hpre hl ⟨_, _, rfl, rfl, hs⟩ hk hn)
theorem wp_iand {x y : Int32} (hi : decode Y.2.1 pc = .ok (.iand, 1)) (kk : wp_m l Y sc k n (pc + 1) L (.int (x &&& y) :: st) h Q) : wp_m l Y sc k n pc L (.int y :: .int x :: st) h Q := by
  intro D ty A H0 b as0 mcT msT p e R s m args below meth c Z hC hR as H locs ls st' cells slots hw hpre hl hs hk hn
  obtain ⟨_, _, rfl, rfl, hs⟩ := hs
  obtain ⟨_, _, rfl, rfl, hs⟩ := hs
  exact lv_iand hC.1 hC.2.1 hi (kk D ty A H0 b as0 mcT msT p e R s m args below meth c Z hC hR as H locs ls _ cells slots hw hpre hl ⟨_, _, rfl, rfl, hs⟩ hk hn)
theorem wp_ior {x y : Int32} (hi : decode Y.2.1 pc = .ok (.ior, 1)) (kk : wp_m l Y sc k n (pc + 1) L (.int (x ||| y) :: st) h Q) : wp_m l Y sc k n pc L (.int y :: .int x :: st) h Q := by
  intro D ty A H0 b as0 mcT msT p e R s m args below meth c Z hC hR as H locs ls st' cells slots hw hpre hl hs hk hn
  obtain ⟨_, _, rfl, rfl, hs⟩ := hs
  obtain ⟨_, _, rfl, rfl, hs⟩ := hs
  exact lv_ior hC.1 hC.2.1 hi (kk D ty A H0 b as0 mcT msT p e R s m args below meth c Z hC hR as H locs ls _ cells slots hw hpre hl ⟨_, _, rfl, rfl, hs⟩ hk hn)
theorem wp_ixor {x y : Int32} (hi : decode Y.2.1 pc = .ok (.ixor, 1)) (kk : wp_m l Y sc k n (pc + 1) L (.int (x ^^^ y) :: st) h Q) : wp_m l Y sc k n pc L (.int y :: .int x :: st) h Q := by
  intro D ty A H0 b as0 mcT msT p e R s m args below meth c Z hC hR as H locs ls st' cells slots hw hpre hl hs hk hn
  obtain ⟨_, _, rfl, rfl, hs⟩ := hs
  obtain ⟨_, _, rfl, rfl, hs⟩ := hs
  exact lv_ixor hC.1 hC.2.1 hi (kk D ty A H0 b as0 mcT msT p e R s m args below meth c Z hC hR as H locs ls _ cells slots hw hpre hl ⟨_, _, rfl, rfl, hs⟩ hk hn)
theorem wp_ishl {x y : Int32} (hi : decode Y.2.1 pc = .ok (.ishl, 1)) (kk : wp_m l Y sc k n (pc + 1) L (.int (x <<< (y &&& 31)) :: st) h Q) : wp_m l Y sc k n pc L (.int y :: .int x :: st) h Q := by
  intro D ty A H0 b as0 mcT msT p e R s m args below meth c Z hC hR as H locs ls st' cells slots hw hpre hl hs hk hn
  obtain ⟨_, _, rfl, rfl, hs⟩ := hs
  obtain ⟨_, _, rfl, rfl, hs⟩ := hs
  exact lv_ishl hC.1 hC.2.1 hi (kk D ty A H0 b as0 mcT msT p e R s m args below meth c Z hC hR as H locs ls _ cells slots hw hpre hl ⟨_, _, rfl, rfl, hs⟩ hk hn)
theorem wp_ishr {x y : Int32} (hi : decode Y.2.1 pc = .ok (.ishr, 1)) (kk : wp_m l Y sc k n (pc + 1) L (.int (x >>> (y &&& 31)) :: st) h Q) : wp_m l Y sc k n pc L (.int y :: .int x :: st) h Q := by
  intro D ty A H0 b as0 mcT msT p e R s m args below meth c Z hC hR as H locs ls st' cells slots hw hpre hl hs hk hn
  obtain ⟨_, _, rfl, rfl, hs⟩ := hs
  obtain ⟨_, _, rfl, rfl, hs⟩ := hs
  exact lv_ishr hC.1 hC.2.1 hi (kk D ty A H0 b as0 mcT msT p e R s m args below meth c Z hC hR as H locs ls _ cells slots hw hpre hl ⟨_, _, rfl, rfl, hs⟩ hk hn)
theorem wp_irem {x y : Int32} (hi : decode Y.2.1 pc = .ok (.irem, 1)) (hy : ¬ y = 0) (kk : wp_m l Y sc k n (pc + 1) L (.int (x - x / y * y) :: st) h Q) : wp_m l Y sc k n pc L (.int y :: .int x :: st) h Q := by
  intro D ty A H0 b as0 mcT msT p e R s m args below meth c Z hC hR as H locs ls st' cells slots hw hpre hl hs hk hn
  obtain ⟨_, _, rfl, rfl, hs⟩ := hs
  obtain ⟨_, _, rfl, rfl, hs⟩ := hs
  exact lv_irem hC.1 hC.2.1 hi hy (kk D ty A H0 b as0 mcT msT p e R s m args below meth c Z hC hR as H locs ls _ cells slots hw hpre hl ⟨_, _, rfl, rfl, hs⟩ hk hn)
theorem wp_idiv {x y : Int32} (hi : decode Y.2.1 pc = .ok (.idiv, 1)) (hy : ¬ y = 0) (kk : wp_m l Y sc k n (pc + 1) L (.int (x / y) :: st) h Q) : wp_m l Y sc k n pc L (.int y :: .int x :: st) h Q := by
  intro D ty A H0 b as0 mcT msT p e R s m args below meth c Z hC hR as H locs ls st' cells slots hw hpre hl hs hk hn
  obtain ⟨_, _, rfl, rfl, hs⟩ := hs
  obtain ⟨_, _, rfl, rfl, hs⟩ := hs
  exact lv_idiv hC.1 hC.2.1 hi hy (kk D ty A H0 b as0 mcT msT p e R s m args below meth c Z hC hR as H locs ls _ cells slots hw hpre hl ⟨_, _, rfl, rfl, hs⟩ hk hn)
theorem wp_ineg {x : Int32} (hi : decode Y.2.1 pc = .ok (.ineg, 1)) (kk : wp_m l Y sc k n (pc + 1) L (.int (-x) :: st) h Q) : wp_m l Y sc k n pc L (.int x :: st) h Q := by
  intro D ty A H0 b as0 mcT msT p e R s m args below meth c Z hC hR as H locs ls st' cells slots hw hpre hl hs hk hn
  obtain ⟨_, _, rfl, rfl, hs⟩ := hs
  exact lv_ineg hC.1 hC.2.1 hi (kk D ty A H0 b as0 mcT msT p e R s m args below meth c Z hC hR as H locs ls _ cells slots hw hpre hl ⟨_, _, rfl, rfl, hs⟩ hk hn)
theorem wp_ladd {x y : Int64} (hi : decode Y.2.1 pc = .ok (.ladd, 1)) (kk : wp_m l Y sc k n (pc + 1) L (.long (x + y) :: st) h Q) : wp_m l Y sc k n pc L (.long y :: .long x :: st) h Q := by
  intro D ty A H0 b as0 mcT msT p e R s m args below meth c Z hC hR as H locs ls st' cells slots hw hpre hl hs hk hn
  obtain ⟨_, _, rfl, rfl, hs⟩ := hs
  obtain ⟨_, _, rfl, rfl, hs⟩ := hs
  exact lv_ladd hC.1 hC.2.1 hi (kk D ty A H0 b as0 mcT msT p e R s m args below meth c Z hC hR as H locs ls _ cells slots hw hpre hl ⟨_, _, rfl, rfl, hs⟩ hk hn)
theorem wp_lsub {x y : Int64} (hi : decode Y.2.1 pc = .ok (.lsub, 1)) (kk : wp_m l Y sc k n (pc + 1) L (.long (x - y) :: st) h Q) : wp_m l Y sc k n pc L (.long y :: .long x :: st) h Q := by
  intro D ty A H0 b as0 mcT msT p e R s m args below meth c Z hC hR as H locs ls st' cells slots hw hpre hl hs hk hn
  obtain ⟨_, _, rfl, rfl, hs⟩ := hs
  obtain ⟨_, _, rfl, rfl, hs⟩ := hs
  exact lv_lsub hC.1 hC.2.1 hi (kk D ty A H0 b as0 mcT msT p e R s m args below meth c Z hC hR as H locs ls _ cells slots hw hpre hl ⟨_, _, rfl, rfl, hs⟩ hk hn)
theorem wp_land {x y : Int64} (hi : decode Y.2.1 pc = .ok (.land, 1)) (kk : wp_m l Y sc k n (pc + 1) L (.long (x &&& y) :: st) h Q) : wp_m l Y sc k n pc L (.long y :: .long x :: st) h Q := by
  intro D ty A H0 b as0 mcT msT p e R s m args below meth c Z hC hR as H locs ls st' cells slots hw hpre hl hs hk hn
  obtain ⟨_, _, rfl, rfl, hs⟩ := hs
  obtain ⟨_, _, rfl, rfl, hs⟩ := hs
  exact lv_land hC.1 hC.2.1 hi (kk D ty A H0 b as0 mcT msT p e R s m args below meth c Z hC hR as H locs ls _ cells slots hw hpre hl ⟨_, _, rfl, rfl, hs⟩ hk hn)
theorem wp_lor {x y : Int64} (hi : decode Y.2.1 pc = .ok (.lor, 1)) (kk : wp_m l Y sc k n (pc + 1) L (.long (x ||| y) :: st) h Q) : wp_m l Y sc k n pc L (.long y :: .long x :: st) h Q := by
  intro D ty A H0 b as0 mcT msT p e R s m args below meth c Z hC hR as H locs ls st' cells slots hw hpre hl hs hk hn
  obtain ⟨_, _, rfl, rfl, hs⟩ := hs
  obtain ⟨_, _, rfl, rfl, hs⟩ := hs
  exact lv_lor hC.1 hC.2.1 hi (kk D ty A H0 b as0 mcT msT p e R s m args below meth c Z hC hR as H locs ls _ cells slots hw hpre hl ⟨_, _, rfl, rfl, hs⟩ hk hn)
theorem wp_i2l {x : Int32} (hi : decode Y.2.1 pc = .ok (.i2l, 1)) (kk : wp_m l Y sc k n (pc + 1) L (.long x.toInt64 :: st) h Q) : wp_m l Y sc k n pc L (.int x :: st) h Q := by
  intro D ty A H0 b as0 mcT msT p e R s m args below meth c Z hC hR as H locs ls st' cells slots hw hpre hl hs hk hn
  obtain ⟨_, _, rfl, rfl, hs⟩ := hs
  exact lv_i2l hC.1 hC.2.1 hi rfl (kk D ty A H0 b as0 mcT msT p e R s m args below meth c Z hC hR as H locs ls _ cells slots hw hpre hl ⟨_, _, rfl, rfl, hs⟩ hk hn)
theorem wp_l2i {x : Int64} (hi : decode Y.2.1 pc = .ok (.l2i, 1)) (kk : wp_m l Y sc k n (pc + 1) L (.int x.toInt32 :: st) h Q) : wp_m l Y sc k n pc L (.long x :: st) h Q := by
  intro D ty A H0 b as0 mcT msT p e R s m args below meth c Z hC hR as H locs ls st' cells slots hw hpre hl hs hk hn
  obtain ⟨_, _, rfl, rfl, hs⟩ := hs
  exact lv_l2i hC.1 hC.2.1 hi rfl (kk D ty A H0 b as0 mcT msT p e R s m args below meth c Z hC hR as H locs ls _ cells slots hw hpre hl ⟨_, _, rfl, rfl, hs⟩ hk hn)
theorem wp_i2b {x : Int32} (hi : decode Y.2.1 pc = .ok (.i2b, 1)) (kk : wp_m l Y sc k n (pc + 1) L (.int x.toInt8.toInt32 :: st) h Q) : wp_m l Y sc k n pc L (.int x :: st) h Q := by
  intro D ty A H0 b as0 mcT msT p e R s m args below meth c Z hC hR as H locs ls st' cells slots hw hpre hl hs hk hn
  obtain ⟨_, _, rfl, rfl, hs⟩ := hs
  exact lv_i2b hC.1 hC.2.1 hi rfl (kk D ty A H0 b as0 mcT msT p e R s m args below meth c Z hC hR as H locs ls _ cells slots hw hpre hl ⟨_, _, rfl, rfl, hs⟩ hk hn)
theorem wp_lshr {x : Int64} {y : Int32} (hi : decode Y.2.1 pc = .ok (.lshr, 1)) (kk : wp_m l Y sc k n (pc + 1) L (.long (x >>> (y.toInt64 &&& 63)) :: st) h Q) : wp_m l Y sc k n pc L (.int y :: .long x :: st) h Q := by
  intro D ty A H0 b as0 mcT msT p e R s m args below meth c Z hC hR as H locs ls st' cells slots hw hpre hl hs hk hn
  obtain ⟨_, _, rfl, rfl, hs⟩ := hs
  obtain ⟨_, _, rfl, rfl, hs⟩ := hs
  exact lv_lshr hC.1 hC.2.1 hi rfl (kk D ty A H0 b as0 mcT msT p e R s m args below meth c Z hC hR as H locs ls _ cells slots hw hpre hl ⟨_, _, rfl, rfl, hs⟩ hk hn)
theorem wp_lshl {x : Int64} {y : Int32} (hi : decode Y.2.1 pc = .ok (.lshl, 1)) (kk : wp_m l Y sc k n (pc + 1) L (.long (x <<< (y.toInt64 &&& 63)) :: st) h Q) : wp_m l Y sc k n pc L (.int y :: .long x :: st) h Q := by
  intro D ty A H0 b as0 mcT msT p e R s m args below meth c Z hC hR as H locs ls st' cells slots hw hpre hl hs hk hn
  obtain ⟨_, _, rfl, rfl, hs⟩ := hs
  obtain ⟨_, _, rfl, rfl, hs⟩ := hs
  exact lv_lshl hC.1 hC.2.1 hi rfl (kk D ty A H0 b as0 mcT msT p e R s m args below meth c Z hC hR as H locs ls _ cells slots hw hpre hl ⟨_, _, rfl, rfl, hs⟩ hk hn)
theorem rl_cat {b : Nat} {as : List Nat} {v v' : Value} (h : rl_v b as v v') (hc : v.category = 1) : v'.category = 1 := by
  cases v <;> first | (obtain ⟨_, _, rfl⟩ := h; rfl) | (obtain ⟨_, rfl⟩ := h; rfl) | (cases (show v' = _ from h); exact hc)
theorem wp_dup {v : Value} (hi : decode Y.2.1 pc = .ok (.dup, 1)) (kk : wp_m l Y sc k n (pc + 1) L (v :: v :: st) h Q) (hv : v.category = 1 := by first | rfl | assumption) : wp_m l Y sc k n pc L (v :: st) h Q := by
  intro D ty A H0 b as0 mcT msT p e R s m args below meth c Z hC hR as H locs ls st' cells slots hw hpre hl hs hk hn
  obtain ⟨x, t, rfl, hx, hs⟩ := hs
  exact lv_dup hC.1 hC.2.1 hi (rl_cat hx hv) (kk D ty A H0 b as0 mcT msT p e R s m args below meth c Z hC hR as H locs ls _ cells slots hw hpre hl ⟨_, _, rfl, hx, _, _, rfl, hx, hs⟩ hk hn)
theorem wp_pop {v : Value} (hi : decode Y.2.1 pc = .ok (.pop, 1)) (kk : wp_m l Y sc k n (pc + 1) L st h Q) (hv : v.category = 1 := by first | rfl | assumption) : wp_m l Y sc k n pc L (v :: st) h Q := by
  intro D ty A H0 b as0 mcT msT p e R s m args below meth c Z hC hR as H locs ls st' cells slots hw hpre hl hs hk hn
  obtain ⟨x, t, rfl, hx, hs⟩ := hs
  exact lv_pop hC.1 hC.2.1 hi (rl_cat hx hv) (kk D ty A H0 b as0 mcT msT p e R s m args below meth c Z hC hR as H locs ls _ cells slots hw hpre hl hs hk hn)
theorem wp_dup2 {v u : Value} (hi : decode Y.2.1 pc = .ok (.dup2, 1)) (kk : wp_m l Y sc k n (pc + 1) L (v :: u :: v :: u :: st) h Q) (hv : v.category = 1 := by first | rfl | assumption) (hu : u.category = 1 := by first | rfl | assumption) : wp_m l Y sc k n pc L (v :: u :: st) h Q := by
  intro D ty A H0 b as0 mcT msT p e R s m args below meth c Z hC hR as H locs ls st' cells slots hw hpre hl hs hk hn
  obtain ⟨x, t, rfl, hx, z, t2, rfl, hz, hs⟩ := hs
  exact lv_dup2_11 hC.1 hC.2.1 hi (rl_cat hx hv) (rl_cat hz hu) (kk D ty A H0 b as0 mcT msT p e R s m args below meth c Z hC hR as H locs ls _ cells slots hw hpre hl ⟨_, _, rfl, hx, _, _, rfl, hz, _, _, rfl, hx, _, _, rfl, hz, hs⟩ hk hn)
theorem wp_dup_x1 {v u : Value} (hi : decode Y.2.1 pc = .ok (.dup_x1, 1)) (kk : wp_m l Y sc k n (pc + 1) L (v :: u :: v :: st) h Q) (hv : v.category = 1 := by first | rfl | assumption) (hu : u.category = 1 := by first | rfl | assumption) : wp_m l Y sc k n pc L (v :: u :: st) h Q := by
  intro D ty A H0 b as0 mcT msT p e R s m args below meth c Z hC hR as H locs ls st' cells slots hw hpre hl hs hk hn
  obtain ⟨x, t, rfl, hx, z, t2, rfl, hz, hs⟩ := hs
  exact lv_dup_x1 hC.1 hC.2.1 hi (rl_cat hx hv) (rl_cat hz hu) (kk D ty A H0 b as0 mcT msT p e R s m args below meth c Z hC hR as H locs ls _ cells slots hw hpre hl ⟨_, _, rfl, hx, _, _, rfl, hz, _, _, rfl, hx, hs⟩ hk hn)
theorem wp_if_eq {x : Int32} {off : Int} {t : Nat} (hi : decode Y.2.1 pc = .ok (.ifCond .eq off, 3)) (ht : (pc : Int) + off = (t : Int)) (kt : x = 0 → wp_m l Y sc k n t L st h Q) (kf : ¬ x = 0 → wp_m l Y sc k n (pc + 3) L st h Q) : wp_m l Y sc k n pc L (.int x :: st) h Q := by
  intro D ty A H0 b as0 mcT msT p e R s m args below meth c Z hC hR as H locs ls st' cells slots hw hpre hl hs hk hn
  obtain ⟨_, _, rfl, rfl, hs⟩ := hs
  exact lv_if_eq hC.1 hC.2.1 hi ht (fun q => kt q D ty A H0 b as0 mcT msT p e R s m args below meth c Z hC hR as H locs ls _ cells slots hw hpre hl hs hk hn) (fun q => kf q D ty A H0 b as0 mcT msT p e R s m args below meth c Z hC hR as H locs ls _ cells slots hw hpre hl hs hk hn)
theorem wp_ic_eq {x y : Int32} {off : Int} {t : Nat} (hi : decode Y.2.1 pc = .ok (.if_icmp .eq off, 3)) (ht : (pc : Int) + off = (t : Int)) (kt : x = y → wp_m l Y sc k n t L st h Q) (kf : ¬ x = y → wp_m l Y sc k n (pc + 3) L st h Q) : wp_m l Y sc k n pc L (.int y :: .int x :: st) h Q := by
  intro D ty A H0 b as0 mcT msT p e R s m args below meth c Z hC hR as H locs ls st' cells slots hw hpre hl hs hk hn
  obtain ⟨_, _, rfl, rfl, hs⟩ := hs
  obtain ⟨_, _, rfl, rfl, hs⟩ := hs
  exact lv_icmp_eq hC.1 hC.2.1 hi ht (fun q => kt q D ty A H0 b as0 mcT msT p e R s m args below meth c Z hC hR as H locs ls _ cells slots hw hpre hl hs hk hn) (fun q => kf q D ty A H0 b as0 mcT msT p e R s m args below meth c Z hC hR as H locs ls _ cells slots hw hpre hl hs hk hn)
theorem wp_if_ne {x : Int32} {off : Int} {t : Nat} (hi : decode Y.2.1 pc = .ok (.ifCond .ne off, 3)) (ht : (pc : Int) + off = (t : Int)) (kt : ¬ x = 0 → wp_m l Y sc k n t L st h Q) (kf : x = 0 → wp_m l Y sc k n (pc + 3) L st h Q) : wp_m l Y sc k n pc L (.int x :: st) h Q := by
  intro D ty A H0 b as0 mcT msT p e R s m args below meth c Z hC hR as H locs ls st' cells slots hw hpre hl hs hk hn
  obtain ⟨_, _, rfl, rfl, hs⟩ := hs
  exact lv_if_ne hC.1 hC.2.1 hi ht (fun q => kt q D ty A H0 b as0 mcT msT p e R s m args below meth c Z hC hR as H locs ls _ cells slots hw hpre hl hs hk hn) (fun q => kf q D ty A H0 b as0 mcT msT p e R s m args below meth c Z hC hR as H locs ls _ cells slots hw hpre hl hs hk hn)
theorem wp_ic_ne {x y : Int32} {off : Int} {t : Nat} (hi : decode Y.2.1 pc = .ok (.if_icmp .ne off, 3)) (ht : (pc : Int) + off = (t : Int)) (kt : ¬ x = y → wp_m l Y sc k n t L st h Q) (kf : x = y → wp_m l Y sc k n (pc + 3) L st h Q) : wp_m l Y sc k n pc L (.int y :: .int x :: st) h Q := by
  intro D ty A H0 b as0 mcT msT p e R s m args below meth c Z hC hR as H locs ls st' cells slots hw hpre hl hs hk hn
  obtain ⟨_, _, rfl, rfl, hs⟩ := hs
  obtain ⟨_, _, rfl, rfl, hs⟩ := hs
  exact lv_icmp_ne hC.1 hC.2.1 hi ht (fun q => kt q D ty A H0 b as0 mcT msT p e R s m args below meth c Z hC hR as H locs ls _ cells slots hw hpre hl hs hk hn) (fun q => kf q D ty A H0 b as0 mcT msT p e R s m args below meth c Z hC hR as H locs ls _ cells slots hw hpre hl hs hk hn)
theorem wp_if_lt {x : Int32} {off : Int} {t : Nat} (hi : decode Y.2.1 pc = .ok (.ifCond .lt off, 3)) (ht : (pc : Int) + off = (t : Int)) (kt : x < 0 → wp_m l Y sc k n t L st h Q) (kf : ¬ x < 0 → wp_m l Y sc k n (pc + 3) L st h Q) : wp_m l Y sc k n pc L (.int x :: st) h Q := by
  intro D ty A H0 b as0 mcT msT p e R s m args below meth c Z hC hR as H locs ls st' cells slots hw hpre hl hs hk hn
  obtain ⟨_, _, rfl, rfl, hs⟩ := hs
  exact lv_if_lt hC.1 hC.2.1 hi ht (fun q => kt q D ty A H0 b as0 mcT msT p e R s m args below meth c Z hC hR as H locs ls _ cells slots hw hpre hl hs hk hn) (fun q => kf q D ty A H0 b as0 mcT msT p e R s m args below meth c Z hC hR as H locs ls _ cells slots hw hpre hl hs hk hn)
theorem wp_ic_lt {x y : Int32} {off : Int} {t : Nat} (hi : decode Y.2.1 pc = .ok (.if_icmp .lt off, 3)) (ht : (pc : Int) + off = (t : Int)) (kt : x < y → wp_m l Y sc k n t L st h Q) (kf : ¬ x < y → wp_m l Y sc k n (pc + 3) L st h Q) : wp_m l Y sc k n pc L (.int y :: .int x :: st) h Q := by
  intro D ty A H0 b as0 mcT msT p e R s m args below meth c Z hC hR as H locs ls st' cells slots hw hpre hl hs hk hn
  obtain ⟨_, _, rfl, rfl, hs⟩ := hs
  obtain ⟨_, _, rfl, rfl, hs⟩ := hs
  exact lv_icmp_lt hC.1 hC.2.1 hi ht (fun q => kt q D ty A H0 b as0 mcT msT p e R s m args below meth c Z hC hR as H locs ls _ cells slots hw hpre hl hs hk hn) (fun q => kf q D ty A H0 b as0 mcT msT p e R s m args below meth c Z hC hR as H locs ls _ cells slots hw hpre hl hs hk hn)
theorem wp_if_ge {x : Int32} {off : Int} {t : Nat} (hi : decode Y.2.1 pc = .ok (.ifCond .ge off, 3)) (ht : (pc : Int) + off = (t : Int)) (kt : 0 ≤ x → wp_m l Y sc k n t L st h Q) (kf : ¬ 0 ≤ x → wp_m l Y sc k n (pc + 3) L st h Q) : wp_m l Y sc k n pc L (.int x :: st) h Q := by
  intro D ty A H0 b as0 mcT msT p e R s m args below meth c Z hC hR as H locs ls st' cells slots hw hpre hl hs hk hn
  obtain ⟨_, _, rfl, rfl, hs⟩ := hs
  exact lv_if_ge hC.1 hC.2.1 hi ht (fun q => kt q D ty A H0 b as0 mcT msT p e R s m args below meth c Z hC hR as H locs ls _ cells slots hw hpre hl hs hk hn) (fun q => kf q D ty A H0 b as0 mcT msT p e R s m args below meth c Z hC hR as H locs ls _ cells slots hw hpre hl hs hk hn)
theorem wp_ic_ge {x y : Int32} {off : Int} {t : Nat} (hi : decode Y.2.1 pc = .ok (.if_icmp .ge off, 3)) (ht : (pc : Int) + off = (t : Int)) (kt : y ≤ x → wp_m l Y sc k n t L st h Q) (kf : ¬ y ≤ x → wp_m l Y sc k n (pc + 3) L st h Q) : wp_m l Y sc k n pc L (.int y :: .int x :: st) h Q := by
  intro D ty A H0 b as0 mcT msT p e R s m args below meth c Z hC hR as H locs ls st' cells slots hw hpre hl hs hk hn
  obtain ⟨_, _, rfl, rfl, hs⟩ := hs
  obtain ⟨_, _, rfl, rfl, hs⟩ := hs
  exact lv_icmp_ge hC.1 hC.2.1 hi ht (fun q => kt q D ty A H0 b as0 mcT msT p e R s m args below meth c Z hC hR as H locs ls _ cells slots hw hpre hl hs hk hn) (fun q => kf q D ty A H0 b as0 mcT msT p e R s m args below meth c Z hC hR as H locs ls _ cells slots hw hpre hl hs hk hn)
theorem wp_if_gt {x : Int32} {off : Int} {t : Nat} (hi : decode Y.2.1 pc = .ok (.ifCond .gt off, 3)) (ht : (pc : Int) + off = (t : Int)) (kt : 0 < x → wp_m l Y sc k n t L st h Q) (kf : ¬ 0 < x → wp_m l Y sc k n (pc + 3) L st h Q) : wp_m l Y sc k n pc L (.int x :: st) h Q := by
  intro D ty A H0 b as0 mcT msT p e R s m args below meth c Z hC hR as H locs ls st' cells slots hw hpre hl hs hk hn
  obtain ⟨_, _, rfl, rfl, hs⟩ := hs
  exact lv_if_gt hC.1 hC.2.1 hi ht (fun q => kt q D ty A H0 b as0 mcT msT p e R s m args below meth c Z hC hR as H locs ls _ cells slots hw hpre hl hs hk hn) (fun q => kf q D ty A H0 b as0 mcT msT p e R s m args below meth c Z hC hR as H locs ls _ cells slots hw hpre hl hs hk hn)
theorem wp_ic_gt {x y : Int32} {off : Int} {t : Nat} (hi : decode Y.2.1 pc = .ok (.if_icmp .gt off, 3)) (ht : (pc : Int) + off = (t : Int)) (kt : y < x → wp_m l Y sc k n t L st h Q) (kf : ¬ y < x → wp_m l Y sc k n (pc + 3) L st h Q) : wp_m l Y sc k n pc L (.int y :: .int x :: st) h Q := by
  intro D ty A H0 b as0 mcT msT p e R s m args below meth c Z hC hR as H locs ls st' cells slots hw hpre hl hs hk hn
  obtain ⟨_, _, rfl, rfl, hs⟩ := hs
  obtain ⟨_, _, rfl, rfl, hs⟩ := hs
  exact lv_icmp_gt hC.1 hC.2.1 hi ht (fun q => kt q D ty A H0 b as0 mcT msT p e R s m args below meth c Z hC hR as H locs ls _ cells slots hw hpre hl hs hk hn) (fun q => kf q D ty A H0 b as0 mcT msT p e R s m args below meth c Z hC hR as H locs ls _ cells slots hw hpre hl hs hk hn)
theorem wp_if_le {x : Int32} {off : Int} {t : Nat} (hi : decode Y.2.1 pc = .ok (.ifCond .le off, 3)) (ht : (pc : Int) + off = (t : Int)) (kt : x ≤ 0 → wp_m l Y sc k n t L st h Q) (kf : ¬ x ≤ 0 → wp_m l Y sc k n (pc + 3) L st h Q) : wp_m l Y sc k n pc L (.int x :: st) h Q := by
  intro D ty A H0 b as0 mcT msT p e R s m args below meth c Z hC hR as H locs ls st' cells slots hw hpre hl hs hk hn
  obtain ⟨_, _, rfl, rfl, hs⟩ := hs
  exact lv_if_le hC.1 hC.2.1 hi ht (fun q => kt q D ty A H0 b as0 mcT msT p e R s m args below meth c Z hC hR as H locs ls _ cells slots hw hpre hl hs hk hn) (fun q => kf q D ty A H0 b as0 mcT msT p e R s m args below meth c Z hC hR as H locs ls _ cells slots hw hpre hl hs hk hn)
theorem wp_ic_le {x y : Int32} {off : Int} {t : Nat} (hi : decode Y.2.1 pc = .ok (.if_icmp .le off, 3)) (ht : (pc : Int) + off = (t : Int)) (kt : x ≤ y → wp_m l Y sc k n t L st h Q) (kf : ¬ x ≤ y → wp_m l Y sc k n (pc + 3) L st h Q) : wp_m l Y sc k n pc L (.int y :: .int x :: st) h Q := by
  intro D ty A H0 b as0 mcT msT p e R s m args below meth c Z hC hR as H locs ls st' cells slots hw hpre hl hs hk hn
  obtain ⟨_, _, rfl, rfl, hs⟩ := hs
  obtain ⟨_, _, rfl, rfl, hs⟩ := hs
  exact lv_icmp_le hC.1 hC.2.1 hi ht (fun q => kt q D ty A H0 b as0 mcT msT p e R s m args below meth c Z hC hR as H locs ls _ cells slots hw hpre hl hs hk hn) (fun q => kf q D ty A H0 b as0 mcT msT p e R s m args below meth c Z hC hR as H locs ls _ cells slots hw hpre hl hs hk hn)
theorem wp_goto {off : Int} {t : Nat} (hi : decode Y.2.1 pc = .ok (.goto off, 3)) (ht : (pc : Int) + off = (t : Int)) (kk : wp_m l Y sc k n t L st h Q) : wp_m l Y sc k n pc L st h Q := by
  intro D ty A H0 b as0 mcT msT p e R s m args below meth c Z hC hR as H locs ls st' cells slots hw hpre hl hs hk hn
  exact lv_goto hC.1 hC.2.1 hi ht (kk D ty A H0 b as0 mcT msT p e R s m args below meth c Z hC hR as H locs ls _ cells slots hw hpre hl hs hk hn)
theorem wp_ifnullR {a : Nat} {off : Int} (hi : decode Y.2.1 pc = .ok (.ifnull off, 3)) (kk : wp_m l Y sc k n (pc + 3) L st h Q) : wp_m l Y sc k n pc L (.ref a :: st) h Q := by
  intro D ty A H0 b as0 mcT msT p e R s m args below meth c Z hC hR as H locs ls st' cells slots hw hpre hl hs hk hn
  obtain ⟨_, _, rfl, ⟨a', ha, rfl⟩, hs⟩ := hs
  exact lv_ifnull hC.1 hC.2.1 hi (kk D ty A H0 b as0 mcT msT p e R s m args below meth c Z hC hR as H locs ls _ cells slots hw hpre hl hs hk hn)
theorem wp_ifnullN {off : Int} {t : Nat} (hi : decode Y.2.1 pc = .ok (.ifnull off, 3)) (ht : (pc : Int) + off = (t : Int)) (kk : wp_m l Y sc k n t L st h Q) : wp_m l Y sc k n pc L (.null :: st) h Q := by
  intro D ty A H0 b as0 mcT msT p e R s m args below meth c Z hC hR as H locs ls st' cells slots hw hpre hl hs hk hn
  obtain ⟨_, _, rfl, rfl, hs⟩ := hs
  exact lv_ifnullN hC.1 hC.2.1 hi ht (kk D ty A H0 b as0 mcT msT p e R s m args below meth c Z hC hR as H locs ls _ cells slots hw hpre hl hs hk hn)
theorem wp_ifnonnullR {a : Nat} {off : Int} {t : Nat} (hi : decode Y.2.1 pc = .ok (.ifnonnull off, 3)) (ht : (pc : Int) + off = (t : Int)) (kk : wp_m l Y sc k n t L st h Q) : wp_m l Y sc k n pc L (.ref a :: st) h Q := by
  intro D ty A H0 b as0 mcT msT p e R s m args below meth c Z hC hR as H locs ls st' cells slots hw hpre hl hs hk hn
  obtain ⟨_, _, rfl, ⟨a', ha, rfl⟩, hs⟩ := hs
  exact lv_ifnonnull hC.1 hC.2.1 hi ht (kk D ty A H0 b as0 mcT msT p e R s m args below meth c Z hC hR as H locs ls _ cells slots hw hpre hl hs hk hn)
theorem wp_ifnonnullN {off : Int} (hi : decode Y.2.1 pc = .ok (.ifnonnull off, 3)) (kk : wp_m l Y sc k n (pc + 3) L st h Q) : wp_m l Y sc k n pc L (.null :: st) h Q := by
  intro D ty A H0 b as0 mcT msT p e R s m args below meth c Z hC hR as H locs ls st' cells slots hw hpre hl hs hk hn
  obtain ⟨_, _, rfl, rfl, hs⟩ := hs
  exact lv_ifnonnullN hC.1 hC.2.1 hi (kk D ty A H0 b as0 mcT msT p e R s m args below meth c Z hC hR as H locs ls _ cells slots hw hpre hl hs hk hn)
theorem wp_lookup {d : Int} {ps : Array (Int × Int)} {len : Nat} {x : Int32} {off : Int} {t : Nat} (hi : decode Y.2.1 pc = .ok (.lookupswitch d ps, len)) (hp : (ps.toList.zip (ps.toList.drop 1)).all (fun (a, next) => a.1 < next.1) = true) (ho : Op.lookupswitch.offset ps.toList d x.toInt = off) (ht : (pc : Int) + off = (t : Int)) (kk : wp_m l Y sc k n t L st h Q) : wp_m l Y sc k n pc L (.int x :: st) h Q := by
  intro D ty A H0 b as0 mcT msT p e R s m args below meth c Z hC hR as H locs ls st' cells slots hw hpre hl hs hk hn
  obtain ⟨_, _, rfl, rfl, hs⟩ := hs
  exact lv_lookup hC.1 hC.2.1 hi hp ho ht (kk D ty A H0 b as0 mcT msT p e R s m args below meth c Z hC hR as H locs ls _ cells slots hw hpre hl hs hk hn)
theorem wp_tabOut {d lo up : Int} {os : Array Int} {len : Nat} {x : Int32} {t : Nat} (hi : decode Y.2.1 pc = .ok (.tableswitch d lo up os, len)) (hx : x.toInt < lo ∨ up < x.toInt) (ht : (pc : Int) + d = (t : Int)) (kk : wp_m l Y sc k n t L st h Q) : wp_m l Y sc k n pc L (.int x :: st) h Q := by
  intro D ty A H0 b as0 mcT msT p e R s m args below meth c Z hC hR as H locs ls st' cells slots hw hpre hl hs hk hn
  obtain ⟨_, _, rfl, rfl, hs⟩ := hs
  exact lv_tableOut hC.1 hC.2.1 hi hx ht (kk D ty A H0 b as0 mcT msT p e R s m args below meth c Z hC hR as H locs ls _ cells slots hw hpre hl hs hk hn)
theorem wp_tabIn {d lo up : Int} {os : Array Int} {len : Nat} {x : Int32} {off : Int} {t : Nat} (hi : decode Y.2.1 pc = .ok (.tableswitch d lo up os, len)) (h1 : ¬ x.toInt < lo) (h2 : ¬ up < x.toInt) (ho : os[(x.toInt - lo).toNat]? = some off) (ht : (pc : Int) + off = (t : Int)) (kk : wp_m l Y sc k n t L st h Q) : wp_m l Y sc k n pc L (.int x :: st) h Q := by
  intro D ty A H0 b as0 mcT msT p e R s m args below meth c Z hC hR as H locs ls st' cells slots hw hpre hl hs hk hn
  obtain ⟨_, _, rfl, rfl, hs⟩ := hs
  exact lv_tableIn hC.1 hC.2.1 hi h1 h2 ho ht (kk D ty A H0 b as0 mcT msT p e R s m args below meth c Z hC hR as H locs ls _ cells slots hw hpre hl hs hk hn)
theorem wp_ldc2 {i : Nat} {v : Int64} (hi : decode Y.2.1 pc = .ok (.ldc2_w i, 3)) (hw : Cond.constantLong Y.1.cls i v ∈ WS) (kk : wp_m l Y sc k n (pc + 3) L (.long v :: st) h Q) : wp_m l Y sc k n pc L st h Q := by
  intro D ty A H0 b as0 mcT msT p e R s m args below meth c Z hC hR as H locs ls st' cells slots hW hpre hl hs hk hn
  exact lv_ldc2 hC.1 hC.2.1 hC.2.2.2.2.1 (hC.2.2.2.2.2.2.2.1 _ hw) hi (kk D ty A H0 b as0 mcT msT p e R s m args below meth c Z hC hR as H locs ls _ cells slots hW hpre hl ⟨_, _, rfl, rfl, hs⟩ hk hn)
theorem rl_get {b : Nat} {as : List Nat} {ls : Array Slot} {nL i : Nat} {v : Value} (hl : rl_l b as L ls nL) (hv : L[i]? = some v) (hne : v ≠ .retAddr 0) : ∃ v', rl_v b as v v' ∧ ls[i]? = some (.val v') := by
  obtain ⟨-, lv, h1, h2⟩ := hl
  obtain ⟨v', h3, h4⟩ := h2 i v hv hne
  exact ⟨v', h3, h1.2.2 _ h4⟩
theorem wp_iload_n {j : Fin 4} {i : Nat} {x : Int32} (hi : decode Y.2.1 pc = .ok (.iload_n j, 1)) (hj : (j : Nat) = i) (hv : L[i]? = some (.int x)) (kk : wp_m l Y sc k n (pc + 1) L (.int x :: st) h Q) : wp_m l Y sc k n pc L st h Q := by
  intro D ty A H0 b as0 mcT msT p e R s m args below meth c Z hC hR as H locs ls st' cells slots hw hpre hl hs hk hn
  obtain ⟨v', hv', hg⟩ := rl_get hl hv (by simp)
  cases (show v' = .int x from hv')
  exact lv_iload_n hC.1 hC.2.1 hi hj hg (kk D ty A H0 b as0 mcT msT p e R s m args below meth c Z hC hR as H locs ls _ cells slots hw hpre hl ⟨_, _, rfl, rfl, hs⟩ hk hn)
theorem wp_iload {i : Nat} {x : Int32} (hi : decode Y.2.1 pc = .ok (.iload i, 2)) (hv : L[i]? = some (.int x)) (kk : wp_m l Y sc k n (pc + 2) L (.int x :: st) h Q) : wp_m l Y sc k n pc L st h Q := by
  intro D ty A H0 b as0 mcT msT p e R s m args below meth c Z hC hR as H locs ls st' cells slots hw hpre hl hs hk hn
  obtain ⟨v', hv', hg⟩ := rl_get hl hv (by simp)
  cases (show v' = .int x from hv')
  exact lv_iload hC.1 hC.2.1 hi hg (kk D ty A H0 b as0 mcT msT p e R s m args below meth c Z hC hR as H locs ls _ cells slots hw hpre hl ⟨_, _, rfl, rfl, hs⟩ hk hn)
theorem wp_lload_n {j : Fin 4} {i : Nat} {x : Int64} (hi : decode Y.2.1 pc = .ok (.lload_n j, 1)) (hj : (j : Nat) = i) (hv : L[i]? = some (.long x)) (kk : wp_m l Y sc k n (pc + 1) L (.long x :: st) h Q) : wp_m l Y sc k n pc L st h Q := by
  intro D ty A H0 b as0 mcT msT p e R s m args below meth c Z hC hR as H locs ls st' cells slots hw hpre hl hs hk hn
  obtain ⟨v', hv', hg⟩ := rl_get hl hv (by simp)
  cases (show v' = .long x from hv')
  exact lv_lload_n hC.1 hC.2.1 hi hj hg (kk D ty A H0 b as0 mcT msT p e R s m args below meth c Z hC hR as H locs ls _ cells slots hw hpre hl ⟨_, _, rfl, rfl, hs⟩ hk hn)
theorem wp_lload {i : Nat} {x : Int64} (hi : decode Y.2.1 pc = .ok (.lload i, 2)) (hv : L[i]? = some (.long x)) (kk : wp_m l Y sc k n (pc + 2) L (.long x :: st) h Q) : wp_m l Y sc k n pc L st h Q := by
  intro D ty A H0 b as0 mcT msT p e R s m args below meth c Z hC hR as H locs ls st' cells slots hw hpre hl hs hk hn
  obtain ⟨v', hv', hg⟩ := rl_get hl hv (by simp)
  cases (show v' = .long x from hv')
  exact lv_lload hC.1 hC.2.1 hi hg (kk D ty A H0 b as0 mcT msT p e R s m args below meth c Z hC hR as H locs ls _ cells slots hw hpre hl ⟨_, _, rfl, rfl, hs⟩ hk hn)
theorem wp_aload_n {j : Fin 4} {i : Nat} {x : Nat} (hi : decode Y.2.1 pc = .ok (.aload_n j, 1)) (hj : (j : Nat) = i) (hv : L[i]? = some (.ref x)) (kk : wp_m l Y sc k n (pc + 1) L (.ref x :: st) h Q) : wp_m l Y sc k n pc L st h Q := by
  intro D ty A H0 b as0 mcT msT p e R s m args below meth c Z hC hR as H locs ls st' cells slots hw hpre hl hs hk hn
  obtain ⟨v', hv', hg⟩ := rl_get hl hv (by simp)
  obtain ⟨a, ha, rfl⟩ := hv'
  exact lv_aload_n hC.1 hC.2.1 hi hj hg (kk D ty A H0 b as0 mcT msT p e R s m args below meth c Z hC hR as H locs ls _ cells slots hw hpre hl ⟨_, _, rfl, ⟨a, ha, rfl⟩, hs⟩ hk hn)
theorem wp_aload_nN {j : Fin 4} {i : Nat} (hi : decode Y.2.1 pc = .ok (.aload_n j, 1)) (hj : (j : Nat) = i) (hv : L[i]? = some .null) (kk : wp_m l Y sc k n (pc + 1) L (.null :: st) h Q) : wp_m l Y sc k n pc L st h Q := by
  intro D ty A H0 b as0 mcT msT p e R s m args below meth c Z hC hR as H locs ls st' cells slots hw hpre hl hs hk hn
  obtain ⟨v', hv', hg⟩ := rl_get hl hv (by simp)
  cases (show v' = .null from hv')
  exact lv_aload_nN hC.1 hC.2.1 hi hj hg (kk D ty A H0 b as0 mcT msT p e R s m args below meth c Z hC hR as H locs ls _ cells slots hw hpre hl ⟨_, _, rfl, rfl, hs⟩ hk hn)
theorem wp_aload_nS {j : Fin 4} {i : Nat} (hi : decode Y.2.1 pc = .ok (.aload_n j, 1)) (hj : (j : Nat) = i) (hv : L[i]? = some (.retAddr 1)) (kk : wp_m l Y sc k n (pc + 1) L (.retAddr 1 :: st) h Q) : wp_m l Y sc k n pc L st h Q := by
  intro D ty A H0 b as0 mcT msT p e R s m args below meth c Z hC hR as H locs ls st' cells slots hw hpre hl hs hk hn
  obtain ⟨v', hv', hg⟩ := rl_get hl hv (by simp)
  obtain ⟨-, rfl⟩ := hv'
  exact lv_aload_n hC.1 hC.2.1 hi hj hg (kk D ty A H0 b as0 mcT msT p e R s m args below meth c Z hC hR as H locs ls _ cells slots hw hpre hl ⟨_, _, rfl, ⟨rfl, rfl⟩, hs⟩ hk hn)
theorem wp_aload {i : Nat} {x : Nat} (hi : decode Y.2.1 pc = .ok (.aload i, 2)) (hv : L[i]? = some (.ref x)) (kk : wp_m l Y sc k n (pc + 2) L (.ref x :: st) h Q) : wp_m l Y sc k n pc L st h Q := by
  intro D ty A H0 b as0 mcT msT p e R s m args below meth c Z hC hR as H locs ls st' cells slots hw hpre hl hs hk hn
  obtain ⟨v', hv', hg⟩ := rl_get hl hv (by simp)
  obtain ⟨a, ha, rfl⟩ := hv'
  exact lv_aload hC.1 hC.2.1 hi hg (kk D ty A H0 b as0 mcT msT p e R s m args below meth c Z hC hR as H locs ls _ cells slots hw hpre hl ⟨_, _, rfl, ⟨a, ha, rfl⟩, hs⟩ hk hn)
theorem wp_aloadN {i : Nat} (hi : decode Y.2.1 pc = .ok (.aload i, 2)) (hv : L[i]? = some .null) (kk : wp_m l Y sc k n (pc + 2) L (.null :: st) h Q) : wp_m l Y sc k n pc L st h Q := by
  intro D ty A H0 b as0 mcT msT p e R s m args below meth c Z hC hR as H locs ls st' cells slots hw hpre hl hs hk hn
  obtain ⟨v', hv', hg⟩ := rl_get hl hv (by simp)
  cases (show v' = .null from hv')
  exact lv_aloadN hC.1 hC.2.1 hi hg (kk D ty A H0 b as0 mcT msT p e R s m args below meth c Z hC hR as H locs ls _ cells slots hw hpre hl ⟨_, _, rfl, rfl, hs⟩ hk hn)
theorem wp_aloadS {i : Nat} (hi : decode Y.2.1 pc = .ok (.aload i, 2)) (hv : L[i]? = some (.retAddr 1)) (kk : wp_m l Y sc k n (pc + 2) L (.retAddr 1 :: st) h Q) : wp_m l Y sc k n pc L st h Q := by
  intro D ty A H0 b as0 mcT msT p e R s m args below meth c Z hC hR as H locs ls st' cells slots hw hpre hl hs hk hn
  obtain ⟨v', hv', hg⟩ := rl_get hl hv (by simp)
  obtain ⟨-, rfl⟩ := hv'
  exact lv_aload hC.1 hC.2.1 hi hg (kk D ty A H0 b as0 mcT msT p e R s m args below meth c Z hC hR as H locs ls _ cells slots hw hpre hl ⟨_, _, rfl, ⟨rfl, rfl⟩, hs⟩ hk hn)
def mx_ok1 (L : List Value) : Nat → Bool
  | 0 => true
  | i + 1 => match L[i]? with
    | some v => v.category == 1
    | none => true
theorem rl_set {b : Nat} {as : List Nat} {nL i : Nat} {v v' : Value} {lv : List (Nat × Value)} (hlen : L.length = nL) (h2 : ∀ (i : Nat) (v : Value), L[i]? = some v → v ≠ .retAddr 0 → ∃ v', rl_v b as v v' ∧ (i, v') ∈ lv) (hok : mx_ok1 L i = true) (hv : rl_v b as v v') (hi : i < nL) :
    (L.set i v).length = nL ∧ ∀ (j : Nat) (u : Value), (L.set i v)[j]? = some u → u ≠ .retAddr 0 → ∃ u', rl_v b as u u' ∧ (j, u') ∈ ((i, v') :: lv.filter (fun q => !(q.1 == i) && !(q.1 + 1 == i && q.2.category == 2))) := by
  refine ⟨by rw [List.length_set]; exact hlen, fun j u hu hne => ?_⟩
  by_cases hj : j = i
  · subst hj
    rw [List.getElem?_set_self (by rw [hlen]; exact hi)] at hu
    cases hu
    exact ⟨v', hv, List.mem_cons_self⟩
  · rw [List.getElem?_set_ne (Ne.symm hj)] at hu
    obtain ⟨u', h3, h4⟩ := h2 j u hu hne
    refine ⟨u', h3, List.mem_cons_of_mem _ (List.mem_filter.mpr ⟨h4, ?_⟩)⟩
    by_cases hji : j + 1 = i
    · subst hji
      have hc : u.category = 1 := by
        simp only [mx_ok1, hu] at hok
        simpa using hok
      have hc' := rl_cat h3 hc
      simp [hc']
    · simp [hj, hji]
theorem wp_istore_n {j : Fin 4} {i : Nat} {x : Int32} {L' : List Value} (hi : decode Y.2.1 pc = .ok (.istore_n j, 1)) (hj : (j : Nat) = i) (hok : mx_ok1 L i = true) (hlt : i < L.length) (hL : L.set i (.int x) = L') (kk : wp_m l Y sc k n (pc + 1) L' st h Q) : wp_m l Y sc k n pc L (.int x :: st) h Q := by
  intro D ty A H0 b as0 mcT msT p e R s m args below meth c Z hC hR as H locs ls st' cells slots hw hpre hl hs hk hn
  subst hL
  obtain ⟨_, _, rfl, rfl, hs⟩ := hs
  obtain ⟨hlen, lv, h1, h2⟩ := hl
  have hset := rl_set (v := .int x) (v' := .int x) hlen h2 hok rfl (by rw [← hlen]; exact hlt)
  exact lv_istore_n hC.1 hC.2.1 hi hj h1 (by rw [← hlen]; exact hlt) rfl (fun ls' hls' => kk D ty A H0 b as0 mcT msT p e R s m args below meth c Z hC hR as H locs ls' _ cells slots hw hpre ⟨hset.1, _, hls', hset.2⟩ hs hk hn)
theorem wp_astore_n {j : Fin 4} {i : Nat} {x : Nat} {L' : List Value} (hi : decode Y.2.1 pc = .ok (.astore_n j, 1)) (hj : (j : Nat) = i) (hok : mx_ok1 L i = true) (hlt : i < L.length) (hL : L.set i (.ref x) = L') (kk : wp_m l Y sc k n (pc + 1) L' st h Q) : wp_m l Y sc k n pc L (.ref x :: st) h Q := by
  intro D ty A H0 b as0 mcT msT p e R s m args below meth c Z hC hR as H locs ls st' cells slots hw hpre hl hs hk hn
  subst hL
  obtain ⟨_, _, rfl, ⟨a, ha, rfl⟩, hs⟩ := hs
  obtain ⟨hlen, lv, h1, h2⟩ := hl
  have hset := rl_set (v := .ref x) (v' := .ref a) hlen h2 hok ⟨a, ha, rfl⟩ (by rw [← hlen]; exact hlt)
  exact lv_astore_n hC.1 hC.2.1 hi hj h1 (by rw [← hlen]; exact hlt) rfl (fun ls' hls' => kk D ty A H0 b as0 mcT msT p e R s m args below meth c Z hC hR as H locs ls' _ cells slots hw hpre ⟨hset.1, _, hls', hset.2⟩ hs hk hn)
theorem wp_astore_nN {j : Fin 4} {i : Nat} {L' : List Value} (hi : decode Y.2.1 pc = .ok (.astore_n j, 1)) (hj : (j : Nat) = i) (hok : mx_ok1 L i = true) (hlt : i < L.length) (hL : L.set i .null = L') (kk : wp_m l Y sc k n (pc + 1) L' st h Q) : wp_m l Y sc k n pc L (.null :: st) h Q := by
  intro D ty A H0 b as0 mcT msT p e R s m args below meth c Z hC hR as H locs ls st' cells slots hw hpre hl hs hk hn
  subst hL
  obtain ⟨_, _, rfl, rfl, hs⟩ := hs
  obtain ⟨hlen, lv, h1, h2⟩ := hl
  have hset := rl_set (v := .null) (v' := .null) hlen h2 hok rfl (by rw [← hlen]; exact hlt)
  exact lv_astore_nN hC.1 hC.2.1 hi hj h1 (by rw [← hlen]; exact hlt) rfl (fun ls' hls' => kk D ty A H0 b as0 mcT msT p e R s m args below meth c Z hC hR as H locs ls' _ cells slots hw hpre ⟨hset.1, _, hls', hset.2⟩ hs hk hn)
theorem wp_istore {i : Nat} {x : Int32} {L' : List Value} (hi : decode Y.2.1 pc = .ok (.istore i, 2)) (hok : mx_ok1 L i = true) (hlt : i < L.length) (hL : L.set i (.int x) = L') (kk : wp_m l Y sc k n (pc + 2) L' st h Q) : wp_m l Y sc k n pc L (.int x :: st) h Q := by
  intro D ty A H0 b as0 mcT msT p e R s m args below meth c Z hC hR as H locs ls st' cells slots hw hpre hl hs hk hn
  subst hL
  obtain ⟨_, _, rfl, rfl, hs⟩ := hs
  obtain ⟨hlen, lv, h1, h2⟩ := hl
  have hset := rl_set (v := .int x) (v' := .int x) hlen h2 hok rfl (by rw [← hlen]; exact hlt)
  exact lv_istore hC.1 hC.2.1 hi h1 (by rw [← hlen]; exact hlt) rfl (fun ls' hls' => kk D ty A H0 b as0 mcT msT p e R s m args below meth c Z hC hR as H locs ls' _ cells slots hw hpre ⟨hset.1, _, hls', hset.2⟩ hs hk hn)
theorem wp_astore {i : Nat} {x : Nat} {L' : List Value} (hi : decode Y.2.1 pc = .ok (.astore i, 2)) (hok : mx_ok1 L i = true) (hlt : i < L.length) (hL : L.set i (.ref x) = L') (kk : wp_m l Y sc k n (pc + 2) L' st h Q) : wp_m l Y sc k n pc L (.ref x :: st) h Q := by
  intro D ty A H0 b as0 mcT msT p e R s m args below meth c Z hC hR as H locs ls st' cells slots hw hpre hl hs hk hn
  subst hL
  obtain ⟨_, _, rfl, ⟨a, ha, rfl⟩, hs⟩ := hs
  obtain ⟨hlen, lv, h1, h2⟩ := hl
  have hset := rl_set (v := .ref x) (v' := .ref a) hlen h2 hok ⟨a, ha, rfl⟩ (by rw [← hlen]; exact hlt)
  exact lv_astore hC.1 hC.2.1 hi h1 (by rw [← hlen]; exact hlt) rfl (fun ls' hls' => kk D ty A H0 b as0 mcT msT p e R s m args below meth c Z hC hR as H locs ls' _ cells slots hw hpre ⟨hset.1, _, hls', hset.2⟩ hs hk hn)
theorem wp_astoreN {i : Nat} {L' : List Value} (hi : decode Y.2.1 pc = .ok (.astore i, 2)) (hok : mx_ok1 L i = true) (hlt : i < L.length) (hL : L.set i .null = L') (kk : wp_m l Y sc k n (pc + 2) L' st h Q) : wp_m l Y sc k n pc L (.null :: st) h Q := by
  intro D ty A H0 b as0 mcT msT p e R s m args below meth c Z hC hR as H locs ls st' cells slots hw hpre hl hs hk hn
  subst hL
  obtain ⟨_, _, rfl, rfl, hs⟩ := hs
  obtain ⟨hlen, lv, h1, h2⟩ := hl
  have hset := rl_set (v := .null) (v' := .null) hlen h2 hok rfl (by rw [← hlen]; exact hlt)
  exact lv_astoreN hC.1 hC.2.1 hi h1 (by rw [← hlen]; exact hlt) rfl (fun ls' hls' => kk D ty A H0 b as0 mcT msT p e R s m args below meth c Z hC hR as H locs ls' _ cells slots hw hpre ⟨hset.1, _, hls', hset.2⟩ hs hk hn)
theorem wp_iinc {i : Nat} {d : Int} {x v : Int32} {L' : List Value} (hi : decode Y.2.1 pc = .ok (.iinc i d, 3)) (hx : L[i]? = some (.int x)) (hv : x + Int32.ofInt d = v) (hok : mx_ok1 L i = true) (hL : L.set i (.int v) = L') (kk : wp_m l Y sc k n (pc + 3) L' st h Q) : wp_m l Y sc k n pc L st h Q := by
  intro D ty A H0 b as0 mcT msT p e R s m args below meth c Z hC hR as H locs ls st' cells slots hw hpre hl hs hk hn
  subst hL
  have hlt : i < L.length := (List.getElem?_eq_some_iff.mp hx).1
  obtain ⟨hlen, lv, h1, h2⟩ := hl
  have hset := rl_set (v := .int v) (v' := .int v) hlen h2 hok rfl (by rw [← hlen]; exact hlt)
  obtain ⟨x', hx', hm⟩ := h2 i _ hx (by simp)
  cases (show x' = .int x from hx')
  obtain ⟨q, hq⟩ := List.getElem?_of_mem hm
  exact lv_iinc hC.1 hC.2.1 hi h1 hq hv (by rw [← hlen]; exact hlt) rfl (fun ls' hls' => kk D ty A H0 b as0 mcT msT p e R s m args below meth c Z hC hR as H locs ls' _ cells slots hw hpre ⟨hset.1, _, hls', hset.2⟩ hs hk hn)
end MX
end
section
/-! the mirror goes on: fields, arrays, new cells, returns, calls -/
def mx_pu (v : Option Value) (st : List Value) : List Value := match v with
  | none => st
  | some x => x :: st
theorem rl_up {as as' : List Nat} {i a : Nat} (hp : as <+: as') (h : as[i]? = some a) : as'[i]? = some a := by
  obtain ⟨t, rfl⟩ := hp
  rw [List.getElem?_append_left (List.getElem?_eq_some_iff.mp h).1]
  exact h
theorem rl_v.up {b : Nat} {as as' : List Nat} {v v' : Value} (hp : as <+: as') (h : rl_v b as v v') : rl_v b as' v v' := by
  cases v with
  | ref i =>
    obtain ⟨a, h1, h2⟩ := h
    exact ⟨a, rl_up hp h1, h2⟩
  | _ => exact h
theorem rl_s.up {b : Nat} {as as' : List Nat} (hp : as <+: as') : ∀ {s s' : List Value}, rl_s b as s s' → rl_s b as' s s'
  | [], _, h => h
  | _ :: _, _, ⟨v', t', e, h1, h2⟩ => ⟨v', t', e, h1.up hp, rl_s.up hp h2⟩
theorem rl_r.up {as as' : List Nat} {x x' : Option Nat} (hp : as <+: as') (h : rl_r as x x') : rl_r as' x x' := by
  cases x with
  | none => exact h
  | some i =>
    obtain ⟨a, h1, h2⟩ := h
    exact ⟨a, rl_up hp h1, h2⟩
theorem rl_e.up {b : Nat} {as as' : List Nat} {ty : mx_T} {c c' : va_E} (hp : as <+: as') (h : rl_e b as ty c c') : rl_e b as' ty c c' := by
  match c, h with
  | .inr (ci, fs), ⟨fs', e, h1⟩ => exact ⟨fs', e, h1.up hp⟩
  | .inl (t, n, .inl f), h => exact h
  | .inl (t, n, .inr (.inr (.inr (.inr f)))), ⟨q, f', h1, h2, h3⟩ => exact ⟨q, f', h1, h2, fun i => (h3 i).up hp⟩
theorem rl_l.up {b : Nat} {as as' : List Nat} {L : List Value} {ls : Array Slot} {nL : Nat} (hp : as <+: as') (h : rl_l b as L ls nL) : rl_l b as' L ls nL := by
  obtain ⟨h1, lv, h2, h3⟩ := h
  exact ⟨h1, lv, h2, fun i v hv hn => by obtain ⟨v', a1, a2⟩ := h3 i v hv hn; exact ⟨v', a1.up hp, a2⟩⟩
theorem rl_s.at {b : Nat} {as : List Nat} : ∀ {s s' : List Value} {i : Nat} {v : Value}, rl_s b as s s' → s[i]? = some v → ∃ v', s'[i]? = some v' ∧ rl_v b as v v'
  | [], _, i, v, _, hv => by simp at hv
  | x :: t, _, 0, v, ⟨v', t', e, h1, h2⟩, hv => by subst e; simp at hv; subst hv; exact ⟨v', by simp, h1⟩
  | x :: t, _, i + 1, v, ⟨v', t', e, h1, h2⟩, hv => by
    subst e
    obtain ⟨u, a1, a2⟩ := rl_s.at (i := i) h2 (by simpa using hv)
    exact ⟨u, by simpa using a1, a2⟩
theorem rl_s.len {b : Nat} {as : List Nat} : ∀ {s s' : List Value}, rl_s b as s s' → s'.length = s.length
  | [], _, h => by cases (show _ = [] from h); rfl
  | _ :: _, _, ⟨v', t', e, h1, h2⟩ => by subst e; simp [rl_s.len h2]
theorem rl_s.set {b : Nat} {as : List Nat} {v v' : Value} (hv : rl_v b as v v') : ∀ {s s' : List Value} {i : Nat}, rl_s b as s s' → rl_s b as (s.set i v) (s'.set i v')
  | [], _, _, h => by cases (show _ = [] from h); exact rfl
  | x :: t, _, 0, ⟨w', t', e, h1, h2⟩ => by subst e; exact ⟨v', t', rfl, hv, h2⟩
  | x :: t, _, i + 1, ⟨w', t', e, h1, h2⟩ => by subst e; exact ⟨w', t'.set i v', rfl, h1, rl_s.set hv h2⟩
theorem rl_s.app {b : Nat} {as : List Nat} {u u' : List Value} (hu : rl_s b as u u') : ∀ {s s' : List Value}, rl_s b as s s' → rl_s b as (s ++ u) (s' ++ u')
  | [], _, h => by cases (show _ = [] from h); exact hu
  | x :: t, _, ⟨w', t', e, h1, h2⟩ => by subst e; exact ⟨w', t' ++ u', rfl, h1, rl_s.app hu h2⟩
theorem rl_s.split {b : Nat} {as : List Nat} : ∀ {s u r : List Value}, rl_s b as (s ++ u) r → ∃ s' u', r = s' ++ u' ∧ rl_s b as s s' ∧ rl_s b as u u'
  | [], _, r, h => ⟨[], r, rfl, rfl, h⟩
  | x :: t, u, _, ⟨w', t', e, h1, h2⟩ => by
    subst e
    obtain ⟨s', u', e, h3, h4⟩ := rl_s.split (s := t) (u := u) h2
    subst e
    exact ⟨w' :: s', u', rfl, ⟨w', s', rfl, h1, h3⟩, h4⟩
theorem rl_s.rev {b : Nat} {as : List Nat} : ∀ {s s' : List Value}, rl_s b as s s' → rl_s b as s.reverse s'.reverse
  | [], _, h => by cases (show _ = [] from h); exact rfl
  | x :: t, _, ⟨w', t', e, h1, h2⟩ => by
    subst e
    rw [List.reverse_cons, List.reverse_cons]
    exact rl_s.app (u := [x]) (u' := [w']) ⟨w', [], rfl, h1, rfl⟩ (rl_s.rev h2)
theorem rl_s.cat {b : Nat} {as : List Nat} : ∀ {s s' : List Value}, rl_s b as s s' → (s'.map fun v => v.category).sum = (s.map fun v => v.category).sum
  | [], _, h => by cases (show _ = [] from h); rfl
  | x :: t, _, ⟨w', t', e, h1, h2⟩ => by
    subst e
    have hc : w'.category = x.category := by
      cases x <;> first | (obtain ⟨_, _, rfl⟩ := h1; rfl) | (obtain ⟨_, rfl⟩ := h1; rfl) | (cases (show w' = _ from h1); rfl)
    simp [rl_s.cat h2, hc]
theorem rl_c.at {b : Nat} {as : List Nat} {ty : mx_T} {h : mx_H} {ws : va_W} {i a : Nat} {c : va_E} (hc : rl_c b as ty h ws) (hi : h[i]? = some c) (ha : as[i]? = some a) : ∃ c', ws[i]? = some (a, c') ∧ rl_e b as ty c c' := by
  obtain ⟨h1, h2, h3⟩ := hc
  obtain ⟨a', c', h4, h5⟩ := h3 i c hi
  have e : as[i]? = some a' := by rw [← h1, List.getElem?_map, h4]; rfl
  cases ha.symm.trans e
  exact ⟨c', h4, h5⟩
theorem rl_c.set {b : Nat} {as : List Nat} {ty : mx_T} {h : mx_H} {ws : va_W} {i a : Nat} {c c0 c' : va_E} (hc : rl_c b as ty h ws) (hw : ws[i]? = some (a, c0)) (he : rl_e b as ty c c') : rl_c b as ty (h.set i c) (ws.set i (a, c')) := by
  obtain ⟨h1, h2, h3⟩ := hc
  have hlt : i < ws.length := (List.getElem?_eq_some_iff.mp hw).1
  have e : (ws.set i (a, c')).map (·.1) = ws.map (·.1) := by
    apply List.ext_getElem?
    intro j
    rw [List.getElem?_map, List.getElem?_map]
    by_cases hj : j = i
    · subst hj
      rw [List.getElem?_set_self hlt, hw]; rfl
    · rw [List.getElem?_set_ne (Ne.symm hj)]
  refine ⟨by rw [e]; exact h1, by rw [List.length_set]; exact h2, fun j x hx => ?_⟩
  by_cases hj : j = i
  · subst hj
    have hl : j < h.length := by rw [← h2, ← h1, List.length_map]; exact hlt
    rw [List.getElem?_set_self hl] at hx
    cases hx
    exact ⟨a, c', List.getElem?_set_self hlt, he⟩
  · rw [List.getElem?_set_ne (Ne.symm hj)] at hx
    obtain ⟨a1, c1, h4, h5⟩ := h3 j x hx
    exact ⟨a1, c1, by rw [List.getElem?_set_ne (Ne.symm hj)]; exact h4, h5⟩
theorem rl_c.push {b : Nat} {as : List Nat} {ty : mx_T} {h : mx_H} {ws : va_W} {q : Nat} {c c' : va_E} (hc : rl_c b as ty h ws) (he : rl_e b (as ++ [q]) ty c c') : rl_c b (as ++ [q]) ty (h ++ [c]) (ws ++ [(q, c')]) := by
  obtain ⟨h1, h2, h3⟩ := hc
  have hl : ws.length = h.length := by rw [← h2, ← h1, List.length_map]
  refine ⟨by rw [List.map_append, h1]; rfl, by rw [List.length_append, List.length_append, h2]; rfl, fun j x hx => ?_⟩
  by_cases hj : j < h.length
  · rw [List.getElem?_append_left hj] at hx
    obtain ⟨a1, c1, h4, h5⟩ := h3 j x hx
    exact ⟨a1, c1, by rw [List.getElem?_append_left (by omega)]; exact h4, h5.up (List.prefix_append _ _)⟩
  · rw [List.getElem?_append_right (by omega)] at hx
    have hz : j - h.length < 1 := (List.getElem?_eq_some_iff.mp hx).1
    have hj0 : j = h.length := by omega
    subst hj0
    rw [Nat.sub_self] at hx
    cases hx
    exact ⟨q, c', by rw [List.getElem?_append_right (by omega), hl, Nat.sub_self]; rfl, he⟩
theorem rl_ty {ty : mx_T} {t : Nat} {q : ClassId × FieldType} {f : FieldType} (h : ty.map (·.2) = TY) (hq : ty[t]? = some q) (hf : TY[t]? = some f) : q.2 = f := by
  have e : (ty.map (·.2))[t]? = some q.2 := by rw [List.getElem?_map, hq]; rfl
  rw [h, hf] at e
  exact (Option.some.inj e).symm
/-- a field by its place in a class's pool: class number, slot, final, type -/
def mx_F (own : String) (idx ci kf : Nat) (fin : Bool) (ft : FieldType) : Prop := ∃ (C : String) (T : u_T) (N : Nat) (ty0 : Nat → FieldType), classes[ci]? = some (C, T, N) ∧ kf < N ∧ (∀ w ∈ u_ws C T N, w ∈ WS) ∧ (∀ k, k < N → parseFieldDescriptor (T k).2.2.1 = some (ty0 k)) ∧ (∀ a, a < N → ∀ b, b < N → a ≠ b → (T a).2.1 ≠ (T b).2.1) ∧ Cond.fieldLink own idx (T kf).1 (T kf).2.1 (T kf).2.2.1 ∈ WS ∧ (T kf).2.2.2 = fin ∧ parseFieldDescriptor (T kf).2.2.1 = some ft ∧ (T kf).1 = own
theorem mx_refn {t : FieldType} (h : t.isReference = true) (a : Nat) : narrow t (.ref a) = .ref a ∧ fits t (.ref a) = true := by
  cases t <;> first | (exact ⟨rfl, rfl⟩) | (simp [FieldType.isReference] at h)
section MH
variable {l : Launch} {Y : mx_Y} {sc : mx_S} {k n : Nat} {pc : Nat} {L st : List Value} {h : mx_H} {Q : Option Value → mx_H → Prop}
theorem wp_getf {idx ci kf a : Nat} {fin : Bool} {ft : FieldType} {fs : List Value} {v : Value} (hi : decode Y.2.1 pc = .ok (.getfield idx, 3)) (hF : mx_F Y.1.cls idx ci kf fin ft) (ha : h[a]? = some (.inr (ci, fs))) (hv : fs[kf]? = some v) (kk : wp_m l Y sc k n (pc + 3) L (v :: st) h Q) : wp_m l Y sc k n pc L (.ref a :: st) h Q := by
  intro D ty A H0 b as0 mcT msT p e R s m args below meth c Z hC hR as H locs ls st' cells slots hw hpre hl hs hk hn
  obtain ⟨_, _, rfl, ⟨q, hq, rfl⟩, hs⟩ := hs
  obtain ⟨C, T, N, ty0, f1, f2, f3, f4, f5, f6, f7, f8, f9⟩ := hF
  obtain ⟨ws, hrc, hP, hD, hS⟩ := id hw
  obtain ⟨c', g1, fs', rfl, g2⟩ := hrc.at ha hq
  obtain ⟨v', g3, g4⟩ := g2.at hv
  have hts := hC.2.2.2.2.2.2.2.1
  have hK := hC.2.2.2.2.2.2.2.2.1.1
  exact va_get hC.1 hC.2.1 hts f3 hC.2.2.2.2.1 hK hP a g1 f1 kf f2 (hts _ f6) (fun _ h9 => h9) g3 hi (kk D ty A H0 b as0 mcT msT p e R s m args below meth c Z hC hR as H locs ls _ cells slots hw hpre hl ⟨_, _, rfl, g4, hs⟩ hk hn)
theorem wp_putf {idx ci kf a : Nat} {ft : FieldType} {fs : List Value} {v : Value} (hi : decode Y.2.1 pc = .ok (.putfield idx, 3)) (hF : mx_F Y.1.cls idx ci kf false ft) (ha : h[a]? = some (.inr (ci, fs))) (hkf : kf < fs.length) (hv : ∀ (b : Nat) (as : List Nat) (v' : Value), rl_v b as v v' → narrow ft v' = v' ∧ fits ft v' = true) (kk : wp_m l Y sc k n (pc + 3) L st (h.set a (.inr (ci, fs.set kf v))) Q) : wp_m l Y sc k n pc L (v :: .ref a :: st) h Q := by
  intro D ty A H0 b as0 mcT msT p e R s m args below meth c Z hC hR as H locs ls st' cells slots hw hpre hl hs hk hn
  obtain ⟨v', _, rfl, hvv, _, _, rfl, ⟨q, hq, rfl⟩, hs⟩ := hs
  obtain ⟨C, T, N, ty0, f1, f2, f3, f4, f5, f6, f7, f8, f9⟩ := hF
  obtain ⟨ws, hrc, hP, hD, hS⟩ := id hw
  obtain ⟨c', g1, fs', rfl, g2⟩ := hrc.at ha hq
  have hts := hC.2.2.2.2.2.2.2.1
  have hK := hC.2.2.2.2.2.2.2.2.1.1
  exact va_put hC.1 hC.2.1 hts f3 ty0 f4 f5 hC.2.2.2.2.1 hK hP hD hS a g1 f1 kf f2 (hts _ f6) (fun _ h9 => h9) f7 f8 (hv b as v' hvv).1 (hv b as v' hvv).2 (by rw [g2.len]; exact hkf) hi (fun H1 locs1 hP1 hD1 hS1 => kk D ty A H0 b as0 mcT msT p e R s m args below meth c Z hC hR as H1 locs1 ls _ cells slots ⟨_, hrc.set g1 ⟨_, rfl, g2.set hvv⟩, hP1, hD1, hS1⟩ hpre hl hs hk hn)
theorem wp_putF {idx ci kf a : Nat} {ft : FieldType} {fs : List Value} {v : Value} (hi : decode Y.2.1 pc = .ok (.putfield idx, 3)) (hF : mx_F Y.1.cls idx ci kf true ft) (hin : Y.1.name = "<init>") (ha : h[a]? = some (.inr (ci, fs))) (hkf : kf < fs.length) (hv : ∀ (b : Nat) (as : List Nat) (v' : Value), rl_v b as v v' → narrow ft v' = v' ∧ fits ft v' = true) (kk : wp_m l Y sc k n (pc + 3) L st (h.set a (.inr (ci, fs.set kf v))) Q) : wp_m l Y sc k n pc L (v :: .ref a :: st) h Q := by
  intro D ty A H0 b as0 mcT msT p e R s m args below meth c Z hC hR as H locs ls st' cells slots hw hpre hl hs hk hn
  obtain ⟨v', _, rfl, hvv, _, _, rfl, ⟨q, hq, rfl⟩, hs⟩ := hs
  obtain ⟨C, T, N, ty0, f1, f2, f3, f4, f5, f6, f7, f8, f9⟩ := hF
  obtain ⟨ws, hrc, hP, hD, hS⟩ := id hw
  obtain ⟨c', g1, fs', rfl, g2⟩ := hrc.at ha hq
  have hts := hC.2.2.2.2.2.2.2.1
  have hK := hC.2.2.2.2.2.2.2.2.1.1
  exact va_putF hC.1 hC.2.1 hts f3 ty0 f4 f5 hC.2.2.2.2.1 hK hP hD hS a g1 f1 kf f2 (hts _ f6) (fun _ h9 => h9) f7 (hC.2.2.2.2.2.2.1 hin) f9 f8 (hv b as v' hvv).1 (hv b as v' hvv).2 (by rw [g2.len]; exact hkf) hi (fun H1 locs1 hP1 hD1 hS1 => kk D ty A H0 b as0 mcT msT p e R s m args below meth c Z hC hR as H1 locs1 ls _ cells slots ⟨_, hrc.set g1 ⟨_, rfl, g2.set hvv⟩, hP1, hD1, hS1⟩ hpre hl hs hk hn)
theorem pv_int {x : Int32} : ∀ (b : Nat) (as : List Nat) (v' : Value), rl_v b as (.int x) v' → narrow .int v' = v' ∧ fits .int v' = true := fun b as v' h => by
  cases (show v' = _ from h)
  exact ⟨rfl, rfl⟩
theorem pv_0 : ∀ (b : Nat) (as : List Nat) (v' : Value), rl_v b as (.int 0) v' → narrow .boolean v' = v' ∧ fits .boolean v' = true := fun b as v' h => by
  cases (show v' = _ from h)
  exact ⟨rfl, rfl⟩
theorem pv_1 : ∀ (b : Nat) (as : List Nat) (v' : Value), rl_v b as (.int 1) v' → narrow .boolean v' = v' ∧ fits .boolean v' = true := fun b as v' h => by
  cases (show v' = _ from h)
  exact ⟨rfl, rfl⟩
theorem pv_ref {i : Nat} {t : FieldType} (ht : t.isReference = true) : ∀ (b : Nat) (as : List Nat) (v' : Value), rl_v b as (.ref i) v' → narrow t v' = v' ∧ fits t v' = true := fun b as v' h => by
  obtain ⟨a, -, rfl⟩ := h
  exact mx_refn ht a
theorem wp_iaload {a N : Nat} {f : Nat → Int32} {i : Int32} (hi : decode Y.2.1 pc = .ok (.iaload, 1)) (ha : h[a]? = some (.inl (0, N, .inl f))) (hin : vp_in i N) (kk : wp_m l Y sc k n (pc + 1) L (.int (f i.toNatClampNeg) :: st) h Q) : wp_m l Y sc k n pc L (.int i :: .ref a :: st) h Q := by
  intro D ty A H0 b as0 mcT msT p e R s m args below meth c Z hC hR as H locs ls st' cells slots hw hpre hl hs hk hn
  obtain ⟨_, _, rfl, rfl, _, _, rfl, ⟨q, hq, rfl⟩, hs⟩ := hs
  obtain ⟨ws, hrc, hP, hD, hS⟩ := id hw
  obtain ⟨c', g1, ⟨cA, ft⟩, g2, rfl⟩ := hrc.at ha hq
  have hK := hC.2.2.2.2.2.2.2.2.1.1
  have e2 : ft = .int := rl_ty hC.2.2.2.2.2.2.2.2.2.1 g2 rfl
  subst e2
  exact va_iald hC.1 hC.2.1 hK hP a 0 g1 g2 hin hi (kk D ty A H0 b as0 mcT msT p e R s m args below meth c Z hC hR as H locs ls _ cells slots hw hpre hl ⟨_, _, rfl, rfl, hs⟩ hk hn)
theorem wp_baload {a N : Nat} {f : Nat → Int32} {i : Int32} (hi : decode Y.2.1 pc = .ok (.baload, 1)) (ha : h[a]? = some (.inl (1, N, .inl f))) (hin : vp_in i N) (kk : wp_m l Y sc k n (pc + 1) L (.int (f i.toNatClampNeg) :: st) h Q) : wp_m l Y sc k n pc L (.int i :: .ref a :: st) h Q := by
  intro D ty A H0 b as0 mcT msT p e R s m args below meth c Z hC hR as H locs ls st' cells slots hw hpre hl hs hk hn
  obtain ⟨_, _, rfl, rfl, _, _, rfl, ⟨q, hq, rfl⟩, hs⟩ := hs
  obtain ⟨ws, hrc, hP, hD, hS⟩ := id hw
  obtain ⟨c', g1, ⟨cA, ft⟩, g2, rfl⟩ := hrc.at ha hq
  have hK := hC.2.2.2.2.2.2.2.2.1.1
  have e2 : ft = .boolean := rl_ty hC.2.2.2.2.2.2.2.2.2.1 g2 rfl
  subst e2
  exact va_zald hC.1 hC.2.1 hK hP a 1 g1 g2 hin hi (kk D ty A H0 b as0 mcT msT p e R s m args below meth c Z hC hR as H locs ls _ cells slots hw hpre hl ⟨_, _, rfl, rfl, hs⟩ hk hn)
theorem wp_iastore {a N : Nat} {f : Nat → Int32} {i x : Int32} (hi : decode Y.2.1 pc = .ok (.iastore, 1)) (ha : h[a]? = some (.inl (0, N, .inl f))) (hin : vp_in i N) (kk : wp_m l Y sc k n (pc + 1) L st (h.set a (.inl (0, N, .inl (upd f i.toNatClampNeg x)))) Q) : wp_m l Y sc k n pc L (.int x :: .int i :: .ref a :: st) h Q := by
  intro D ty A H0 b as0 mcT msT p e R s m args below meth c Z hC hR as H locs ls st' cells slots hw hpre hl hs hk hn
  obtain ⟨_, _, rfl, rfl, _, _, rfl, rfl, _, _, rfl, ⟨q, hq, rfl⟩, hs⟩ := hs
  obtain ⟨ws, hrc, hP, hD, hS⟩ := id hw
  obtain ⟨c', g1, ⟨cA, ft⟩, g2, rfl⟩ := hrc.at ha hq
  have hK := hC.2.2.2.2.2.2.2.2.1.1
  have e2 : ft = .int := rl_ty hC.2.2.2.2.2.2.2.2.2.1 g2 rfl
  subst e2
  exact va_iast hC.1 hC.2.1 hK hP hD hS a 0 g1 g2 hin hi (fun H1 locs1 hP1 hD1 hS1 => kk D ty A H0 b as0 mcT msT p e R s m args below meth c Z hC hR as H1 locs1 ls _ cells slots ⟨_, hrc.set g1 ⟨_, g2, rfl⟩, hP1, hD1, hS1⟩ hpre hl hs hk hn)
theorem wp_bastore {a N : Nat} {f : Nat → Int32} {i x : Int32} (hi : decode Y.2.1 pc = .ok (.bastore, 1)) (ha : h[a]? = some (.inl (1, N, .inl f))) (hin : vp_in i N) (hx : vp_nar .boolean x = x) (kk : wp_m l Y sc k n (pc + 1) L st (h.set a (.inl (1, N, .inl (upd f i.toNatClampNeg x)))) Q) : wp_m l Y sc k n pc L (.int x :: .int i :: .ref a :: st) h Q := by
  intro D ty A H0 b as0 mcT msT p e R s m args below meth c Z hC hR as H locs ls st' cells slots hw hpre hl hs hk hn
  obtain ⟨_, _, rfl, rfl, _, _, rfl, rfl, _, _, rfl, ⟨q, hq, rfl⟩, hs⟩ := hs
  obtain ⟨ws, hrc, hP, hD, hS⟩ := id hw
  obtain ⟨c', g1, ⟨cA, ft⟩, g2, rfl⟩ := hrc.at ha hq
  have hK := hC.2.2.2.2.2.2.2.2.1.1
  have e2 : ft = .boolean := rl_ty hC.2.2.2.2.2.2.2.2.2.1 g2 rfl
  subst e2
  exact va_zast hC.1 hC.2.1 hK hP hD hS a 1 g1 g2 hin hi (fun H1 locs1 hP1 hD1 hS1 => by
    rw [hx] at hP1 hD1
    exact kk D ty A H0 b as0 mcT msT p e R s m args below meth c Z hC hR as H1 locs1 ls _ cells slots ⟨_, hrc.set g1 ⟨_, g2, rfl⟩, hP1, hD1, hS1⟩ hpre hl hs hk hn)
theorem wp_aaload {a t N j : Nat} {ft : FieldType} {f : Nat → Option Nat} {i : Int32} (hi : decode Y.2.1 pc = .ok (.aaload, 1)) (ha : h[a]? = some (.inl (t, N, .inr (.inr (.inr (.inr f)))))) (hT : TY[t]? = some ft) (hft : ft.isReference = true) (hin : vp_in i N) (hj : f i.toNatClampNeg = some j) (kk : wp_m l Y sc k n (pc + 1) L (.ref j :: st) h Q) : wp_m l Y sc k n pc L (.int i :: .ref a :: st) h Q := by
  intro D ty A H0 b as0 mcT msT p e R s m args below meth c Z hC hR as H locs ls st' cells slots hw hpre hl hs hk hn
  obtain ⟨_, _, rfl, rfl, _, _, rfl, ⟨q, hq, rfl⟩, hs⟩ := hs
  obtain ⟨ws, hrc, hP, hD, hS⟩ := id hw
  obtain ⟨c', g1, ⟨cA, ft2⟩, f', g2, rfl, g3⟩ := hrc.at ha hq
  have hK := hC.2.2.2.2.2.2.2.2.1.1
  have e2 : ft2 = ft := rl_ty hC.2.2.2.2.2.2.2.2.2.1 g2 hT
  subst e2
  have g4 := g3 i.toNatClampNeg
  rw [hj] at g4
  obtain ⟨a', g5, g6⟩ := g4
  have hlt : i.toNatClampNeg < N := Nat.not_le.mp fun q => hin (Or.inr q)
  exact W.aald (v := va_rf (f' i.toNatClampNeg)) (ty := ft2) hC.1 hC.2.1 (hP a _ g1) ((hK.2 t _ g2).1 N (fun j => va_rf (f' j))) hft (fun q => by cases q) (by show ¬ (i < 0 ∨ (arrV _ _ _).slots.size ≤ _); rw [arrV_size]; exact hin) (by show (arrV _ _ _).slots[_]? = _; rw [arrV_read _ _ hlt]) rfl rfl hi (by
    rw [g6]
    exact kk D ty A H0 b as0 mcT msT p e R s m args below meth c Z hC hR as H locs ls _ cells slots hw hpre hl ⟨_, _, rfl, ⟨a', g5, rfl⟩, hs⟩ hk hn)
theorem wp_aastore {a t N j ci : Nat} {r : vw_C} {f : Nat → Option Nat} {i : Int32} {fs : List Value} (hi : decode Y.2.1 pc = .ok (.aastore, 1)) (ha : h[a]? = some (.inl (t, N, .inr (.inr (.inr (.inr f)))))) (hT : TY[t]? = some (.object r.1)) (hin : vp_in i N) (hj : h[j]? = some (.inr (ci, fs))) (hc : classes[ci]? = some r) (kk : wp_m l Y sc k n (pc + 1) L st (h.set a (.inl (t, N, .inr (.inr (.inr (.inr (va_up f i.toNatClampNeg (some j)))))))) Q) : wp_m l Y sc k n pc L (.ref j :: .int i :: .ref a :: st) h Q := by
  intro D ty A H0 b as0 mcT msT p e R s m args below meth c Z hC hR as H locs ls st' cells slots hw hpre hl hs hk hn
  obtain ⟨_, _, rfl, ⟨q2, hq2, rfl⟩, _, _, rfl, rfl, _, _, rfl, ⟨q, hq, rfl⟩, hs⟩ := hs
  obtain ⟨ws, hrc, hP, hD, hS⟩ := id hw
  obtain ⟨c', g1, ⟨cA, ft2⟩, f', g2, rfl, g3⟩ := hrc.at ha hq
  obtain ⟨c2, g7, fs', rfl, g8⟩ := hrc.at hj hq2
  have hK := hC.2.2.2.2.2.2.2.2.1.1
  have e2 : ft2 = .object r.1 := rl_ty hC.2.2.2.2.2.2.2.2.2.1 g2 hT
  subst e2
  exact va_astq hC.1 hC.2.1 hK hP hD hS a t j ci g1 g2 g7 hc hin hi (fun H1 locs1 hP1 hD1 hS1 => kk D ty A H0 b as0 mcT msT p e R s m args below meth c Z hC hR as H1 locs1 ls _ cells slots ⟨_, hrc.set g1 ⟨_, _, g2, rfl, fun x => by
    by_cases hx : x = i.toNatClampNeg
    · subst hx
      simp only [va_up_self]
      exact ⟨q2, hq2, rfl⟩
    · rw [va_up_ne _ _ hx, va_up_ne _ _ hx]
      exact g3 x⟩, hP1, hD1, hS1⟩ hpre hl hs hk hn)
theorem wp_salen {x : Nat × (Nat → Int32)} (hi : decode Y.2.1 pc = .ok (.arraylength, 1)) (kk : wp_m l Y (some x) k n (pc + 1) L (.int (Int32.ofNat x.1) :: st) h Q) : wp_m l Y (some x) k n pc L (.retAddr 1 :: st) h Q := by
  intro D ty A H0 b as0 mcT msT p e R s m args below meth c Z hC hR as H locs ls st' cells slots hw hpre hl hs hk hn
  obtain ⟨_, _, rfl, ⟨-, rfl⟩, hs⟩ := hs
  obtain ⟨ws, hrc, hP, hD, hS⟩ := id hw
  obtain ⟨hX, hb, hA⟩ := hC.2.2.2.2.2.2.2.2.2.2.2.2.2.2.2 x rfl
  exact va_slen hC.1 hC.2.1 hX hb hA hS hi (kk D ty A H0 b as0 mcT msT p e R s m args below meth c Z hC hR as H locs ls _ cells slots hw hpre hl ⟨_, _, rfl, rfl, hs⟩ hk hn)
theorem wp_saload {x : Nat × (Nat → Int32)} {i : Int32} (hi : decode Y.2.1 pc = .ok (.iaload, 1)) (hin : vp_in i x.1) (kk : wp_m l Y (some x) k n (pc + 1) L (.int (x.2 i.toNatClampNeg) :: st) h Q) : wp_m l Y (some x) k n pc L (.int i :: .retAddr 1 :: st) h Q := by
  intro D ty A H0 b as0 mcT msT p e R s m args below meth c Z hC hR as H locs ls st' cells slots hw hpre hl hs hk hn
  obtain ⟨_, _, rfl, rfl, _, _, rfl, ⟨-, rfl⟩, hs⟩ := hs
  obtain ⟨ws, hrc, hP, hD, hS⟩ := id hw
  obtain ⟨hX, hb, hA⟩ := hC.2.2.2.2.2.2.2.2.2.2.2.2.2.2.2 x rfl
  exact va_sld hC.1 hC.2.1 hX hb hA hS hin hi (kk D ty A H0 b as0 mcT msT p e R s m args below meth c Z hC hR as H locs ls _ cells slots hw hpre hl ⟨_, _, rfl, rfl, hs⟩ hk hn)
-- returns
theorem wp_ireturn {x : Int32} {t : FieldType} (hi : decode Y.2.1 pc = .ok (.ireturn, 1)) (ht : Y.2.2.2.1 = some t) (hx : narrow t (.int x) = .int x) (hq : Q (some (.int x)) h) : wp_m l Y sc k n pc L [.int x] h Q := by
  intro D ty A H0 b as0 mcT msT p e R s m args below meth c Z hC hR as H locs ls st' cells slots hw hpre hl hs hk hn
  obtain ⟨_, _, rfl, rfl, hs⟩ := hs
  cases (show _ = [] from hs)
  exact W.widen (by omega) (by omega) (hR as h H locs pc ls (some (.int x)) (some (.int x)) hw hpre ⟨hi, t, ht, hx⟩ ⟨_, rfl, rfl⟩ hq)
theorem wp_return (hi : decode Y.2.1 pc = .ok (.return_, 1)) (ht : Y.2.2.2.1 = none) (hq : Q none h) : wp_m l Y sc k n pc L [] h Q := by
  intro D ty A H0 b as0 mcT msT p e R s m args below meth c Z hC hR as H locs ls st' cells slots hw hpre hl hs hk hn
  cases (show _ = [] from hs)
  exact W.widen (by omega) (by omega) (hR as h H locs pc ls none none hw hpre ⟨hi, ht⟩ rfl hq)
theorem wp_areturn {i : Nat} {t : FieldType} (hi : decode Y.2.1 pc = .ok (.areturn, 1)) (ht : Y.2.2.2.1 = some t) (hr : (∃ n, t = .object n) ∨ ∃ u, t = .array u) (hq : Q (some (.ref i)) h) : wp_m l Y sc k n pc L [.ref i] h Q := by
  intro D ty A H0 b as0 mcT msT p e R s m args below meth c Z hC hR as H locs ls st' cells slots hw hpre hl hs hk hn
  obtain ⟨_, _, rfl, ⟨a, ha, rfl⟩, hs⟩ := hs
  cases (show _ = [] from hs)
  exact W.widen (by omega) (by omega) (hR as h H locs pc ls (some (.ref i)) (some (.ref a)) hw hpre ⟨hi, t, ht, hr, Or.inr ⟨a, rfl⟩⟩ ⟨_, rfl, a, ha, rfl⟩ hq)
theorem wp_areturnN {t : FieldType} (hi : decode Y.2.1 pc = .ok (.areturn, 1)) (ht : Y.2.2.2.1 = some t) (hr : (∃ n, t = .object n) ∨ ∃ u, t = .array u) (hq : Q (some .null) h) : wp_m l Y sc k n pc L [.null] h Q := by
  intro D ty A H0 b as0 mcT msT p e R s m args below meth c Z hC hR as H locs ls st' cells slots hw hpre hl hs hk hn
  obtain ⟨_, _, rfl, rfl, hs⟩ := hs
  cases (show _ = [] from hs)
  exact W.widen (by omega) (by omega) (hR as h H locs pc ls (some .null) (some .null) hw hpre ⟨hi, t, ht, hr, Or.inl rfl⟩ ⟨_, rfl, rfl⟩ hq)
end MH
end
section
/-! contracts and calls -/
def ct_Q (D : va_G) (ty : mx_T) (b : Nat) (as : List Nat) (K : Option Value → mx_H → Prop) (A : Nat → Prop) : Array Value → State → Outcome → State → Prop := fun _ st oc t =>
  (∃ (v v' : Option Value) (h' : mx_H) (as' : List Nat) (ws' : va_W), oc = .returned v' ∧ rl_o b as' v v' ∧ as <+: as' ∧ rl_c b as' ty h' ws' ∧ va_P D classes ws' t.heap ∧ va_D A ws' ∧ K v h') ∧ va_F A st t
def ct_P (D : va_G) (ty : mx_T) (ws : va_W) (args' : List Value) (sz : Nat) : Array Value → State → Prop := va_Pc args' (fun U => U.heap.size = sz ∧ va_P D classes ws U.heap ∧ mx_K D ty U ∧ va_D (fun _ => True) ws)
/-- the contract of a method: from any heap that holds h it returns, and K holds of its answer and of the heap then; at most k cells of n slots are made -/
def ct_m (l : Launch) (Y : mx_Y) (k n : Nat) (args : List Value) (h : mx_H) (K : Option Value → mx_H → Prop) : Prop :=
  ∀ (D : va_G) (ty : mx_T) (b : Nat) (as : List Nat) (ws : va_W) (args' : List Value) (sz : Nat), ty.map (·.2) = TY → rl_c b as ty h ws → rl_s b as args args' →
    Met l Y.1 (mx_ws Y) (mx_rm Y k n) (ct_P D ty ws args' sz) (ct_Q D ty b as K (va_A ws sz)) k n (va_A ws sz)
def mx_en : List Value → List Value
  | [] => []
  | v :: t => match v with
    | .long x => .long x :: .retAddr 0 :: mx_en t
    | .double x => .double x :: .retAddr 0 :: mx_en t
    | v => v :: mx_en t
theorem rl_cat2 {b : Nat} {as : List Nat} {v v' : Value} (h : rl_v b as v v') : v'.category = v.category := by
  cases v <;> first | (obtain ⟨_, _, rfl⟩ := h; rfl) | (obtain ⟨_, rfl⟩ := h; rfl) | (cases (show v' = _ from h); rfl)
theorem mx_en1 {v : Value} (h : v.category = 1) (t : List Value) : mx_en (v :: t) = v :: mx_en t := by
  cases v <;> first | rfl | (simp [Value.category] at h)
theorem mx_en2 {v : Value} (h : v.category = 2) (t : List Value) : mx_en (v :: t) = v :: .retAddr 0 :: mx_en t := by
  cases v <;> first | rfl | (simp [Value.category] at h)
theorem en_len {b : Nat} {as : List Nat} : ∀ {s s' : List Value}, rl_s b as s s' → (lg_sl s').length = (mx_en s).length
  | [], _, h => by cases (show _ = [] from h); rfl
  | x :: t, _, ⟨w', t', e, h1, h2⟩ => by
    subst e
    have ih := en_len h2
    have hc := rl_cat2 h1
    rcases lv_cat x with h | h
    · rw [mx_en1 h]
      have e1 : lg_sl (w' :: t') = .val w' :: lg_sl t' := by simp [lg_sl, hc, h]
      rw [e1, List.length_cons, List.length_cons, ih]
    · rw [mx_en2 h]
      have e1 : lg_sl (w' :: t') = .val w' :: .second :: lg_sl t' := by simp [lg_sl, hc, h]
      rw [e1, List.length_cons, List.length_cons, List.length_cons, List.length_cons, ih]
theorem en_has {b : Nat} {as : List Nat} : ∀ {s s' : List Value} (i0 : Nat), rl_s b as s s' → ∀ (j : Nat) (v : Value), (mx_en s)[j]? = some v → v ≠ .retAddr 0 → ∃ v', rl_v b as v v' ∧ (i0 + j, v') ∈ lv_args i0 s'
  | [], _, i0, h, j, v, hv, _ => by simp [mx_en] at hv
  | x :: t, _, i0, ⟨w', t', e, h1, h2⟩, j, v, hv, hne => by
    subst e
    have hc := rl_cat2 h1
    rcases lv_cat x with h | h
    · rw [mx_en1 h] at hv
      have e1 : lv_args i0 (w' :: t') = (i0, w') :: lv_args (i0 + 1) t' := by simp [lv_args, hc, h]
      rw [e1]
      cases j with
      | zero =>
        rw [List.getElem?_cons_zero] at hv
        cases hv
        exact ⟨w', h1, List.mem_cons_self⟩
      | succ j =>
        rw [List.getElem?_cons_succ] at hv
        obtain ⟨v', a1, a2⟩ := en_has (i0 + 1) h2 j v hv hne
        exact ⟨v', a1, List.mem_cons_of_mem _ (by rw [show i0 + (j + 1) = i0 + 1 + j by omega]; exact a2)⟩
    · rw [mx_en2 h] at hv
      have e1 : lv_args i0 (w' :: t') = (i0, w') :: lv_args (i0 + 2) t' := by simp [lv_args, hc, h]
      rw [e1]
      match j, hv with
      | 0, hv =>
        rw [List.getElem?_cons_zero] at hv
        cases hv
        exact ⟨w', h1, List.mem_cons_self⟩
      | 1, hv =>
        rw [List.getElem?_cons_succ, List.getElem?_cons_zero] at hv
        cases hv
        exact absurd rfl hne
      | j + 2, hv =>
        rw [List.getElem?_cons_succ, List.getElem?_cons_succ] at hv
        obtain ⟨v', a1, a2⟩ := en_has (i0 + 2) h2 j v hv hne
        exact ⟨v', a1, List.mem_cons_of_mem _ (by rw [show i0 + (j + 2) = i0 + 2 + j by omega]; exact a2)⟩
theorem en_rl {b : Nat} {as : List Nat} {s s' L : List Value} {nL : Nat} (h : rl_s b as s s') (hle : (mx_en s).length ≤ nL) (hL : mx_en s ++ List.replicate (nL - (mx_en s).length) (.retAddr 0) = L) : rl_l b as L ((lg_sl s' ++ List.replicate (nL - (lg_sl s').length) Slot.unset).toArray) nL := by
  subst hL
  refine ⟨by simp; omega, lv_args 0 s', lv_entry s' (by rw [en_len h]; exact hle), fun i v hv hne => ?_⟩
  by_cases hi : i < (mx_en s).length
  · rw [List.getElem?_append_left hi] at hv
    obtain ⟨v', a1, a2⟩ := en_has 0 h i v hv hne
    exact ⟨v', a1, by rw [Nat.zero_add] at a2; exact a2⟩
  · rw [List.getElem?_append_right (by omega), List.getElem?_replicate] at hv
    split at hv
    · cases hv; exact absurd rfl hne
    · cases hv
theorem ct_of {l : Launch} {Y : mx_Y} {k n : Nat} {args L : List Value} {h : mx_H} {K : Option Value → mx_H → Prop} (hpl : plainName Y.1.cls = true) (hle : (mx_en args).length ≤ Y.2.2.1) (hL : mx_en args ++ List.replicate (Y.2.2.1 - (mx_en args).length) (.retAddr 0) = L) (kk : wp_m l Y none k n 0 L [] h K) : ct_m l Y k n args h K := by
  intro D ty b as ws args' sz hty hrc hs
  refine Met.ofW (cc := Y.2.1) (maxL := Y.2.2.1) (ret := Y.2.2.2.1) hpl rfl ?_
  intro p e s m args0 below meth c s₁ B hml hv
  obtain ⟨rfl, hsz, hP, hK, hD0⟩ := hv
  have hts0 := atoms_spec (ws := mx_ws Y) B.pre
  have hts : ∀ w ∈ WS, w.before args'.toArray s = true := fun w hw => hts0 w (List.mem_cons_of_mem _ hw)
  subst hsz
  have hD := hD0.self (sz := s.heap.size)
  generalize hAe : va_A ws s.heap.size = A at hD ⊢
  have hA : ∀ q : Nat, s.heap.size ≤ q → A q := fun q h => by rw [← hAe]; exact Or.inr h
  have hS : va_S A s.heap s.heap [] := va_S.rf
  have hl := en_rl hs hle hL
  rw [lg_entry_eq]
  have hlocks := B.notSynchronized
  have hret := B.returns
  refine kk D ty A s.heap b as k n p e _ s m _ below meth c _ ⟨B.exec, B.bytes, hret, hml, findClass_of_methodNamed B.named, hlocks, fun hin => ((name_of_methodNamed B.named B.method).1).trans hin, hts, hK, hty, Nat.le_refl _, Nat.le_refl _, Nat.le_refl _, Nat.le_refl _, hA, fun x hx => by cases hx⟩ ?_ as s.heap [] _ [] 0 0 ⟨ws, hrc, hP, hD, hS⟩ (List.prefix_refl _) hl rfl (by omega) (by omega)
  intro as' h' H locs pc' ls v v' hw' hpre' hR ho hq
  obtain ⟨ws', hrc', hP', hD', hS'⟩ := hw'
  have fin : ∀ t : State, t.heap = H → s.WarmedH t.vm → ct_Q D ty b as K A args'.toArray s (.returned v') t := fun t ht hW =>
    ⟨⟨v, v', h', as', ws', rfl, ho, hpre', hrc', by rw [ht]; exact hP', hD', hq⟩, hS'.F ht⟩
  match v', hR, fin with
  | none, hR, fin => exact W.vret B.exec B.bytes (hret.trans hR.2) fin hS'.2.2 hR.1
  | some (.int x), ⟨hR1, t, hR2, hR3⟩, fin => exact W.zret B.exec B.bytes (hret.trans hR2) hR3 fin hS'.2.2 hR1
  | some .null, ⟨hR1, t, hR2, hR3, hR4⟩, fin => exact W.aret B.exec B.bytes (hret.trans hR2) hR3 hR4 fin hS'.2.2 hR1
  | some (.ref a), ⟨hR1, t, hR2, hR3, hR4⟩, fin => exact W.aret B.exec B.bytes (hret.trans hR2) hR3 hR4 fin hS'.2.2 hR1
  | some (.long a), ⟨hR1, t, hR2, hR3, hR4⟩, fin => exact W.aret B.exec B.bytes (hret.trans hR2) hR3 hR4 fin hS'.2.2 hR1
  | some (.float a), ⟨hR1, t, hR2, hR3, hR4⟩, fin => exact W.aret B.exec B.bytes (hret.trans hR2) hR3 hR4 fin hS'.2.2 hR1
  | some (.double a), ⟨hR1, t, hR2, hR3, hR4⟩, fin => exact W.aret B.exec B.bytes (hret.trans hR2) hR3 hR4 fin hS'.2.2 hR1
  | some (.retAddr a), ⟨hR1, t, hR2, hR3, hR4⟩, fin => exact W.aret B.exec B.bytes (hret.trans hR2) hR3 hR4 fin hS'.2.2 hR1
section MC
variable {p : Program} {l : Launch} {e : Env} {R : Room} {s : State} {m : MethodId} {args : Array Value} {below : List Frame} {meth : Method} {c : Code} {H : Heap} {locs : List Loc} {cells slots : Nat} {Q : State → Prop}
variable {pc : Nat} {ls : Array Slot} {rest st0 : List Value} {a : Array Value} {A0 A1 : Nat → Prop} {H0 : Heap} {mc ms : Nat} {free : Addr → Prop}
theorem mx_back {D : va_G} {ty : mx_T} {b : Nat} {as : List Nat} {K : Option Value → mx_H → Prop} (hr : va_Run p l e R s m args below meth c H locs cells slots mc ms (F0 m pc ls st0) rest (ct_Q D ty b as K A1 a) free) (hS : va_S A0 H0 H locs) (hA : ∀ q, q < H.size → A1 q → A0 q) (hf : ∀ q, free q → A0 q)
    (kk : ∀ (v v' : Option Value) (h' : mx_H) (as' : List Nat) (ws' : va_W) (H1 : Heap) (locs1 : List Loc), rl_o b as' v v' → as <+: as' → rl_c b as' ty h' ws' → va_P D classes ws' H1 → va_D A1 ws' → K v h' → va_S A0 H0 H1 locs1 → W p l e R s m args below meth c H1 locs1 (cells + mc) (slots + ms) Q (F0 m (pc + 3) ls (v'.toList ++ rest))) : W p l e R s m args below meth c H locs cells slots Q (F0 m pc ls st0) := by
  intro T hT X
  obtain ⟨v0, st₀, t, T', L, h0, X', hL, e1, e2, ⟨⟨v, v', h', as', ws', hv, ho, hpre, hrc, hP, hD, hk⟩, hz, hk2⟩, st⟩ := hr T hT X
  cases hv
  rw [h0] at hz hk2
  obtain ⟨t2, a1, b1⟩ := kk v v0 h' as' ws' T'.heap (locs ++ L) ho hpre hrc (by rw [e1]; exact hP) hD hk
    ⟨Nat.le_trans hS.1 (by rw [e1]; exact hz), fun q h1 h2 => by rw [e1, hk2 q (Nat.lt_of_lt_of_le h1 hS.1) (fun z => h2 (hA q (Nat.lt_of_lt_of_le h1 hS.1) z))]; exact hS.2.1 q h1 h2, fun q hq => by
      rcases List.mem_append.mp hq with h | h
      · exact hS.2.2 q h
      · exact hf _ (hL q h)⟩ T' rfl X'
  exact ⟨t2, st t2 a1, b1⟩
end MC
theorem ct_blind {D : va_G} {ty : mx_T} {ws : va_W} {args' : List Value} {sz : Nat} : FrameBlind (ct_P D ty ws args' sz) := fun a U g mk q => by
  obtain ⟨q0, q1, qP, qK, qD⟩ := q
  exact ⟨q0, q1, qP, mx_K.moved (u := U) (U := U.calling g mk a) (Vm.Alike.refl U.vm) qK, qD⟩
/-- a method by its place in a class's pool; nP its parameters -/
def mx_L (own : String) (idx : Nat) (Y : mx_Y) (nP : Nat) : Prop := Cond.methodLink own idx Y.1 ∈ WS ∧ Cond.initialized Y.1.cls ∈ WS ∧ Cond.code Y.1 Y.2.1 Y.2.2.1 Y.2.2.2.1 ∈ WS ∧ (Y.1.cls ≠ "java/lang/invoke/MethodHandle" ∧ Y.1.cls ≠ "java/lang/invoke/VarHandle" ∧ (parseMethodDescriptor Y.1.desc).map (fun d => d.parameters.length) = some nP) ∧ Y.2.2.1 ≤ 21
theorem ws_in {Y : mx_Y} (h : Cond.code Y.1 Y.2.1 Y.2.2.1 Y.2.2.2.1 ∈ WS) : GoodIn WS (mx_ws Y) := by
  intro w hw
  rcases List.mem_cons.mp hw with rfl | hw
  · exact ⟨h, ws_good _ h⟩
  · exact ⟨hw, ws_good _ hw⟩
section MD
variable {l : Launch} {Y : mx_Y} {sc : mx_S} {k n : Nat} {pc : Nat} {L st : List Value} {h : mx_H} {Q : Option Value → mx_H → Prop}
/-- what stands behind a call, whatever its kind -/
theorem wp_after {k' n' : Nat} {D : va_G} {ty : mx_T} {A : Nat → Prop} {H0 : Heap} {b : Nat} {as0 : List Nat} {mcT msT : Nat} {p : Program} {e : Env} {R : Room} {s : State} {m : MethodId} {args : Array Value} {below : List Frame} {meth : Method} {c : Code} {Z : State → Prop} {as : List Nat} {H : Heap} {locs : List Loc} {ls : Array Slot} {rest st0 : List Value} {cells slots : Nat} {ws : va_W} {a : Array Value}
    (hC : fx_C Y sc D ty A H0 b mcT msT p R s m args meth c)
    (hR : ∀ (as : List Nat) (h' : mx_H) (H : Heap) (locs : List Loc) (pc' : Nat) (ls : Array Slot) (v v' : Option Value), rl_w D ty A H0 b as h' H locs → as0 <+: as → fx_R Y pc' v' → rl_o b as v v' → Q v h' → W p l e R s m args below meth c H locs mcT msT Z (F0 m pc' ls v'.toList))
    (hrc : rl_c b as ty h ws) (hP : va_P D classes ws H) (hD : va_D A ws) (hS : va_S A H0 H locs) (hpre : as0 <+: as) (hl : rl_l b as L ls Y.2.2.1) (hs : rl_s b as st rest) (hk : cells + k ≤ mcT) (hn : slots + n ≤ msT) (hk' : k' ≤ k) (hn' : n' ≤ n)
    (hr : va_Run p l e R s m args below meth c H locs cells slots k' n' (F0 m pc ls st0) rest (ct_Q D ty b as (fun v h' => wp_m l Y sc (k - k') (n - n') (pc + 3) L (mx_pu v st) h' Q) (va_A ws H.size) a) (va_A ws H.size)) :
    W p l e R s m args below meth c H locs cells slots Z (F0 m pc ls st0) := by
  have hA := hC.2.2.2.2.2.2.2.2.2.2.2.2.2.2.1
  have hin : ∀ q, va_A ws H.size q → A q := fun q hq => by
    rcases hq with ⟨i, e, hq⟩ | hq
    · exact hD.2 i _ hq
    · exact hA q (Nat.le_trans hS.1 hq)
  refine mx_back hr hS (fun q _ h => hin q h) hin fun v v' h' as' ws' H1 locs1 ho hp hrc' hP' hD' hw hS' => ?_
  refine hw D ty A H0 b as0 mcT msT p e R s m args below meth c Z hC hR as' H1 locs1 ls _ _ _ ⟨ws', hrc', hP', hD'.weaken (fun _ q _ h => hin q.1 h), hS'⟩ (hpre.trans hp) (hl.up hp) ?_ (by omega) (by omega)
  have hs' := hs.up hp
  match v, v', ho with
  | none, _, rfl => exact hs'
  | some x, _, ⟨x', rfl, hx⟩ => exact ⟨x', rest, rfl, hx, hs'⟩
theorem wp_callV {Y' : mx_Y} {k' n' idx nP a ci : Nat} {As S fs : List Value} {q : vw_C} (hi : decode Y.2.1 pc = .ok (.invokevirtual idx, 3)) (hM : mx_L Y.1.cls idx Y' nP) (hV : Cond.instanceMethod Y'.1 ∈ WS ∧ Cond.selects Y'.1.cls Y'.1 Y'.1 ∈ WS) (hrk : Y'.2.2.2.2 < Y.2.2.2.2) (hst : S = As.reverse ++ .ref a :: st) (hnP : As.length = nP) (ha : h[a]? = some (.inr (ci, fs))) (hc : classes[ci]? = some q) (hq : q.1 = Y'.1.cls) (hcat : (st.map fun v => v.category).sum ≤ 8) (hk' : k' ≤ k) (hn' : n' ≤ n)
    (hct : ct_m l Y' k' n' (.ref a :: As) h (fun v h' => wp_m l Y sc (k - k') (n - n') (pc + 3) L (mx_pu v st) h' Q)) : wp_m l Y sc k n pc L S h Q := by
  intro D ty A H0 b as0 mcT msT p e R s m args below meth c Z hC hR as H locs ls st' cells slots hw hpre hl hs hk hn
  subst hst
  obtain ⟨s1, s2, rfl, hs1, hs2⟩ := hs.split
  obtain ⟨_, rest, rfl, ⟨a', ha', rfl⟩, hs3⟩ := hs2
  obtain ⟨ws, hrc, hP, hD, hS⟩ := id hw
  obtain ⟨c', g1, fs', rfl, g2⟩ := hrc.at ha ha'
  have hts := hC.2.2.2.2.2.2.2.1
  have hK := hC.2.2.2.2.2.2.2.2.1
  have hsr : rl_s b as As s1.reverse := by
    have e1 := hs1.rev
    rwa [List.reverse_reverse] at e1
  obtain ⟨m1, m2, m3, m4, m5⟩ := hM
  have hf := hC.2.2.2.2.2.2.2.2.2.2.1
  have hlo := hC.2.2.2.2.2.2.2.2.2.2.2.1
  have hmc := hC.2.2.2.2.2.2.2.2.2.2.2.2.1
  have hms := hC.2.2.2.2.2.2.2.2.2.2.2.2.2.1
  have cb := callB_of (R := R) (own := Y.1.cls) (index := idx) (y := Y'.1) (bytes := Y'.2.1) (maxL := Y'.2.2.1) (ret := Y'.2.2.2.1) (ws := mx_ws Y') (rm := mx_rm Y' k' n') (mc := k') (ms := n') nP hts (ws_in m3) rfl rfl rfl (hts _ m2) (hts _ m1) m4 ⟨by show Y'.2.2.2.2 + 1 ≤ _; omega, by show 8 + (Y'.2.2.1 + 11) + 40 * Y'.2.2.2.2 ≤ _; omega⟩
  refine wp_after hC hR hrc hP hD hS hpre hl hs3 hk hn hk' hn' (va_runV (C := Y'.1.cls) (As := s1.reverse) (rest := rest) (b := a') ⟨hC.1, hC.2.1, hC.2.2.2.1, hC.2.2.2.2.1, hts⟩ (hct D ty b as ws (.ref a' :: s1.reverse) H.size hC.2.2.2.2.2.2.2.2.2.1 hrc ⟨_, _, rfl, ⟨a', ha', rfl⟩, hsr⟩) ⟨cb, hts _ hV.1, hts _ hV.2⟩ ⟨ct_blind, hq ▸ va_recv hK.1 hP hc g1, fun U hU hW => ⟨rfl, by rw [hU], by rw [hU]; exact hP, hK.moved hW.alike, hD.weaken (fun _ _ _ _ => trivial)⟩⟩ rfl (by rw [List.length_reverse, hs1.len, List.length_reverse]; exact hnP) hl.2.choose_spec.1.1 (by rw [List.reverse_reverse]) (lv_room (by rw [hs3.cat]; exact hcat)) hi ⟨by omega, by omega⟩)
theorem wp_callS {Y' : mx_Y} {k' n' idx nP : Nat} {As S : List Value} (hi : decode Y.2.1 pc = .ok (.invokestatic idx, 3)) (hM : mx_L Y.1.cls idx Y' nP) (hV : Cond.static Y'.1 ∈ WS) (hrk : Y'.2.2.2.2 < Y.2.2.2.2) (hst : S = As.reverse ++ st) (hnP : As.length = nP) (hcat : (st.map fun v => v.category).sum ≤ 8) (hk' : k' ≤ k) (hn' : n' ≤ n)
    (hct : ct_m l Y' k' n' As h (fun v h' => wp_m l Y sc (k - k') (n - n') (pc + 3) L (mx_pu v st) h' Q)) : wp_m l Y sc k n pc L S h Q := by
  intro D ty A H0 b as0 mcT msT p e R s m args below meth c Z hC hR as H locs ls st' cells slots hw hpre hl hs hk hn
  subst hst
  obtain ⟨s1, rest, rfl, hs1, hs3⟩ := hs.split
  obtain ⟨ws, hrc, hP, hD, hS⟩ := id hw
  have hts := hC.2.2.2.2.2.2.2.1
  have hK := hC.2.2.2.2.2.2.2.2.1
  have hsr : rl_s b as As s1.reverse := by
    have e1 := hs1.rev
    rwa [List.reverse_reverse] at e1
  obtain ⟨m1, m2, m3, m4, m5⟩ := hM
  have hf := hC.2.2.2.2.2.2.2.2.2.2.1
  have hlo := hC.2.2.2.2.2.2.2.2.2.2.2.1
  have hmc := hC.2.2.2.2.2.2.2.2.2.2.2.2.1
  have hms := hC.2.2.2.2.2.2.2.2.2.2.2.2.2.1
  have cb := callB_of (R := R) (own := Y.1.cls) (index := idx) (y := Y'.1) (bytes := Y'.2.1) (maxL := Y'.2.2.1) (ret := Y'.2.2.2.1) (ws := mx_ws Y') (rm := mx_rm Y' k' n') (mc := k') (ms := n') nP hts (ws_in m3) rfl rfl rfl (hts _ m2) (hts _ m1) m4 ⟨by show Y'.2.2.2.2 + 1 ≤ _; omega, by show 8 + (Y'.2.2.1 + 11) + 40 * Y'.2.2.2.2 ≤ _; omega⟩
  refine wp_after hC hR hrc hP hD hS hpre hl hs3 hk hn hk' hn' (va_runS (As := s1.reverse) (rest := rest) ⟨hC.1, hC.2.1, hC.2.2.2.1, hC.2.2.2.2.1, hts⟩ (hct D ty b as ws s1.reverse H.size hC.2.2.2.2.2.2.2.2.2.1 hrc hsr) ⟨cb, hts _ hV⟩ ⟨ct_blind, fun U hU hW => ⟨rfl, by rw [hU], by rw [hU]; exact hP, hK.moved hW.alike, hD.weaken (fun _ _ _ _ => trivial)⟩⟩ rfl (by rw [List.length_reverse, hs1.len, List.length_reverse]; exact hnP) hl.2.choose_spec.1.1 (by rw [List.reverse_reverse]) (lv_room (by rw [hs3.cat]; exact hcat)) hi ⟨by omega, by omega⟩)
theorem wp_callI {Y' : mx_Y} {k' n' idx nP a : Nat} {As S : List Value} (hi : decode Y.2.1 pc = .ok (.invokespecial idx, 3)) (hM : mx_L Y.1.cls idx Y' nP) (hV : Cond.instanceMethod Y'.1 ∈ WS ∧ Y'.1.name = "<init>" ∧ Y'.2.2.2.1 = none) (hrk : Y'.2.2.2.2 < Y.2.2.2.2) (hst : S = As.reverse ++ .ref a :: st) (hnP : As.length = nP) (hcat : (st.map fun v => v.category).sum ≤ 8) (hk' : k' ≤ k) (hn' : n' ≤ n)
    (hct : ct_m l Y' k' n' (.ref a :: As) h (fun v h' => wp_m l Y sc (k - k') (n - n') (pc + 3) L (mx_pu v st) h' Q)) : wp_m l Y sc k n pc L S h Q := by
  intro D ty A H0 b as0 mcT msT p e R s m args below meth c Z hC hR as H locs ls st' cells slots hw hpre hl hs hk hn
  subst hst
  obtain ⟨s1, s2, rfl, hs1, hs2⟩ := hs.split
  obtain ⟨_, rest, rfl, ⟨a', ha', rfl⟩, hs3⟩ := hs2
  obtain ⟨ws, hrc, hP, hD, hS⟩ := id hw
  have hts := hC.2.2.2.2.2.2.2.1
  have hK := hC.2.2.2.2.2.2.2.2.1
  have hsr : rl_s b as As s1.reverse := by
    have e1 := hs1.rev
    rwa [List.reverse_reverse] at e1
  obtain ⟨m1, m2, m3, m4, m5⟩ := hM
  have hf := hC.2.2.2.2.2.2.2.2.2.2.1
  have hlo := hC.2.2.2.2.2.2.2.2.2.2.2.1
  have hmc := hC.2.2.2.2.2.2.2.2.2.2.2.2.1
  have hms := hC.2.2.2.2.2.2.2.2.2.2.2.2.2.1
  obtain ⟨v1, v2, v3⟩ := hV
  have hws : mx_ws Y' = Cond.code Y'.1 Y'.2.1 Y'.2.2.1 none :: WS := by unfold mx_ws; rw [v3]
  have cb := callB_of (R := R) (own := Y.1.cls) (index := idx) (y := Y'.1) (bytes := Y'.2.1) (maxL := Y'.2.2.1) (ret := none) (ws := mx_ws Y') (rm := mx_rm Y' k' n') (mc := k') (ms := n') nP hts (ws_in m3) hws rfl rfl (hts _ m2) (hts _ m1) m4 ⟨by show Y'.2.2.2.2 + 1 ≤ _; omega, by show 8 + (Y'.2.2.1 + 11) + 40 * Y'.2.2.2.2 ≤ _; omega⟩
  refine wp_after hC hR hrc hP hD hS hpre hl hs3 hk hn hk' hn' (va_runI (As := s1.reverse) (rest := rest) (b := a') ⟨hC.1, hC.2.1, hC.2.2.2.1, hC.2.2.2.2.1, hts⟩ (hct D ty b as ws (.ref a' :: s1.reverse) H.size hC.2.2.2.2.2.2.2.2.2.1 hrc ⟨_, _, rfl, ⟨a', ha', rfl⟩, hsr⟩) ⟨cb, v2, hts _ v1⟩ ⟨ct_blind, fun U hU hW => ⟨rfl, by rw [hU], by rw [hU]; exact hP, hK.moved hW.alike, hD.weaken (fun _ _ _ _ => trivial)⟩⟩ rfl (by rw [List.length_reverse, hs1.len, List.length_reverse]; exact hnP) hl.2.choose_spec.1.1 (by rw [List.reverse_reverse]) (lv_room (by rw [hs3.cat]; exact hcat)) hi ⟨by omega, by omega⟩)
theorem wp_objInit {idx a : Nat} (hi : decode Y.2.1 pc = .ok (.invokespecial idx, 3)) (hl1 : Cond.methodLink Y.1.cls idx objectInit ∈ WS) (hl2 : Cond.instanceMethod objectInit ∈ WS) (hl3 : Cond.code objectInit ⟨#[0xb1]⟩ 1 none ∈ WS) (hrk : 1 ≤ Y.2.2.2.2) (kk : wp_m l Y sc k n (pc + 3) L [] h Q) : wp_m l Y sc k n pc L [.ref a] h Q := by
  intro D ty A H0 b as0 mcT msT p e R s m args below meth c Z hC hR as H locs ls st' cells slots hw hpre hl hs hk hn
  obtain ⟨_, _, rfl, ⟨a', ha', rfl⟩, hs⟩ := hs
  cases (show _ = [] from hs)
  have hts := hC.2.2.2.2.2.2.2.1
  have hf := hC.2.2.2.2.2.2.2.2.2.2.1
  have hlo := hC.2.2.2.2.2.2.2.2.2.2.2.1
  refine W.objInit hC.1 hC.2.1 hC.2.2.2.2.1 (hts _ hl1) (hts _ hl2) (hts _ hl3) rfl (hl.2.choose_spec.1.1.trans hC.2.2.2.1.symm) rfl hi (by omega) ?_ ?_
  · have e1 : 2 * (F0 m pc ls [.ref a']).monitorRoom + (([] : List Value).map fun v => v.category).sum ≤ 8 := lv_room (by simp)
    omega
  · exact kk D ty A H0 b as0 mcT msT p e R s m args below meth c Z hC hR as H locs ls _ cells slots hw hpre hl rfl hk hn
end MD
end
section
/-! the mirror: cells that are made -/
def mx_z : List Value → Bool
  | [] => true
  | .int _ :: t => mx_z t
  | .null :: t => mx_z t
  | _ => false
theorem rl_z {b : Nat} {as : List Nat} : ∀ {s : List Value}, mx_z s = true → rl_s b as s s
  | [], _ => rfl
  | .int _ :: t, h => ⟨_, t, rfl, rfl, rl_z (s := t) h⟩
  | .null :: t, h => ⟨_, t, rfl, rfl, rl_z (s := t) h⟩
theorem rl_new {as : List Nat} {h : mx_H} {q : Nat} (hl : as.length = h.length) : (as ++ [q])[h.length]? = some q := by
  rw [← hl]
  simp
theorem mx_push {D : va_G} {A : Nat → Prop} {H0 H H1 : Heap} {locs : List Loc} {ws : va_W} {cA : ClassId} {x : vp_A} (hP : va_P D classes ws H) (hD : va_D A ws) (hS : va_S A H0 H locs) (hA : ∀ q, H0.size ≤ q → A q) (z1 : H1.size = H.size + 1) (o1 : ∀ q : Nat, q < H.size → H1[q]? = H[q]?) (e1 : H1[H.size]? = some (vp_cell cA x)) :
    va_P D classes (ws ++ [(H.size, .inl (cA, x))]) H1 ∧ va_D A (ws ++ [(H.size, .inl (cA, x))]) ∧ va_S A H0 H1 locs := by
  have hk : ∀ (k : Nat) (x : Nat × va_E), ws[k]? = some x → H1[x.1]? = H[x.1]? := fun k x hx => o1 x.1 ((hP k x hx).lt)
  refine ⟨(hP.kept hk).app (fun k y hy => ?_), hD.push hP rfl (hA _ hS.1), ⟨Nat.le_trans hS.1 (by omega), fun x h1 h2 => (o1 x (Nat.lt_of_lt_of_le h1 hS.1)).trans (hS.2.1 x h1 h2), hS.2.2⟩⟩
  have hz : k < 1 := (List.getElem?_eq_some_iff.mp hy).1
  rw [show k = 0 by omega] at hy
  cases hy
  exact e1
section MA
variable {l : Launch} {Y : mx_Y} {sc : mx_S} {k n : Nat} {pc : Nat} {L st : List Value} {h : mx_H} {Q : Option Value → mx_H → Prop}
theorem wp_new {idx ci N : Nat} {C : String} {T : u_T} {ty0 : Nat → FieldType} {fs : List Value} (hi : decode Y.2.1 pc = .ok (.new idx, 3)) (hc : classes[ci]? = some (C, T, N)) (hin : ∀ w ∈ u_ws C T N, w ∈ WS) (hty : ∀ k, k < N → parseFieldDescriptor (T k).2.2.1 = some (ty0 k)) (hcl : Cond.classLink Y.1.cls idx C ∈ WS) (hins : Cond.instantiable C N ∈ WS) (hini : Cond.initialized C ∈ WS) (hfs : ∀ j, j < N → defaultValue (ty0 j) = vp_V fs j) (hz : mx_z fs = true) (hk1 : 1 ≤ k) (hn1 : N ≤ n)
    (kk : wp_m l Y sc (k - 1) (n - N) (pc + 3) L (.ref h.length :: st) (h ++ [.inr (ci, fs)]) Q) : wp_m l Y sc k n pc L st h Q := by
  intro D ty A H0 b as0 mcT msT p e R s m args below meth c Z hC hR as H locs ls st' cells slots hw hpre hl hs hk hn
  obtain ⟨ws, hrc, hP, hD, hS⟩ := id hw
  have hts := hC.2.2.2.2.2.2.2.1
  have hK := hC.2.2.2.2.2.2.2.2.1.1
  have hmc := hC.2.2.2.2.2.2.2.2.2.2.2.2.1
  have hms := hC.2.2.2.2.2.2.2.2.2.2.2.2.2.1
  have hA := hC.2.2.2.2.2.2.2.2.2.2.2.2.2.2.1
  refine va_new (fs := fs) hC.1 hC.2.1 hts hin ty0 hty hC.2.2.2.2.1 (hts _ hcl) (hts _ hins) (hts _ hini) hK hP hD hS hA hc hfs (by omega) (by omega) hi (fun q H1 hP1 hD1 hS1 => ?_)
  have hp : as <+: as ++ [q] := List.prefix_append _ _
  exact kk D ty A H0 b as0 mcT msT p e R s m args below meth c Z hC hR (as ++ [q]) H1 locs ls _ (cells + 1) (slots + N) ⟨_, hrc.push ⟨fs, rfl, rl_z hz⟩, hP1, hD1, hS1⟩ (hpre.trans hp) (hl.up hp) ⟨_, _, rfl, ⟨q, rl_new hrc.2.1, rfl⟩, hs.up hp⟩ (by omega) (by omega)
theorem wp_newarray {t N : Nat} {at0 : ArrayType} {i : Int32} (hi : decode Y.2.1 pc = .ok (.newarray at0, 2)) (hT : TY[t]? = some (newarray.typeOf at0)) (hd : defaultValue (newarray.typeOf at0) = .int 0) (hwd : Cond.arrayClass (newarray.typeOf at0) ∈ WS) (hi0 : ¬ i < 0) (hN : i.toNatClampNeg = N) (hb : N * componentBytes (newarray.typeOf at0) ≤ 536870912) (hk1 : 1 ≤ k) (hn1 : N ≤ n)
    (kk : wp_m l Y sc (k - 1) (n - N) (pc + 2) L (.ref h.length :: st) (h ++ [.inl (t, N, .inl (fun _ => 0))]) Q) : wp_m l Y sc k n pc L (.int i :: st) h Q := by
  intro D ty A H0 b as0 mcT msT p e R s m args below meth c Z hC hR as H locs ls st' cells slots hw hpre hl hs hk hn
  obtain ⟨_, _, rfl, rfl, hs⟩ := hs
  obtain ⟨ws, hrc, hP, hD, hS⟩ := id hw
  have hts := hC.2.2.2.2.2.2.2.1
  have hK := hC.2.2.2.2.2.2.2.2.1.1
  have hty := hC.2.2.2.2.2.2.2.2.2.1
  have hmc := hC.2.2.2.2.2.2.2.2.2.2.2.2.1
  have hms := hC.2.2.2.2.2.2.2.2.2.2.2.2.2.1
  have hA := hC.2.2.2.2.2.2.2.2.2.2.2.2.2.2.1
  have ht : ∃ q, ty[t]? = some q ∧ q.2 = newarray.typeOf at0 := by
    rw [← hty, List.getElem?_map] at hT
    cases hq : ty[t]? with
    | none => rw [hq] at hT; cases hT
    | some q => rw [hq] at hT; exact ⟨q, rfl, Option.some.inj hT⟩
  obtain ⟨⟨cQ, fQ⟩, ht1, ht2⟩ := ht
  dsimp only at ht2
  subst ht2
  refine va_newaK hC.1 hC.2.1 (hts _ hwd) rfl hi rfl hi0 hN hb (by omega) (by omega) rfl (fun H1 cA e1 z1 o1 hAr hNm => ?_)
  have hRA : s.vm.findClass ("[" ++ (newarray.typeOf at0).toString) = some cQ := by
    have h2 := (hK.2 t _ ht1).2
    cases at0 <;> exact h2
  cases hNm.symm.trans hRA
  rw [hd] at e1
  obtain ⟨hP1, hD1, hS1⟩ := mx_push (x := (N, .inl (fun _ => 0))) hP hD hS hA z1 o1 e1
  have hp : as <+: as ++ [H.size] := List.prefix_append _ _
  exact kk D ty A H0 b as0 mcT msT p e R s m args below meth c Z hC hR (as ++ [H.size]) H1 locs ls _ (cells + 1) (slots + N) ⟨_, hrc.push ⟨_, ht1, rfl⟩, hP1, hD1, hS1⟩ (hpre.trans hp) (hl.up hp) ⟨_, _, rfl, ⟨_, rl_new hrc.2.1, rfl⟩, hs.up hp⟩ (by omega) (by omega)
theorem wp_anewarray {idx N : Nat} {i : Int32} (hi : decode Y.2.1 pc = .ok (.anewarray idx, 3)) (hT : TY[2]? = some (.object TR)) (hcl : Cond.classLink Y.1.cls idx TR ∈ WS) (hi0 : ¬ i < 0) (hN : i.toNatClampNeg = N) (hb : N * 4 ≤ 536870912) (hk1 : 1 ≤ k) (hn1 : N ≤ n)
    (kk : wp_m l Y sc (k - 1) (n - N) (pc + 3) L (.ref h.length :: st) (h ++ [.inl (2, N, .inr (.inr (.inr (.inr (fun _ => none)))))]) Q) : wp_m l Y sc k n pc L (.int i :: st) h Q := by
  intro D ty A H0 b as0 mcT msT p e R s m args below meth c Z hC hR as H locs ls st' cells slots hw hpre hl hs hk hn
  obtain ⟨_, _, rfl, rfl, hs⟩ := hs
  obtain ⟨ws, hrc, hP, hD, hS⟩ := id hw
  have hts := hC.2.2.2.2.2.2.2.1
  have hK := hC.2.2.2.2.2.2.2.2.1.1
  have hX := hC.2.2.2.2.2.2.2.2.1.2.1
  have hty := hC.2.2.2.2.2.2.2.2.2.1
  have hmc := hC.2.2.2.2.2.2.2.2.2.2.2.2.1
  have hms := hC.2.2.2.2.2.2.2.2.2.2.2.2.2.1
  have hA := hC.2.2.2.2.2.2.2.2.2.2.2.2.2.2.1
  have ht : ∃ q, ty[2]? = some q ∧ q.2 = .object TR := by
    rw [← hty, List.getElem?_map] at hT
    cases hq : ty[2]? with
    | none => rw [hq] at hT; cases hT
    | some q => rw [hq] at hT; exact ⟨q, rfl, Option.some.inj hT⟩
  obtain ⟨⟨cQ, fQ⟩, ht1, ht2⟩ := ht
  dsimp only at ht2
  subst ht2
  subst hN
  refine W.anew hC.1 hC.2.1 hC.2.2.2.2.1 (hts _ hcl) (va_AO.use hX) rfl hi rfl hi0 hb (by omega) (by omega) fun cA kA comp f1 f2 f3 f4 => ?_
  obtain ⟨kA', comp', r1, r2, r3, r4⟩ := (hK.2 2 _ ht1).2
  have ecA : cQ = cA := Option.some.inj (r4.symm.trans f1)
  subst ecA
  generalize hH1 : H.push ({ cls := cQ, slots := Array.replicate i.toNatClampNeg .null, vm := .none } : Cell) = H1
  have z1 : H1.size = H.size + 1 := by rw [← hH1, Array.size_push]
  have e1 : H1[H.size]? = some (vp_cell cQ (i.toNatClampNeg, .inr (.inr (.inr (.inr (fun _ => none)))))) := by rw [← hH1, Array.getElem?_push_size, vp_cell_q]; exact congrArg some (arrV_new cQ _ .null)
  have o1 : ∀ q : Nat, q < H.size → H1[q]? = H[q]? := fun q hq => by rw [← hH1, Array.getElem?_push, if_neg (Nat.ne_of_lt hq)]
  obtain ⟨hP1, hD1, hS1⟩ := mx_push hP hD hS hA z1 o1 e1
  have hp : as <+: as ++ [H.size] := List.prefix_append _ _
  exact kk D ty A H0 b as0 mcT msT p e R s m args below meth c Z hC hR (as ++ [H.size]) H1 locs ls _ (cells + 1) (slots + i.toNatClampNeg) ⟨_, hrc.push ⟨_, _, ht1, rfl, fun _ => rfl⟩, hP1, hD1, hS1⟩ (hpre.trans hp) (hl.up hp) ⟨_, _, rfl, ⟨_, rl_new hrc.2.1, rfl⟩, hs.up hp⟩ (by omega) (by omega)
end MA
end
section
/-! multianewarray of two dimensions: the outer row, then each inner one, in order -/
def mu_o (c : ClassId) (N q0 i : Nat) : Cell := arrV c N (fun j => if j < i then .ref (q0 + 1 + j) else .null)
def mu_i (c : ClassId) (M : Nat) (v : Value) : Cell := { cls := c, slots := Array.replicate M v, vm := .none }
def mu_s (s : State) (c d : ClassId) (N M : Nat) (v : Value) : Nat → State
  | 0 => s.pushCell (mu_o c N s.heap.size 0)
  | i + 1 => ((mu_s s c d N M v i).pushCell (mu_i d M v)).setCell s.heap.size (mu_o c N s.heap.size (i + 1))
theorem mu_o0 (c : ClassId) (N q0 : Nat) : mu_o c N q0 0 = { cls := c, slots := Array.replicate N .null, vm := .none } := by
  rw [arrV_new]
  unfold mu_o
  congr 1
theorem mu_oS (c : ClassId) (N q0 i : Nat) : (mu_o c N q0 i).setSlot i (.ref (q0 + 1 + i)) = mu_o c N q0 (i + 1) := by
  unfold mu_o
  rw [arrV_store]
  congr 1
  funext j
  unfold updV
  by_cases hj : j = i
  · subst hj
    rw [if_pos rfl, if_pos (Nat.lt_succ_self _)]
  · rw [if_neg hj]
    show (if j < i then Value.ref (q0 + 1 + j) else Value.null) = _
    by_cases h2 : j < i
    · rw [if_pos h2, if_pos (by omega)]
    · rw [if_neg h2, if_neg (by omega)]
theorem mu_oN (c : ClassId) (N q0 i : Nat) : (mu_o c N q0 i).slots.size = N := arrV_size _ _ _
theorem mu_at (s : State) (c d : ClassId) (N M : Nat) (v : Value) : ∀ i, (mu_s s c d N M v i).heap.size = s.heap.size + 1 + i ∧ (mu_s s c d N M v i).heap[s.heap.size]? = some (mu_o c N s.heap.size i) ∧ (mu_s s c d N M v i).vm = s.vm ∧ (mu_s s c d N M v i).slotsUsed = s.slotsUsed + N + i * M
  | 0 => ⟨by simp [mu_s], by simp [mu_s], rfl, by simp [mu_s, mu_oN]⟩
  | i + 1 => by
    obtain ⟨a1, a2, a3, a4⟩ := mu_at s c d N M v i
    have h0 : s.heap.size < (mu_s s c d N M v i).heap.size := by omega
    have h1 : ((mu_s s c d N M v i).pushCell (mu_i d M v)).heap[s.heap.size]? = some (mu_o c N s.heap.size i) := by
      rw [State.heap_pushCell_of_lt (h := h0)]
      exact a2
    refine ⟨?_, State.heap_setCell_self h1, by simp [mu_s, a3], ?_⟩
    · simp [mu_s, State.setCell, a1]
      omega
    · simp [mu_s, a4, mu_i, Nat.succ_mul]
      omega
theorem mu_top (s : State) (f : JFrame) (c d : ClassId) (N M : Nat) (v : Value) : ∀ i, mu_s (s.setTop f) c d N M v i = (mu_s s c d N M v i).setTop f
  | 0 => rfl
  | i + 1 => by simp only [mu_s, mu_top s f c d N M v i, State.heap_setTop, State.pushCell_setTop, State.setCell_setTop]
theorem mu_old (s : State) (c d : ClassId) (N M : Nat) (v : Value) {a : Nat} (ha : a < s.heap.size) : ∀ i, (mu_s s c d N M v i).heap[a]? = s.heap[a]?
  | 0 => State.heap_pushCell_of_lt _ _ ha
  | i + 1 => by
    have h0 := (mu_at s c d N M v i).1
    have h1 : a < (mu_s s c d N M v i).heap.size := by rw [h0]; have ha' : a < Array.size s.heap := ha; omega
    show (((mu_s s c d N M v i).pushCell (mu_i d M v)).setCell s.heap.size _).heap[a]? = _
    rw [State.heap_setCell_other (Nat.ne_of_gt ha), State.heap_pushCell_of_lt (h := h1)]
    exact mu_old s c d N M v ha i
theorem mu_row (s : State) (c d : ClassId) (N M : Nat) (v : Value) : ∀ i j, j < i → (mu_s s c d N M v i).heap[s.heap.size + 1 + j]? = some (mu_i d M v)
  | 0, _, h => absurd h (Nat.not_lt_zero _)
  | i + 1, j, h => by
    have h0 := (mu_at s c d N M v i).1
    show (((mu_s s c d N M v i).pushCell (mu_i d M v)).setCell s.heap.size _).heap[s.heap.size + 1 + j]? = _
    rw [State.heap_setCell_other (show s.heap.size ≠ s.heap.size + 1 + j by omega)]
    by_cases hj : j < i
    · have h5 : s.heap.size + 1 + j < (mu_s s c d N M v i).heap.size := by rw [h0]; omega
      rw [State.heap_pushCell_of_lt (h := h5)]
      exact mu_row s c d N M v i j hj
    · have e : s.heap.size + 1 + j = (mu_s s c d N M v i).heap.size := by omega
      rw [e]
      exact State.heap_pushCell_size _ _
section MU
variable {E : CtlPost} {e : Env} {d : Bool} {acts : List Action} {s : State}
theorem mu_new {c comp : ClassId} {k : Class} {t : FieldType} {len : Nat} {v : Value} (hk : s.vm.classes[c]? = some k) (hkind : k.kind = .array comp t) (h1 : ¬ len > e.platform.arrayLengthLimit) (h2 : ¬ len * componentBytes t > e.platform.maxHeapBytes) (hf : fits t v = true) (hd : v.isDefault = true) {Q : Addr → Pre} (h3 : s.heap.size < e.platform.maxCells) (h4 : s.slotsUsed + len ≤ e.platform.maxSlots)
    (hq : Q s.heap.size d acts (s.pushCell { cls := c, slots := Array.replicate len v, vm := .none })) : Sem.wp (Jvm.newArray c len v) Q E e d acts s := by
  have g1 : ∀ i x, (Array.replicate len v)[i]? = some x → s.fitsSlot c .none i x = true := by
    intro i x hx
    rw [Array.getElem?_replicate] at hx
    by_cases hi : i < len
    · rw [if_pos hi] at hx
      cases hx
      simp [State.fitsSlot, State.slotType?, hk, hkind, hf]
    · rw [if_neg hi] at hx
      cases hx
  have g2 : allocActs (Array.replicate len v) s.heap.size acts = acts := by
    have g3 : ((Array.replicate len v).all (·.isDefault)) = true := by
      rw [Array.all_replicate]
      split <;> simp [hd]
    unfold allocActs
    rw [if_pos g3]
  simp only [Jvm.newArray, Jvm.arrayFits, wp_bind', W.ask, W.ite, h1, if_false, wp_pure', W.theClass, hk, hkind, h2, W.alloc, W.stop, Option.some.injEq, exists_eq_left', Array.size_replicate, g2]
  rw [if_neg (by omega)]
  exact ⟨h3, h4, g1, hq⟩
theorem mu_rf {t : FieldType} (h : t.isReference = true) (v : Value) (hv : v = .null ∨ ∃ a, v = .ref a) : fits t v = true := by
  rcases hv with rfl | ⟨a, rfl⟩ <;> cases t <;> first | rfl | (simp [FieldType.isReference] at h)
theorem mu_make {c dI cc : ClassId} {k kc : Class} {t0 t : FieldType} {n m : Int32} (hk : s.vm.classes[c]? = some k) (hkind : k.kind = .array dI t0) (href : t0.isReference = true) (hkc : s.vm.classes[dI]? = some kc) (hkindc : kc.kind = .array cc t) (hn : ¬ n < 0) (hm : ¬ m < 0)
    (hl1 : ¬ n.toNatClampNeg > e.platform.arrayLengthLimit) (hh1 : ¬ n.toNatClampNeg * componentBytes t0 > e.platform.maxHeapBytes) (hl2 : ¬ m.toNatClampNeg > e.platform.arrayLengthLimit) (hh2 : ¬ m.toNatClampNeg * componentBytes t > e.platform.maxHeapBytes) (hdf : fits t (defaultValue t) = true) (hdd : (defaultValue t).isDefault = true)
    (hc : s.heap.size + 1 + n.toNatClampNeg ≤ e.platform.maxCells) (hs : s.slotsUsed + n.toNatClampNeg + n.toNatClampNeg * m.toNatClampNeg ≤ e.platform.maxSlots)
    {Q : Addr → Pre} (hq : ∀ d' acts', Q s.heap.size d' acts' (mu_s s c dI n.toNatClampNeg m.toNatClampNeg (defaultValue t) n.toNatClampNeg)) : Sem.wp (multianewarray.make c [n, m]) Q E e d acts s := by
  have hfind : ([m].find? (· < 0)) = none := by simp [hm]
  rw [multianewarray.make]
  simp only [wp_bind', W.ite, hn, if_false, wp_pure', W.theClass, hk, hkind, Option.some.injEq, exists_eq_left']
  have hz := Nat.zero_le (n.toNatClampNeg * m.toNatClampNeg)
  refine mu_new hk hkind hl1 hh1 (mu_rf href _ (Or.inl rfl)) rfl (by omega) (by omega) ?_
  rw [← mu_o0 c n.toNatClampNeg s.heap.size]
  simp only [hfind]
  rw [ite_self, wp_bind', Std.Legacy.Range.forIn_eq_forIn_range']
  have hsz : ([:n.toNatClampNeg] : Std.Legacy.Range).size = n.toNatClampNeg := by simp [Std.Legacy.Range.size]
  rw [hsz]
  show Sem.wp (forIn (List.range' 0 n.toNatClampNeg 1) PUnit.unit _) _ E e d acts _
  refine wp_forIn_inv (fun rest s' => ∃ i, i ≤ n.toNatClampNeg ∧ rest = List.range' i (n.toNatClampNeg - i) ∧ s' = mu_s s c dI n.toNatClampNeg m.toNatClampNeg (defaultValue t) i) _ _ ⟨0, Nat.zero_le _, rfl, rfl⟩ ?_ ?_
  · rintro x rest s' d' acts' Q' ⟨i, hi, hl, rfl⟩ hnext
    have hlt : i < n.toNatClampNeg := Nat.lt_of_not_le fun h => by
      rw [show n.toNatClampNeg - i = 0 by omega] at hl
      simp at hl
    have hsp : x :: rest = i :: List.range' (i + 1) (n.toNatClampNeg - (i + 1)) := by
      rw [hl, show n.toNatClampNeg - i = (n.toNatClampNeg - (i + 1)) + 1 by omega, List.range'_succ]
    obtain ⟨rfl, hrest⟩ := List.cons.inj hsp
    obtain ⟨f1, f2, f3, f4⟩ := mu_at s c dI n.toNatClampNeg m.toNatClampNeg (defaultValue t) x
    have hmul : x * m.toNatClampNeg + m.toNatClampNeg ≤ n.toNatClampNeg * m.toNatClampNeg := by
      have h5 := Nat.mul_le_mul_right m.toNatClampNeg (show x + 1 ≤ n.toNatClampNeg from hlt)
      rw [Nat.succ_mul] at h5
      exact h5
    simp only [wp_bind']
    rw [multianewarray.make]
    simp only [wp_bind', W.ite, hm, if_false, wp_pure', W.theClass, f3, hkc, hkindc, Option.some.injEq, exists_eq_left']
    refine mu_new (by rw [f3]; exact hkc) hkindc hl2 hh2 hdf hdd (by omega) (by omega) ?_
    have h0 : s.heap.size < (mu_s s c dI n.toNatClampNeg m.toNatClampNeg (defaultValue t) x).heap.size := by omega
    simp only [wp_bind', W.writeLoc, wp_pure']
    refine ⟨mu_o c n.toNatClampNeg s.heap.size x, by rw [State.heap_pushCell_of_lt (h := h0)]; exact f2, (fun h => by cases h), by rw [mu_oN]; exact hlt, ?_, hnext _ _ _ ⟨x + 1, hlt, hrest, ?_⟩⟩
    · show State.fitsSlot _ c .none x _ = true
      simp [State.fitsSlot, State.slotType?, f3, hk, hkind, mu_rf href _ (Or.inr ⟨_, rfl⟩)]
    · rw [f1, mu_oS]
      rfl
  · rintro s' d' acts' ⟨i, hi, hl, rfl⟩
    have hiN : i = n.toNatClampNeg := by
      by_cases h5 : i < n.toNatClampNeg
      · rw [show n.toNatClampNeg - i = (n.toNatClampNeg - (i + 1)) + 1 by omega, List.range'_succ] at hl
        cases hl
      · omega
    subst hiN
    simp only [wp_pure']
    exact hq _ _
end MU
section MV
variable {p : Program} {l : Launch} {e : Env} {R : Room} {s : State} {m : MethodId} {args : Array Value} {below : List Frame} {meth : Method} {c : Code} {T : State} {locs : List Loc} {cells slots : Nat}
theorem mu_stand (X : Stand p l e R s m args below meth c T locs cells slots) (cA dI : ClassId) (N M : Nat) (v : Value) : ∀ i, Stand p l e R s m args below meth c (mu_s T cA dI N M v i) (locs ++ (List.range i).map fun j => ⟨T.heap.size, j⟩) (cells + 1 + i) (slots + N + i * M)
  | 0 => by
    have h := X.pushed (mu_o cA N T.heap.size 0)
    rw [mu_oN] at h
    simpa [mu_s] using h
  | i + 1 => by
    have Xi := mu_stand X cA dI N M v i
    obtain ⟨f1, f2, f3, f4⟩ := mu_at T cA dI N M v i
    have h0 : T.heap.size < (mu_s T cA dI N M v i).heap.size := by omega
    have hcell : ((mu_s T cA dI N M v i).pushCell (mu_i dI M v)).heap[T.heap.size]? = some (mu_o cA N T.heap.size i) := by
      rw [State.heap_pushCell_of_lt (h := h0)]
      exact f2
    have h := (Xi.pushed (mu_i dI M v)).stored hcell i (.ref (T.heap.size + 1 + i))
    rw [mu_oS] at h
    have e1 : (mu_i dI M v).slots.size = M := by simp [mu_i]
    rw [e1] at h
    have e2 : (locs ++ (List.range (i + 1)).map fun j => (⟨T.heap.size, j⟩ : Loc)) = (locs ++ (List.range i).map fun j => (⟨T.heap.size, j⟩ : Loc)) ++ [⟨T.heap.size, i⟩] := by simp [List.range_succ, List.append_assoc]
    have e3 : slots + N + (i + 1) * M = slots + N + i * M + M := by rw [Nat.succ_mul]; omega
    rw [e2, e3]
    exact h
variable {H : Heap} {Q : State → Prop}
theorem mu_W {cc : ByteArray} (hexec : p.tables.exec = Jvm.exec) (hb : c.code = cc) {own : String} {index : Nat} {cA dI : ClassId} {kA kC : Class} {cC : ClassId} {N M : Nat} (hown : s.vm.findClass own = some m.cls) (hclink : (Cond.classLink own index "[[I").before args s = true) (hfA : s.vm.findClass "[[I" = some cA) (hkA : s.vm.classes[cA]? = some kA) (hkindA : kA.kind = .array dI (.array .int)) (hkC : s.vm.classes[dI]? = some kC) (hkindC : kC.kind = .array cC .int)
    {pc : Nat} {ls : Array Slot} (hdg : decode cc pc = .ok (.multianewarray index 2, 4)) {n k : Int32} {rest : List Value} (hn : ¬ n < 0) (hk : ¬ k < 0) (hN : n.toNatClampNeg = N) (hM : k.toNatClampNeg = M) (hb1 : N ≤ 1000) (hb2 : M ≤ 1000) (hcells : cells + (1 + N) ≤ R.cells) (hslots : slots + (N + N * M) ≤ R.slots)
    (kk : ∀ (H1 : Heap) (L : List Loc), (∀ q ∈ L, q.base = H.size) → H1.size = H.size + 1 + N → (∀ q, q < H.size → H1[q]? = H[q]?) → H1[H.size]? = some (mu_o cA N H.size N) → (∀ j, j < N → H1[H.size + 1 + j]? = some (mu_i dI M (.int 0))) →
      W p l e R s m args below meth c H1 (locs ++ L) (cells + 1 + N) (slots + N + N * M) Q (F0 m (pc + 4) ls (.ref H.size :: rest))) : W p l e R s m args below meth c H locs cells slots Q (F0 m pc ls (.int k :: .int n :: rest)) := by
  intro T hT X
  subst hT; subst hb; subst hN; subst hM
  have hpl : e.platform.magicAccessors = ({} : Platform).magicAccessors := by rw [X.admits.platform]
  obtain ⟨c0, hfc0, hcl⟩ := Cond.classLink_spec hown hclink e.platform hpl
  cases hfA.symm.trans hfc0
  obtain ⟨hg₁, hwarm₁, hready₁⟩ := State.classEntry (e := e) X.warmed hcl
  generalize T.vm.noted m.cls index (.cls cA) = vm₁ at hg₁ hwarm₁ hready₁
  have hal : s.vm.Alike vm₁ := hwarm₁.alike
  obtain ⟨kA₁, hkA₁, heA⟩ := hal.2.2 _ _ hkA
  obtain ⟨kC₁, hkC₁, heC⟩ := hal.2.2 _ _ hkC
  have hkindA₁ : kA₁.kind = .array dI (.array .int) := by rw [heA]; exact hkindA
  have hkindC₁ : kC₁.kind = .array cC .int := by rw [heC]; exact hkindC
  have X₁ := X.noted hwarm₁
  obtain ⟨hr1, hr2⟩ := X.roomAbove hcells hslots
  have XF := mu_stand X₁ cA dI n.toNatClampNeg k.toNatClampNeg (defaultValue .int) n.toNatClampNeg
  obtain ⟨f1, f2, f3, f4⟩ := mu_at (T.setVm vm₁) cA dI n.toNatClampNeg k.toNatClampNeg (defaultValue .int) n.toNatClampNeg
  obtain ⟨t', a1, b1⟩ := kk _ _ (fun q hq => by obtain ⟨j, -, rfl⟩ := List.mem_map.mp hq; rfl) f1 (fun q hq => mu_old (T.setVm vm₁) cA dI _ _ _ hq _) f2 (fun j hj => mu_row (T.setVm vm₁) cA dI _ _ _ _ j hj) _ rfl XF
  refine ⟨t', ?_, b1⟩
  have hl1 : ¬ n.toNatClampNeg > e.platform.arrayLengthLimit := by rw [Launch.admits_arrayLengthLimit X.admits]; omega
  have hh1 : ¬ n.toNatClampNeg * componentBytes (.array .int) > e.platform.maxHeapBytes := by
    rw [Launch.admits_maxHeapBytes X.admits]
    show ¬ n.toNatClampNeg * 4 > 536870912
    omega
  have hl2 : ¬ k.toNatClampNeg > e.platform.arrayLengthLimit := by rw [Launch.admits_arrayLengthLimit X.admits]; omega
  have hh2 : ¬ k.toNatClampNeg * componentBytes .int > e.platform.maxHeapBytes := by
    rw [Launch.admits_maxHeapBytes X.admits]
    show ¬ k.toNatClampNeg * 4 > 536870912
    omega
  jvm_step X.here [hexec, hdg]
  simp only [multianewarray.sem, wp_bind', W.resolveClassAt_links (State.method?_setTop (F0 m pc ls (.int k :: .int n :: rest)) X.here.top) hg₁]
  rw [W.popN, if_neg (by decide)]
  refine ⟨F0 m pc ls (.int k :: .int n :: rest), State.topJava?_setTop' (s := T.setVm vm₁) _ X.here.top, [.int n, .int k], rest, rfl, rfl, ?_⟩
  simp only [List.mapM_cons, List.mapM_nil, wp_bind', wp_pure']
  refine mu_make (k := kA₁) (kc := kC₁) (dI := dI) (cc := cC) (t0 := .array .int) (t := .int) hkA₁ hkindA₁ rfl hkC₁ hkindC₁ hn hk hl1 hh1 hl2 hh2 rfl rfl (by show T.heap.size + 1 + _ ≤ _; omega) (by show T.slotsUsed + _ + _ ≤ _; omega) (fun d' acts' => ?_)
  have eS : ((T.setTop (F0 m pc ls (.int k :: .int n :: rest))).setVm vm₁).setTop (F0 m pc ls rest) = (T.setVm vm₁).setTop (F0 m pc ls rest) := by
    show ((T.setVm vm₁).setTop _).setTop _ = _
    rw [State.setTop_setTop]
  have eT : ({ F0 m pc ls (.int k :: .int n :: rest) with stack := rest } : JFrame) = F0 m pc ls rest := rfl
  rw [eT, eS, mu_top]
  simp only [wp_bind', W.mark, W.pushRef, State.topJava?_setTop' _ XF.here.top, Option.some.injEq, exists_eq_left', State.setTop_setTop, State.heap_setTop]
  intro acts
  simp [jvm, XF.here.top]
  exact a1
end MV
end
section
/-! the mirror: a grid -/
theorem rl_c.app {b : Nat} {as bs : List Nat} {ty : mx_T} {h cs : mx_H} {ws vs : va_W} (hc : rl_c b as ty h ws) (h1 : vs.map (·.1) = bs) (h2 : bs.length = cs.length) (h3 : ∀ (i : Nat) (c : va_E), cs[i]? = some c → ∃ a c', vs[i]? = some (a, c') ∧ rl_e b (as ++ bs) ty c c') : rl_c b (as ++ bs) ty (h ++ cs) (ws ++ vs) := by
  obtain ⟨g1, g2, g3⟩ := hc
  have hl : ws.length = h.length := by rw [← g2, ← g1, List.length_map]
  refine ⟨by rw [List.map_append, g1, h1], by rw [List.length_append, List.length_append, g2, h2], fun j x hx => ?_⟩
  by_cases hj : j < h.length
  · rw [List.getElem?_append_left hj] at hx
    obtain ⟨a1, c1, h4, h5⟩ := g3 j x hx
    exact ⟨a1, c1, by rw [List.getElem?_append_left (by omega)]; exact h4, h5.up (List.prefix_append _ _)⟩
  · rw [List.getElem?_append_right (by omega)] at hx
    obtain ⟨a1, c1, h4, h5⟩ := h3 _ x hx
    exact ⟨a1, c1, by rw [List.getElem?_append_right (by omega), hl]; exact h4, h5⟩
def mu_v (q0 : Nat) (cA dI : ClassId) (N M : Nat) : va_W := (q0, .inl (cA, N, .inr (.inr (.inr (.inr (fun j => if j < N then some (q0 + 1 + j) else none)))))) :: (List.range N).map (fun j => (q0 + 1 + j, .inl (dI, M, .inl (fun _ => 0))))
theorem mu_vat {q0 : Nat} {cA dI : ClassId} {N M : Nat} (k : Nat) (q : Nat × va_E) (h : (mu_v q0 cA dI N M)[k]? = some q) : (k = 0 ∧ q = (q0, .inl (cA, N, .inr (.inr (.inr (.inr (fun j => if j < N then some (q0 + 1 + j) else none))))))) ∨ ∃ j, j < N ∧ k = j + 1 ∧ q = (q0 + 1 + j, .inl (dI, M, .inl (fun _ => 0))) := by
  cases k with
  | zero =>
    unfold mu_v at h
    rw [List.getElem?_cons_zero] at h
    exact Or.inl ⟨rfl, (Option.some.inj h).symm⟩
  | succ j =>
    unfold mu_v at h
    rw [List.getElem?_cons_succ, List.getElem?_map] at h
    cases hj : (List.range N)[j]? with
    | none => rw [hj] at h; cases h
    | some x =>
      rw [hj] at h
      obtain ⟨h1, h2⟩ := List.getElem?_eq_some_iff.mp hj
      rw [List.getElem_range] at h2
      subst h2
      rw [List.length_range] at h1
      exact Or.inr ⟨j, h1, rfl, (Option.some.inj h).symm⟩
def mu_c (q N M : Nat) : mx_H := .inl (3, N, .inr (.inr (.inr (.inr (fun j => if j < N then some (q + 1 + j) else none))))) :: List.replicate N (.inl (0, M, .inl (fun _ => 0)))
section MG
variable {l : Launch} {Y : mx_Y} {sc : mx_S} {k n : Nat} {pc : Nat} {L st : List Value} {h : mx_H} {Q : Option Value → mx_H → Prop}
theorem wp_multi {idx N M : Nat} {i j : Int32} (hi : decode Y.2.1 pc = .ok (.multianewarray idx 2, 4)) (hcl : Cond.classLink Y.1.cls idx "[[I" ∈ WS) (hi0 : ¬ i < 0) (hj0 : ¬ j < 0) (hN : i.toNatClampNeg = N) (hM : j.toNatClampNeg = M) (hb1 : N ≤ 1000) (hb2 : M ≤ 1000) (hk1 : 1 + N ≤ k) (hn1 : N + N * M ≤ n)
    (kk : wp_m l Y sc (k - (1 + N)) (n - (N + N * M)) (pc + 4) L (.ref h.length :: st) (h ++ mu_c h.length N M) Q) : wp_m l Y sc k n pc L (.int j :: .int i :: st) h Q := by
  intro D ty A H0 b as0 mcT msT p e R s m args below meth c Z hC hR as H locs ls st' cells slots hw hpre hl hs hk hn
  obtain ⟨_, _, rfl, rfl, _, _, rfl, rfl, hs⟩ := hs
  obtain ⟨ws, hrc, hP, hD, hS⟩ := id hw
  have hts := hC.2.2.2.2.2.2.2.1
  have hK := hC.2.2.2.2.2.2.2.2.1.1
  obtain ⟨-, qI, qG, kA, x1, x2, x3, x4⟩ := hC.2.2.2.2.2.2.2.2.1.2
  have hty := hC.2.2.2.2.2.2.2.2.2.1
  have hmc := hC.2.2.2.2.2.2.2.2.2.2.2.2.1
  have hms := hC.2.2.2.2.2.2.2.2.2.2.2.2.2.1
  have hA := hC.2.2.2.2.2.2.2.2.2.2.2.2.2.2.1
  obtain ⟨cI, fI⟩ := qI
  obtain ⟨cG, fG⟩ := qG
  have eI : fI = .int := rl_ty hty x1 rfl
  have eG : fG = .array .int := rl_ty hty x2 rfl
  subst eI; subst eG
  obtain ⟨-, kC, hkC, cC, hkindC⟩ := (hK.2 0 _ x1).1 0 (fun _ => .null)
  have hfA : s.vm.findClass "[[I" = some cG := (hK.2 3 _ x2).2
  refine mu_W hC.1 hC.2.1 hC.2.2.2.2.1 (hts _ hcl) hfA x3 x4 hkC hkindC hi hi0 hj0 hN hM hb1 hb2 (by omega) (by omega) fun H1 Lc hLc z1 o1 e1 r1 => ?_
  have hp : as <+: as ++ (H.size :: (List.range N).map (fun j => H.size + 1 + j)) := List.prefix_append _ _
  have hin : ∀ (k : Nat) (q : Nat × va_E), (mu_v H.size cG cI N M)[k]? = some q → H.size ≤ q.1 := fun k q hq => by
    rcases mu_vat k q hq with ⟨-, rfl⟩ | ⟨j, -, -, rfl⟩
    · exact Nat.le_refl _
    · show H.size ≤ H.size + 1 + j
      omega
  have hold : ∀ (k : Nat) (x : Nat × va_E), ws[k]? = some x → H1[x.1]? = H[x.1]? := fun k x hx => o1 x.1 ((hP k x hx).lt)
  have hP1 : va_P D classes (ws ++ mu_v H.size cG cI N M) H1 := (hP.kept hold).app (fun k q hq => by
    rcases mu_vat k q hq with ⟨-, rfl⟩ | ⟨j, hj, -, rfl⟩
    · show H1[H.size]? = some (vp_cell _ _)
      rw [e1, vp_cell_q]
      unfold mu_o
      congr 2
      funext x
      by_cases hx : x < N
      · simp [hx, va_rf]
      · simp [hx, va_rf]
    · show H1[H.size + 1 + j]? = some (vp_cell _ _)
      rw [r1 j hj, vp_cell_i]
      exact congrArg some (arrV_new cI M (.int 0)))
  have hD2 : va_D A (mu_v H.size cG cI N M) := ⟨fun i j x y hx hy hxy => by
    rcases mu_vat i x hx with ⟨rfl, rfl⟩ | ⟨i', hi', rfl, rfl⟩ <;> rcases mu_vat j y hy with ⟨rfl, rfl⟩ | ⟨j', hj', rfl, rfl⟩
    · rfl
    · have hxy' : H.size = H.size + 1 + j' := hxy
      omega
    · have hxy' : H.size + 1 + i' = H.size := hxy
      omega
    · have hxy' : H.size + 1 + i' = H.size + 1 + j' := hxy
      omega, fun k q hq => hA _ (Nat.le_trans hS.1 (hin k q hq))⟩
  have hD1 : va_D A (ws ++ mu_v H.size cG cI N M) := va_D.app hD hD2 (fun i j x y hx hy hxy => by
    have h1 := (hP i x hx).lt
    have h2 := hin j y hy
    omega)
  have hS1 : va_S A H0 H1 (locs ++ Lc) := ⟨Nat.le_trans hS.1 (by omega), fun x h1 h2 => (o1 x (Nat.lt_of_lt_of_le h1 hS.1)).trans (hS.2.1 x h1 h2), fun q hq => by
    rcases List.mem_append.mp hq with h | h
    · exact hS.2.2 q h
    · rw [hLc q h]
      exact hA _ hS.1⟩
  have hrc1 : rl_c b (as ++ (H.size :: (List.range N).map (fun j => H.size + 1 + j))) ty (h ++ mu_c h.length N M) (ws ++ mu_v H.size cG cI N M) := by
    refine hrc.app ?_ (by simp [mu_c]) fun i c hc => ?_
    · unfold mu_v
      simp [List.map_map, Function.comp_def]
    · cases i with
      | zero =>
        unfold mu_c at hc
        rw [List.getElem?_cons_zero] at hc
        cases hc
        refine ⟨_, _, rfl, (cG, .array .int), _, x2, rfl, fun x => ?_⟩
        by_cases hx : x < N
        · show rl_r _ (if x < N then some (h.length + 1 + x) else none) (if x < N then some (H.size + 1 + x) else none)
          rw [if_pos hx, if_pos hx]
          refine ⟨_, ?_, rfl⟩
          rw [List.getElem?_append_right (by rw [hrc.2.1]; omega), hrc.2.1, show h.length + 1 + x - h.length = x + 1 by omega, List.getElem?_cons_succ, List.getElem?_map, List.getElem?_range hx]
          rfl
        · show rl_r _ (if x < N then some (h.length + 1 + x) else none) (if x < N then some (H.size + 1 + x) else none)
          rw [if_neg hx, if_neg hx]
          rfl
      | succ i =>
        unfold mu_c at hc
        rw [List.getElem?_cons_succ, List.getElem?_replicate] at hc
        by_cases hx : i < N
        · rw [if_pos hx] at hc
          cases hc
          refine ⟨H.size + 1 + i, _, ?_, (cI, .int), x1, rfl⟩
          unfold mu_v
          rw [List.getElem?_cons_succ, List.getElem?_map, List.getElem?_range hx]
          rfl
        · rw [if_neg hx] at hc
          cases hc
  exact kk D ty A H0 b as0 mcT msT p e R s m args below meth c Z hC hR _ H1 _ ls _ _ _ ⟨_, hrc1, hP1, hD1, hS1⟩ (hpre.trans hp) (hl.up hp) ⟨_, _, rfl, ⟨H.size, by rw [← hrc.2.1]; simp, rfl⟩, hs.up hp⟩ (by omega) (by omega)
end MG
end
