section
-- ===== PART A: goes FIRST, ahead of the names: the tables' words, and 'selects' of the private methods out of them =====
/-- a private method of a class that the tables say can be made, by its rows of tables_1 -/
def lw_okq (q : MethodName × Nat) : Prop := (q.1.cls ≠ "java/lang/invoke/MethodHandle" ∧ q.1.cls ≠ "java/lang/invoke/VarHandle") ∧ Cond.instantiable q.1.cls q.2 ∈ tables_1 ∧ Cond.privateMethod q.1 ∈ tables_1 ∧ Cond.instanceMethod q.1 ∈ tables_1
theorem lw_p0 : lw_okq (⟨"java/lang/Throwable", "fillInStackTrace", "(I)Ljava/lang/Throwable;"⟩, 6) := ⟨⟨by decide +kernel, by decide +kernel⟩, List.mem_of_getElem? (i := 287) (by decide +kernel), List.mem_of_getElem? (i := 285) (by decide +kernel), List.mem_of_getElem? (i := 286) (by decide +kernel)⟩
theorem lw_p1 : lw_okq (⟨"HymnPage$Tune", "restart", "(I)V"⟩, 6) := ⟨⟨by decide +kernel, by decide +kernel⟩, List.mem_of_getElem? (i := 28) (by decide +kernel), List.mem_of_getElem? (i := 317) (by decide +kernel), List.mem_of_getElem? (i := 318) (by decide +kernel)⟩
theorem lw_p2 : lw_okq (⟨"HymnPage$Bars", "change", "(II)V"⟩, 2) := ⟨⟨by decide +kernel, by decide +kernel⟩, List.mem_of_getElem? (i := 61) (by decide +kernel), List.mem_of_getElem? (i := 321) (by decide +kernel), List.mem_of_getElem? (i := 322) (by decide +kernel)⟩
theorem lw_p3 : lw_okq (⟨"HymnPage$Verses", "removeLines", "(I)I"⟩, 2) := ⟨⟨by decide +kernel, by decide +kernel⟩, List.mem_of_getElem? (i := 96) (by decide +kernel), List.mem_of_getElem? (i := 325) (by decide +kernel), List.mem_of_getElem? (i := 326) (by decide +kernel)⟩
theorem lw_p4 : lw_okq (⟨"HymnPage$Verses", "syllablesOf", "(II)I"⟩, 2) := ⟨⟨by decide +kernel, by decide +kernel⟩, List.mem_of_getElem? (i := 96) (by decide +kernel), List.mem_of_getElem? (i := 329) (by decide +kernel), List.mem_of_getElem? (i := 330) (by decide +kernel)⟩
theorem lw_p5 : lw_okq (⟨"HymnPage$Verses", "rowOf", "(II)I"⟩, 2) := ⟨⟨by decide +kernel, by decide +kernel⟩, List.mem_of_getElem? (i := 96) (by decide +kernel), List.mem_of_getElem? (i := 333) (by decide +kernel), List.mem_of_getElem? (i := 334) (by decide +kernel)⟩
theorem lw_p6 : lw_okq (⟨"HymnPage", "layOut", "()V"⟩, 10) := ⟨⟨by decide +kernel, by decide +kernel⟩, List.mem_of_getElem? (i := 20) (by decide +kernel), List.mem_of_getElem? (i := 346) (by decide +kernel), List.mem_of_getElem? (i := 347) (by decide +kernel)⟩
theorem lw_p7 : lw_okq (⟨"HymnPage$Phrases", "find", "(LHymnPage$Tune;)V"⟩, 6) := ⟨⟨by decide +kernel, by decide +kernel⟩, List.mem_of_getElem? (i := 109) (by decide +kernel), List.mem_of_getElem? (i := 350) (by decide +kernel), List.mem_of_getElem? (i := 351) (by decide +kernel)⟩
theorem lw_p8 : lw_okq (⟨"HymnPage$Phrases", "open", "(I)V"⟩, 6) := ⟨⟨by decide +kernel, by decide +kernel⟩, List.mem_of_getElem? (i := 109) (by decide +kernel), List.mem_of_getElem? (i := 354) (by decide +kernel), List.mem_of_getElem? (i := 355) (by decide +kernel)⟩
theorem lw_p9 : lw_okq (⟨"HymnPage$Phrases", "take", "(IZ)V"⟩, 6) := ⟨⟨by decide +kernel, by decide +kernel⟩, List.mem_of_getElem? (i := 109) (by decide +kernel), List.mem_of_getElem? (i := 362) (by decide +kernel), List.mem_of_getElem? (i := 363) (by decide +kernel)⟩
theorem lw_p10 : lw_okq (⟨"HymnPage$Phrases", "syllablesOf", "(I)I"⟩, 6) := ⟨⟨by decide +kernel, by decide +kernel⟩, List.mem_of_getElem? (i := 109) (by decide +kernel), List.mem_of_getElem? (i := 366) (by decide +kernel), List.mem_of_getElem? (i := 367) (by decide +kernel)⟩
theorem lw_p11 : lw_okq (⟨"HymnPage$Repeats", "keepWithin", "(I)V"⟩, 4) := ⟨⟨by decide +kernel, by decide +kernel⟩, List.mem_of_getElem? (i := 76) (by decide +kernel), List.mem_of_getElem? (i := 372) (by decide +kernel), List.mem_of_getElem? (i := 373) (by decide +kernel)⟩
theorem lw_p12 : lw_okq (⟨"HymnPage$Repeats", "push", "(III)V"⟩, 4) := ⟨⟨by decide +kernel, by decide +kernel⟩, List.mem_of_getElem? (i := 76) (by decide +kernel), List.mem_of_getElem? (i := 377) (by decide +kernel), List.mem_of_getElem? (i := 378) (by decide +kernel)⟩
theorem lw_p13 : lw_okq (⟨"HymnPage$Order", "find", "(ILHymnPage$Repeats;)V"⟩, 3) := ⟨⟨by decide +kernel, by decide +kernel⟩, List.mem_of_getElem? (i := 136) (by decide +kernel), List.mem_of_getElem? (i := 382) (by decide +kernel), List.mem_of_getElem? (i := 383) (by decide +kernel)⟩
theorem lw_p14 : lw_okq (⟨"HymnPage$Order", "push", "(I)V"⟩, 3) := ⟨⟨by decide +kernel, by decide +kernel⟩, List.mem_of_getElem? (i := 136) (by decide +kernel), List.mem_of_getElem? (i := 387) (by decide +kernel), List.mem_of_getElem? (i := 388) (by decide +kernel)⟩
theorem lw_p15 : lw_okq (⟨"HymnPage$Order", "timesOf", "(I)I"⟩, 3) := ⟨⟨by decide +kernel, by decide +kernel⟩, List.mem_of_getElem? (i := 136) (by decide +kernel), List.mem_of_getElem? (i := 391) (by decide +kernel), List.mem_of_getElem? (i := 392) (by decide +kernel)⟩
def lw_privs_1 : List (MethodName × Nat) := [(⟨"java/lang/Throwable", "fillInStackTrace", "(I)Ljava/lang/Throwable;"⟩, 6), (⟨"HymnPage$Tune", "restart", "(I)V"⟩, 6), (⟨"HymnPage$Bars", "change", "(II)V"⟩, 2), (⟨"HymnPage$Verses", "removeLines", "(I)I"⟩, 2), (⟨"HymnPage$Verses", "syllablesOf", "(II)I"⟩, 2), (⟨"HymnPage$Verses", "rowOf", "(II)I"⟩, 2), (⟨"HymnPage", "layOut", "()V"⟩, 10), (⟨"HymnPage$Phrases", "find", "(LHymnPage$Tune;)V"⟩, 6), (⟨"HymnPage$Phrases", "open", "(I)V"⟩, 6), (⟨"HymnPage$Phrases", "take", "(IZ)V"⟩, 6), (⟨"HymnPage$Phrases", "syllablesOf", "(I)I"⟩, 6), (⟨"HymnPage$Repeats", "keepWithin", "(I)V"⟩, 4), (⟨"HymnPage$Repeats", "push", "(III)V"⟩, 4), (⟨"HymnPage$Order", "find", "(ILHymnPage$Repeats;)V"⟩, 3), (⟨"HymnPage$Order", "push", "(I)V"⟩, 3), (⟨"HymnPage$Order", "timesOf", "(I)I"⟩, 3)]
theorem lw_r1 : ∀ q ∈ lw_privs_1, lw_okq q := List.forall_mem_cons.mpr ⟨lw_p0, List.forall_mem_cons.mpr ⟨lw_p1, List.forall_mem_cons.mpr ⟨lw_p2, List.forall_mem_cons.mpr ⟨lw_p3, List.forall_mem_cons.mpr ⟨lw_p4, List.forall_mem_cons.mpr ⟨lw_p5, List.forall_mem_cons.mpr ⟨lw_p6, List.forall_mem_cons.mpr ⟨lw_p7, List.forall_mem_cons.mpr ⟨lw_p8, List.forall_mem_cons.mpr ⟨lw_p9, List.forall_mem_cons.mpr ⟨lw_p10, List.forall_mem_cons.mpr ⟨lw_p11, List.forall_mem_cons.mpr ⟨lw_p12, List.forall_mem_cons.mpr ⟨lw_p13, List.forall_mem_cons.mpr ⟨lw_p14, List.forall_mem_cons.mpr ⟨lw_p15, fun _ h => absurd h List.not_mem_nil⟩⟩⟩⟩⟩⟩⟩⟩⟩⟩⟩⟩⟩⟩⟩⟩
theorem lw_p16 : lw_okq (⟨"HymnPage$Repeats", "endingWith", "(I)I"⟩, 4) := ⟨⟨by decide +kernel, by decide +kernel⟩, List.mem_of_getElem? (i := 76) (by decide +kernel), List.mem_of_getElem? (i := 396) (by decide +kernel), List.mem_of_getElem? (i := 397) (by decide +kernel)⟩
theorem lw_p17 : lw_okq (⟨"HymnPage$Repeats", "firstOf", "(I)I"⟩, 4) := ⟨⟨by decide +kernel, by decide +kernel⟩, List.mem_of_getElem? (i := 76) (by decide +kernel), List.mem_of_getElem? (i := 400) (by decide +kernel), List.mem_of_getElem? (i := 401) (by decide +kernel)⟩
theorem lw_p18 : lw_okq (⟨"HymnPage$Repeats", "lastAgainOf", "(I)I"⟩, 4) := ⟨⟨by decide +kernel, by decide +kernel⟩, List.mem_of_getElem? (i := 76) (by decide +kernel), List.mem_of_getElem? (i := 404) (by decide +kernel), List.mem_of_getElem? (i := 405) (by decide +kernel)⟩
theorem lw_p19 : lw_okq (⟨"HymnPage$Order", "pushAgain", "(II)V"⟩, 3) := ⟨⟨by decide +kernel, by decide +kernel⟩, List.mem_of_getElem? (i := 136) (by decide +kernel), List.mem_of_getElem? (i := 408) (by decide +kernel), List.mem_of_getElem? (i := 409) (by decide +kernel)⟩
theorem lw_p20 : lw_okq (⟨"HymnPage$Columns", "findWidths", "(LHymnPage$Phrases;LHymnPage$Order;LHymnPage$Verses;)V"⟩, 5) := ⟨⟨by decide +kernel, by decide +kernel⟩, List.mem_of_getElem? (i := 154) (by decide +kernel), List.mem_of_getElem? (i := 412) (by decide +kernel), List.mem_of_getElem? (i := 413) (by decide +kernel)⟩
theorem lw_p21 : lw_okq (⟨"HymnPage$Order", "phraseAt", "(I)I"⟩, 3) := ⟨⟨by decide +kernel, by decide +kernel⟩, List.mem_of_getElem? (i := 136) (by decide +kernel), List.mem_of_getElem? (i := 417) (by decide +kernel), List.mem_of_getElem? (i := 418) (by decide +kernel)⟩
theorem lw_p22 : lw_okq (⟨"HymnPage$Phrases", "firstOf", "(I)I"⟩, 6) := ⟨⟨by decide +kernel, by decide +kernel⟩, List.mem_of_getElem? (i := 109) (by decide +kernel), List.mem_of_getElem? (i := 421) (by decide +kernel), List.mem_of_getElem? (i := 422) (by decide +kernel)⟩
theorem lw_p23 : lw_okq (⟨"HymnPage$Phrases", "lastOf", "(I)I"⟩, 6) := ⟨⟨by decide +kernel, by decide +kernel⟩, List.mem_of_getElem? (i := 109) (by decide +kernel), List.mem_of_getElem? (i := 425) (by decide +kernel), List.mem_of_getElem? (i := 426) (by decide +kernel)⟩
theorem lw_p24 : lw_okq (⟨"HymnPage$Phrases", "syllableOf", "(I)I"⟩, 6) := ⟨⟨by decide +kernel, by decide +kernel⟩, List.mem_of_getElem? (i := 109) (by decide +kernel), List.mem_of_getElem? (i := 429) (by decide +kernel), List.mem_of_getElem? (i := 430) (by decide +kernel)⟩
theorem lw_p25 : lw_okq (⟨"HymnPage$Verses", "widestBelow", "(II)I"⟩, 2) := ⟨⟨by decide +kernel, by decide +kernel⟩, List.mem_of_getElem? (i := 96) (by decide +kernel), List.mem_of_getElem? (i := 433) (by decide +kernel), List.mem_of_getElem? (i := 434) (by decide +kernel)⟩
theorem lw_p26 : lw_okq (⟨"HymnPage$Verses", "hasSyllable", "(III)Z"⟩, 2) := ⟨⟨by decide +kernel, by decide +kernel⟩, List.mem_of_getElem? (i := 96) (by decide +kernel), List.mem_of_getElem? (i := 437) (by decide +kernel), List.mem_of_getElem? (i := 438) (by decide +kernel)⟩
theorem lw_p27 : lw_okq (⟨"HymnPage$Verses", "lengthAt", "(III)I"⟩, 2) := ⟨⟨by decide +kernel, by decide +kernel⟩, List.mem_of_getElem? (i := 96) (by decide +kernel), List.mem_of_getElem? (i := 441) (by decide +kernel), List.mem_of_getElem? (i := 442) (by decide +kernel)⟩
theorem lw_p28 : lw_okq (⟨"HymnPage$Verses", "packedAt", "(III)I"⟩, 2) := ⟨⟨by decide +kernel, by decide +kernel⟩, List.mem_of_getElem? (i := 96) (by decide +kernel), List.mem_of_getElem? (i := 445) (by decide +kernel), List.mem_of_getElem? (i := 446) (by decide +kernel)⟩
theorem lw_p29 : lw_okq (⟨"HymnPage$Columns", "widen", "(II)V"⟩, 5) := ⟨⟨by decide +kernel, by decide +kernel⟩, List.mem_of_getElem? (i := 154) (by decide +kernel), List.mem_of_getElem? (i := 452) (by decide +kernel), List.mem_of_getElem? (i := 453) (by decide +kernel)⟩
theorem lw_p30 : lw_okq (⟨"HymnPage$Columns", "widthOf", "(I)I"⟩, 5) := ⟨⟨by decide +kernel, by decide +kernel⟩, List.mem_of_getElem? (i := 154) (by decide +kernel), List.mem_of_getElem? (i := 456) (by decide +kernel), List.mem_of_getElem? (i := 457) (by decide +kernel)⟩
theorem lw_p31 : lw_okq (⟨"HymnPage$Columns", "findSystems", "(LHymnPage$Phrases;I)V"⟩, 5) := ⟨⟨by decide +kernel, by decide +kernel⟩, List.mem_of_getElem? (i := 154) (by decide +kernel), List.mem_of_getElem? (i := 462) (by decide +kernel), List.mem_of_getElem? (i := 463) (by decide +kernel)⟩
def lw_privs_2 : List (MethodName × Nat) := [(⟨"HymnPage$Repeats", "endingWith", "(I)I"⟩, 4), (⟨"HymnPage$Repeats", "firstOf", "(I)I"⟩, 4), (⟨"HymnPage$Repeats", "lastAgainOf", "(I)I"⟩, 4), (⟨"HymnPage$Order", "pushAgain", "(II)V"⟩, 3), (⟨"HymnPage$Columns", "findWidths", "(LHymnPage$Phrases;LHymnPage$Order;LHymnPage$Verses;)V"⟩, 5), (⟨"HymnPage$Order", "phraseAt", "(I)I"⟩, 3), (⟨"HymnPage$Phrases", "firstOf", "(I)I"⟩, 6), (⟨"HymnPage$Phrases", "lastOf", "(I)I"⟩, 6), (⟨"HymnPage$Phrases", "syllableOf", "(I)I"⟩, 6), (⟨"HymnPage$Verses", "widestBelow", "(II)I"⟩, 2), (⟨"HymnPage$Verses", "hasSyllable", "(III)Z"⟩, 2), (⟨"HymnPage$Verses", "lengthAt", "(III)I"⟩, 2), (⟨"HymnPage$Verses", "packedAt", "(III)I"⟩, 2), (⟨"HymnPage$Columns", "widen", "(II)V"⟩, 5), (⟨"HymnPage$Columns", "widthOf", "(I)I"⟩, 5), (⟨"HymnPage$Columns", "findSystems", "(LHymnPage$Phrases;I)V"⟩, 5)]
theorem lw_r2 : ∀ q ∈ lw_privs_2, lw_okq q := List.forall_mem_cons.mpr ⟨lw_p16, List.forall_mem_cons.mpr ⟨lw_p17, List.forall_mem_cons.mpr ⟨lw_p18, List.forall_mem_cons.mpr ⟨lw_p19, List.forall_mem_cons.mpr ⟨lw_p20, List.forall_mem_cons.mpr ⟨lw_p21, List.forall_mem_cons.mpr ⟨lw_p22, List.forall_mem_cons.mpr ⟨lw_p23, List.forall_mem_cons.mpr ⟨lw_p24, List.forall_mem_cons.mpr ⟨lw_p25, List.forall_mem_cons.mpr ⟨lw_p26, List.forall_mem_cons.mpr ⟨lw_p27, List.forall_mem_cons.mpr ⟨lw_p28, List.forall_mem_cons.mpr ⟨lw_p29, List.forall_mem_cons.mpr ⟨lw_p30, List.forall_mem_cons.mpr ⟨lw_p31, fun _ h => absurd h List.not_mem_nil⟩⟩⟩⟩⟩⟩⟩⟩⟩⟩⟩⟩⟩⟩⟩⟩
theorem lw_p32 : lw_okq (⟨"HymnPage$Columns", "sumOf", "(II)I"⟩, 5) := ⟨⟨by decide +kernel, by decide +kernel⟩, List.mem_of_getElem? (i := 154) (by decide +kernel), List.mem_of_getElem? (i := 466) (by decide +kernel), List.mem_of_getElem? (i := 467) (by decide +kernel)⟩
theorem lw_p33 : lw_okq (⟨"HymnPage", "distanceOf", "(I)I"⟩, 10) := ⟨⟨by decide +kernel, by decide +kernel⟩, List.mem_of_getElem? (i := 20) (by decide +kernel), List.mem_of_getElem? (i := 474) (by decide +kernel), List.mem_of_getElem? (i := 475) (by decide +kernel)⟩
theorem lw_p34 : lw_okq (⟨"HymnPage$Book", "sizeOf", "(I)I"⟩, 3) := ⟨⟨by decide +kernel, by decide +kernel⟩, List.mem_of_getElem? (i := 178) (by decide +kernel), List.mem_of_getElem? (i := 478) (by decide +kernel), List.mem_of_getElem? (i := 479) (by decide +kernel)⟩
theorem lw_p35 : lw_okq (⟨"HymnPage$Book", "numberAt", "(II)I"⟩, 3) := ⟨⟨by decide +kernel, by decide +kernel⟩, List.mem_of_getElem? (i := 178) (by decide +kernel), List.mem_of_getElem? (i := 483) (by decide +kernel), List.mem_of_getElem? (i := 484) (by decide +kernel)⟩
theorem lw_p36 : lw_okq (⟨"HymnPage", "syllablesSung", "(I)I"⟩, 10) := ⟨⟨by decide +kernel, by decide +kernel⟩, List.mem_of_getElem? (i := 20) (by decide +kernel), List.mem_of_getElem? (i := 487) (by decide +kernel), List.mem_of_getElem? (i := 488) (by decide +kernel)⟩
theorem lw_p37 : lw_okq (⟨"HymnPage", "countOfTune", "(I)I"⟩, 10) := ⟨⟨by decide +kernel, by decide +kernel⟩, List.mem_of_getElem? (i := 20) (by decide +kernel), List.mem_of_getElem? (i := 500) (by decide +kernel), List.mem_of_getElem? (i := 501) (by decide +kernel)⟩
theorem lw_p38 : lw_okq (⟨"HymnPage", "countOfPage", "(I)I"⟩, 10) := ⟨⟨by decide +kernel, by decide +kernel⟩, List.mem_of_getElem? (i := 20) (by decide +kernel), List.mem_of_getElem? (i := 504) (by decide +kernel), List.mem_of_getElem? (i := 505) (by decide +kernel)⟩
theorem lw_p39 : lw_okq (⟨"HymnPage$Tune", "startOf", "(I)I"⟩, 6) := ⟨⟨by decide +kernel, by decide +kernel⟩, List.mem_of_getElem? (i := 28) (by decide +kernel), List.mem_of_getElem? (i := 508) (by decide +kernel), List.mem_of_getElem? (i := 509) (by decide +kernel)⟩
theorem lw_p40 : lw_okq (⟨"HymnPage$Tune", "lengthOf", "(I)I"⟩, 6) := ⟨⟨by decide +kernel, by decide +kernel⟩, List.mem_of_getElem? (i := 28) (by decide +kernel), List.mem_of_getElem? (i := 512) (by decide +kernel), List.mem_of_getElem? (i := 513) (by decide +kernel)⟩
theorem lw_p41 : lw_okq (⟨"HymnPage$Bars", "divide", "(I)Z"⟩, 2) := ⟨⟨by decide +kernel, by decide +kernel⟩, List.mem_of_getElem? (i := 61) (by decide +kernel), List.mem_of_getElem? (i := 517) (by decide +kernel), List.mem_of_getElem? (i := 518) (by decide +kernel)⟩
theorem lw_p42 : lw_okq (⟨"HymnPage", "fittingVerses", "()I"⟩, 10) := ⟨⟨by decide +kernel, by decide +kernel⟩, List.mem_of_getElem? (i := 20) (by decide +kernel), List.mem_of_getElem? (i := 522) (by decide +kernel), List.mem_of_getElem? (i := 523) (by decide +kernel)⟩
theorem lw_p43 : lw_okq (⟨"HymnPage", "firstMisfit", "(I)I"⟩, 10) := ⟨⟨by decide +kernel, by decide +kernel⟩, List.mem_of_getElem? (i := 20) (by decide +kernel), List.mem_of_getElem? (i := 526) (by decide +kernel), List.mem_of_getElem? (i := 527) (by decide +kernel)⟩
theorem lw_p44 : lw_okq (⟨"HymnPage$Tune", "notesWithParallels", "()I"⟩, 6) := ⟨⟨by decide +kernel, by decide +kernel⟩, List.mem_of_getElem? (i := 28) (by decide +kernel), List.mem_of_getElem? (i := 531) (by decide +kernel), List.mem_of_getElem? (i := 532) (by decide +kernel)⟩
theorem lw_p45 : lw_okq (⟨"HymnPage$Tune", "parallelsTo", "(I)I"⟩, 6) := ⟨⟨by decide +kernel, by decide +kernel⟩, List.mem_of_getElem? (i := 28) (by decide +kernel), List.mem_of_getElem? (i := 535) (by decide +kernel), List.mem_of_getElem? (i := 536) (by decide +kernel)⟩
theorem lw_p46 : lw_okq (⟨"HymnPage$Tune", "goParallel", "(III)Z"⟩, 6) := ⟨⟨by decide +kernel, by decide +kernel⟩, List.mem_of_getElem? (i := 28) (by decide +kernel), List.mem_of_getElem? (i := 539) (by decide +kernel), List.mem_of_getElem? (i := 540) (by decide +kernel)⟩
theorem lw_p47 : lw_okq (⟨"HymnPage$Tune", "pitchOf", "(II)I"⟩, 6) := ⟨⟨by decide +kernel, by decide +kernel⟩, List.mem_of_getElem? (i := 28) (by decide +kernel), List.mem_of_getElem? (i := 543) (by decide +kernel), List.mem_of_getElem? (i := 544) (by decide +kernel)⟩
def lw_privs_3 : List (MethodName × Nat) := [(⟨"HymnPage$Columns", "sumOf", "(II)I"⟩, 5), (⟨"HymnPage", "distanceOf", "(I)I"⟩, 10), (⟨"HymnPage$Book", "sizeOf", "(I)I"⟩, 3), (⟨"HymnPage$Book", "numberAt", "(II)I"⟩, 3), (⟨"HymnPage", "syllablesSung", "(I)I"⟩, 10), (⟨"HymnPage", "countOfTune", "(I)I"⟩, 10), (⟨"HymnPage", "countOfPage", "(I)I"⟩, 10), (⟨"HymnPage$Tune", "startOf", "(I)I"⟩, 6), (⟨"HymnPage$Tune", "lengthOf", "(I)I"⟩, 6), (⟨"HymnPage$Bars", "divide", "(I)Z"⟩, 2), (⟨"HymnPage", "fittingVerses", "()I"⟩, 10), (⟨"HymnPage", "firstMisfit", "(I)I"⟩, 10), (⟨"HymnPage$Tune", "notesWithParallels", "()I"⟩, 6), (⟨"HymnPage$Tune", "parallelsTo", "(I)I"⟩, 6), (⟨"HymnPage$Tune", "goParallel", "(III)Z"⟩, 6), (⟨"HymnPage$Tune", "pitchOf", "(II)I"⟩, 6)]
theorem lw_r3 : ∀ q ∈ lw_privs_3, lw_okq q := List.forall_mem_cons.mpr ⟨lw_p32, List.forall_mem_cons.mpr ⟨lw_p33, List.forall_mem_cons.mpr ⟨lw_p34, List.forall_mem_cons.mpr ⟨lw_p35, List.forall_mem_cons.mpr ⟨lw_p36, List.forall_mem_cons.mpr ⟨lw_p37, List.forall_mem_cons.mpr ⟨lw_p38, List.forall_mem_cons.mpr ⟨lw_p39, List.forall_mem_cons.mpr ⟨lw_p40, List.forall_mem_cons.mpr ⟨lw_p41, List.forall_mem_cons.mpr ⟨lw_p42, List.forall_mem_cons.mpr ⟨lw_p43, List.forall_mem_cons.mpr ⟨lw_p44, List.forall_mem_cons.mpr ⟨lw_p45, List.forall_mem_cons.mpr ⟨lw_p46, List.forall_mem_cons.mpr ⟨lw_p47, fun _ h => absurd h List.not_mem_nil⟩⟩⟩⟩⟩⟩⟩⟩⟩⟩⟩⟩⟩⟩⟩⟩
theorem lw_p48 : lw_okq (⟨"HymnPage", "noteProperty", "(II)I"⟩, 10) := ⟨⟨by decide +kernel, by decide +kernel⟩, List.mem_of_getElem? (i := 20) (by decide +kernel), List.mem_of_getElem? (i := 603) (by decide +kernel), List.mem_of_getElem? (i := 604) (by decide +kernel)⟩
theorem lw_p49 : lw_okq (⟨"HymnPage$Phrases", "phraseOf", "(I)I"⟩, 6) := ⟨⟨by decide +kernel, by decide +kernel⟩, List.mem_of_getElem? (i := 109) (by decide +kernel), List.mem_of_getElem? (i := 609) (by decide +kernel), List.mem_of_getElem? (i := 610) (by decide +kernel)⟩
theorem lw_p50 : lw_okq (⟨"HymnPage$Bars", "numberAt", "(I)I"⟩, 2) := ⟨⟨by decide +kernel, by decide +kernel⟩, List.mem_of_getElem? (i := 61) (by decide +kernel), List.mem_of_getElem? (i := 614) (by decide +kernel), List.mem_of_getElem? (i := 615) (by decide +kernel)⟩
theorem lw_p51 : lw_okq (⟨"HymnPage$Bars", "unitsBefore", "(I)I"⟩, 2) := ⟨⟨by decide +kernel, by decide +kernel⟩, List.mem_of_getElem? (i := 61) (by decide +kernel), List.mem_of_getElem? (i := 618) (by decide +kernel), List.mem_of_getElem? (i := 619) (by decide +kernel)⟩
theorem lw_p52 : lw_okq (⟨"HymnPage$Bars", "unitsFrom", "(I)I"⟩, 2) := ⟨⟨by decide +kernel, by decide +kernel⟩, List.mem_of_getElem? (i := 61) (by decide +kernel), List.mem_of_getElem? (i := 622) (by decide +kernel), List.mem_of_getElem? (i := 623) (by decide +kernel)⟩
theorem lw_p53 : lw_okq (⟨"HymnPage", "partProperty", "(III)I"⟩, 10) := ⟨⟨by decide +kernel, by decide +kernel⟩, List.mem_of_getElem? (i := 20) (by decide +kernel), List.mem_of_getElem? (i := 666) (by decide +kernel), List.mem_of_getElem? (i := 667) (by decide +kernel)⟩
theorem lw_p54 : lw_okq (⟨"HymnPage", "headsOf", "(II)I"⟩, 10) := ⟨⟨by decide +kernel, by decide +kernel⟩, List.mem_of_getElem? (i := 20) (by decide +kernel), List.mem_of_getElem? (i := 710) (by decide +kernel), List.mem_of_getElem? (i := 711) (by decide +kernel)⟩
theorem lw_p55 : lw_okq (⟨"HymnPage", "phraseProperty", "(II)I"⟩, 10) := ⟨⟨by decide +kernel, by decide +kernel⟩, List.mem_of_getElem? (i := 20) (by decide +kernel), List.mem_of_getElem? (i := 724) (by decide +kernel), List.mem_of_getElem? (i := 725) (by decide +kernel)⟩
theorem lw_p56 : lw_okq (⟨"HymnPage$Columns", "widthOfPhrase", "(I)I"⟩, 5) := ⟨⟨by decide +kernel, by decide +kernel⟩, List.mem_of_getElem? (i := 154) (by decide +kernel), List.mem_of_getElem? (i := 729) (by decide +kernel), List.mem_of_getElem? (i := 730) (by decide +kernel)⟩
theorem lw_p57 : lw_okq (⟨"HymnPage$Columns", "systemOf", "(I)I"⟩, 5) := ⟨⟨by decide +kernel, by decide +kernel⟩, List.mem_of_getElem? (i := 154) (by decide +kernel), List.mem_of_getElem? (i := 733) (by decide +kernel), List.mem_of_getElem? (i := 734) (by decide +kernel)⟩
theorem lw_p58 : lw_okq (⟨"HymnPage", "lineProperty", "(III)I"⟩, 10) := ⟨⟨by decide +kernel, by decide +kernel⟩, List.mem_of_getElem? (i := 20) (by decide +kernel), List.mem_of_getElem? (i := 753) (by decide +kernel), List.mem_of_getElem? (i := 754) (by decide +kernel)⟩
theorem lw_p59 : lw_okq (⟨"HymnPage$Verses", "wordsOf", "(II)I"⟩, 2) := ⟨⟨by decide +kernel, by decide +kernel⟩, List.mem_of_getElem? (i := 96) (by decide +kernel), List.mem_of_getElem? (i := 757) (by decide +kernel), List.mem_of_getElem? (i := 758) (by decide +kernel)⟩
theorem lw_p60 : lw_okq (⟨"HymnPage$Verses", "isLinked", "(III)Z"⟩, 2) := ⟨⟨by decide +kernel, by decide +kernel⟩, List.mem_of_getElem? (i := 96) (by decide +kernel), List.mem_of_getElem? (i := 761) (by decide +kernel), List.mem_of_getElem? (i := 762) (by decide +kernel)⟩
theorem lw_p61 : lw_okq (⟨"HymnPage$Verses", "longestOf", "(II)I"⟩, 2) := ⟨⟨by decide +kernel, by decide +kernel⟩, List.mem_of_getElem? (i := 96) (by decide +kernel), List.mem_of_getElem? (i := 765) (by decide +kernel), List.mem_of_getElem? (i := 766) (by decide +kernel)⟩
theorem lw_p62 : lw_okq (⟨"HymnPage$Phrases", "notesOf", "(I)I"⟩, 6) := ⟨⟨by decide +kernel, by decide +kernel⟩, List.mem_of_getElem? (i := 109) (by decide +kernel), List.mem_of_getElem? (i := 773) (by decide +kernel), List.mem_of_getElem? (i := 774) (by decide +kernel)⟩
theorem lw_p63 : lw_okq (⟨"HymnPage", "belowProperty", "(IIII)I"⟩, 10) := ⟨⟨by decide +kernel, by decide +kernel⟩, List.mem_of_getElem? (i := 20) (by decide +kernel), List.mem_of_getElem? (i := 779) (by decide +kernel), List.mem_of_getElem? (i := 780) (by decide +kernel)⟩
def lw_privs_4 : List (MethodName × Nat) := [(⟨"HymnPage", "noteProperty", "(II)I"⟩, 10), (⟨"HymnPage$Phrases", "phraseOf", "(I)I"⟩, 6), (⟨"HymnPage$Bars", "numberAt", "(I)I"⟩, 2), (⟨"HymnPage$Bars", "unitsBefore", "(I)I"⟩, 2), (⟨"HymnPage$Bars", "unitsFrom", "(I)I"⟩, 2), (⟨"HymnPage", "partProperty", "(III)I"⟩, 10), (⟨"HymnPage", "headsOf", "(II)I"⟩, 10), (⟨"HymnPage", "phraseProperty", "(II)I"⟩, 10), (⟨"HymnPage$Columns", "widthOfPhrase", "(I)I"⟩, 5), (⟨"HymnPage$Columns", "systemOf", "(I)I"⟩, 5), (⟨"HymnPage", "lineProperty", "(III)I"⟩, 10), (⟨"HymnPage$Verses", "wordsOf", "(II)I"⟩, 2), (⟨"HymnPage$Verses", "isLinked", "(III)Z"⟩, 2), (⟨"HymnPage$Verses", "longestOf", "(II)I"⟩, 2), (⟨"HymnPage$Phrases", "notesOf", "(I)I"⟩, 6), (⟨"HymnPage", "belowProperty", "(IIII)I"⟩, 10)]
theorem lw_r4 : ∀ q ∈ lw_privs_4, lw_okq q := List.forall_mem_cons.mpr ⟨lw_p48, List.forall_mem_cons.mpr ⟨lw_p49, List.forall_mem_cons.mpr ⟨lw_p50, List.forall_mem_cons.mpr ⟨lw_p51, List.forall_mem_cons.mpr ⟨lw_p52, List.forall_mem_cons.mpr ⟨lw_p53, List.forall_mem_cons.mpr ⟨lw_p54, List.forall_mem_cons.mpr ⟨lw_p55, List.forall_mem_cons.mpr ⟨lw_p56, List.forall_mem_cons.mpr ⟨lw_p57, List.forall_mem_cons.mpr ⟨lw_p58, List.forall_mem_cons.mpr ⟨lw_p59, List.forall_mem_cons.mpr ⟨lw_p60, List.forall_mem_cons.mpr ⟨lw_p61, List.forall_mem_cons.mpr ⟨lw_p62, List.forall_mem_cons.mpr ⟨lw_p63, fun _ h => absurd h List.not_mem_nil⟩⟩⟩⟩⟩⟩⟩⟩⟩⟩⟩⟩⟩⟩⟩⟩
theorem lw_p64 : lw_okq (⟨"HymnPage$Verses", "signAt", "(III)I"⟩, 2) := ⟨⟨by decide +kernel, by decide +kernel⟩, List.mem_of_getElem? (i := 96) (by decide +kernel), List.mem_of_getElem? (i := 785) (by decide +kernel), List.mem_of_getElem? (i := 786) (by decide +kernel)⟩
theorem lw_p65 : lw_okq (⟨"HymnPage$Input", "push", "(I)V"⟩, 2) := ⟨⟨by decide +kernel, by decide +kernel⟩, List.mem_of_getElem? (i := 195) (by decide +kernel), List.mem_of_getElem? (i := 817) (by decide +kernel), List.mem_of_getElem? (i := 818) (by decide +kernel)⟩
theorem lw_p66 : lw_okq (⟨"HymnPage$Input", "errorAsMetre", "()I"⟩, 2) := ⟨⟨by decide +kernel, by decide +kernel⟩, List.mem_of_getElem? (i := 195) (by decide +kernel), List.mem_of_getElem? (i := 826) (by decide +kernel), List.mem_of_getElem? (i := 827) (by decide +kernel)⟩
theorem lw_p67 : lw_okq (⟨"HymnPage$Input", "codeAt", "(I)I"⟩, 2) := ⟨⟨by decide +kernel, by decide +kernel⟩, List.mem_of_getElem? (i := 195) (by decide +kernel), List.mem_of_getElem? (i := 830) (by decide +kernel), List.mem_of_getElem? (i := 831) (by decide +kernel)⟩
theorem lw_p68 : lw_okq (⟨"HymnPage$Input", "errorAsLine", "()I"⟩, 2) := ⟨⟨by decide +kernel, by decide +kernel⟩, List.mem_of_getElem? (i := 195) (by decide +kernel), List.mem_of_getElem? (i := 845) (by decide +kernel), List.mem_of_getElem? (i := 846) (by decide +kernel)⟩
theorem lw_p69 : lw_okq (⟨"HymnPage$Input", "isMetre", "()Z"⟩, 2) := ⟨⟨by decide +kernel, by decide +kernel⟩, List.mem_of_getElem? (i := 195) (by decide +kernel), List.mem_of_getElem? (i := 856) (by decide +kernel), List.mem_of_getElem? (i := 857) (by decide +kernel)⟩
theorem lw_p70 : lw_okq (⟨"HymnPage$Book", "take", "(LHymnPage$Input;)V"⟩, 3) := ⟨⟨by decide +kernel, by decide +kernel⟩, List.mem_of_getElem? (i := 178) (by decide +kernel), List.mem_of_getElem? (i := 863) (by decide +kernel), List.mem_of_getElem? (i := 864) (by decide +kernel)⟩
theorem lw_p71 : lw_okq (⟨"HymnPage$Book", "push", "(I)V"⟩, 3) := ⟨⟨by decide +kernel, by decide +kernel⟩, List.mem_of_getElem? (i := 178) (by decide +kernel), List.mem_of_getElem? (i := 870) (by decide +kernel), List.mem_of_getElem? (i := 871) (by decide +kernel)⟩
theorem lw_p72 : lw_okq (⟨"HymnPage$Book", "pushAllAgain", "()V"⟩, 3) := ⟨⟨by decide +kernel, by decide +kernel⟩, List.mem_of_getElem? (i := 178) (by decide +kernel), List.mem_of_getElem? (i := 875) (by decide +kernel), List.mem_of_getElem? (i := 876) (by decide +kernel)⟩
theorem lw_p73 : lw_okq (⟨"HymnPage$Book", "remove", "(I)V"⟩, 3) := ⟨⟨by decide +kernel, by decide +kernel⟩, List.mem_of_getElem? (i := 178) (by decide +kernel), List.mem_of_getElem? (i := 892) (by decide +kernel), List.mem_of_getElem? (i := 893) (by decide +kernel)⟩
theorem lw_p74 : lw_okq (⟨"HymnPage$Tune", "push", "(IIIII)V"⟩, 6) := ⟨⟨by decide +kernel, by decide +kernel⟩, List.mem_of_getElem? (i := 28) (by decide +kernel), List.mem_of_getElem? (i := 913) (by decide +kernel), List.mem_of_getElem? (i := 914) (by decide +kernel)⟩
theorem lw_p75 : lw_okq (⟨"HymnPage$Tune", "changePitch", "(III)V"⟩, 6) := ⟨⟨by decide +kernel, by decide +kernel⟩, List.mem_of_getElem? (i := 28) (by decide +kernel), List.mem_of_getElem? (i := 918) (by decide +kernel), List.mem_of_getElem? (i := 919) (by decide +kernel)⟩
theorem lw_p76 : lw_okq (⟨"HymnPage$Tune", "pop", "()V"⟩, 6) := ⟨⟨by decide +kernel, by decide +kernel⟩, List.mem_of_getElem? (i := 28) (by decide +kernel), List.mem_of_getElem? (i := 935) (by decide +kernel), List.mem_of_getElem? (i := 936) (by decide +kernel)⟩
theorem lw_p77 : lw_okq (⟨"HymnPage$Repeats", "touch", "(II)Z"⟩, 4) := ⟨⟨by decide +kernel, by decide +kernel⟩, List.mem_of_getElem? (i := 76) (by decide +kernel), List.mem_of_getElem? (i := 958) (by decide +kernel), List.mem_of_getElem? (i := 959) (by decide +kernel)⟩
theorem lw_p78 : lw_okq (⟨"HymnPage$Tune", "canMove", "(I)Z"⟩, 6) := ⟨⟨by decide +kernel, by decide +kernel⟩, List.mem_of_getElem? (i := 28) (by decide +kernel), List.mem_of_getElem? (i := 968) (by decide +kernel), List.mem_of_getElem? (i := 969) (by decide +kernel)⟩
theorem lw_p79 : lw_okq (⟨"HymnPage$Tune", "move", "(I)V"⟩, 6) := ⟨⟨by decide +kernel, by decide +kernel⟩, List.mem_of_getElem? (i := 28) (by decide +kernel), List.mem_of_getElem? (i := 973) (by decide +kernel), List.mem_of_getElem? (i := 974) (by decide +kernel)⟩
def lw_privs_5 : List (MethodName × Nat) := [(⟨"HymnPage$Verses", "signAt", "(III)I"⟩, 2), (⟨"HymnPage$Input", "push", "(I)V"⟩, 2), (⟨"HymnPage$Input", "errorAsMetre", "()I"⟩, 2), (⟨"HymnPage$Input", "codeAt", "(I)I"⟩, 2), (⟨"HymnPage$Input", "errorAsLine", "()I"⟩, 2), (⟨"HymnPage$Input", "isMetre", "()Z"⟩, 2), (⟨"HymnPage$Book", "take", "(LHymnPage$Input;)V"⟩, 3), (⟨"HymnPage$Book", "push", "(I)V"⟩, 3), (⟨"HymnPage$Book", "pushAllAgain", "()V"⟩, 3), (⟨"HymnPage$Book", "remove", "(I)V"⟩, 3), (⟨"HymnPage$Tune", "push", "(IIIII)V"⟩, 6), (⟨"HymnPage$Tune", "changePitch", "(III)V"⟩, 6), (⟨"HymnPage$Tune", "pop", "()V"⟩, 6), (⟨"HymnPage$Repeats", "touch", "(II)Z"⟩, 4), (⟨"HymnPage$Tune", "canMove", "(I)Z"⟩, 6), (⟨"HymnPage$Tune", "move", "(I)V"⟩, 6)]
theorem lw_r5 : ∀ q ∈ lw_privs_5, lw_okq q := List.forall_mem_cons.mpr ⟨lw_p64, List.forall_mem_cons.mpr ⟨lw_p65, List.forall_mem_cons.mpr ⟨lw_p66, List.forall_mem_cons.mpr ⟨lw_p67, List.forall_mem_cons.mpr ⟨lw_p68, List.forall_mem_cons.mpr ⟨lw_p69, List.forall_mem_cons.mpr ⟨lw_p70, List.forall_mem_cons.mpr ⟨lw_p71, List.forall_mem_cons.mpr ⟨lw_p72, List.forall_mem_cons.mpr ⟨lw_p73, List.forall_mem_cons.mpr ⟨lw_p74, List.forall_mem_cons.mpr ⟨lw_p75, List.forall_mem_cons.mpr ⟨lw_p76, List.forall_mem_cons.mpr ⟨lw_p77, List.forall_mem_cons.mpr ⟨lw_p78, List.forall_mem_cons.mpr ⟨lw_p79, fun _ h => absurd h List.not_mem_nil⟩⟩⟩⟩⟩⟩⟩⟩⟩⟩⟩⟩⟩⟩⟩⟩
theorem lw_p80 : lw_okq (⟨"HymnPage$Input", "isLine", "()Z"⟩, 2) := ⟨⟨by decide +kernel, by decide +kernel⟩, List.mem_of_getElem? (i := 195) (by decide +kernel), List.mem_of_getElem? (i := 992) (by decide +kernel), List.mem_of_getElem? (i := 993) (by decide +kernel)⟩
theorem lw_p81 : lw_okq (⟨"HymnPage$Verses", "take", "(IILHymnPage$Input;)V"⟩, 2) := ⟨⟨by decide +kernel, by decide +kernel⟩, List.mem_of_getElem? (i := 96) (by decide +kernel), List.mem_of_getElem? (i := 998) (by decide +kernel), List.mem_of_getElem? (i := 999) (by decide +kernel)⟩
theorem lw_p82 : lw_okq (⟨"HymnPage$Verses", "push", "(IIIZ)V"⟩, 2) := ⟨⟨by decide +kernel, by decide +kernel⟩, List.mem_of_getElem? (i := 96) (by decide +kernel), List.mem_of_getElem? (i := 1004) (by decide +kernel), List.mem_of_getElem? (i := 1005) (by decide +kernel)⟩
def lw_privs_6 : List (MethodName × Nat) := [(⟨"HymnPage$Input", "isLine", "()Z"⟩, 2), (⟨"HymnPage$Verses", "take", "(IILHymnPage$Input;)V"⟩, 2), (⟨"HymnPage$Verses", "push", "(IIIZ)V"⟩, 2)]
theorem lw_r6 : ∀ q ∈ lw_privs_6, lw_okq q := List.forall_mem_cons.mpr ⟨lw_p80, List.forall_mem_cons.mpr ⟨lw_p81, List.forall_mem_cons.mpr ⟨lw_p82, fun _ h => absurd h List.not_mem_nil⟩⟩⟩
def lw_privs : List (MethodName × Nat) := lw_privs_1 ++ (lw_privs_2 ++ (lw_privs_3 ++ (lw_privs_4 ++ (lw_privs_5 ++ (lw_privs_6)))))
def lw_tbl : List Cond := k2_sels lw_privs ++ tables_1
theorem lw_privs_ok : ∀ q ∈ lw_privs, lw_okq q := by
  show ∀ q ∈ lw_privs_1 ++ (lw_privs_2 ++ (lw_privs_3 ++ (lw_privs_4 ++ (lw_privs_5 ++ (lw_privs_6))))), lw_okq q
  exact List.forall_mem_append.mpr ⟨lw_r1, List.forall_mem_append.mpr ⟨lw_r2, List.forall_mem_append.mpr ⟨lw_r3, List.forall_mem_append.mpr ⟨lw_r4, List.forall_mem_append.mpr ⟨lw_r5, lw_r6⟩⟩⟩⟩⟩
/-- the streams that the claim lets the run draw from -/
abbrev lw_cs : List Choice := [Jvm.Choice.named "NaN.bits"]
theorem lw_bits : nanBits ∈ lw_cs := by first | decide | exact List.mem_cons_self | simp [lw_cs, nanBits]
end
section
/-! ===== BEGIN words of one list among another's, by their places ===== -/
theorem goodIn_r {big : List Cond} (ws : List Cond) (ps : List Nat) (hp : ws = ps.filterMap (fun i => big[i]?)) (h : ws.all goodWord = true) : GoodIn big ws := by
  intro w hw
  have h1 := List.all_eq_true.mp h w hw
  rw [hp] at hw
  obtain ⟨i, -, hi⟩ := List.mem_filterMap.mp hw
  have hm : w ∈ big := by first | exact List.mem_of_getElem? hi | exact List.getElem?_mem hi
  exact ⟨hm, good_of_word h1⟩
theorem goodIn_app {big a b : List Cond} (ha : GoodIn big a) (hb : GoodIn big b) : GoodIn big (a ++ b) := fun w h => (List.mem_append.mp h).elim (ha w) (hb w)
theorem goodIn_ca {big a b : List Cond} {c : Cond} (ha : GoodIn big (c :: a)) (hb : GoodIn big b) : GoodIn big (c :: (a ++ b)) := fun w h => (List.mem_cons.mp h).elim (fun e => ha w (List.mem_cons.mpr (Or.inl e))) (fun h => (List.mem_append.mp h).elim (fun h => ha w (List.mem_cons.mpr (Or.inr h))) (hb w))
theorem goodIn_sub {big ws : List Cond} (hm : ∀ w ∈ ws, w ∈ big) (h : ws.all goodWord = true) : GoodIn big ws := fun w hw => ⟨hm w hw, good_of_word (List.all_eq_true.mp h w hw)⟩
/-! ===== END ===== -/

/-! ===== BEGIN exceptions that leave a method, and their catching by the caller (launches without stack traces) ===== -/
section VXA
/-! The laws vx_back, vx_callV, vx_callS, vx_callSW, vx_throw0, vx_throwS follow proofs of the library, with one case more: JvmDerived/Free/Laws.lean (Back.of_free), Shelf42/LK1.lean (callV, callS), Shelf/KitTraced.lean (throwNew0V, throwNewS). -/
/-- where a method has thrown q: the class by its name, the cell, what was written, the world -/
def vx_T (XC : String → State → State → Prop) (st : State) (q : Addr) (t : State) (mc ms : Nat) (free : Addr → Prop) : Prop :=
  ∃ (E : String) (ce : Cell) (L : List Loc), XC E st t ∧ t.heap[q]? = some ce ∧ ce.vm = .none ∧ st.vm.findClass E = some ce.cls ∧ st.WarmedH t.vm ∧ st.sameButNew ({ t with vm := st.vm } : State) L mc ms ∧ ∀ z ∈ L, free z.base
def vx_Q (Qc : Array Value → State → Outcome → State → Prop) (XC : String → State → State → Prop) (mc ms : Nat) (free : Addr → Prop) : Array Value → State → Outcome → State → Prop := fun a st o t =>
  (Qc a st o t ∧ ∃ L, FrameEnd st o t L mc ms ∧ ∀ q ∈ L, free q.base) ∨ ∃ q, o = .threw q ∧ vx_T XC st q t mc ms free
/-- a callee that returns or throws -/
def vx_Met (l : Launch) (y : MethodName) (ws : List Cond) (rm : Room) (Pc : Array Value → State → Prop) (Qc : Array Value → State → Outcome → State → Prop) (XC : String → State → State → Prop) (mc ms : Nat) (free : Addr → Prop) : Prop :=
  MetFree l y (headSpec ws rm) Pc (fun _ _ _ _ _ => True) (vx_Q Qc XC mc ms free)
def vx_Post (XC : String → State → State → Prop) (mc ms : Nat) (free : Addr → Prop) : Pt → Array Value → Addr → Pt → Prop := fun A a q B =>
  ∃ (g : JFrame) (mk : MethodId) (t : State) (L : List Loc) (E : String) (ce : Cell), B.U.heap = t.heap ∧ B.U.vm = t.vm ∧ XC E (A.U.calling g mk a) t ∧ t.heap[q]? = some ce ∧ ce.vm = .none ∧ A.U.vm.findClass E = some ce.cls ∧ B.locs = A.locs ++ L ∧ (∀ z ∈ L, free z.base) ∧ B.cells = A.cells + mc ∧ B.slots = A.slots + ms
def vx_Back (l : Launch) (R : Room) (p : Program) (e : Env) (below : List Frame) (s : State) (sargs : Array Value) (y : MethodName) (len W9 : Nat)
    (Pre : Pt → Array Value → Prop) (Post : Pt → Array Value → Option Value → Pt → Prop) (PostX : Pt → Array Value → Addr → Pt → Prop) : Prop :=
  ∀ (m : MethodId) (meth : Method) (c : Code) (A : Pt) (g : JFrame) (ig : Instr) (mk : MethodId) (a : Array Value),
    Stand p l e R s m sargs below meth c A.U A.locs A.cells A.slots → g.method = m → g.locals.size = c.maxLocals → decode c.code g.pc = .ok (ig, len) →
    2 * g.monitorRoom + (g.stack.map fun v => v.category).sum ≤ W9 → A.U.methodNamed? y = some mk → Pre A a →
    (∃ (v : Option Value) (B : Pt), Stand p l e R s m sargs below meth c B.U B.locs B.cells B.slots ∧ Post A a v B ∧
      Steps p.tables e below (doInvoke e (A.U.setTop g) [] mk a).1 (B.U.setTop { g with pc := g.pc + len, stack := v.toList ++ g.stack })) ∨
    (∃ (q : Addr) (B : Pt), Stand p l e R s m sargs below meth c B.U B.locs B.cells B.slots ∧ PostX A a q B ∧
      Steps p.tables e below (doInvoke e (A.U.setTop g) [] mk a).1 ((B.U.setTop g).pushFrame (.throwing q)))
section Payer
variable {l : Launch} {R : Room} {p : Program} {e : Env} {below : List Frame} {s : State} {sargs : Array Value} {y : MethodName} {len W9 : Nat}
theorem vx_back {ws : List Cond} {rm : Room} {Pc : Array Value → State → Prop} {Qc : Array Value → State → Outcome → State → Prop} {XC : String → State → State → Prop} {mc ms : Nat} {free : Addr → Prop} {bytes : ByteArray} {maxL : Nat} {ret : Option FieldType}
    (hM : vx_Met l y ws rm Pc Qc XC mc ms free) (hblind : FrameBlind Pc) (hrc : rm.cells = mc) (hrs : rm.slots = ms)
    (hframes : rm.frames + 1 ≤ R.frames) (hlocals : W9 + (maxL + 11) + rm.locals ≤ R.locals)
    (hws : ∀ w ∈ ws, ∀ a' U, s.WarmedH U.vm → w.before a' U = true) (hcode : Cond.code y bytes maxL ret ∈ ws) (hinit : ∀ a' U, s.WarmedH U.vm → (Cond.initialized y.cls).before a' U = true) :
    vx_Back l R p e below s sargs y len W9 (PreOf R mc ms Pc) (PostOf Qc mc ms free) (vx_Post XC mc ms free) := by
  intro m meth c A g ig mk a X hg hsize hdg hW hn hp
  have h1 : (headSpec ws rm).pre.before a A.U = true := atoms_intro fun w hw => hws w hw _ _ X.warmed
  have h2 : (Cond.code y bytes maxL ret).before a A.U = true := hws _ hcode _ _ X.warmed
  have h3 : (Cond.initialized y.cls).before a A.U = true := hinit _ _ X.warmed
  have h4 : A.cells + (headSpec ws rm).room.cells ≤ R.cells := by rw [show (headSpec ws rm).room.cells = mc from hrc]; exact hp.1
  have h5 : A.slots + (headSpec ws rm).room.slots ≤ R.slots := by rw [show (headSpec ws rm).room.slots = ms from hrs]; exact hp.2.1
  have hPc : Pc a (A.U.calling g mk a) := hblind _ _ _ _ hp.2.2
  obtain ⟨U, Ls, c0, s0⟩ := A
  dsimp only [Pt.U, Pt.locs, Pt.cells, Pt.slots] at h1 h2 h3 h4 h5 X hn hPc ⊢
  obtain ⟨methY, cY, hmY, hcY, -, hlY, -, -, -, -⟩ := Cond.code_spec hn h2
  obtain ⟨kY, hkY, -⟩ := className_of_methodNamed hn
  have hinitY : kY.init = .initialized := Cond.initialized_spec (findClass_of_methodNamed hn) hkY h3
  have h : At U g.method c below := by rw [hg]; exact X.here
  have hlocals9 : W9 + (maxL + 11) + (headSpec ws rm).room.locals ≤ R.locals := hlocals
  have happ : (headSpec ws rm).appliesLoose y e.platform (U.calling g mk a) = true :=
    Spec.appliesLoose_calling (g := g) h hdg hn hkY hinitY
      (X.room_calling (g := g) (R' := (headSpec ws rm).room) hsize hmY hcY hframes (by rw [hlY]; omega) h4 h5) h1
  obtain ⟨mid, hmid⟩ := h.above
  have hfr : (U.setTop g).frames = (.java g :: mid) ++ below := by rw [State.frames_setTop' g h.top, hmid]; rfl
  obtain ⟨o, s₂, hsteps, -, hend, hq⟩ := Steps.callFree hM p X.admits X.cas X.clock (acts := []) hfr happ hPc trivial
  have hq' : vx_Q Qc XC mc ms free a (U.calling g mk a) o s₂ := hq
  rw [State.frames_setTop' g h.top] at hend
  obtain ⟨g₀, hg0⟩ := Option.isSome_iff_exists.mp h.top
  obtain ⟨r, hr⟩ := State.topJava?_eq_some.mp hg0
  have hr' : (({ U with heap := s₂.heap, slotsUsed := s₂.slotsUsed } : State).setVm s₂.vm).frames = .java g₀ :: r := hr
  rcases hq' with ⟨hqc, L, hfe, hL⟩ | ⟨q, rfl, E, ce, L, hx, hce, hcv, hcl, hW₂, hsm, hL⟩
  · obtain ⟨⟨v, rfl⟩, hW₂, e2, q2, q3, q4, q5, q6⟩ := id hfe
    have e3 : s₂ = ({ (U.calling g mk a).setFrames s₂.frames with heap := s₂.heap, slotsUsed := s₂.slotsUsed } : State).setVm s₂.vm := by
      have : s₂ = ({ s₂ with vm := (U.calling g mk a).vm } : State).setVm s₂.vm := rfl
      rw [e2] at this
      exact this
    obtain ⟨c₂, i₂, len₂, hc₂, hd₂, hf₂⟩ := hend
    have hW' : U.WarmedH s₂.vm := hW₂
    have hcc : c₂ = c := by
      have h1 : s₂.code? g.method = U.code? g.method := by
        rw [State.code?_eq, State.code?_eq, hW'.alike.method?]
      exact Option.some.inj (hc₂.symm.trans (h1.trans h.code))
    subst hcc
    have hlen : len₂ = len := by rw [hdg] at hd₂; cases hd₂; rfl
    subst hlen
    have hs₂ : s₂ = (({ U with heap := s₂.heap, slotsUsed := s₂.slotsUsed } : State).setVm s₂.vm).setTop { g with pc := g.pc + len₂, stack := v.toList ++ g.stack } := by
      refine e3.trans ?_
      rw [hf₂, State.calling_eq h.top, State.setFrames_setFrames, State.setTop_of_frames _ hr', hr]
      rfl
    have hsame : U.sameButNew ({ U with heap := s₂.heap, slotsUsed := s₂.slotsUsed } : State) L mc ms := by
      refine ⟨?_, q2, q3, q4, q5, q6⟩
      obtain ⟨t, ht, -⟩ := State.frames_cons hr
      show ({ U with heap := s₂.heap, slotsUsed := s₂.slotsUsed } : State) = { U.setFrames U.frames with heap := s₂.heap, slotsUsed := s₂.slotsUsed }
      rw [State.setFrames_self ht]
    subst hg
    refine Or.inl ⟨v, ⟨(({ U with heap := s₂.heap, slotsUsed := s₂.slotsUsed } : State).setVm s₂.vm), Ls ++ L, c0 + mc, s0 + ms⟩,
      ⟨X.admits, X.cas, X.clock, X.frames, X.room, X.hears, X.method, X.code, (X.here.setHeapUsed s₂.heap s₂.slotsUsed).setVm hW'.alike, X.tail, State.WarmedH.trans X.warmed hW', X.limits, X.bytes, X.same.trans (hsame.setVm s.vm)⟩,
      ⟨g, mk, s₂, L, rfl, rfl, hqc, rfl, hL, rfl, rfl⟩, ?_⟩
    show Steps p.tables e below _ ((({ U with heap := s₂.heap, slotsUsed := s₂.slotsUsed } : State).setVm s₂.vm).setTop { g with pc := g.pc + len₂, stack := v.toList ++ g.stack })
    rw [← hs₂]
    exact hsteps
  · obtain ⟨e2, q2, q3, q4, q5, q6⟩ := id hsm
    have e3 : s₂ = ({ (U.calling g mk a).setFrames s₂.frames with heap := s₂.heap, slotsUsed := s₂.slotsUsed } : State).setVm s₂.vm := by
      have : s₂ = ({ s₂ with vm := (U.calling g mk a).vm } : State).setVm s₂.vm := rfl
      rw [e2] at this
      exact this
    have hf₂ : s₂.frames = .throwing q :: .java g :: U.frames.tail := hend
    have hW' : U.WarmedH s₂.vm := hW₂
    have hs₂ : s₂ = ((({ U with heap := s₂.heap, slotsUsed := s₂.slotsUsed } : State).setVm s₂.vm).setTop g).pushFrame (.throwing q) := by
      refine e3.trans ?_
      rw [hf₂, State.calling_eq h.top, State.setFrames_setFrames, State.pushFrame, State.frames_setTop _ hr', State.setTop_of_frames _ hr', State.setFrames_setFrames, hr]
      rfl
    have hsame : U.sameButNew ({ U with heap := s₂.heap, slotsUsed := s₂.slotsUsed } : State) L mc ms := by
      refine ⟨?_, q2, q3, q4, q5, q6⟩
      obtain ⟨t, ht, -⟩ := State.frames_cons hr
      show ({ U with heap := s₂.heap, slotsUsed := s₂.slotsUsed } : State) = { U.setFrames U.frames with heap := s₂.heap, slotsUsed := s₂.slotsUsed }
      rw [State.setFrames_self ht]
    subst hg
    refine Or.inr ⟨q, ⟨(({ U with heap := s₂.heap, slotsUsed := s₂.slotsUsed } : State).setVm s₂.vm), Ls ++ L, c0 + mc, s0 + ms⟩,
      ⟨X.admits, X.cas, X.clock, X.frames, X.room, X.hears, X.method, X.code, (X.here.setHeapUsed s₂.heap s₂.slotsUsed).setVm hW'.alike, X.tail, State.WarmedH.trans X.warmed hW', X.limits, X.bytes, X.same.trans (hsame.setVm s.vm)⟩,
      ⟨g, mk, s₂, L, E, ce, rfl, rfl, hx, hce, hcv, hcl, rfl, hL, rfl, rfl⟩, ?_⟩
    show Steps p.tables e below _ (((({ U with heap := s₂.heap, slotsUsed := s₂.slotsUsed } : State).setVm s₂.vm).setTop g).pushFrame (.throwing q))
    rw [← hs₂]
    exact hsteps
end Payer
section Calls
variable {p : Program} {l : Launch} {e : Env} {R : Room} {s : State} {m : MethodId} {args : Array Value} {below : List Frame} {meth : Method} {c : Code} {T : State} {locs : List Loc} {cells slots : Nat}
theorem vx_callV (X : Stand p l e R s m args below meth c T locs cells slots) (hexec : p.tables.exec = Jvm.exec) {own C : String} {index : Nat} {y : MethodName} {bytes : ByteArray} {maxL : Nat} {ret : Option FieldType}
    (hown : s.vm.findClass own = some m.cls) (hlink : (Cond.methodLink own index y).before args s = true) (hinst : (Cond.instanceMethod y).before args s = true) (hsel : (Cond.selects C y y).before args s = true)
    (hcode : (Cond.code y bytes maxL ret).before args s = true) (hy : y.cls ≠ "java/lang/invoke/MethodHandle" ∧ y.cls ≠ "java/lang/invoke/VarHandle")
    {W9 : Nat} {Pre : Pt → Array Value → Prop} {Post : Pt → Array Value → Option Value → Pt → Prop} {PostX : Pt → Array Value → Addr → Pt → Prop} (hK : vx_Back l R p e below s args y 3 W9 Pre Post PostX)
    {b : Addr} {cellB : Cell} (hcell : T.heap[b]? = some cellB) (hobj : cellB.vm.isStatics = false) (hcls : s.vm.findClass C = some cellB.cls)
    {g : JFrame} (hg : g.method = m) (hsize : g.locals.size = c.maxLocals) {argsL rest : List Value} (hlen : ∀ sig, parseMethodDescriptor y.desc = some sig → argsL.length = sig.parameters.length)
    (hstack : g.stack = argsL.reverse ++ .ref b :: rest) (hW : 2 * g.monitorRoom + (rest.map fun v => v.category).sum ≤ W9) (hdg : decode c.code g.pc = .ok (.invokevirtual index, 3))
    (hpre : ∀ vm₁, s.WarmedH vm₁ → Pre ⟨T.setVm vm₁, locs, cells, slots⟩ (Value.ref b :: argsL).toArray) :
    (∃ (v : Option Value) (vm₁ : Vm) (B : Pt), s.WarmedH vm₁ ∧ Stand p l e R s m args below meth c B.U B.locs B.cells B.slots ∧ Post ⟨T.setVm vm₁, locs, cells, slots⟩ (Value.ref b :: argsL).toArray v B ∧
      ∀ target, Steps p.tables e below (B.U.setTop { g with pc := g.pc + 3, stack := v.toList ++ rest }) target → Steps p.tables e below (T.setTop g) target) ∨
    (∃ (q : Addr) (vm₁ : Vm) (B : Pt), s.WarmedH vm₁ ∧ Stand p l e R s m args below meth c B.U B.locs B.cells B.slots ∧ PostX ⟨T.setVm vm₁, locs, cells, slots⟩ (Value.ref b :: argsL).toArray q B ∧
      Steps p.tables e below (T.setTop g) ((B.U.setTop { g with stack := rest }).pushFrame (.throwing q))) := by
  obtain ⟨mk, methM, hnamed, hmethM, hstM, habM⟩ := Cond.instanceMethod_spec hinst
  obtain ⟨methM', cM, hmethM', -, -, -, -, -, -, hsigM⟩ := Cond.code_spec hnamed hcode
  cases hmethM.symm.trans hmethM'
  obtain ⟨c2, r2, m2, q1, q2, q3, q4, kP, hkP, hkPi⟩ := Cond.selects_spec hsel
  cases hcls.symm.trans q1
  cases (State.methodFound?_of_named hnamed hy).symm.trans q2
  cases hnamed.symm.trans q3
  have hselP : selectMethod e.platform s.vm cellB.cls mk = .method mk := by rw [Launch.admits_selectMethod X.admits]; exact q4
  obtain ⟨vm₁, X₁, hstep₁⟩ := X.invokevirtual hexec hown hlink hnamed hmethM hstM hkP hkPi hy (a := b) (cell := cellB) hcell
    (fun z h => by rw [h] at hobj; cases hobj) hselP hmethM habM hkP hkPi (g := g) hg (argsL := argsL) (rest := rest) (hlen _ hsigM) hstack hdg
  rcases hK m meth c ⟨T.setVm vm₁, locs, cells, slots⟩ { g with stack := rest } (.invokevirtual index) mk (Value.ref b :: argsL).toArray X₁ hg hsize hdg hW (X₁.named hnamed) (hpre vm₁ X₁.warmed) with ⟨v, B, X', hpost, hsteps⟩ | ⟨q, B, X', hpost, hsteps⟩
  · exact Or.inl ⟨v, vm₁, B, X₁.warmed, X', hpost, fun target h => hstep₁ _ fun acts => by rw [doInvoke_state]; exact hsteps.trans h⟩
  · exact Or.inr ⟨q, vm₁, B, X₁.warmed, X', hpost, hstep₁ _ fun acts => by rw [doInvoke_state]; exact hsteps⟩
theorem vx_callS (X : Stand p l e R s m args below meth c T locs cells slots) (hexec : p.tables.exec = Jvm.exec) {own : String} {index : Nat} {y : MethodName} {bytes : ByteArray} {maxL : Nat} {ret : Option FieldType}
    (hown : s.vm.findClass own = some m.cls) (hlink : (Cond.methodLink own index y).before args s = true) (hstat : (Cond.static y).before args s = true) (hinit : (Cond.initialized y.cls).before args s = true)
    (hcode : (Cond.code y bytes maxL ret).before args s = true) (hy : y.cls ≠ "java/lang/invoke/MethodHandle" ∧ y.cls ≠ "java/lang/invoke/VarHandle")
    {W9 : Nat} {Pre : Pt → Array Value → Prop} {Post : Pt → Array Value → Option Value → Pt → Prop} {PostX : Pt → Array Value → Addr → Pt → Prop} (hK : vx_Back l R p e below s args y 3 W9 Pre Post PostX)
    {g : JFrame} (hg : g.method = m) (hsize : g.locals.size = c.maxLocals) {argsL rest : List Value} (hlen : ∀ sig, parseMethodDescriptor y.desc = some sig → argsL.length = sig.parameters.length)
    (hstack : g.stack = argsL.reverse ++ rest) (hW : 2 * g.monitorRoom + (rest.map fun v => v.category).sum ≤ W9) (hdg : decode c.code g.pc = .ok (.invokestatic index, 3))
    (hpre : ∀ vm₁, s.WarmedH vm₁ → Pre ⟨T.setVm vm₁, locs, cells, slots⟩ argsL.toArray) :
    (∃ (v : Option Value) (vm₁ : Vm) (B : Pt), s.WarmedH vm₁ ∧ Stand p l e R s m args below meth c B.U B.locs B.cells B.slots ∧ Post ⟨T.setVm vm₁, locs, cells, slots⟩ argsL.toArray v B ∧
      ∀ target, Steps p.tables e below (B.U.setTop { g with pc := g.pc + 3, stack := v.toList ++ rest }) target → Steps p.tables e below (T.setTop g) target) ∨
    (∃ (q : Addr) (vm₁ : Vm) (B : Pt), s.WarmedH vm₁ ∧ Stand p l e R s m args below meth c B.U B.locs B.cells B.slots ∧ PostX ⟨T.setVm vm₁, locs, cells, slots⟩ argsL.toArray q B ∧
      Steps p.tables e below (T.setTop g) ((B.U.setTop { g with stack := rest }).pushFrame (.throwing q))) := by
  obtain ⟨mk, hnamed⟩ := Cond.code_named hcode
  obtain ⟨methM, cM, hmethM, -, -, -, -, -, -, hsigM⟩ := Cond.code_spec hnamed hcode
  have hstatic : methM.isStatic = true := Cond.static_spec hnamed hmethM hstat
  obtain ⟨kP, hkP, -⟩ := className_of_methodNamed hnamed
  have hinitP : kP.init = .initialized := Cond.initialized_spec (findClass_of_methodNamed hnamed) hkP hinit
  obtain ⟨vm₁, X₁, hstep₁⟩ := X.invokestatic hexec hown hlink hnamed hmethM hstatic hkP hinitP hy (g := g) hg (argsL := argsL) (rest := rest) (hlen _ hsigM) hstack hdg
  rcases hK m meth c ⟨T.setVm vm₁, locs, cells, slots⟩ { g with stack := rest } (.invokestatic index) mk argsL.toArray X₁ hg hsize hdg hW (X₁.named hnamed) (hpre vm₁ X₁.warmed) with ⟨v, B, X', hpost, hsteps⟩ | ⟨q, B, X', hpost, hsteps⟩
  · exact Or.inl ⟨v, vm₁, B, X₁.warmed, X', hpost, fun target h => hstep₁ _ fun acts => by rw [doInvoke_state]; exact hsteps.trans h⟩
  · exact Or.inr ⟨q, vm₁, B, X₁.warmed, X', hpost, hstep₁ _ fun acts => by rw [doInvoke_state]; exact hsteps⟩
end Calls
theorem vx_cls {s : State} {T : State} {vm₁ : Vm} {E : String} {k : ClassId} (hW : s.WarmedH vm₁) (h : (T.setVm vm₁).vm.findClass E = some k) : s.vm.findClass E = some k := by
  have h1 : vm₁.findClass E = some k := h
  rw [hW.alike.findClass] at h1
  exact h1
/-- the method's frame g, with q thrown over it -/
def vx_W (p : Program) (l : Launch) (e : Env) (R : Room) (s : State) (m : MethodId) (args : Array Value) (below : List Frame) (meth : Method) (c : Code) (H : Heap) (locs : List Loc) (cells slots : Nat) (Q : State → Prop) (g : JFrame) (q : Addr) : Prop :=
  ∀ T : State, T.heap = H → Stand p l e R s m args below meth c T locs cells slots → ∃ t, Steps p.tables e below ((T.setTop g).pushFrame (.throwing q)) t ∧ Q t
def vx_Run (p : Program) (l : Launch) (e : Env) (R : Room) (s : State) (m : MethodId) (args : Array Value) (below : List Frame) (meth : Method) (c : Code) (H : Heap) (locs : List Loc) (cells slots mc ms : Nat) (g : JFrame) (rest : List Value) (Qa : State → Outcome → State → Prop) (XC : String → State → State → Prop) (free : Addr → Prop) : Prop :=
  ∀ T : State, T.heap = H → Stand p l e R s m args below meth c T locs cells slots →
    (∃ (v : Option Value) (st₀ t T' : State) (L : List Loc), st₀.heap = H ∧ Stand p l e R s m args below meth c T' (locs ++ L) (cells + mc) (slots + ms) ∧ (∀ q ∈ L, free q.base) ∧ T'.heap = t.heap ∧ T'.vm = t.vm ∧ Qa st₀ (.returned v) t ∧
      Goes p e below T g T' { g with pc := g.pc + 3, stack := v.toList ++ rest }) ∨
    (∃ (q : Addr) (st₀ t T' : State) (L : List Loc) (E : String) (ce : Cell), st₀.heap = H ∧ Stand p l e R s m args below meth c T' (locs ++ L) (cells + mc) (slots + ms) ∧ (∀ z ∈ L, free z.base) ∧ T'.heap = t.heap ∧ T'.vm = t.vm ∧ XC E st₀ t ∧ t.heap[q]? = some ce ∧ ce.vm = .none ∧ s.vm.findClass E = some ce.cls ∧
      Steps p.tables e below (T.setTop g) ((T'.setTop { g with stack := rest }).pushFrame (.throwing q)))
def vx_X {S : Type} (px : S → Prop) (B : String → S → State → Prop) (A : Nat → Prop) : String → State → State → Prop := fun E st t => ∃ u : S, px u ∧ B E u t ∧ va_F A st t
section Runs
variable {p : Program} {l : Launch} {e : Env} {R : Room} {s : State} {m : MethodId} {args : Array Value} {below : List Frame} {meth : Method} {c : Code} {H : Heap} {locs : List Loc} {cells slots : Nat}
variable {y : MethodName} {bytes cc : ByteArray} {maxL nL mc ms n index : Nat} {ret : Option FieldType} {ws : List Cond} {rm : Room} {Pc : Array Value → State → Prop} {Qc : Array Value → State → Outcome → State → Prop} {XC : String → State → State → Prop} {free : Addr → Prop} {Ts : List Cond} {own C : String} {b : Addr} {As rest : List Value} {g : JFrame}
theorem vx_callBack (cb : CallB R s args own index y bytes maxL ret ws rm mc ms n) (hM : vx_Met l y ws rm Pc Qc XC mc ms free) (hbl : FrameBlind Pc) : vx_Back l R p e below s args y 3 8 (PreOf R mc ms Pc) (PostOf Qc mc ms free) (vx_Post XC mc ms free) := by
  obtain ⟨hrc, hrs, hfr, hlo, hws, hcw, -, hini, -⟩ := cb
  exact vx_back (bytes := bytes) (maxL := maxL) (ret := ret) hM hbl hrc hrs hfr hlo hws hcw (fun a' U hW => word_at hW (Or.inl (by first | rfl | simp [Cond.onTables, Cond.keeps, Cond.steady])) hini)
theorem vx_runV (S : CallFix p m c cc nL s args Ts own) (hM : vx_Met l y ws rm Pc Qc XC mc ms free) (cw : CallW R s args own C index y bytes maxL ret ws rm mc ms n) (hp : PreV s H C b Pc As)
    (hg : g.method = m) (hn : As.length = n) (hsize : g.locals.size = nL) (hstack : g.stack = As.reverse ++ .ref b :: rest) (hW : 2 * g.monitorRoom + (rest.map fun v => v.category).sum ≤ 8) (hdg : decode cc g.pc = .ok (.invokevirtual index, 3)) (hf : cells + mc ≤ R.cells ∧ slots + ms ≤ R.slots) :
    vx_Run p l e R s m args below meth c H locs cells slots mc ms g rest (Qc (Value.ref b :: As).toArray) XC free := by
  have hK : vx_Back l R p e below s args y 3 8 (PreOf R mc ms Pc) (PostOf Qc mc ms free) (vx_Post XC mc ms free) := vx_callBack cw.1 hM hp.1
  obtain ⟨⟨-, -, -, -, -, -, hcode, -, hy, hlen, hl⟩, hin, hse⟩ := cw
  obtain ⟨hx, hb, hml, ho, -⟩ := S
  obtain ⟨-, ⟨cellB, hcB, hoB, hclB⟩, hPc⟩ := hp
  intro T hT X
  rcases vx_callV X hx (C := C) (bytes := bytes) (maxL := maxL) (ret := ret) ho hl hin hse hcode hy hK (by rw [hT]; exact hcB) hoB hclB hg (hsize.trans hml.symm) (argsL := As) (rest := rest) (fun sig h => hn.trans (hlen sig h)) hstack hW (by rw [hb]; exact hdg)
    (fun vm₁ hW₁ => ⟨hf.1, hf.2, hPc (T.setVm vm₁) hT hW₁⟩) with ⟨v, vm₁, ⟨U', l2, c2, s2⟩, hW₁, X', ⟨g', mk, t, L, e1, e2, hq, h1, hL, h2, h3⟩, st⟩ | ⟨q, vm₁, ⟨U', l2, c2, s2⟩, hW₁, X', ⟨g', mk, t, L, E, ce, e1, e2, hq, hce, hcv, hcl, h1, hL, h2, h3⟩, st⟩
  · dsimp only [Pt.U, Pt.locs, Pt.cells, Pt.slots] at X' e1 e2 h1 h2 h3 st
    subst h1; subst h2; subst h3
    exact Or.inl ⟨v, (T.setVm vm₁).calling g' mk (Value.ref b :: As).toArray, t, U', L, hT, X', hL, e1, e2, hq, st⟩
  · dsimp only [Pt.U, Pt.locs, Pt.cells, Pt.slots] at X' e1 e2 h1 h2 h3 st hcl
    subst h1; subst h2; subst h3
    exact Or.inr ⟨q, (T.setVm vm₁).calling g' mk (Value.ref b :: As).toArray, t, U', L, E, ce, hT, X', hL, e1, e2, hq, hce, hcv, vx_cls hW₁ hcl, st⟩
theorem vx_runS (S : CallFix p m c cc nL s args Ts own) (hM : vx_Met l y ws rm Pc Qc XC mc ms free) (cw : CallB R s args own index y bytes maxL ret ws rm mc ms n ∧ (Cond.static y).before args s = true) (hp : PreS s H Pc As)
    (hg : g.method = m) (hn : As.length = n) (hsize : g.locals.size = nL) (hstack : g.stack = As.reverse ++ rest) (hW : 2 * g.monitorRoom + (rest.map fun v => v.category).sum ≤ 8) (hdg : decode cc g.pc = .ok (.invokestatic index, 3)) (hf : cells + mc ≤ R.cells ∧ slots + ms ≤ R.slots) :
    vx_Run p l e R s m args below meth c H locs cells slots mc ms g rest (Qc As.toArray) XC free := by
  have hK : vx_Back l R p e below s args y 3 8 (PreOf R mc ms Pc) (PostOf Qc mc ms free) (vx_Post XC mc ms free) := vx_callBack cw.1 hM hp.1
  obtain ⟨⟨-, -, -, -, -, -, hcode, hini, hy, hlen, hl⟩, hstt⟩ := cw
  obtain ⟨hx, hb, hml, ho, -⟩ := S
  intro T hT X
  rcases vx_callS X hx (bytes := bytes) (maxL := maxL) (ret := ret) ho hl hstt hini hcode hy hK hg (hsize.trans hml.symm) (argsL := As) (rest := rest) (fun sig h => hn.trans (hlen sig h)) hstack hW (by rw [hb]; exact hdg)
    (fun vm₁ hW₁ => ⟨hf.1, hf.2, hp.2 (T.setVm vm₁) hT hW₁⟩) with ⟨v, vm₁, ⟨U', l2, c2, s2⟩, hW₁, X', ⟨g', mk, t, L, e1, e2, hq, h1, hL, h2, h3⟩, st⟩ | ⟨q, vm₁, ⟨U', l2, c2, s2⟩, hW₁, X', ⟨g', mk, t, L, E, ce, e1, e2, hq, hce, hcv, hcl, h1, hL, h2, h3⟩, st⟩
  · dsimp only [Pt.U, Pt.locs, Pt.cells, Pt.slots] at X' e1 e2 h1 h2 h3 st
    subst h1; subst h2; subst h3
    exact Or.inl ⟨v, (T.setVm vm₁).calling g' mk As.toArray, t, U', L, hT, X', hL, e1, e2, hq, st⟩
  · dsimp only [Pt.U, Pt.locs, Pt.cells, Pt.slots] at X' e1 e2 h1 h2 h3 st hcl
    subst h1; subst h2; subst h3
    exact Or.inr ⟨q, (T.setVm vm₁).calling g' mk As.toArray, t, U', L, E, ce, hT, X', hL, e1, e2, hq, hce, hcv, vx_cls hW₁ hcl, st⟩
end Runs
section Rows
variable {p : Program} {l : Launch} {e : Env} {R : Room} {s : State} {m : MethodId} {args : Array Value} {below : List Frame} {meth : Method} {c : Code} {H : Heap} {locs : List Loc} {cells slots : Nat} {Q : State → Prop}
variable {mc ms : Nat} {free : Addr → Prop} {A0 A1 : Nat → Prop} {H0 : Heap} {a : Array Value} {pc : Nat} {ls : Array Slot} {st0 rest : List Value}
theorem vx_keep {st₀ t T' : State} {L : List Loc} (h0 : st₀.heap = H) (e1 : T'.heap = t.heap) (hS : va_S A0 H0 H locs) (hA : ∀ q, q < H.size → A1 q → A0 q) (hf : ∀ q, free q → A0 q) (hL : ∀ q ∈ L, free q.base) (hF : va_F A1 st₀ t) :
    H.size ≤ T'.heap.size ∧ (∀ q : Nat, q < H.size → ¬ A1 q → T'.heap[q]? = H[q]?) ∧ va_S A0 H0 T'.heap (locs ++ L) := by
  obtain ⟨hz, hk⟩ := hF
  rw [h0] at hz hk
  exact ⟨by rw [e1]; exact hz, fun q h1 h2 => by rw [e1]; exact hk q h1 h2,
    ⟨Nat.le_trans hS.1 (by rw [e1]; exact hz), fun q h1 h2 => by rw [e1, hk q (Nat.lt_of_lt_of_le h1 hS.1) (fun z => h2 (hA q (Nat.lt_of_lt_of_le h1 hS.1) z))]; exact hS.2.1 q h1 h2, fun q hq => by
      rcases List.mem_append.mp hq with h | h
      · exact hS.2.2 q h
      · exact hf _ (hL q h)⟩⟩
theorem vx_calli {S SX : Type} {post : Int32 → S → Prop} {px : SX → Prop} {B : S → State → Prop} {BX : String → SX → State → Prop} {AX : Nat → Prop} (hr : vx_Run p l e R s m args below meth c H locs cells slots mc ms (F0 m pc ls st0) rest (va_Qi post B A1 a) (vx_X px BX AX) free) (hS : va_S A0 H0 H locs) (hA : ∀ q, q < H.size → A1 q → A0 q) (hf : ∀ q, free q → A0 q) (hAX : ∀ q, q < H.size → AX q → A0 q)
    (kx : ∀ (E : String) (ce : Cell) (q9 : Addr) (u : SX) (t : State) (H1 : Heap) (locs1 : List Loc), t.heap = H1 → s.vm.Alike t.vm → px u → BX E u t → H.size ≤ H1.size → (∀ q : Nat, q < H.size → ¬ AX q → H1[q]? = H[q]?) → va_S A0 H0 H1 locs1 → H1[q9]? = some ce → ce.vm = .none → s.vm.findClass E = some ce.cls → vx_W p l e R s m args below meth c H1 locs1 (cells + mc) (slots + ms) Q (F0 m pc ls rest) q9)
    (kk : ∀ (r : Int32) (u : S) (t : State) (H1 : Heap) (locs1 : List Loc), t.heap = H1 → s.vm.Alike t.vm → post r u → B u t → H.size ≤ H1.size → (∀ q : Nat, q < H.size → ¬ A1 q → H1[q]? = H[q]?) → va_S A0 H0 H1 locs1 → W p l e R s m args below meth c H1 locs1 (cells + mc) (slots + ms) Q (F0 m (pc + 3) ls (.int r :: rest))) : W p l e R s m args below meth c H locs cells slots Q (F0 m pc ls st0) := by
  intro T hT X
  rcases hr T hT X with ⟨v, st₀, t, T', L, h0, X', hL, e1, e2, ⟨⟨r, u, hv, hp, hb⟩, hF⟩, st⟩ | ⟨q, st₀, t, T', L, E, ce, h0, X', hL, e1, e2, ⟨u, hp, hb, hF⟩, hce, hcv, hcl, st⟩
  · cases hv
    obtain ⟨k1, k2, k3⟩ := vx_keep h0 e1 hS hA hf hL hF
    obtain ⟨t2, a1, b1⟩ := kk r u t T'.heap (locs ++ L) e1.symm (by rw [← e2]; exact X'.warmed.alike) hp hb k1 k2 k3 T' rfl X'
    exact ⟨t2, st t2 a1, b1⟩
  · obtain ⟨k1, k2, k3⟩ := vx_keep h0 e1 hS hAX hf hL hF
    obtain ⟨t2, a1, b1⟩ := kx E ce q u t T'.heap (locs ++ L) e1.symm (by rw [← e2]; exact X'.warmed.alike) hp hb k1 k2 k3 (by rw [e1]; exact hce) hcv hcl T' rfl X'
    exact ⟨t2, st.trans a1, b1⟩
theorem vx_calll {S SX : Type} {post : Int64 → S → Prop} {px : SX → Prop} {B : S → State → Prop} {BX : String → SX → State → Prop} {AX : Nat → Prop} (hr : vx_Run p l e R s m args below meth c H locs cells slots mc ms (F0 m pc ls st0) rest (va_Ql post B A1 a) (vx_X px BX AX) free) (hS : va_S A0 H0 H locs) (hA : ∀ q, q < H.size → A1 q → A0 q) (hf : ∀ q, free q → A0 q) (hAX : ∀ q, q < H.size → AX q → A0 q)
    (kx : ∀ (E : String) (ce : Cell) (q9 : Addr) (u : SX) (t : State) (H1 : Heap) (locs1 : List Loc), t.heap = H1 → s.vm.Alike t.vm → px u → BX E u t → H.size ≤ H1.size → (∀ q : Nat, q < H.size → ¬ AX q → H1[q]? = H[q]?) → va_S A0 H0 H1 locs1 → H1[q9]? = some ce → ce.vm = .none → s.vm.findClass E = some ce.cls → vx_W p l e R s m args below meth c H1 locs1 (cells + mc) (slots + ms) Q (F0 m pc ls rest) q9)
    (kk : ∀ (r : Int64) (u : S) (t : State) (H1 : Heap) (locs1 : List Loc), t.heap = H1 → s.vm.Alike t.vm → post r u → B u t → H.size ≤ H1.size → (∀ q : Nat, q < H.size → ¬ A1 q → H1[q]? = H[q]?) → va_S A0 H0 H1 locs1 → W p l e R s m args below meth c H1 locs1 (cells + mc) (slots + ms) Q (F0 m (pc + 3) ls (.long r :: rest))) : W p l e R s m args below meth c H locs cells slots Q (F0 m pc ls st0) := by
  intro T hT X
  rcases hr T hT X with ⟨v, st₀, t, T', L, h0, X', hL, e1, e2, ⟨⟨r, u, hv, hp, hb⟩, hF⟩, st⟩ | ⟨q, st₀, t, T', L, E, ce, h0, X', hL, e1, e2, ⟨u, hp, hb, hF⟩, hce, hcv, hcl, st⟩
  · cases hv
    obtain ⟨k1, k2, k3⟩ := vx_keep h0 e1 hS hA hf hL hF
    obtain ⟨t2, a1, b1⟩ := kk r u t T'.heap (locs ++ L) e1.symm (by rw [← e2]; exact X'.warmed.alike) hp hb k1 k2 k3 T' rfl X'
    exact ⟨t2, st t2 a1, b1⟩
  · obtain ⟨k1, k2, k3⟩ := vx_keep h0 e1 hS hAX hf hL hF
    obtain ⟨t2, a1, b1⟩ := kx E ce q u t T'.heap (locs ++ L) e1.symm (by rw [← e2]; exact X'.warmed.alike) hp hb k1 k2 k3 (by rw [e1]; exact hce) hcv hcl T' rfl X'
    exact ⟨t2, st.trans a1, b1⟩
theorem vx_callf {S SX : Type} {post : UInt32 → S → Prop} {px : SX → Prop} {B : S → State → Prop} {BX : String → SX → State → Prop} {AX : Nat → Prop} (hr : vx_Run p l e R s m args below meth c H locs cells slots mc ms (F0 m pc ls st0) rest (va_Qf post B A1 a) (vx_X px BX AX) free) (hS : va_S A0 H0 H locs) (hA : ∀ q, q < H.size → A1 q → A0 q) (hf : ∀ q, free q → A0 q) (hAX : ∀ q, q < H.size → AX q → A0 q)
    (kx : ∀ (E : String) (ce : Cell) (q9 : Addr) (u : SX) (t : State) (H1 : Heap) (locs1 : List Loc), t.heap = H1 → s.vm.Alike t.vm → px u → BX E u t → H.size ≤ H1.size → (∀ q : Nat, q < H.size → ¬ AX q → H1[q]? = H[q]?) → va_S A0 H0 H1 locs1 → H1[q9]? = some ce → ce.vm = .none → s.vm.findClass E = some ce.cls → vx_W p l e R s m args below meth c H1 locs1 (cells + mc) (slots + ms) Q (F0 m pc ls rest) q9)
    (kk : ∀ (r : UInt32) (u : S) (t : State) (H1 : Heap) (locs1 : List Loc), t.heap = H1 → s.vm.Alike t.vm → post r u → B u t → H.size ≤ H1.size → (∀ q : Nat, q < H.size → ¬ A1 q → H1[q]? = H[q]?) → va_S A0 H0 H1 locs1 → W p l e R s m args below meth c H1 locs1 (cells + mc) (slots + ms) Q (F0 m (pc + 3) ls (.float r :: rest))) : W p l e R s m args below meth c H locs cells slots Q (F0 m pc ls st0) := by
  intro T hT X
  rcases hr T hT X with ⟨v, st₀, t, T', L, h0, X', hL, e1, e2, ⟨⟨r, u, hv, hp, hb⟩, hF⟩, st⟩ | ⟨q, st₀, t, T', L, E, ce, h0, X', hL, e1, e2, ⟨u, hp, hb, hF⟩, hce, hcv, hcl, st⟩
  · cases hv
    obtain ⟨k1, k2, k3⟩ := vx_keep h0 e1 hS hA hf hL hF
    obtain ⟨t2, a1, b1⟩ := kk r u t T'.heap (locs ++ L) e1.symm (by rw [← e2]; exact X'.warmed.alike) hp hb k1 k2 k3 T' rfl X'
    exact ⟨t2, st t2 a1, b1⟩
  · obtain ⟨k1, k2, k3⟩ := vx_keep h0 e1 hS hAX hf hL hF
    obtain ⟨t2, a1, b1⟩ := kx E ce q u t T'.heap (locs ++ L) e1.symm (by rw [← e2]; exact X'.warmed.alike) hp hb k1 k2 k3 (by rw [e1]; exact hce) hcv hcl T' rfl X'
    exact ⟨t2, st.trans a1, b1⟩
theorem vx_calld {S SX : Type} {post : UInt64 → S → Prop} {px : SX → Prop} {B : S → State → Prop} {BX : String → SX → State → Prop} {AX : Nat → Prop} (hr : vx_Run p l e R s m args below meth c H locs cells slots mc ms (F0 m pc ls st0) rest (va_Qd post B A1 a) (vx_X px BX AX) free) (hS : va_S A0 H0 H locs) (hA : ∀ q, q < H.size → A1 q → A0 q) (hf : ∀ q, free q → A0 q) (hAX : ∀ q, q < H.size → AX q → A0 q)
    (kx : ∀ (E : String) (ce : Cell) (q9 : Addr) (u : SX) (t : State) (H1 : Heap) (locs1 : List Loc), t.heap = H1 → s.vm.Alike t.vm → px u → BX E u t → H.size ≤ H1.size → (∀ q : Nat, q < H.size → ¬ AX q → H1[q]? = H[q]?) → va_S A0 H0 H1 locs1 → H1[q9]? = some ce → ce.vm = .none → s.vm.findClass E = some ce.cls → vx_W p l e R s m args below meth c H1 locs1 (cells + mc) (slots + ms) Q (F0 m pc ls rest) q9)
    (kk : ∀ (r : UInt64) (u : S) (t : State) (H1 : Heap) (locs1 : List Loc), t.heap = H1 → s.vm.Alike t.vm → post r u → B u t → H.size ≤ H1.size → (∀ q : Nat, q < H.size → ¬ A1 q → H1[q]? = H[q]?) → va_S A0 H0 H1 locs1 → W p l e R s m args below meth c H1 locs1 (cells + mc) (slots + ms) Q (F0 m (pc + 3) ls (.double r :: rest))) : W p l e R s m args below meth c H locs cells slots Q (F0 m pc ls st0) := by
  intro T hT X
  rcases hr T hT X with ⟨v, st₀, t, T', L, h0, X', hL, e1, e2, ⟨⟨r, u, hv, hp, hb⟩, hF⟩, st⟩ | ⟨q, st₀, t, T', L, E, ce, h0, X', hL, e1, e2, ⟨u, hp, hb, hF⟩, hce, hcv, hcl, st⟩
  · cases hv
    obtain ⟨k1, k2, k3⟩ := vx_keep h0 e1 hS hA hf hL hF
    obtain ⟨t2, a1, b1⟩ := kk r u t T'.heap (locs ++ L) e1.symm (by rw [← e2]; exact X'.warmed.alike) hp hb k1 k2 k3 T' rfl X'
    exact ⟨t2, st t2 a1, b1⟩
  · obtain ⟨k1, k2, k3⟩ := vx_keep h0 e1 hS hAX hf hL hF
    obtain ⟨t2, a1, b1⟩ := kx E ce q u t T'.heap (locs ++ L) e1.symm (by rw [← e2]; exact X'.warmed.alike) hp hb k1 k2 k3 (by rw [e1]; exact hce) hcv hcl T' rfl X'
    exact ⟨t2, st.trans a1, b1⟩
theorem vx_callv {S SX : Type} {post : S → Prop} {px : SX → Prop} {B : S → State → Prop} {BX : String → SX → State → Prop} {AX : Nat → Prop} (hr : vx_Run p l e R s m args below meth c H locs cells slots mc ms (F0 m pc ls st0) rest (va_Qv post B A1 a) (vx_X px BX AX) free) (hS : va_S A0 H0 H locs) (hA : ∀ q, q < H.size → A1 q → A0 q) (hf : ∀ q, free q → A0 q) (hAX : ∀ q, q < H.size → AX q → A0 q)
    (kx : ∀ (E : String) (ce : Cell) (q9 : Addr) (u : SX) (t : State) (H1 : Heap) (locs1 : List Loc), t.heap = H1 → s.vm.Alike t.vm → px u → BX E u t → H.size ≤ H1.size → (∀ q : Nat, q < H.size → ¬ AX q → H1[q]? = H[q]?) → va_S A0 H0 H1 locs1 → H1[q9]? = some ce → ce.vm = .none → s.vm.findClass E = some ce.cls → vx_W p l e R s m args below meth c H1 locs1 (cells + mc) (slots + ms) Q (F0 m pc ls rest) q9)
    (kk : ∀ (u : S) (t : State) (H1 : Heap) (locs1 : List Loc), t.heap = H1 → s.vm.Alike t.vm → post u → B u t → H.size ≤ H1.size → (∀ q : Nat, q < H.size → ¬ A1 q → H1[q]? = H[q]?) → va_S A0 H0 H1 locs1 → W p l e R s m args below meth c H1 locs1 (cells + mc) (slots + ms) Q (F0 m (pc + 3) ls (rest))) : W p l e R s m args below meth c H locs cells slots Q (F0 m pc ls st0) := by
  intro T hT X
  rcases hr T hT X with ⟨v, st₀, t, T', L, h0, X', hL, e1, e2, ⟨⟨u, hv, hp, hb⟩, hF⟩, st⟩ | ⟨q, st₀, t, T', L, E, ce, h0, X', hL, e1, e2, ⟨u, hp, hb, hF⟩, hce, hcv, hcl, st⟩
  · cases hv
    obtain ⟨k1, k2, k3⟩ := vx_keep h0 e1 hS hA hf hL hF
    obtain ⟨t2, a1, b1⟩ := kk u t T'.heap (locs ++ L) e1.symm (by rw [← e2]; exact X'.warmed.alike) hp hb k1 k2 k3 T' rfl X'
    exact ⟨t2, st t2 a1, b1⟩
  · obtain ⟨k1, k2, k3⟩ := vx_keep h0 e1 hS hAX hf hL hF
    obtain ⟨t2, a1, b1⟩ := kx E ce q u t T'.heap (locs ++ L) e1.symm (by rw [← e2]; exact X'.warmed.alike) hp hb k1 k2 k3 (by rw [e1]; exact hce) hcv hcl T' rfl X'
    exact ⟨t2, st.trans a1, b1⟩
/-- caught by the row x of this method's table; the rows ahead don't take it -/
theorem vx_catch {own name : String} {E : String} {ce : Cell} {q : Addr} (hown : s.vm.findClass own = some m.cls) (pre : List ExceptionTableEntry) (x : ExceptionTableEntry) (suf : List ExceptionTableEntry) (hsplit : c.exceptionTable.toList = pre ++ x :: suf)
    (hpass : ∀ z ∈ pre, covers z pc = false ∨ (z.catchType ≠ 0 ∧ ∃ nm : String, (Cond.classLink own z.catchType nm).before args s = true ∧ va_Nc E nm s)) (hx : covers x pc = true) (h0 : x.catchType ≠ 0)
    (hlink : (Cond.classLink own x.catchType name).before args s = true) (hcast : (Cond.castable E name).before args s = true) (hcell : H[q]? = some ce) (hv : ce.vm = .none) (hcl : s.vm.findClass E = some ce.cls)
    (kk : W p l e R s m args below meth c H locs cells slots Q (F0 m x.handlerPc ls [.ref q])) : vx_W p l e R s m args below meth c H locs cells slots Q (F0 m pc ls rest) q := by
  intro T hT X
  have hpl : e.platform.magicAccessors = ({} : Platform).magicAccessors := by rw [X.admits.platform]
  obtain ⟨c3, c4, hc3, hc4, hasg⟩ := Cond.castable_spec hcast
  cases Option.some.inj (hc3.symm.trans hcl)
  obtain ⟨c5, hc5, hcl5⟩ := Cond.classLink_spec hown hlink e.platform hpl
  cases Option.some.inj (hc4.symm.trans hc5)
  obtain ⟨vm', X', st⟩ := X.thenCaughtThrough q (g := F0 m pc ls rest) rfl (Steps.refl _) (by rw [hT]; exact hcell) (by rw [hv]; rfl) (by obtain ⟨k9, h9, -⟩ := Vm.findClass_spec hcl; exact ⟨k9, h9⟩) pre x suf hsplit
    (fun z hz => by
      rcases hpass z hz with h | ⟨hz0, nm, hl1, hn1⟩
      · exact Or.inl h
      · obtain ⟨c6, hc6, hcl6⟩ := Cond.classLink_spec hown hl1 e.platform hpl
        obtain ⟨a8, b8, h1, h2, h3⟩ := hn1
        cases Option.some.inj (h1.symm.trans hcl)
        cases Option.some.inj (h2.symm.trans hc6)
        exact Or.inr ⟨hz0, _, hcl6, h3⟩) hx (Or.inr ⟨h0, c4, hcl5, hasg⟩)
  obtain ⟨t, a1, b1⟩ := kk (T.setVm vm') hT X'
  exact ⟨t, st.trans a1, b1⟩
end Rows
section Ends
variable {p : Program} {l : Launch} {e : Env} {R : Room} {s : State} {m : MethodId} {args : Array Value} {below : List Frame} {meth : Method} {c : Code} {H : Heap} {locs : List Loc} {cells slots : Nat} {Q : State → Prop}
variable {mc ms : Nat} {free : Addr → Prop} {A0 A1 : Nat → Prop} {H0 : Heap} {a : Array Value} {ls : Array Slot} {st0 rest : List Value}
variable {Qc : Array Value → State → Outcome → State → Prop} {XC : String → State → State → Prop}
/-- what a body that may throw owes at its end -/
def vx_MQ (below : List Frame) (Qc : Array Value → State → Outcome → State → Prop) (XC : String → State → State → Prop) (a : Array Value) (s : State) (mc ms : Nat) (free : Addr → Prop) : State → Prop := fun t =>
  ∃ o, t.status = .running ∧ Ended t below o ∧ vx_Q Qc XC mc ms free a s o t
theorem vx_ret {g : JFrame} {mc ms : Nat} (k : W p l e R s m args below meth c H locs cells slots (MQ below Qc args s mc ms free) g) : W p l e R s m args below meth c H locs cells slots (vx_MQ below Qc XC args s mc ms free) g := by
  intro T hT X
  obtain ⟨t, a1, o, b1, b2, b3, b4⟩ := k T hT X
  exact ⟨t, a1, o, b1, b2, Or.inl ⟨b3, b4⟩⟩
/-- not caught here: it goes on to the caller -/
theorem vx_widen {g : JFrame} {q : Addr} {k n : Nat} (h1 : cells ≤ k) (h2 : slots ≤ n) (kk : vx_W p l e R s m args below meth c H locs k n Q g q) : vx_W p l e R s m args below meth c H locs cells slots Q g q := fun T hT X => kk T hT (stand_widen X h1 h2)
theorem vx_out {pc : Nat} {E : String} {ce : Cell} {q : Addr} {mc ms : Nat} (hout : ∀ x ∈ c.exceptionTable.toList, covers x pc = false) (hlocks : meth.locks = false) (hcell : H[q]? = some ce) (hv : ce.vm = .none) (hcl : s.vm.findClass E = some ce.cls)
    (hx : ∀ t : State, t.heap = H → s.vm.Alike t.vm → XC E s t) (hf : ∀ z ∈ locs, free z.base) (hc : cells ≤ mc) (hs : slots ≤ ms) :
    vx_W p l e R s m args below meth c H locs cells slots (vx_MQ below Qc XC args s mc ms free) (F0 m pc ls rest) q := by
  intro T hT X
  obtain ⟨st1, hrun, hend, hW, hsm⟩ := X.leaveThrown q (g := F0 m pc ls rest) rfl rfl rfl hout hlocks
  have hcell9 : (T.setFrames (.throwing q :: below)).heap[q]? = some ce := by
    show T.heap[q]? = some ce
    rw [hT]; exact hcell
  exact ⟨_, st1, .threw q, hrun, hend, Or.inr ⟨q, rfl, E, ce, locs, hx _ hT hW.alike, hcell9, hv, hcl, hW, hsm.mono hc hs, hf⟩⟩
theorem vx_frame {U : State} {k n : Nat} (h : s.sameButNew ({ U with vm := s.vm } : State) locs k n) : s.heap.size ≤ U.heap.size ∧ ∀ q : Nat, q < s.heap.size → (∀ z ∈ locs, z.base ≠ q) → U.heap[q]? = s.heap[q]? := by
  obtain ⟨-, h2, -, -, -, h6⟩ := h
  refine ⟨h2, fun q hq hz => ?_⟩
  obtain ⟨c9, e1, e2, e3, e4⟩ := h6 q _ (Array.getElem?_eq_getElem hq)
  have hs : c9.slots = (s.heap[q]).slots := Array.ext_getElem? fun i => e4 i fun hm => hz _ hm rfl
  have h9 : c9 = s.heap[q] := by
    rw [hs] at e2
    exact e2
  have e5 : U.heap[q]? = some c9 := e1
  rw [e5, h9, Array.getElem?_eq_getElem hq]
/-- the words of a throw but the four that speak of the heap -/
def vx_no (w : Cond) : Bool := decide (w ≠ .isRef (.static Bundle.tN "UNASSIGNED_STACK" Bundle.steD)) && decide (w ≠ .isRef (.static Bundle.tN "SUPPRESSED_SENTINEL" Bundle.listD)) && decide (w ≠ .laysStatic Bundle.tN "UNASSIGNED_STACK" Bundle.steD) && decide (w ≠ .laysStatic Bundle.tN "SUPPRESSED_SENTINEL" Bundle.listD)
def vx_at0 (own : String) (ic : Nat) (X : String) (names : List String) : List Cond := (Bundle.ownAtoms0 own ic X names).filter vx_no
def vx_atS (own : String) (ic : Nat) (X : String) (names : List String) : List Cond := (Bundle.ownAtoms own ic X names).filter vx_no
/-- a word that the tables alone decide, or a good one -/
def vx_ot (w : Cond) : Bool := w.onTables || goodWord w
theorem vx_ot_at {args a' : Array Value} {s U : State} {w : Cond} (hW : s.WarmedH U.vm) (hvm : s.vm = U.vm) (hg : vx_ot w = true) (h : w.before args s = true) : w.before a' U = true := by
  simp only [vx_ot, Bool.or_eq_true] at hg
  rcases hg with hg | hg
  · exact va_tabs hg hvm h
  · exact word_at hW (good_of_word hg) h
/-- a list's words: the good ones out of the method's own list, the others by premises of their own -/
theorem vx_hat {args : Array Value} {s : State} {L B : List Cond} (h1 : ∀ w ∈ L.filter goodWord, w.before args s = true) (h2 : ∀ w ∈ L.filter (fun w => !goodWord w), w ∈ B) (h3 : ∀ w ∈ B, w.before args s = true) : ∀ w ∈ L, w.before args s = true := by
  intro w hw
  by_cases g : goodWord w = true
  · exact h1 w (List.mem_filter.mpr ⟨hw, g⟩)
  · refine h3 w (h2 w (List.mem_filter.mpr ⟨hw, ?_⟩))
    show (!goodWord w) = true
    cases hgw : goodWord w
    · rfl
    · exact absurd hgw g
theorem vx_c {args : Array Value} {s : State} {w : Cond} {B : List Cond} (h : w.before args s = true) (t : ∀ w ∈ B, w.before args s = true) : ∀ w' ∈ w :: B, w'.before args s = true := fun w' h' => (List.mem_cons.mp h').elim (fun e => by rw [e]; exact h) (t w')
theorem vx_n {args : Array Value} {s : State} : ∀ w ∈ ([] : List Cond), w.before args s = true := fun _ h => nomatch h
theorem vx_own {args : Array Value} {s : State} {L : List Cond} (h1 : ∀ w ∈ L.filter vx_no, w.before args s = true)
    (hU : (Cond.isRef (.static Bundle.tN "UNASSIGNED_STACK" Bundle.steD)).before args s = true) (hN : (Cond.isRef (.static Bundle.tN "SUPPRESSED_SENTINEL" Bundle.listD)).before args s = true)
    (lU : (Cond.laysStatic Bundle.tN "UNASSIGNED_STACK" Bundle.steD).before args s = true) (lN : (Cond.laysStatic Bundle.tN "SUPPRESSED_SENTINEL" Bundle.listD).before args s = true) : ∀ w ∈ L, w.before args s = true := by
  intro w hw
  by_cases e1 : w = .isRef (.static Bundle.tN "UNASSIGNED_STACK" Bundle.steD)
  · rw [e1]; exact hU
  · by_cases e2 : w = .isRef (.static Bundle.tN "SUPPRESSED_SENTINEL" Bundle.listD)
    · rw [e2]; exact hN
    · by_cases e3 : w = .laysStatic Bundle.tN "UNASSIGNED_STACK" Bundle.steD
      · rw [e3]; exact lU
      · by_cases e4 : w = .laysStatic Bundle.tN "SUPPRESSED_SENTINEL" Bundle.listD
        · rw [e4]; exact lN
        · exact h1 w (List.mem_filter.mpr ⟨hw, by unfold vx_no; rw [decide_eq_true e1, decide_eq_true e2, decide_eq_true e3, decide_eq_true e4]; rfl⟩)
/-- where a static field lies, its class's statics cell in H -/
def vx_L (C n d : String) (A : Nat → Prop) (U : State) (H : Heap) : Prop := ∃ (c : ClassId) (k : Class) (i : Nat) (f : Field) (a : Nat) (cell : Cell), U.vm.findClass C = some c ∧ U.fieldFound? C n d = some (c, k, i, f) ∧ f.isStatic = true ∧ k.statics = some a ∧ H[a]? = some cell ∧ cell.vm.isStatics = true ∧ cell.cls = c ∧ f.slot < cell.slots.size ∧ k.staticTypes[f.slot]? = some f.type ∧ ¬ A a
theorem vx_L.moved {C n d : String} {A : Nat → Prop} {u U : State} {H : Heap} (hvm : u.vm.Alike U.vm) (h : vx_L C n d A u H) : vx_L C n d A U H := by
  obtain ⟨c, k, i, f, a, cell, h1, h2, h3, h4, h5, h6, h7, h8, h9, h10⟩ := h
  obtain ⟨k', hi', he⟩ := State.fieldFound?_setVm hvm h2
  exact ⟨c, k', i, f, a, cell, by rw [hvm.findClass]; exact h1, hi', h3, by rw [he]; exact h4, h5, h6, h7, h8, by rw [he]; exact h9, h10⟩
theorem vx_L.kept {C n d : String} {A : Nat → Prop} {U : State} {H H1 : Heap} (h : vx_L C n d A U H) (hq : ∀ a : Nat, a < H.size → ¬ A a → H1[a]? = H[a]?) : vx_L C n d A U H1 := by
  obtain ⟨c, k, i, f, a, cell, h1, h2, h3, h4, h5, h6, h7, h8, h9, h10⟩ := h
  exact ⟨c, k, i, f, a, cell, h1, h2, h3, h4, by rw [hq a (Array.getElem?_eq_some_iff.mp h5).1 h10]; exact h5, h6, h7, h8, h9, h10⟩
theorem vx_L.narrow {C n d : String} {A B : Nat → Prop} {U : State} {H : Heap} (h : vx_L C n d A U H) (hAB : ∀ q, B q → A q) : vx_L C n d B U H := by
  obtain ⟨c, k, i, f, a, cell, h1, h2, h3, h4, h5, h6, h7, h8, h9, h10⟩ := h
  exact ⟨c, k, i, f, a, cell, h1, h2, h3, h4, h5, h6, h7, h8, h9, fun z => h10 (hAB _ z)⟩
theorem vx_L.word {C n d : String} {A : Nat → Prop} {s : State} {args : Array Value} (h : vx_L C n d A s s.heap) : (Cond.laysStatic C n d).before args s = true := by
  obtain ⟨c, k, i, f, a, cell, h1, h2, h3, h4, h5, h6, h7, h8, h9, -⟩ := h
  show (Cond.laysStatic C n d).holds args s none s [] = true
  exact Cond.laysStatic_of h1 h2 h3 h4 h5 h6 h7 h8 h9
/-- .. and what it holds: null or some reference -/
def vx_Zq (C n d : String) (A : Nat → Prop) (U : State) (H : Heap) : Prop := va_Zq C n d A U H ∧ vx_L C n d A U H
theorem vx_Zq.moved {C n d : String} {A : Nat → Prop} {u U : State} {H : Heap} (hvm : u.vm.Alike U.vm) (h : vx_Zq C n d A u H) : vx_Zq C n d A U H := ⟨va_Zq.moved hvm h.1, vx_L.moved hvm h.2⟩
theorem vx_Zq.kept {C n d : String} {A : Nat → Prop} {U : State} {H H1 : Heap} (h : vx_Zq C n d A U H) (hq : ∀ a : Nat, a < H.size → ¬ A a → H1[a]? = H[a]?) : vx_Zq C n d A U H1 := ⟨va_Zq.kept h.1 hq, vx_L.kept h.2 hq⟩
theorem vx_Zq.narrow {C n d : String} {A B : Nat → Prop} {U : State} {H : Heap} (h : vx_Zq C n d A U H) (hAB : ∀ q, B q → A q) : vx_Zq C n d B U H := ⟨va_Zq.narrow h.1 hAB, vx_L.narrow h.2 hAB⟩
theorem vx_Zqof {args : Array Value} {s : State} {C n d : String} {A : Nat → Prop} (hl : (Cond.laysStatic C n d).before args s = true) (hini : (Cond.initialized C).before args s = true) (h : (Cond.isRef (.static C n d)).before args s = true) (hA : ∀ a : Nat, a < s.heap.size → ¬ A a) : vx_Zq C n d A s s.heap := by
  refine ⟨va_Zqof hl hini h hA, ?_⟩
  obtain ⟨c, k, i, f, a, cell, h1, h2, h3, h4, h5, h6, h7, h8, h9⟩ := Cond.laysStatic_spec hl
  exact ⟨c, k, i, f, a, cell, h1, h2, h3, h4, h5, h6, h7, h8, h9, hA a (Array.getElem?_eq_some_iff.mp h5).1⟩
theorem vx_isRef {C n d : String} {v : Value} {A : Nat → Prop} {s : State} {args : Array Value} (h : va_Z C n d v A s s.heap) (hv : v.isRef = true) : (Cond.isRef (.static C n d)).before args s = true := by
  obtain ⟨cf, kf, fi, f, a, cell, h1, h2, h3, h4, h5, h6, h7, -⟩ := h
  have he : (Term.static C n d).eval args s none [] s = some v := by
    simp [Term.eval, State.fieldNamed?, h1, h2, h4, h5, h6, h7]
  simp only [Cond.before, Cond.holds, Cond.value, he]
  cases v <;> simp_all [Value.isRef]
theorem vx_isRefq {C n d : String} {A : Nat → Prop} {s : State} {args : Array Value} (h : va_Zq C n d A s s.heap) : (Cond.isRef (.static C n d)).before args s = true := by
  rcases h with h | ⟨t, h⟩
  · exact vx_isRef h rfl
  · exact vx_isRef h rfl
/-- the same frame, seen from here: as if the method were called anew in this heap -/
theorem vx_rebase {T : State} (X : Stand p l e R s m args below meth c T locs cells slots) {R' : Room} (hf : R'.frames ≤ R.frames) (hl : R'.locals ≤ R.locals) (hc : cells + R'.cells ≤ R.cells) (hs : slots + R'.slots ≤ R.slots) :
    Stand p l e R' ((T.setVm s.vm).setFrames (.invoking m args :: below)) m args below meth c T [] 0 0 := by
  have htop : (T.setVm s.vm).topJava?.isSome := X.here.top
  have hF : ((T.setVm s.vm).setFrames (.invoking m args :: below)).frames = .invoking m args :: below := State.frames_setFrames _ (State.cur_lt_of_top htop)
  obtain ⟨g₀, hg0⟩ := Option.isSome_iff_exists.mp htop
  obtain ⟨r, hr⟩ := State.topJava?_eq_some.mp hg0
  have hl9 : e.platform.stackLimits (T.setVm s.vm).me = e.platform.stackLimits s.me := X.limits
  have hb9 : (T.setVm s.vm).me.stackBytes = s.me.stackBytes := X.bytes
  refine ⟨X.admits, X.cas, X.clock, hF, ?_, X.hears, X.method, X.code, X.here, X.tail, X.warmed, ?_, ?_, ?_⟩
  · have h := X.room
    have hU : ((T.setVm s.vm).setFrames (.invoking m args :: below)).localsInUse = s.localsInUse := by
      rw [State.localsInUse_invoking hF (meth := meth) (c := c) X.method X.code, State.localsInUse_invoking X.frames X.method X.code]
    simp only [State.hasRoom, Bool.and_eq_true, decide_eq_true_eq] at h ⊢
    obtain ⟨⟨⟨⟨h1, h2, h3, h4, h5, h6⟩, h7⟩, h8⟩, h9⟩ := h
    rw [X.frames, List.length_cons] at h2 h3
    have q1 := X.heapSize
    have q2 := X.used
    simp only [hF, hU, List.length_cons, State.stackLimits_setFrames, State.stackBytes_setFrames, hl9, hb9]
    refine ⟨⟨⟨⟨by omega, by omega, by omega, by omega, by omega, h6⟩, ?_⟩, ?_⟩, X.book⟩
    · show T.heap.size + R'.cells ≤ e.platform.maxCells
      omega
    · show T.slotsUsed + R'.slots ≤ e.platform.maxSlots
      omega
  · rw [State.stackLimits_setFrames]; rfl
  · rw [State.stackBytes_setFrames]; rfl
  · refine ⟨?_, Nat.le_refl _, Nat.le_refl _, ?_, ?_, fun a c9 h9 => ⟨c9, h9, rfl, rfl, fun _ _ => rfl⟩⟩
    · obtain ⟨t, ht, -⟩ := State.frames_cons hr
      show T.setVm s.vm = { ((T.setVm s.vm).setFrames (.invoking m args :: below)).setFrames (T.setVm s.vm).frames with heap := T.heap, slotsUsed := T.slotsUsed }
      rw [State.setFrames_setFrames, State.setFrames_self ht]
      rfl
    · show T.slotsUsed = T.slotsUsed + ((T.heap.toList.drop T.heap.size).map (·.slots.size)).sum
      rw [List.drop_eq_nil_of_le (Nat.le_of_eq Array.length_toList)]
      rfl
    · show ((T.heap.toList.drop T.heap.size).map (·.slots.size)).sum ≤ 0
      rw [List.drop_eq_nil_of_le (Nat.le_of_eq Array.length_toList)]
      exact Nat.le_refl _
/-- 'throw new E()': new; dup; invokespecial; athrow -/
theorem vx_throw0 {cc : ByteArray} {pc : Nat} (hexec : p.tables.exec = Jvm.exec) (hb : c.code = cc) (hl : l.stackTraces = false) {own cls : String} {names : List String} {ik ic mc ms : Nat} {A : Nat → Prop}
    (hown : s.vm.findClass own = some m.cls) (hcls : Bundle.fit cls = true) (hnames : ∀ n ∈ names, Bundle.fit n = true)
    (hk : (Cond.classLink own ik cls).before args s = true) (hini : (Cond.initialized cls).before args s = true) (hat : ∀ w ∈ vx_at0 own ic cls names, w.before args s = true)
    (hgood : ∀ w ∈ Cond.classLink own ik cls :: Cond.initialized cls :: vx_at0 own ic cls names, vx_ot w = true)
    (hU : vx_Zq Bundle.tN "UNASSIGNED_STACK" Bundle.steD A s s.heap) (hN : vx_Zq Bundle.tN "SUPPRESSED_SENTINEL" Bundle.listD A s s.heap) (hS : va_S A s.heap H locs) (hsize : ls.size = c.maxLocals)
    (d0 : decode cc pc = .ok (.new ik, 3)) (d3 : decode cc (pc + 3) = .ok (.dup, 1)) (d4 : decode cc (pc + 4) = .ok (.invokespecial ic, 3)) (d7 : decode cc (pc + 7) = .ok (.athrow, 1))
    (hout : ∀ x ∈ c.exceptionTable.toList, covers x (pc + 7) = false)
    (hRframes : names.length + 3 < R.frames) (hRlocals : (rest.map fun v => v.category).sum + (13 * (names.length + 1) + 42) ≤ R.locals) (hRcells : cells + 1 ≤ R.cells) (hRslots : slots + 6 ≤ R.slots) (hlocks : meth.locks = false)
    (hx : ∀ t : State, s.vm.Alike t.vm → H.size ≤ t.heap.size → (∀ q : Nat, q < H.size → t.heap[q]? = H[q]?) → XC cls s t)
    (hf : ∀ z ∈ locs, free z.base) (hc : cells + 1 ≤ mc) (hs : slots + 6 ≤ ms) :
    W p l e R s m args below meth c H locs cells slots (vx_MQ below Qc XC args s mc ms free) (F0 m pc ls rest) := by
  intro T hT X
  have htr : e.platform.stackTraces = false := (show e.platform.stackTraces = l.stackTraces by rw [X.admits.platform]).trans hl
  have Y := vx_rebase X (R' := { frames := R.frames, locals := R.locals, cells := 1, slots := 6 }) (Nat.le_refl _) (Nat.le_refl _) hRcells hRslots
  obtain ⟨s', hA⟩ : ∃ z, z = (T.setVm s.vm).setFrames (.invoking m args :: below) := ⟨_, rfl⟩
  rw [← hA] at Y
  have hvm : s'.vm = s.vm := by rw [hA]; rfl
  have hhp : s'.heap = H := by rw [hA]; exact hT
  have hW0 : s.WarmedH s'.vm := by rw [hvm]; exact State.WarmedH.refl s
  have hat' : ∀ w ∈ vx_at0 own ic cls names, w.before args s' = true := fun w hw => vx_ot_at hW0 hvm.symm (hgood w (List.mem_cons_of_mem _ (List.mem_cons_of_mem _ hw))) (hat w hw)
  have hk' : (Cond.classLink own ik cls).before args s' = true := vx_ot_at hW0 hvm.symm (hgood _ List.mem_cons_self) hk
  have hini' : (Cond.initialized cls).before args s' = true := vx_ot_at hW0 hvm.symm (hgood _ (List.mem_cons_of_mem _ List.mem_cons_self)) hini
  have hU' : vx_Zq Bundle.tN "UNASSIGNED_STACK" Bundle.steD A s' s'.heap := by rw [hhp]; exact vx_Zq.moved hW0.alike (hU.kept hS.2.1)
  have hN' : vx_Zq Bundle.tN "SUPPRESSED_SENTINEL" Bundle.listD A s' s'.heap := by rw [hhp]; exact vx_Zq.moved hW0.alike (hN.kept hS.2.1)
  have h : ∀ w ∈ Bundle.ownAtoms0 own ic cls names, w.before args s' = true := vx_own hat' (vx_isRefq hU'.1) (vx_isRefq hN'.1) hU'.2.word hN'.2.word
  have hown' : s'.vm.findClass own = some m.cls := by rw [hvm]; exact hown
  have hins : (Cond.instantiable cls 6).before args s' = true := h _ (by simp [Bundle.ownAtoms0])
  obtain ⟨vm₁, cX, kX, hfX, hkX, -, -, X₁, st1⟩ := Y.newCold hexec (own := own) (C := cls) (index := ik) (n := 6) hown' hk' hins hini'
    (g := F0 m pc ls rest) rfl (by rw [hb]; exact d0) (Nat.le_refl _) (Nat.le_refl _)
  generalize hT1 : (T.setVm vm₁).pushCell { cls := cX, slots := kX.instanceTypes.map defaultValue, vm := .none } = T1 at X₁ st1
  have hcat : (Value.ref T.heap.size).category = 1 := rfl
  have hcellA : T1.heap[T.heap.size]? = some (freshCell cX kX) := by rw [← hT1]; exact State.heap_pushCell_size _ _
  have d3' : decode c.code (pc + 3) = .ok (.dup, 1) := by rw [hb]; exact d3
  obtain ⟨U, hsteps, hrun, hend, hW, hsame, ce, hce, hO⟩ := X₁.ctorThrow0 hexec htr (own := own) (cls := cls) (names := names) (ic := ic) hown' hcls hnames h (fun x hx => nomatch hx) hfX hkX hcellA (by rw [hhp, hT]; exact Nat.le_refl _)
    (g := { method := m, pc := pc + 4, locals := ls, stack := .ref T.heap.size :: .ref T.heap.size :: rest, locked := none }) rfl hsize rfl rfl (rest := rest) rfl
    (by rw [hb]; exact d4) (by rw [hb]; exact d7) hout hRframes (by simp only [List.map_cons, List.sum_cons, hcat]; omega) hlocks
  obtain ⟨f1, f2⟩ := vx_frame hsame
  rw [hhp] at f1 f2
  have hWs : s.WarmedH U.vm := State.WarmedH.trans hW0 hW
  have hcl : s.vm.findClass cls = some ce.cls := by
    have h9 := hO.cls
    rw [hvm] at h9
    exact h9
  have hall : s.sameButNew ({ U with vm := s.vm } : State) locs mc ms := by
    subst hA
    obtain ⟨e1, e2⟩ := hsame
    rw [State.setFrames_setFrames] at e1
    have h2 : (T.setVm s.vm).sameButNew ({ U with vm := s.vm } : State) [] (0 + 1) (0 + 6) := ⟨e1, e2⟩
    have h3 := X.same.trans h2
    rw [List.append_nil] at h3
    exact h3.mono hc hs
  refine ⟨U, ?_, .threw T.heap.size, hrun, hend, Or.inr ⟨T.heap.size, rfl, cls, ce, locs, hx U hWs.alike f1 (fun q hq => f2 q hq (fun z hz => nomatch hz)), hce, hO.vm, hcl, hWs, hall, hf⟩⟩
  refine st1 _ ?_
  show Steps p.tables e below (T1.setTop { method := m, pc := pc + 3, locals := ls, stack := .ref T.heap.size :: rest, locked := none }) _
  jvm_step X₁.here [X₁.here.top, hexec, d3', Value.category]
  exact hsteps
/-- 'throw new E("text")': new; dup; ldc; invokespecial; athrow -/
theorem vx_throwS {cc : ByteArray} {pc : Nat} (hexec : p.tables.exec = Jvm.exec) (hb : c.code = cc) (hl : l.stackTraces = false) {own cls text : String} {names : List String} {ik is ic mc ms sa : Nat} {A : Nat → Prop}
    (hown : s.vm.findClass own = some m.cls) (hcls : Bundle.fit cls = true) (hnames : ∀ n ∈ names, Bundle.fit n = true)
    (hk : (Cond.classLink own ik cls).before args s = true) (hini : (Cond.initialized cls).before args s = true) (hstr : vk_R own is text sa s) (hat : ∀ w ∈ vx_atS own ic cls names, w.before args s = true)
    (hgood : ∀ w ∈ Cond.classLink own ik cls :: Cond.initialized cls :: vx_atS own ic cls names, vx_ot w = true)
    (hU : vx_Zq Bundle.tN "UNASSIGNED_STACK" Bundle.steD A s s.heap) (hN : vx_Zq Bundle.tN "SUPPRESSED_SENTINEL" Bundle.listD A s s.heap) (hS : va_S A s.heap H locs) (hsize : ls.size = c.maxLocals)
    (d0 : decode cc pc = .ok (.new ik, 3)) (d3 : decode cc (pc + 3) = .ok (.dup, 1)) (d4 : decode cc (pc + 4) = .ok (.ldc is, 2)) (d6 : decode cc (pc + 6) = .ok (.invokespecial ic, 3)) (d9 : decode cc (pc + 9) = .ok (.athrow, 1))
    (hout : ∀ x ∈ c.exceptionTable.toList, covers x (pc + 9) = false)
    (hRframes : names.length + 3 < R.frames) (hRlocals : (rest.map fun v => v.category).sum + (13 * (names.length + 1) + 43) ≤ R.locals) (hRcells : cells + 1 ≤ R.cells) (hRslots : slots + 6 ≤ R.slots) (hlocks : meth.locks = false)
    (hx : ∀ t : State, s.vm.Alike t.vm → H.size ≤ t.heap.size → (∀ q : Nat, q < H.size → t.heap[q]? = H[q]?) → XC cls s t)
    (hf : ∀ z ∈ locs, free z.base) (hc : cells + 1 ≤ mc) (hs : slots + 6 ≤ ms) :
    W p l e R s m args below meth c H locs cells slots (vx_MQ below Qc XC args s mc ms free) (F0 m pc ls rest) := by
  intro T hT X
  have htr : e.platform.stackTraces = false := (show e.platform.stackTraces = l.stackTraces by rw [X.admits.platform]).trans hl
  have Y := vx_rebase X (R' := { frames := R.frames, locals := R.locals, cells := 1, slots := 6 }) (Nat.le_refl _) (Nat.le_refl _) hRcells hRslots
  obtain ⟨s', hA⟩ : ∃ z, z = (T.setVm s.vm).setFrames (.invoking m args :: below) := ⟨_, rfl⟩
  rw [← hA] at Y
  have hvm : s'.vm = s.vm := by rw [hA]; rfl
  have hhp : s'.heap = H := by rw [hA]; exact hT
  have hW0 : s.WarmedH s'.vm := by rw [hvm]; exact State.WarmedH.refl s
  have hat' : ∀ w ∈ vx_atS own ic cls names, w.before args s' = true := fun w hw => vx_ot_at hW0 hvm.symm (hgood w (List.mem_cons_of_mem _ (List.mem_cons_of_mem _ hw))) (hat w hw)
  have hk' : (Cond.classLink own ik cls).before args s' = true := vx_ot_at hW0 hvm.symm (hgood _ List.mem_cons_self) hk
  have hini' : (Cond.initialized cls).before args s' = true := vx_ot_at hW0 hvm.symm (hgood _ (List.mem_cons_of_mem _ List.mem_cons_self)) hini
  have hU' : vx_Zq Bundle.tN "UNASSIGNED_STACK" Bundle.steD A s' s'.heap := by rw [hhp]; exact vx_Zq.moved hW0.alike (hU.kept hS.2.1)
  have hN' : vx_Zq Bundle.tN "SUPPRESSED_SENTINEL" Bundle.listD A s' s'.heap := by rw [hhp]; exact vx_Zq.moved hW0.alike (hN.kept hS.2.1)
  have h : ∀ w ∈ Bundle.ownAtoms own ic cls names, w.before args s' = true := vx_own hat' (vx_isRefq hU'.1) (vx_isRefq hN'.1) hU'.2.word hN'.2.word
  have hown' : s'.vm.findClass own = some m.cls := by rw [hvm]; exact hown
  have hins : (Cond.instantiable cls 6).before args s' = true := h _ (by simp [Bundle.ownAtoms])
  obtain ⟨vm₁, cX, kX, hfX, hkX, -, -, X₁, st1⟩ := Y.newCold hexec (own := own) (C := cls) (index := ik) (n := 6) hown' hk' hins hini'
    (g := F0 m pc ls rest) rfl (by rw [hb]; exact d0) (Nat.le_refl _) (Nat.le_refl _)
  generalize hT1 : (T.setVm vm₁).pushCell { cls := cX, slots := kX.instanceTypes.map defaultValue, vm := .none } = T1 at X₁ st1
  have hcat : (Value.ref T.heap.size).category = 1 := rfl
  have hcellA : T1.heap[T.heap.size]? = some (freshCell cX kX) := by rw [← hT1]; exact State.heap_pushCell_size _ _
  have d3' : decode c.code (pc + 3) = .ok (.dup, 1) := by rw [hb]; exact d3
  have d4' : decode c.code (pc + 4) = .ok (.ldc is, 2) := by rw [hb]; exact d4
  have hstr' : vk_R own is text sa s' := vk_R.warm hW0 hstr
  obtain ⟨U, hsteps, hrun, hend, hW, hsame, ce, hce, hO⟩ := X₁.ctorThrowS hexec htr (own := own) (cls := cls) (names := names) (ic := ic) hown' hcls hnames h (fun x hx => nomatch hx) hfX hkX hcellA (by rw [hhp, hT]; exact Nat.le_refl _) (msg := .ref sa) rfl
    (g := { method := m, pc := pc + 6, locals := ls, stack := .ref sa :: .ref T.heap.size :: .ref T.heap.size :: rest, locked := none }) rfl hsize rfl rfl (rest := rest) rfl
    (by rw [hb]; exact d6) (by rw [hb]; exact d9) hout hRframes (by simp only [List.map_cons, List.sum_cons, hcat]; omega) hlocks
  obtain ⟨f1, f2⟩ := vx_frame hsame
  rw [hhp] at f1 f2
  have hWs : s.WarmedH U.vm := State.WarmedH.trans hW0 hW
  have hcl : s.vm.findClass cls = some ce.cls := by
    have h9 := hO.cls
    rw [hvm] at h9
    exact h9
  have hall : s.sameButNew ({ U with vm := s.vm } : State) locs mc ms := by
    subst hA
    obtain ⟨e1, e2⟩ := hsame
    rw [State.setFrames_setFrames] at e1
    have h2 : (T.setVm s.vm).sameButNew ({ U with vm := s.vm } : State) [] (0 + 1) (0 + 6) := ⟨e1, e2⟩
    have h3 := X.same.trans h2
    rw [List.append_nil] at h3
    exact h3.mono hc hs
  refine ⟨U, ?_, .threw T.heap.size, hrun, hend, Or.inr ⟨T.heap.size, rfl, cls, ce, locs, hx U hWs.alike f1 (fun q hq => f2 q hq (fun z hz => nomatch hz)), hce, hO.vm, hcl, hWs, hall, hf⟩⟩
  refine st1 _ ?_
  show Steps p.tables e below (T1.setTop { method := m, pc := pc + 3, locals := ls, stack := .ref T.heap.size :: rest, locked := none }) _
  jvm_step X₁.here [X₁.here.top, hexec, d3', Value.category]
  exact X₁.ldcString hexec (own := own) (text := text) (index := is) (a := sa) hown' hstr'.1 hstr'.2
    (g := { method := m, pc := pc + 4, locals := ls, stack := .ref T.heap.size :: .ref T.heap.size :: rest, locked := none }) rfl d4' _ hsteps
/-- 'throw new E("text")', the text by a wide index -/
theorem vx_throwSW {cc : ByteArray} {pc : Nat} (hexec : p.tables.exec = Jvm.exec) (hb : c.code = cc) (hl : l.stackTraces = false) {own cls text : String} {names : List String} {ik is ic mc ms sa : Nat} {A : Nat → Prop}
    (hown : s.vm.findClass own = some m.cls) (hcls : Bundle.fit cls = true) (hnames : ∀ n ∈ names, Bundle.fit n = true)
    (hk : (Cond.classLink own ik cls).before args s = true) (hini : (Cond.initialized cls).before args s = true) (hstr : vk_R own is text sa s) (hat : ∀ w ∈ vx_atS own ic cls names, w.before args s = true)
    (hgood : ∀ w ∈ Cond.classLink own ik cls :: Cond.initialized cls :: vx_atS own ic cls names, vx_ot w = true)
    (hU : vx_Zq Bundle.tN "UNASSIGNED_STACK" Bundle.steD A s s.heap) (hN : vx_Zq Bundle.tN "SUPPRESSED_SENTINEL" Bundle.listD A s s.heap) (hS : va_S A s.heap H locs) (hsize : ls.size = c.maxLocals)
    (d0 : decode cc pc = .ok (.new ik, 3)) (d3 : decode cc (pc + 3) = .ok (.dup, 1)) (d4 : decode cc (pc + 4) = .ok (.ldc_w is, 3)) (d7 : decode cc (pc + 7) = .ok (.invokespecial ic, 3)) (d10 : decode cc (pc + 10) = .ok (.athrow, 1))
    (hout : ∀ x ∈ c.exceptionTable.toList, covers x (pc + 10) = false)
    (hRframes : names.length + 3 < R.frames) (hRlocals : (rest.map fun v => v.category).sum + (13 * (names.length + 1) + 43) ≤ R.locals) (hRcells : cells + 1 ≤ R.cells) (hRslots : slots + 6 ≤ R.slots) (hlocks : meth.locks = false)
    (hx : ∀ t : State, s.vm.Alike t.vm → H.size ≤ t.heap.size → (∀ q : Nat, q < H.size → t.heap[q]? = H[q]?) → XC cls s t)
    (hf : ∀ z ∈ locs, free z.base) (hc : cells + 1 ≤ mc) (hs : slots + 6 ≤ ms) :
    W p l e R s m args below meth c H locs cells slots (vx_MQ below Qc XC args s mc ms free) (F0 m pc ls rest) := by
  intro T hT X
  have htr : e.platform.stackTraces = false := (show e.platform.stackTraces = l.stackTraces by rw [X.admits.platform]).trans hl
  have Y := vx_rebase X (R' := { frames := R.frames, locals := R.locals, cells := 1, slots := 6 }) (Nat.le_refl _) (Nat.le_refl _) hRcells hRslots
  obtain ⟨s', hA⟩ : ∃ z, z = (T.setVm s.vm).setFrames (.invoking m args :: below) := ⟨_, rfl⟩
  rw [← hA] at Y
  have hvm : s'.vm = s.vm := by rw [hA]; rfl
  have hhp : s'.heap = H := by rw [hA]; exact hT
  have hW0 : s.WarmedH s'.vm := by rw [hvm]; exact State.WarmedH.refl s
  have hat' : ∀ w ∈ vx_atS own ic cls names, w.before args s' = true := fun w hw => vx_ot_at hW0 hvm.symm (hgood w (List.mem_cons_of_mem _ (List.mem_cons_of_mem _ hw))) (hat w hw)
  have hk' : (Cond.classLink own ik cls).before args s' = true := vx_ot_at hW0 hvm.symm (hgood _ List.mem_cons_self) hk
  have hini' : (Cond.initialized cls).before args s' = true := vx_ot_at hW0 hvm.symm (hgood _ (List.mem_cons_of_mem _ List.mem_cons_self)) hini
  have hU' : vx_Zq Bundle.tN "UNASSIGNED_STACK" Bundle.steD A s' s'.heap := by rw [hhp]; exact vx_Zq.moved hW0.alike (hU.kept hS.2.1)
  have hN' : vx_Zq Bundle.tN "SUPPRESSED_SENTINEL" Bundle.listD A s' s'.heap := by rw [hhp]; exact vx_Zq.moved hW0.alike (hN.kept hS.2.1)
  have h : ∀ w ∈ Bundle.ownAtoms own ic cls names, w.before args s' = true := vx_own hat' (vx_isRefq hU'.1) (vx_isRefq hN'.1) hU'.2.word hN'.2.word
  have hown' : s'.vm.findClass own = some m.cls := by rw [hvm]; exact hown
  have hins : (Cond.instantiable cls 6).before args s' = true := h _ (by simp [Bundle.ownAtoms])
  obtain ⟨vm₁, cX, kX, hfX, hkX, -, -, X₁, st1⟩ := Y.newCold hexec (own := own) (C := cls) (index := ik) (n := 6) hown' hk' hins hini'
    (g := F0 m pc ls rest) rfl (by rw [hb]; exact d0) (Nat.le_refl _) (Nat.le_refl _)
  generalize hT1 : (T.setVm vm₁).pushCell { cls := cX, slots := kX.instanceTypes.map defaultValue, vm := .none } = T1 at X₁ st1
  have hcat : (Value.ref T.heap.size).category = 1 := rfl
  have hcellA : T1.heap[T.heap.size]? = some (freshCell cX kX) := by rw [← hT1]; exact State.heap_pushCell_size _ _
  have d3' : decode c.code (pc + 3) = .ok (.dup, 1) := by rw [hb]; exact d3
  have d4' : decode c.code (pc + 4) = .ok (.ldc_w is, 3) := by rw [hb]; exact d4
  have hstr' : vk_R own is text sa s' := vk_R.warm hW0 hstr
  obtain ⟨U, hsteps, hrun, hend, hW, hsame, ce, hce, hO⟩ := X₁.ctorThrowS hexec htr (own := own) (cls := cls) (names := names) (ic := ic) hown' hcls hnames h (fun x hx => nomatch hx) hfX hkX hcellA (by rw [hhp, hT]; exact Nat.le_refl _) (msg := .ref sa) rfl
    (g := { method := m, pc := pc + 7, locals := ls, stack := .ref sa :: .ref T.heap.size :: .ref T.heap.size :: rest, locked := none }) rfl hsize rfl rfl (rest := rest) rfl
    (by rw [hb]; exact d7) (by rw [hb]; exact d10) hout hRframes (by simp only [List.map_cons, List.sum_cons, hcat]; omega) hlocks
  obtain ⟨f1, f2⟩ := vx_frame hsame
  rw [hhp] at f1 f2
  have hWs : s.WarmedH U.vm := State.WarmedH.trans hW0 hW
  have hcl : s.vm.findClass cls = some ce.cls := by
    have h9 := hO.cls
    rw [hvm] at h9
    exact h9
  have hall : s.sameButNew ({ U with vm := s.vm } : State) locs mc ms := by
    subst hA
    obtain ⟨e1, e2⟩ := hsame
    rw [State.setFrames_setFrames] at e1
    have h2 : (T.setVm s.vm).sameButNew ({ U with vm := s.vm } : State) [] (0 + 1) (0 + 6) := ⟨e1, e2⟩
    have h3 := X.same.trans h2
    rw [List.append_nil] at h3
    exact h3.mono hc hs
  refine ⟨U, ?_, .threw T.heap.size, hrun, hend, Or.inr ⟨T.heap.size, rfl, cls, ce, locs, hx U hWs.alike f1 (fun q hq => f2 q hq (fun z hz => nomatch hz)), hce, hO.vm, hcl, hWs, hall, hf⟩⟩
  refine st1 _ ?_
  show Steps p.tables e below (T1.setTop { method := m, pc := pc + 3, locals := ls, stack := .ref T.heap.size :: rest, locked := none }) _
  jvm_step X₁.here [X₁.here.top, hexec, d3', Value.category]
  exact X₁.ldcStringW hexec (own := own) (text := text) (index := is) (a := sa) hown' hstr'.1 hstr'.2
    (g := { method := m, pc := pc + 4, locals := ls, stack := .ref T.heap.size :: .ref T.heap.size :: rest, locked := none }) rfl d4' _ hsteps
end Ends
section Bodies
variable {l : Launch}
theorem vx_ofW {y : MethodName} {ws ws' : List Cond} {rm : Room} {Pc : Array Value → State → Prop} {Qc : Array Value → State → Outcome → State → Prop} {XC : String → State → State → Prop} {mc ms : Nat} {free : Addr → Prop} {cc : ByteArray} {maxL : Nat} {ret : Option FieldType}
    (hy : plainName y.cls = true) (hw : ws = Cond.code y cc maxL ret :: ws')
    (body : ∀ p e s m args below meth c s₁, BodyLoose p l y (headSpec ws rm) cc maxL ret e s m args below meth c s₁ → c.maxLocals = maxL → (∀ x ∈ c.exceptionTable.toList, False) → Pc args s →
      W p l e (headSpec ws rm).room s m args below meth c s.heap [] 0 0 (vx_MQ below Qc XC args s mc ms free) (entryFrame m args maxL)) : vx_Met l y ws rm Pc Qc XC mc ms free := by
  refine MetFree.of_bodyS (code := cc) (maxLocals := maxL) (ret := ret) hy ?_ ?_
  · intro args s m h hn
    obtain ⟨meth, c, h1, h2, h3, h4, h5, h6, -, -⟩ := Cond.code_spec hn (atoms_spec (ws := ws) h _ (by rw [hw]; exact List.mem_cons_self))
    exact ⟨meth, c, h1, h2, h3, h4, h5, h6⟩
  · intro p e s m args below meth c s₁ B hml hP _
    have hh0 : s₁.heap = s.heap := by rw [B.state]; rfl
    have ht : ∀ x ∈ c.exceptionTable.toList, False := by
      obtain ⟨meth9, c9, h1, h2, -, -, -, -, h7, -⟩ := Cond.code_spec B.named (atoms_spec (ws := ws) B.pre _ (by rw [hw]; exact List.mem_cons_self))
      cases Option.some.inj (h1.symm.trans B.method)
      cases Option.some.inj (h2.symm.trans (Stand.of_body B).code)
      intro x hx
      rw [Array.isEmpty_iff.mp h7] at hx
      cases hx
    obtain ⟨t, a1, o, b1, b2, b3⟩ := body p e s m args below meth c s₁ B hml ht hP s₁ hh0 (Stand.of_body B)
    exact ⟨t, o, a1, b1, b2, b3⟩
/-- the table of a body with handlers -/
theorem vx_table {p : Program} {x y : MethodName} {S : Spec} {cc bytes : ByteArray} {maxL maxL' : Nat} {ret ret' : Option FieldType} {e : Env} {s s₁ : State} {m : MethodId} {args : Array Value} {below : List Frame} {meth : Method} {c : Code} {hh : List (Nat × Nat × Nat × Nat)}
    (B : BodyLoose p l y S cc maxL ret e s m args below meth c s₁) (h : (Cond.codeWith y bytes maxL' ret' hh).before args s = true) : c.exceptionTable.toList = tableOf hh := by
  obtain ⟨m9, meth9, c9, hn9, h1, h2, -, -, h6, -⟩ := Cond.codeWith_spec h
  cases Option.some.inj (hn9.symm.trans B.named)
  cases Option.some.inj (h1.symm.trans B.method)
  cases Option.some.inj (h2.symm.trans (Stand.of_body B).code)
  rw [← h6, table_eq]
end Bodies
end VXA
/-! ===== END ===== -/
/-! ===== BEGIN a static call of a method with an exception table ===== -/
section VXS
variable {p : Program} {l : Launch} {e : Env} {R : Room} {s : State} {m : MethodId} {args : Array Value} {below : List Frame} {meth : Method} {c : Code} {T : State} {H : Heap} {locs : List Loc} {cells slots : Nat}
abbrev vx_CSW (R : Room) (s : State) (args : Array Value) (own : String) (index : Nat) (y : MethodName) (bytes : ByteArray) (maxL : Nat) (ret : Option FieldType) (hh : List (Nat × Nat × Nat × Nat)) (ws : List Cond) (rm : Room) (mc ms n : Nat) : Prop :=
  (rm.cells = mc ∧ rm.slots = ms ∧ rm.frames + 1 ≤ R.frames ∧ 8 + (maxL + 11) + rm.locals ≤ R.locals ∧ (∀ w ∈ ws, ∀ (a' : Array Value) (U : State), s.WarmedH U.vm → w.before a' U = true) ∧ Cond.codeWith y bytes maxL ret hh ∈ ws) ∧
  (Cond.codeWith y bytes maxL ret hh).before args s = true ∧ (Cond.initialized y.cls).before args s = true ∧ (y.cls ≠ "java/lang/invoke/MethodHandle" ∧ y.cls ≠ "java/lang/invoke/VarHandle") ∧
  (∀ sig, parseMethodDescriptor y.desc = some sig → n = sig.parameters.length) ∧ (Cond.methodLink own index y).before args s = true ∧ (Cond.static y).before args s = true
theorem vx_cwSW {own : String} {index maxL mc ms : Nat} {y : MethodName} {bytes : ByteArray} {ret : Option FieldType} {hh : List (Nat × Nat × Nat × Nat)} {Ts ws ws' : List Cond} {rm : Room} (n : Nat) (ht : ∀ w ∈ Ts, w.before args s = true) (hT : GoodIn Ts (va_wsS own index y ws)) (hw : ws = Cond.codeWith y bytes maxL ret hh :: ws') (hrc : rm.cells = mc) (hrs : rm.slots = ms)
    (hd : y.cls ≠ "java/lang/invoke/MethodHandle" ∧ y.cls ≠ "java/lang/invoke/VarHandle" ∧ (parseMethodDescriptor y.desc).map (fun d => d.parameters.length) = some n) (hR : rm.frames + 1 ≤ R.frames ∧ 8 + (maxL + 11) + rm.locals ≤ R.locals) :
    vx_CSW R s args own index y bytes maxL ret hh ws rm mc ms n := by
  have ok : ∀ w ∈ va_wsS own index y ws, w.before args s = true := fun w h => ht w (hT w h).1
  have hG : GoodIn Ts ws := fun w h => hT w (by unfold va_wsS; exact List.mem_append_right _ h)
  have hc : Cond.codeWith y bytes maxL ret hh ∈ ws := by rw [hw]; exact List.mem_cons_self
  refine ⟨⟨hrc, hrs, hR.1, hR.2, pay_in ht hG, hc⟩, ht _ (hG _ hc).1, ok _ (by simp [va_wsS]), ⟨hd.1, hd.2.1⟩, fun sig h => ?_, ok _ (by simp [va_wsS]), ok _ (by simp [va_wsS])⟩
  have h2 := hd.2.2
  rw [h] at h2
  exact (Option.some.inj h2).symm
theorem vx_callSW (X : Stand p l e R s m args below meth c T locs cells slots) (hexec : p.tables.exec = Jvm.exec) {own : String} {index : Nat} {y : MethodName} {bytes : ByteArray} {maxL : Nat} {ret : Option FieldType} {hh : List (Nat × Nat × Nat × Nat)}
    (hown : s.vm.findClass own = some m.cls) (hlink : (Cond.methodLink own index y).before args s = true) (hstat : (Cond.static y).before args s = true) (hinit : (Cond.initialized y.cls).before args s = true)
    (hcode : (Cond.codeWith y bytes maxL ret hh).before args s = true) (hy : y.cls ≠ "java/lang/invoke/MethodHandle" ∧ y.cls ≠ "java/lang/invoke/VarHandle")
    {W9 : Nat} {Pre : Pt → Array Value → Prop} {Post : Pt → Array Value → Option Value → Pt → Prop} (hK : Back l R p e below s args y 3 W9 Pre Post)
    {g : JFrame} (hg : g.method = m) (hsize : g.locals.size = c.maxLocals) {argsL rest : List Value} (hlen : ∀ sig, parseMethodDescriptor y.desc = some sig → argsL.length = sig.parameters.length)
    (hstack : g.stack = argsL.reverse ++ rest) (hW : 2 * g.monitorRoom + (rest.map fun v => v.category).sum ≤ W9) (hdg : decode c.code g.pc = .ok (.invokestatic index, 3))
    (hpre : ∀ vm₁, s.WarmedH vm₁ → Pre ⟨T.setVm vm₁, locs, cells, slots⟩ argsL.toArray) :
    ∃ (v : Option Value) (vm₁ : Vm) (B : Pt), s.WarmedH vm₁ ∧ Stand p l e R s m args below meth c B.U B.locs B.cells B.slots ∧ Post ⟨T.setVm vm₁, locs, cells, slots⟩ argsL.toArray v B ∧
      ∀ target, Steps p.tables e below (B.U.setTop { g with pc := g.pc + 3, stack := v.toList ++ rest }) target → Steps p.tables e below (T.setTop g) target := by
  obtain ⟨mk, methM, cM, hnamed, hmethM, -, -, -, -, -, -, hsigM⟩ := Cond.codeWith_spec hcode
  have hstatic : methM.isStatic = true := Cond.static_spec hnamed hmethM hstat
  obtain ⟨kP, hkP, -⟩ := className_of_methodNamed hnamed
  have hinitP : kP.init = .initialized := Cond.initialized_spec (findClass_of_methodNamed hnamed) hkP hinit
  obtain ⟨vm₁, X₁, hstep₁⟩ := X.invokestatic hexec hown hlink hnamed hmethM hstatic hkP hinitP hy (g := g) hg (argsL := argsL) (rest := rest) (hlen _ hsigM) hstack hdg
  obtain ⟨v, B, X', hpost, hsteps⟩ := hK m meth c ⟨T.setVm vm₁, locs, cells, slots⟩ { g with stack := rest } (.invokestatic index) mk argsL.toArray X₁ hg hsize hdg hW (X₁.named hnamed) (hpre vm₁ X₁.warmed)
  exact ⟨v, vm₁, B, X₁.warmed, X', hpost, fun target h => hstep₁ _ fun acts => by rw [doInvoke_state]; exact hsteps.trans h⟩
theorem vx_runSW {y : MethodName} {bytes cc : ByteArray} {maxL nL mc ms n index : Nat} {ret : Option FieldType} {hh : List (Nat × Nat × Nat × Nat)} {ws : List Cond} {rm : Room} {Pc : Array Value → State → Prop} {Qc : Array Value → State → Outcome → State → Prop} {free : Addr → Prop} {Ts : List Cond} {own : String} {As rest : List Value} {g : JFrame}
    (S : CallFix p m c cc nL s args Ts own) (hM : Met l y ws rm Pc Qc mc ms free) (cw : vx_CSW R s args own index y bytes maxL ret hh ws rm mc ms n) (hp : PreS s H Pc As)
    (hg : g.method = m) (hn : As.length = n) (hsize : g.locals.size = nL) (hstack : g.stack = As.reverse ++ rest) (hW : 2 * g.monitorRoom + (rest.map fun v => v.category).sum ≤ 8) (hdg : decode cc g.pc = .ok (.invokestatic index, 3)) (hf : cells + mc ≤ R.cells ∧ slots + ms ≤ R.slots) :
    va_Run p l e R s m args below meth c H locs cells slots mc ms g rest (Qc As.toArray) (free) := by
  obtain ⟨⟨hrc, hrs, hfr, hlo, hws, hcw⟩, hcode, hini, hy, hlen, hl, hstt⟩ := cw
  have hK : Back l R p e below s args y 3 8 (PreOf R mc ms Pc) (PostOf Qc mc ms free) := va_backW (hh := hh) (bytes := bytes) (maxL := maxL) (ret := ret) hM hp.1 hrc hrs hfr hlo hws hcw (fun a' U hW => word_at hW (Or.inl (by first | rfl | simp [Cond.onTables, Cond.keeps, Cond.steady])) hini)
  obtain ⟨hx, hb, hml, ho, -⟩ := S
  intro T hT X
  obtain ⟨v, vm₁, ⟨U', l2, c2, s2⟩, hW₁, X', ⟨g', mk, t, L, e1, e2, hq, h1, hL, h2, h3⟩, st⟩ := vx_callSW X hx (hh := hh) (bytes := bytes) (maxL := maxL) (ret := ret) ho hl hstt hini hcode hy hK hg (hsize.trans hml.symm) (argsL := As) (rest := rest) (fun sig h => hn.trans (hlen sig h)) hstack hW (by rw [hb]; exact hdg)
    (fun vm₁ hW₁ => ⟨hf.1, hf.2, hp.2 (T.setVm vm₁) hT hW₁⟩)
  dsimp only [Pt.U, Pt.locs, Pt.cells, Pt.slots] at X' e1 e2 h1 h2 h3 st
  subst h1; subst h2; subst h3
  exact ⟨v, (T.setVm vm₁).calling g' mk As.toArray, t, U', L, hT, X', hL, e1, e2, hq, st⟩
/-- not caught here, past rows that name other classes: it goes on to the caller -/
theorem vx_outP {p : Program} {l : Launch} {e : Env} {R : Room} {s : State} {m : MethodId} {args : Array Value} {below : List Frame} {meth : Method} {c : Code} {H : Heap} {locs : List Loc} {cells slots : Nat} {free : Addr → Prop} {ls : Array Slot} {rest : List Value} {Qc : Array Value → State → Outcome → State → Prop} {XC : String → State → State → Prop}
    {pc : Nat} {own E : String} {ce : Cell} {q : Addr} {mc ms : Nat} (hown : s.vm.findClass own = some m.cls) (hlocks : meth.locks = false)
    (hpass : ∀ z ∈ c.exceptionTable.toList, covers z pc = false ∨ (z.catchType ≠ 0 ∧ ∃ nm : String, (Cond.classLink own z.catchType nm).before args s = true ∧ va_Nc E nm s)) (hcell : H[q]? = some ce) (hv : ce.vm = .none) (hcl : s.vm.findClass E = some ce.cls)
    (hx : ∀ t : State, t.heap = H → s.vm.Alike t.vm → XC E s t) (hf : ∀ z ∈ locs, free z.base) (hc : cells ≤ mc) (hs : slots ≤ ms) :
    vx_W p l e R s m args below meth c H locs cells slots (vx_MQ below Qc XC args s mc ms free) (F0 m pc ls rest) q := by
  intro T hT X
  have hpl : e.platform.magicAccessors = ({} : Platform).magicAccessors := by rw [X.admits.platform]
  obtain ⟨vm', hW', X', st⟩ := X.outThrough hlocks q (g := F0 m pc ls rest) rfl rfl rfl (cell := ce) (by rw [hT]; exact hcell) (by rw [hv]; rfl)
    (by obtain ⟨k9, h9, -⟩ := Vm.findClass_spec hcl; exact ⟨k9, h9⟩) (fun z hz => by
      rcases hpass z hz with h | ⟨hz0, nm, hl1, hn1⟩
      · exact Or.inl h
      · obtain ⟨c6, hc6, hcl6⟩ := Cond.classLink_spec hown hl1 e.platform hpl
        obtain ⟨a8, b8, h1, h2, h3⟩ := hn1
        cases Option.some.inj (h1.symm.trans hcl)
        cases Option.some.inj (h2.symm.trans hc6)
        exact Or.inr ⟨hz0, _, hcl6, h3⟩)
  obtain ⟨g₀, hfr⟩ := X'.frames_eq
  have hcell9 : ((T.setVm vm').setFrames (.throwing q :: below)).heap[q]? = some ce := by
    show T.heap[q]? = some ce
    rw [hT]; exact hcell
  have hend : Ended ((T.setVm vm').setFrames (.throwing q :: below)) below (.threw q) := State.frames_setFrames _ (State.cur_lt_of_frames hfr)
  refine ⟨(T.setVm vm').setFrames (.throwing q :: below), ?_, .threw q, X'.here.running, hend, Or.inr ⟨q, rfl, E, ce, locs, hx _ hT (X'.ends _).1.alike, hcell9, hv, hcl, (X'.ends _).1, (X'.ends _).2.mono hc hs, hf⟩⟩
  rw [X.pushThrowing_eq]
  exact st
/-- a thing of a world lies in the heap -/
theorem vx_lt {D : va_G} {cl : List vw_C} {ws : va_W} {H1 : Heap} (h : va_P D cl ws H1) {k : Nat} {q : Nat × va_E} (hk : ws[k]? = some q) : q.1 < H1.size := (h k q hk).lt
end VXS
/-! ===== END ===== -/
/-! ===== BEGIN methods with a table of their own: called by a name, returning or throwing ===== -/
section VXH
/-! vx_backW, vx_callVX, vx_callSX, vx_callVW, vx_runVW, vx_runVX, vx_runSX, vx_ofWH follow the same proofs as their sisters above (Free/Laws.lean, Shelf42/LK1.lean); vx_outP calls Shelf42/NT130.lean (outThrough). -/
section
variable {l : Launch} {R : Room} {p : Program} {e : Env} {below : List Frame} {s : State} {sargs : Array Value} {y : MethodName} {len W9 : Nat}
theorem vx_backW {ws : List Cond} {rm : Room} {Pc : Array Value → State → Prop} {Qc : Array Value → State → Outcome → State → Prop} {XC : String → State → State → Prop} {mc ms : Nat} {free : Addr → Prop} {bytes : ByteArray} {maxL : Nat} {ret : Option FieldType} {hh : List (Nat × Nat × Nat × Nat)}
    (hM : vx_Met l y ws rm Pc Qc XC mc ms free) (hblind : FrameBlind Pc) (hrc : rm.cells = mc) (hrs : rm.slots = ms)
    (hframes : rm.frames + 1 ≤ R.frames) (hlocals : W9 + (maxL + 11) + rm.locals ≤ R.locals)
    (hws : ∀ w ∈ ws, ∀ a' U, s.WarmedH U.vm → w.before a' U = true) (hcode : Cond.codeWith y bytes maxL ret hh ∈ ws) (hinit : ∀ a' U, s.WarmedH U.vm → (Cond.initialized y.cls).before a' U = true) :
    vx_Back l R p e below s sargs y len W9 (PreOf R mc ms Pc) (PostOf Qc mc ms free) (vx_Post XC mc ms free) := by
  intro m meth c A g ig mk a X hg hsize hdg hW hn hp
  have h1 : (headSpec ws rm).pre.before a A.U = true := atoms_intro fun w hw => hws w hw _ _ X.warmed
  have h2 : (Cond.codeWith y bytes maxL ret hh).before a A.U = true := hws _ hcode _ _ X.warmed
  have h3 : (Cond.initialized y.cls).before a A.U = true := hinit _ _ X.warmed
  have h4 : A.cells + (headSpec ws rm).room.cells ≤ R.cells := by rw [show (headSpec ws rm).room.cells = mc from hrc]; exact hp.1
  have h5 : A.slots + (headSpec ws rm).room.slots ≤ R.slots := by rw [show (headSpec ws rm).room.slots = ms from hrs]; exact hp.2.1
  have hPc : Pc a (A.U.calling g mk a) := hblind _ _ _ _ hp.2.2
  obtain ⟨U, Ls, c0, s0⟩ := A
  dsimp only [Pt.U, Pt.locs, Pt.cells, Pt.slots] at h1 h2 h3 h4 h5 X hn hPc ⊢
  obtain ⟨m9, methY, cY, hn9, hmY, hcY, -, hlY, -⟩ := Cond.codeWith_spec h2
  cases Option.some.inj (hn9.symm.trans hn)
  obtain ⟨kY, hkY, -⟩ := className_of_methodNamed hn
  have hinitY : kY.init = .initialized := Cond.initialized_spec (findClass_of_methodNamed hn) hkY h3
  have h : At U g.method c below := by rw [hg]; exact X.here
  have hlocals9 : W9 + (maxL + 11) + (headSpec ws rm).room.locals ≤ R.locals := hlocals
  have happ : (headSpec ws rm).appliesLoose y e.platform (U.calling g mk a) = true :=
    Spec.appliesLoose_calling (g := g) h hdg hn hkY hinitY
      (X.room_calling (g := g) (R' := (headSpec ws rm).room) hsize hmY hcY hframes (by rw [hlY]; omega) h4 h5) h1
  obtain ⟨mid, hmid⟩ := h.above
  have hfr : (U.setTop g).frames = (.java g :: mid) ++ below := by rw [State.frames_setTop' g h.top, hmid]; rfl
  obtain ⟨o, s₂, hsteps, -, hend, hq⟩ := Steps.callFree hM p X.admits X.cas X.clock (acts := []) hfr happ hPc trivial
  have hq' : vx_Q Qc XC mc ms free a (U.calling g mk a) o s₂ := hq
  rw [State.frames_setTop' g h.top] at hend
  obtain ⟨g₀, hg0⟩ := Option.isSome_iff_exists.mp h.top
  obtain ⟨r, hr⟩ := State.topJava?_eq_some.mp hg0
  have hr' : (({ U with heap := s₂.heap, slotsUsed := s₂.slotsUsed } : State).setVm s₂.vm).frames = .java g₀ :: r := hr
  rcases hq' with ⟨hqc, L, hfe, hL⟩ | ⟨q, rfl, E, ce, L, hx, hce, hcv, hcl, hW₂, hsm, hL⟩
  · obtain ⟨⟨v, rfl⟩, hW₂, e2, q2, q3, q4, q5, q6⟩ := id hfe
    have e3 : s₂ = ({ (U.calling g mk a).setFrames s₂.frames with heap := s₂.heap, slotsUsed := s₂.slotsUsed } : State).setVm s₂.vm := by
      have : s₂ = ({ s₂ with vm := (U.calling g mk a).vm } : State).setVm s₂.vm := rfl
      rw [e2] at this
      exact this
    obtain ⟨c₂, i₂, len₂, hc₂, hd₂, hf₂⟩ := hend
    have hW' : U.WarmedH s₂.vm := hW₂
    have hcc : c₂ = c := by
      have h1 : s₂.code? g.method = U.code? g.method := by
        rw [State.code?_eq, State.code?_eq, hW'.alike.method?]
      exact Option.some.inj (hc₂.symm.trans (h1.trans h.code))
    subst hcc
    have hlen : len₂ = len := by rw [hdg] at hd₂; cases hd₂; rfl
    subst hlen
    have hs₂ : s₂ = (({ U with heap := s₂.heap, slotsUsed := s₂.slotsUsed } : State).setVm s₂.vm).setTop { g with pc := g.pc + len₂, stack := v.toList ++ g.stack } := by
      refine e3.trans ?_
      rw [hf₂, State.calling_eq h.top, State.setFrames_setFrames, State.setTop_of_frames _ hr', hr]
      rfl
    have hsame : U.sameButNew ({ U with heap := s₂.heap, slotsUsed := s₂.slotsUsed } : State) L mc ms := by
      refine ⟨?_, q2, q3, q4, q5, q6⟩
      obtain ⟨t, ht, -⟩ := State.frames_cons hr
      show ({ U with heap := s₂.heap, slotsUsed := s₂.slotsUsed } : State) = { U.setFrames U.frames with heap := s₂.heap, slotsUsed := s₂.slotsUsed }
      rw [State.setFrames_self ht]
    subst hg
    refine Or.inl ⟨v, ⟨(({ U with heap := s₂.heap, slotsUsed := s₂.slotsUsed } : State).setVm s₂.vm), Ls ++ L, c0 + mc, s0 + ms⟩,
      ⟨X.admits, X.cas, X.clock, X.frames, X.room, X.hears, X.method, X.code, (X.here.setHeapUsed s₂.heap s₂.slotsUsed).setVm hW'.alike, X.tail, State.WarmedH.trans X.warmed hW', X.limits, X.bytes, X.same.trans (hsame.setVm s.vm)⟩,
      ⟨g, mk, s₂, L, rfl, rfl, hqc, rfl, hL, rfl, rfl⟩, ?_⟩
    show Steps p.tables e below _ ((({ U with heap := s₂.heap, slotsUsed := s₂.slotsUsed } : State).setVm s₂.vm).setTop { g with pc := g.pc + len₂, stack := v.toList ++ g.stack })
    rw [← hs₂]
    exact hsteps
  · obtain ⟨e2, q2, q3, q4, q5, q6⟩ := id hsm
    have e3 : s₂ = ({ (U.calling g mk a).setFrames s₂.frames with heap := s₂.heap, slotsUsed := s₂.slotsUsed } : State).setVm s₂.vm := by
      have : s₂ = ({ s₂ with vm := (U.calling g mk a).vm } : State).setVm s₂.vm := rfl
      rw [e2] at this
      exact this
    have hf₂ : s₂.frames = .throwing q :: .java g :: U.frames.tail := hend
    have hW' : U.WarmedH s₂.vm := hW₂
    have hs₂ : s₂ = ((({ U with heap := s₂.heap, slotsUsed := s₂.slotsUsed } : State).setVm s₂.vm).setTop g).pushFrame (.throwing q) := by
      refine e3.trans ?_
      rw [hf₂, State.calling_eq h.top, State.setFrames_setFrames, State.pushFrame, State.frames_setTop _ hr', State.setTop_of_frames _ hr', State.setFrames_setFrames, hr]
      rfl
    have hsame : U.sameButNew ({ U with heap := s₂.heap, slotsUsed := s₂.slotsUsed } : State) L mc ms := by
      refine ⟨?_, q2, q3, q4, q5, q6⟩
      obtain ⟨t, ht, -⟩ := State.frames_cons hr
      show ({ U with heap := s₂.heap, slotsUsed := s₂.slotsUsed } : State) = { U.setFrames U.frames with heap := s₂.heap, slotsUsed := s₂.slotsUsed }
      rw [State.setFrames_self ht]
    subst hg
    refine Or.inr ⟨q, ⟨(({ U with heap := s₂.heap, slotsUsed := s₂.slotsUsed } : State).setVm s₂.vm), Ls ++ L, c0 + mc, s0 + ms⟩,
      ⟨X.admits, X.cas, X.clock, X.frames, X.room, X.hears, X.method, X.code, (X.here.setHeapUsed s₂.heap s₂.slotsUsed).setVm hW'.alike, X.tail, State.WarmedH.trans X.warmed hW', X.limits, X.bytes, X.same.trans (hsame.setVm s.vm)⟩,
      ⟨g, mk, s₂, L, E, ce, rfl, rfl, hx, hce, hcv, hcl, rfl, hL, rfl, rfl⟩, ?_⟩
    show Steps p.tables e below _ (((({ U with heap := s₂.heap, slotsUsed := s₂.slotsUsed } : State).setVm s₂.vm).setTop g).pushFrame (.throwing q))
    rw [← hs₂]
    exact hsteps
end
variable {p : Program} {l : Launch} {e : Env} {R : Room} {s : State} {m : MethodId} {args : Array Value} {below : List Frame} {meth : Method} {c : Code} {T : State} {H : Heap} {locs : List Loc} {cells slots : Nat}
theorem vx_callVX (X : Stand p l e R s m args below meth c T locs cells slots) (hexec : p.tables.exec = Jvm.exec) {own C : String} {index : Nat} {y : MethodName} {bytes : ByteArray} {maxL : Nat} {ret : Option FieldType} {hh : List (Nat × Nat × Nat × Nat)}
    (hown : s.vm.findClass own = some m.cls) (hlink : (Cond.methodLink own index y).before args s = true) (hinst : (Cond.instanceMethod y).before args s = true) (hsel : (Cond.selects C y y).before args s = true)
    (hcode : (Cond.codeWith y bytes maxL ret hh).before args s = true) (hy : y.cls ≠ "java/lang/invoke/MethodHandle" ∧ y.cls ≠ "java/lang/invoke/VarHandle")
    {W9 : Nat} {Pre : Pt → Array Value → Prop} {Post : Pt → Array Value → Option Value → Pt → Prop} {PostX : Pt → Array Value → Addr → Pt → Prop} (hK : vx_Back l R p e below s args y 3 W9 Pre Post PostX)
    {b : Addr} {cellB : Cell} (hcell : T.heap[b]? = some cellB) (hobj : cellB.vm.isStatics = false) (hcls : s.vm.findClass C = some cellB.cls)
    {g : JFrame} (hg : g.method = m) (hsize : g.locals.size = c.maxLocals) {argsL rest : List Value} (hlen : ∀ sig, parseMethodDescriptor y.desc = some sig → argsL.length = sig.parameters.length)
    (hstack : g.stack = argsL.reverse ++ .ref b :: rest) (hW : 2 * g.monitorRoom + (rest.map fun v => v.category).sum ≤ W9) (hdg : decode c.code g.pc = .ok (.invokevirtual index, 3))
    (hpre : ∀ vm₁, s.WarmedH vm₁ → Pre ⟨T.setVm vm₁, locs, cells, slots⟩ (Value.ref b :: argsL).toArray) :
    (∃ (v : Option Value) (vm₁ : Vm) (B : Pt), s.WarmedH vm₁ ∧ Stand p l e R s m args below meth c B.U B.locs B.cells B.slots ∧ Post ⟨T.setVm vm₁, locs, cells, slots⟩ (Value.ref b :: argsL).toArray v B ∧
      ∀ target, Steps p.tables e below (B.U.setTop { g with pc := g.pc + 3, stack := v.toList ++ rest }) target → Steps p.tables e below (T.setTop g) target) ∨
    (∃ (q : Addr) (vm₁ : Vm) (B : Pt), s.WarmedH vm₁ ∧ Stand p l e R s m args below meth c B.U B.locs B.cells B.slots ∧ PostX ⟨T.setVm vm₁, locs, cells, slots⟩ (Value.ref b :: argsL).toArray q B ∧
      Steps p.tables e below (T.setTop g) ((B.U.setTop { g with stack := rest }).pushFrame (.throwing q))) := by
  obtain ⟨mk, methM, hnamed, hmethM, hstM, habM⟩ := Cond.instanceMethod_spec hinst
  obtain ⟨m8, methM', cM, hn8, hmethM', -, -, -, -, -, -, hsigM⟩ := Cond.codeWith_spec hcode
  cases Option.some.inj (hn8.symm.trans hnamed)
  cases hmethM.symm.trans hmethM'
  obtain ⟨c2, r2, m2, q1, q2, q3, q4, kP, hkP, hkPi⟩ := Cond.selects_spec hsel
  cases hcls.symm.trans q1
  cases (State.methodFound?_of_named hnamed hy).symm.trans q2
  cases hnamed.symm.trans q3
  have hselP : selectMethod e.platform s.vm cellB.cls mk = .method mk := by rw [Launch.admits_selectMethod X.admits]; exact q4
  obtain ⟨vm₁, X₁, hstep₁⟩ := X.invokevirtual hexec hown hlink hnamed hmethM hstM hkP hkPi hy (a := b) (cell := cellB) hcell
    (fun z h => by rw [h] at hobj; cases hobj) hselP hmethM habM hkP hkPi (g := g) hg (argsL := argsL) (rest := rest) (hlen _ hsigM) hstack hdg
  rcases hK m meth c ⟨T.setVm vm₁, locs, cells, slots⟩ { g with stack := rest } (.invokevirtual index) mk (Value.ref b :: argsL).toArray X₁ hg hsize hdg hW (X₁.named hnamed) (hpre vm₁ X₁.warmed) with ⟨v, B, X', hpost, hsteps⟩ | ⟨q, B, X', hpost, hsteps⟩
  · exact Or.inl ⟨v, vm₁, B, X₁.warmed, X', hpost, fun target h => hstep₁ _ fun acts => by rw [doInvoke_state]; exact hsteps.trans h⟩
  · exact Or.inr ⟨q, vm₁, B, X₁.warmed, X', hpost, hstep₁ _ fun acts => by rw [doInvoke_state]; exact hsteps⟩
theorem vx_callSX (X : Stand p l e R s m args below meth c T locs cells slots) (hexec : p.tables.exec = Jvm.exec) {own : String} {index : Nat} {y : MethodName} {bytes : ByteArray} {maxL : Nat} {ret : Option FieldType} {hh : List (Nat × Nat × Nat × Nat)}
    (hown : s.vm.findClass own = some m.cls) (hlink : (Cond.methodLink own index y).before args s = true) (hstat : (Cond.static y).before args s = true) (hinit : (Cond.initialized y.cls).before args s = true)
    (hcode : (Cond.codeWith y bytes maxL ret hh).before args s = true) (hy : y.cls ≠ "java/lang/invoke/MethodHandle" ∧ y.cls ≠ "java/lang/invoke/VarHandle")
    {W9 : Nat} {Pre : Pt → Array Value → Prop} {Post : Pt → Array Value → Option Value → Pt → Prop} {PostX : Pt → Array Value → Addr → Pt → Prop} (hK : vx_Back l R p e below s args y 3 W9 Pre Post PostX)
    {g : JFrame} (hg : g.method = m) (hsize : g.locals.size = c.maxLocals) {argsL rest : List Value} (hlen : ∀ sig, parseMethodDescriptor y.desc = some sig → argsL.length = sig.parameters.length)
    (hstack : g.stack = argsL.reverse ++ rest) (hW : 2 * g.monitorRoom + (rest.map fun v => v.category).sum ≤ W9) (hdg : decode c.code g.pc = .ok (.invokestatic index, 3))
    (hpre : ∀ vm₁, s.WarmedH vm₁ → Pre ⟨T.setVm vm₁, locs, cells, slots⟩ argsL.toArray) :
    (∃ (v : Option Value) (vm₁ : Vm) (B : Pt), s.WarmedH vm₁ ∧ Stand p l e R s m args below meth c B.U B.locs B.cells B.slots ∧ Post ⟨T.setVm vm₁, locs, cells, slots⟩ argsL.toArray v B ∧
      ∀ target, Steps p.tables e below (B.U.setTop { g with pc := g.pc + 3, stack := v.toList ++ rest }) target → Steps p.tables e below (T.setTop g) target) ∨
    (∃ (q : Addr) (vm₁ : Vm) (B : Pt), s.WarmedH vm₁ ∧ Stand p l e R s m args below meth c B.U B.locs B.cells B.slots ∧ PostX ⟨T.setVm vm₁, locs, cells, slots⟩ argsL.toArray q B ∧
      Steps p.tables e below (T.setTop g) ((B.U.setTop { g with stack := rest }).pushFrame (.throwing q))) := by
  obtain ⟨mk, methM, cM, hnamed, hmethM, -, -, -, -, -, -, hsigM⟩ := Cond.codeWith_spec hcode
  have hstatic : methM.isStatic = true := Cond.static_spec hnamed hmethM hstat
  obtain ⟨kP, hkP, -⟩ := className_of_methodNamed hnamed
  have hinitP : kP.init = .initialized := Cond.initialized_spec (findClass_of_methodNamed hnamed) hkP hinit
  obtain ⟨vm₁, X₁, hstep₁⟩ := X.invokestatic hexec hown hlink hnamed hmethM hstatic hkP hinitP hy (g := g) hg (argsL := argsL) (rest := rest) (hlen _ hsigM) hstack hdg
  rcases hK m meth c ⟨T.setVm vm₁, locs, cells, slots⟩ { g with stack := rest } (.invokestatic index) mk argsL.toArray X₁ hg hsize hdg hW (X₁.named hnamed) (hpre vm₁ X₁.warmed) with ⟨v, B, X', hpost, hsteps⟩ | ⟨q, B, X', hpost, hsteps⟩
  · exact Or.inl ⟨v, vm₁, B, X₁.warmed, X', hpost, fun target h => hstep₁ _ fun acts => by rw [doInvoke_state]; exact hsteps.trans h⟩
  · exact Or.inr ⟨q, vm₁, B, X₁.warmed, X', hpost, hstep₁ _ fun acts => by rw [doInvoke_state]; exact hsteps⟩
theorem vx_callVW (X : Stand p l e R s m args below meth c T locs cells slots) (hexec : p.tables.exec = Jvm.exec) {own C : String} {index : Nat} {y : MethodName} {bytes : ByteArray} {maxL : Nat} {ret : Option FieldType} {hh : List (Nat × Nat × Nat × Nat)}
    (hown : s.vm.findClass own = some m.cls) (hlink : (Cond.methodLink own index y).before args s = true) (hinst : (Cond.instanceMethod y).before args s = true) (hsel : (Cond.selects C y y).before args s = true)
    (hcode : (Cond.codeWith y bytes maxL ret hh).before args s = true) (hy : y.cls ≠ "java/lang/invoke/MethodHandle" ∧ y.cls ≠ "java/lang/invoke/VarHandle")
    {W9 : Nat} {Pre : Pt → Array Value → Prop} {Post : Pt → Array Value → Option Value → Pt → Prop} (hK : Back l R p e below s args y 3 W9 Pre Post)
    {b : Addr} {cellB : Cell} (hcell : T.heap[b]? = some cellB) (hobj : cellB.vm.isStatics = false) (hcls : s.vm.findClass C = some cellB.cls)
    {g : JFrame} (hg : g.method = m) (hsize : g.locals.size = c.maxLocals) {argsL rest : List Value} (hlen : ∀ sig, parseMethodDescriptor y.desc = some sig → argsL.length = sig.parameters.length)
    (hstack : g.stack = argsL.reverse ++ .ref b :: rest) (hW : 2 * g.monitorRoom + (rest.map fun v => v.category).sum ≤ W9) (hdg : decode c.code g.pc = .ok (.invokevirtual index, 3))
    (hpre : ∀ vm₁, s.WarmedH vm₁ → Pre ⟨T.setVm vm₁, locs, cells, slots⟩ (Value.ref b :: argsL).toArray) :
    ∃ (v : Option Value) (vm₁ : Vm) (B : Pt), s.WarmedH vm₁ ∧ Stand p l e R s m args below meth c B.U B.locs B.cells B.slots ∧ Post ⟨T.setVm vm₁, locs, cells, slots⟩ (Value.ref b :: argsL).toArray v B ∧
      ∀ target, Steps p.tables e below (B.U.setTop { g with pc := g.pc + 3, stack := v.toList ++ rest }) target → Steps p.tables e below (T.setTop g) target := by
  obtain ⟨mk, methM, hnamed, hmethM, hstM, habM⟩ := Cond.instanceMethod_spec hinst
  obtain ⟨m8, methM', cM, hn8, hmethM', -, -, -, -, -, -, hsigM⟩ := Cond.codeWith_spec hcode
  cases Option.some.inj (hn8.symm.trans hnamed)
  cases hmethM.symm.trans hmethM'
  obtain ⟨c2, r2, m2, q1, q2, q3, q4, kP, hkP, hkPi⟩ := Cond.selects_spec hsel
  cases hcls.symm.trans q1
  cases (State.methodFound?_of_named hnamed hy).symm.trans q2
  cases hnamed.symm.trans q3
  have hselP : selectMethod e.platform s.vm cellB.cls mk = .method mk := by rw [Launch.admits_selectMethod X.admits]; exact q4
  obtain ⟨vm₁, X₁, hstep₁⟩ := X.invokevirtual hexec hown hlink hnamed hmethM hstM hkP hkPi hy (a := b) (cell := cellB) hcell
    (fun z h => by rw [h] at hobj; cases hobj) hselP hmethM habM hkP hkPi (g := g) hg (argsL := argsL) (rest := rest) (hlen _ hsigM) hstack hdg
  obtain ⟨v, B, X', hpost, hsteps⟩ := hK m meth c ⟨T.setVm vm₁, locs, cells, slots⟩ { g with stack := rest } (.invokevirtual index) mk (Value.ref b :: argsL).toArray X₁ hg hsize hdg hW (X₁.named hnamed) (hpre vm₁ X₁.warmed)
  exact ⟨v, vm₁, B, X₁.warmed, X', hpost, fun target h => hstep₁ _ fun acts => by rw [doInvoke_state]; exact hsteps.trans h⟩
abbrev vx_CVW (R : Room) (s : State) (args : Array Value) (own C : String) (index : Nat) (y : MethodName) (bytes : ByteArray) (maxL : Nat) (ret : Option FieldType) (hh : List (Nat × Nat × Nat × Nat)) (ws : List Cond) (rm : Room) (mc ms n : Nat) : Prop :=
  (rm.cells = mc ∧ rm.slots = ms ∧ rm.frames + 1 ≤ R.frames ∧ 8 + (maxL + 11) + rm.locals ≤ R.locals ∧ (∀ w ∈ ws, ∀ (a' : Array Value) (U : State), s.WarmedH U.vm → w.before a' U = true) ∧ Cond.codeWith y bytes maxL ret hh ∈ ws) ∧
  (Cond.codeWith y bytes maxL ret hh).before args s = true ∧ (Cond.initialized y.cls).before args s = true ∧ (y.cls ≠ "java/lang/invoke/MethodHandle" ∧ y.cls ≠ "java/lang/invoke/VarHandle") ∧
  (∀ sig, parseMethodDescriptor y.desc = some sig → n = sig.parameters.length) ∧ (Cond.methodLink own index y).before args s = true ∧ (Cond.instanceMethod y).before args s = true ∧ (Cond.selects C y y).before args s = true
theorem vx_cwVW {own C : String} {index maxL mc ms : Nat} {y : MethodName} {bytes : ByteArray} {ret : Option FieldType} {hh : List (Nat × Nat × Nat × Nat)} {Ts ws ws' : List Cond} {rm : Room} (n : Nat) (ht : ∀ w ∈ Ts, w.before args s = true) (hT : GoodIn Ts (wsV own index C y ws)) (hw : ws = Cond.codeWith y bytes maxL ret hh :: ws') (hrc : rm.cells = mc) (hrs : rm.slots = ms)
    (hd : y.cls = C ∧ y.cls ≠ "java/lang/invoke/MethodHandle" ∧ y.cls ≠ "java/lang/invoke/VarHandle" ∧ (parseMethodDescriptor y.desc).map (fun d => d.parameters.length) = some n) (hR : rm.frames + 1 ≤ R.frames ∧ 8 + (maxL + 11) + rm.locals ≤ R.locals) :
    vx_CVW R s args own C index y bytes maxL ret hh ws rm mc ms n := by
  obtain ⟨hC, hd⟩ := hd
  subst hC
  have ok : ∀ w ∈ wsV own index y.cls y ws, w.before args s = true := fun w h => ht w (hT w h).1
  have hG : GoodIn Ts ws := fun w h => hT w (by unfold wsV; exact List.mem_append_right _ h)
  have hc : Cond.codeWith y bytes maxL ret hh ∈ ws := by rw [hw]; exact List.mem_cons_self
  refine ⟨⟨hrc, hrs, hR.1, hR.2, pay_in ht hG, hc⟩, ht _ (hG _ hc).1, ok _ (by simp [wsV]), ⟨hd.1, hd.2.1⟩, fun sig h => ?_, ok _ (by simp [wsV]), ok _ (by simp [wsV]), ok _ (by simp [wsV])⟩
  have h2 := hd.2.2
  rw [h] at h2
  exact (Option.some.inj h2).symm
theorem vx_runVW {y : MethodName} {bytes cc : ByteArray} {maxL nL mc ms n index : Nat} {ret : Option FieldType} {hh : List (Nat × Nat × Nat × Nat)} {ws : List Cond} {rm : Room} {Pc : Array Value → State → Prop} {Qc : Array Value → State → Outcome → State → Prop} {free : Addr → Prop} {Ts : List Cond} {own C : String} {b : Addr} {As rest : List Value} {g : JFrame}
    (S : CallFix p m c cc nL s args Ts own) (hM : Met l y ws rm Pc Qc mc ms free) (cw : vx_CVW R s args own C index y bytes maxL ret hh ws rm mc ms n) (hp : PreV s H C b Pc As)
    (hg : g.method = m) (hn : As.length = n) (hsize : g.locals.size = nL) (hstack : g.stack = As.reverse ++ .ref b :: rest) (hW : 2 * g.monitorRoom + (rest.map fun v => v.category).sum ≤ 8) (hdg : decode cc g.pc = .ok (.invokevirtual index, 3)) (hf : cells + mc ≤ R.cells ∧ slots + ms ≤ R.slots) :
    va_Run p l e R s m args below meth c H locs cells slots mc ms g rest (Qc (Value.ref b :: As).toArray) free := by
  obtain ⟨⟨hrc, hrs, hfr, hlo, hws, hcw⟩, hcode, hini, hy, hlen, hl, hin, hse⟩ := cw
  have hK : Back l R p e below s args y 3 8 (PreOf R mc ms Pc) (PostOf Qc mc ms free) := va_backW (hh := hh) (bytes := bytes) (maxL := maxL) (ret := ret) hM hp.1 hrc hrs hfr hlo hws hcw (fun a' U hW => word_at hW (Or.inl (by first | rfl | simp [Cond.onTables, Cond.keeps, Cond.steady])) hini)
  obtain ⟨hx, hb, hml, ho, -⟩ := S
  obtain ⟨-, ⟨cellB, hcB, hoB, hclB⟩, hPc⟩ := hp
  intro T hT X
  obtain ⟨v, vm₁, ⟨U', l2, c2, s2⟩, hW₁, X', ⟨g', mk, t, L, e1, e2, hq, h1, hL, h2, h3⟩, st⟩ := vx_callVW X hx (C := C) (hh := hh) (bytes := bytes) (maxL := maxL) (ret := ret) ho hl hin hse hcode hy hK (by rw [hT]; exact hcB) hoB hclB hg (hsize.trans hml.symm) (argsL := As) (rest := rest) (fun sig h => hn.trans (hlen sig h)) hstack hW (by rw [hb]; exact hdg)
    (fun vm₁ hW₁ => ⟨hf.1, hf.2, hPc (T.setVm vm₁) hT hW₁⟩)
  dsimp only [Pt.U, Pt.locs, Pt.cells, Pt.slots] at X' e1 e2 h1 h2 h3 st
  subst h1; subst h2; subst h3
  exact ⟨v, (T.setVm vm₁).calling g' mk (Value.ref b :: As).toArray, t, U', L, hT, X', hL, e1, e2, hq, st⟩
section
variable {y : MethodName} {bytes cc : ByteArray} {maxL nL mc ms n index : Nat} {ret : Option FieldType} {ws : List Cond} {rm : Room} {Pc : Array Value → State → Prop} {Qc : Array Value → State → Outcome → State → Prop} {XC : String → State → State → Prop} {free : Addr → Prop} {Ts : List Cond} {own C : String} {b : Addr} {As rest : List Value} {g : JFrame}
theorem vx_runVX {hh : List (Nat × Nat × Nat × Nat)} (S : CallFix p m c cc nL s args Ts own) (hM : vx_Met l y ws rm Pc Qc XC mc ms free) (cw : vx_CVW R s args own C index y bytes maxL ret hh ws rm mc ms n) (hp : PreV s H C b Pc As)
    (hg : g.method = m) (hn : As.length = n) (hsize : g.locals.size = nL) (hstack : g.stack = As.reverse ++ .ref b :: rest) (hW : 2 * g.monitorRoom + (rest.map fun v => v.category).sum ≤ 8) (hdg : decode cc g.pc = .ok (.invokevirtual index, 3)) (hf : cells + mc ≤ R.cells ∧ slots + ms ≤ R.slots) :
    vx_Run p l e R s m args below meth c H locs cells slots mc ms g rest (Qc (Value.ref b :: As).toArray) XC free := by
  obtain ⟨⟨hrc, hrs, hfr, hlo, hws, hcw⟩, hcode, hini, hy, hlen, hl, hin, hse⟩ := cw
  have hK : vx_Back l R p e below s args y 3 8 (PreOf R mc ms Pc) (PostOf Qc mc ms free) (vx_Post XC mc ms free) := vx_backW (hh := hh) (bytes := bytes) (maxL := maxL) (ret := ret) hM hp.1 hrc hrs hfr hlo hws hcw (fun a' U hW => word_at hW (Or.inl (by first | rfl | simp [Cond.onTables, Cond.keeps, Cond.steady])) hini)
  obtain ⟨hx, hb, hml, ho, -⟩ := S
  obtain ⟨-, ⟨cellB, hcB, hoB, hclB⟩, hPc⟩ := hp
  intro T hT X
  rcases vx_callVX X hx (C := C) (hh := hh) (bytes := bytes) (maxL := maxL) (ret := ret) ho hl hin hse hcode hy hK (by rw [hT]; exact hcB) hoB hclB hg (hsize.trans hml.symm) (argsL := As) (rest := rest) (fun sig h => hn.trans (hlen sig h)) hstack hW (by rw [hb]; exact hdg)
    (fun vm₁ hW₁ => ⟨hf.1, hf.2, hPc (T.setVm vm₁) hT hW₁⟩) with ⟨v, vm₁, ⟨U', l2, c2, s2⟩, hW₁, X', ⟨g', mk, t, L, e1, e2, hq, h1, hL, h2, h3⟩, st⟩ | ⟨q, vm₁, ⟨U', l2, c2, s2⟩, hW₁, X', ⟨g', mk, t, L, E, ce, e1, e2, hq, hce, hcv, hcl, h1, hL, h2, h3⟩, st⟩
  · dsimp only [Pt.U, Pt.locs, Pt.cells, Pt.slots] at X' e1 e2 h1 h2 h3 st
    subst h1; subst h2; subst h3
    exact Or.inl ⟨v, (T.setVm vm₁).calling g' mk (Value.ref b :: As).toArray, t, U', L, hT, X', hL, e1, e2, hq, st⟩
  · dsimp only [Pt.U, Pt.locs, Pt.cells, Pt.slots] at X' e1 e2 h1 h2 h3 st hcl
    subst h1; subst h2; subst h3
    exact Or.inr ⟨q, (T.setVm vm₁).calling g' mk (Value.ref b :: As).toArray, t, U', L, E, ce, hT, X', hL, e1, e2, hq, hce, hcv, vx_cls hW₁ hcl, st⟩
theorem vx_runSX {hh : List (Nat × Nat × Nat × Nat)} (S : CallFix p m c cc nL s args Ts own) (hM : vx_Met l y ws rm Pc Qc XC mc ms free) (cw : vx_CSW R s args own index y bytes maxL ret hh ws rm mc ms n) (hp : PreS s H Pc As)
    (hg : g.method = m) (hn : As.length = n) (hsize : g.locals.size = nL) (hstack : g.stack = As.reverse ++ rest) (hW : 2 * g.monitorRoom + (rest.map fun v => v.category).sum ≤ 8) (hdg : decode cc g.pc = .ok (.invokestatic index, 3)) (hf : cells + mc ≤ R.cells ∧ slots + ms ≤ R.slots) :
    vx_Run p l e R s m args below meth c H locs cells slots mc ms g rest (Qc As.toArray) XC free := by
  obtain ⟨⟨hrc, hrs, hfr, hlo, hws, hcw⟩, hcode, hini, hy, hlen, hl, hstt⟩ := cw
  have hK : vx_Back l R p e below s args y 3 8 (PreOf R mc ms Pc) (PostOf Qc mc ms free) (vx_Post XC mc ms free) := vx_backW (hh := hh) (bytes := bytes) (maxL := maxL) (ret := ret) hM hp.1 hrc hrs hfr hlo hws hcw (fun a' U hW => word_at hW (Or.inl (by first | rfl | simp [Cond.onTables, Cond.keeps, Cond.steady])) hini)
  obtain ⟨hx, hb, hml, ho, -⟩ := S
  intro T hT X
  rcases vx_callSX X hx (hh := hh) (bytes := bytes) (maxL := maxL) (ret := ret) ho hl hstt hini hcode hy hK hg (hsize.trans hml.symm) (argsL := As) (rest := rest) (fun sig h => hn.trans (hlen sig h)) hstack hW (by rw [hb]; exact hdg)
    (fun vm₁ hW₁ => ⟨hf.1, hf.2, hp.2 (T.setVm vm₁) hT hW₁⟩) with ⟨v, vm₁, ⟨U', l2, c2, s2⟩, hW₁, X', ⟨g', mk, t, L, e1, e2, hq, h1, hL, h2, h3⟩, st⟩ | ⟨q, vm₁, ⟨U', l2, c2, s2⟩, hW₁, X', ⟨g', mk, t, L, E, ce, e1, e2, hq, hce, hcv, hcl, h1, hL, h2, h3⟩, st⟩
  · dsimp only [Pt.U, Pt.locs, Pt.cells, Pt.slots] at X' e1 e2 h1 h2 h3 st
    subst h1; subst h2; subst h3
    exact Or.inl ⟨v, (T.setVm vm₁).calling g' mk As.toArray, t, U', L, hT, X', hL, e1, e2, hq, st⟩
  · dsimp only [Pt.U, Pt.locs, Pt.cells, Pt.slots] at X' e1 e2 h1 h2 h3 st hcl
    subst h1; subst h2; subst h3
    exact Or.inr ⟨q, (T.setVm vm₁).calling g' mk As.toArray, t, U', L, E, ce, hT, X', hL, e1, e2, hq, hce, hcv, vx_cls hW₁ hcl, st⟩
end
end VXH
theorem vx_ofWH {l : Launch} {y : MethodName} {ws ws' : List Cond} {rm : Room} {Pc : Array Value → State → Prop} {Qc : Array Value → State → Outcome → State → Prop} {XC : String → State → State → Prop} {mc ms : Nat} {free : Addr → Prop} {cc : ByteArray} {maxL : Nat} {ret : Option FieldType} {hh : List (Nat × Nat × Nat × Nat)}
    (hy : plainName y.cls = true) (hw : ws = Cond.codeWith y cc maxL ret hh :: ws')
    (body : ∀ p e s m args below meth c s₁, BodyLoose p l y (headSpec ws rm) cc maxL ret e s m args below meth c s₁ → c.maxLocals = maxL → Pc args s →
      W p l e (headSpec ws rm).room s m args below meth c s.heap [] 0 0 (vx_MQ below Qc XC args s mc ms free) (entryFrame m args maxL)) : vx_Met l y ws rm Pc Qc XC mc ms free := by
  refine MetFree.of_bodyS (code := cc) (maxLocals := maxL) (ret := ret) hy ?_ ?_
  · intro args s m h hn
    obtain ⟨m9, meth, c, hn9, h1, h2, h3, h4, -, h5, h6, -⟩ := Cond.codeWith_spec (atoms_spec (ws := ws) h _ (by rw [hw]; exact List.mem_cons_self))
    cases hn.symm.trans hn9
    exact ⟨meth, c, h1, h2, h3, h4, h5, h6⟩
  · intro p e s m args below meth c s₁ B hml hP _
    have hh0 : s₁.heap = s.heap := by rw [B.state]; rfl
    obtain ⟨t, a1, o, b1, b2, b3⟩ := body p e s m args below meth c s₁ B hml hP s₁ hh0 (Stand.of_body B)
    exact ⟨t, o, a1, b1, b2, b3⟩
/-! ===== END ===== -/
end
section
/-! ===== BEGIN printed: names, fields, word lists, decode rows ===== -/
def RX0 : String := "HymnPage$Bars"
def TX0 : u_T := fun k => match k with
  | 0 => ("HymnPage$Bars", "length", "I", false)
  | _ => ("HymnPage$Bars", "upbeat", "I", false)
def tyX0 : Nat → FieldType := fun k => match k with
  | 0 => .int
  | _ => .int
abbrev wsX00 : List Cond := u_ws RX0 TX0 2
theorem nmX0 : ∀ a, a < 2 → ∀ b, b < 2 → a ≠ b → (TX0 a).2.1 ≠ (TX0 b).2.1 := by decide +kernel
theorem tyX0_ok : ∀ k, k < 2 → parseFieldDescriptor (TX0 k).2.2.1 = some (tyX0 k) := by decide +kernel
abbrev cX0_init : ByteArray := prog_2_method_1_code
def yX0_init : MethodName := ⟨RX0, "<init>", "()V"⟩
abbrev cX0_change : ByteArray := prog_2_method_2_code
def yX0_change : MethodName := ⟨RX0, "change", "(II)V"⟩
abbrev cX0_numberAt : ByteArray := prog_2_method_3_code
def yX0_numberAt : MethodName := ⟨RX0, "numberAt", "(I)I"⟩
abbrev cX0_unitsBefore : ByteArray := prog_2_method_4_code
def yX0_unitsBefore : MethodName := ⟨RX0, "unitsBefore", "(I)I"⟩
abbrev cX0_unitsFrom : ByteArray := prog_2_method_5_code
def yX0_unitsFrom : MethodName := ⟨RX0, "unitsFrom", "(I)I"⟩
abbrev cX0_divide : ByteArray := prog_2_method_6_code
def yX0_divide : MethodName := ⟨RX0, "divide", "(I)Z"⟩
def RX1 : String := "HymnPage$Book"
def TX1 : u_T := fun k => match k with
  | 0 => ("HymnPage$Book", "numbers", "[I", true)
  | 1 => ("HymnPage$Book", "sizes", "[I", true)
  | _ => ("HymnPage$Book", "size", "I", false)
def tyX1 : Nat → FieldType := fun k => match k with
  | 0 => .array .int
  | 1 => .array .int
  | _ => .int
abbrev wsX10 : List Cond := u_ws RX1 TX1 3
theorem nmX1 : ∀ a, a < 3 → ∀ b, b < 3 → a ≠ b → (TX1 a).2.1 ≠ (TX1 b).2.1 := by decide +kernel
theorem tyX1_ok : ∀ k, k < 3 → parseFieldDescriptor (TX1 k).2.2.1 = some (tyX1 k) := by decide +kernel
abbrev cX1_init : ByteArray := prog_3_method_1_code
def yX1_init : MethodName := ⟨RX1, "<init>", "()V"⟩
abbrev cX1_take : ByteArray := prog_3_method_2_code
def yX1_take : MethodName := ⟨RX1, "take", "(LHymnPage$Input;)V"⟩
abbrev cX1_push : ByteArray := prog_3_method_3_code
def yX1_push : MethodName := ⟨RX1, "push", "(I)V"⟩
abbrev cX1_pushAllAgain : ByteArray := prog_3_method_4_code
def yX1_pushAllAgain : MethodName := ⟨RX1, "pushAllAgain", "()V"⟩
abbrev cX1_remove : ByteArray := prog_3_method_5_code
def yX1_remove : MethodName := ⟨RX1, "remove", "(I)V"⟩
abbrev cX1_sizeOf : ByteArray := prog_3_method_6_code
def yX1_sizeOf : MethodName := ⟨RX1, "sizeOf", "(I)I"⟩
abbrev cX1_numberAt : ByteArray := prog_3_method_7_code
def yX1_numberAt : MethodName := ⟨RX1, "numberAt", "(II)I"⟩
def RX2 : String := "HymnPage$Columns"
def TX2 : u_T := fun k => match k with
  | 0 => ("HymnPage$Columns", "widths", "[I", true)
  | 1 => ("HymnPage$Columns", "phraseWidths", "[I", true)
  | 2 => ("HymnPage$Columns", "systemOfPhrases", "[I", true)
  | 3 => ("HymnPage$Columns", "systems", "I", false)
  | _ => ("HymnPage$Columns", "total", "I", false)
def tyX2 : Nat → FieldType := fun k => match k with
  | 0 => .array .int
  | 1 => .array .int
  | 2 => .array .int
  | 3 => .int
  | _ => .int
abbrev wsX20 : List Cond := u_ws RX2 TX2 5
theorem nmX2 : ∀ a, a < 5 → ∀ b, b < 5 → a ≠ b → (TX2 a).2.1 ≠ (TX2 b).2.1 := by decide +kernel
theorem tyX2_ok : ∀ k, k < 5 → parseFieldDescriptor (TX2 k).2.2.1 = some (tyX2 k) := by decide +kernel
abbrev cX2_init : ByteArray := prog_4_method_1_code
def yX2_init : MethodName := ⟨RX2, "<init>", "()V"⟩
abbrev cX2_findWidths : ByteArray := prog_4_method_2_code
def yX2_findWidths : MethodName := ⟨RX2, "findWidths", "(LHymnPage$Phrases;LHymnPage$Order;LHymnPage$Verses;)V"⟩
abbrev cX2_widen : ByteArray := prog_4_method_3_code
def yX2_widen : MethodName := ⟨RX2, "widen", "(II)V"⟩
abbrev cX2_findSystems : ByteArray := prog_4_method_4_code
def yX2_findSystems : MethodName := ⟨RX2, "findSystems", "(LHymnPage$Phrases;I)V"⟩
abbrev cX2_sumOf : ByteArray := prog_4_method_5_code
def yX2_sumOf : MethodName := ⟨RX2, "sumOf", "(II)I"⟩
abbrev cX2_widthOf : ByteArray := prog_4_method_6_code
def yX2_widthOf : MethodName := ⟨RX2, "widthOf", "(I)I"⟩
abbrev cX2_widthOfPhrase : ByteArray := prog_4_method_7_code
def yX2_widthOfPhrase : MethodName := ⟨RX2, "widthOfPhrase", "(I)I"⟩
abbrev cX2_systemOf : ByteArray := prog_4_method_8_code
def yX2_systemOf : MethodName := ⟨RX2, "systemOf", "(I)I"⟩
def RX3 : String := "HymnPage$Input"
def TX3 : u_T := fun k => match k with
  | 0 => ("HymnPage$Input", "codes", "[I", true)
  | _ => ("HymnPage$Input", "size", "I", false)
def tyX3 : Nat → FieldType := fun k => match k with
  | 0 => .array .int
  | _ => .int
abbrev wsX30 : List Cond := u_ws RX3 TX3 2
theorem nmX3 : ∀ a, a < 2 → ∀ b, b < 2 → a ≠ b → (TX3 a).2.1 ≠ (TX3 b).2.1 := by decide +kernel
theorem tyX3_ok : ∀ k, k < 2 → parseFieldDescriptor (TX3 k).2.2.1 = some (tyX3 k) := by decide +kernel
abbrev cX3_init : ByteArray := prog_5_method_1_code
def yX3_init : MethodName := ⟨RX3, "<init>", "()V"⟩
abbrev cX3_push : ByteArray := prog_5_method_2_code
def yX3_push : MethodName := ⟨RX3, "push", "(I)V"⟩
abbrev cX3_codeAt : ByteArray := prog_5_method_3_code
def yX3_codeAt : MethodName := ⟨RX3, "codeAt", "(I)I"⟩
abbrev cX3_isOfSyllable : ByteArray := prog_5_method_4_code
def yX3_isOfSyllable : MethodName := ⟨RX3, "isOfSyllable", "(I)Z"⟩
abbrev cX3_isDigit : ByteArray := prog_5_method_5_code
def yX3_isDigit : MethodName := ⟨RX3, "isDigit", "(I)Z"⟩
abbrev cX3_errorAsLine : ByteArray := prog_5_method_6_code
def yX3_errorAsLine : MethodName := ⟨RX3, "errorAsLine", "()I"⟩
abbrev cX3_errorAsMetre : ByteArray := prog_5_method_7_code
def yX3_errorAsMetre : MethodName := ⟨RX3, "errorAsMetre", "()I"⟩
abbrev cX3_goesOn : ByteArray := prog_5_method_8_code
def yX3_goesOn : MethodName := ⟨RX3, "goesOn", "(II)Z"⟩
abbrev cX3_canDouble : ByteArray := prog_5_method_9_code
def yX3_canDouble : MethodName := ⟨RX3, "canDouble", "(I)Z"⟩
abbrev cX3_isLine : ByteArray := prog_5_method_10_code
def yX3_isLine : MethodName := ⟨RX3, "isLine", "()Z"⟩
abbrev cX3_isMetre : ByteArray := prog_5_method_11_code
def yX3_isMetre : MethodName := ⟨RX3, "isMetre", "()Z"⟩
def RX4 : String := "HymnPage$Key"
def TX4 : u_T := fun k => match k with
  | _ => ("", "", "", false)
def tyX4 : Nat → FieldType := fun k => match k with
  | _ => .int
abbrev wsX40 : List Cond := u_ws RX4 TX4 0
theorem nmX4 : ∀ a, a < 0 → ∀ b, b < 0 → a ≠ b → (TX4 a).2.1 ≠ (TX4 b).2.1 := by decide +kernel
theorem tyX4_ok : ∀ k, k < 0 → parseFieldDescriptor (TX4 k).2.2.1 = some (tyX4 k) := by decide +kernel
abbrev cX4_isRaised : ByteArray := prog_6_method_2_code
def yX4_isRaised : MethodName := ⟨RX4, "isRaised", "(II)Z"⟩
abbrev cX4_written : ByteArray := prog_6_method_3_code
def yX4_written : MethodName := ⟨RX4, "written", "(II)I"⟩
abbrev cX4_degreeOf : ByteArray := prog_6_method_4_code
def yX4_degreeOf : MethodName := ⟨RX4, "degreeOf", "(II)I"⟩
abbrev cX4_degreeInKey : ByteArray := prog_6_method_5_code
def yX4_degreeInKey : MethodName := ⟨RX4, "degreeInKey", "(II)I"⟩
abbrev cX4_stepOf : ByteArray := prog_6_method_6_code
def yX4_stepOf : MethodName := ⟨RX4, "stepOf", "(II)I"⟩
abbrev cX4_shapeOf : ByteArray := prog_6_method_7_code
def yX4_shapeOf : MethodName := ⟨RX4, "shapeOf", "(II)I"⟩
abbrev cX4_ledgerLines : ByteArray := prog_6_method_8_code
def yX4_ledgerLines : MethodName := ⟨RX4, "ledgerLines", "(II)I"⟩
def RX5 : String := "HymnPage$Order"
def TX5 : u_T := fun k => match k with
  | 0 => ("HymnPage$Order", "sungPhrases", "[I", true)
  | 1 => ("HymnPage$Order", "times", "[I", true)
  | _ => ("HymnPage$Order", "size", "I", false)
def tyX5 : Nat → FieldType := fun k => match k with
  | 0 => .array .int
  | 1 => .array .int
  | _ => .int
abbrev wsX50 : List Cond := u_ws RX5 TX5 3
theorem nmX5 : ∀ a, a < 3 → ∀ b, b < 3 → a ≠ b → (TX5 a).2.1 ≠ (TX5 b).2.1 := by decide +kernel
theorem tyX5_ok : ∀ k, k < 3 → parseFieldDescriptor (TX5 k).2.2.1 = some (tyX5 k) := by decide +kernel
abbrev cX5_init : ByteArray := prog_7_method_1_code
def yX5_init : MethodName := ⟨RX5, "<init>", "()V"⟩
abbrev cX5_find : ByteArray := prog_7_method_2_code
def yX5_find : MethodName := ⟨RX5, "find", "(ILHymnPage$Repeats;)V"⟩
abbrev cX5_pushAgain : ByteArray := prog_7_method_3_code
def yX5_pushAgain : MethodName := ⟨RX5, "pushAgain", "(II)V"⟩
abbrev cX5_push : ByteArray := prog_7_method_4_code
def yX5_push : MethodName := ⟨RX5, "push", "(I)V"⟩
abbrev cX5_phraseAt : ByteArray := prog_7_method_5_code
def yX5_phraseAt : MethodName := ⟨RX5, "phraseAt", "(I)I"⟩
abbrev cX5_timesOf : ByteArray := prog_7_method_6_code
def yX5_timesOf : MethodName := ⟨RX5, "timesOf", "(I)I"⟩
def RX6 : String := "HymnPage$Phrases"
def TX6 : u_T := fun k => match k with
  | 0 => ("HymnPage$Phrases", "phraseOfNotes", "[I", true)
  | 1 => ("HymnPage$Phrases", "syllableOfNotes", "[I", true)
  | 2 => ("HymnPage$Phrases", "firsts", "[I", true)
  | 3 => ("HymnPage$Phrases", "lasts", "[I", true)
  | 4 => ("HymnPage$Phrases", "syllables", "[I", true)
  | _ => ("HymnPage$Phrases", "size", "I", false)
def tyX6 : Nat → FieldType := fun k => match k with
  | 0 => .array .int
  | 1 => .array .int
  | 2 => .array .int
  | 3 => .array .int
  | 4 => .array .int
  | _ => .int
abbrev wsX60 : List Cond := u_ws RX6 TX6 6
theorem nmX6 : ∀ a, a < 6 → ∀ b, b < 6 → a ≠ b → (TX6 a).2.1 ≠ (TX6 b).2.1 := by decide +kernel
theorem tyX6_ok : ∀ k, k < 6 → parseFieldDescriptor (TX6 k).2.2.1 = some (tyX6 k) := by decide +kernel
abbrev cX6_init : ByteArray := prog_8_method_1_code
def yX6_init : MethodName := ⟨RX6, "<init>", "()V"⟩
abbrev cX6_find : ByteArray := prog_8_method_2_code
def yX6_find : MethodName := ⟨RX6, "find", "(LHymnPage$Tune;)V"⟩
abbrev cX6_open : ByteArray := prog_8_method_3_code
def yX6_open : MethodName := ⟨RX6, "open", "(I)V"⟩
abbrev cX6_take : ByteArray := prog_8_method_4_code
def yX6_take : MethodName := ⟨RX6, "take", "(IZ)V"⟩
abbrev cX6_phraseOf : ByteArray := prog_8_method_5_code
def yX6_phraseOf : MethodName := ⟨RX6, "phraseOf", "(I)I"⟩
abbrev cX6_syllableOf : ByteArray := prog_8_method_6_code
def yX6_syllableOf : MethodName := ⟨RX6, "syllableOf", "(I)I"⟩
abbrev cX6_firstOf : ByteArray := prog_8_method_7_code
def yX6_firstOf : MethodName := ⟨RX6, "firstOf", "(I)I"⟩
abbrev cX6_lastOf : ByteArray := prog_8_method_8_code
def yX6_lastOf : MethodName := ⟨RX6, "lastOf", "(I)I"⟩
abbrev cX6_notesOf : ByteArray := prog_8_method_9_code
def yX6_notesOf : MethodName := ⟨RX6, "notesOf", "(I)I"⟩
abbrev cX6_syllablesOf : ByteArray := prog_8_method_10_code
def yX6_syllablesOf : MethodName := ⟨RX6, "syllablesOf", "(I)I"⟩
def RX7 : String := "HymnPage$Repeats"
def TX7 : u_T := fun k => match k with
  | 0 => ("HymnPage$Repeats", "firsts", "[I", true)
  | 1 => ("HymnPage$Repeats", "lasts", "[I", true)
  | 2 => ("HymnPage$Repeats", "skips", "[I", true)
  | _ => ("HymnPage$Repeats", "size", "I", false)
def tyX7 : Nat → FieldType := fun k => match k with
  | 0 => .array .int
  | 1 => .array .int
  | 2 => .array .int
  | _ => .int
abbrev wsX70 : List Cond := u_ws RX7 TX7 4
theorem nmX7 : ∀ a, a < 4 → ∀ b, b < 4 → a ≠ b → (TX7 a).2.1 ≠ (TX7 b).2.1 := by decide +kernel
theorem tyX7_ok : ∀ k, k < 4 → parseFieldDescriptor (TX7 k).2.2.1 = some (tyX7 k) := by decide +kernel
abbrev cX7_init : ByteArray := prog_9_method_1_code
def yX7_init : MethodName := ⟨RX7, "<init>", "()V"⟩
abbrev cX7_push : ByteArray := prog_9_method_2_code
def yX7_push : MethodName := ⟨RX7, "push", "(III)V"⟩
abbrev cX7_touch : ByteArray := prog_9_method_3_code
def yX7_touch : MethodName := ⟨RX7, "touch", "(II)Z"⟩
abbrev cX7_keepWithin : ByteArray := prog_9_method_4_code
def yX7_keepWithin : MethodName := ⟨RX7, "keepWithin", "(I)V"⟩
abbrev cX7_endingWith : ByteArray := prog_9_method_5_code
def yX7_endingWith : MethodName := ⟨RX7, "endingWith", "(I)I"⟩
abbrev cX7_firstOf : ByteArray := prog_9_method_6_code
def yX7_firstOf : MethodName := ⟨RX7, "firstOf", "(I)I"⟩
abbrev cX7_lastAgainOf : ByteArray := prog_9_method_7_code
def yX7_lastAgainOf : MethodName := ⟨RX7, "lastAgainOf", "(I)I"⟩
def RX8 : String := "HymnPage$Tune"
def TX8 : u_T := fun k => match k with
  | 0 => ("HymnPage$Tune", "lengths", "[I", true)
  | 1 => ("HymnPage$Tune", "pitches", "[I", true)
  | 2 => ("HymnPage$Tune", "slurMarks", "J", false)
  | 3 => ("HymnPage$Tune", "endMarks", "J", false)
  | 4 => ("HymnPage$Tune", "size", "I", false)
  | _ => ("HymnPage$Tune", "tonic", "I", false)
def tyX8 : Nat → FieldType := fun k => match k with
  | 0 => .array .int
  | 1 => .array .int
  | 2 => .long
  | 3 => .long
  | 4 => .int
  | _ => .int
abbrev wsX80 : List Cond := u_ws RX8 TX8 6
theorem nmX8 : ∀ a, a < 6 → ∀ b, b < 6 → a ≠ b → (TX8 a).2.1 ≠ (TX8 b).2.1 := by decide +kernel
theorem tyX8_ok : ∀ k, k < 6 → parseFieldDescriptor (TX8 k).2.2.1 = some (tyX8 k) := by decide +kernel
abbrev cX8_init : ByteArray := prog_10_method_1_code
def yX8_init : MethodName := ⟨RX8, "<init>", "()V"⟩
abbrev cX8_restart : ByteArray := prog_10_method_2_code
def yX8_restart : MethodName := ⟨RX8, "restart", "(I)V"⟩
abbrev cX8_push : ByteArray := prog_10_method_3_code
def yX8_push : MethodName := ⟨RX8, "push", "(IIIII)V"⟩
abbrev cX8_pop : ByteArray := prog_10_method_4_code
def yX8_pop : MethodName := ⟨RX8, "pop", "()V"⟩
abbrev cX8_lengthOf : ByteArray := prog_10_method_5_code
def yX8_lengthOf : MethodName := ⟨RX8, "lengthOf", "(I)I"⟩
abbrev cX8_pitchOf : ByteArray := prog_10_method_6_code
def yX8_pitchOf : MethodName := ⟨RX8, "pitchOf", "(II)I"⟩
abbrev cX8_changePitch : ByteArray := prog_10_method_7_code
def yX8_changePitch : MethodName := ⟨RX8, "changePitch", "(III)V"⟩
abbrev cX8_startOf : ByteArray := prog_10_method_8_code
def yX8_startOf : MethodName := ⟨RX8, "startOf", "(I)I"⟩
abbrev cX8_canMove : ByteArray := prog_10_method_9_code
def yX8_canMove : MethodName := ⟨RX8, "canMove", "(I)Z"⟩
abbrev cX8_move : ByteArray := prog_10_method_10_code
def yX8_move : MethodName := ⟨RX8, "move", "(I)V"⟩
abbrev cX8_parallelsTo : ByteArray := prog_10_method_11_code
def yX8_parallelsTo : MethodName := ⟨RX8, "parallelsTo", "(I)I"⟩
abbrev cX8_goParallel : ByteArray := prog_10_method_12_code
def yX8_goParallel : MethodName := ⟨RX8, "goParallel", "(III)Z"⟩
abbrev cX8_notesWithParallels : ByteArray := prog_10_method_13_code
def yX8_notesWithParallels : MethodName := ⟨RX8, "notesWithParallels", "()I"⟩
def RX9 : String := "HymnPage$Verses"
def TX9 : u_T := fun k => match k with
  | 0 => ("HymnPage$Verses", "sizes", "[I", true)
  | _ => ("HymnPage$Verses", "syllables", "[I", true)
def tyX9 : Nat → FieldType := fun k => match k with
  | 0 => .array .int
  | _ => .array .int
abbrev wsX90 : List Cond := u_ws RX9 TX9 2
theorem nmX9 : ∀ a, a < 2 → ∀ b, b < 2 → a ≠ b → (TX9 a).2.1 ≠ (TX9 b).2.1 := by decide +kernel
theorem tyX9_ok : ∀ k, k < 2 → parseFieldDescriptor (TX9 k).2.2.1 = some (tyX9 k) := by decide +kernel
abbrev cX9_init : ByteArray := prog_11_method_1_code
def yX9_init : MethodName := ⟨RX9, "<init>", "()V"⟩
abbrev cX9_take : ByteArray := prog_11_method_2_code
def yX9_take : MethodName := ⟨RX9, "take", "(IILHymnPage$Input;)V"⟩
abbrev cX9_push : ByteArray := prog_11_method_3_code
def yX9_push : MethodName := ⟨RX9, "push", "(IIIZ)V"⟩
abbrev cX9_removeLines : ByteArray := prog_11_method_4_code
def yX9_removeLines : MethodName := ⟨RX9, "removeLines", "(I)I"⟩
abbrev cX9_rowOf : ByteArray := prog_11_method_5_code
def yX9_rowOf : MethodName := ⟨RX9, "rowOf", "(II)I"⟩
abbrev cX9_syllablesOf : ByteArray := prog_11_method_6_code
def yX9_syllablesOf : MethodName := ⟨RX9, "syllablesOf", "(II)I"⟩
abbrev cX9_wordsOf : ByteArray := prog_11_method_7_code
def yX9_wordsOf : MethodName := ⟨RX9, "wordsOf", "(II)I"⟩
abbrev cX9_longestOf : ByteArray := prog_11_method_8_code
def yX9_longestOf : MethodName := ⟨RX9, "longestOf", "(II)I"⟩
abbrev cX9_hasSyllable : ByteArray := prog_11_method_9_code
def yX9_hasSyllable : MethodName := ⟨RX9, "hasSyllable", "(III)Z"⟩
abbrev cX9_lengthAt : ByteArray := prog_11_method_10_code
def yX9_lengthAt : MethodName := ⟨RX9, "lengthAt", "(III)I"⟩
abbrev cX9_signAt : ByteArray := prog_11_method_11_code
def yX9_signAt : MethodName := ⟨RX9, "signAt", "(III)I"⟩
abbrev cX9_isLinked : ByteArray := prog_11_method_12_code
def yX9_isLinked : MethodName := ⟨RX9, "isLinked", "(III)Z"⟩
abbrev cX9_packedAt : ByteArray := prog_11_method_13_code
def yX9_packedAt : MethodName := ⟨RX9, "packedAt", "(III)I"⟩
abbrev cX9_widestBelow : ByteArray := prog_11_method_14_code
def yX9_widestBelow : MethodName := ⟨RX9, "widestBelow", "(II)I"⟩
def RX10 : String := "HymnPage"
def TX10 : u_T := fun k => match k with
  | 0 => ("HymnPage", "tune", "LHymnPage$Tune;", true)
  | 1 => ("HymnPage", "bars", "LHymnPage$Bars;", true)
  | 2 => ("HymnPage", "repeats", "LHymnPage$Repeats;", true)
  | 3 => ("HymnPage", "verses", "LHymnPage$Verses;", true)
  | 4 => ("HymnPage", "phrases", "LHymnPage$Phrases;", true)
  | 5 => ("HymnPage", "order", "LHymnPage$Order;", true)
  | 6 => ("HymnPage", "columns", "LHymnPage$Columns;", true)
  | 7 => ("HymnPage", "book", "LHymnPage$Book;", true)
  | 8 => ("HymnPage", "input", "LHymnPage$Input;", true)
  | _ => ("HymnPage", "pageWidth", "I", false)
def tyX10 : Nat → FieldType := fun k => match k with
  | 0 => .object "HymnPage$Tune"
  | 1 => .object "HymnPage$Bars"
  | 2 => .object "HymnPage$Repeats"
  | 3 => .object "HymnPage$Verses"
  | 4 => .object "HymnPage$Phrases"
  | 5 => .object "HymnPage$Order"
  | 6 => .object "HymnPage$Columns"
  | 7 => .object "HymnPage$Book"
  | 8 => .object "HymnPage$Input"
  | _ => .int
abbrev wsX100 : List Cond := u_ws RX10 TX10 10
theorem nmX10 : ∀ a, a < 10 → ∀ b, b < 10 → a ≠ b → (TX10 a).2.1 ≠ (TX10 b).2.1 := by decide +kernel
theorem tyX10_ok : ∀ k, k < 10 → parseFieldDescriptor (TX10 k).2.2.1 = some (tyX10 k) := by decide +kernel
abbrev cX10_init : ByteArray := prog_1_method_1_code
def yX10_init : MethodName := ⟨RX10, "<init>", "()V"⟩
abbrev cX10_begin : ByteArray := prog_1_method_2_code
def yX10_begin : MethodName := ⟨RX10, "begin", "(I)I"⟩
abbrev cX10_addNote : ByteArray := prog_1_method_3_code
def yX10_addNote : MethodName := ⟨RX10, "addNote", "(IIIII)I"⟩
abbrev cX10_dropNote : ByteArray := prog_1_method_4_code
def yX10_dropNote : MethodName := ⟨RX10, "dropNote", "()I"⟩
abbrev cX10_setPitch : ByteArray := prog_1_method_5_code
def yX10_setPitch : MethodName := ⟨RX10, "setPitch", "(III)I"⟩
abbrev cX10_mark : ByteArray := prog_1_method_6_code
def yX10_mark : MethodName := ⟨RX10, "mark", "(IZZ)I"⟩
abbrev cX10_setBars : ByteArray := prog_1_method_7_code
def yX10_setBars : MethodName := ⟨RX10, "setBars", "(II)I"⟩
abbrev cX10_repeat : ByteArray := prog_1_method_8_code
def yX10_repeat : MethodName := ⟨RX10, "repeat", "(III)I"⟩
abbrev cX10_clearRepeats : ByteArray := prog_1_method_9_code
def yX10_clearRepeats : MethodName := ⟨RX10, "clearRepeats", "()I"⟩
abbrev cX10_transpose : ByteArray := prog_1_method_10_code
def yX10_transpose : MethodName := ⟨RX10, "transpose", "(I)I"⟩
abbrev cX10_setWidth : ByteArray := prog_1_method_11_code
def yX10_setWidth : MethodName := ⟨RX10, "setWidth", "(I)I"⟩
abbrev cX10_append : ByteArray := prog_1_method_12_code
def yX10_append : MethodName := ⟨RX10, "append", "(I)I"⟩
abbrev cX10_clearInput : ByteArray := prog_1_method_13_code
def yX10_clearInput : MethodName := ⟨RX10, "clearInput", "()I"⟩
abbrev cX10_firstError : ByteArray := prog_1_method_14_code
def yX10_firstError : MethodName := ⟨RX10, "firstError", "(Z)I"⟩
abbrev cX10_setLine : ByteArray := prog_1_method_15_code
def yX10_setLine : MethodName := ⟨RX10, "setLine", "(II)I"⟩
abbrev cX10_clearVerse : ByteArray := prog_1_method_16_code
def yX10_clearVerse : MethodName := ⟨RX10, "clearVerse", "(I)I"⟩
abbrev cX10_addMetre : ByteArray := prog_1_method_17_code
def yX10_addMetre : MethodName := ⟨RX10, "addMetre", "()I"⟩
abbrev cX10_dropMetre : ByteArray := prog_1_method_18_code
def yX10_dropMetre : MethodName := ⟨RX10, "dropMetre", "(I)I"⟩
abbrev cX10_note : ByteArray := prog_1_method_19_code
def yX10_note : MethodName := ⟨RX10, "note", "(II)I"⟩
abbrev cX10_part : ByteArray := prog_1_method_20_code
def yX10_part : MethodName := ⟨RX10, "part", "(III)I"⟩
abbrev cX10_heads : ByteArray := prog_1_method_21_code
def yX10_heads : MethodName := ⟨RX10, "heads", "(II)I"⟩
abbrev cX10_phrase : ByteArray := prog_1_method_22_code
def yX10_phrase : MethodName := ⟨RX10, "phrase", "(II)I"⟩
abbrev cX10_sung : ByteArray := prog_1_method_23_code
def yX10_sung : MethodName := ⟨RX10, "sung", "(I)I"⟩
abbrev cX10_fit : ByteArray := prog_1_method_24_code
def yX10_fit : MethodName := ⟨RX10, "fit", "(I)I"⟩
abbrev cX10_line : ByteArray := prog_1_method_25_code
def yX10_line : MethodName := ⟨RX10, "line", "(III)I"⟩
abbrev cX10_below : ByteArray := prog_1_method_26_code
def yX10_below : MethodName := ⟨RX10, "below", "(IIII)I"⟩
abbrev cX10_distance : ByteArray := prog_1_method_27_code
def yX10_distance : MethodName := ⟨RX10, "distance", "(I)I"⟩
abbrev cX10_nearest : ByteArray := prog_1_method_28_code
def yX10_nearest : MethodName := ⟨RX10, "nearest", "()I"⟩
abbrev cX10_metre : ByteArray := prog_1_method_29_code
def yX10_metre : MethodName := ⟨RX10, "metre", "(II)I"⟩
abbrev cX10_count : ByteArray := prog_1_method_30_code
def yX10_count : MethodName := ⟨RX10, "count", "(I)I"⟩
abbrev cX10_meanWidth : ByteArray := prog_1_method_31_code
def yX10_meanWidth : MethodName := ⟨RX10, "meanWidth", "()D"⟩
abbrev cX10_checkIndex : ByteArray := prog_1_method_33_code
def yX10_checkIndex : MethodName := ⟨RX10, "checkIndex", "(II)V"⟩
abbrev cX10_checkRange : ByteArray := prog_1_method_34_code
def yX10_checkRange : MethodName := ⟨RX10, "checkRange", "(III)V"⟩
abbrev cX10_checkPitch : ByteArray := prog_1_method_35_code
def yX10_checkPitch : MethodName := ⟨RX10, "checkPitch", "(I)V"⟩
abbrev cX10_at : ByteArray := prog_1_method_36_code
def yX10_at : MethodName := ⟨RX10, "at", "([II)I"⟩
abbrev cX10_put : ByteArray := prog_1_method_37_code
def yX10_put : MethodName := ⟨RX10, "put", "([III)V"⟩
abbrev cX10_hasBit : ByteArray := prog_1_method_38_code
def yX10_hasBit : MethodName := ⟨RX10, "hasBit", "(JI)Z"⟩
abbrev cX10_withBit : ByteArray := prog_1_method_39_code
def yX10_withBit : MethodName := ⟨RX10, "withBit", "(JIZ)J"⟩
abbrev cX10_flag : ByteArray := prog_1_method_40_code
def yX10_flag : MethodName := ⟨RX10, "flag", "(Z)I"⟩
abbrev cX10_layOut : ByteArray := prog_1_method_41_code
def yX10_layOut : MethodName := ⟨RX10, "layOut", "()V"⟩
abbrev cX10_noteProperty : ByteArray := prog_1_method_42_code
def yX10_noteProperty : MethodName := ⟨RX10, "noteProperty", "(II)I"⟩
abbrev cX10_partProperty : ByteArray := prog_1_method_43_code
def yX10_partProperty : MethodName := ⟨RX10, "partProperty", "(III)I"⟩
abbrev cX10_headsOf : ByteArray := prog_1_method_44_code
def yX10_headsOf : MethodName := ⟨RX10, "headsOf", "(II)I"⟩
abbrev cX10_phraseProperty : ByteArray := prog_1_method_45_code
def yX10_phraseProperty : MethodName := ⟨RX10, "phraseProperty", "(II)I"⟩
abbrev cX10_syllablesSung : ByteArray := prog_1_method_46_code
def yX10_syllablesSung : MethodName := ⟨RX10, "syllablesSung", "(I)I"⟩
abbrev cX10_firstMisfit : ByteArray := prog_1_method_47_code
def yX10_firstMisfit : MethodName := ⟨RX10, "firstMisfit", "(I)I"⟩
abbrev cX10_lineProperty : ByteArray := prog_1_method_48_code
def yX10_lineProperty : MethodName := ⟨RX10, "lineProperty", "(III)I"⟩
abbrev cX10_belowProperty : ByteArray := prog_1_method_49_code
def yX10_belowProperty : MethodName := ⟨RX10, "belowProperty", "(IIII)I"⟩
abbrev cX10_distanceOf : ByteArray := prog_1_method_50_code
def yX10_distanceOf : MethodName := ⟨RX10, "distanceOf", "(I)I"⟩
abbrev cX10_countOfTune : ByteArray := prog_1_method_51_code
def yX10_countOfTune : MethodName := ⟨RX10, "countOfTune", "(I)I"⟩
abbrev cX10_countOfPage : ByteArray := prog_1_method_52_code
def yX10_countOfPage : MethodName := ⟨RX10, "countOfPage", "(I)I"⟩
abbrev cX10_fittingVerses : ByteArray := prog_1_method_53_code
def yX10_fittingVerses : MethodName := ⟨RX10, "fittingVerses", "()I"⟩
def RX11 : String := "HymnPageModel"
def TX11 : u_T := fun k => match k with
  | _ => ("", "", "", false)
def tyX11 : Nat → FieldType := fun k => match k with
  | _ => .int
abbrev wsX110 : List Cond := u_ws RX11 TX11 0
theorem nmX11 : ∀ a, a < 0 → ∀ b, b < 0 → a ≠ b → (TX11 a).2.1 ≠ (TX11 b).2.1 := by decide +kernel
theorem tyX11_ok : ∀ k, k < 0 → parseFieldDescriptor (TX11 k).2.2.1 = some (tyX11 k) := by decide +kernel
def RJ9 : String := "java/lang/Math"
def TJ9 : u_T := fun k => match k with
  | _ => ("", "", "", false)
def tyJ9 : Nat → FieldType := fun k => match k with
  | _ => .int
abbrev wsJ90 : List Cond := u_ws RJ9 TJ9 0
theorem nmJ9 : ∀ a, a < 0 → ∀ b, b < 0 → a ≠ b → (TJ9 a).2.1 ≠ (TJ9 b).2.1 := by decide +kernel
theorem tyJ9_ok : ∀ k, k < 0 → parseFieldDescriptor (TJ9 k).2.2.1 = some (tyJ9 k) := by decide +kernel
abbrev cJ9_floorDiv_7cf53 : ByteArray := prog_18_method_47_code
def yJ9_floorDiv_7cf53 : MethodName := ⟨RJ9, "floorDiv", "(II)I"⟩
abbrev cJ9_floorMod_7cf53 : ByteArray := prog_18_method_50_code
def yJ9_floorMod_7cf53 : MethodName := ⟨RJ9, "floorMod", "(II)I"⟩
abbrev cJ9_abs_0f7a4 : ByteArray := prog_18_method_59_code
def yJ9_abs_0f7a4 : MethodName := ⟨RJ9, "abs", "(I)I"⟩
abbrev cJ9_max_7cf53 : ByteArray := prog_18_method_65_code
def yJ9_max_7cf53 : MethodName := ⟨RJ9, "max", "(II)I"⟩
def RJ0 : String := "java/lang/String"
def TJ0 : u_T := fun k => match k with
  | _ => ("", "", "", false)
def tyJ0 : Nat → FieldType := fun k => match k with
  | _ => .int
abbrev wsJ00 : List Cond := u_ws RJ0 TJ0 0
theorem nmJ0 : ∀ a, a < 0 → ∀ b, b < 0 → a ≠ b → (TJ0 a).2.1 ≠ (TJ0 b).2.1 := by decide +kernel
theorem tyJ0_ok : ∀ k, k < 0 → parseFieldDescriptor (TJ0 k).2.2.1 = some (tyJ0 k) := by decide +kernel
def RL : String := "HymnPageLaw"
abbrev cL_cell : ByteArray := method_2_code
def yL_cell : MethodName := ⟨RL, "cell", "([II)I"⟩
abbrev cL_at : ByteArray := method_3_code
def yL_at : MethodName := ⟨RL, "at", "(II)I"⟩
abbrev cL_end : ByteArray := method_4_code
def yL_end : MethodName := ⟨RL, "end", "(I[I[I)Z"⟩
abbrev cL_phraseOf : ByteArray := method_5_code
def yL_phraseOf : MethodName := ⟨RL, "phraseOf", "(I[I[I)I"⟩
abbrev cL_phrases : ByteArray := method_6_code
def yL_phrases : MethodName := ⟨RL, "phrases", "([I[I)I"⟩
abbrev cL_first : ByteArray := method_7_code
def yL_first : MethodName := ⟨RL, "first", "(I[I[I)I"⟩
abbrev cL_last : ByteArray := method_8_code
def yL_last : MethodName := ⟨RL, "last", "(I[I[I)I"⟩
abbrev cL_slurred : ByteArray := method_9_code
def yL_slurred : MethodName := ⟨RL, "slurred", "(I[I[I)Z"⟩
abbrev cL_syllables : ByteArray := method_10_code
def yL_syllables : MethodName := ⟨RL, "syllables", "(II[I[I)I"⟩
abbrev cL_sung : ByteArray := method_11_code
def yL_sung : MethodName := ⟨RL, "sung", "([I[I[I[I)I"⟩
abbrev cL_size : ByteArray := method_12_code
def yL_size : MethodName := ⟨RL, "size", "(I)I"⟩
abbrev cL_below : ByteArray := method_13_code
def yL_below : MethodName := ⟨RL, "below", "(III[I[I[I)I"⟩
abbrev cL_column : ByteArray := method_14_code
def yL_column : MethodName := ⟨RL, "column", "(II[I[I[I[I)I"⟩
abbrev cL_semitones : ByteArray := method_15_code
def yL_semitones : MethodName := ⟨RL, "semitones", "(I)I"⟩
abbrev cL_degree : ByteArray := method_16_code
def yL_degree : MethodName := ⟨RL, "degree", "(I[I)I"⟩
abbrev cL_step : ByteArray := method_17_code
def yL_step : MethodName := ⟨RL, "step", "(I[I)I"⟩
abbrev cL_stepOf : ByteArray := method_18_code
def yL_stepOf : MethodName := ⟨RL, "stepOf", "(I[I)I"⟩
abbrev cL_apart : ByteArray := method_19_code
def yL_apart : MethodName := ⟨RL, "apart", "(II)I"⟩
abbrev cL_parallels : ByteArray := method_20_code
def yL_parallels : MethodName := ⟨RL, "parallels", "(I[I)I"⟩
abbrev cL_note : ByteArray := method_21_code
def yL_note : MethodName := ⟨RL, "note", "(LHymnPage;II[I[I[I[I)Z"⟩
abbrev cL_fit : ByteArray := method_22_code
def yL_fit : MethodName := ⟨RL, "fit", "(II[I[I[I[I)I"⟩
abbrev cL_told : ByteArray := method_23_code
def yL_told : MethodName := ⟨RL, "told", "(LHymnPage;I[I[I[I[I)Z"⟩
abbrev cL_metres : ByteArray := method_24_code
def yL_metres : MethodName := ⟨RL, "metres", "(LHymnPage;II[I[I[I)Z"⟩
abbrev cL_settle : ByteArray := method_25_code
def yL_settle : MethodName := ⟨RL, "settle", "([I[I[I)V"⟩
abbrev cL_line : ByteArray := method_26_code
def yL_line : MethodName := ⟨RL, "line", "(LHymnPage;II[I)Z"⟩
abbrev cL_act : ByteArray := method_27_code
def yL_act : MethodName := ⟨RL, "act", "(LHymnPage;III[I[I[I[I)Z"⟩
abbrev cL_moved : ByteArray := method_28_code
def yL_moved : MethodName := ⟨RL, "moved", "(II)I"⟩
abbrev cL_law : ByteArray := code
def yL_law : MethodName := ⟨RL, "law", "([I)Z"⟩
abbrev vwCl : List vw_C := [(RX0, TX0, 2), (RX1, TX1, 3), (RX2, TX2, 5), (RX3, TX3, 2), (RX5, TX5, 3), (RX6, TX6, 6), (RX7, TX7, 4), (RX8, TX8, 6), (RX9, TX9, 2), (RX10, TX10, 10)]
end
section
/-! The world of one run: cells 0..29 are the class's, 30..33 the law's d, no, re, li, made once, at addresses that are variables; 34 and 35 are the law's su and me, where they stand; their ints and longs are two functions of cell and slot. -/
abbrev hyM : Type := (Nat → Nat → Int32) × (Nat → Nat → Int64)
abbrev hyT : Type := hyM × hyM × hyM
/-- tables; classes of int, boolean and long arrays; cells' addresses; static arrays' addresses; strings' addresses; what may be written -/
abbrev hyG : Type := va_G × ClassId × (Nat → Nat) × (Nat → Nat) × (Nat → Nat) × (Nat → Prop) × (Nat × Nat × Nat × (Nat → Int32))
abbrev adr (G : hyG) (k : Nat) : Nat := G.2.2.1 k
abbrev exa (G : hyG) (k : Nat) : Nat := G.2.2.2.1 k
abbrev sta (G : hyG) (k : Nat) : Nat := G.2.2.2.2.1 k
abbrev hyA (G : hyG) : Nat → Prop := G.2.2.2.2.2.1
/-- how many of su and me stand; the script: its cell, its length, its ints -/
def exn (G : hyG) : Nat := G.2.2.2.2.2.2.1
def scb (G : hyG) : Nat := G.2.2.2.2.2.2.2.1
def scn (G : hyG) : Nat := G.2.2.2.2.2.2.2.2.1
def scf (G : hyG) : Nat → Int32 := G.2.2.2.2.2.2.2.2.2
theorem hy34 (G : hyG) {c : Nat} (h : c < 34) : c < 34 + exn G := Nat.lt_of_lt_of_le h (Nat.le_add_right _ _)
abbrev hyTy (G : hyG) : List (ClassId × FieldType) := [(G.2.1, .int)]
def pkM (T : hyT) (c : Nat) : hyM := if c < 30 then T.1 else if c < 51 then T.2.1 else T.2.2
def arI (G : hyG) (n : Nat) (f : Nat → Int32) : va_E := .inl (G.2.1, n, .inl f)
def ent (G : hyG) (c : Nat) (f : Nat → Int32) (g : Nat → Int64) : va_E := match c with
  | 0 => .inr (9, [.ref (adr G 1), .ref (adr G 4), .ref (adr G 5), .ref (adr G 9), .ref (adr G 12), .ref (adr G 18), .ref (adr G 21), .ref (adr G 25), .ref (adr G 28), .int (f 9)])
  | 1 => .inr (7, [.ref (adr G 2), .ref (adr G 3), .long (g 2), .long (g 3), .int (f 4), .int (f 5)])
  | 2 => arI G 40 f
  | 3 => arI G 160 f
  | 4 => .inr (0, [.int (f 0), .int (f 1)])
  | 5 => .inr (6, [.ref (adr G 6), .ref (adr G 7), .ref (adr G 8), .int (f 3)])
  | 6 => arI G 3 f
  | 7 => arI G 3 f
  | 8 => arI G 3 f
  | 9 => .inr (8, [.ref (adr G 10), .ref (adr G 11)])
  | 10 => arI G 96 f
  | 11 => arI G 2880 f
  | 12 => .inr (5, [.ref (adr G 13), .ref (adr G 14), .ref (adr G 15), .ref (adr G 16), .ref (adr G 17), .int (f 5)])
  | 13 => arI G 40 f
  | 14 => arI G 40 f
  | 15 => arI G 40 f
  | 16 => arI G 40 f
  | 17 => arI G 40 f
  | 18 => .inr (4, [.ref (adr G 19), .ref (adr G 20), .int (f 2)])
  | 19 => arI G 80 f
  | 20 => arI G 40 f
  | 21 => .inr (2, [.ref (adr G 22), .ref (adr G 23), .ref (adr G 24), .int (f 3), .int (f 4)])
  | 22 => arI G 40 f
  | 23 => arI G 40 f
  | 24 => arI G 40 f
  | 25 => .inr (1, [.ref (adr G 26), .ref (adr G 27), .int (f 2)])
  | 26 => arI G 192 f
  | 27 => arI G 8 f
  | 28 => .inr (3, [.ref (adr G 29), .int (f 1)])
  | 29 => arI G 60 f
  | 30 => arI G 6 f
  | 31 => arI G 60 f
  | 32 => arI G 9 f
  | 33 => arI G 16 f
  | 34 => arI G 30 f
  | _ => arI G 9 f

def wld (G : hyG) (T : hyT) : va_W := (List.range (34 + exn G)).map (fun c => (adr G c, ent G c ((pkM T c).1 c) ((pkM T c).2 c)))
theorem wld_get (G : hyG) (T : hyT) (c : Nat) (h : c < 34 + exn G) : (wld G T)[c]? = some (adr G c, ent G c ((pkM T c).1 c) ((pkM T c).2 c)) := by
  simp [wld, h]
theorem wld_len (G : hyG) (T : hyT) : (wld G T).length = 34 + exn G := by simp [wld]
/-- one slot written -/
def wI (M : hyM) (c k : Nat) (x : Int32) : hyM := (fun c' => if c' = c then upd (M.1 c') k x else M.1 c', M.2)
def wL (M : hyM) (c k : Nat) (x : Int64) : hyM := (M.1, fun c' => if c' = c then vp_updL (M.2 c') k x else M.2 c')
theorem wI_self (M : hyM) (c k : Nat) (x : Int32) : (wI M c k x).1 c = upd (M.1 c) k x := by simp [wI]
theorem wI_ne (M : hyM) {c c' : Nat} (h : c' ≠ c) (k : Nat) (x : Int32) : (wI M c k x).1 c' = M.1 c' := by simp [wI, h]
theorem wI_2 (M : hyM) (c k : Nat) (x : Int32) : (wI M c k x).2 = M.2 := rfl
theorem wL_self (M : hyM) (c k : Nat) (x : Int64) : (wL M c k x).2 c = vp_updL (M.2 c) k x := by simp [wL]
theorem wL_ne (M : hyM) {c c' : Nat} (h : c' ≠ c) (k : Nat) (x : Int64) : (wL M c k x).2 c' = M.2 c' := by simp [wL, h]
theorem wL_1 (M : hyM) (c k : Nat) (x : Int64) : (wL M c k x).1 = M.1 := rfl
def wTI (T : hyT) (c k : Nat) (x : Int32) : hyT := if c < 30 then (wI T.1 c k x, T.2) else if c < 51 then (T.1, wI T.2.1 c k x, T.2.2) else (T.1, T.2.1, wI T.2.2 c k x)
def wTL (T : hyT) (c k : Nat) (x : Int64) : hyT := if c < 30 then (wL T.1 c k x, T.2) else if c < 51 then (T.1, wL T.2.1 c k x, T.2.2) else (T.1, T.2.1, wL T.2.2 c k x)
theorem pkM_wTI (T : hyT) (c k : Nat) (x : Int32) (c' : Nat) : (pkM (wTI T c k x) c').2 c' = (pkM T c').2 c' ∧ (pkM (wTI T c k x) c').1 c' = if c' = c then upd ((pkM T c').1 c') k x else (pkM T c').1 c' := by
  unfold pkM wTI
  by_cases e : c' = c
  · subst e
    by_cases h1 : c' < 30
    · simp [h1, wI]
    · by_cases h2 : c' < 51
      · simp [h1, h2, wI]
      · simp [h1, h2, wI]
  · by_cases h1 : c < 30 <;> by_cases h2 : c < 51 <;> by_cases h3 : c' < 30 <;> by_cases h4 : c' < 51 <;> simp [h1, h2, h3, h4, wI, e]
theorem pkM_wTL (T : hyT) (c k : Nat) (x : Int64) (c' : Nat) : (pkM (wTL T c k x) c').1 c' = (pkM T c').1 c' ∧ (pkM (wTL T c k x) c').2 c' = if c' = c then vp_updL ((pkM T c').2 c') k x else (pkM T c').2 c' := by
  unfold pkM wTL
  by_cases e : c' = c
  · subst e
    by_cases h1 : c' < 30
    · simp [h1, wL]
    · by_cases h2 : c' < 51
      · simp [h1, h2, wL]
      · simp [h1, h2, wL]
  · by_cases h1 : c < 30 <;> by_cases h2 : c < 51 <;> by_cases h3 : c' < 30 <;> by_cases h4 : c' < 51 <;> simp [h1, h2, h3, h4, wL, e]
theorem wld_setI (G : hyG) (T : hyT) (c k : Nat) (x : Int32) (h : c < 34 + exn G) : (wld G T).set c (adr G c, ent G c (upd ((pkM T c).1 c) k x) ((pkM T c).2 c)) = wld G (wTI T c k x) := by
  apply List.ext_getElem?
  intro i
  by_cases hi : i < 34 + exn G
  · rw [wld_get _ _ _ hi, (pkM_wTI T c k x i).1, (pkM_wTI T c k x i).2]
    by_cases e : i = c
    · subst e
      rw [List.getElem?_set_self (by rw [wld_len]; exact h)]
      simp
    · rw [List.getElem?_set_ne (Ne.symm e), wld_get _ _ _ hi]
      simp [e]
  · rw [List.getElem?_eq_none (by rw [List.length_set, wld_len]; omega), List.getElem?_eq_none (by rw [wld_len]; omega)]
theorem wld_setL (G : hyG) (T : hyT) (c k : Nat) (x : Int64) (h : c < 34 + exn G) : (wld G T).set c (adr G c, ent G c ((pkM T c).1 c) (vp_updL ((pkM T c).2 c) k x)) = wld G (wTL T c k x) := by
  apply List.ext_getElem?
  intro i
  by_cases hi : i < 34 + exn G
  · rw [wld_get _ _ _ hi, (pkM_wTL T c k x i).1, (pkM_wTL T c k x i).2]
    by_cases e : i = c
    · subst e
      rw [List.getElem?_set_self (by rw [wld_len]; exact h)]
      simp
    · rw [List.getElem?_set_ne (Ne.symm e), wld_get _ _ _ hi]
      simp [e]
  · rw [List.getElem?_eq_none (by rw [List.length_set, wld_len]; omega), List.getElem?_eq_none (by rw [wld_len]; omega)]
def hyAD (G : hyG) : Prop := (∀ i j, i < 34 + exn G → j < 34 + exn G → adr G i = adr G j → i = j) ∧ ∀ i, i < 34 + exn G → hyA G (adr G i)
theorem hyAD.D {G : hyG} (h : hyAD G) (T : hyT) : va_D (hyA G) (wld G T) := by
  have key : ∀ (k : Nat) (q : Nat × va_E), (wld G T)[k]? = some q → k < 34 + exn G ∧ q.1 = adr G k := by
    intro k q hk
    have hl := (List.getElem?_eq_some_iff.mp hk).1
    rw [wld_len] at hl
    rw [wld_get _ _ _ hl] at hk
    cases hk
    exact ⟨hl, rfl⟩
  refine ⟨fun i j p q hi hj hpq => ?_, fun k q hk => ?_⟩
  · obtain ⟨a1, a2⟩ := key i p hi
    obtain ⟨b1, b2⟩ := key j q hj
    exact h.1 i j a1 b1 (by rw [← a2, ← b2]; exact hpq)
  · obtain ⟨a1, a2⟩ := key k q hk
    rw [a2]
    exact h.2 k a1
end
section
/-! What a method's start says beside its world: the tables' words, the static arrays, the throwing machinery, the texts. -/
def hyNk (w : Cond) : Bool := match w with | .methodLinkNest .. => true | .fieldLinkNest .. => true | .declares .. => true | .castable .. => true | _ => false
def hyGood : List Cond := lw_tbl.filter goodWord
def hyNest : List Cond := lw_tbl.filter hyNk
theorem hy_gin {w : Cond} (i : Nat) (h : lw_tbl[i]? = some w) (g : goodWord w = true) : w ∈ hyGood := List.mem_filter.mpr ⟨List.mem_of_getElem? h, g⟩
theorem hy_nin {w : Cond} (i : Nat) (h : lw_tbl[i]? = some w) (g : hyNk w = true) : w ∈ hyNest := List.mem_filter.mpr ⟨List.mem_of_getElem? h, g⟩
def hyNw (U : State) : Prop := ∀ w ∈ hyNest, va_Nw w U
theorem hyNk_tab {w : Cond} (h : hyNk w = true) : w.onTables = true := by
  cases w <;> first | rfl | (simp [hyNk] at h)
theorem hyNk_warm {w : Cond} (h : hyNk w = true) {s U : State} (hW : s.WarmedH U.vm) (hZ : va_Nw w s) : va_Nw w U := by
  cases w <;> first | exact va_Nw.warmF hW hZ | exact va_Nw.warmM hW hZ | exact va_Nw.warmD hW hZ | exact va_Nw.warmC hW hZ | (simp [hyNk] at h)
theorem hyNw.warm {s U : State} (hW : s.WarmedH U.vm) (h : hyNw s) : hyNw U := fun w hw => hyNk_warm (List.mem_filter.mp hw).2 hW (h w hw)
theorem hyNw.same {u U : State} (hv : u.vm = U.vm) (h : hyNw u) : hyNw U := fun w hw => (h w hw).same (hyNk_tab (List.mem_filter.mp hw).2) hv
theorem hyNw.of {s : State} {args : Array Value} (h : ∀ w ∈ lw_tbl, w.before args s = true) : hyNw s := fun w hw => va_Nw.of (hyNk_tab (List.mem_filter.mp hw).2) (h w (List.mem_filter.mp hw).1)
theorem hyNw.use {s : State} (h : hyNw s) {w : Cond} (hw : w ∈ hyNest) (args : Array Value) : w.before args s = true := (h w hw).use (hyNk_tab (List.mem_filter.mp hw).2)
/-- the static arrays of Key: names, lengths, what they hold -/
def hyKn (i : Nat) : String := match i with | 0 => "MAJOR" | 1 => "TONIC_LETTERS" | 2 => "SHAPES" | _ => "BOTTOM_LINES"
def hyKl (i : Nat) : Nat := match i with | 0 => 7 | 1 => 12 | 2 => 7 | _ => 2
def hyKf (i : Nat) : Nat → Int32 := match i with
  | 0 => fun j => ([0, 2, 4, 5, 7, 9, 11] : List Int32).getD j 0
  | 1 => fun j => ([0, 1, 1, 2, 2, 3, 4, 4, 5, 5, 6, 6] : List Int32).getD j 0
  | 2 => fun j => ([0, 1, 2, 0, 1, 2, 3] : List Int32).getD j 0
  | _ => fun j => ([37, 25] : List Int32).getD j 0
def hyStr : List (Nat × String) := [(300, "an argument is out of range"), (104, "the tune has all its notes"), (113, "there are no notes"), (297, "there is no such number"), (143, "there are all the repeats"), (149, "a repeat has one of these phrases"), (158, "a pitch would be out of range"), (170, "the buffer is full"), (187, "the buffer is not a complete line"), (200, "the buffer is not a complete metre"), (203, "the book is full")]
theorem va_X_lt {b L : Nat} {xs : Nat → Int32} {U : State} {H : Heap} (h : va_X b L xs U H) : b < H.size := (Array.getElem?_eq_some_iff.mp h.choose_spec.1).1
def hyE (G : hyG) (U : State) (H : Heap) : Prop :=
  hyNw U ∧ (∀ i, i < 4 → va_Z "HymnPage$Key" (hyKn i) "[I" (.ref (exa G i)) (hyA G) U H ∧ va_T .int (exa G i) (hyKl i) (fun j => .int (hyKf i j)) (hyA G) U H) ∧
  vx_Zq Bundle.tN "UNASSIGNED_STACK" Bundle.steD (hyA G) U H ∧ vx_Zq Bundle.tN "SUPPRESSED_SENTINEL" Bundle.listD (hyA G) U H ∧ (∀ q ∈ hyStr, vk_R RX10 q.1 q.2 (sta G q.1) U) ∧ va_X (scb G) (scn G) (scf G) U H ∧ ¬ hyA G (scb G)
theorem hyE.kept {G : hyG} {U : State} {H H1 : Heap} (h : hyE G U H) (hq : ∀ a : Nat, a < H.size → ¬ hyA G a → H1[a]? = H[a]?) : hyE G U H1 :=
  ⟨h.1, fun i hi => ⟨(h.2.1 i hi).1.kept hq, (h.2.1 i hi).2.kept hq⟩, h.2.2.1.kept hq, h.2.2.2.1.kept hq, h.2.2.2.2.1, h.2.2.2.2.2.1.kept (hq _ (va_X_lt h.2.2.2.2.2.1) h.2.2.2.2.2.2), h.2.2.2.2.2.2⟩
theorem hyE.warm {G : hyG} {s U : State} {H : Heap} (hW : s.WarmedH U.vm) (h : hyE G s H) : hyE G U H :=
  ⟨h.1.warm hW, fun i hi => ⟨va_Z.moved hW.alike (h.2.1 i hi).1, va_T.moved hW.alike (h.2.1 i hi).2⟩, vx_Zq.moved hW.alike h.2.2.1, vx_Zq.moved hW.alike h.2.2.2.1, fun q hq => (h.2.2.2.2.1 q hq).warm hW, va_X.moved hW.alike h.2.2.2.2.2.1, h.2.2.2.2.2.2⟩
theorem hy_alike {u U : State} (hv : u.vm = U.vm) : u.vm.Alike U.vm := by rw [hv]; exact Vm.Alike.refl _
theorem hyE.same {G : hyG} {u U : State} {H : Heap} (hv : u.vm = U.vm) (h : hyE G u H) : hyE G U H :=
  ⟨h.1.same hv, fun i hi => ⟨va_Z.moved (hy_alike hv) (h.2.1 i hi).1, va_T.moved (hy_alike hv) (h.2.1 i hi).2⟩, vx_Zq.moved (hy_alike hv) h.2.2.1, vx_Zq.moved (hy_alike hv) h.2.2.2.1, fun q hq => vk_R.same hv.symm (h.2.2.2.2.1 q hq), va_X.moved (hy_alike hv) h.2.2.2.2.2.1, h.2.2.2.2.2.2⟩
/-- the static context of a method that starts at s -/
def hyS (G : hyG) (s : State) : Prop := va_K G.1 vwCl (hyTy G) s ∧ hyAD G ∧ (∀ q : Nat, s.heap.size ≤ q → hyA G q) ∧ hyE G s s.heap
def hyP (G : hyG) (T : hyT) (U : State) : Prop := va_P G.1 vwCl (wld G T) U.heap ∧ hyS G U
theorem hyP.blind {G : hyG} {T : hyT} {av : List Value} : FrameBlind (va_Pc av (hyP G T)) := by
  intro a U g mk h
  obtain ⟨h1, h2, h3, h4, h5, h6⟩ := h
  exact ⟨h1, h2, va_K.moved (u := U) (U := U.calling g mk a) (Vm.Alike.refl U.vm) h3, h4, h5, (hyE.same (u := U) (U := U.calling g mk a) (H := U.heap) rfl h6 : hyE G (U.calling g mk a) U.heap)⟩
theorem hyP.at {G : hyG} {T : hyT} {s : State} {H : Heap} {locs : List Loc} (hX : hyS G s) (hP : va_P G.1 vwCl (wld G T) H) (hS : va_S (hyA G) s.heap H locs) {U : State} (hU : U.heap = H) (hW : s.WarmedH U.vm) : hyP G T U := by
  refine ⟨by rw [hU]; exact hP, va_K.moved hW.alike hX.1, hX.2.1, fun q hq => hX.2.2.1 q (Nat.le_trans hS.1 (by rw [← hU]; exact hq)), ?_⟩
  rw [hU]
  exact (hX.2.2.2.kept hS.2.1).warm hW
/-- an outcome: an exception by its number, or what is returned; with the ints and longs behind it -/
abbrev hyO : Type := (Nat ⊕ Option Value) × hyT
def hyEn (k : Nat) : String := match k with | 1 => "java/lang/IllegalArgumentException" | 2 => "java/lang/IllegalStateException" | _ => "java/lang/IndexOutOfBoundsException"
def hyQ (G : hyG) (o : hyO) : Array Value → State → Outcome → State → Prop := fun _ st oc t => ∃ v, o.1 = .inr v ∧ oc = .returned v ∧ va_P G.1 vwCl (wld G o.2) t.heap ∧ va_F (hyA G) st t
def hyXQ (G : hyG) (o : hyO) : String → State → State → Prop := fun E st t => ∃ k, o.1 = .inl k ∧ E = hyEn k ∧ va_P G.1 vwCl (wld G o.2) t.heap ∧ va_F (hyA G) st t
/-- a method's contract: from the world T, with these arguments, it ends with the outcome o; n new exceptions at most -/
def hyC (l : Launch) (y : MethodName) (w0 : Cond) (fr lo n : Nat) (G : hyG) (av : List Value) (T : hyT) (o : hyO) : Prop :=
  vx_Met l y (w0 :: hyGood) ({ frames := fr, cells := n, slots := 6 * n, locals := lo }) (va_Pc av (hyP G T)) (hyQ G o) (hyXQ G o) n (6 * n) (hyA G)
def hyN (o : hyO) : Nat := match o.1 with | .inl _ => 1 | .inr _ => 0
theorem hyGood_in : GoodIn hyGood hyGood := fun w hw => ⟨hw, good_of_word (List.mem_filter.mp hw).2⟩
theorem hyGood_ca {c : Cond} (hc : c ∈ hyGood) : GoodIn hyGood (c :: hyGood) := fun w hw => (List.mem_cons.mp hw).elim (fun e => by subst e; exact hyGood_in _ hc) (fun h => hyGood_in w h)
end
section
/-! Rows over the one world: calls, ends, fields, arrays. -/
theorem hyC.met {l : Launch} {y : MethodName} {w0 : Cond} {fr lo n : Nat} {G : hyG} {av : List Value} {T T2 : hyT} {v : Option Value} (h : hyC l y w0 fr lo n G av T (.inr v, T2)) :
    Met l y (w0 :: hyGood) ({ frames := fr, cells := n, slots := 6 * n, locals := lo }) (va_Pc av (hyP G T)) (hyQ G (.inr v, T2)) n (6 * n) (hyA G) := by
  intro p e ha hc hk s m args below hf hs hP hK
  obtain ⟨t, o, h1, h2, h3, h4⟩ := h p e ha hc hk s m args below hf hs hP hK
  refine ⟨t, o, h1, h2, h3, ?_⟩
  rcases h4 with h4 | ⟨q, -, E, ce, L, ⟨k, h5, -⟩, -⟩
  · exact h4
  · cases h5
def hyMd (y : MethodName) (n : Nat) : Prop := y.cls ≠ "java/lang/invoke/MethodHandle" ∧ y.cls ≠ "java/lang/invoke/VarHandle" ∧ (parseMethodDescriptor y.desc).map (fun d => d.parameters.length) = some n
/-- what the tables say of an instance method, of a static one, of one with handlers -/
def hyMV (y : MethodName) (b : ByteArray) (mL : Nat) (ret : Option FieldType) (n : Nat) : Prop := Cond.code y b mL ret ∈ hyGood ∧ Cond.instanceMethod y ∈ hyGood ∧ Cond.selects y.cls y y ∈ hyGood ∧ Cond.initialized y.cls ∈ hyGood ∧ hyMd y n
def hyMS (y : MethodName) (b : ByteArray) (mL : Nat) (ret : Option FieldType) (n : Nat) : Prop := Cond.code y b mL ret ∈ hyGood ∧ Cond.static y ∈ hyGood ∧ Cond.initialized y.cls ∈ hyGood ∧ hyMd y n
def hyMW (y : MethodName) (b : ByteArray) (mL : Nat) (ret : Option FieldType) (hh : List (Nat × Nat × Nat × Nat)) (n : Nat) : Prop := Cond.codeWith y b mL ret hh ∈ hyGood ∧ Cond.static y ∈ hyGood ∧ Cond.initialized y.cls ∈ hyGood ∧ hyMd y n
section HYR
variable {p : Program} {l : Launch} {e : Env} {R : Room} {s : State} {m : MethodId} {args : Array Value} {below : List Frame} {meth : Method} {c : Code} {H : Heap} {locs : List Loc} {cells slots : Nat} {Q : State → Prop}
variable {cc : ByteArray} {pc nL : Nat} {ls : Array Slot} {rest st0 As : List Value} {G : hyG} {T T2 : hyT} {own : String} {lv : List (Nat × Value)} {y : MethodName} {b : ByteArray} {mL fr lo n n0 index : Nat} {ret : Option FieldType} {v : Option Value} {o : Nat} {ou : hyO} {a : Array Value}
theorem hy_ret (hr : va_Run p l e R s m args below meth c H locs cells slots n (6 * n) (F0 m pc ls st0) rest (hyQ G (.inr v, T2) a) (hyA G)) (hS : va_S (hyA G) s.heap H locs)
    (kk : ∀ (H1 : Heap) (locs1 : List Loc), va_P G.1 vwCl (wld G T2) H1 → va_S (hyA G) s.heap H1 locs1 → W p l e R s m args below meth c H1 locs1 (cells + n) (slots + 6 * n) Q (F0 m (pc + 3) ls (v.toList ++ rest))) : W p l e R s m args below meth c H locs cells slots Q (F0 m pc ls st0) := by
  intro T hT X
  obtain ⟨w, st₀, t, T', L, h0, X', hL, e1, e2, ⟨w', h5, h6, h7, h8⟩, st⟩ := hr T hT X
  cases h5
  cases h6
  obtain ⟨-, -, k3⟩ := vx_keep h0 e1 hS (fun _ _ h => h) (fun _ h => h) hL h8
  obtain ⟨t2, a1, b1⟩ := kk T'.heap (locs ++ L) (by rw [e1]; exact h7) k3 T' rfl X'
  exact ⟨t2, st t2 a1, b1⟩
theorem hy_retX {k : Nat} (hr : vx_Run p l e R s m args below meth c H locs cells slots n (6 * n) (F0 m pc ls st0) rest (hyQ G ou a) (hyXQ G ou) (hyA G)) (hS : va_S (hyA G) s.heap H locs)
    (kx : ∀ k, ou.1 = .inl k → ∀ (q : Addr) (ce : Cell) (H1 : Heap) (locs1 : List Loc), va_P G.1 vwCl (wld G ou.2) H1 → va_S (hyA G) s.heap H1 locs1 → H1[q]? = some ce → ce.vm = .none → s.vm.findClass (hyEn k) = some ce.cls → vx_W p l e R s m args below meth c H1 locs1 (cells + n) (slots + 6 * n) Q (F0 m pc ls rest) q)
    (kk : ∀ v, ou.1 = .inr v → ∀ (H1 : Heap) (locs1 : List Loc), va_P G.1 vwCl (wld G ou.2) H1 → va_S (hyA G) s.heap H1 locs1 → W p l e R s m args below meth c H1 locs1 (cells + n) (slots + 6 * n) Q (F0 m (pc + 3) ls (v.toList ++ rest))) : W p l e R s m args below meth c H locs cells slots Q (F0 m pc ls st0) := by
  intro T hT X
  rcases hr T hT X with ⟨w, st₀, t, T', L, h0, X', hL, e1, e2, ⟨w', h5, h6, h7, h8⟩, st⟩ | ⟨q, st₀, t, T', L, E, ce, h0, X', hL, e1, e2, ⟨k, h5, h6, h7, h8⟩, hce, hcv, hcl, st⟩
  · cases h6
    obtain ⟨-, -, k3⟩ := vx_keep h0 e1 hS (fun _ _ h => h) (fun _ h => h) hL h8
    obtain ⟨t2, a1, b1⟩ := kk w h5 T'.heap (locs ++ L) (by rw [e1]; exact h7) k3 T' rfl X'
    exact ⟨t2, st t2 a1, b1⟩
  · subst h6
    obtain ⟨-, -, k3⟩ := vx_keep h0 e1 hS (fun _ _ h => h) (fun _ h => h) hL h8
    obtain ⟨t2, a1, b1⟩ := kx k h5 q ce T'.heap (locs ++ L) (by rw [e1]; exact h7) k3 (by rw [e1]; exact hce) hcv hcl T' rfl X'
    exact ⟨t2, st.trans a1, b1⟩
theorem hy_recv (hX : hyS G s) (hP : va_P G.1 vwCl (wld G T) H) (o ci : Nat) (ho : o < 34) {fs : List Value} {q : vw_C} (he : ent G o ((pkM T o).1 o) ((pkM T o).2 o) = .inr (ci, fs)) (hc : vwCl[ci]? = some q) : ∃ cell : Cell, H[adr G o]? = some cell ∧ cell.vm.isStatics = false ∧ s.vm.findClass q.1 = some cell.cls :=
  va_recv hX.1 hP hc (by rw [wld_get _ _ _ (hy34 G ho), he])
/-- calls: own class's method on an object; static; a nest mate's; a static one with handlers -/
theorem hy_rV (hx : p.tables.exec = Jvm.exec) (hb : c.code = cc) (hml : c.maxLocals = nL) (hown : s.vm.findClass own = some m.cls) (hts : ∀ w ∈ hyGood, w.before args s = true) (hX : hyS G s) (hP : va_P G.1 vwCl (wld G T) H) (hS : va_S (hyA G) s.heap H locs) (hl : lv_has ls nL lv)
    (hM : hyC l y (.code y b mL ret) fr lo n G (.ref (adr G o) :: As) T ou) (hm : hyMV y b mL ret n0) (hk : Cond.methodLink own index y ∈ hyGood)
    (hcl : ∃ cell : Cell, H[adr G o]? = some cell ∧ cell.vm.isStatics = false ∧ s.vm.findClass y.cls = some cell.cls) (hn : As.length = n0) (hst : st0 = As.reverse ++ .ref (adr G o) :: rest) (hcat : (rest.map fun v => v.category).sum ≤ 8) (hdg : decode cc pc = .ok (.invokevirtual index, 3)) (hR : fr + 1 ≤ R.frames ∧ 8 + (mL + 11) + lo ≤ R.locals) (hf : cells + n ≤ R.cells ∧ slots + 6 * n ≤ R.slots) :
    vx_Run p l e R s m args below meth c H locs cells slots n (6 * n) (F0 m pc ls st0) rest (hyQ G ou (Value.ref (adr G o) :: As).toArray) (hyXQ G ou) (hyA G) := by
  obtain ⟨m1, m2, m3, m4, m5⟩ := hm
  refine vx_runV ⟨hx, hb, hml, hown, hts⟩ hM ⟨callB_of n0 hts (hyGood_ca m1) rfl rfl rfl (hts _ m4) (hts _ hk) m5 hR, hts _ m2, hts _ m3⟩ ⟨hyP.blind, hcl, fun U hU hW => ⟨rfl, hyP.at hX hP hS hU hW⟩⟩ rfl hn hl.1 hst (lv_room hcat) hdg hf
theorem hy_rS (hx : p.tables.exec = Jvm.exec) (hb : c.code = cc) (hml : c.maxLocals = nL) (hown : s.vm.findClass own = some m.cls) (hts : ∀ w ∈ hyGood, w.before args s = true) (hX : hyS G s) (hP : va_P G.1 vwCl (wld G T) H) (hS : va_S (hyA G) s.heap H locs) (hl : lv_has ls nL lv)
    (hM : hyC l y (.code y b mL ret) fr lo n G As T ou) (hm : hyMS y b mL ret n0) (hk : Cond.methodLink own index y ∈ hyGood)
    (hn : As.length = n0) (hst : st0 = As.reverse ++ rest) (hcat : (rest.map fun v => v.category).sum ≤ 8) (hdg : decode cc pc = .ok (.invokestatic index, 3)) (hR : fr + 1 ≤ R.frames ∧ 8 + (mL + 11) + lo ≤ R.locals) (hf : cells + n ≤ R.cells ∧ slots + 6 * n ≤ R.slots) :
    vx_Run p l e R s m args below meth c H locs cells slots n (6 * n) (F0 m pc ls st0) rest (hyQ G ou As.toArray) (hyXQ G ou) (hyA G) := by
  obtain ⟨m1, m3, m4, m5⟩ := hm
  refine vx_runS ⟨hx, hb, hml, hown, hts⟩ hM ⟨callB_of n0 hts (hyGood_ca m1) rfl rfl rfl (hts _ m4) (hts _ hk) m5 hR, hts _ m3⟩ ⟨hyP.blind, fun U hU hW => ⟨rfl, hyP.at hX hP hS hU hW⟩⟩ rfl hn hl.1 hst (lv_room hcat) hdg hf
theorem hy_rV0 (hx : p.tables.exec = Jvm.exec) (hb : c.code = cc) (hml : c.maxLocals = nL) (hown : s.vm.findClass own = some m.cls) (hts : ∀ w ∈ hyGood, w.before args s = true) (hX : hyS G s) (hP : va_P G.1 vwCl (wld G T) H) (hS : va_S (hyA G) s.heap H locs) (hl : lv_has ls nL lv)
    (hM : hyC l y (.code y b mL ret) fr lo n G (.ref (adr G o) :: As) T (.inr v, T2)) (hm : hyMV y b mL ret n0) (hk : Cond.methodLink own index y ∈ hyGood)
    (hcl : ∃ cell : Cell, H[adr G o]? = some cell ∧ cell.vm.isStatics = false ∧ s.vm.findClass y.cls = some cell.cls) (hn : As.length = n0) (hst : st0 = As.reverse ++ .ref (adr G o) :: rest) (hcat : (rest.map fun v => v.category).sum ≤ 8) (hdg : decode cc pc = .ok (.invokevirtual index, 3)) (hR : fr + 1 ≤ R.frames ∧ 8 + (mL + 11) + lo ≤ R.locals) (hf : cells + n ≤ R.cells ∧ slots + 6 * n ≤ R.slots) :
    va_Run p l e R s m args below meth c H locs cells slots n (6 * n) (F0 m pc ls st0) rest (hyQ G (.inr v, T2) (Value.ref (adr G o) :: As).toArray) (hyA G) := by
  obtain ⟨m1, m2, m3, m4, m5⟩ := hm
  refine va_runV ⟨hx, hb, hml, hown, hts⟩ hM.met ⟨callB_of n0 hts (hyGood_ca m1) rfl rfl rfl (hts _ m4) (hts _ hk) m5 hR, hts _ m2, hts _ m3⟩ ⟨hyP.blind, hcl, fun U hU hW => ⟨rfl, hyP.at hX hP hS hU hW⟩⟩ rfl hn hl.1 hst (lv_room hcat) hdg hf
theorem hy_rS0 (hx : p.tables.exec = Jvm.exec) (hb : c.code = cc) (hml : c.maxLocals = nL) (hown : s.vm.findClass own = some m.cls) (hts : ∀ w ∈ hyGood, w.before args s = true) (hX : hyS G s) (hP : va_P G.1 vwCl (wld G T) H) (hS : va_S (hyA G) s.heap H locs) (hl : lv_has ls nL lv)
    (hM : hyC l y (.code y b mL ret) fr lo n G As T (.inr v, T2)) (hm : hyMS y b mL ret n0) (hk : Cond.methodLink own index y ∈ hyGood)
    (hn : As.length = n0) (hst : st0 = As.reverse ++ rest) (hcat : (rest.map fun v => v.category).sum ≤ 8) (hdg : decode cc pc = .ok (.invokestatic index, 3)) (hR : fr + 1 ≤ R.frames ∧ 8 + (mL + 11) + lo ≤ R.locals) (hf : cells + n ≤ R.cells ∧ slots + 6 * n ≤ R.slots) :
    va_Run p l e R s m args below meth c H locs cells slots n (6 * n) (F0 m pc ls st0) rest (hyQ G (.inr v, T2) As.toArray) (hyA G) := by
  obtain ⟨m1, m3, m4, m5⟩ := hm
  refine va_runS ⟨hx, hb, hml, hown, hts⟩ hM.met ⟨callB_of n0 hts (hyGood_ca m1) rfl rfl rfl (hts _ m4) (hts _ hk) m5 hR, hts _ m3⟩ ⟨hyP.blind, fun U hU hW => ⟨rfl, hyP.at hX hP hS hU hW⟩⟩ rfl hn hl.1 hst (lv_room hcat) hdg hf
theorem hy_rVN {host : String} (hx : p.tables.exec = Jvm.exec) (hb : c.code = cc) (hml : c.maxLocals = nL) (hown : s.vm.findClass own = some m.cls) (hts : ∀ w ∈ hyGood, w.before args s = true) (hX : hyS G s) (hP : va_P G.1 vwCl (wld G T) H) (hS : va_S (hyA G) s.heap H locs) (hl : lv_has ls nL lv)
    (hM : hyC l y (.code y b mL ret) fr lo n G (.ref (adr G o) :: As) T (.inr v, T2)) (hm : hyMV y b mL ret n0) (hk : Cond.methodLinkNest own index y host ∈ hyNest)
    (hcl : ∃ cell : Cell, H[adr G o]? = some cell ∧ cell.vm.isStatics = false ∧ s.vm.findClass y.cls = some cell.cls) (hn : As.length = n0) (hst : st0 = As.reverse ++ .ref (adr G o) :: rest) (hcat : (rest.map fun v => v.category).sum ≤ 8) (hdg : decode cc pc = .ok (.invokevirtual index, 3)) (hR : fr + 1 ≤ R.frames ∧ 8 + (mL + 11) + lo ≤ R.locals) (hf : cells + n ≤ R.cells ∧ slots + 6 * n ≤ R.slots) :
    va_Run p l e R s m args below meth c H locs cells slots n (6 * n) (F0 m pc ls st0) rest (hyQ G (.inr v, T2) (Value.ref (adr G o) :: As).toArray) (hyA G) := by
  obtain ⟨m1, m2, m3, m4, m5⟩ := hm
  refine va_runVN ⟨hx, hb, hml, hown, hts⟩ hM.met ⟨va_cnB n0 hts (hyGood_ca m1) rfl rfl rfl (hX.2.2.2.1 _ hk) (hts _ m4) m5 hR, hts _ m2, hts _ m3⟩ ⟨hyP.blind, hcl, fun U hU hW => ⟨rfl, hyP.at hX hP hS hU hW⟩⟩ rfl hn hl.1 hst (lv_room hcat) hdg hf
theorem hy_rSN {host : String} (hx : p.tables.exec = Jvm.exec) (hb : c.code = cc) (hml : c.maxLocals = nL) (hown : s.vm.findClass own = some m.cls) (hts : ∀ w ∈ hyGood, w.before args s = true) (hX : hyS G s) (hP : va_P G.1 vwCl (wld G T) H) (hS : va_S (hyA G) s.heap H locs) (hl : lv_has ls nL lv)
    (hM : hyC l y (.code y b mL ret) fr lo n G As T (.inr v, T2)) (hm : hyMS y b mL ret n0) (hk : Cond.methodLinkNest own index y host ∈ hyNest)
    (hn : As.length = n0) (hst : st0 = As.reverse ++ rest) (hcat : (rest.map fun v => v.category).sum ≤ 8) (hdg : decode cc pc = .ok (.invokestatic index, 3)) (hR : fr + 1 ≤ R.frames ∧ 8 + (mL + 11) + lo ≤ R.locals) (hf : cells + n ≤ R.cells ∧ slots + 6 * n ≤ R.slots) :
    va_Run p l e R s m args below meth c H locs cells slots n (6 * n) (F0 m pc ls st0) rest (hyQ G (.inr v, T2) As.toArray) (hyA G) := by
  obtain ⟨m1, m3, m4, m5⟩ := hm
  refine va_runSN ⟨hx, hb, hml, hown, hts⟩ hM.met ⟨va_cnB n0 hts (hyGood_ca m1) rfl rfl rfl (hX.2.2.2.1 _ hk) (hts _ m4) m5 hR, hts _ m3, trivial⟩ ⟨hyP.blind, fun U hU hW => ⟨rfl, hyP.at hX hP hS hU hW⟩⟩ rfl hn hl.1 hst (lv_room hcat) hdg hf
theorem hy_rSW {hh : List (Nat × Nat × Nat × Nat)} (hx : p.tables.exec = Jvm.exec) (hb : c.code = cc) (hml : c.maxLocals = nL) (hown : s.vm.findClass own = some m.cls) (hts : ∀ w ∈ hyGood, w.before args s = true) (hX : hyS G s) (hP : va_P G.1 vwCl (wld G T) H) (hS : va_S (hyA G) s.heap H locs) (hl : lv_has ls nL lv)
    (hM : hyC l y (.codeWith y b mL ret hh) fr lo n G As T (.inr v, T2)) (hm : hyMW y b mL ret hh n0) (hk : Cond.methodLink own index y ∈ hyGood)
    (hn : As.length = n0) (hst : st0 = As.reverse ++ rest) (hcat : (rest.map fun v => v.category).sum ≤ 8) (hdg : decode cc pc = .ok (.invokestatic index, 3)) (hR : fr + 1 ≤ R.frames ∧ 8 + (mL + 11) + lo ≤ R.locals) (hf : cells + n ≤ R.cells ∧ slots + 6 * n ≤ R.slots) :
    va_Run p l e R s m args below meth c H locs cells slots n (6 * n) (F0 m pc ls st0) rest (hyQ G (.inr v, T2) As.toArray) (hyA G) := by
  obtain ⟨m1, m3, m4, m5⟩ := hm
  have hG : GoodIn hyGood (va_wsS own index y (Cond.codeWith y b mL ret hh :: hyGood)) := fun w hw => by
    rcases List.mem_append.mp hw with h | h
    · have h9 : w = Cond.methodLink own index y ∨ w = Cond.static y ∨ w = Cond.initialized y.cls := by simpa using h
      rcases h9 with rfl | rfl | rfl
      · exact hyGood_in _ hk
      · exact hyGood_in _ m3
      · exact hyGood_in _ m4
    · exact hyGood_ca m1 w h
  refine vx_runSW ⟨hx, hb, hml, hown, hts⟩ hM.met (vx_cwSW n0 hts hG rfl rfl rfl m5 hR) ⟨hyP.blind, fun U hU hW => ⟨rfl, hyP.at hX hP hS hU hW⟩⟩ rfl hn hl.1 hst (lv_room hcat) hdg hf
end HYR
end
section
section HYF
variable {p : Program} {l : Launch} {e : Env} {R : Room} {s : State} {m : MethodId} {args : Array Value} {below : List Frame} {meth : Method} {c : Code} {H : Heap} {locs : List Loc} {cells slots : Nat} {Q : State → Prop}
variable {cc : ByteArray} {pc nL : Nat} {ls : Array Slot} {rest st0 As : List Value} {G : hyG} {T T2 : hyT} {own : String} {lv : List (Nat × Value)} {o k ci N index : Nat} {C : String} {Tb : u_T} {fs : List Value} {v : Value}
theorem hy_get (hx : p.tables.exec = Jvm.exec) (hb : c.code = cc) (hown : s.vm.findClass own = some m.cls) (hts : ∀ w ∈ hyGood, w.before args s = true) (hX : hyS G s) (hP : va_P G.1 vwCl (wld G T) H)
    (ho : o < 34) (he : ent G o ((pkM T o).1 o) ((pkM T o).2 o) = .inr (ci, fs)) (hc : vwCl[ci]? = some (C, Tb, N)) (hin : ∀ w ∈ u_ws C Tb N, w ∈ hyGood) (hk : k < N) (hlink : Cond.fieldLink own index (Tb k).1 (Tb k).2.1 (Tb k).2.2.1 ∈ hyGood) (hv : fs[k]? = some v) (hdg : decode cc pc = .ok (.getfield index, 3))
    (kk : W p l e R s m args below meth c H locs cells slots Q (F0 m (pc + 3) ls (v :: rest))) : W p l e R s m args below meth c H locs cells slots Q (F0 m pc ls (.ref (adr G o) :: rest)) :=
  va_get (D := G.1) hx hb hts hin hown hX.1 hP o (by rw [wld_get _ _ _ (hy34 G ho), he]) hc k hk (hts _ hlink) (fun _ h9 => h9) hv hdg kk
theorem hy_getN {host : String} (hx : p.tables.exec = Jvm.exec) (hb : c.code = cc) (hown : s.vm.findClass own = some m.cls) (hts : ∀ w ∈ hyGood, w.before args s = true) (hX : hyS G s) (hP : va_P G.1 vwCl (wld G T) H)
    (ho : o < 34) (he : ent G o ((pkM T o).1 o) ((pkM T o).2 o) = .inr (ci, fs)) (hc : vwCl[ci]? = some (C, Tb, N)) (hin : ∀ w ∈ u_ws C Tb N, w ∈ hyGood) (hk : k < N) (hlink : Cond.fieldLinkNest own index (Tb k).1 (Tb k).2.1 (Tb k).2.2.1 host ∈ hyNest) (hv : fs[k]? = some v) (hdg : decode cc pc = .ok (.getfield index, 3))
    (kk : W p l e R s m args below meth c H locs cells slots Q (F0 m (pc + 3) ls (v :: rest))) : W p l e R s m args below meth c H locs cells slots Q (F0 m pc ls (.ref (adr G o) :: rest)) :=
  va_getN (D := G.1) hx hb hts hin hown hX.1 hP o (by rw [wld_get _ _ _ (hy34 G ho), he]) hc k hk (hX.2.2.2.1.use hlink _) (fun _ h9 => h9) hv hdg kk
theorem hy_putI {x : Int32} {ty : FieldType} {ty0 : Nat → FieldType} (hx : p.tables.exec = Jvm.exec) (hb : c.code = cc) (hown : s.vm.findClass own = some m.cls) (hts : ∀ w ∈ hyGood, w.before args s = true) (hX : hyS G s) (hP : va_P G.1 vwCl (wld G T) H) (hS : va_S (hyA G) s.heap H locs)
    (ho : o < 34) (he : ent G o ((pkM T o).1 o) ((pkM T o).2 o) = .inr (ci, fs)) (he2 : ent G o (upd ((pkM T o).1 o) k x) ((pkM T o).2 o) = .inr (ci, fs.set k (.int x))) (hT : wTI T o k x = T2) (hc : vwCl[ci]? = some (C, Tb, N)) (hin : ∀ w ∈ u_ws C Tb N, w ∈ hyGood) (hty : ∀ k, k < N → parseFieldDescriptor (Tb k).2.2.1 = some (ty0 k)) (hnm : ∀ a, a < N → ∀ b, b < N → a ≠ b → (Tb a).2.1 ≠ (Tb b).2.1)
    (hk : k < N) (hlink : Cond.fieldLink own index (Tb k).1 (Tb k).2.1 (Tb k).2.2.1 ∈ hyGood) (hfin : (Tb k).2.2.2 = false) (hd : ty0 k = ty) (hn : narrow ty (.int x) = .int x) (hfit : fits ty (.int x) = true) (hl : k < fs.length) (hdg : decode cc pc = .ok (.putfield index, 3))
    (kk : ∀ (H1 : Heap) (locs1 : List Loc), va_P G.1 vwCl (wld G T2) H1 → va_S (hyA G) s.heap H1 locs1 → W p l e R s m args below meth c H1 locs1 cells slots Q (F0 m (pc + 3) ls rest)) : W p l e R s m args below meth c H locs cells slots Q (F0 m pc ls (.int x :: .ref (adr G o) :: rest)) := by
  subst hT
  refine va_put (D := G.1) (A := hyA G) (ty := ty) hx hb hts hin ty0 hty hnm hown hX.1 hP (hX.2.1.D T) hS o (by rw [wld_get _ _ _ (hy34 G ho), he]) hc k hk (hts _ hlink) (fun _ h9 => h9) hfin (by rw [hty k hk, hd]) hn hfit hl hdg (fun H1 locs1 h1 _ h3 => ?_)
  rw [← he2, wld_setI _ _ _ _ _ (hy34 G ho)] at h1
  exact kk H1 locs1 h1 h3
theorem hy_putIN {host : String} {x : Int32} {ty : FieldType} {ty0 : Nat → FieldType} (hx : p.tables.exec = Jvm.exec) (hb : c.code = cc) (hown : s.vm.findClass own = some m.cls) (hts : ∀ w ∈ hyGood, w.before args s = true) (hX : hyS G s) (hP : va_P G.1 vwCl (wld G T) H) (hS : va_S (hyA G) s.heap H locs)
    (ho : o < 34) (he : ent G o ((pkM T o).1 o) ((pkM T o).2 o) = .inr (ci, fs)) (he2 : ent G o (upd ((pkM T o).1 o) k x) ((pkM T o).2 o) = .inr (ci, fs.set k (.int x))) (hT : wTI T o k x = T2) (hc : vwCl[ci]? = some (C, Tb, N)) (hin : ∀ w ∈ u_ws C Tb N, w ∈ hyGood) (hty : ∀ k, k < N → parseFieldDescriptor (Tb k).2.2.1 = some (ty0 k)) (hnm : ∀ a, a < N → ∀ b, b < N → a ≠ b → (Tb a).2.1 ≠ (Tb b).2.1)
    (hk : k < N) (hlink : Cond.fieldLinkNest own index (Tb k).1 (Tb k).2.1 (Tb k).2.2.1 host ∈ hyNest) (hfin : (Tb k).2.2.2 = false) (hd : ty0 k = ty) (hn : narrow ty (.int x) = .int x) (hfit : fits ty (.int x) = true) (hl : k < fs.length) (hdg : decode cc pc = .ok (.putfield index, 3))
    (kk : ∀ (H1 : Heap) (locs1 : List Loc), va_P G.1 vwCl (wld G T2) H1 → va_S (hyA G) s.heap H1 locs1 → W p l e R s m args below meth c H1 locs1 cells slots Q (F0 m (pc + 3) ls rest)) : W p l e R s m args below meth c H locs cells slots Q (F0 m pc ls (.int x :: .ref (adr G o) :: rest)) := by
  subst hT
  refine va_putN (D := G.1) (A := hyA G) (ty := ty) hx hb hts hin ty0 hty hnm hown hX.1 hP (hX.2.1.D T) hS o (by rw [wld_get _ _ _ (hy34 G ho), he]) hc k hk (hX.2.2.2.1.use hlink _) (fun _ h9 => h9) hfin (by rw [hty k hk, hd]) hn hfit hl hdg (fun H1 locs1 h1 _ h3 => ?_)
  rw [← he2, wld_setI _ _ _ _ _ (hy34 G ho)] at h1
  exact kk H1 locs1 h1 h3
theorem hy_putL {x : Int64} {ty0 : Nat → FieldType} (hx : p.tables.exec = Jvm.exec) (hb : c.code = cc) (hown : s.vm.findClass own = some m.cls) (hts : ∀ w ∈ hyGood, w.before args s = true) (hX : hyS G s) (hP : va_P G.1 vwCl (wld G T) H) (hS : va_S (hyA G) s.heap H locs)
    (ho : o < 34) (he : ent G o ((pkM T o).1 o) ((pkM T o).2 o) = .inr (ci, fs)) (he2 : ent G o ((pkM T o).1 o) (vp_updL ((pkM T o).2 o) k x) = .inr (ci, fs.set k (.long x))) (hT : wTL T o k x = T2) (hc : vwCl[ci]? = some (C, Tb, N)) (hin : ∀ w ∈ u_ws C Tb N, w ∈ hyGood) (hty : ∀ k, k < N → parseFieldDescriptor (Tb k).2.2.1 = some (ty0 k)) (hnm : ∀ a, a < N → ∀ b, b < N → a ≠ b → (Tb a).2.1 ≠ (Tb b).2.1)
    (hk : k < N) (hlink : Cond.fieldLink own index (Tb k).1 (Tb k).2.1 (Tb k).2.2.1 ∈ hyGood) (hfin : (Tb k).2.2.2 = false) (hd : ty0 k = .long) (hl : k < fs.length) (hdg : decode cc pc = .ok (.putfield index, 3))
    (kk : ∀ (H1 : Heap) (locs1 : List Loc), va_P G.1 vwCl (wld G T2) H1 → va_S (hyA G) s.heap H1 locs1 → W p l e R s m args below meth c H1 locs1 cells slots Q (F0 m (pc + 3) ls rest)) : W p l e R s m args below meth c H locs cells slots Q (F0 m pc ls (.long x :: .ref (adr G o) :: rest)) := by
  subst hT
  refine va_put (D := G.1) (A := hyA G) (ty := .long) hx hb hts hin ty0 hty hnm hown hX.1 hP (hX.2.1.D T) hS o (by rw [wld_get _ _ _ (hy34 G ho), he]) hc k hk (hts _ hlink) (fun _ h9 => h9) hfin (by rw [hty k hk, hd]) rfl rfl hl hdg (fun H1 locs1 h1 _ h3 => ?_)
  rw [← he2, wld_setL _ _ _ _ _ (hy34 G ho)] at h1
  exact kk H1 locs1 h1 h3
theorem hy_putLN {host : String} {x : Int64} {ty0 : Nat → FieldType} (hx : p.tables.exec = Jvm.exec) (hb : c.code = cc) (hown : s.vm.findClass own = some m.cls) (hts : ∀ w ∈ hyGood, w.before args s = true) (hX : hyS G s) (hP : va_P G.1 vwCl (wld G T) H) (hS : va_S (hyA G) s.heap H locs)
    (ho : o < 34) (he : ent G o ((pkM T o).1 o) ((pkM T o).2 o) = .inr (ci, fs)) (he2 : ent G o ((pkM T o).1 o) (vp_updL ((pkM T o).2 o) k x) = .inr (ci, fs.set k (.long x))) (hT : wTL T o k x = T2) (hc : vwCl[ci]? = some (C, Tb, N)) (hin : ∀ w ∈ u_ws C Tb N, w ∈ hyGood) (hty : ∀ k, k < N → parseFieldDescriptor (Tb k).2.2.1 = some (ty0 k)) (hnm : ∀ a, a < N → ∀ b, b < N → a ≠ b → (Tb a).2.1 ≠ (Tb b).2.1)
    (hk : k < N) (hlink : Cond.fieldLinkNest own index (Tb k).1 (Tb k).2.1 (Tb k).2.2.1 host ∈ hyNest) (hfin : (Tb k).2.2.2 = false) (hd : ty0 k = .long) (hl : k < fs.length) (hdg : decode cc pc = .ok (.putfield index, 3))
    (kk : ∀ (H1 : Heap) (locs1 : List Loc), va_P G.1 vwCl (wld G T2) H1 → va_S (hyA G) s.heap H1 locs1 → W p l e R s m args below meth c H1 locs1 cells slots Q (F0 m (pc + 3) ls rest)) : W p l e R s m args below meth c H locs cells slots Q (F0 m pc ls (.long x :: .ref (adr G o) :: rest)) := by
  subst hT
  refine va_putN (D := G.1) (A := hyA G) (ty := .long) hx hb hts hin ty0 hty hnm hown hX.1 hP (hX.2.1.D T) hS o (by rw [wld_get _ _ _ (hy34 G ho), he]) hc k hk (hX.2.2.2.1.use hlink _) (fun _ h9 => h9) hfin (by rw [hty k hk, hd]) rfl rfl hl hdg (fun H1 locs1 h1 _ h3 => ?_)
  rw [← he2, wld_setL _ _ _ _ _ (hy34 G ho)] at h1
  exact kk H1 locs1 h1 h3
variable {f : Nat → Int32} {g : Nat → Int64} {n : Nat} {i x : Int32} {y : Int64}
def inb (i : Int32) (n : Nat) : Bool := !(decide (i < 0) || decide (n ≤ i.toNatClampNeg))
theorem inb_vp {i : Int32} {n : Nat} (h : inb i n = true) : vp_in i n := by
  simp only [inb, Bool.not_eq_true', Bool.or_eq_false_iff, decide_eq_false_iff_not] at h
  exact fun q => q.elim h.1 h.2
theorem hy_iald (hx : p.tables.exec = Jvm.exec) (hb : c.code = cc) (hX : hyS G s) (hP : va_P G.1 vwCl (wld G T) H) (o n : Nat) (f : Nat → Int32) (ho : o < 34 + exn G) (he : ent G o ((pkM T o).1 o) ((pkM T o).2 o) = arI G n f) (hi : inb i n = true) (hdg : decode cc pc = .ok (.iaload, 1))
    (kk : W p l e R s m args below meth c H locs cells slots Q (F0 m (pc + 1) ls (.int (f i.toNatClampNeg) :: rest))) : W p l e R s m args below meth c H locs cells slots Q (F0 m pc ls (.int i :: .ref (adr G o) :: rest)) :=
  va_iald hx hb hX.1 hP o 0 (by rw [wld_get _ _ _ ho, he]; rfl) rfl (inb_vp hi) hdg kk
theorem hy_iast (hx : p.tables.exec = Jvm.exec) (hb : c.code = cc) (hX : hyS G s) (hP : va_P G.1 vwCl (wld G T) H) (hS : va_S (hyA G) s.heap H locs) (o n : Nat) (ho : o < 34 + exn G) (he : ∀ f g, ent G o f g = arI G n f) (hi : inb i n = true) (hT : wTI T o i.toNatClampNeg x = T2) (hdg : decode cc pc = .ok (.iastore, 1))
    (kk : ∀ (H1 : Heap) (locs1 : List Loc), va_P G.1 vwCl (wld G T2) H1 → va_S (hyA G) s.heap H1 locs1 → W p l e R s m args below meth c H1 locs1 cells slots Q (F0 m (pc + 1) ls rest)) : W p l e R s m args below meth c H locs cells slots Q (F0 m pc ls (.int x :: .int i :: .ref (adr G o) :: rest)) := by
  subst hT
  refine va_iast hx hb hX.1 hP (hX.2.1.D T) hS o 0 (by rw [wld_get _ _ _ ho, he]; rfl) rfl (inb_vp hi) hdg (fun H1 locs1 h1 _ h3 => kk H1 locs1 ?_ h3)
  have h4 := wld_setI G T o i.toNatClampNeg x ho
  rw [he] at h4
  rw [← h4]
  exact h1
theorem hy_alen {v : Int32} (hx : p.tables.exec = Jvm.exec) (hb : c.code = cc) (hX : hyS G s) (hP : va_P G.1 vwCl (wld G T) H) (o n : Nat) (ho : o < 34 + exn G) (he : ∀ f g, ent G o f g = arI G n f) (hv : Int32.ofNat n = v) (hdg : decode cc pc = .ok (.arraylength, 1))
    (kk : W p l e R s m args below meth c H locs cells slots Q (F0 m (pc + 1) ls (.int v :: rest))) : W p l e R s m args below meth c H locs cells slots Q (F0 m pc ls (.ref (adr G o) :: rest)) :=
  va_alen hx hb hX.1 hP o 0 (x := (n, .inl ((pkM T o).1 o))) (by rw [wld_get _ _ _ ho, he]; rfl) rfl hv hdg kk
theorem hy_xald (hx : p.tables.exec = Jvm.exec) (hb : c.code = cc) (hX : hyS G s) (hS : va_S (hyA G) s.heap H locs) (o : Nat) (ho : o < 4) (hi : inb i (hyKl o) = true) (hdg : decode cc pc = .ok (.iaload, 1))
    (kk : W p l e R s m args below meth c H locs cells slots Q (F0 m (pc + 1) ls (.int (hyKf o i.toNatClampNeg) :: rest))) : W p l e R s m args below meth c H locs cells slots Q (F0 m pc ls (.int i :: .ref (exa G o) :: rest)) :=
  va_ti hx hb (hX.2.2.2.2.1 o ho).2 hS (inb_vp hi) rfl hdg kk
theorem hy_xlen {v : Int32} (hx : p.tables.exec = Jvm.exec) (hb : c.code = cc) (hX : hyS G s) (hS : va_S (hyA G) s.heap H locs) (o : Nat) (ho : o < 4) (hv : Int32.ofNat (hyKl o) = v) (hdg : decode cc pc = .ok (.arraylength, 1))
    (kk : W p l e R s m args below meth c H locs cells slots Q (F0 m (pc + 1) ls (.int v :: rest))) : W p l e R s m args below meth c H locs cells slots Q (F0 m pc ls (.ref (exa G o) :: rest)) :=
  va_tlen hx hb (hX.2.2.2.2.1 o ho).2 hS hv hdg kk
theorem hy_gets (hx : p.tables.exec = Jvm.exec) (hb : c.code = cc) (hown : s.vm.findClass own = some m.cls) (hts : ∀ w ∈ hyGood, w.before args s = true) (hX : hyS G s) (hS : va_S (hyA G) s.heap H locs) (o : Nat) (ho : o < 4) (hlink : Cond.fieldLink own index "HymnPage$Key" (hyKn o) "[I" ∈ hyGood) (hdg : decode cc pc = .ok (.getstatic index, 3))
    (kk : W p l e R s m args below meth c H locs cells slots Q (F0 m (pc + 3) ls (.ref (exa G o) :: rest))) : W p l e R s m args below meth c H locs cells slots Q (F0 m pc ls rest) :=
  va_gets hx hb (hX.2.2.2.2.1 o ho).1 hS hown (hts _ hlink) (fun _ h => h) hdg kk
end HYF
end
section
section HYN
variable {p : Program} {l : Launch} {e : Env} {R : Room} {s : State} {m : MethodId} {args : Array Value} {below : List Frame} {meth : Method} {c : Code} {H : Heap} {locs : List Loc} {cells slots : Nat} {Q : State → Prop}
variable {cc : ByteArray} {pc nL n : Nat} {ls : Array Slot} {rest st0 As : List Value} {G : hyG} {T T2 : hyT} {own : String} {lv : List (Nat × Value)}
theorem hy_iret {v : Int32} (hx : p.tables.exec = Jvm.exec) (hb : c.code = cc) (hr : meth.sig.returnType = some .int) (hlocks : meth.locks = false) (hP : va_P G.1 vwCl (wld G T) H) (hS : va_S (hyA G) s.heap H locs) (hc : cells ≤ n) (hs : slots ≤ 6 * n) {o : hyO} (ho : (.inr (some (.int v)), T) = o) (hdg : decode cc pc = .ok (.ireturn, 1)) :
    W p l e R s m args below meth c H locs cells slots (vx_MQ below (hyQ G o) (hyXQ G o) args s n (6 * n) (hyA G)) (F0 m pc ls [.int v]) := by
  subst ho
  refine W.widen hc hs (vx_ret (W.iret hx hb hr (fun t ht hW => ⟨_, rfl, rfl, by rw [ht]; exact hP, hS.F ht⟩) hS.2.2 hdg hlocks))
theorem hy_zret {v : Int32} (hx : p.tables.exec = Jvm.exec) (hb : c.code = cc) (hr : meth.sig.returnType = some .boolean) (hlocks : meth.locks = false) (hP : va_P G.1 vwCl (wld G T) H) (hS : va_S (hyA G) s.heap H locs) (hc : cells ≤ n) (hs : slots ≤ 6 * n) (hn : narrow .boolean (.int v) = .int v) {o : hyO} (ho : (.inr (some (.int v)), T) = o) (hdg : decode cc pc = .ok (.ireturn, 1)) :
    W p l e R s m args below meth c H locs cells slots (vx_MQ below (hyQ G o) (hyXQ G o) args s n (6 * n) (hyA G)) (F0 m pc ls [.int v]) := by
  subst ho
  refine W.widen hc hs (vx_ret (W.zret hx hb hr hn (fun t ht hW => ⟨_, rfl, rfl, by rw [ht]; exact hP, hS.F ht⟩) hS.2.2 hdg hlocks))
theorem hy_lret {v : Int64} (hx : p.tables.exec = Jvm.exec) (hb : c.code = cc) (hr : meth.sig.returnType = some .long) (hlocks : meth.locks = false) (hP : va_P G.1 vwCl (wld G T) H) (hS : va_S (hyA G) s.heap H locs) (hc : cells ≤ n) (hs : slots ≤ 6 * n) {o : hyO} (ho : (.inr (some (.long v)), T) = o) (hdg : decode cc pc = .ok (.lreturn, 1)) :
    W p l e R s m args below meth c H locs cells slots (vx_MQ below (hyQ G o) (hyXQ G o) args s n (6 * n) (hyA G)) (F0 m pc ls [.long v]) := by
  subst ho
  refine W.widen hc hs (vx_ret (W.lret hx hb hr (fun t ht hW => ⟨_, rfl, rfl, by rw [ht]; exact hP, hS.F ht⟩) hS.2.2 hdg hlocks))
theorem hy_dret {v : UInt64} (hx : p.tables.exec = Jvm.exec) (hb : c.code = cc) (hr : meth.sig.returnType = some .double) (hlocks : meth.locks = false) (hP : va_P G.1 vwCl (wld G T) H) (hS : va_S (hyA G) s.heap H locs) (hc : cells ≤ n) (hs : slots ≤ 6 * n) {o : hyO} (ho : (.inr (some (.double v)), T) = o) (hdg : decode cc pc = .ok (.dreturn, 1)) :
    W p l e R s m args below meth c H locs cells slots (vx_MQ below (hyQ G o) (hyXQ G o) args s n (6 * n) (hyA G)) (F0 m pc ls [.double v]) := by
  subst ho
  refine W.widen hc hs (vx_ret (W.dret hx hb hr (fun t ht hW => ⟨_, rfl, rfl, by rw [ht]; exact hP, hS.F ht⟩) hS.2.2 hdg hlocks))
theorem hy_vret (hx : p.tables.exec = Jvm.exec) (hb : c.code = cc) (hr : meth.sig.returnType = none) (hlocks : meth.locks = false) (hP : va_P G.1 vwCl (wld G T) H) (hS : va_S (hyA G) s.heap H locs) (hc : cells ≤ n) (hs : slots ≤ 6 * n) {o : hyO} (ho : (.inr none, T) = o) (hdg : decode cc pc = .ok (.return_, 1)) :
    W p l e R s m args below meth c H locs cells slots (vx_MQ below (hyQ G o) (hyXQ G o) args s n (6 * n) (hyA G)) (F0 m pc ls []) := by
  subst ho
  refine W.widen hc hs (vx_ret (W.vret hx hb hr (fun t ht hW => ⟨_, rfl, rfl, by rw [ht]; exact hP, hS.F ht⟩) hS.2.2 hdg hlocks))
theorem hy_out {q : Addr} {ce : Cell} {k : Nat} (hout : ∀ x ∈ c.exceptionTable.toList, False) (hlocks : meth.locks = false) (hP : va_P G.1 vwCl (wld G T) H) (hS : va_S (hyA G) s.heap H locs) (hc : cells ≤ n) (hs : slots ≤ 6 * n) {o : hyO} (ho : (.inl k, T) = o) (hcell : H[q]? = some ce) (hv : ce.vm = .none) (hcl : s.vm.findClass (hyEn k) = some ce.cls) :
    vx_W p l e R s m args below meth c H locs cells slots (vx_MQ below (hyQ G o) (hyXQ G o) args s n (6 * n) (hyA G)) (F0 m pc ls rest) q := by
  subst ho
  exact vx_out (fun x hx => (hout x hx).elim) hlocks hcell hv hcl (fun t ht hW => ⟨k, rfl, rfl, by rw [ht]; exact hP, hS.F ht⟩) hS.2.2 hc hs
theorem hy_ofWF {l : Launch} {y : MethodName} {ws ws' : List Cond} {rm : Room} {Pc : Array Value → State → Prop} {Qc : Array Value → State → Outcome → State → Prop} {XC : String → State → State → Prop} {mc ms : Nat} {free : Addr → Prop} {cc : ByteArray} {maxL : Nat} {ret : Option FieldType}
    (hy : plainFor y = true) (hw : ws = Cond.code y cc maxL ret :: ws')
    (body : ∀ p e s m args below meth c s₁, BodyLoose p l y (headSpec ws rm) cc maxL ret e s m args below meth c s₁ → c.maxLocals = maxL → (∀ x ∈ c.exceptionTable.toList, False) → Pc args s →
      W p l e (headSpec ws rm).room s m args below meth c s.heap [] 0 0 (vx_MQ below Qc XC args s mc ms free) (entryFrame m args maxL)) : vx_Met l y ws rm Pc Qc XC mc ms free := by
  refine MetFree.of_bodySF (code := cc) (maxLocals := maxL) (ret := ret) hy ?_ ?_
  · intro args s m h hn
    obtain ⟨meth, c, h1, h2, h3, h4, h5, h6, -, -⟩ := Cond.code_spec hn (atoms_spec (ws := ws) h _ (by rw [hw]; exact List.mem_cons_self))
    exact ⟨meth, c, h1, h2, h3, h4, h5, h6⟩
  · intro p e s m args below meth c s₁ B hml hP _
    have hh0 : s₁.heap = s.heap := by rw [B.state]; rfl
    have ht : ∀ x ∈ c.exceptionTable.toList, False := by
      obtain ⟨meth9, c9, h1, h2, -, -, -, -, h7, -⟩ := Cond.code_spec B.named (atoms_spec (ws := ws) B.pre _ (by rw [hw]; exact List.mem_cons_self))
      cases Option.some.inj (h1.symm.trans B.method)
      cases Option.some.inj (h2.symm.trans (Stand.of_body B).code)
      intro x hx
      rw [Array.isEmpty_iff.mp h7] at hx
      cases hx
    obtain ⟨t, a1, o, b1, b2, b3⟩ := body p e s m args below meth c s₁ B hml ht hP s₁ hh0 (Stand.of_body B)
    exact ⟨t, o, a1, b1, b2, b3⟩
theorem hy_of {l : Launch} {y : MethodName} {cc : ByteArray} {mL fr lo n : Nat} {ret : Option FieldType} {G : hyG} {av : List Value} {T : hyT} {o : hyO} (hy : plainFor y = true) (hle : (lg_sl av).length ≤ mL)
    (body : ∀ (p : Program) (e : Env) (s : State) (m : MethodId) (below : List Frame) (meth : Method) (c : Code), p.tables.exec = Jvm.exec → c.code = cc → c.maxLocals = mL → s.vm.findClass y.cls = some m.cls → (∀ w ∈ hyGood, w.before av.toArray s = true) → meth.sig.returnType = ret → meth.locks = false → (∀ x ∈ c.exceptionTable.toList, False) → hyS G s → va_P G.1 vwCl (wld G T) s.heap → va_S (hyA G) s.heap s.heap [] →
      ∀ ls : Array Slot, lv_has ls mL (lv_args 0 av) → W p l e { frames := fr, cells := n, slots := 6 * n, locals := lo } s m av.toArray below meth c s.heap [] 0 0 (vx_MQ below (hyQ G o) (hyXQ G o) av.toArray s n (6 * n) (hyA G)) (F0 m 0 ls [])) : hyC l y (.code y cc mL ret) fr lo n G av T o := by
  refine hy_ofWF hy rfl ?_
  intro p e s m args below meth c s₁ B hml ht hv
  obtain ⟨rfl, hP, hX⟩ := hv
  have hts := atoms_spec (ws := Cond.code y cc mL ret :: hyGood) B.pre
  have hl := lv_entry av (n := mL) hle
  rw [lg_entry_eq]
  exact body p e s m below meth c B.exec B.bytes hml (findClass_of_methodNamed B.named) (fun w hw => hts w (List.mem_cons_of_mem _ hw)) B.returns B.notSynchronized ht hX hP va_S.rf _ hl
theorem hy_ofH {l : Launch} {y : MethodName} {cc : ByteArray} {mL fr lo n : Nat} {ret : Option FieldType} {hh : List (Nat × Nat × Nat × Nat)} {G : hyG} {av : List Value} {T : hyT} {o : hyO} (hy : plainName y.cls = true) (hle : (lg_sl av).length ≤ mL)
    (body : ∀ (p : Program) (e : Env) (s : State) (m : MethodId) (below : List Frame) (meth : Method) (c : Code), p.tables.exec = Jvm.exec → c.code = cc → c.maxLocals = mL → s.vm.findClass y.cls = some m.cls → (∀ w ∈ hyGood, w.before av.toArray s = true) → meth.sig.returnType = ret → meth.locks = false → c.exceptionTable.toList = tableOf hh → hyS G s → va_P G.1 vwCl (wld G T) s.heap → va_S (hyA G) s.heap s.heap [] →
      ∀ ls : Array Slot, lv_has ls mL (lv_args 0 av) → W p l e { frames := fr, cells := n, slots := 6 * n, locals := lo } s m av.toArray below meth c s.heap [] 0 0 (vx_MQ below (hyQ G o) (hyXQ G o) av.toArray s n (6 * n) (hyA G)) (F0 m 0 ls [])) : hyC l y (.codeWith y cc mL ret hh) fr lo n G av T o := by
  refine vx_ofWH hy rfl ?_
  intro p e s m args below meth c s₁ B hml hv
  obtain ⟨rfl, hP, hX⟩ := hv
  have hts := atoms_spec (ws := Cond.codeWith y cc mL ret hh :: hyGood) B.pre
  have hl := lv_entry av (n := mL) hle
  rw [lg_entry_eq]
  exact body p e s m below meth c B.exec B.bytes hml (findClass_of_methodNamed B.named) (fun w hw => hts w (List.mem_cons_of_mem _ hw)) B.returns B.notSynchronized (vx_table (x := y) B (hts _ List.mem_cons_self)) hX hP va_S.rf _ hl
end HYN
def hyXn : List String := ["java/lang/RuntimeException", "java/lang/Exception"]
def hyAt (ic k : Nat) : Prop := (∀ w ∈ (vx_atS RX10 ic (hyEn k) hyXn).filter goodWord, w ∈ lw_tbl) ∧ (∀ w ∈ (vx_atS RX10 ic (hyEn k) hyXn).filter (fun w => !goodWord w), w ∈ lw_tbl ∧ hyNk w = true) ∧ (∀ w ∈ vx_atS RX10 ic (hyEn k) hyXn, vx_ot w = true) ∧ Bundle.fit (hyEn k) = true ∧ ∀ n ∈ hyXn, Bundle.fit n = true
set_option maxRecDepth 20000 in
theorem hyAt_1 : hyAt 189 1 := ⟨by decide +kernel, by decide +kernel, by decide +kernel, by decide +kernel, by decide +kernel⟩
set_option maxRecDepth 20000 in
theorem hyAt_2 : hyAt 106 2 := ⟨by decide +kernel, by decide +kernel, by decide +kernel, by decide +kernel, by decide +kernel⟩
set_option maxRecDepth 20000 in
theorem hyAt_3 : hyAt 299 3 := ⟨by decide +kernel, by decide +kernel, by decide +kernel, by decide +kernel, by decide +kernel⟩
section HYT
variable {p : Program} {l : Launch} {e : Env} {R : Room} {s : State} {m : MethodId} {args : Array Value} {below : List Frame} {meth : Method} {c : Code} {H : Heap} {locs : List Loc} {cells slots : Nat} {Q : State → Prop}
variable {cc : ByteArray} {pc nL n : Nat} {ls : Array Slot} {rest st0 As : List Value} {G : hyG} {T T2 : hyT} {lv : List (Nat × Value)}
theorem hy_throw {k ik is ic : Nat} {text : String} (hlt : l.stackTraces = false) (hx : p.tables.exec = Jvm.exec) (hb : c.code = cc) (hml : c.maxLocals = nL) (hown : s.vm.findClass RX10 = some m.cls) (hts : ∀ w ∈ hyGood, w.before args s = true) (hout : ∀ x ∈ c.exceptionTable.toList, False) (hlocks : meth.locks = false) (hX : hyS G s) (hP : va_P G.1 vwCl (wld G T) H) (hS : va_S (hyA G) s.heap H locs) (hl : lv_has ls nL lv)
    (hAt : hyAt ic k) (hk : Cond.classLink RX10 ik (hyEn k) ∈ hyGood) (hini : Cond.initialized (hyEn k) ∈ hyGood) (hstr : (is, text) ∈ hyStr)
    (d0 : decode cc pc = .ok (.new ik, 3)) (d3 : decode cc (pc + 3) = .ok (.dup, 1)) (d4 : decode cc (pc + 4) = .ok (.ldc is, 2)) (d6 : decode cc (pc + 6) = .ok (.invokespecial ic, 3)) (d9 : decode cc (pc + 9) = .ok (.athrow, 1))
    (hR : 5 < R.frames ∧ (rest.map fun v => v.category).sum + 82 ≤ R.locals) (hf : cells + 1 ≤ R.cells ∧ slots + 6 ≤ R.slots) (hn : cells + 1 ≤ n ∧ slots + 6 ≤ 6 * n) {o : hyO} (ho : (.inl k, T) = o) :
    W p l e R s m args below meth c H locs cells slots (vx_MQ below (hyQ G o) (hyXQ G o) args s n (6 * n) (hyA G)) (F0 m pc ls rest) := by
  subst ho
  obtain ⟨a1, a2, a3, a4, a5⟩ := hAt
  have hg1 : ∀ w ∈ hyGood, vx_ot w = true := fun w hw => by
    have h := (List.mem_filter.mp hw).2
    simp [vx_ot, h]
  refine vx_throwS hx hb hlt (own := RX10) (cls := hyEn k) (text := text) (names := hyXn) (sa := sta G is) hown a4 a5 (hts _ hk) (hts _ hini) (hX.2.2.2.2.2.2.2.1 (is, text) hstr)
    (vx_hat (B := hyNest) (fun w hw => hts _ (List.mem_filter.mpr ⟨a1 w hw, (List.mem_filter.mp hw).2⟩)) (fun w hw => List.mem_filter.mpr (a2 w hw)) (fun w hw => hX.2.2.2.1.use hw _))
    (fun w hw => ?_) hX.2.2.2.2.2.1 hX.2.2.2.2.2.2.1 hS (hl.1.trans hml.symm) d0 d3 d4 d6 d9 (fun x hx => (hout x hx).elim) hR.1 hR.2 hf.1 hf.2 hlocks (fun t hA hz hq => ⟨k, rfl, rfl, ?_, ?_, ?_⟩) hS.2.2 hn.1 hn.2
  · rcases List.mem_cons.mp hw with rfl | hw
    · exact hg1 _ hk
    · rcases List.mem_cons.mp hw with rfl | hw
      · exact hg1 _ hini
      · exact a3 w hw
  · exact hP.kept (fun k q hk => hq q.1 (vx_lt hP hk))
  · exact Nat.le_trans hS.1 hz
  · intro q h1 h2
    rw [hq q (Nat.lt_of_lt_of_le h1 hS.1)]
    exact hS.2.1 q h1 h2
theorem hy_throwW {k ik is ic : Nat} {text : String} (hlt : l.stackTraces = false) (hx : p.tables.exec = Jvm.exec) (hb : c.code = cc) (hml : c.maxLocals = nL) (hown : s.vm.findClass RX10 = some m.cls) (hts : ∀ w ∈ hyGood, w.before args s = true) (hout : ∀ x ∈ c.exceptionTable.toList, False) (hlocks : meth.locks = false) (hX : hyS G s) (hP : va_P G.1 vwCl (wld G T) H) (hS : va_S (hyA G) s.heap H locs) (hl : lv_has ls nL lv)
    (hAt : hyAt ic k) (hk : Cond.classLink RX10 ik (hyEn k) ∈ hyGood) (hini : Cond.initialized (hyEn k) ∈ hyGood) (hstr : (is, text) ∈ hyStr)
    (d0 : decode cc pc = .ok (.new ik, 3)) (d3 : decode cc (pc + 3) = .ok (.dup, 1)) (d4 : decode cc (pc + 4) = .ok (.ldc_w is, 3)) (d6 : decode cc (pc + 7) = .ok (.invokespecial ic, 3)) (d9 : decode cc (pc + 10) = .ok (.athrow, 1))
    (hR : 5 < R.frames ∧ (rest.map fun v => v.category).sum + 82 ≤ R.locals) (hf : cells + 1 ≤ R.cells ∧ slots + 6 ≤ R.slots) (hn : cells + 1 ≤ n ∧ slots + 6 ≤ 6 * n) {o : hyO} (ho : (.inl k, T) = o) :
    W p l e R s m args below meth c H locs cells slots (vx_MQ below (hyQ G o) (hyXQ G o) args s n (6 * n) (hyA G)) (F0 m pc ls rest) := by
  subst ho
  obtain ⟨a1, a2, a3, a4, a5⟩ := hAt
  have hg1 : ∀ w ∈ hyGood, vx_ot w = true := fun w hw => by
    have h := (List.mem_filter.mp hw).2
    simp [vx_ot, h]
  refine vx_throwSW hx hb hlt (own := RX10) (cls := hyEn k) (text := text) (names := hyXn) (sa := sta G is) hown a4 a5 (hts _ hk) (hts _ hini) (hX.2.2.2.2.2.2.2.1 (is, text) hstr)
    (vx_hat (B := hyNest) (fun w hw => hts _ (List.mem_filter.mpr ⟨a1 w hw, (List.mem_filter.mp hw).2⟩)) (fun w hw => List.mem_filter.mpr (a2 w hw)) (fun w hw => hX.2.2.2.1.use hw _))
    (fun w hw => ?_) hX.2.2.2.2.2.1 hX.2.2.2.2.2.2.1 hS (hl.1.trans hml.symm) d0 d3 d4 d6 d9 (fun x hx => (hout x hx).elim) hR.1 hR.2 hf.1 hf.2 hlocks (fun t hA hz hq => ⟨k, rfl, rfl, ?_, ?_, ?_⟩) hS.2.2 hn.1 hn.2
  · rcases List.mem_cons.mp hw with rfl | hw
    · exact hg1 _ hk
    · rcases List.mem_cons.mp hw with rfl | hw
      · exact hg1 _ hini
      · exact a3 w hw
  · exact hP.kept (fun k q hk => hq q.1 (vx_lt hP hk))
  · exact Nat.le_trans hS.1 hz
  · intro q h1 h2
    rw [hq q (Nat.lt_of_lt_of_le h1 hS.1)]
    exact hS.2.1 q h1 h2
end HYT
end
section
/-! What the walks' functions are written in: checked loads, stores, divisions; bits as truth values. -/
def bI (b : Bool) : Int32 := if b then 1 else 0
theorem bI_t : bI true = 1 := rfl
theorem bI_f : bI false = 0 := rfl
theorem bI_0 {b : Bool} (h : bI b = 0) : ¬ b = true := by cases b <;> simp_all [bI]
theorem bI_1 {b : Bool} (h : ¬ bI b = 0) : b = true := by cases b <;> simp_all [bI]
theorem bI_z {b : Bool} (h : bI b = 0) : b = false := by cases b <;> simp_all [bI]
theorem bI_nar (b : Bool) : narrow .boolean (.int (bI b)) = .int (bI b) := by cases b <;> rfl
theorem bI_vp (b : Bool) : vp_nar .boolean (bI b) = bI b := by cases b <;> rfl
theorem hy_bind {α β : Type} {x : Option α} {f : α → Option β} {r : β} (h : x.bind f = some r) : ∃ v, x = some v ∧ f v = some r := by
  cases x with
  | none => cases h
  | some v => exact ⟨v, rfl, h⟩
def ldE (n : Nat) (f : Nat → Int32) (i : Int32) : Option Int32 := if inb i n = true then some (f i.toNatClampNeg) else none
theorem ldE_some {n : Nat} {f : Nat → Int32} {i v : Int32} (h : ldE n f i = some v) : inb i n = true ∧ f i.toNatClampNeg = v := by
  unfold ldE at h
  by_cases c : inb i n = true
  · rw [if_pos c] at h; exact ⟨c, Option.some.inj h⟩
  · rw [if_neg c] at h; cases h
def stE (M : hyM) (c n : Nat) (i x : Int32) : Option hyM := if inb i n = true then some (wI M c i.toNatClampNeg x) else none
theorem stE_some {M M2 : hyM} {c n : Nat} {i x : Int32} (h : stE M c n i x = some M2) : inb i n = true ∧ wI M c i.toNatClampNeg x = M2 := by
  unfold stE at h
  by_cases c : inb i n = true
  · rw [if_pos c] at h; exact ⟨c, Option.some.inj h⟩
  · rw [if_neg c] at h; cases h
def jdv (a b : Int32) : Option Int32 := if b = 0 then none else some (a / b)
def jrm (a b : Int32) : Option Int32 := if b = 0 then none else some (a - a / b * b)
theorem jdv_some {a b v : Int32} (h : jdv a b = some v) : ¬ b = 0 ∧ a / b = v := by
  unfold jdv at h
  by_cases c : b = 0
  · rw [if_pos c] at h; cases h
  · rw [if_neg c] at h; exact ⟨c, Option.some.inj h⟩
theorem jrm_some {a b v : Int32} (h : jrm a b = some v) : ¬ b = 0 ∧ a - a / b * b = v := by
  unfold jrm at h
  by_cases c : b = 0
  · rw [if_pos c] at h; cases h
  · rw [if_neg c] at h; exact ⟨c, Option.some.inj h⟩
def ckD (r : UInt64) : Option UInt64 := if r &&& 0x7fffffffffffffff ≤ 0x7ff0000000000000 then some r else none
theorem ckD_some {r v : UInt64} (h : ckD r = some v) : vf_n64 r ∧ r = v := by
  unfold ckD at h
  by_cases c : r &&& 0x7fffffffffffffff ≤ 0x7ff0000000000000
  · rw [if_pos c] at h; exact ⟨c, Option.some.inj h⟩
  · rw [if_neg c] at h; cases h
def jmax (x y : Int32) : Int32 := if x < y then y else x
def jabs (x : Int32) : Int32 := if 0 ≤ x then x else 0 - x
def jlshl (x : Int64) (y : Int32) : Int64 := x <<< (y.toInt64 &&& 63)
def jlushr (x : Int64) (y : Int32) : Int64 := (x.toUInt64 >>> (y.toInt64.toUInt64 &&& Int64.toUInt64 63)).toInt64
def atf (n : Nat) (f : Nat → Int32) (i : Int32) : Int32 := if inb i n = true then f i.toNatClampNeg else 0
def putf (M : hyM) (c n : Nat) (i x : Int32) : hyM := if inb i n = true then wI M c i.toNatClampNeg x else M
def hyNo {α : Type} (o : Nat ⊕ α) : Nat := match o with | .inl _ => 1 | .inr _ => 0
def hyoI (o : Nat ⊕ Int32) : Nat ⊕ Option Value := match o with | .inl k => .inl k | .inr r => .inr (some (.int r))
def hyoU (o : Nat ⊕ Unit) : Nat ⊕ Option Value := match o with | .inl k => .inl k | .inr _ => .inr none
def hyFu : Nat := 100000
theorem hy_tabOut (lo : Int) (x : Int32) (n : Nat) (h : ∀ k : Nat, k < n → ¬ x = Int32.ofInt (lo + k)) : x.toInt < lo ∨ lo + n - 1 < x.toInt := by
  by_cases c : x.toInt < lo
  · exact Or.inl c
  · refine Or.inr (Int.not_le.mp fun q => ?_)
    refine h (x.toInt - lo).toNat (by omega) ?_
    rw [show lo + ((x.toInt - lo).toNat : Int) = x.toInt by omega]
    simp
theorem hy_lookOut {x : Int32} (h0 : ¬ x = 0) (h1 : ¬ x = 1) {d a b : Int} : Op.lookupswitch.offset [(0, a), (1, b)] d x.toInt = d := by
  have g0 : ¬ x.toInt = 0 := fun q => h0 (by have := congrArg Int32.ofInt q; simpa using this)
  have g1 : ¬ x.toInt = 1 := fun q => h1 (by have := congrArg Int32.ofInt q; simpa using this)
  have g2 : ¬ (0 : Int) = x.toInt := fun q => g0 q.symm
  have g3 : ¬ (1 : Int) = x.toInt := fun q => g1 q.symm
  simp [Op.lookupswitch.offset, g0, g1, g2, g3]
end
section
/-! What the law's own methods need: unsigned shifts, answers that throw nothing, a new array of the law, the script. -/
def jiushr (x y : Int32) : Int32 := (x.toUInt32 >>> (y.toUInt32 &&& Int32.toUInt32 31)).toInt32
def rt {α : Type} (x : Nat ⊕ α) : Option α := match x with | .inl _ => none | .inr v => some v
def rtM {α : Type} (x : (Nat ⊕ α) × hyM) : Option (α × hyM) := match x with | (.inl _, _) => none | (.inr v, M) => some (v, M)
theorem rt_some {α : Type} {x : Nat ⊕ α} {v : α} (h : rt x = some v) : x = .inr v := by
  cases x with
  | inl k => cases h
  | inr w => cases h; rfl
theorem rtM_some {α : Type} {x : (Nat ⊕ α) × hyM} {v : α} {M : hyM} (h : rtM x = some (v, M)) : x = (.inr v, M) := by
  obtain ⟨y, N⟩ := x
  cases y with
  | inl k => cases h
  | inr w => cases h; rfl
theorem rtb_some {α : Type} {x : Option (Nat ⊕ α)} {v : α} (h : x.bind rt = some v) : x = some (.inr v) := by
  cases x with
  | none => cases h
  | some y => exact congrArg some (rt_some h)
theorem rtMb_some {α : Type} {x : Option ((Nat ⊕ α) × hyM)} {v : α} {M : hyM} (h : x.bind rtM = some (v, M)) : x = some (.inr v, M) := by
  cases x with
  | none => cases h
  | some y => exact congrArg some (rtM_some h)
/-- a cell of ints that is new -/
def zM (M : hyM) (c : Nat) : hyM := (fun c' => if c' = c then (fun _ => 0) else M.1 c', M.2)
theorem hy_mono {p : Program} {l : Launch} {e : Env} {R : Room} {s : State} {m : MethodId} {args : Array Value} {below : List Frame} {meth : Method} {c : Code} {H : Heap} {locs : List Loc} {cells slots : Nat} {Q Q2 : State → Prop} {g : JFrame} (hQ : ∀ t, Q t → Q2 t) (k : W p l e R s m args below meth c H locs cells slots Q g) : W p l e R s m args below meth c H locs cells slots Q2 g := by
  intro T hT X
  obtain ⟨t, a1, b1⟩ := k T hT X
  exact ⟨t, a1, hQ t b1⟩
theorem hy_newa {p : Program} {l : Launch} {e : Env} {R : Room} {s : State} {m : MethodId} {args : Array Value} {below : List Frame} {meth : Method} {c : Code} {H : Heap} {locs : List Loc} {cells slots : Nat} {Q : State → Prop} {cc : ByteArray} {pc : Nat} {ls : Array Slot} {rest : List Value} {D : va_G} {cl : List vw_C} {tys : List (ClassId × FieldType)} {ws : va_W} {A : Nat → Prop} {H0 : Heap}
    (hexec : p.tables.exec = Jvm.exec) (hb : c.code = cc) {atype : ArrayType} (harr : (Cond.arrayClass (newarray.typeOf atype)).before args s = true) {ty : FieldType} (hty : newarray.typeOf atype = ty) (hK : va_K D cl tys s) (t0 : Nat) {cA0 : ClassId} (ht : tys[t0]? = some (cA0, ty)) (hno : ∀ cA : ClassId, va_RA s cA ty → s.vm.findClass ("[" ++ ty.toString) = some cA) (hP : va_P D cl ws H) (hD : va_D A ws) (hS : va_S A H0 H locs) (hA : ∀ q, H0.size ≤ q → A q)
    {n : Int32} {N' : Nat} {a0 : vp_A} (ha : ∀ cA : ClassId, vp_cell cA a0 = arrV cA N' (fun _ => defaultValue ty)) (hn : ¬ n < 0) (hN : n.toNatClampNeg = N') (hbytes : N' * componentBytes ty ≤ 536870912) (hcells : cells + 1 ≤ R.cells) (hslots : slots + N' ≤ R.slots) (hdg : decode cc pc = .ok (.newarray atype, 2))
    (kk : ∀ (q : Nat) (H1 : Heap), va_P D cl (ws ++ [(q, .inl (cA0, a0))]) H1 → va_D A (ws ++ [(q, .inl (cA0, a0))]) → va_S A H0 H1 locs → W p l e R s m args below meth c H1 locs (cells + 1) (slots + N') Q (F0 m (pc + 2) ls (.ref q :: rest))) : W p l e R s m args below meth c H locs cells slots Q (F0 m pc ls (.int n :: rest)) := by
  refine va_newa (a0 := a0) hexec hb harr hty hK hP hD hS hA ha hn hN hbytes hcells hslots hdg (fun q cA H1 hK1 hP1 hD1 hS1 => ?_)
  have e1 := hno _ (hK1.2 tys.length (cA, ty) (by simp)).2
  have e2 := hno _ (hK.2 t0 _ ht).2
  have e3 : cA = cA0 := Option.some.inj (e1.symm.trans e2)
  subst e3
  exact kk q H1 hP1 hD1 hS1
theorem ent_cg {G G1 : hyG} (h1 : ∀ j, j < 30 → adr G1 j = adr G j) (h2 : G1.2.1 = G.2.1) (c : Nat) (f : Nat → Int32) (g : Nat → Int64) : ent G1 c f g = ent G c f g := by
  unfold ent arI
  split <;> first | rfl | simp only [h2] | simp only [h1 1 (by decide), h1 2 (by decide), h1 3 (by decide), h1 4 (by decide), h1 5 (by decide), h1 6 (by decide), h1 7 (by decide), h1 8 (by decide), h1 9 (by decide), h1 10 (by decide), h1 11 (by decide), h1 12 (by decide), h1 13 (by decide), h1 14 (by decide), h1 15 (by decide), h1 16 (by decide), h1 17 (by decide), h1 18 (by decide), h1 19 (by decide), h1 20 (by decide), h1 21 (by decide), h1 22 (by decide), h1 23 (by decide), h1 24 (by decide), h1 25 (by decide), h1 26 (by decide), h1 27 (by decide), h1 28 (by decide), h1 29 (by decide)]
/-- G with one array of the law more, at q -/
def gnx (G : hyG) (k q : Nat) : hyG := (G.1, G.2.1, (fun c => if c = 34 + k then q else adr G c), G.2.2.2.1, G.2.2.2.2.1, hyA G, (k + 1, scb G, scn G, scf G))
theorem gnx_adr (G : hyG) (k q : Nat) {c : Nat} (h : c < 34 + k) : adr (gnx G k q) c = adr G c := by
  show (if c = 34 + k then q else adr G c) = adr G c
  rw [if_neg (by omega)]
theorem gnx_ent (G : hyG) (k q c : Nat) (f : Nat → Int32) (g : Nat → Int64) : ent (gnx G k q) c f g = ent G c f g := ent_cg (fun j hj => gnx_adr G k q (by omega)) rfl c f g
theorem pk_zM (T : hyT) (c c' : Nat) (h : 30 ≤ c) (h2 : c < 51) (hc : c' ≠ c) : (pkM (T.1, zM T.2.1 c, T.2.2) c').1 c' = (pkM T c').1 c' ∧ (pkM (T.1, zM T.2.1 c, T.2.2) c').2 c' = (pkM T c').2 c' := by
  unfold pkM zM
  by_cases h3 : c' < 30
  · simp [h3]
  · by_cases h4 : c' < 51
    · simp [h3, h4, hc]
    · simp [h3, h4]
theorem gnx_wld {G : hyG} {T : hyT} {k q N : Nat} (hk : k < 2) (hex : exn G = k) (he : ∀ (G2 : hyG) f g, ent G2 (34 + k) f g = arI G2 N f) :
    wld (gnx G k q) (T.1, zM T.2.1 (34 + k), T.2.2) = wld G T ++ [(q, .inl (G.2.1, N, .inl (fun _ => 0)))] := by
  apply List.ext_getElem?
  intro i
  have ex1 : exn (gnx G k q) = k + 1 := rfl
  rcases Nat.lt_trichotomy i (34 + k) with h | h | h
  · rw [wld_get _ _ _ (by rw [ex1]; omega), List.getElem?_append_left (by rw [wld_len, hex]; exact h), wld_get _ _ _ (by rw [hex]; exact h), gnx_adr G k q h, gnx_ent]
    obtain ⟨e1, e2⟩ := pk_zM T (34 + k) i (by omega) (by omega) (by omega)
    rw [e1, e2]
  · subst h
    rw [wld_get _ _ _ (by rw [ex1]; omega), List.getElem?_append_right (by rw [wld_len, hex]; omega), wld_len, hex, Nat.sub_self, he]
    have e1 : adr (gnx G k q) (34 + k) = q := if_pos rfl
    have e2 : (pkM (T.1, zM T.2.1 (34 + k), T.2.2) (34 + k)).1 (34 + k) = fun _ => 0 := by
      unfold pkM zM
      rw [if_neg (by omega), if_pos (by omega)]
      exact if_pos rfl
    rw [e1, e2]
    rfl
  · rw [List.getElem?_eq_none (by rw [wld_len, ex1]; omega), List.getElem?_eq_none (by rw [List.length_append, wld_len, hex]; simp; omega)]
theorem gnx_back {G : hyG} {T : hyT} {k q : Nat} {H : Heap} (hex : exn G = k) (h : va_P (gnx G k q).1 vwCl (wld (gnx G k q) T) H) : va_P G.1 vwCl (wld G T) H := by
  intro i z hi
  have hl := (List.getElem?_eq_some_iff.mp hi).1
  rw [wld_len, hex] at hl
  refine h i z ?_
  rw [wld_get _ _ _ (by show i < 34 + (k + 1); omega), gnx_adr G k q hl, gnx_ent]
  rw [wld_get _ _ _ (by rw [hex]; exact hl)] at hi
  exact hi
theorem hy_newG {p : Program} {l : Launch} {e : Env} {R : Room} {s : State} {m : MethodId} {args : Array Value} {below : List Frame} {meth : Method} {c : Code} {H : Heap} {locs : List Loc} {cells slots n9 m9 : Nat} {cc : ByteArray} {pc : Nat} {ls : Array Slot} {rest : List Value} {G : hyG} {T T2 : hyT} {o : hyO} {N : Nat} {n : Int32}
    (hx : p.tables.exec = Jvm.exec) (hb : c.code = cc) (hX : hyS G s) (hP : va_P G.1 vwCl (wld G T) H) (hS : va_S (hyA G) s.heap H locs) (harr : (Cond.arrayClass .int).before args s = true) (k : Nat) (hex : exn G = k) (he : ∀ (G2 : hyG) f g, ent G2 (34 + k) f g = arI G2 N f) (hT2 : (T.1, zM T.2.1 (34 + k), T.2.2) = T2) (hk : k < 2)
    (hn : ¬ n < 0) (hN : n.toNatClampNeg = N) (hbytes : N * componentBytes .int ≤ 536870912) (hcells : cells + 1 ≤ R.cells) (hslots : slots + N ≤ R.slots) (hdg : decode cc pc = .ok (.newarray .int, 2))
    (kk : ∀ (G1 : hyG) (H1 : Heap), (∀ j, j < 34 + k → adr G1 j = adr G j) → exn G1 = k + 1 → hyS G1 s → va_P G1.1 vwCl (wld G1 T2) H1 → va_S (hyA G1) s.heap H1 locs → W p l e R s m args below meth c H1 locs (cells + 1) (slots + N) (vx_MQ below (hyQ G1 o) (hyXQ G1 o) args s n9 m9 (hyA G1)) (F0 m (pc + 2) ls (.ref (adr G1 (34 + k)) :: rest))) :
    W p l e R s m args below meth c H locs cells slots (vx_MQ below (hyQ G o) (hyXQ G o) args s n9 m9 (hyA G)) (F0 m pc ls (.int n :: rest)) := by
  subst hT2
  refine hy_newa (atype := .int) (ty := .int) (N' := N) (a0 := (N, .inl (fun _ => 0))) hx hb harr rfl hX.1 0 rfl (fun _ h => h) hP (hX.2.1.D T) hS hX.2.2.1 (fun _ => rfl) hn hN hbytes hcells hslots hdg (fun q H1 hP1 hD1 hS1 => ?_)
  rw [← gnx_wld hk hex he] at hP1 hD1
  have hX1 : hyS (gnx G k q) s := ⟨hX.1, ⟨fun i j hi hj hij => hD1.1 i j _ _ (wld_get _ _ i hi) (wld_get _ _ j hj) hij, fun i hi => hD1.2 i _ (wld_get _ _ i hi)⟩, hX.2.2.1, hX.2.2.2⟩
  have ea : adr (gnx G k q) (34 + k) = q := if_pos rfl
  have K := kk (gnx G k q) H1 (fun j hj => gnx_adr G k q hj) rfl hX1 hP1 hS1
  rw [ea] at K
  refine hy_mono (fun t ht => ?_) K
  obtain ⟨o9, h1, h2, h3⟩ := ht
  refine ⟨o9, h1, h2, ?_⟩
  rcases h3 with ⟨⟨v, b1, b2, b3, b4⟩, L, b5, b6⟩ | ⟨q9, b0, E, ce, L, ⟨k9, c1, c2, c3, c4⟩, b5⟩
  · exact Or.inl ⟨⟨v, b1, b2, gnx_back hex b3, b4⟩, L, b5, b6⟩
  · exact Or.inr ⟨q9, b0, E, ce, L, ⟨k9, c1, c2, gnx_back hex c3, c4⟩, b5⟩
/-- the script's ints, and what stands for those behind its end -/
def scv (G : hyG) (k : Int32) : Option Int32 := if k < Int32.ofNat (scn G) then (ldE (scn G) (scf G) k) else some (2146121005 * (k + 1))
end
