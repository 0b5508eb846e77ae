section
-- ===== PART A: goes FIRST, ahead of the names: the tables' words, and 'selects' of the private methods out of them =====
/-- a private method of a class that the tables say can be made, by its rows of tables_1 -/
def lw_okq (q : MethodName × Nat) : Prop := (q.1.cls ≠ "java/lang/invoke/MethodHandle" ∧ q.1.cls ≠ "java/lang/invoke/VarHandle") ∧ Cond.instantiable q.1.cls q.2 ∈ tables_1 ∧ Cond.privateMethod q.1 ∈ tables_1 ∧ Cond.instanceMethod q.1 ∈ tables_1
theorem lw_p0 : lw_okq (⟨"SpanLinker$SourceModule", "mayStandInSection", "(I)Z"⟩, 13) := ⟨⟨by decide +kernel, by decide +kernel⟩, List.mem_of_getElem? (i := 22) (by decide +kernel), List.mem_of_getElem? (i := 242) (by decide +kernel), List.mem_of_getElem? (i := 243) (by decide +kernel)⟩
theorem lw_p1 : lw_okq (⟨"SpanLinker$SourceModule", "currentSection", "()I"⟩, 13) := ⟨⟨by decide +kernel, by decide +kernel⟩, List.mem_of_getElem? (i := 22) (by decide +kernel), List.mem_of_getElem? (i := 246) (by decide +kernel), List.mem_of_getElem? (i := 247) (by decide +kernel)⟩
theorem lw_p2 : lw_okq (⟨"SpanLinker$SourceModule", "isSaidTwice", "(II)Z"⟩, 13) := ⟨⟨by decide +kernel, by decide +kernel⟩, List.mem_of_getElem? (i := 22) (by decide +kernel), List.mem_of_getElem? (i := 250) (by decide +kernel), List.mem_of_getElem? (i := 251) (by decide +kernel)⟩
theorem lw_p3 : lw_okq (⟨"SpanLinker$SourceModule", "noteName", "(II)V"⟩, 13) := ⟨⟨by decide +kernel, by decide +kernel⟩, List.mem_of_getElem? (i := 22) (by decide +kernel), List.mem_of_getElem? (i := 264) (by decide +kernel), List.mem_of_getElem? (i := 265) (by decide +kernel)⟩
theorem lw_p4 : lw_okq (⟨"SpanLinker$SourceModule", "settleJumps", "()V"⟩, 13) := ⟨⟨by decide +kernel, by decide +kernel⟩, List.mem_of_getElem? (i := 22) (by decide +kernel), List.mem_of_getElem? (i := 271) (by decide +kernel), List.mem_of_getElem? (i := 272) (by decide +kernel)⟩
theorem lw_p5 : lw_okq (⟨"SpanLinker$SourceModule", "aimsAtOwnText", "(I)Z"⟩, 13) := ⟨⟨by decide +kernel, by decide +kernel⟩, List.mem_of_getElem? (i := 22) (by decide +kernel), List.mem_of_getElem? (i := 275) (by decide +kernel), List.mem_of_getElem? (i := 276) (by decide +kernel)⟩
theorem lw_p6 : lw_okq (⟨"SpanLinker$SourceModule", "placeWords", "()V"⟩, 13) := ⟨⟨by decide +kernel, by decide +kernel⟩, List.mem_of_getElem? (i := 22) (by decide +kernel), List.mem_of_getElem? (i := 279) (by decide +kernel), List.mem_of_getElem? (i := 280) (by decide +kernel)⟩
theorem lw_p7 : lw_okq (⟨"SpanLinker$SourceModule", "wordsOf", "(I)I"⟩, 13) := ⟨⟨by decide +kernel, by decide +kernel⟩, List.mem_of_getElem? (i := 22) (by decide +kernel), List.mem_of_getElem? (i := 283) (by decide +kernel), List.mem_of_getElem? (i := 284) (by decide +kernel)⟩
theorem lw_p8 : lw_okq (⟨"SpanLinker$SourceModule", "lengthenFarJumps", "()Z"⟩, 13) := ⟨⟨by decide +kernel, by decide +kernel⟩, List.mem_of_getElem? (i := 22) (by decide +kernel), List.mem_of_getElem? (i := 287) (by decide +kernel), List.mem_of_getElem? (i := 288) (by decide +kernel)⟩
theorem lw_p9 : lw_okq (⟨"SpanLinker", "mayStandBefore", "(II)Z"⟩, 6) := ⟨⟨by decide +kernel, by decide +kernel⟩, List.mem_of_getElem? (i := 10) (by decide +kernel), List.mem_of_getElem? (i := 332) (by decide +kernel), List.mem_of_getElem? (i := 333) (by decide +kernel)⟩
theorem lw_p10 : lw_okq (⟨"SpanLinker", "isFreeModule", "(I)Z"⟩, 6) := ⟨⟨by decide +kernel, by decide +kernel⟩, List.mem_of_getElem? (i := 10) (by decide +kernel), List.mem_of_getElem? (i := 366) (by decide +kernel), List.mem_of_getElem? (i := 367) (by decide +kernel)⟩
theorem lw_p11 : lw_okq (⟨"SpanLinker$Inclusion", "search", "(LSpanLinker$Row;)V"⟩, 6) := ⟨⟨by decide +kernel, by decide +kernel⟩, List.mem_of_getElem? (i := 70) (by decide +kernel), List.mem_of_getElem? (i := 402) (by decide +kernel), List.mem_of_getElem? (i := 403) (by decide +kernel)⟩
theorem lw_p12 : lw_okq (⟨"SpanLinker$Inclusion", "includeWantedMembers", "(LSpanLinker$Row;)Z"⟩, 6) := ⟨⟨by decide +kernel, by decide +kernel⟩, List.mem_of_getElem? (i := 70) (by decide +kernel), List.mem_of_getElem? (i := 406) (by decide +kernel), List.mem_of_getElem? (i := 407) (by decide +kernel)⟩
theorem lw_p13 : lw_okq (⟨"SpanLinker$Inclusion", "exportsWantedName", "(I)Z"⟩, 6) := ⟨⟨by decide +kernel, by decide +kernel⟩, List.mem_of_getElem? (i := 70) (by decide +kernel), List.mem_of_getElem? (i := 411) (by decide +kernel), List.mem_of_getElem? (i := 412) (by decide +kernel)⟩
theorem lw_p14 : lw_okq (⟨"SpanLinker$Inclusion", "include", "(I)V"⟩, 6) := ⟨⟨by decide +kernel, by decide +kernel⟩, List.mem_of_getElem? (i := 70) (by decide +kernel), List.mem_of_getElem? (i := 423) (by decide +kernel), List.mem_of_getElem? (i := 424) (by decide +kernel)⟩
theorem lw_p15 : lw_okq (⟨"SpanLinker$Image", "layOutSections", "()V"⟩, 10) := ⟨⟨by decide +kernel, by decide +kernel⟩, List.mem_of_getElem? (i := 110) (by decide +kernel), List.mem_of_getElem? (i := 445) (by decide +kernel), List.mem_of_getElem? (i := 446) (by decide +kernel)⟩
def lw_privs_1 : List (MethodName × Nat) := [(⟨"SpanLinker$SourceModule", "mayStandInSection", "(I)Z"⟩, 13), (⟨"SpanLinker$SourceModule", "currentSection", "()I"⟩, 13), (⟨"SpanLinker$SourceModule", "isSaidTwice", "(II)Z"⟩, 13), (⟨"SpanLinker$SourceModule", "noteName", "(II)V"⟩, 13), (⟨"SpanLinker$SourceModule", "settleJumps", "()V"⟩, 13), (⟨"SpanLinker$SourceModule", "aimsAtOwnText", "(I)Z"⟩, 13), (⟨"SpanLinker$SourceModule", "placeWords", "()V"⟩, 13), (⟨"SpanLinker$SourceModule", "wordsOf", "(I)I"⟩, 13), (⟨"SpanLinker$SourceModule", "lengthenFarJumps", "()Z"⟩, 13), (⟨"SpanLinker", "mayStandBefore", "(II)Z"⟩, 6), (⟨"SpanLinker", "isFreeModule", "(I)Z"⟩, 6), (⟨"SpanLinker$Inclusion", "search", "(LSpanLinker$Row;)V"⟩, 6), (⟨"SpanLinker$Inclusion", "includeWantedMembers", "(LSpanLinker$Row;)Z"⟩, 6), (⟨"SpanLinker$Inclusion", "exportsWantedName", "(I)Z"⟩, 6), (⟨"SpanLinker$Inclusion", "include", "(I)V"⟩, 6), (⟨"SpanLinker$Image", "layOutSections", "()V"⟩, 10)]
theorem lw_r1 : ∀ q ∈ lw_privs_1, lw_okq q := List.forall_mem_cons.mpr ⟨lw_p0, List.forall_mem_cons.mpr ⟨lw_p1, List.forall_mem_cons.mpr ⟨lw_p2, List.forall_mem_cons.mpr ⟨lw_p3, List.forall_mem_cons.mpr ⟨lw_p4, List.forall_mem_cons.mpr ⟨lw_p5, List.forall_mem_cons.mpr ⟨lw_p6, List.forall_mem_cons.mpr ⟨lw_p7, List.forall_mem_cons.mpr ⟨lw_p8, List.forall_mem_cons.mpr ⟨lw_p9, List.forall_mem_cons.mpr ⟨lw_p10, List.forall_mem_cons.mpr ⟨lw_p11, List.forall_mem_cons.mpr ⟨lw_p12, List.forall_mem_cons.mpr ⟨lw_p13, List.forall_mem_cons.mpr ⟨lw_p14, List.forall_mem_cons.mpr ⟨lw_p15, fun _ h => absurd h List.not_mem_nil⟩⟩⟩⟩⟩⟩⟩⟩⟩⟩⟩⟩⟩⟩⟩⟩
theorem lw_p16 : lw_okq (⟨"SpanLinker$Image", "layOutCommons", "()V"⟩, 10) := ⟨⟨by decide +kernel, by decide +kernel⟩, List.mem_of_getElem? (i := 110) (by decide +kernel), List.mem_of_getElem? (i := 458) (by decide +kernel), List.mem_of_getElem? (i := 459) (by decide +kernel)⟩
theorem lw_p17 : lw_okq (⟨"SpanLinker$Image", "largestCommon", "(I)I"⟩, 10) := ⟨⟨by decide +kernel, by decide +kernel⟩, List.mem_of_getElem? (i := 110) (by decide +kernel), List.mem_of_getElem? (i := 467) (by decide +kernel), List.mem_of_getElem? (i := 468) (by decide +kernel)⟩
theorem lw_p18 : lw_okq (⟨"SpanLinker$Image", "noteExports", "(I)V"⟩, 10) := ⟨⟨by decide +kernel, by decide +kernel⟩, List.mem_of_getElem? (i := 110) (by decide +kernel), List.mem_of_getElem? (i := 478) (by decide +kernel), List.mem_of_getElem? (i := 479) (by decide +kernel)⟩
theorem lw_p19 : lw_okq (⟨"SpanLinker$Image", "standsFor", "(II)I"⟩, 10) := ⟨⟨by decide +kernel, by decide +kernel⟩, List.mem_of_getElem? (i := 110) (by decide +kernel), List.mem_of_getElem? (i := 484) (by decide +kernel), List.mem_of_getElem? (i := 485) (by decide +kernel)⟩
theorem lw_p20 : lw_okq (⟨"SpanLinker$Image", "addressOf", "(II)I"⟩, 10) := ⟨⟨by decide +kernel, by decide +kernel⟩, List.mem_of_getElem? (i := 110) (by decide +kernel), List.mem_of_getElem? (i := 504) (by decide +kernel), List.mem_of_getElem? (i := 505) (by decide +kernel)⟩
theorem lw_p21 : lw_okq (⟨"SpanLinker$Image", "makeWordsZero", "()V"⟩, 10) := ⟨⟨by decide +kernel, by decide +kernel⟩, List.mem_of_getElem? (i := 110) (by decide +kernel), List.mem_of_getElem? (i := 516) (by decide +kernel), List.mem_of_getElem? (i := 517) (by decide +kernel)⟩
theorem lw_p22 : lw_okq (⟨"SpanLinker$Image", "writeModule", "(I)V"⟩, 10) := ⟨⟨by decide +kernel, by decide +kernel⟩, List.mem_of_getElem? (i := 110) (by decide +kernel), List.mem_of_getElem? (i := 520) (by decide +kernel), List.mem_of_getElem? (i := 521) (by decide +kernel)⟩
theorem lw_p23 : lw_okq (⟨"SpanLinker$Image", "writeJump", "(III)V"⟩, 10) := ⟨⟨by decide +kernel, by decide +kernel⟩, List.mem_of_getElem? (i := 110) (by decide +kernel), List.mem_of_getElem? (i := 535) (by decide +kernel), List.mem_of_getElem? (i := 536) (by decide +kernel)⟩
theorem lw_p24 : lw_okq (⟨"SpanLinker$Machine", "doStep", "()V"⟩, 13) := ⟨⟨by decide +kernel, by decide +kernel⟩, List.mem_of_getElem? (i := 149) (by decide +kernel), List.mem_of_getElem? (i := 633) (by decide +kernel), List.mem_of_getElem? (i := 634) (by decide +kernel)⟩
theorem lw_p25 : lw_okq (⟨"SpanLinker$Machine", "isInside", "(I)Z"⟩, 13) := ⟨⟨by decide +kernel, by decide +kernel⟩, List.mem_of_getElem? (i := 149) (by decide +kernel), List.mem_of_getElem? (i := 637) (by decide +kernel), List.mem_of_getElem? (i := 638) (by decide +kernel)⟩
theorem lw_p26 : lw_okq (⟨"SpanLinker$Machine", "doTwoWords", "(II)V"⟩, 13) := ⟨⟨by decide +kernel, by decide +kernel⟩, List.mem_of_getElem? (i := 149) (by decide +kernel), List.mem_of_getElem? (i := 645) (by decide +kernel), List.mem_of_getElem? (i := 646) (by decide +kernel)⟩
theorem lw_p27 : lw_okq (⟨"SpanLinker$Machine", "mayTouch", "(II)Z"⟩, 13) := ⟨⟨by decide +kernel, by decide +kernel⟩, List.mem_of_getElem? (i := 149) (by decide +kernel), List.mem_of_getElem? (i := 649) (by decide +kernel), List.mem_of_getElem? (i := 650) (by decide +kernel)⟩
theorem lw_p28 : lw_okq (⟨"SpanLinker$Machine", "conditionHolds", "(I)Z"⟩, 13) := ⟨⟨by decide +kernel, by decide +kernel⟩, List.mem_of_getElem? (i := 149) (by decide +kernel), List.mem_of_getElem? (i := 654) (by decide +kernel), List.mem_of_getElem? (i := 655) (by decide +kernel)⟩
theorem lw_p29 : lw_okq (⟨"SpanLinker$Machine", "doOneWord", "(II)V"⟩, 13) := ⟨⟨by decide +kernel, by decide +kernel⟩, List.mem_of_getElem? (i := 149) (by decide +kernel), List.mem_of_getElem? (i := 659) (by decide +kernel), List.mem_of_getElem? (i := 660) (by decide +kernel)⟩
theorem lw_p30 : lw_okq (⟨"SpanLinker$Machine", "putOutA", "()V"⟩, 13) := ⟨⟨by decide +kernel, by decide +kernel⟩, List.mem_of_getElem? (i := 149) (by decide +kernel), List.mem_of_getElem? (i := 666) (by decide +kernel), List.mem_of_getElem? (i := 667) (by decide +kernel)⟩
theorem lw_p31 : lw_okq (⟨"SpanLinker$Machine", "nextOfTape", "()I"⟩, 13) := ⟨⟨by decide +kernel, by decide +kernel⟩, List.mem_of_getElem? (i := 149) (by decide +kernel), List.mem_of_getElem? (i := 670) (by decide +kernel), List.mem_of_getElem? (i := 671) (by decide +kernel)⟩
def lw_privs_2 : List (MethodName × Nat) := [(⟨"SpanLinker$Image", "layOutCommons", "()V"⟩, 10), (⟨"SpanLinker$Image", "largestCommon", "(I)I"⟩, 10), (⟨"SpanLinker$Image", "noteExports", "(I)V"⟩, 10), (⟨"SpanLinker$Image", "standsFor", "(II)I"⟩, 10), (⟨"SpanLinker$Image", "addressOf", "(II)I"⟩, 10), (⟨"SpanLinker$Image", "makeWordsZero", "()V"⟩, 10), (⟨"SpanLinker$Image", "writeModule", "(I)V"⟩, 10), (⟨"SpanLinker$Image", "writeJump", "(III)V"⟩, 10), (⟨"SpanLinker$Machine", "doStep", "()V"⟩, 13), (⟨"SpanLinker$Machine", "isInside", "(I)Z"⟩, 13), (⟨"SpanLinker$Machine", "doTwoWords", "(II)V"⟩, 13), (⟨"SpanLinker$Machine", "mayTouch", "(II)Z"⟩, 13), (⟨"SpanLinker$Machine", "conditionHolds", "(I)Z"⟩, 13), (⟨"SpanLinker$Machine", "doOneWord", "(II)V"⟩, 13), (⟨"SpanLinker$Machine", "putOutA", "()V"⟩, 13), (⟨"SpanLinker$Machine", "nextOfTape", "()I"⟩, 13)]
theorem lw_r2 : ∀ q ∈ lw_privs_2, lw_okq q := List.forall_mem_cons.mpr ⟨lw_p16, List.forall_mem_cons.mpr ⟨lw_p17, List.forall_mem_cons.mpr ⟨lw_p18, List.forall_mem_cons.mpr ⟨lw_p19, List.forall_mem_cons.mpr ⟨lw_p20, List.forall_mem_cons.mpr ⟨lw_p21, List.forall_mem_cons.mpr ⟨lw_p22, List.forall_mem_cons.mpr ⟨lw_p23, List.forall_mem_cons.mpr ⟨lw_p24, List.forall_mem_cons.mpr ⟨lw_p25, List.forall_mem_cons.mpr ⟨lw_p26, List.forall_mem_cons.mpr ⟨lw_p27, List.forall_mem_cons.mpr ⟨lw_p28, List.forall_mem_cons.mpr ⟨lw_p29, List.forall_mem_cons.mpr ⟨lw_p30, List.forall_mem_cons.mpr ⟨lw_p31, fun _ h => absurd h List.not_mem_nil⟩⟩⟩⟩⟩⟩⟩⟩⟩⟩⟩⟩⟩⟩⟩⟩
theorem lw_p32 : lw_okq (⟨"SpanLinker$Machine", "latestWord", "(I)I"⟩, 13) := ⟨⟨by decide +kernel, by decide +kernel⟩, List.mem_of_getElem? (i := 149) (by decide +kernel), List.mem_of_getElem? (i := 682) (by decide +kernel), List.mem_of_getElem? (i := 683) (by decide +kernel)⟩
theorem lw_p33 : lw_okq (⟨"SpanLinkerModel", "module", "(I)Z"⟩, 32) := ⟨⟨by decide +kernel, by decide +kernel⟩, List.mem_of_getElem? (i := 694) (by decide +kernel), List.mem_of_getElem? (i := 801) (by decide +kernel), List.mem_of_getElem? (i := 802) (by decide +kernel)⟩
theorem lw_p34 : lw_okq (⟨"SpanLinkerModel", "fits", "(III)Z"⟩, 32) := ⟨⟨by decide +kernel, by decide +kernel⟩, List.mem_of_getElem? (i := 694) (by decide +kernel), List.mem_of_getElem? (i := 805) (by decide +kernel), List.mem_of_getElem? (i := 806) (by decide +kernel)⟩
theorem lw_p35 : lw_okq (⟨"SpanLinkerModel", "name", "(I)Z"⟩, 32) := ⟨⟨by decide +kernel, by decide +kernel⟩, List.mem_of_getElem? (i := 694) (by decide +kernel), List.mem_of_getElem? (i := 809) (by decide +kernel), List.mem_of_getElem? (i := 810) (by decide +kernel)⟩
theorem lw_p36 : lw_okq (⟨"SpanLinkerModel", "isWord", "(I)Z"⟩, 32) := ⟨⟨by decide +kernel, by decide +kernel⟩, List.mem_of_getElem? (i := 694) (by decide +kernel), List.mem_of_getElem? (i := 813) (by decide +kernel), List.mem_of_getElem? (i := 814) (by decide +kernel)⟩
theorem lw_p37 : lw_okq (⟨"SpanLinkerModel", "definition", "(II)I"⟩, 32) := ⟨⟨by decide +kernel, by decide +kernel⟩, List.mem_of_getElem? (i := 694) (by decide +kernel), List.mem_of_getElem? (i := 818) (by decide +kernel), List.mem_of_getElem? (i := 819) (by decide +kernel)⟩
theorem lw_p38 : lw_okq (⟨"SpanLinkerModel", "common", "(II)I"⟩, 32) := ⟨⟨by decide +kernel, by decide +kernel⟩, List.mem_of_getElem? (i := 694) (by decide +kernel), List.mem_of_getElem? (i := 822) (by decide +kernel), List.mem_of_getElem? (i := 823) (by decide +kernel)⟩
theorem lw_p39 : lw_okq (⟨"SpanLinkerModel", "settle", "(I)V"⟩, 32) := ⟨⟨by decide +kernel, by decide +kernel⟩, List.mem_of_getElem? (i := 694) (by decide +kernel), List.mem_of_getElem? (i := 826) (by decide +kernel), List.mem_of_getElem? (i := 827) (by decide +kernel)⟩
theorem lw_p40 : lw_okq (⟨"SpanLinkerModel", "distance", "(II)I"⟩, 32) := ⟨⟨by decide +kernel, by decide +kernel⟩, List.mem_of_getElem? (i := 694) (by decide +kernel), List.mem_of_getElem? (i := 830) (by decide +kernel), List.mem_of_getElem? (i := 831) (by decide +kernel)⟩
theorem lw_p41 : lw_okq (⟨"SpanLinkerModel", "place", "(III)I"⟩, 32) := ⟨⟨by decide +kernel, by decide +kernel⟩, List.mem_of_getElem? (i := 694) (by decide +kernel), List.mem_of_getElem? (i := 834) (by decide +kernel), List.mem_of_getElem? (i := 835) (by decide +kernel)⟩
theorem lw_p42 : lw_okq (⟨"SpanLinkerModel", "width", "(I)I"⟩, 32) := ⟨⟨by decide +kernel, by decide +kernel⟩, List.mem_of_getElem? (i := 694) (by decide +kernel), List.mem_of_getElem? (i := 838) (by decide +kernel), List.mem_of_getElem? (i := 839) (by decide +kernel)⟩
theorem lw_p43 : lw_okq (⟨"SpanLinkerModel", "onLine", "(I)Z"⟩, 32) := ⟨⟨by decide +kernel, by decide +kernel⟩, List.mem_of_getElem? (i := 694) (by decide +kernel), List.mem_of_getElem? (i := 858) (by decide +kernel), List.mem_of_getElem? (i := 859) (by decide +kernel)⟩
theorem lw_p44 : lw_okq (⟨"SpanLinkerModel", "inArchive", "(I)I"⟩, 32) := ⟨⟨by decide +kernel, by decide +kernel⟩, List.mem_of_getElem? (i := 694) (by decide +kernel), List.mem_of_getElem? (i := 862) (by decide +kernel), List.mem_of_getElem? (i := 863) (by decide +kernel)⟩
theorem lw_p45 : lw_okq (⟨"SpanLinkerModel", "goOver", "()V"⟩, 32) := ⟨⟨by decide +kernel, by decide +kernel⟩, List.mem_of_getElem? (i := 694) (by decide +kernel), List.mem_of_getElem? (i := 887) (by decide +kernel), List.mem_of_getElem? (i := 888) (by decide +kernel)⟩
theorem lw_p46 : lw_okq (⟨"SpanLinkerModel", "isIn", "(I)Z"⟩, 32) := ⟨⟨by decide +kernel, by decide +kernel⟩, List.mem_of_getElem? (i := 694) (by decide +kernel), List.mem_of_getElem? (i := 891) (by decide +kernel), List.mem_of_getElem? (i := 892) (by decide +kernel)⟩
theorem lw_p47 : lw_okq (⟨"SpanLinkerModel", "helps", "(I)Z"⟩, 32) := ⟨⟨by decide +kernel, by decide +kernel⟩, List.mem_of_getElem? (i := 694) (by decide +kernel), List.mem_of_getElem? (i := 895) (by decide +kernel), List.mem_of_getElem? (i := 896) (by decide +kernel)⟩
def lw_privs_3 : List (MethodName × Nat) := [(⟨"SpanLinker$Machine", "latestWord", "(I)I"⟩, 13), (⟨"SpanLinkerModel", "module", "(I)Z"⟩, 32), (⟨"SpanLinkerModel", "fits", "(III)Z"⟩, 32), (⟨"SpanLinkerModel", "name", "(I)Z"⟩, 32), (⟨"SpanLinkerModel", "isWord", "(I)Z"⟩, 32), (⟨"SpanLinkerModel", "definition", "(II)I"⟩, 32), (⟨"SpanLinkerModel", "common", "(II)I"⟩, 32), (⟨"SpanLinkerModel", "settle", "(I)V"⟩, 32), (⟨"SpanLinkerModel", "distance", "(II)I"⟩, 32), (⟨"SpanLinkerModel", "place", "(III)I"⟩, 32), (⟨"SpanLinkerModel", "width", "(I)I"⟩, 32), (⟨"SpanLinkerModel", "onLine", "(I)Z"⟩, 32), (⟨"SpanLinkerModel", "inArchive", "(I)I"⟩, 32), (⟨"SpanLinkerModel", "goOver", "()V"⟩, 32), (⟨"SpanLinkerModel", "isIn", "(I)Z"⟩, 32), (⟨"SpanLinkerModel", "helps", "(I)Z"⟩, 32)]
theorem lw_r3 : ∀ q ∈ lw_privs_3, lw_okq q := List.forall_mem_cons.mpr ⟨lw_p32, List.forall_mem_cons.mpr ⟨lw_p33, List.forall_mem_cons.mpr ⟨lw_p34, List.forall_mem_cons.mpr ⟨lw_p35, List.forall_mem_cons.mpr ⟨lw_p36, List.forall_mem_cons.mpr ⟨lw_p37, List.forall_mem_cons.mpr ⟨lw_p38, List.forall_mem_cons.mpr ⟨lw_p39, List.forall_mem_cons.mpr ⟨lw_p40, List.forall_mem_cons.mpr ⟨lw_p41, List.forall_mem_cons.mpr ⟨lw_p42, List.forall_mem_cons.mpr ⟨lw_p43, List.forall_mem_cons.mpr ⟨lw_p44, List.forall_mem_cons.mpr ⟨lw_p45, List.forall_mem_cons.mpr ⟨lw_p46, List.forall_mem_cons.mpr ⟨lw_p47, fun _ h => absurd h List.not_mem_nil⟩⟩⟩⟩⟩⟩⟩⟩⟩⟩⟩⟩⟩⟩⟩⟩
theorem lw_p48 : lw_okq (⟨"SpanLinkerModel", "exports", "(II)Z"⟩, 32) := ⟨⟨by decide +kernel, by decide +kernel⟩, List.mem_of_getElem? (i := 694) (by decide +kernel), List.mem_of_getElem? (i := 899) (by decide +kernel), List.mem_of_getElem? (i := 900) (by decide +kernel)⟩
theorem lw_p49 : lw_okq (⟨"SpanLinkerModel", "global", "(II)Z"⟩, 32) := ⟨⟨by decide +kernel, by decide +kernel⟩, List.mem_of_getElem? (i := 694) (by decide +kernel), List.mem_of_getElem? (i := 903) (by decide +kernel), List.mem_of_getElem? (i := 904) (by decide +kernel)⟩
theorem lw_p50 : lw_okq (⟨"SpanLinkerModel", "wanted", "(I)Z"⟩, 32) := ⟨⟨by decide +kernel, by decide +kernel⟩, List.mem_of_getElem? (i := 694) (by decide +kernel), List.mem_of_getElem? (i := 907) (by decide +kernel), List.mem_of_getElem? (i := 908) (by decide +kernel)⟩
theorem lw_p51 : lw_okq (⟨"SpanLinkerModel", "refers", "(II)Z"⟩, 32) := ⟨⟨by decide +kernel, by decide +kernel⟩, List.mem_of_getElem? (i := 694) (by decide +kernel), List.mem_of_getElem? (i := 911) (by decide +kernel), List.mem_of_getElem? (i := 912) (by decide +kernel)⟩
theorem lw_p52 : lw_okq (⟨"SpanLinkerModel", "exporters", "(I)I"⟩, 32) := ⟨⟨by decide +kernel, by decide +kernel⟩, List.mem_of_getElem? (i := 694) (by decide +kernel), List.mem_of_getElem? (i := 915) (by decide +kernel), List.mem_of_getElem? (i := 916) (by decide +kernel)⟩
theorem lw_p53 : lw_okq (⟨"SpanLinkerModel", "largest", "(I)I"⟩, 32) := ⟨⟨by decide +kernel, by decide +kernel⟩, List.mem_of_getElem? (i := 694) (by decide +kernel), List.mem_of_getElem? (i := 919) (by decide +kernel), List.mem_of_getElem? (i := 920) (by decide +kernel)⟩
theorem lw_p54 : lw_okq (⟨"SpanLinkerModel", "include", "(I)V"⟩, 32) := ⟨⟨by decide +kernel, by decide +kernel⟩, List.mem_of_getElem? (i := 694) (by decide +kernel), List.mem_of_getElem? (i := 923) (by decide +kernel), List.mem_of_getElem? (i := 924) (by decide +kernel)⟩
theorem lw_p55 : lw_okq (⟨"SpanLinkerModel", "sum", "(I)I"⟩, 32) := ⟨⟨by decide +kernel, by decide +kernel⟩, List.mem_of_getElem? (i := 694) (by decide +kernel), List.mem_of_getElem? (i := 927) (by decide +kernel), List.mem_of_getElem? (i := 928) (by decide +kernel)⟩
theorem lw_p56 : lw_okq (⟨"SpanLinkerModel", "commonsBelow", "(I)I"⟩, 32) := ⟨⟨by decide +kernel, by decide +kernel⟩, List.mem_of_getElem? (i := 694) (by decide +kernel), List.mem_of_getElem? (i := 932) (by decide +kernel), List.mem_of_getElem? (i := 933) (by decide +kernel)⟩
theorem lw_p57 : lw_okq (⟨"SpanLinkerModel", "layOut", "()V"⟩, 32) := ⟨⟨by decide +kernel, by decide +kernel⟩, List.mem_of_getElem? (i := 694) (by decide +kernel), List.mem_of_getElem? (i := 936) (by decide +kernel), List.mem_of_getElem? (i := 937) (by decide +kernel)⟩
theorem lw_p58 : lw_okq (⟨"SpanLinkerModel", "write", "(II)V"⟩, 32) := ⟨⟨by decide +kernel, by decide +kernel⟩, List.mem_of_getElem? (i := 694) (by decide +kernel), List.mem_of_getElem? (i := 940) (by decide +kernel), List.mem_of_getElem? (i := 941) (by decide +kernel)⟩
theorem lw_p59 : lw_okq (⟨"SpanLinkerModel", "base", "(II)I"⟩, 32) := ⟨⟨by decide +kernel, by decide +kernel⟩, List.mem_of_getElem? (i := 694) (by decide +kernel), List.mem_of_getElem? (i := 944) (by decide +kernel), List.mem_of_getElem? (i := 945) (by decide +kernel)⟩
theorem lw_p60 : lw_okq (⟨"SpanLinkerModel", "standsFor", "(II)I"⟩, 32) := ⟨⟨by decide +kernel, by decide +kernel⟩, List.mem_of_getElem? (i := 694) (by decide +kernel), List.mem_of_getElem? (i := 948) (by decide +kernel), List.mem_of_getElem? (i := 949) (by decide +kernel)⟩
theorem lw_p61 : lw_okq (⟨"SpanLinkerModel", "valueOf", "(II)I"⟩, 32) := ⟨⟨by decide +kernel, by decide +kernel⟩, List.mem_of_getElem? (i := 694) (by decide +kernel), List.mem_of_getElem? (i := 952) (by decide +kernel), List.mem_of_getElem? (i := 953) (by decide +kernel)⟩
theorem lw_p62 : lw_okq (⟨"SpanLinkerModel", "outside", "(I)I"⟩, 32) := ⟨⟨by decide +kernel, by decide +kernel⟩, List.mem_of_getElem? (i := 694) (by decide +kernel), List.mem_of_getElem? (i := 956) (by decide +kernel), List.mem_of_getElem? (i := 957) (by decide +kernel)⟩
theorem lw_p63 : lw_okq (⟨"SpanLinkerModel", "hindrance", "()I"⟩, 32) := ⟨⟨by decide +kernel, by decide +kernel⟩, List.mem_of_getElem? (i := 694) (by decide +kernel), List.mem_of_getElem? (i := 998) (by decide +kernel), List.mem_of_getElem? (i := 999) (by decide +kernel)⟩
def lw_privs_4 : List (MethodName × Nat) := [(⟨"SpanLinkerModel", "exports", "(II)Z"⟩, 32), (⟨"SpanLinkerModel", "global", "(II)Z"⟩, 32), (⟨"SpanLinkerModel", "wanted", "(I)Z"⟩, 32), (⟨"SpanLinkerModel", "refers", "(II)Z"⟩, 32), (⟨"SpanLinkerModel", "exporters", "(I)I"⟩, 32), (⟨"SpanLinkerModel", "largest", "(I)I"⟩, 32), (⟨"SpanLinkerModel", "include", "(I)V"⟩, 32), (⟨"SpanLinkerModel", "sum", "(I)I"⟩, 32), (⟨"SpanLinkerModel", "commonsBelow", "(I)I"⟩, 32), (⟨"SpanLinkerModel", "layOut", "()V"⟩, 32), (⟨"SpanLinkerModel", "write", "(II)V"⟩, 32), (⟨"SpanLinkerModel", "base", "(II)I"⟩, 32), (⟨"SpanLinkerModel", "standsFor", "(II)I"⟩, 32), (⟨"SpanLinkerModel", "valueOf", "(II)I"⟩, 32), (⟨"SpanLinkerModel", "outside", "(I)I"⟩, 32), (⟨"SpanLinkerModel", "hindrance", "()I"⟩, 32)]
theorem lw_r4 : ∀ q ∈ lw_privs_4, lw_okq q := List.forall_mem_cons.mpr ⟨lw_p48, List.forall_mem_cons.mpr ⟨lw_p49, List.forall_mem_cons.mpr ⟨lw_p50, List.forall_mem_cons.mpr ⟨lw_p51, List.forall_mem_cons.mpr ⟨lw_p52, List.forall_mem_cons.mpr ⟨lw_p53, List.forall_mem_cons.mpr ⟨lw_p54, List.forall_mem_cons.mpr ⟨lw_p55, List.forall_mem_cons.mpr ⟨lw_p56, List.forall_mem_cons.mpr ⟨lw_p57, List.forall_mem_cons.mpr ⟨lw_p58, List.forall_mem_cons.mpr ⟨lw_p59, List.forall_mem_cons.mpr ⟨lw_p60, List.forall_mem_cons.mpr ⟨lw_p61, List.forall_mem_cons.mpr ⟨lw_p62, List.forall_mem_cons.mpr ⟨lw_p63, fun _ h => absurd h List.not_mem_nil⟩⟩⟩⟩⟩⟩⟩⟩⟩⟩⟩⟩⟩⟩⟩⟩
theorem lw_p64 : lw_okq (⟨"SpanLinkerModel", "there", "(I)Z"⟩, 32) := ⟨⟨by decide +kernel, by decide +kernel⟩, List.mem_of_getElem? (i := 694) (by decide +kernel), List.mem_of_getElem? (i := 1002) (by decide +kernel), List.mem_of_getElem? (i := 1003) (by decide +kernel)⟩
theorem lw_p65 : lw_okq (⟨"SpanLinkerModel", "two", "(II)V"⟩, 32) := ⟨⟨by decide +kernel, by decide +kernel⟩, List.mem_of_getElem? (i := 694) (by decide +kernel), List.mem_of_getElem? (i := 1006) (by decide +kernel), List.mem_of_getElem? (i := 1007) (by decide +kernel)⟩
theorem lw_p66 : lw_okq (⟨"SpanLinkerModel", "holds", "(I)Z"⟩, 32) := ⟨⟨by decide +kernel, by decide +kernel⟩, List.mem_of_getElem? (i := 694) (by decide +kernel), List.mem_of_getElem? (i := 1010) (by decide +kernel), List.mem_of_getElem? (i := 1011) (by decide +kernel)⟩
theorem lw_p67 : lw_okq (⟨"SpanLinkerModel", "single", "(II)V"⟩, 32) := ⟨⟨by decide +kernel, by decide +kernel⟩, List.mem_of_getElem? (i := 694) (by decide +kernel), List.mem_of_getElem? (i := 1014) (by decide +kernel), List.mem_of_getElem? (i := 1015) (by decide +kernel)⟩
def lw_privs_5 : List (MethodName × Nat) := [(⟨"SpanLinkerModel", "there", "(I)Z"⟩, 32), (⟨"SpanLinkerModel", "two", "(II)V"⟩, 32), (⟨"SpanLinkerModel", "holds", "(I)Z"⟩, 32), (⟨"SpanLinkerModel", "single", "(II)V"⟩, 32)]
theorem lw_r5 : ∀ q ∈ lw_privs_5, lw_okq q := List.forall_mem_cons.mpr ⟨lw_p64, List.forall_mem_cons.mpr ⟨lw_p65, List.forall_mem_cons.mpr ⟨lw_p66, List.forall_mem_cons.mpr ⟨lw_p67, fun _ h => absurd h List.not_mem_nil⟩⟩⟩⟩
def lw_privs : List (MethodName × Nat) := lw_privs_1 ++ (lw_privs_2 ++ (lw_privs_3 ++ (lw_privs_4 ++ (lw_privs_5))))
def lw_tbl : List Cond := k2_sels lw_privs ++ tables_1
theorem lw_privs_ok : ∀ q ∈ lw_privs, lw_okq q := by
  show ∀ q ∈ lw_privs_1 ++ (lw_privs_2 ++ (lw_privs_3 ++ (lw_privs_4 ++ (lw_privs_5)))), lw_okq q
  exact List.forall_mem_append.mpr ⟨lw_r1, List.forall_mem_append.mpr ⟨lw_r2, List.forall_mem_append.mpr ⟨lw_r3, List.forall_mem_append.mpr ⟨lw_r4, lw_r5⟩⟩⟩⟩
end
section
/-- words that hold in every state: those of the tables that calls may hand on -/
def am_all : List Cond := lw_tbl.filter goodWord
theorem am_mem {w : Cond} (h : w ∈ lw_tbl) (hg : goodWord w = true) : w ∈ am_all := List.mem_filter.mpr ⟨h, hg⟩
theorem am_allgood : ∀ w ∈ am_all, (w.onTables && w.keeps) = true ∨ ∃ ty, w = .arrayClass ty := fun w h => good_of_word (List.mem_filter.mp h).2
theorem am_all_lw : ∀ w ∈ am_all, w ∈ lw_tbl := fun w h => (List.mem_filter.mp h).1
theorem tb0 {w : Cond} (i : Nat) (h : (k2_sels lw_privs)[i]? = some w) : w ∈ lw_tbl := List.mem_append_left _ (List.mem_of_getElem? h)
theorem tb1 {w : Cond} (i : Nat) (h : tables_1_1[i]? = some w) : w ∈ lw_tbl := List.mem_append_right _ (List.mem_append_left _ (List.mem_of_getElem? h))
theorem tb2 {w : Cond} (i : Nat) (h : tables_1_2[i]? = some w) : w ∈ lw_tbl := List.mem_append_right _ (List.mem_append_right _ (List.mem_append_left _ (List.mem_of_getElem? h)))
theorem tb3 {w : Cond} (i : Nat) (h : tables_1_3[i]? = some w) : w ∈ lw_tbl := List.mem_append_right _ (List.mem_append_right _ (List.mem_append_right _ (List.mem_append_left _ (List.mem_of_getElem? h))))
theorem tb4 {w : Cond} (i : Nat) (h : tables_1_4[i]? = some w) : w ∈ lw_tbl := List.mem_append_right _ (List.mem_append_right _ (List.mem_append_right _ (List.mem_append_right _ (List.mem_append_left _ (List.mem_of_getElem? h)))))
theorem tb5 {w : Cond} (i : Nat) (h : tables_1_5[i]? = some w) : w ∈ lw_tbl := List.mem_append_right _ (List.mem_append_right _ (List.mem_append_right _ (List.mem_append_right _ (List.mem_append_right _ (List.mem_of_getElem? h)))))
theorem am_lt {N : Nat} {p : Nat → Prop} (h : ∀ k, k < N → p k) : ∀ w ∈ (List.range N), p w := fun w hw => h w (List.mem_range.mp hw)
def T_SL : u_T := fun k => match k with
  | 0 => ("SpanLinker", "modules", "[LSpanLinker$SourceModule;", true)
  | 1 => ("SpanLinker", "archive", "LSpanLinker$Row;", true)
  | 2 => ("SpanLinker", "line", "LSpanLinker$Row;", true)
  | 3 => ("SpanLinker", "inclusion", "LSpanLinker$Inclusion;", true)
  | 4 => ("SpanLinker", "image", "LSpanLinker$Image;", true)
  | _ => ("SpanLinker", "machine", "LSpanLinker$Machine;", true)
def ty_SL : Nat → FieldType := fun k => match k with
  | 0 => .array (.object "SpanLinker$SourceModule")
  | 1 => .object "SpanLinker$Row"
  | 2 => .object "SpanLinker$Row"
  | 3 => .object "SpanLinker$Inclusion"
  | 4 => .object "SpanLinker$Image"
  | _ => .object "SpanLinker$Machine"
theorem nm_SL : ∀ a, a < 6 → ∀ b, b < 6 → a ≠ b → (T_SL a).2.1 ≠ (T_SL b).2.1 := by decide +kernel
theorem to_SL : ∀ k, k < 6 → parseFieldDescriptor (T_SL k).2.2.1 = some (ty_SL k) := by decide +kernel
theorem in_SL : ∀ w ∈ u_ws "SpanLinker" T_SL 6, w ∈ am_all := by
  have h : ∀ k, k < 6 → u_lay "SpanLinker" T_SL k ∈ am_all := by
    intro k hk
    match k, hk with
    | 0, _ => exact (am_mem (tb1 200 rfl) rfl)
    | 1, _ => exact (am_mem (tb1 202 rfl) rfl)
    | 2, _ => exact (am_mem (tb1 204 rfl) rfl)
    | 3, _ => exact (am_mem (tb1 206 rfl) rfl)
    | 4, _ => exact (am_mem (tb1 208 rfl) rfl)
    | 5, _ => exact (am_mem (tb1 210 rfl) rfl)
    | k + 6, hk => exact absurd hk (by omega)
  intro w hw
  obtain ⟨k, hk, rfl⟩ := List.mem_map.mp hw
  exact h k (List.mem_range.mp hk)
def T_Mod : u_T := fun k => match k with
  | 0 => ("SpanLinker$SourceModule", "kinds", "[I", true)
  | 1 => ("SpanLinker$SourceModule", "firsts", "[I", true)
  | 2 => ("SpanLinker$SourceModule", "seconds", "[I", true)
  | 3 => ("SpanLinker$SourceModule", "sections", "[I", true)
  | 4 => ("SpanLinker$SourceModule", "places", "[I", true)
  | 5 => ("SpanLinker$SourceModule", "longs", "[Z", true)
  | 6 => ("SpanLinker$SourceModule", "lengths", "[I", true)
  | 7 => ("SpanLinker$SourceModule", "holders", "[I", true)
  | 8 => ("SpanLinker$SourceModule", "count", "I", false)
  | 9 => ("SpanLinker$SourceModule", "definedNames", "I", false)
  | 10 => ("SpanLinker$SourceModule", "commonNames", "I", false)
  | 11 => ("SpanLinker$SourceModule", "globalNames", "I", false)
  | _ => ("SpanLinker$SourceModule", "usedNames", "I", false)
def ty_Mod : Nat → FieldType := fun k => match k with
  | 0 => .array .int
  | 1 => .array .int
  | 2 => .array .int
  | 3 => .array .int
  | 4 => .array .int
  | 5 => .array .boolean
  | 6 => .array .int
  | 7 => .array .int
  | 8 => .int
  | 9 => .int
  | 10 => .int
  | 11 => .int
  | _ => .int
theorem nm_Mod : ∀ a, a < 13 → ∀ b, b < 13 → a ≠ b → (T_Mod a).2.1 ≠ (T_Mod b).2.1 := by decide +kernel
theorem to_Mod : ∀ k, k < 13 → parseFieldDescriptor (T_Mod k).2.2.1 = some (ty_Mod k) := by decide +kernel
theorem in_Mod : ∀ w ∈ u_ws "SpanLinker$SourceModule" T_Mod 13, w ∈ am_all := by
  have h : ∀ k, k < 13 → u_lay "SpanLinker$SourceModule" T_Mod k ∈ am_all := by
    intro k hk
    match k, hk with
    | 0, _ => exact (am_mem (tb1 40 rfl) rfl)
    | 1, _ => exact (am_mem (tb1 42 rfl) rfl)
    | 2, _ => exact (am_mem (tb1 44 rfl) rfl)
    | 3, _ => exact (am_mem (tb1 46 rfl) rfl)
    | 4, _ => exact (am_mem (tb1 48 rfl) rfl)
    | 5, _ => exact (am_mem (tb1 50 rfl) rfl)
    | 6, _ => exact (am_mem (tb1 52 rfl) rfl)
    | 7, _ => exact (am_mem (tb1 54 rfl) rfl)
    | 8, _ => exact (am_mem (tb1 56 rfl) rfl)
    | 9, _ => exact (am_mem (tb1 58 rfl) rfl)
    | 10, _ => exact (am_mem (tb1 60 rfl) rfl)
    | 11, _ => exact (am_mem (tb1 62 rfl) rfl)
    | 12, _ => exact (am_mem (tb1 64 rfl) rfl)
    | k + 13, hk => exact absurd hk (by omega)
  intro w hw
  obtain ⟨k, hk, rfl⟩ := List.mem_map.mp hw
  exact h k (List.mem_range.mp hk)
def T_Inc : u_T := fun k => match k with
  | 0 => ("SpanLinker$Inclusion", "modules", "[LSpanLinker$SourceModule;", true)
  | 1 => ("SpanLinker$Inclusion", "order", "LSpanLinker$Row;", true)
  | 2 => ("SpanLinker$Inclusion", "soughtNames", "I", false)
  | 3 => ("SpanLinker$Inclusion", "exportedNames", "I", false)
  | 4 => ("SpanLinker$Inclusion", "commonNames", "I", false)
  | _ => ("SpanLinker$Inclusion", "doubleNames", "I", false)
def ty_Inc : Nat → FieldType := fun k => match k with
  | 0 => .array (.object "SpanLinker$SourceModule")
  | 1 => .object "SpanLinker$Row"
  | 2 => .int
  | 3 => .int
  | 4 => .int
  | _ => .int
theorem nm_Inc : ∀ a, a < 6 → ∀ b, b < 6 → a ≠ b → (T_Inc a).2.1 ≠ (T_Inc b).2.1 := by decide +kernel
theorem to_Inc : ∀ k, k < 6 → parseFieldDescriptor (T_Inc k).2.2.1 = some (ty_Inc k) := by decide +kernel
theorem in_Inc : ∀ w ∈ u_ws "SpanLinker$Inclusion" T_Inc 6, w ∈ am_all := by
  have h : ∀ k, k < 6 → u_lay "SpanLinker$Inclusion" T_Inc k ∈ am_all := by
    intro k hk
    match k, hk with
    | 0, _ => exact (am_mem (tb1 94 rfl) rfl)
    | 1, _ => exact (am_mem (tb1 96 rfl) rfl)
    | 2, _ => exact (am_mem (tb1 98 rfl) rfl)
    | 3, _ => exact (am_mem (tb1 100 rfl) rfl)
    | 4, _ => exact (am_mem (tb1 102 rfl) rfl)
    | 5, _ => exact (am_mem (tb1 104 rfl) rfl)
    | k + 6, hk => exact absurd hk (by omega)
  intro w hw
  obtain ⟨k, hk, rfl⟩ := List.mem_map.mp hw
  exact h k (List.mem_range.mp hk)
def T_Row : u_T := fun k => match k with
  | 0 => ("SpanLinker$Row", "numbers", "[I", true)
  | _ => ("SpanLinker$Row", "count", "I", false)
def ty_Row : Nat → FieldType := fun k => match k with
  | 0 => .array .int
  | _ => .int
theorem nm_Row : ∀ a, a < 2 → ∀ b, b < 2 → a ≠ b → (T_Row a).2.1 ≠ (T_Row b).2.1 := by decide +kernel
theorem to_Row : ∀ k, k < 2 → parseFieldDescriptor (T_Row k).2.2.1 = some (ty_Row k) := by decide +kernel
theorem in_Row : ∀ w ∈ u_ws "SpanLinker$Row" T_Row 2, w ∈ am_all := by
  have h : ∀ k, k < 2 → u_lay "SpanLinker$Row" T_Row k ∈ am_all := by
    intro k hk
    match k, hk with
    | 0, _ => exact (am_mem (tb1 83 rfl) rfl)
    | 1, _ => exact (am_mem (tb1 85 rfl) rfl)
    | k + 2, hk => exact absurd hk (by omega)
  intro w hw
  obtain ⟨k, hk, rfl⟩ := List.mem_map.mp hw
  exact h k (List.mem_range.mp hk)
def T_Img : u_T := fun k => match k with
  | 0 => ("SpanLinker$Image", "modules", "[LSpanLinker$SourceModule;", true)
  | 1 => ("SpanLinker$Image", "inclusion", "LSpanLinker$Inclusion;", true)
  | 2 => ("SpanLinker$Image", "bases", "[[I", true)
  | 3 => ("SpanLinker$Image", "words", "[I", true)
  | 4 => ("SpanLinker$Image", "sizes", "[I", true)
  | 5 => ("SpanLinker$Image", "values", "[I", true)
  | 6 => ("SpanLinker$Image", "total", "I", false)
  | 7 => ("SpanLinker$Image", "entry", "I", false)
  | 8 => ("SpanLinker$Image", "there", "Z", false)
  | _ => ("SpanLinker$Image", "stripped", "Z", false)
def ty_Img : Nat → FieldType := fun k => match k with
  | 0 => .array (.object "SpanLinker$SourceModule")
  | 1 => .object "SpanLinker$Inclusion"
  | 2 => .array (.array .int)
  | 3 => .array .int
  | 4 => .array .int
  | 5 => .array .int
  | 6 => .int
  | 7 => .int
  | 8 => .boolean
  | _ => .boolean
theorem nm_Img : ∀ a, a < 10 → ∀ b, b < 10 → a ≠ b → (T_Img a).2.1 ≠ (T_Img b).2.1 := by decide +kernel
theorem to_Img : ∀ k, k < 10 → parseFieldDescriptor (T_Img k).2.2.1 = some (ty_Img k) := by decide +kernel
theorem in_Img : ∀ w ∈ u_ws "SpanLinker$Image" T_Img 10, w ∈ am_all := by
  have h : ∀ k, k < 10 → u_lay "SpanLinker$Image" T_Img k ∈ am_all := by
    intro k hk
    match k, hk with
    | 0, _ => exact (am_mem (tb1 127 rfl) rfl)
    | 1, _ => exact (am_mem (tb1 129 rfl) rfl)
    | 2, _ => exact (am_mem (tb1 131 rfl) rfl)
    | 3, _ => exact (am_mem (tb1 133 rfl) rfl)
    | 4, _ => exact (am_mem (tb1 135 rfl) rfl)
    | 5, _ => exact (am_mem (tb1 137 rfl) rfl)
    | 6, _ => exact (am_mem (tb1 139 rfl) rfl)
    | 7, _ => exact (am_mem (tb1 141 rfl) rfl)
    | 8, _ => exact (am_mem (tb1 143 rfl) rfl)
    | 9, _ => exact (am_mem (tb1 145 rfl) rfl)
    | k + 10, hk => exact absurd hk (by omega)
  intro w hw
  obtain ⟨k, hk, rfl⟩ := List.mem_map.mp hw
  exact h k (List.mem_range.mp hk)
def T_Mac : u_T := fun k => match k with
  | 0 => ("SpanLinker$Machine", "words", "[I", true)
  | 1 => ("SpanLinker$Machine", "tape", "[I", true)
  | 2 => ("SpanLinker$Machine", "latest", "[I", true)
  | 3 => ("SpanLinker$Machine", "total", "I", false)
  | 4 => ("SpanLinker$Machine", "textWords", "I", false)
  | 5 => ("SpanLinker$Machine", "registerA", "I", false)
  | 6 => ("SpanLinker$Machine", "registerR", "I", false)
  | 7 => ("SpanLinker$Machine", "pc", "I", false)
  | 8 => ("SpanLinker$Machine", "state", "I", false)
  | 9 => ("SpanLinker$Machine", "fed", "I", false)
  | 10 => ("SpanLinker$Machine", "taken", "I", false)
  | 11 => ("SpanLinker$Machine", "putOut", "I", false)
  | _ => ("SpanLinker$Machine", "there", "Z", false)
def ty_Mac : Nat → FieldType := fun k => match k with
  | 0 => .array .int
  | 1 => .array .int
  | 2 => .array .int
  | 3 => .int
  | 4 => .int
  | 5 => .int
  | 6 => .int
  | 7 => .int
  | 8 => .int
  | 9 => .int
  | 10 => .int
  | 11 => .int
  | _ => .boolean
theorem nm_Mac : ∀ a, a < 13 → ∀ b, b < 13 → a ≠ b → (T_Mac a).2.1 ≠ (T_Mac b).2.1 := by decide +kernel
theorem to_Mac : ∀ k, k < 13 → parseFieldDescriptor (T_Mac k).2.2.1 = some (ty_Mac k) := by decide +kernel
theorem in_Mac : ∀ w ∈ u_ws "SpanLinker$Machine" T_Mac 13, w ∈ am_all := by
  have h : ∀ k, k < 13 → u_lay "SpanLinker$Machine" T_Mac k ∈ am_all := by
    intro k hk
    match k, hk with
    | 0, _ => exact (am_mem (tb1 167 rfl) rfl)
    | 1, _ => exact (am_mem (tb1 169 rfl) rfl)
    | 2, _ => exact (am_mem (tb1 171 rfl) rfl)
    | 3, _ => exact (am_mem (tb1 173 rfl) rfl)
    | 4, _ => exact (am_mem (tb1 175 rfl) rfl)
    | 5, _ => exact (am_mem (tb1 177 rfl) rfl)
    | 6, _ => exact (am_mem (tb1 179 rfl) rfl)
    | 7, _ => exact (am_mem (tb1 181 rfl) rfl)
    | 8, _ => exact (am_mem (tb1 183 rfl) rfl)
    | 9, _ => exact (am_mem (tb1 185 rfl) rfl)
    | 10, _ => exact (am_mem (tb1 187 rfl) rfl)
    | 11, _ => exact (am_mem (tb1 189 rfl) rfl)
    | 12, _ => exact (am_mem (tb1 191 rfl) rfl)
    | k + 13, hk => exact absurd hk (by omega)
  intro w hw
  obtain ⟨k, hk, rfl⟩ := List.mem_map.mp hw
  exact h k (List.mem_range.mp hk)
def T_Ref : u_T := fun k => match k with
  | 0 => ("SpanLinkerModel", "count", "[I", false)
  | 1 => ("SpanLinkerModel", "kind", "[I", false)
  | 2 => ("SpanLinkerModel", "one", "[I", false)
  | 3 => ("SpanLinkerModel", "two", "[I", false)
  | 4 => ("SpanLinkerModel", "part", "[I", false)
  | 5 => ("SpanLinkerModel", "wide", "[Z", false)
  | 6 => ("SpanLinkerModel", "members", "I", false)
  | 7 => ("SpanLinkerModel", "archive", "[I", false)
  | 8 => ("SpanLinkerModel", "items", "I", false)
  | 9 => ("SpanLinkerModel", "line", "[I", false)
  | 10 => ("SpanLinkerModel", "wish", "I", false)
  | 11 => ("SpanLinkerModel", "chosen", "I", false)
  | 12 => ("SpanLinkerModel", "order", "[I", false)
  | 13 => ("SpanLinkerModel", "lacking", "I", false)
  | 14 => ("SpanLinkerModel", "image", "Z", false)
  | 15 => ("SpanLinkerModel", "stripped", "Z", false)
  | 16 => ("SpanLinkerModel", "words", "[I", false)
  | 17 => ("SpanLinkerModel", "sizes", "[I", false)
  | 18 => ("SpanLinkerModel", "total", "I", false)
  | 19 => ("SpanLinkerModel", "known", "[I", false)
  | 20 => ("SpanLinkerModel", "entry", "I", false)
  | 21 => ("SpanLinkerModel", "machine", "Z", false)
  | 22 => ("SpanLinkerModel", "memory", "[I", false)
  | 23 => ("SpanLinkerModel", "regA", "I", false)
  | 24 => ("SpanLinkerModel", "regR", "I", false)
  | 25 => ("SpanLinkerModel", "regPc", "I", false)
  | 26 => ("SpanLinkerModel", "state", "I", false)
  | 27 => ("SpanLinkerModel", "outs", "I", false)
  | 28 => ("SpanLinkerModel", "out", "[I", false)
  | 29 => ("SpanLinkerModel", "tape", "[I", false)
  | 30 => ("SpanLinkerModel", "fed", "I", false)
  | _ => ("SpanLinkerModel", "taken", "I", false)
def ty_Ref : Nat → FieldType := fun k => match k with
  | 0 => .array .int
  | 1 => .array .int
  | 2 => .array .int
  | 3 => .array .int
  | 4 => .array .int
  | 5 => .array .boolean
  | 6 => .int
  | 7 => .array .int
  | 8 => .int
  | 9 => .array .int
  | 10 => .int
  | 11 => .int
  | 12 => .array .int
  | 13 => .int
  | 14 => .boolean
  | 15 => .boolean
  | 16 => .array .int
  | 17 => .array .int
  | 18 => .int
  | 19 => .array .int
  | 20 => .int
  | 21 => .boolean
  | 22 => .array .int
  | 23 => .int
  | 24 => .int
  | 25 => .int
  | 26 => .int
  | 27 => .int
  | 28 => .array .int
  | 29 => .array .int
  | 30 => .int
  | _ => .int
theorem nm_Ref : ∀ a, a < 32 → ∀ b, b < 32 → a ≠ b → (T_Ref a).2.1 ≠ (T_Ref b).2.1 := by decide +kernel
theorem to_Ref : ∀ k, k < 32 → parseFieldDescriptor (T_Ref k).2.2.1 = some (ty_Ref k) := by decide +kernel
theorem in_Ref : ∀ w ∈ u_ws "SpanLinkerModel" T_Ref 32, w ∈ am_all := by
  have h : ∀ k, k < 32 → u_lay "SpanLinkerModel" T_Ref k ∈ am_all := by
    intro k hk
    match k, hk with
    | 0, _ => exact (am_mem (tb4 11 rfl) rfl)
    | 1, _ => exact (am_mem (tb4 13 rfl) rfl)
    | 2, _ => exact (am_mem (tb4 15 rfl) rfl)
    | 3, _ => exact (am_mem (tb4 17 rfl) rfl)
    | 4, _ => exact (am_mem (tb4 19 rfl) rfl)
    | 5, _ => exact (am_mem (tb4 21 rfl) rfl)
    | 6, _ => exact (am_mem (tb4 23 rfl) rfl)
    | 7, _ => exact (am_mem (tb4 25 rfl) rfl)
    | 8, _ => exact (am_mem (tb4 27 rfl) rfl)
    | 9, _ => exact (am_mem (tb4 29 rfl) rfl)
    | 10, _ => exact (am_mem (tb4 31 rfl) rfl)
    | 11, _ => exact (am_mem (tb4 33 rfl) rfl)
    | 12, _ => exact (am_mem (tb4 35 rfl) rfl)
    | 13, _ => exact (am_mem (tb4 37 rfl) rfl)
    | 14, _ => exact (am_mem (tb4 39 rfl) rfl)
    | 15, _ => exact (am_mem (tb4 41 rfl) rfl)
    | 16, _ => exact (am_mem (tb4 43 rfl) rfl)
    | 17, _ => exact (am_mem (tb4 45 rfl) rfl)
    | 18, _ => exact (am_mem (tb4 47 rfl) rfl)
    | 19, _ => exact (am_mem (tb4 49 rfl) rfl)
    | 20, _ => exact (am_mem (tb4 51 rfl) rfl)
    | 21, _ => exact (am_mem (tb4 53 rfl) rfl)
    | 22, _ => exact (am_mem (tb4 55 rfl) rfl)
    | 23, _ => exact (am_mem (tb4 57 rfl) rfl)
    | 24, _ => exact (am_mem (tb4 59 rfl) rfl)
    | 25, _ => exact (am_mem (tb4 61 rfl) rfl)
    | 26, _ => exact (am_mem (tb4 63 rfl) rfl)
    | 27, _ => exact (am_mem (tb4 65 rfl) rfl)
    | 28, _ => exact (am_mem (tb4 67 rfl) rfl)
    | 29, _ => exact (am_mem (tb4 69 rfl) rfl)
    | 30, _ => exact (am_mem (tb4 71 rfl) rfl)
    | 31, _ => exact (am_mem (tb4 73 rfl) rfl)
    | k + 32, hk => exact absurd hk (by omega)
  intro w hw
  obtain ⟨k, hk, rfl⟩ := List.mem_map.mp hw
  exact h k (List.mem_range.mp hk)
abbrev classes : List vw_C := [("SpanLinker", T_SL, 6), ("SpanLinker$SourceModule", T_Mod, 13), ("SpanLinker$Inclusion", T_Inc, 6), ("SpanLinker$Row", T_Row, 2), ("SpanLinker$Image", T_Img, 10), ("SpanLinker$Machine", T_Mac, 13), ("SpanLinkerModel", T_Ref, 32)]
theorem am_mx1 : Cond.static Lib.Math.max.name ∈ am_all := (am_mem (tb2 235 rfl) rfl)
theorem am_mx2 : Cond.initialized "java/lang/Math" ∈ am_all := (am_mem (tb1 8 rfl) rfl)
theorem am_mx3 : Cond.code Lib.Math.max.name Lib.Math.max.code 2 (some .int) ∈ am_all := (am_mem (tb2 236 rfl) rfl)
def am_nl : List (String × Nat × MethodName × String) := [("SpanLinker", 164, ⟨"SpanLinker$SourceModule", "<init>", "()V"⟩, "SpanLinker"), ("SpanLinker", 49, ⟨"SpanLinker$Machine", "<init>", "()V"⟩, "SpanLinker"), ("SpanLinker$SourceModule", 79, ⟨"SpanLinker", "isName", "(I)Z"⟩, "SpanLinker"), ("SpanLinker$SourceModule", 82, ⟨"SpanLinker", "isSection", "(I)Z"⟩, "SpanLinker"), ("SpanLinker$SourceModule", 85, ⟨"SpanLinker", "isWord", "(I)Z"⟩, "SpanLinker"), ("SpanLinker$SourceModule", 88, ⟨"SpanLinker", "isWithin", "(III)Z"⟩, "SpanLinker"), ("SpanLinker$SourceModule", 76, ⟨"SpanLinker", "hasName", "(II)Z"⟩, "SpanLinker"), ("SpanLinker$SourceModule", 94, ⟨"SpanLinker", "setOf", "(I)I"⟩, "SpanLinker"), ("SpanLinker$Inclusion", 27, ⟨"SpanLinker", "setOf", "(I)I"⟩, "SpanLinker"), ("SpanLinker$Inclusion", 58, ⟨"SpanLinker", "hasName", "(II)Z"⟩, "SpanLinker"), ("SpanLinker$Image", 108, ⟨"SpanLinker", "hasName", "(II)Z"⟩, "SpanLinker"), ("SpanLinker$Image", 140, ⟨"SpanLinker", "toWord", "(I)I"⟩, "SpanLinker"), ("SpanLinker$Image", 74, ⟨"SpanLinker", "isSection", "(I)Z"⟩, "SpanLinker"), ("SpanLinker$Image", 78, ⟨"SpanLinker", "isWithin", "(III)Z"⟩, "SpanLinker"), ("SpanLinker$Image", 82, ⟨"SpanLinker", "isName", "(I)Z"⟩, "SpanLinker"), ("SpanLinker$Machine", 68, ⟨"SpanLinker", "isWord", "(I)Z"⟩, "SpanLinker"), ("SpanLinker$Machine", 81, ⟨"SpanLinker", "isWithin", "(III)Z"⟩, "SpanLinker"), ("SpanLinker$Machine", 99, ⟨"SpanLinker", "toWord", "(I)I"⟩, "SpanLinker")]
def am_nest : List Cond := am_nl.map (fun q => Cond.methodLinkNest q.1 q.2.1 q.2.2.1 q.2.2.2)
end
section
-- the layer over positions. 'classes', 'am_all', 'am_nest' come from the names' part (09) ahead of this one.
/-- what stands on the stack and in the locals: an int, or a reference by its position (none: null) -/
abbrev am_V : Type := Int32 ⊕ Option Nat
abbrev vI (x : Int32) : am_V := .inl x
abbrev vR (k : Nat) : am_V := .inr (some k)
def am_cv (ad : Nat → Nat) (v : am_V) : Value := match v with
  | .inl x => .int x
  | .inr r => va_rf (r.map ad)
theorem am_cv_cat (ad : Nat → Nat) (v : am_V) : (am_cv ad v).category = 1 := by
  cases v with
  | inl x => rfl
  | inr r => cases r <;> rfl
/-- a cell: an array (number of its table, length, ints or references), or an object (number of its class, fields) -/
abbrev am_E : Type := (Nat × Nat × ((Nat → Int32) ⊕ (Nat → Option Nat))) ⊕ (Nat × List am_V)
abbrev am_H : Type := Nat → am_E
def am_ce (tc : Nat → ClassId) (ad : Nat → Nat) (e : am_E) : va_E := match e with
  | .inl (t, N, .inl f) => .inl (tc t, N, .inl f)
  | .inl (t, N, .inr g) => .inl (tc t, N, .inr (.inr (.inr (.inr (fun i => (g i).map ad)))))
  | .inr (ci, fs) => .inr (ci, fs.map (am_cv ad))
def am_ws (tc : Nat → ClassId) (ad : Nat → Nat) (n : Nat) (h : am_H) : va_W := (List.range n).map (fun k => (ad k, am_ce tc ad (h k)))
theorem am_get {tc : Nat → ClassId} {ad : Nat → Nat} {n k : Nat} {h : am_H} {e : am_E} (hk : k < n) (he : h k = e) : (am_ws tc ad n h)[k]? = some (ad k, am_ce tc ad e) := by
  subst he
  simp [am_ws, hk]
theorem am_len (tc : Nat → ClassId) (ad : Nat → Nat) (n : Nat) (h : am_H) : (am_ws tc ad n h).length = n := by simp [am_ws]
theorem am_set {tc : Nat → ClassId} {ad : Nat → Nat} {n k : Nat} {h : am_H} (e : am_E) (hk : k < n) : (am_ws tc ad n h).set k (ad k, am_ce tc ad e) = am_ws tc ad n (va_up h k e) := by
  apply List.ext_getElem?
  intro i
  by_cases hi : i = k
  · subst hi
    rw [List.getElem?_set_self (by rw [am_len]; exact hk), am_get hk (va_up_self _ _ _)]
  · rw [List.getElem?_set_ne (fun q => hi q.symm)]
    by_cases hn : i < n
    · rw [am_get hn rfl, am_get hn rfl, va_up_ne _ _ hi]
    · rw [List.getElem?_eq_none (by rw [am_len]; omega), List.getElem?_eq_none (by rw [am_len]; omega)]
-- scoping: all references of a cell point below n
def am_okv (n : Nat) (v : am_V) : Prop := match v with
  | .inr (some k) => k < n
  | _ => True
def am_oke (n : Nat) (e : am_E) : Prop := match e with
  | .inl (_, _, .inl _) => True
  | .inl (_, _, .inr g) => ∀ i k, g i = some k → k < n
  | .inr (_, fs) => ∀ v ∈ fs, am_okv n v
theorem am_cv_congr {n : Nat} {ad ad' : Nat → Nat} (ha : ∀ k, k < n → ad' k = ad k) {v : am_V} (hv : am_okv n v) : am_cv ad' v = am_cv ad v := by
  cases v with
  | inl x => rfl
  | inr r =>
    cases r with
    | none => rfl
    | some k =>
      show Value.ref (ad' k) = Value.ref (ad k)
      rw [ha k hv]
theorem am_ce_congr {n : Nat} {tc : Nat → ClassId} {ad ad' : Nat → Nat} (ha : ∀ k, k < n → ad' k = ad k) {e : am_E} (he : am_oke n e) : am_ce tc ad' e = am_ce tc ad e := by
  rcases e with ⟨t, N, f | g⟩ | ⟨ci, fs⟩
  · rfl
  · have : (fun i => (g i).map ad') = fun i => (g i).map ad := funext fun i => by
      cases hg : g i with
      | none => rfl
      | some k => show some (ad' k) = some (ad k); rw [ha k (he i k hg)]
    show (Sum.inl (tc t, N, .inr (.inr (.inr (.inr (fun i => (g i).map ad'))))) : va_E) = Sum.inl (tc t, N, .inr (.inr (.inr (.inr (fun i => (g i).map ad)))))
    rw [this]
  · have : fs.map (am_cv ad') = fs.map (am_cv ad) := List.map_congr_left fun v hv => am_cv_congr ha (he v hv)
    show (Sum.inr (ci, fs.map (am_cv ad')) : va_E) = Sum.inr (ci, fs.map (am_cv ad))
    rw [this]
theorem am_push {tc : Nat → ClassId} {ad : Nat → Nat} {n q : Nat} {h : am_H} {e : am_E} (hs : ∀ k, k < n → am_oke n (h k)) : am_ws tc ad n h ++ [(q, am_ce tc (va_up ad n q) e)] = am_ws tc (va_up ad n q) (n + 1) (va_up h n e) := by
  unfold am_ws
  rw [List.range_succ, List.map_append, List.map_singleton, va_up_self, va_up_self]
  congr 1
  apply List.map_congr_left
  intro k hk
  have hk := List.mem_range.mp hk
  rw [va_up_ne ad q (Nat.ne_of_lt hk), va_up_ne h e (Nat.ne_of_lt hk), am_ce_congr (fun j hj => va_up_ne ad q (Nat.ne_of_lt hj)) (hs k hk)]
-- locals: what is known of them, by number
def am_has (ls : Array Slot) (n : Nat) (ad : Nat → Nat) (L : Nat → Option am_V) : Prop := ls.size = n ∧ lv_wf ls ∧ ∀ i v, L i = some v → ls[i]? = some (.val (am_cv ad v))
def am_ll (ad : Nat → Nat) (n : Nat) (L : Nat → Option am_V) : List (Nat × Value) := (List.range n).filterMap (fun i => (L i).map (fun v => (i, am_cv ad v)))
theorem am_ll_in {ad : Nat → Nat} {n : Nat} {L : Nat → Option am_V} {q : Nat × Value} (h : q ∈ am_ll ad n L) : ∃ v, L q.1 = some v ∧ q.2 = am_cv ad v := by
  obtain ⟨j, -, hm⟩ := List.mem_filterMap.mp h
  cases hL : L j with
  | none => rw [hL] at hm; cases hm
  | some w =>
    rw [hL] at hm
    have e : (j, am_cv ad w) = q := Option.some.inj hm
    subst e
    exact ⟨w, hL, rfl⟩
theorem am_ll_mem {ad : Nat → Nat} {n i : Nat} {L : Nat → Option am_V} {v : am_V} (hi : i < n) (h : L i = some v) : (i, am_cv ad v) ∈ am_ll ad n L := List.mem_filterMap.mpr ⟨i, List.mem_range.mpr hi, by rw [h]; rfl⟩
theorem am_has.ll {ls : Array Slot} {n : Nat} {ad : Nat → Nat} {L : Nat → Option am_V} (h : am_has ls n ad L) : lv_has ls n (am_ll ad n L) := ⟨h.1, h.2.1, fun q hq => by
  obtain ⟨v, h1, h2⟩ := am_ll_in hq
  rw [h2]
  exact h.2.2 q.1 v h1⟩
theorem am_has.ll1 {ls : Array Slot} {n i : Nat} {ad : Nat → Nat} {L : Nat → Option am_V} {v : am_V} (h : am_has ls n ad L) (hv : L i = some v) : lv_has ls n ((i, am_cv ad v) :: am_ll ad n L) := ⟨h.1, h.2.1, fun q hq => by
  rcases List.mem_cons.mp hq with rfl | hq
  · exact h.2.2 i v hv
  · exact h.ll.2.2 q hq⟩
theorem am_has.st {ls ls' : Array Slot} {n i : Nat} {ad : Nat → Nat} {L : Nat → Option am_V} {v : am_V} {l : List (Nat × Value)} (h : am_has ls n ad L) (hs : ∀ q ∈ am_ll ad n L, q ∈ l) (h' : lv_has ls' n ((i, am_cv ad v) :: l.filter (fun q => !(q.1 == i) && !(q.1 + 1 == i && q.2.category == 2)))) : am_has ls' n ad (va_up L i (some v)) := by
  refine ⟨h'.1, h'.2.1, fun j w hw => ?_⟩
  by_cases e : j = i
  · subst e
    rw [va_up_self] at hw
    cases hw
    exact h'.2.2 _ List.mem_cons_self
  · rw [va_up_ne _ _ e] at hw
    have hj : j < n := by
      have := lv_lt (h.2.2 j w hw)
      rw [h.1] at this
      exact this
    exact h'.2.2 (j, am_cv ad w) (List.mem_cons_of_mem _ (List.mem_filter.mpr ⟨hs _ (am_ll_mem hj hw), by simp [e, am_cv_cat]⟩))
theorem am_args_mem (ad : Nat → Nat) : ∀ (av : List am_V) (k i : Nat) (v : am_V), av[i]? = some v → (k + i, am_cv ad v) ∈ lv_args k (av.map (am_cv ad))
  | [], _, i, v, h => by simp at h
  | a :: r, k, 0, v, h => by
    have e : a = v := by simpa using h
    subst e
    show (k + 0, am_cv ad a) ∈ (k, am_cv ad a) :: _
    exact List.mem_cons_self
  | a :: r, k, i + 1, v, h => by
    have h2 : r[i]? = some v := by simpa using h
    have := am_args_mem ad r (k + 1) i v h2
    show (k + (i + 1), am_cv ad v) ∈ (k, am_cv ad a) :: lv_args (if (am_cv ad a).category = 2 then k + 2 else k + 1) (r.map (am_cv ad))
    rw [am_cv_cat, if_neg (by decide), show k + (i + 1) = k + 1 + i by omega]
    exact List.mem_cons_of_mem _ this
theorem am_entry {ls : Array Slot} {n : Nat} {ad : Nat → Nat} {av : List am_V} (h : lv_has ls n (lv_args 0 (av.map (am_cv ad)))) : am_has ls n ad (fun i => av[i]?) := ⟨h.1, h.2.1, fun i v hv => by
  have := h.2.2 _ (am_args_mem ad av 0 i v hv)
  rw [Nat.zero_add] at this
  exact this⟩
theorem am_sl (ad : Nat → Nat) (av : List am_V) : (lg_sl (av.map (am_cv ad))).length = av.length := by
  induction av with
  | nil => rfl
  | cons v t ih =>
    simp only [lg_sl, List.map_cons, List.flatMap_cons, List.length_append] at ih ⊢
    rw [ih, am_cv_cat]
    simp
    omega
-- array classes by number, and what is known of the tables in every state
def am_tl (tc : Nat → ClassId) : List (ClassId × FieldType) := [(tc 0, .int), (tc 1, .boolean), (tc 2, .object "SpanLinker$SourceModule"), (tc 3, .array .int)]
/-- arrays of int[] can be made -/
def am_AOA (U : State) : Prop := (Cond.arrayOver (.array .int)).before #[] U = true
def am_K (D : va_G) (tc : Nat → ClassId) (U : State) : Prop := va_K D classes (am_tl tc) U ∧ (∀ w ∈ am_nest, va_Nw w U) ∧ va_AO "SpanLinker$SourceModule" U ∧ am_AOA U
-- a method: own class, name, bytes, locals, return type
abbrev am_M : Type := String × MethodName × ByteArray × Nat × Option FieldType
def am_w (M : am_M) : List Cond := .code M.2.1 M.2.2.1 M.2.2.2.1 M.2.2.2.2 :: am_all
def am_R (d mc ms : Nat) : Room := { frames := d, cells := mc, slots := ms, locals := 40 * d }
def am_F (M : am_M) (d mc ms : Nat) (p : Program) (R : Room) (s : State) (m : MethodId) (args : Array Value) (meth : Method) (c : Code) (D : va_G) (tc : Nat → ClassId) (A : Nat → Prop) : Prop :=
  CallFix p m c M.2.2.1 M.2.2.2.1 s args am_all M.1 ∧ meth.sig.returnType = M.2.2.2.2 ∧ meth.locks = false ∧ (M.2.1.name = "<init>" → meth.name = "<init>") ∧ (d ≤ R.frames ∧ R.cells = mc ∧ R.slots = ms ∧ 40 * d ≤ R.locals) ∧ am_K D tc s ∧ ∀ q, s.heap.size ≤ q → A q
-- the script: its address is ad at a position far above all cells
def am_SP : Nat := 1000000
def am_X (SC : Option (Nat × (Nat → Int32))) (ad : Nat → Nat) (A : Nat → Prop) (s : State) : Prop := ∀ L xs, SC = some (L, xs) → va_X (ad am_SP) L xs s s.heap ∧ ad am_SP < s.heap.size ∧ ¬ A (ad am_SP)
-- an instruction that returns v
def am_rd (M : am_M) (pc : Nat) (v : Option am_V) : Prop :=
  (decode M.2.2.1 pc = .ok (.ireturn, 1) ∧ ∃ (x : Int32) (ty : FieldType), v = some (vI x) ∧ M.2.2.2.2 = some ty ∧ narrow ty (.int x) = .int x) ∨
  (decode M.2.2.1 pc = .ok (.return_, 1) ∧ v = none ∧ M.2.2.2.2 = none) ∨
  (decode M.2.2.1 pc = .ok (.areturn, 1) ∧ ∃ (k : Nat) (ty : FieldType), v = some (vR k) ∧ M.2.2.2.2 = some ty ∧ ((∃ z, ty = .object z) ∨ ∃ t, ty = .array t))
def am_AW (M : am_M) (d mc ms : Nat) (SC : Option (Nat × (Nat → Int32))) (Q : Option am_V → Nat → am_H → Prop) (pc : Nat) (L : Nat → Option am_V) (st : List am_V) (n : Nat) (h : am_H) (uc us : Nat) : Prop :=
  ∀ (p : Program) (l : Launch) (e : Env) (R : Room) (s : State) (m : MethodId) (args : Array Value) (below : List Frame) (meth : Method) (c : Code) (D : va_G) (tc : Nat → ClassId) (A : Nat → Prop) (Qm : State → Prop) (ad : Nat → Nat) (H : Heap) (locs : List Loc) (ls : Array Slot),
    am_F M d mc ms p R s m args meth c D tc A → am_X SC ad A s →
    va_P D classes (am_ws tc ad n h) H → va_D A (am_ws tc ad n h) → va_S A s.heap H locs →
    am_has ls M.2.2.2.1 ad L →
    (∀ (v : Option am_V) (n' : Nat) (h' : am_H) (ad' : Nat → Nat) (H' : Heap) (locs' : List Loc) (ls' : Array Slot) (pc' : Nat), Q v n' h' → n ≤ n' → (∀ k, k < n ∨ n' ≤ k → ad' k = ad k) → va_P D classes (am_ws tc ad' n' h') H' → va_D A (am_ws tc ad' n' h') → va_S A s.heap H' locs' → am_rd M pc' v →
      W p l e R s m args below meth c H' locs' mc ms Qm (F0 m pc' ls' (v.toList.map (am_cv ad')))) →
    W p l e R s m args below meth c H locs uc us Qm (F0 m pc ls (st.map (am_cv ad)))
-- a method's contract: from heap (n, h) and arguments av, answer and heap with Q
def am_AM (M : am_M) (d mc ms : Nat) (av : List am_V) (n : Nat) (h : am_H) (Q : Option am_V → Nat → am_H → Prop) : Prop :=
  ∀ (l : Launch) (D : va_G) (tc : Nat → ClassId) (ad : Nat → Nat) (sz : Nat), Met l M.2.1 (am_w M) (am_R d mc ms)
    (va_Pc (av.map (am_cv ad)) (fun U => U.heap.size = sz ∧ va_P D classes (am_ws tc ad n h) U.heap ∧ am_K D tc U ∧ va_D (fun _ => True) (am_ws tc ad n h)))
    (fun _ st oc t => (∃ (v : Option am_V) (n' : Nat) (h' : am_H) (ad' : Nat → Nat), oc = .returned (v.map (am_cv ad')) ∧ Q v n' h' ∧ n ≤ n' ∧ (∀ k, k < n ∨ n' ≤ k → ad' k = ad k) ∧ va_P D classes (am_ws tc ad' n' h') t.heap ∧ va_D (va_A (am_ws tc ad n h) sz) (am_ws tc ad' n' h')) ∧ va_F (va_A (am_ws tc ad n h) sz) st t)
    mc ms (va_A (am_ws tc ad n h) sz)
-- weaker ends, and loops: an AW is a Prop, so a loop is an induction of one's own on a measure with 'AW at the head' as its statement
theorem am_AW.mono {M : am_M} {d mc ms : Nat} {SC : Option (Nat × (Nat → Int32))} {Q Q2 : Option am_V → Nat → am_H → Prop} {pc : Nat} {L : Nat → Option am_V} {st : List am_V} {n : Nat} {h : am_H} {uc us : Nat} (hw : am_AW M d mc ms SC Q pc L st n h uc us) (hq : ∀ v n' h', Q v n' h' → Q2 v n' h') : am_AW M d mc ms SC Q2 pc L st n h uc us := by
  intro p l e R s m args below meth c D tc A Qm ad H locs ls F X hP hD hS hl hret
  exact hw p l e R s m args below meth c D tc A Qm ad H locs ls F X hP hD hS hl (fun v n' h' ad' H' locs' ls' pc' q => hret v n' h' ad' H' locs' ls' pc' (hq v n' h' q))
theorem am_AW.wide {M : am_M} {d mc ms : Nat} {SC : Option (Nat × (Nat → Int32))} {Q : Option am_V → Nat → am_H → Prop} {pc : Nat} {L : Nat → Option am_V} {st : List am_V} {n : Nat} {h : am_H} {uc us uc' us' : Nat} (h1 : uc ≤ uc') (h2 : us ≤ us') (hw : am_AW M d mc ms SC Q pc L st n h uc' us') : am_AW M d mc ms SC Q pc L st n h uc us := by
  intro p l e R s m args below meth c D tc A Qm ad H locs ls F X hP hD hS hl hret
  exact W.widen h1 h2 (hw p l e R s m args below meth c D tc A Qm ad H locs ls F X hP hD hS hl hret)
end
section
-- printed by wip/whole/gen/gen_ai.py
section AI
variable {M : am_M} {d mc ms : Nat} {SC : Option (Nat × (Nat → Int32))} {Q : Option am_V → Nat → am_H → Prop} {pc : Nat} {L : Nat → Option am_V} {rest : List am_V} {n : Nat} {h : am_H} {uc us : Nat}
theorem i_iconst {z : Int} {x : Int32} (hd : decode M.2.2.1 pc = .ok (.iconst z, 1)) (hv : Int32.ofInt z = x) (kk : am_AW M d mc ms SC Q (pc + 1) L (vI x :: rest) n h uc us) : am_AW M d mc ms SC Q pc L rest n h uc us := by
  intro p l e R s m args below meth c D tc A Qm ad H locs ls F X hP hD hS hl hret
  exact lv_iconst F.1.1 F.1.2.1 hd hv (kk p l e R s m args below meth c D tc A Qm ad H locs ls F X hP hD hS hl hret)
theorem i_bipush {z : Int} {x : Int32} (hd : decode M.2.2.1 pc = .ok (.bipush z, 2)) (hv : (Int8.ofInt z).toInt32 = x) (kk : am_AW M d mc ms SC Q (pc + 2) L (vI x :: rest) n h uc us) : am_AW M d mc ms SC Q pc L rest n h uc us := by
  intro p l e R s m args below meth c D tc A Qm ad H locs ls F X hP hD hS hl hret
  exact lv_bipush F.1.1 F.1.2.1 hd hv (kk p l e R s m args below meth c D tc A Qm ad H locs ls F X hP hD hS hl hret)
theorem i_sipush {z : Int} {x : Int32} (hd : decode M.2.2.1 pc = .ok (.sipush z, 3)) (hv : (Int16.ofInt z).toInt32 = x) (kk : am_AW M d mc ms SC Q (pc + 3) L (vI x :: rest) n h uc us) : am_AW M d mc ms SC Q pc L rest n h uc us := by
  intro p l e R s m args below meth c D tc A Qm ad H locs ls F X hP hD hS hl hret
  exact lv_sipush F.1.1 F.1.2.1 hd hv (kk p l e R s m args below meth c D tc A Qm ad H locs ls F X hP hD hS hl hret)
theorem i_ldc {index : Nat} {x : Int32} (hd : decode M.2.2.1 pc = .ok (.ldc index, 2)) (hw : Cond.constant M.1 index x ∈ am_all) (kk : am_AW M d mc ms SC Q (pc + 2) L (vI x :: rest) n h uc us) : am_AW M d mc ms SC Q pc L rest n h uc us := by
  intro p l e R s m args below meth c D tc A Qm ad H locs ls F X hP hD hS hl hret
  exact lv_ldc F.1.1 F.1.2.1 F.1.2.2.2.1 (F.1.2.2.2.2 _ hw) hd (kk p l e R s m args below meth c D tc A Qm ad H locs ls F X hP hD hS hl hret)
theorem i_iload_n {k : Fin 4} {i : Nat} {x : Int32} (hd : decode M.2.2.1 pc = .ok (.iload_n k, 1)) (hi : (k : Nat) = i) (hL : L i = some (vI x)) (kk : am_AW M d mc ms SC Q (pc + 1) L (vI x :: rest) n h uc us) : am_AW M d mc ms SC Q pc L rest n h uc us := by
  intro p l e R s m args below meth c D tc A Qm ad H locs ls F X hP hD hS hl hret
  exact lv_iload_n F.1.1 F.1.2.1 hd hi (hl.2.2 i _ hL) (kk p l e R s m args below meth c D tc A Qm ad H locs ls F X hP hD hS hl hret)
theorem i_iload {i : Nat} {x : Int32} (hd : decode M.2.2.1 pc = .ok (.iload i, 2)) (hL : L i = some (vI x)) (kk : am_AW M d mc ms SC Q (pc + 2) L (vI x :: rest) n h uc us) : am_AW M d mc ms SC Q pc L rest n h uc us := by
  intro p l e R s m args below meth c D tc A Qm ad H locs ls F X hP hD hS hl hret
  exact lv_iload F.1.1 F.1.2.1 hd (hl.2.2 i _ hL) (kk p l e R s m args below meth c D tc A Qm ad H locs ls F X hP hD hS hl hret)
theorem i_istore_n {k : Fin 4} {i : Nat} {x : Int32} (hd : decode M.2.2.1 pc = .ok (.istore_n k, 1)) (hi : (k : Nat) = i) (hn : i < M.2.2.2.1) (kk : am_AW M d mc ms SC Q (pc + 1) (va_up L i (some (vI x))) rest n h uc us) : am_AW M d mc ms SC Q pc L (vI x :: rest) n h uc us := by
  intro p l e R s m args below meth c D tc A Qm ad H locs ls F X hP hD hS hl hret
  exact lv_istore_n F.1.1 F.1.2.1 hd hi hl.ll hn rfl (fun ls' hl' => kk p l e R s m args below meth c D tc A Qm ad H locs ls' F X hP hD hS (hl.st (v := vI x) (fun _ q => q) hl') hret)
theorem i_istore {i : Nat} {x : Int32} (hd : decode M.2.2.1 pc = .ok (.istore i, 2)) (hn : i < M.2.2.2.1) (kk : am_AW M d mc ms SC Q (pc + 2) (va_up L i (some (vI x))) rest n h uc us) : am_AW M d mc ms SC Q pc L (vI x :: rest) n h uc us := by
  intro p l e R s m args below meth c D tc A Qm ad H locs ls F X hP hD hS hl hret
  exact lv_istore F.1.1 F.1.2.1 hd hl.ll hn rfl (fun ls' hl' => kk p l e R s m args below meth c D tc A Qm ad H locs ls' F X hP hD hS (hl.st (v := vI x) (fun _ q => q) hl') hret)
theorem i_aload_n {k : Fin 4} {i : Nat} {x : Nat} (hd : decode M.2.2.1 pc = .ok (.aload_n k, 1)) (hi : (k : Nat) = i) (hL : L i = some (vR x)) (kk : am_AW M d mc ms SC Q (pc + 1) L (vR x :: rest) n h uc us) : am_AW M d mc ms SC Q pc L rest n h uc us := by
  intro p l e R s m args below meth c D tc A Qm ad H locs ls F X hP hD hS hl hret
  exact lv_aload_n F.1.1 F.1.2.1 hd hi (hl.2.2 i _ hL) (kk p l e R s m args below meth c D tc A Qm ad H locs ls F X hP hD hS hl hret)
theorem i_aload {i : Nat} {x : Nat} (hd : decode M.2.2.1 pc = .ok (.aload i, 2)) (hL : L i = some (vR x)) (kk : am_AW M d mc ms SC Q (pc + 2) L (vR x :: rest) n h uc us) : am_AW M d mc ms SC Q pc L rest n h uc us := by
  intro p l e R s m args below meth c D tc A Qm ad H locs ls F X hP hD hS hl hret
  exact lv_aload F.1.1 F.1.2.1 hd (hl.2.2 i _ hL) (kk p l e R s m args below meth c D tc A Qm ad H locs ls F X hP hD hS hl hret)
theorem i_astore_n {k : Fin 4} {i : Nat} {x : Nat} (hd : decode M.2.2.1 pc = .ok (.astore_n k, 1)) (hi : (k : Nat) = i) (hn : i < M.2.2.2.1) (kk : am_AW M d mc ms SC Q (pc + 1) (va_up L i (some (vR x))) rest n h uc us) : am_AW M d mc ms SC Q pc L (vR x :: rest) n h uc us := by
  intro p l e R s m args below meth c D tc A Qm ad H locs ls F X hP hD hS hl hret
  exact lv_astore_n F.1.1 F.1.2.1 hd hi hl.ll hn rfl (fun ls' hl' => kk p l e R s m args below meth c D tc A Qm ad H locs ls' F X hP hD hS (hl.st (v := vR x) (fun _ q => q) hl') hret)
theorem i_astore {i : Nat} {x : Nat} (hd : decode M.2.2.1 pc = .ok (.astore i, 2)) (hn : i < M.2.2.2.1) (kk : am_AW M d mc ms SC Q (pc + 2) (va_up L i (some (vR x))) rest n h uc us) : am_AW M d mc ms SC Q pc L (vR x :: rest) n h uc us := by
  intro p l e R s m args below meth c D tc A Qm ad H locs ls F X hP hD hS hl hret
  exact lv_astore F.1.1 F.1.2.1 hd hl.ll hn rfl (fun ls' hl' => kk p l e R s m args below meth c D tc A Qm ad H locs ls' F X hP hD hS (hl.st (v := vR x) (fun _ q => q) hl') hret)
theorem i_iinc {i : Nat} {z : Int} {x y w : Int32} (hd : decode M.2.2.1 pc = .ok (.iinc i z, 3)) (hL : L i = some (vI x)) (hw : Int32.ofInt z = w) (hv : x + w = y) (hn : i < M.2.2.2.1) (kk : am_AW M d mc ms SC Q (pc + 3) (va_up L i (some (vI y))) rest n h uc us) : am_AW M d mc ms SC Q pc L rest n h uc us := by
  intro p l e R s m args below meth c D tc A Qm ad H locs ls F X hP hD hS hl hret
  subst hw; exact lv_iinc (k := 0) F.1.1 F.1.2.1 hd (hl.ll1 hL) rfl hv hn rfl (fun ls' hl' => kk p l e R s m args below meth c D tc A Qm ad H locs ls' F X hP hD hS (hl.st (v := vI y) (fun _ q => List.mem_cons_of_mem _ q) hl') hret)
theorem i_iadd {x y z : Int32} (hd : decode M.2.2.1 pc = .ok (.iadd, 1)) (hv : x + y = z) (kk : am_AW M d mc ms SC Q (pc + 1) L (vI z :: rest) n h uc us) : am_AW M d mc ms SC Q pc L (vI y :: vI x :: rest) n h uc us := by
  intro p l e R s m args below meth c D tc A Qm ad H locs ls F X hP hD hS hl hret
  subst hv; exact lv_iadd F.1.1 F.1.2.1 hd (kk p l e R s m args below meth c D tc A Qm ad H locs ls F X hP hD hS hl hret)
theorem i_isub {x y z : Int32} (hd : decode M.2.2.1 pc = .ok (.isub, 1)) (hv : x - y = z) (kk : am_AW M d mc ms SC Q (pc + 1) L (vI z :: rest) n h uc us) : am_AW M d mc ms SC Q pc L (vI y :: vI x :: rest) n h uc us := by
  intro p l e R s m args below meth c D tc A Qm ad H locs ls F X hP hD hS hl hret
  subst hv; exact lv_isub F.1.1 F.1.2.1 hd (kk p l e R s m args below meth c D tc A Qm ad H locs ls F X hP hD hS hl hret)
theorem i_imul {x y z : Int32} (hd : decode M.2.2.1 pc = .ok (.imul, 1)) (hv : x * y = z) (kk : am_AW M d mc ms SC Q (pc + 1) L (vI z :: rest) n h uc us) : am_AW M d mc ms SC Q pc L (vI y :: vI x :: rest) n h uc us := by
  intro p l e R s m args below meth c D tc A Qm ad H locs ls F X hP hD hS hl hret
  subst hv; exact lv_imul F.1.1 F.1.2.1 hd (kk p l e R s m args below meth c D tc A Qm ad H locs ls F X hP hD hS hl hret)
theorem i_iand {x y z : Int32} (hd : decode M.2.2.1 pc = .ok (.iand, 1)) (hv : x &&& y = z) (kk : am_AW M d mc ms SC Q (pc + 1) L (vI z :: rest) n h uc us) : am_AW M d mc ms SC Q pc L (vI y :: vI x :: rest) n h uc us := by
  intro p l e R s m args below meth c D tc A Qm ad H locs ls F X hP hD hS hl hret
  subst hv; exact lv_iand F.1.1 F.1.2.1 hd (kk p l e R s m args below meth c D tc A Qm ad H locs ls F X hP hD hS hl hret)
theorem i_ior {x y z : Int32} (hd : decode M.2.2.1 pc = .ok (.ior, 1)) (hv : x ||| y = z) (kk : am_AW M d mc ms SC Q (pc + 1) L (vI z :: rest) n h uc us) : am_AW M d mc ms SC Q pc L (vI y :: vI x :: rest) n h uc us := by
  intro p l e R s m args below meth c D tc A Qm ad H locs ls F X hP hD hS hl hret
  subst hv; exact lv_ior F.1.1 F.1.2.1 hd (kk p l e R s m args below meth c D tc A Qm ad H locs ls F X hP hD hS hl hret)
theorem i_ixor {x y z : Int32} (hd : decode M.2.2.1 pc = .ok (.ixor, 1)) (hv : x ^^^ y = z) (kk : am_AW M d mc ms SC Q (pc + 1) L (vI z :: rest) n h uc us) : am_AW M d mc ms SC Q pc L (vI y :: vI x :: rest) n h uc us := by
  intro p l e R s m args below meth c D tc A Qm ad H locs ls F X hP hD hS hl hret
  subst hv; exact lv_ixor F.1.1 F.1.2.1 hd (kk p l e R s m args below meth c D tc A Qm ad H locs ls F X hP hD hS hl hret)
theorem i_ishl {x y z : Int32} (hd : decode M.2.2.1 pc = .ok (.ishl, 1)) (hv : x <<< (y &&& 31) = z) (kk : am_AW M d mc ms SC Q (pc + 1) L (vI z :: rest) n h uc us) : am_AW M d mc ms SC Q pc L (vI y :: vI x :: rest) n h uc us := by
  intro p l e R s m args below meth c D tc A Qm ad H locs ls F X hP hD hS hl hret
  subst hv; exact lv_ishl F.1.1 F.1.2.1 hd (kk p l e R s m args below meth c D tc A Qm ad H locs ls F X hP hD hS hl hret)
theorem i_ishr {x y z : Int32} (hd : decode M.2.2.1 pc = .ok (.ishr, 1)) (hv : x >>> (y &&& 31) = z) (kk : am_AW M d mc ms SC Q (pc + 1) L (vI z :: rest) n h uc us) : am_AW M d mc ms SC Q pc L (vI y :: vI x :: rest) n h uc us := by
  intro p l e R s m args below meth c D tc A Qm ad H locs ls F X hP hD hS hl hret
  subst hv; exact lv_ishr F.1.1 F.1.2.1 hd (kk p l e R s m args below meth c D tc A Qm ad H locs ls F X hP hD hS hl hret)
theorem i_idiv {x y z : Int32} (hd : decode M.2.2.1 pc = .ok (.idiv, 1)) (hne : ¬ y = 0) (hv : x / y = z) (kk : am_AW M d mc ms SC Q (pc + 1) L (vI z :: rest) n h uc us) : am_AW M d mc ms SC Q pc L (vI y :: vI x :: rest) n h uc us := by
  intro p l e R s m args below meth c D tc A Qm ad H locs ls F X hP hD hS hl hret
  subst hv; exact lv_idiv F.1.1 F.1.2.1 hd hne (kk p l e R s m args below meth c D tc A Qm ad H locs ls F X hP hD hS hl hret)
theorem i_irem {x y z : Int32} (hd : decode M.2.2.1 pc = .ok (.irem, 1)) (hne : ¬ y = 0) (hv : x - x / y * y = z) (kk : am_AW M d mc ms SC Q (pc + 1) L (vI z :: rest) n h uc us) : am_AW M d mc ms SC Q pc L (vI y :: vI x :: rest) n h uc us := by
  intro p l e R s m args below meth c D tc A Qm ad H locs ls F X hP hD hS hl hret
  subst hv; exact lv_irem F.1.1 F.1.2.1 hd hne (kk p l e R s m args below meth c D tc A Qm ad H locs ls F X hP hD hS hl hret)
theorem i_iushr {x y z : Int32} (hd : decode M.2.2.1 pc = .ok (.iushr, 1)) (hv : (x.toUInt32 >>> (y.toUInt32 &&& Int32.toUInt32 31)).toInt32 = z) (kk : am_AW M d mc ms SC Q (pc + 1) L (vI z :: rest) n h uc us) : am_AW M d mc ms SC Q pc L (vI y :: vI x :: rest) n h uc us := by
  intro p l e R s m args below meth c D tc A Qm ad H locs ls F X hP hD hS hl hret
  exact lv_iushr F.1.1 F.1.2.1 hd hv (kk p l e R s m args below meth c D tc A Qm ad H locs ls F X hP hD hS hl hret)
theorem i_ineg {x z : Int32} (hd : decode M.2.2.1 pc = .ok (.ineg, 1)) (hv : -x = z) (kk : am_AW M d mc ms SC Q (pc + 1) L (vI z :: rest) n h uc us) : am_AW M d mc ms SC Q pc L (vI x :: rest) n h uc us := by
  intro p l e R s m args below meth c D tc A Qm ad H locs ls F X hP hD hS hl hret
  subst hv; exact lv_ineg F.1.1 F.1.2.1 hd (kk p l e R s m args below meth c D tc A Qm ad H locs ls F X hP hD hS hl hret)
theorem i_dup {a : am_V} (hd : decode M.2.2.1 pc = .ok (.dup, 1)) (kk : am_AW M d mc ms SC Q (pc + 1) L (a :: a :: rest) n h uc us) : am_AW M d mc ms SC Q pc L (a :: rest) n h uc us := by
  intro p l e R s m args below meth c D tc A Qm ad H locs ls F X hP hD hS hl hret
  exact lv_dup F.1.1 F.1.2.1 hd (am_cv_cat ad a) (kk p l e R s m args below meth c D tc A Qm ad H locs ls F X hP hD hS hl hret)
theorem i_pop {a : am_V} (hd : decode M.2.2.1 pc = .ok (.pop, 1)) (kk : am_AW M d mc ms SC Q (pc + 1) L rest n h uc us) : am_AW M d mc ms SC Q pc L (a :: rest) n h uc us := by
  intro p l e R s m args below meth c D tc A Qm ad H locs ls F X hP hD hS hl hret
  exact lv_pop F.1.1 F.1.2.1 hd (am_cv_cat ad a) (kk p l e R s m args below meth c D tc A Qm ad H locs ls F X hP hD hS hl hret)
theorem i_dup_x1 {a b : am_V} (hd : decode M.2.2.1 pc = .ok (.dup_x1, 1)) (kk : am_AW M d mc ms SC Q (pc + 1) L (a :: b :: a :: rest) n h uc us) : am_AW M d mc ms SC Q pc L (a :: b :: rest) n h uc us := by
  intro p l e R s m args below meth c D tc A Qm ad H locs ls F X hP hD hS hl hret
  exact lv_dup_x1 F.1.1 F.1.2.1 hd (am_cv_cat ad a) (am_cv_cat ad b) (kk p l e R s m args below meth c D tc A Qm ad H locs ls F X hP hD hS hl hret)
theorem i_dup2 {a b : am_V} (hd : decode M.2.2.1 pc = .ok (.dup2, 1)) (kk : am_AW M d mc ms SC Q (pc + 1) L (a :: b :: a :: b :: rest) n h uc us) : am_AW M d mc ms SC Q pc L (a :: b :: rest) n h uc us := by
  intro p l e R s m args below meth c D tc A Qm ad H locs ls F X hP hD hS hl hret
  exact lv_dup2_11 F.1.1 F.1.2.1 hd (am_cv_cat ad a) (am_cv_cat ad b) (kk p l e R s m args below meth c D tc A Qm ad H locs ls F X hP hD hS hl hret)
theorem i_ifeq {x : Int32} {off : Int} {tgt : Nat} (hd : decode M.2.2.1 pc = .ok (.ifCond .eq off, 3)) (ht : (pc : Int) + off = (tgt : Int)) (kt : x = 0 → am_AW M d mc ms SC Q tgt L rest n h uc us) (kf : ¬ x = 0 → am_AW M d mc ms SC Q (pc + 3) L rest n h uc us) : am_AW M d mc ms SC Q pc L (vI x :: rest) n h uc us := by
  intro p l e R s m args below meth c D tc A Qm ad H locs ls F X hP hD hS hl hret
  exact lv_if_eq F.1.1 F.1.2.1 hd ht (fun q => kt q p l e R s m args below meth c D tc A Qm ad H locs ls F X hP hD hS hl hret) (fun q => kf q p l e R s m args below meth c D tc A Qm ad H locs ls F X hP hD hS hl hret)
theorem i_icmpeq {x y : Int32} {off : Int} {tgt : Nat} (hd : decode M.2.2.1 pc = .ok (.if_icmp .eq off, 3)) (ht : (pc : Int) + off = (tgt : Int)) (kt : x = y → am_AW M d mc ms SC Q tgt L rest n h uc us) (kf : ¬ x = y → am_AW M d mc ms SC Q (pc + 3) L rest n h uc us) : am_AW M d mc ms SC Q pc L (vI y :: vI x :: rest) n h uc us := by
  intro p l e R s m args below meth c D tc A Qm ad H locs ls F X hP hD hS hl hret
  exact lv_icmp_eq F.1.1 F.1.2.1 hd ht (fun q => kt q p l e R s m args below meth c D tc A Qm ad H locs ls F X hP hD hS hl hret) (fun q => kf q p l e R s m args below meth c D tc A Qm ad H locs ls F X hP hD hS hl hret)
theorem i_ifne {x : Int32} {off : Int} {tgt : Nat} (hd : decode M.2.2.1 pc = .ok (.ifCond .ne off, 3)) (ht : (pc : Int) + off = (tgt : Int)) (kt : ¬ x = 0 → am_AW M d mc ms SC Q tgt L rest n h uc us) (kf : x = 0 → am_AW M d mc ms SC Q (pc + 3) L rest n h uc us) : am_AW M d mc ms SC Q pc L (vI x :: rest) n h uc us := by
  intro p l e R s m args below meth c D tc A Qm ad H locs ls F X hP hD hS hl hret
  exact lv_if_ne F.1.1 F.1.2.1 hd ht (fun q => kt q p l e R s m args below meth c D tc A Qm ad H locs ls F X hP hD hS hl hret) (fun q => kf q p l e R s m args below meth c D tc A Qm ad H locs ls F X hP hD hS hl hret)
theorem i_icmpne {x y : Int32} {off : Int} {tgt : Nat} (hd : decode M.2.2.1 pc = .ok (.if_icmp .ne off, 3)) (ht : (pc : Int) + off = (tgt : Int)) (kt : ¬ x = y → am_AW M d mc ms SC Q tgt L rest n h uc us) (kf : x = y → am_AW M d mc ms SC Q (pc + 3) L rest n h uc us) : am_AW M d mc ms SC Q pc L (vI y :: vI x :: rest) n h uc us := by
  intro p l e R s m args below meth c D tc A Qm ad H locs ls F X hP hD hS hl hret
  exact lv_icmp_ne F.1.1 F.1.2.1 hd ht (fun q => kt q p l e R s m args below meth c D tc A Qm ad H locs ls F X hP hD hS hl hret) (fun q => kf q p l e R s m args below meth c D tc A Qm ad H locs ls F X hP hD hS hl hret)
theorem i_iflt {x : Int32} {off : Int} {tgt : Nat} (hd : decode M.2.2.1 pc = .ok (.ifCond .lt off, 3)) (ht : (pc : Int) + off = (tgt : Int)) (kt : x < 0 → am_AW M d mc ms SC Q tgt L rest n h uc us) (kf : ¬ x < 0 → am_AW M d mc ms SC Q (pc + 3) L rest n h uc us) : am_AW M d mc ms SC Q pc L (vI x :: rest) n h uc us := by
  intro p l e R s m args below meth c D tc A Qm ad H locs ls F X hP hD hS hl hret
  exact lv_if_lt F.1.1 F.1.2.1 hd ht (fun q => kt q p l e R s m args below meth c D tc A Qm ad H locs ls F X hP hD hS hl hret) (fun q => kf q p l e R s m args below meth c D tc A Qm ad H locs ls F X hP hD hS hl hret)
theorem i_icmplt {x y : Int32} {off : Int} {tgt : Nat} (hd : decode M.2.2.1 pc = .ok (.if_icmp .lt off, 3)) (ht : (pc : Int) + off = (tgt : Int)) (kt : x < y → am_AW M d mc ms SC Q tgt L rest n h uc us) (kf : ¬ x < y → am_AW M d mc ms SC Q (pc + 3) L rest n h uc us) : am_AW M d mc ms SC Q pc L (vI y :: vI x :: rest) n h uc us := by
  intro p l e R s m args below meth c D tc A Qm ad H locs ls F X hP hD hS hl hret
  exact lv_icmp_lt F.1.1 F.1.2.1 hd ht (fun q => kt q p l e R s m args below meth c D tc A Qm ad H locs ls F X hP hD hS hl hret) (fun q => kf q p l e R s m args below meth c D tc A Qm ad H locs ls F X hP hD hS hl hret)
theorem i_ifge {x : Int32} {off : Int} {tgt : Nat} (hd : decode M.2.2.1 pc = .ok (.ifCond .ge off, 3)) (ht : (pc : Int) + off = (tgt : Int)) (kt : 0 ≤ x → am_AW M d mc ms SC Q tgt L rest n h uc us) (kf : ¬ 0 ≤ x → am_AW M d mc ms SC Q (pc + 3) L rest n h uc us) : am_AW M d mc ms SC Q pc L (vI x :: rest) n h uc us := by
  intro p l e R s m args below meth c D tc A Qm ad H locs ls F X hP hD hS hl hret
  exact lv_if_ge F.1.1 F.1.2.1 hd ht (fun q => kt q p l e R s m args below meth c D tc A Qm ad H locs ls F X hP hD hS hl hret) (fun q => kf q p l e R s m args below meth c D tc A Qm ad H locs ls F X hP hD hS hl hret)
theorem i_icmpge {x y : Int32} {off : Int} {tgt : Nat} (hd : decode M.2.2.1 pc = .ok (.if_icmp .ge off, 3)) (ht : (pc : Int) + off = (tgt : Int)) (kt : y ≤ x → am_AW M d mc ms SC Q tgt L rest n h uc us) (kf : ¬ y ≤ x → am_AW M d mc ms SC Q (pc + 3) L rest n h uc us) : am_AW M d mc ms SC Q pc L (vI y :: vI x :: rest) n h uc us := by
  intro p l e R s m args below meth c D tc A Qm ad H locs ls F X hP hD hS hl hret
  exact lv_icmp_ge F.1.1 F.1.2.1 hd ht (fun q => kt q p l e R s m args below meth c D tc A Qm ad H locs ls F X hP hD hS hl hret) (fun q => kf q p l e R s m args below meth c D tc A Qm ad H locs ls F X hP hD hS hl hret)
theorem i_ifgt {x : Int32} {off : Int} {tgt : Nat} (hd : decode M.2.2.1 pc = .ok (.ifCond .gt off, 3)) (ht : (pc : Int) + off = (tgt : Int)) (kt : 0 < x → am_AW M d mc ms SC Q tgt L rest n h uc us) (kf : ¬ 0 < x → am_AW M d mc ms SC Q (pc + 3) L rest n h uc us) : am_AW M d mc ms SC Q pc L (vI x :: rest) n h uc us := by
  intro p l e R s m args below meth c D tc A Qm ad H locs ls F X hP hD hS hl hret
  exact lv_if_gt F.1.1 F.1.2.1 hd ht (fun q => kt q p l e R s m args below meth c D tc A Qm ad H locs ls F X hP hD hS hl hret) (fun q => kf q p l e R s m args below meth c D tc A Qm ad H locs ls F X hP hD hS hl hret)
theorem i_icmpgt {x y : Int32} {off : Int} {tgt : Nat} (hd : decode M.2.2.1 pc = .ok (.if_icmp .gt off, 3)) (ht : (pc : Int) + off = (tgt : Int)) (kt : y < x → am_AW M d mc ms SC Q tgt L rest n h uc us) (kf : ¬ y < x → am_AW M d mc ms SC Q (pc + 3) L rest n h uc us) : am_AW M d mc ms SC Q pc L (vI y :: vI x :: rest) n h uc us := by
  intro p l e R s m args below meth c D tc A Qm ad H locs ls F X hP hD hS hl hret
  exact lv_icmp_gt F.1.1 F.1.2.1 hd ht (fun q => kt q p l e R s m args below meth c D tc A Qm ad H locs ls F X hP hD hS hl hret) (fun q => kf q p l e R s m args below meth c D tc A Qm ad H locs ls F X hP hD hS hl hret)
theorem i_ifle {x : Int32} {off : Int} {tgt : Nat} (hd : decode M.2.2.1 pc = .ok (.ifCond .le off, 3)) (ht : (pc : Int) + off = (tgt : Int)) (kt : x ≤ 0 → am_AW M d mc ms SC Q tgt L rest n h uc us) (kf : ¬ x ≤ 0 → am_AW M d mc ms SC Q (pc + 3) L rest n h uc us) : am_AW M d mc ms SC Q pc L (vI x :: rest) n h uc us := by
  intro p l e R s m args below meth c D tc A Qm ad H locs ls F X hP hD hS hl hret
  exact lv_if_le F.1.1 F.1.2.1 hd ht (fun q => kt q p l e R s m args below meth c D tc A Qm ad H locs ls F X hP hD hS hl hret) (fun q => kf q p l e R s m args below meth c D tc A Qm ad H locs ls F X hP hD hS hl hret)
theorem i_icmple {x y : Int32} {off : Int} {tgt : Nat} (hd : decode M.2.2.1 pc = .ok (.if_icmp .le off, 3)) (ht : (pc : Int) + off = (tgt : Int)) (kt : x ≤ y → am_AW M d mc ms SC Q tgt L rest n h uc us) (kf : ¬ x ≤ y → am_AW M d mc ms SC Q (pc + 3) L rest n h uc us) : am_AW M d mc ms SC Q pc L (vI y :: vI x :: rest) n h uc us := by
  intro p l e R s m args below meth c D tc A Qm ad H locs ls F X hP hD hS hl hret
  exact lv_icmp_le F.1.1 F.1.2.1 hd ht (fun q => kt q p l e R s m args below meth c D tc A Qm ad H locs ls F X hP hD hS hl hret) (fun q => kf q p l e R s m args below meth c D tc A Qm ad H locs ls F X hP hD hS hl hret)
theorem i_goto {off : Int} {tgt : Nat} (hd : decode M.2.2.1 pc = .ok (.goto off, 3)) (ht : (pc : Int) + off = (tgt : Int)) (kk : am_AW M d mc ms SC Q tgt L rest n h uc us) : am_AW M d mc ms SC Q pc L rest n h uc us := by
  intro p l e R s m args below meth c D tc A Qm ad H locs ls F X hP hD hS hl hret
  exact lv_goto F.1.1 F.1.2.1 hd ht (kk p l e R s m args below meth c D tc A Qm ad H locs ls F X hP hD hS hl hret)
theorem i_tableOut {dflt lo hi : Int} {offs : Array Int} {len : Nat} {x : Int32} {tgt : Nat} (hd : decode M.2.2.1 pc = .ok (.tableswitch dflt lo hi offs, len)) (hx : x.toInt < lo ∨ hi < x.toInt) (ht : (pc : Int) + dflt = (tgt : Int)) (kk : am_AW M d mc ms SC Q tgt L rest n h uc us) : am_AW M d mc ms SC Q pc L (vI x :: rest) n h uc us := by
  intro p l e R s m args below meth c D tc A Qm ad H locs ls F X hP hD hS hl hret
  exact lv_tableOut F.1.1 F.1.2.1 hd hx ht (kk p l e R s m args below meth c D tc A Qm ad H locs ls F X hP hD hS hl hret)
theorem i_tableIn {dflt lo hi : Int} {offs : Array Int} {len : Nat} {x : Int32} {off : Int} {tgt : Nat} (hd : decode M.2.2.1 pc = .ok (.tableswitch dflt lo hi offs, len)) (h1 : ¬ x.toInt < lo) (h2 : ¬ hi < x.toInt) (ho : offs[(x.toInt - lo).toNat]? = some off) (ht : (pc : Int) + off = (tgt : Int)) (kk : am_AW M d mc ms SC Q tgt L rest n h uc us) : am_AW M d mc ms SC Q pc L (vI x :: rest) n h uc us := by
  intro p l e R s m args below meth c D tc A Qm ad H locs ls F X hP hD hS hl hret
  exact lv_tableIn F.1.1 F.1.2.1 hd h1 h2 ho ht (kk p l e R s m args below meth c D tc A Qm ad H locs ls F X hP hD hS hl hret)
theorem i_lookup {dflt : Int} {ps : Array (Int × Int)} {len : Nat} {x : Int32} {off : Int} {tgt : Nat} (hd : decode M.2.2.1 pc = .ok (.lookupswitch dflt ps, len)) (hp : (ps.toList.zip (ps.toList.drop 1)).all (fun (a, next) => a.1 < next.1) = true) (ho : Op.lookupswitch.offset ps.toList dflt x.toInt = off) (ht : (pc : Int) + off = (tgt : Int)) (kk : am_AW M d mc ms SC Q tgt L rest n h uc us) : am_AW M d mc ms SC Q pc L (vI x :: rest) n h uc us := by
  intro p l e R s m args below meth c D tc A Qm ad H locs ls F X hP hD hS hl hret
  exact lv_lookup F.1.1 F.1.2.1 hd hp ho ht (kk p l e R s m args below meth c D tc A Qm ad H locs ls F X hP hD hS hl hret)
theorem i_iret {x : Int32} {ty : FieldType} (hd : decode M.2.2.1 pc = .ok (.ireturn, 1)) (hty : M.2.2.2.2 = some ty) (hn : narrow ty (.int x) = .int x) (hc : uc ≤ mc) (hs : us ≤ ms) (hQ : Q (some (vI x)) n h) : am_AW M d mc ms SC Q pc L [vI x] n h uc us := by
  intro p l e R s m args below meth c D tc A Qm ad H locs ls F X hP hD hS hl hret
  exact W.widen hc hs (hret (some (vI x)) n h ad H locs ls pc hQ (Nat.le_refl _) (fun _ _ => rfl) hP hD hS (Or.inl ⟨hd, x, ty, rfl, hty, hn⟩))
theorem i_ret (hd : decode M.2.2.1 pc = .ok (.return_, 1)) (hty : M.2.2.2.2 = none) (hc : uc ≤ mc) (hs : us ≤ ms) (hQ : Q none n h) : am_AW M d mc ms SC Q pc L [] n h uc us := by
  intro p l e R s m args below meth c D tc A Qm ad H locs ls F X hP hD hS hl hret
  exact W.widen hc hs (hret none n h ad H locs ls pc hQ (Nat.le_refl _) (fun _ _ => rfl) hP hD hS (Or.inr (Or.inl ⟨hd, rfl, hty⟩)))
theorem i_aret {k : Nat} {ty : FieldType} (hd : decode M.2.2.1 pc = .ok (.areturn, 1)) (hty : M.2.2.2.2 = some ty) (hrt : (∃ z, ty = .object z) ∨ ∃ t, ty = .array t) (hc : uc ≤ mc) (hs : us ≤ ms) (hQ : Q (some (vR k)) n h) : am_AW M d mc ms SC Q pc L [vR k] n h uc us := by
  intro p l e R s m args below meth c D tc A Qm ad H locs ls F X hP hD hS hl hret
  exact W.widen hc hs (hret (some (vR k)) n h ad H locs ls pc hQ (Nat.le_refl _) (fun _ _ => rfl) hP hD hS (Or.inr (Or.inr ⟨hd, k, ty, rfl, hty, hrt⟩)))
theorem i_top {x y : Int32} (e : x = y) (kk : am_AW M d mc ms SC Q pc L (vI y :: rest) n h uc us) : am_AW M d mc ms SC Q pc L (vI x :: rest) n h uc us := e ▸ kk
theorem i_getf {C : String} {T : u_T} {N ci index b k : Nat} {fs : List am_V} {v : am_V} (hd : decode M.2.2.1 pc = .ok (.getfield index, 3)) (hc : classes[ci]? = some (C, T, N)) (hin : ∀ w ∈ u_ws C T N, w ∈ am_all) (hk : k < N) (hlk : Cond.fieldLink M.1 index (T k).1 (T k).2.1 (T k).2.2.1 ∈ am_all) (hb : b < n) (ho : h b = .inr (ci, fs)) (hv : fs[k]? = some v) (kk : am_AW M d mc ms SC Q (pc + 3) L (v :: rest) n h uc us) : am_AW M d mc ms SC Q pc L (vR b :: rest) n h uc us := by
  intro p l e R s m args below meth c D tc A Qm ad H locs ls F X hP hD hS hl hret
  have F2 := F
  obtain ⟨⟨hx, hbb, hml, hown, hts⟩, -, -, -, -, hK, -⟩ := F2
  exact va_get (ref := (T k).1) hx hbb hts hin hown hK.1 hP b (am_get hb ho) hc k hk (hts _ hlk) (fun _ q => q) (v := am_cv ad v) (by rw [List.getElem?_map, hv]; rfl) hd (kk p l e R s m args below meth c D tc A Qm ad H locs ls F X hP hD hS hl hret)
theorem i_putf {C : String} {T : u_T} {N ci index b k : Nat} {fs : List am_V} {v : am_V} {ty : FieldType} (ty0 : Nat → FieldType) (hty : ∀ k, k < N → parseFieldDescriptor (T k).2.2.1 = some (ty0 k)) (hnm : ∀ a, a < N → ∀ b, b < N → a ≠ b → (T a).2.1 ≠ (T b).2.1) (hd : decode M.2.2.1 pc = .ok (.putfield index, 3)) (hc : classes[ci]? = some (C, T, N)) (hin : ∀ w ∈ u_ws C T N, w ∈ am_all) (hk : k < N) (hlk : Cond.fieldLink M.1 index (T k).1 (T k).2.1 (T k).2.2.1 ∈ am_all) (hfin : (T k).2.2.2 = false) (hb : b < n) (ho : h b = .inr (ci, fs)) (hl0 : k < fs.length) (hpd : parseFieldDescriptor (T k).2.2.1 = some ty) (hnr : ∀ ad, narrow ty (am_cv ad v) = am_cv ad v) (hft : ∀ ad, fits ty (am_cv ad v) = true) (kk : am_AW M d mc ms SC Q (pc + 3) L rest n (va_up h b (.inr (ci, fs.set k v))) uc us) : am_AW M d mc ms SC Q pc L (v :: vR b :: rest) n h uc us := by
  intro p l e R s m args below meth c D tc A Qm ad H locs ls F X hP hD hS hl hret
  have F2 := F
  obtain ⟨⟨hx, hbb, hml, hown, hts⟩, -, -, hname, -, hK, -⟩ := F2
  refine va_put (ref := (T k).1) hx hbb hts hin ty0 hty hnm hown hK.1 hP hD hS b (am_get hb ho) hc k hk (hts _ hlk) (fun _ q => q) hfin hpd (hnr ad) (hft ad) (by rw [List.length_map]; exact hl0) hd (fun H1 locs1 hP1 hD1 hS1 => ?_)
  have e1 : (am_ws tc ad n h).set b (ad b, .inr (ci, (fs.map (am_cv ad)).set k (am_cv ad v))) = am_ws tc ad n (va_up h b (.inr (ci, fs.set k v))) := by
    rw [← List.map_set]
    exact am_set (.inr (ci, fs.set k v)) hb
  exact kk p l e R s m args below meth c D tc A Qm ad H1 locs1 ls F X (e1 ▸ hP1) (e1 ▸ hD1) hS1 hl hret
theorem i_putF {C : String} {T : u_T} {N ci index b k : Nat} {fs : List am_V} {v : am_V} {ty : FieldType} (ty0 : Nat → FieldType) (hty : ∀ k, k < N → parseFieldDescriptor (T k).2.2.1 = some (ty0 k)) (hnm : ∀ a, a < N → ∀ b, b < N → a ≠ b → (T a).2.1 ≠ (T b).2.1) (hd : decode M.2.2.1 pc = .ok (.putfield index, 3)) (hc : classes[ci]? = some (C, T, N)) (hin : ∀ w ∈ u_ws C T N, w ∈ am_all) (hk : k < N) (hlk : Cond.fieldLink M.1 index (T k).1 (T k).2.1 (T k).2.2.1 ∈ am_all) (hfin : (T k).2.2.2 = true) (hini : M.2.1.name = "<init>") (hdcl : (T k).1 = M.1) (hb : b < n) (ho : h b = .inr (ci, fs)) (hl0 : k < fs.length) (hpd : parseFieldDescriptor (T k).2.2.1 = some ty) (hnr : ∀ ad, narrow ty (am_cv ad v) = am_cv ad v) (hft : ∀ ad, fits ty (am_cv ad v) = true) (kk : am_AW M d mc ms SC Q (pc + 3) L rest n (va_up h b (.inr (ci, fs.set k v))) uc us) : am_AW M d mc ms SC Q pc L (v :: vR b :: rest) n h uc us := by
  intro p l e R s m args below meth c D tc A Qm ad H locs ls F X hP hD hS hl hret
  have F2 := F
  obtain ⟨⟨hx, hbb, hml, hown, hts⟩, -, -, hname, -, hK, -⟩ := F2
  refine va_putF (ref := (T k).1) hx hbb hts hin ty0 hty hnm hown hK.1 hP hD hS b (am_get hb ho) hc k hk (hts _ hlk) (fun _ q => q) hfin (hname hini) hdcl hpd (hnr ad) (hft ad) (by rw [List.length_map]; exact hl0) hd (fun H1 locs1 hP1 hD1 hS1 => ?_)
  have e1 : (am_ws tc ad n h).set b (ad b, .inr (ci, (fs.map (am_cv ad)).set k (am_cv ad v))) = am_ws tc ad n (va_up h b (.inr (ci, fs.set k v))) := by
    rw [← List.map_set]
    exact am_set (.inr (ci, fs.set k v)) hb
  exact kk p l e R s m args below meth c D tc A Qm ad H1 locs1 ls F X (e1 ▸ hP1) (e1 ▸ hD1) hS1 hl hret
theorem i_iald {b N : Nat} {f : Nat → Int32} {i : Int32} (hd : decode M.2.2.1 pc = .ok (.iaload, 1)) (hb : b < n) (ho : h b = .inl (0, N, .inl f)) (hi : vp_in i N) (kk : am_AW M d mc ms SC Q (pc + 1) L (vI (f i.toNatClampNeg) :: rest) n h uc us) : am_AW M d mc ms SC Q pc L (vI i :: vR b :: rest) n h uc us := by
  intro p l e R s m args below meth c D tc A Qm ad H locs ls F X hP hD hS hl hret
  exact va_iald F.1.1 F.1.2.1 F.2.2.2.2.2.1.1 hP b 0 (am_get hb ho) rfl hi hd (kk p l e R s m args below meth c D tc A Qm ad H locs ls F X hP hD hS hl hret)
theorem i_zald {b N : Nat} {f : Nat → Int32} {i : Int32} (hd : decode M.2.2.1 pc = .ok (.baload, 1)) (hb : b < n) (ho : h b = .inl (1, N, .inl f)) (hi : vp_in i N) (kk : am_AW M d mc ms SC Q (pc + 1) L (vI (f i.toNatClampNeg) :: rest) n h uc us) : am_AW M d mc ms SC Q pc L (vI i :: vR b :: rest) n h uc us := by
  intro p l e R s m args below meth c D tc A Qm ad H locs ls F X hP hD hS hl hret
  exact va_zald F.1.1 F.1.2.1 F.2.2.2.2.2.1.1 hP b 1 (am_get hb ho) rfl hi hd (kk p l e R s m args below meth c D tc A Qm ad H locs ls F X hP hD hS hl hret)
theorem i_iast {b N : Nat} {f : Nat → Int32} {i x : Int32} (hd : decode M.2.2.1 pc = .ok (.iastore, 1)) (hb : b < n) (ho : h b = .inl (0, N, .inl f)) (hi : vp_in i N) (kk : am_AW M d mc ms SC Q (pc + 1) L rest n (va_up h b (.inl (0, N, .inl (upd f i.toNatClampNeg x)))) uc us) : am_AW M d mc ms SC Q pc L (vI x :: vI i :: vR b :: rest) n h uc us := by
  intro p l e R s m args below meth c D tc A Qm ad H locs ls F X hP hD hS hl hret
  refine va_iast F.1.1 F.1.2.1 F.2.2.2.2.2.1.1 hP hD hS b 0 (am_get hb ho) rfl hi hd (fun H1 locs1 hP1 hD1 hS1 => ?_)
  have e1 := am_set (tc := tc) (ad := ad) (h := h) (.inl (0, N, .inl (upd f i.toNatClampNeg x))) hb
  exact kk p l e R s m args below meth c D tc A Qm ad H1 locs1 ls F X (e1 ▸ hP1) (e1 ▸ hD1) hS1 hl hret
theorem i_zast {b N : Nat} {f : Nat → Int32} {i x : Int32} (hd : decode M.2.2.1 pc = .ok (.bastore, 1)) (hb : b < n) (ho : h b = .inl (1, N, .inl f)) (hi : vp_in i N) (kk : am_AW M d mc ms SC Q (pc + 1) L rest n (va_up h b (.inl (1, N, .inl (upd f i.toNatClampNeg (vp_nar .boolean x))))) uc us) : am_AW M d mc ms SC Q pc L (vI x :: vI i :: vR b :: rest) n h uc us := by
  intro p l e R s m args below meth c D tc A Qm ad H locs ls F X hP hD hS hl hret
  refine va_zast F.1.1 F.1.2.1 F.2.2.2.2.2.1.1 hP hD hS b 1 (am_get hb ho) rfl hi hd (fun H1 locs1 hP1 hD1 hS1 => ?_)
  have e1 := am_set (tc := tc) (ad := ad) (h := h) (.inl (1, N, .inl (upd f i.toNatClampNeg (vp_nar .boolean x)))) hb
  exact kk p l e R s m args below meth c D tc A Qm ad H1 locs1 ls F X (e1 ▸ hP1) (e1 ▸ hD1) hS1 hl hret
theorem i_aald {b N y : Nat} {g : Nat → Option Nat} {i : Int32} (hd : decode M.2.2.1 pc = .ok (.aaload, 1)) (hb : b < n) (ho : h b = .inl (2, N, .inr g)) (hi : vp_in i N) (hy : g i.toNatClampNeg = some y) (kk : am_AW M d mc ms SC Q (pc + 1) L (vR y :: rest) n h uc us) : am_AW M d mc ms SC Q pc L (vI i :: vR b :: rest) n h uc us := by
  intro p l e R s m args below meth c D tc A Qm ad H locs ls F X hP hD hS hl hret
  refine va_aldq F.1.1 F.1.2.1 F.2.2.2.2.2.1.1 hP b 2 (am_get hb ho) rfl hi hd ?_
  rw [hy]
  exact kk p l e R s m args below meth c D tc A Qm ad H locs ls F X hP hD hS hl hret
theorem i_alen {b t N : Nat} {f : (Nat → Int32) ⊕ (Nat → Option Nat)} {x : Int32} {ty : FieldType} (hd : decode M.2.2.1 pc = .ok (.arraylength, 1)) (hb : b < n) (ho : h b = .inl (t, N, f)) (ht : ∀ tc, (am_tl tc)[t]? = some (tc t, ty)) (hx : Int32.ofNat N = x) (kk : am_AW M d mc ms SC Q (pc + 1) L (vI x :: rest) n h uc us) : am_AW M d mc ms SC Q pc L (vR b :: rest) n h uc us := by
  intro p l e R s m args below meth c D tc A Qm ad H locs ls F X hP hD hS hl hret
  cases f with
  | inl f => exact va_alen F.1.1 F.1.2.1 F.2.2.2.2.2.1.1 hP b t (am_get hb ho) (ht tc) hx hd (kk p l e R s m args below meth c D tc A Qm ad H locs ls F X hP hD hS hl hret)
  | inr g => exact va_alen F.1.1 F.1.2.1 F.2.2.2.2.2.1.1 hP b t (am_get hb ho) (ht tc) hx hd (kk p l e R s m args below meth c D tc A Qm ad H locs ls F X hP hD hS hl hret)
theorem i_sald {Ln : Nat} {xs : Nat → Int32} {i : Int32} (hSC : SC = some (Ln, xs)) (hd : decode M.2.2.1 pc = .ok (.iaload, 1)) (hi : vp_in i Ln) (kk : am_AW M d mc ms SC Q (pc + 1) L (vI (xs i.toNatClampNeg) :: rest) n h uc us) : am_AW M d mc ms SC Q pc L (vI i :: vR am_SP :: rest) n h uc us := by
  intro p l e R s m args below meth c D tc A Qm ad H locs ls F X hP hD hS hl hret
  obtain ⟨x1, x2, x3⟩ := X Ln xs hSC
  exact va_sld F.1.1 F.1.2.1 x1 x2 x3 hS hi hd (kk p l e R s m args below meth c D tc A Qm ad H locs ls F X hP hD hS hl hret)
theorem i_slen {Ln : Nat} {xs : Nat → Int32} (hSC : SC = some (Ln, xs)) (hd : decode M.2.2.1 pc = .ok (.arraylength, 1)) (kk : am_AW M d mc ms SC Q (pc + 1) L (vI (Int32.ofNat Ln) :: rest) n h uc us) : am_AW M d mc ms SC Q pc L (vR am_SP :: rest) n h uc us := by
  intro p l e R s m args below meth c D tc A Qm ad H locs ls F X hP hD hS hl hret
  obtain ⟨x1, x2, x3⟩ := X Ln xs hSC
  exact va_slen F.1.1 F.1.2.1 x1 x2 x3 hS hd (kk p l e R s m args below meth c D tc A Qm ad H locs ls F X hP hD hS hl hret)
end AI
end
section
-- a method out of its walk; calls
theorem am_met {M : am_M} {d mc ms : Nat} {av : List am_V} {n : Nat} {h : am_H} {Q : Option am_V → Nat → am_H → Prop} (hy : plainName M.2.1.cls = true) (how : M.1 = M.2.1.cls) (hlen : av.length ≤ M.2.2.2.1)
    (hw : am_AW M d mc ms none Q 0 (fun i => av[i]?) [] n h 0 0) : am_AM M d mc ms av n h Q := by
  intro l D tc ad sz
  refine Met.ofW (cc := M.2.2.1) (maxL := M.2.2.2.1) (ret := M.2.2.2.2) hy rfl ?_
  intro p e s m args below meth c s₁ B hml hv
  obtain ⟨rfl, hsz, hP, hK, hD0⟩ := hv
  have hx := B.exec
  have hb := B.bytes
  have hr := B.returns
  have hts := atoms_spec (ws := am_w M) B.pre
  have hown : s.vm.findClass M.1 = some m.cls := by rw [how]; exact findClass_of_methodNamed B.named
  have hlk : meth.locks = false := B.notSynchronized
  have hin : meth.name = M.2.1.name := (name_of_methodNamed B.named B.method).1
  subst hsz
  have hD := hD0.self (sz := s.heap.size)
  generalize hAe : va_A (am_ws tc ad n h) s.heap.size = A at hD ⊢
  have hA : ∀ q : Nat, s.heap.size ≤ q → A q := fun q h => by rw [← hAe]; exact Or.inr h
  have hl := lv_entry (av.map (am_cv ad)) (n := M.2.2.2.1) (by rw [am_sl]; exact hlen)
  rw [lg_entry_eq]
  generalize (lg_sl (av.map (am_cv ad)) ++ List.replicate (M.2.2.2.1 - (lg_sl (av.map (am_cv ad))).length) Slot.unset).toArray = ls at hl ⊢
  have hl := am_entry hl
  refine hw p l e _ s m _ below meth c D tc A _ ad s.heap [] ls ⟨⟨hx, hb, hml, hown, fun w h => hts w (List.mem_cons_of_mem _ h)⟩, hr, hlk, fun e => hin.trans e, ⟨Nat.le_refl _, rfl, rfl, Nat.le_refl _⟩, hK, hA⟩ (fun _ _ q => by cases q) hP hD va_S.rf hl ?_
  intro v n' h' ad' H' locs' ls' pc' hQ hnn hag hP' hD' hS' hrd
  rcases hrd with ⟨hd, x, ty, rfl, hty, hn⟩ | ⟨hd, rfl, hty⟩ | ⟨hd, k, ty, rfl, hty, hrt⟩
  · exact W.zret hx hb (hr.trans hty) hn (fun t ht hW => ⟨⟨some (vI x), n', h', ad', rfl, hQ, hnn, hag, by rw [ht]; exact hP', hD'⟩, hS'.F ht⟩) hS'.2.2 hd hlk
  · exact W.vret hx hb (hr.trans hty) (fun t ht hW => ⟨⟨none, n', h', ad', rfl, hQ, hnn, hag, by rw [ht]; exact hP', hD'⟩, hS'.F ht⟩) hS'.2.2 hd hlk
  · exact W.aret hx hb (hr.trans hty) hrt (Or.inr ⟨_, rfl⟩) (fun t ht hW => ⟨⟨some (vR k), n', h', ad', rfl, hQ, hnn, hag, by rw [ht]; exact hP', hD'⟩, hS'.F ht⟩) hS'.2.2 hd hlk
-- what am_K needs to go into a callee
theorem am_AOA.moved {u U : State} (hvm : u.vm.Alike U.vm) (h : am_AOA u) : am_AOA U := by
  obtain ⟨comp, c, k, h1, h2, h3, h4, h5⟩ := arrayOverA_spec h
  obtain ⟨k', hk', he⟩ := hvm.2.2 _ _ h3
  have hkind : k'.kind = .array comp (.array .int) := by rw [he]; exact h4
  have f1 : U.vm.findClass (FieldType.array .int).toString = some comp := by rw [hvm.findClass]; exact h1
  have f2 : U.vm.findClass ("[" ++ (FieldType.array .int).toString) = some c := by rw [hvm.findClass]; exact h5
  rw [← hvm.findIdx?_eq _ (fun _ => rfl)] at h2
  unfold am_AOA Cond.before Cond.holds
  simp only [Cond.value]
  rw [f1, Option.bind_some]
  refine (congrArg (fun o : Option Nat => (o.bind (fun c => (U.vm.classes[c]?).map fun (k : Class) => match k.kind with | .array _ ty => decide (ty = FieldType.array .int) && decide (U.vm.findClass ("[" ++ (FieldType.array .int).toString) = some c) | _ => false) == some true)) h2).trans ?_
  simp [hk', hkind, f2]
-- am_nest is am_nl.map (fun q => Cond.methodLinkNest q.1 q.2.1 q.2.2.1 q.2.2.2)
theorem am_K.warm {D : va_G} {tc : Nat → ClassId} {s U : State} (hW : s.WarmedH U.vm) (hK : am_K D tc s) : am_K D tc U := ⟨va_K.moved hW.alike hK.1, fun w hw => by
  obtain ⟨q, -, rfl⟩ := List.mem_map.mp hw
  exact va_Nw.warmM hW (hK.2.1 _ hw), va_AO.moved hW.alike hK.2.2.1, am_AOA.moved hW.alike hK.2.2.2⟩
theorem am_K.calling {D : va_G} {tc : Nat → ClassId} {U : State} {g : JFrame} {mk : MethodId} {a : Array Value} (hK : am_K D tc U) : am_K D tc (U.calling g mk a) := ⟨va_K.moved (u := U) (U := U.calling g mk a) (Vm.Alike.refl U.vm) hK.1, fun w hw => by
  obtain ⟨q, -, rfl⟩ := List.mem_map.mp hw
  exact va_Nw.same (u := U) (U := U.calling g mk a) rfl rfl (hK.2.1 _ hw), va_AO.moved (u := U) (U := U.calling g mk a) (Vm.Alike.refl U.vm) hK.2.2.1, am_AOA.moved (u := U) (U := U.calling g mk a) (Vm.Alike.refl U.vm) hK.2.2.2⟩
-- names known before a call are still names of the same cells behind it
def am_sc (n : Nat) (L : Nat → Option am_V) (rest : List am_V) (n' : Nat) : Prop := (∀ ad ad' : Nat → Nat, n ≤ n' → (∀ k, k < n ∨ n' ≤ k → ad' k = ad k) → (∀ i v, L i = some v → am_cv ad' v = am_cv ad v) ∧ rest.map (am_cv ad') = rest.map (am_cv ad)) ∧ n' ≤ am_SP
theorem am_sc.same {n : Nat} {L : Nat → Option am_V} {rest : List am_V} (hn : n ≤ am_SP) : am_sc n L rest n := ⟨fun ad ad' _ hag => by
  have e : ad' = ad := funext fun k => hag k (by omega)
  subst e
  exact ⟨fun _ _ _ => rfl, rfl⟩, hn⟩
theorem am_sc.of {n n' : Nat} {L : Nat → Option am_V} {rest : List am_V} (hL : ∀ i k, L i = some (vR k) → k < n ∨ k = am_SP) (hr : ∀ k, vR k ∈ rest → k < n ∨ k = am_SP) (hn : n' ≤ am_SP) : am_sc n L rest n' := by
  have key : ∀ ad ad' : Nat → Nat, (∀ k, k < n ∨ n' ≤ k → ad' k = ad k) → ∀ v : am_V, (∀ k, v = vR k → k < n ∨ k = am_SP) → am_cv ad' v = am_cv ad v := by
    intro ad ad' hag v hv
    rcases v with x | r
    · rfl
    · cases r with
      | none => rfl
      | some k =>
        show Value.ref (ad' k) = Value.ref (ad k)
        rw [hag k]
        rcases hv k rfl with h1 | h1
        · exact Or.inl h1
        · exact Or.inr (by rw [h1]; exact hn)
  exact ⟨fun ad ad' _ hag => ⟨fun i v hv => key ad ad' hag v (fun k e => hL i k (by rw [hv, e])), List.map_congr_left fun v hv => key ad ad' hag v (fun k e => hr k (e ▸ hv))⟩, hn⟩
theorem am_has.re {ls : Array Slot} {nL : Nat} {ad ad' : Nat → Nat} {L : Nat → Option am_V} (h : am_has ls nL ad L) (he : ∀ i v, L i = some v → am_cv ad' v = am_cv ad v) : am_has ls nL ad' L := ⟨h.1, h.2.1, fun i v hv => by rw [he i v hv]; exact h.2.2 i v hv⟩
def am_Qa (tc : Nat → ClassId) (D : va_G) (ad : Nat → Nat) (n : Nat) (h : am_H) (sz : Nat) (Q' : Option am_V → Nat → am_H → Prop) (st : State) (oc : Outcome) (t : State) : Prop :=
  (∃ (v : Option am_V) (n' : Nat) (h' : am_H) (ad' : Nat → Nat), oc = .returned (v.map (am_cv ad')) ∧ Q' v n' h' ∧ n ≤ n' ∧ (∀ k, k < n ∨ n' ≤ k → ad' k = ad k) ∧ va_P D classes (am_ws tc ad' n' h') t.heap ∧ va_D (va_A (am_ws tc ad n h) sz) (am_ws tc ad' n' h')) ∧ va_F (va_A (am_ws tc ad n h) sz) st t
section AC
variable {M M' : am_M} {d mc ms d' mc' ms' : Nat} {SC : Option (Nat × (Nat → Int32))} {Q Q' : Option am_V → Nat → am_H → Prop} {pc : Nat} {L : Nat → Option am_V} {rest st av : List am_V} {n : Nat} {h : am_H} {uc us : Nat}
/-- the part that all calls share; hr: the kit's run of the callee -/
theorem am_call (hsc : ∀ v n' h', Q' v n' h' → am_sc n L rest n')
    (hr : ∀ (p : Program) (l : Launch) (e : Env) (R : Room) (s : State) (m : MethodId) (args : Array Value) (below : List Frame) (meth : Method) (c : Code) (D : va_G) (tc : Nat → ClassId) (A : Nat → Prop) (ad : Nat → Nat) (H : Heap) (locs : List Loc) (ls : Array Slot),
      am_F M d mc ms p R s m args meth c D tc A → va_P D classes (am_ws tc ad n h) H → va_D A (am_ws tc ad n h) → va_S A s.heap H locs → am_has ls M.2.2.2.1 ad L →
      va_Run p l e R s m args below meth c H locs uc us mc' ms' (F0 m pc ls (st.map (am_cv ad))) (rest.map (am_cv ad)) (am_Qa tc D ad n h H.size Q') (va_A (am_ws tc ad n h) H.size))
    (kk : ∀ v n' h', Q' v n' h' → n ≤ n' → am_AW M d mc ms SC Q (pc + 3) L (v.toList ++ rest) n' h' (uc + mc') (us + ms')) : am_AW M d mc ms SC Q pc L st n h uc us := by
  intro p l e R s m args below meth c D tc A Qm ad H locs ls F X hP hD hS hl hret T hT XX
  obtain ⟨v, st₀, t, T', Lc, h0, X', hL, e1, e2, ⟨⟨w, n', h', ad', hv, hQ, hnn, hag, hP1, hD1⟩, hz, hk⟩, stp⟩ := hr p l e R s m args below meth c D tc A ad H locs ls F hP hD hS hl T hT XX
  have hv : v = w.map (am_cv ad') := by cases hv; rfl
  subst hv
  rw [h0] at hz hk
  have hfr : ∀ q, va_A (am_ws tc ad n h) H.size q → A q := fun q hq => by
    rcases hq with ⟨k, e0, hk0⟩ | hq
    · exact hD.2 k _ hk0
    · exact F.2.2.2.2.2.2 q (Nat.le_trans hS.1 hq)
  obtain ⟨hsc1, hsc2⟩ := hsc w n' h' hQ
  obtain ⟨hLe, hRe⟩ := hsc1 ad ad' hnn hag
  have hS1 : va_S A s.heap T'.heap (locs ++ Lc) := ⟨Nat.le_trans hS.1 (by rw [e1]; exact hz), fun q h1 h2 => by
      rw [e1, hk q (Nat.lt_of_lt_of_le h1 hS.1) (fun z => h2 (hfr q z))]
      exact hS.2.1 q h1 h2, fun q hq => by
      rcases List.mem_append.mp hq with h9 | h9
      · exact hS.2.2 q h9
      · exact hfr _ (hL q h9)⟩
  have hX1 : am_X SC ad' A s := fun L0 xs hs => by
    rw [hag am_SP (Or.inr hsc2)]
    exact X L0 xs hs
  obtain ⟨t2, a1, b1⟩ := kk w n' h' hQ hnn p l e R s m args below meth c D tc A Qm ad' T'.heap (locs ++ Lc) ls F hX1 (by rw [e1]; exact hP1) (hD1.weaken (fun _ _ _ z => hfr _ z)) hS1 (hl.re hLe)
    (fun v2 n2 h2 ad2 H2 locs2 ls2 pc2 q1 q2 q3 => hret v2 n2 h2 ad2 H2 locs2 ls2 pc2 q1 (Nat.le_trans hnn q2) (fun k hk9 => by
      rw [q3 k (hk9.imp (fun z => Nat.lt_of_lt_of_le z hnn) id)]
      exact hag k (hk9.imp id (fun z => Nat.le_trans q2 z)))) T' rfl X'
  refine ⟨t2, stp t2 ?_, b1⟩
  have e3 : (w.toList ++ rest).map (am_cv ad') = (w.map (am_cv ad')).toList ++ rest.map (am_cv ad) := by
    rw [List.map_append, hRe]
    cases w <;> rfl
  rw [e3] at a1
  exact a1
theorem am_cats (ad : Nat → Nat) (l : List am_V) : ((l.map (am_cv ad)).map fun v => v.category).sum = l.length := by
  induction l with
  | nil => rfl
  | cons v t ih =>
    simp only [List.map_cons, List.sum_cons, List.length_cons, am_cv_cat, ih]
    omega
theorem am_cvs_rev (ad : Nat → Nat) (As : List am_V) (b : Nat) (rest : List am_V) : (As.reverse ++ vR b :: rest).map (am_cv ad) = (As.map (am_cv ad)).reverse ++ .ref (ad b) :: rest.map (am_cv ad) := by
  rw [List.map_append, List.map_reverse]
  rfl
theorem am_callV {As : List am_V} {b ci N index : Nat} {C : String} {T : u_T} {fs : List am_V} (hM : am_AM M' d' mc' ms' (vR b :: As) n h Q') (hst : st = As.reverse ++ vR b :: rest)
    (hd : decode M.2.2.1 pc = .ok (.invokevirtual index, 3)) (hG : GoodIn am_all (wsV M.1 index C M'.2.1 (am_w M')))
    (hy : M'.2.1.cls = C ∧ M'.2.1.cls ≠ "java/lang/invoke/MethodHandle" ∧ M'.2.1.cls ≠ "java/lang/invoke/VarHandle" ∧ (parseMethodDescriptor M'.2.1.desc).map (fun d => d.parameters.length) = some As.length)
    (hdd : d' + 1 ≤ d) (hnl : M'.2.2.2.1 ≤ 21) (hb : b < n) (ho : h b = .inr (ci, fs)) (hc : classes[ci]? = some (C, T, N)) (hrs : rest.length ≤ 8) (hcc : uc + mc' ≤ mc) (hss : us + ms' ≤ ms)
    (hsc : ∀ v n' h', Q' v n' h' → am_sc n L rest n')
    (kk : ∀ v n' h', Q' v n' h' → n ≤ n' → am_AW M d mc ms SC Q (pc + 3) L (v.toList ++ rest) n' h' (uc + mc') (us + ms')) : am_AW M d mc ms SC Q pc L st n h uc us := by
  refine am_call hsc ?_ kk
  intro p l e R s m args below meth c D tc A ad H locs ls F hP hD hS hl
  have F2 := F
  obtain ⟨⟨hx, hbb, hml, hown, hts⟩, -, -, -, hR, hK, -⟩ := F2
  obtain ⟨hR1, hR2, hR3, hR4⟩ := hR
  exact va_runV (As := As.map (am_cv ad)) (b := ad b) F.1 (hM l D tc ad H.size) (cwV As.length hts hG rfl rfl rfl hy ⟨by show d' + 1 ≤ R.frames; omega, by show 8 + (M'.2.2.2.1 + 11) + 40 * d' ≤ R.locals; omega⟩)
    ⟨fun a U g mk q => by obtain ⟨q0, q1, qP, qK, qD⟩ := q; exact ⟨q0, q1, qP, qK.calling, qD⟩, va_recv hK.1 hP hc (am_get hb ho), fun U hU hW => ⟨rfl, by rw [hU], by rw [hU]; exact hP, am_K.warm hW hK, hD.weaken (fun _ _ _ _ => trivial)⟩⟩
    rfl (by rw [List.length_map]) hl.1 (by subst hst; exact am_cvs_rev ad As b rest) (lv_room (by rw [am_cats]; exact hrs)) hd ⟨by rw [hR2]; exact hcc, by rw [hR3]; exact hss⟩
/-- a static method of the own class -/
theorem am_callS {As : List am_V} {index : Nat} (hM : am_AM M' d' mc' ms' As n h Q') (hst : st = As.reverse ++ rest)
    (hd : decode M.2.2.1 pc = .ok (.invokestatic index, 3)) (hG : GoodIn am_all (wsS M.1 index M'.2.1 (am_w M')))
    (hy : M'.2.1.cls = M.1 ∧ M'.2.1.cls ≠ "java/lang/invoke/MethodHandle" ∧ M'.2.1.cls ≠ "java/lang/invoke/VarHandle" ∧ (parseMethodDescriptor M'.2.1.desc).map (fun d => d.parameters.length) = some As.length)
    (hdd : d' + 1 ≤ d) (hnl : M'.2.2.2.1 ≤ 21) (hrs : rest.length ≤ 8) (hcc : uc + mc' ≤ mc) (hss : us + ms' ≤ ms)
    (hsc : ∀ v n' h', Q' v n' h' → am_sc n L rest n')
    (kk : ∀ v n' h', Q' v n' h' → n ≤ n' → am_AW M d mc ms SC Q (pc + 3) L (v.toList ++ rest) n' h' (uc + mc') (us + ms')) : am_AW M d mc ms SC Q pc L st n h uc us := by
  refine am_call hsc ?_ kk
  intro p l e R s m args below meth c D tc A ad H locs ls F hP hD hS hl
  have F2 := F
  obtain ⟨⟨hx, hbb, hml, hown, hts⟩, -, -, -, hR, hK, -⟩ := F2
  obtain ⟨hR1, hR2, hR3, hR4⟩ := hR
  exact va_runS (As := As.map (am_cv ad)) F.1 (hM l D tc ad H.size) (cwS As.length hts hG rfl rfl rfl hy ⟨by show d' + 1 ≤ R.frames; omega, by show 8 + (M'.2.2.2.1 + 11) + 40 * d' ≤ R.locals; omega⟩)
    ⟨fun a U g mk q => by obtain ⟨q0, q1, qP, qK, qD⟩ := q; exact ⟨q0, q1, qP, qK.calling, qD⟩, fun U hU hW => ⟨rfl, by rw [hU], by rw [hU]; exact hP, am_K.warm hW hK, hD.weaken (fun _ _ _ _ => trivial)⟩⟩
    rfl (by rw [List.length_map]) hl.1 (by subst hst; show (As.reverse ++ rest).map (am_cv ad) = _; rw [List.map_append, List.map_reverse]) (lv_room (by rw [am_cats]; exact hrs)) hd ⟨by rw [hR2]; exact hcc, by rw [hR3]; exact hss⟩
/-- a private static method of a nest mate -/
theorem am_callSN {As : List am_V} {index : Nat} {host : String} (hM : am_AM M' d' mc' ms' As n h Q') (hst : st = As.reverse ++ rest)
    (hd : decode M.2.2.1 pc = .ok (.invokestatic index, 3)) (hG : GoodIn am_all (am_w M')) (hnw : Cond.methodLinkNest M.1 index M'.2.1 host ∈ am_nest) (hini : Cond.initialized M'.2.1.cls ∈ am_all) (hstt : Cond.static M'.2.1 ∈ am_all)
    (hy : M'.2.1.cls ≠ "java/lang/invoke/MethodHandle" ∧ M'.2.1.cls ≠ "java/lang/invoke/VarHandle" ∧ (parseMethodDescriptor M'.2.1.desc).map (fun d => d.parameters.length) = some As.length)
    (hdd : d' + 1 ≤ d) (hnl : M'.2.2.2.1 ≤ 21) (hrs : rest.length ≤ 8) (hcc : uc + mc' ≤ mc) (hss : us + ms' ≤ ms)
    (hsc : ∀ v n' h', Q' v n' h' → am_sc n L rest n')
    (kk : ∀ v n' h', Q' v n' h' → n ≤ n' → am_AW M d mc ms SC Q (pc + 3) L (v.toList ++ rest) n' h' (uc + mc') (us + ms')) : am_AW M d mc ms SC Q pc L st n h uc us := by
  refine am_call hsc ?_ kk
  intro p l e R s m args below meth c D tc A ad H locs ls F hP hD hS hl
  have F2 := F
  obtain ⟨⟨hx, hbb, hml, hown, hts⟩, -, -, -, hR, hK, -⟩ := F2
  obtain ⟨hR1, hR2, hR3, hR4⟩ := hR
  exact va_runSN (As := As.map (am_cv ad)) F.1 (hM l D tc ad H.size) ⟨va_cnB As.length hts hG rfl rfl rfl (hK.2.1 _ hnw) (hts _ hini) hy ⟨by show d' + 1 ≤ R.frames; omega, by show 8 + (M'.2.2.2.1 + 11) + 40 * d' ≤ R.locals; omega⟩, hts _ hstt, trivial⟩
    ⟨fun a U g mk q => by obtain ⟨q0, q1, qP, qK, qD⟩ := q; exact ⟨q0, q1, qP, qK.calling, qD⟩, fun U hU hW => ⟨rfl, by rw [hU], by rw [hU]; exact hP, am_K.warm hW hK, hD.weaken (fun _ _ _ _ => trivial)⟩⟩
    rfl (by rw [List.length_map]) hl.1 (by subst hst; show (As.reverse ++ rest).map (am_cv ad) = _; rw [List.map_append, List.map_reverse]) (lv_room (by rw [am_cats]; exact hrs)) hd ⟨by rw [hR2]; exact hcc, by rw [hR3]; exact hss⟩
/-- a constructor that is no nest mate's secret (package-private or public) -/
theorem am_callI {As : List am_V} {b index : Nat} (hM : am_AM M' d' mc' ms' (vR b :: As) n h Q') (hst : st = As.reverse ++ vR b :: rest) (hret0 : M'.2.2.2.2 = none)
    (hd : decode M.2.2.1 pc = .ok (.invokespecial index, 3)) (hG : GoodIn am_all (am_w M')) (hini : Cond.initialized M'.2.1.cls ∈ am_all) (hlk : Cond.methodLink M.1 index M'.2.1 ∈ am_all) (hins : Cond.instanceMethod M'.2.1 ∈ am_all) (hnm : M'.2.1.name = "<init>")
    (hy : M'.2.1.cls ≠ "java/lang/invoke/MethodHandle" ∧ M'.2.1.cls ≠ "java/lang/invoke/VarHandle" ∧ (parseMethodDescriptor M'.2.1.desc).map (fun d => d.parameters.length) = some As.length)
    (hdd : d' + 1 ≤ d) (hnl : M'.2.2.2.1 ≤ 21) (hrs : rest.length ≤ 8) (hcc : uc + mc' ≤ mc) (hss : us + ms' ≤ ms)
    (hsc : ∀ v n' h', Q' v n' h' → am_sc n L rest n')
    (kk : ∀ v n' h', Q' v n' h' → n ≤ n' → am_AW M d mc ms SC Q (pc + 3) L (v.toList ++ rest) n' h' (uc + mc') (us + ms')) : am_AW M d mc ms SC Q pc L st n h uc us := by
  refine am_call hsc ?_ kk
  intro p l e R s m args below meth c D tc A ad H locs ls F hP hD hS hl
  have F2 := F
  obtain ⟨⟨hx, hbb, hml, hown, hts⟩, -, -, -, hR, hK, -⟩ := F2
  obtain ⟨hR1, hR2, hR3, hR4⟩ := hR
  have hcw : am_w M' = Cond.code M'.2.1 M'.2.2.1 M'.2.2.2.1 none :: am_all := by unfold am_w; rw [hret0]
  exact va_runI (As := As.map (am_cv ad)) (b := ad b) F.1 (hM l D tc ad H.size) (cwI As.length hts hG hcw rfl rfl (hts _ hini) (hts _ hlk) (hts _ hins) hnm hy ⟨by show d' + 1 ≤ R.frames; omega, by show 8 + (M'.2.2.2.1 + 11) + 40 * d' ≤ R.locals; omega⟩)
    ⟨fun a U g mk q => by obtain ⟨q0, q1, qP, qK, qD⟩ := q; exact ⟨q0, q1, qP, qK.calling, qD⟩, fun U hU hW => ⟨rfl, by rw [hU], by rw [hU]; exact hP, am_K.warm hW hK, hD.weaken (fun _ _ _ _ => trivial)⟩⟩
    rfl (by rw [List.length_map]) hl.1 (by subst hst; exact am_cvs_rev ad As b rest) (lv_room (by rw [am_cats]; exact hrs)) hd ⟨by rw [hR2]; exact hcc, by rw [hR3]; exact hss⟩
end AC
end
section
-- flat memory. Behind the constructors no cell comes and no reference changes: a heap is a shape and a table of ints I : position → slot → int.
/-- shapes: ints (table, length); references (table, length, which); an object (class, its fields: a position, or none for an int) -/
abbrev fm_S : Type := (Nat × Nat) ⊕ (Nat × Nat × (Nat → Option Nat)) ⊕ (Nat × List (Option Nat))
abbrev fm_I : Type := Nat → Nat → Int32
def fm_fs (f : Nat → Int32) : Nat → List (Option Nat) → List am_V
  | _, [] => []
  | k, some q :: r => vR q :: fm_fs f (k + 1) r
  | k, none :: r => vI (f k) :: fm_fs f (k + 1) r
def fm_c (s : fm_S) (f : Nat → Int32) : am_E := match s with
  | .inl (t, N) => .inl (t, N, .inl f)
  | .inr (.inl (t, N, g)) => .inl (t, N, .inr g)
  | .inr (.inr (ci, fs)) => .inr (ci, fm_fs f 0 fs)
theorem fm_fs_i (f : Nat → Int32) : ∀ (fs : List (Option Nat)) (j k : Nat), fs[k]? = some none → (fm_fs f j fs)[k]? = some (vI (f (j + k)))
  | [], _, k, h => by simp at h
  | o :: r, j, 0, h => by
    have e : o = none := by simpa using h
    subst e
    rfl
  | o :: r, j, k + 1, h => by
    have h2 : r[k]? = some none := by simpa using h
    have := fm_fs_i f r (j + 1) k h2
    rw [show j + 1 + k = j + (k + 1) by omega] at this
    cases o <;> simpa [fm_fs] using this
theorem fm_fs_r (f : Nat → Int32) : ∀ (fs : List (Option Nat)) (j k q : Nat), fs[k]? = some (some q) → (fm_fs f j fs)[k]? = some (vR q)
  | [], _, k, _, h => by simp at h
  | o :: r, j, 0, q, h => by
    have e : o = some q := by simpa using h
    subst e
    rfl
  | o :: r, j, k + 1, q, h => by
    have h2 : r[k]? = some (some q) := by simpa using h
    have := fm_fs_r f r (j + 1) k q h2
    cases o <;> simpa [fm_fs] using this
theorem fm_fs_cg {f g : Nat → Int32} : ∀ (fs : List (Option Nat)) (j : Nat), (∀ i, j ≤ i → f i = g i) → fm_fs f j fs = fm_fs g j fs
  | [], _, _ => rfl
  | some q :: r, j, h => by
    show vR q :: fm_fs f (j + 1) r = vR q :: fm_fs g (j + 1) r
    rw [fm_fs_cg r (j + 1) (fun i hi => h i (by omega))]
  | none :: r, j, h => by
    show vI (f j) :: fm_fs f (j + 1) r = vI (g j) :: fm_fs g (j + 1) r
    rw [fm_fs_cg r (j + 1) (fun i hi => h i (by omega)), h j (Nat.le_refl _)]
theorem fm_fs_set {f : Nat → Int32} {x : Int32} : ∀ (fs : List (Option Nat)) (j k : Nat), fs[k]? = some none → (fm_fs f j fs).set k (vI x) = fm_fs (upd f (j + k) x) j fs
  | [], _, k, h => by simp at h
  | o :: r, j, 0, h => by
    have e : o = none := by simpa using h
    subst e
    show vI x :: fm_fs f (j + 1) r = vI (upd f (j + 0) x j) :: fm_fs (upd f (j + 0) x) (j + 1) r
    rw [fm_fs_cg (f := upd f (j + 0) x) (g := f) r (j + 1) (fun i hi => pk_un (by omega)), show upd f (j + 0) x j = x from pk_us]
  | o :: r, j, k + 1, h => by
    have h2 : r[k]? = some none := by simpa using h
    have := fm_fs_set (f := f) (x := x) r (j + 1) k h2
    rw [show j + 1 + k = j + (k + 1) by omega] at this
    cases o with
    | none =>
      show vI (f j) :: (fm_fs f (j + 1) r).set k (vI x) = vI (upd f (j + (k + 1)) x j) :: fm_fs (upd f (j + (k + 1)) x) (j + 1) r
      rw [this, pk_un (by omega)]
    | some q =>
      show vR q :: (fm_fs f (j + 1) r).set k (vI x) = vR q :: fm_fs (upd f (j + (k + 1)) x) (j + 1) r
      rw [this]
theorem fm_fs_len (f : Nat → Int32) : ∀ (fs : List (Option Nat)) (j : Nat), (fm_fs f j fs).length = fs.length
  | [], _ => rfl
  | some q :: r, j => by show (fm_fs f (j + 1) r).length + 1 = r.length + 1; rw [fm_fs_len f r]
  | none :: r, j => by show (fm_fs f (j + 1) r).length + 1 = r.length + 1; rw [fm_fs_len f r]
-- the shape of this program's heap behind both constructors: positions in the order of making
-- 0 SpanLinker; 1 its modules; 2 + 9 m: module m, 3 + 9 m .. 10 + 9 m its rows; 56 Inclusion, 57 order, 58; 59 archive, 60; 61 line, 62; 63 Image, 64 bases, 65 .. 70 their rows, 71 words, 72 sizes, 73 values; 74 Machine, 75 words, 76 tape, 77 latest; 78 the reference, 79 .. 93 its rows
-- class numbers: as 'classes' has them (here: 0 SpanLinker, 1 SourceModule, 2 Inclusion, 3 Row, 4 Image, 5 Machine, 6 SpanLinkerModel)
def fm_mod (b j : Nat) : fm_S := match j with
  | 0 => .inr (.inr (1, [some (b + 1), some (b + 2), some (b + 3), some (b + 4), some (b + 5), some (b + 6), some (b + 7), some (b + 8), none, none, none, none, none]))
  | 6 => .inl (1, 20)
  | 7 => .inl (0, 3)
  | 8 => .inl (0, 16)
  | _ => .inl (0, 20)
def fm_low (p : Nat) : fm_S := match p with
  | 0 => .inr (.inr (0, [some 1, some 59, some 61, some 56, some 63, some 74]))
  | _ => .inr (.inl (2, 6, fun i => if i < 6 then some (2 + 9 * i) else none))
def fm_top (p : Nat) : fm_S := match p with
  | 56 => .inr (.inr (2, [some 1, some 57, none, none, none, none]))
  | 57 => .inr (.inr (3, [some 58, none]))
  | 58 => .inl (0, 6)
  | 59 => .inr (.inr (3, [some 60, none]))
  | 60 => .inl (0, 6)
  | 61 => .inr (.inr (3, [some 62, none]))
  | 62 => .inl (0, 8)
  | 63 => .inr (.inr (4, [some 1, some 56, some 64, some 71, some 72, some 73, none, none, none, none]))
  | 64 => .inr (.inl (3, 6, fun i => if i < 6 then some (65 + i) else none))
  | 71 => .inl (0, 200)
  | 72 => .inl (0, 3)
  | 73 => .inl (0, 16)
  | 74 => .inr (.inr (5, [some 75, some 76, some 77, none, none, none, none, none, none, none, none, none, none]))
  | 75 => .inl (0, 200)
  | 76 => .inl (0, 8)
  | 77 => .inl (0, 4)
  | 78 => .inr (.inr (6, [some 79, some 80, some 81, some 82, some 83, some 84, none, some 85, none, some 86, none, none, some 87, none, none, none, some 88, some 89, none, some 90, none, none, some 91, none, none, none, none, none, some 92, some 93, none, none]))
  | 79 => .inl (0, 6)
  | 80 => .inl (0, 120)
  | 81 => .inl (0, 120)
  | 82 => .inl (0, 120)
  | 83 => .inl (0, 120)
  | 84 => .inl (1, 120)
  | 85 => .inl (0, 6)
  | 86 => .inl (0, 8)
  | 87 => .inl (0, 6)
  | 88 => .inl (0, 200)
  | 89 => .inl (0, 3)
  | 90 => .inl (0, 16)
  | 91 => .inl (0, 200)
  | 92 => .inl (0, 4)
  | 93 => .inl (0, 8)
  | _ => .inl (0, 3)
def fm_sh (p : Nat) : fm_S := if p < 2 then fm_low p else if p < 56 then fm_mod (2 + 9 * ((p - 2) / 9)) ((p - 2) % 9) else fm_top p
abbrev fm_N : Nat := 94
def fm_hp (I : fm_I) : am_H := fun p => fm_c (fm_sh p) (I p)
def fm_up (I : fm_I) (p k : Nat) (x : Int32) : fm_I := va_up I p (upd (I p) k x)
theorem fm_sh_mod {m j : Nat} (hm : m < 6) (hj : j < 9) : fm_sh (2 + 9 * m + j) = fm_mod (2 + 9 * m) j := by
  unfold fm_sh
  rw [if_neg (by omega), if_pos (by omega), show (2 + 9 * m + j - 2) / 9 = m by omega, show (2 + 9 * m + j - 2) % 9 = j by omega]
theorem fm_up_s (I : fm_I) (p k : Nat) (x : Int32) : fm_up I p k x p k = x := by unfold fm_up; rw [va_up_self]; exact pk_us
theorem fm_up_k (I : fm_I) {p k j : Nat} (x : Int32) (h : j ≠ k) : fm_up I p k x p j = I p j := by unfold fm_up; rw [va_up_self]; exact pk_un h
theorem fm_up_p (I : fm_I) {p k q : Nat} (j : Nat) (x : Int32) (h : q ≠ p) : fm_up I p k x q j = I q j := by unfold fm_up; rw [va_up_ne _ _ h]
theorem fm_hp_up {I : fm_I} {p : Nat} {f : Nat → Int32} : va_up (fm_hp I) p (fm_c (fm_sh p) f) = fm_hp (va_up I p f) := funext fun q => by
  by_cases e : q = p
  · subst e
    rw [va_up_self]
    show _ = fm_c (fm_sh q) (va_up I q f q)
    rw [va_up_self]
  · rw [va_up_ne _ _ e]
    show fm_c (fm_sh q) (I q) = fm_c (fm_sh q) (va_up I p f q)
    rw [va_up_ne _ _ e]
-- ends: an int, nothing
def fm_Q (Q : Option am_V → fm_I → Prop) : Option am_V → Nat → am_H → Prop := fun v n' h' => n' = fm_N ∧ ∃ I', h' = fm_hp I' ∧ Q v I'
abbrev fi (P : Int32 → fm_I → Prop) : Option am_V → fm_I → Prop := fun v I' => ∃ x, v = some (vI x) ∧ P x I'
abbrev fv (P : fm_I → Prop) : Option am_V → fm_I → Prop := fun v I' => v = none ∧ P I'
/-- a walk, and a contract, over the flat memory -/
abbrev fW (M : am_M) (d : Nat) (Q : Option am_V → fm_I → Prop) (pc : Nat) (L : Nat → Option am_V) (st : List am_V) (I : fm_I) : Prop := am_AW M d 0 0 none (fm_Q Q) pc L st fm_N (fm_hp I) 0 0
abbrev fM (M : am_M) (d : Nat) (av : List am_V) (I : fm_I) (Q : Option am_V → fm_I → Prop) : Prop := am_AM M d 0 0 av fm_N (fm_hp I) (fm_Q Q)
section FM
variable {M : am_M} {d mc ms : Nat} {SC : Option (Nat × (Nat → Int32))} {Q : Option am_V → Nat → am_H → Prop} {pc : Nat} {L : Nat → Option am_V} {rest : List am_V} {I : fm_I} {uc us : Nat}
theorem f_geti {C : String} {T : u_T} {N ci index b k : Nat} {fs : List (Option Nat)} {x : Int32} (hd : decode M.2.2.1 pc = .ok (.getfield index, 3)) (hc : classes[ci]? = some (C, T, N)) (hin : ∀ w ∈ u_ws C T N, w ∈ am_all) (hk : k < N) (hlk : Cond.fieldLink M.1 index (T k).1 (T k).2.1 (T k).2.2.1 ∈ am_all) (hf : fs[k]? = some none) (hb : b < fm_N) (hs : fm_sh b = .inr (.inr (ci, fs))) (hv : I b k = x)
    (kk : am_AW M d mc ms SC Q (pc + 3) L (vI x :: rest) fm_N (fm_hp I) uc us) : am_AW M d mc ms SC Q pc L (vR b :: rest) fm_N (fm_hp I) uc us :=
  i_getf hd hc hin hk hlk hb (fs := fm_fs (I b) 0 fs) (by show fm_c (fm_sh b) (I b) = _; rw [hs]; rfl) (v := vI x) (by rw [fm_fs_i (I b) fs 0 k hf, Nat.zero_add, hv]) kk
theorem f_getr {C : String} {T : u_T} {N ci index b k q : Nat} {fs : List (Option Nat)} (hd : decode M.2.2.1 pc = .ok (.getfield index, 3)) (hc : classes[ci]? = some (C, T, N)) (hin : ∀ w ∈ u_ws C T N, w ∈ am_all) (hk : k < N) (hlk : Cond.fieldLink M.1 index (T k).1 (T k).2.1 (T k).2.2.1 ∈ am_all) (hf : fs[k]? = some (some q)) (hb : b < fm_N) (hs : fm_sh b = .inr (.inr (ci, fs)))
    (kk : am_AW M d mc ms SC Q (pc + 3) L (vR q :: rest) fm_N (fm_hp I) uc us) : am_AW M d mc ms SC Q pc L (vR b :: rest) fm_N (fm_hp I) uc us :=
  i_getf hd hc hin hk hlk hb (fs := fm_fs (I b) 0 fs) (by show fm_c (fm_sh b) (I b) = _; rw [hs]; rfl) (v := vR q) (fm_fs_r (I b) fs 0 k q hf) kk
theorem f_puti {C : String} {T : u_T} {N ci index b k : Nat} {fs : List (Option Nat)} {x : Int32} {ty : FieldType} (ty0 : Nat → FieldType) (hty : ∀ k, k < N → parseFieldDescriptor (T k).2.2.1 = some (ty0 k)) (hnm : ∀ a, a < N → ∀ b, b < N → a ≠ b → (T a).2.1 ≠ (T b).2.1) (hd : decode M.2.2.1 pc = .ok (.putfield index, 3)) (hc : classes[ci]? = some (C, T, N)) (hin : ∀ w ∈ u_ws C T N, w ∈ am_all) (hk : k < N) (hlk : Cond.fieldLink M.1 index (T k).1 (T k).2.1 (T k).2.2.1 ∈ am_all) (hfin : (T k).2.2.2 = false) (hpd : parseFieldDescriptor (T k).2.2.1 = some ty) (hf : fs[k]? = some none) (hnr : narrow ty (.int x) = .int x) (hft : fits ty (.int x) = true) (hb : b < fm_N) (hs : fm_sh b = .inr (.inr (ci, fs)))
    (kk : am_AW M d mc ms SC Q (pc + 3) L rest fm_N (fm_hp (fm_up I b k x)) uc us) : am_AW M d mc ms SC Q pc L (vI x :: vR b :: rest) fm_N (fm_hp I) uc us := by
  have hlt : k < fs.length := (List.getElem?_eq_some_iff.mp hf).1
  refine i_putf ty0 hty hnm hd hc hin hk hlk hfin hb (fs := fm_fs (I b) 0 fs) (by show fm_c (fm_sh b) (I b) = _; rw [hs]; rfl) (by rw [fm_fs_len]; exact hlt) hpd (fun _ => hnr) (fun _ => hft) ?_
  have e : va_up (fm_hp I) b (.inr (ci, (fm_fs (I b) 0 fs).set k (vI x))) = fm_hp (fm_up I b k x) := by
    rw [fm_fs_set fs 0 k hf, Nat.zero_add]
    have := fm_hp_up (I := I) (p := b) (f := upd (I b) k x)
    rw [hs] at this
    exact this
  rw [e]
  exact kk
theorem f_iald {b N j : Nat} {i x : Int32} (hd : decode M.2.2.1 pc = .ok (.iaload, 1)) (hb : b < fm_N) (hs : fm_sh b = .inl (0, N)) (hN : N < 2147483648) (hi : i = nI j) (hj : j < N) (hv : I b j = x)
    (kk : am_AW M d mc ms SC Q (pc + 1) L (vI x :: rest) fm_N (fm_hp I) uc us) : am_AW M d mc ms SC Q pc L (vI i :: vR b :: rest) fm_N (fm_hp I) uc us := by
  subst hi; subst hv
  refine i_iald (f := I b) hd hb (by show fm_c (fm_sh b) (I b) = _; rw [hs]; rfl) (vp_in_nI hj hN) ?_
  rw [nI_clamp (Nat.lt_trans hj hN)]
  exact kk
theorem f_zald {b N j : Nat} {i x : Int32} (hd : decode M.2.2.1 pc = .ok (.baload, 1)) (hb : b < fm_N) (hs : fm_sh b = .inl (1, N)) (hN : N < 2147483648) (hi : i = nI j) (hj : j < N) (hv : I b j = x)
    (kk : am_AW M d mc ms SC Q (pc + 1) L (vI x :: rest) fm_N (fm_hp I) uc us) : am_AW M d mc ms SC Q pc L (vI i :: vR b :: rest) fm_N (fm_hp I) uc us := by
  subst hi; subst hv
  refine i_zald (f := I b) hd hb (by show fm_c (fm_sh b) (I b) = _; rw [hs]; rfl) (vp_in_nI hj hN) ?_
  rw [nI_clamp (Nat.lt_trans hj hN)]
  exact kk
theorem f_iast {b N j : Nat} {i x : Int32} (hd : decode M.2.2.1 pc = .ok (.iastore, 1)) (hb : b < fm_N) (hs : fm_sh b = .inl (0, N)) (hN : N < 2147483648) (hi : i = nI j) (hj : j < N)
    (kk : am_AW M d mc ms SC Q (pc + 1) L rest fm_N (fm_hp (fm_up I b j x)) uc us) : am_AW M d mc ms SC Q pc L (vI x :: vI i :: vR b :: rest) fm_N (fm_hp I) uc us := by
  subst hi
  refine i_iast (f := I b) hd hb (by show fm_c (fm_sh b) (I b) = _; rw [hs]; rfl) (vp_in_nI hj hN) ?_
  rw [nI_clamp (Nat.lt_trans hj hN)]
  have := fm_hp_up (I := I) (p := b) (f := upd (I b) j x)
  rw [hs] at this
  show am_AW M d mc ms SC Q (pc + 1) L rest fm_N (va_up (fm_hp I) b (fm_c (.inl (0, N)) (upd (I b) j x))) uc us
  rw [this]
  exact kk
theorem f_zast {b N j : Nat} {i x y : Int32} (hd : decode M.2.2.1 pc = .ok (.bastore, 1)) (hb : b < fm_N) (hs : fm_sh b = .inl (1, N)) (hN : N < 2147483648) (hi : i = nI j) (hj : j < N) (hx : vp_nar .boolean x = y)
    (kk : am_AW M d mc ms SC Q (pc + 1) L rest fm_N (fm_hp (fm_up I b j y)) uc us) : am_AW M d mc ms SC Q pc L (vI x :: vI i :: vR b :: rest) fm_N (fm_hp I) uc us := by
  subst hi; subst hx
  refine i_zast (f := I b) hd hb (by show fm_c (fm_sh b) (I b) = _; rw [hs]; rfl) (vp_in_nI hj hN) ?_
  rw [nI_clamp (Nat.lt_trans hj hN)]
  have := fm_hp_up (I := I) (p := b) (f := upd (I b) j (vp_nar .boolean x))
  rw [hs] at this
  show am_AW M d mc ms SC Q (pc + 1) L rest fm_N (va_up (fm_hp I) b (fm_c (.inl (1, N)) (upd (I b) j (vp_nar .boolean x)))) uc us
  rw [this]
  exact kk
theorem f_aald {b N j y : Nat} {g : Nat → Option Nat} {i : Int32} (hd : decode M.2.2.1 pc = .ok (.aaload, 1)) (hb : b < fm_N) (hs : fm_sh b = .inr (.inl (2, N, g))) (hN : N < 2147483648) (hi : i = nI j) (hj : j < N) (hy : g j = some y)
    (kk : am_AW M d mc ms SC Q (pc + 1) L (vR y :: rest) fm_N (fm_hp I) uc us) : am_AW M d mc ms SC Q pc L (vI i :: vR b :: rest) fm_N (fm_hp I) uc us := by
  subst hi
  exact i_aald (g := g) hd hb (by show fm_c (fm_sh b) (I b) = _; rw [hs]; rfl) (vp_in_nI hj hN) (by rw [nI_clamp (Nat.lt_trans hj hN)]; exact hy) kk
theorem f_alen {b N : Nat} {x : Int32} (hd : decode M.2.2.1 pc = .ok (.arraylength, 1)) (hb : b < fm_N) (hs : fm_sh b = .inl (0, N)) (hx : Int32.ofNat N = x)
    (kk : am_AW M d mc ms SC Q (pc + 1) L (vI x :: rest) fm_N (fm_hp I) uc us) : am_AW M d mc ms SC Q pc L (vR b :: rest) fm_N (fm_hp I) uc us :=
  i_alen (f := .inl (I b)) hd hb (by show fm_c (fm_sh b) (I b) = _; rw [hs]; rfl) (fun _ => rfl) hx kk
end FM
theorem f_iret {M : am_M} {d mc ms : Nat} {SC : Option (Nat × (Nat → Int32))} {P : Int32 → fm_I → Prop} {pc : Nat} {L : Nat → Option am_V} {I : fm_I} {uc us : Nat} {x : Int32} {ty : FieldType} (hd : decode M.2.2.1 pc = .ok (.ireturn, 1)) (hty : M.2.2.2.2 = some ty) (hn : narrow ty (.int x) = .int x) (hc : uc ≤ mc) (hs : us ≤ ms) (hP : P x I) : am_AW M d mc ms SC (fm_Q (fi P)) pc L [vI x] fm_N (fm_hp I) uc us := i_iret hd hty hn hc hs ⟨rfl, I, rfl, x, rfl, hP⟩
theorem f_ret {M : am_M} {d mc ms : Nat} {SC : Option (Nat × (Nat → Int32))} {P : fm_I → Prop} {pc : Nat} {L : Nat → Option am_V} {I : fm_I} {uc us : Nat} (hd : decode M.2.2.1 pc = .ok (.return_, 1)) (hty : M.2.2.2.2 = none) (hc : uc ≤ mc) (hs : us ≤ ms) (hP : P I) : am_AW M d mc ms SC (fm_Q (fv P)) pc L [] fm_N (fm_hp I) uc us := i_ret hd hty hc hs ⟨rfl, I, rfl, rfl, hP⟩
theorem f_met {M : am_M} {d : Nat} {av : List am_V} {I : fm_I} {Q : Option am_V → fm_I → Prop} (hy : plainName M.2.1.cls = true) (how : M.1 = M.2.1.cls) (hlen : av.length ≤ M.2.2.2.1) (hw : fW M d Q 0 (fun i => av[i]?) [] I) : fM M d av I Q := am_met hy how hlen hw
theorem f_sp : fm_N ≤ am_SP := by decide
-- calls over the flat memory. am_all = am_codes ++ am_links; am_allgood: every word of it is good (by decide, once)
theorem am_good {M' : am_M} {ws : List Cond} (hc : Cond.code M'.2.1 M'.2.2.1 M'.2.2.2.1 M'.2.2.2.2 ∈ am_all) (hws : ∀ w ∈ ws, w ∈ am_all) : GoodIn am_all (ws ++ am_w M') := by
  intro w hw
  have h : w ∈ am_all := by
    rcases List.mem_append.mp hw with h | h
    · exact hws w h
    · rcases List.mem_cons.mp h with rfl | h
      · exact hc
      · exact h
  exact ⟨h, am_allgood w h⟩
theorem am_good0 {M' : am_M} (hc : Cond.code M'.2.1 M'.2.2.1 M'.2.2.2.1 M'.2.2.2.2 ∈ am_all) : GoodIn am_all (am_w M') := am_good (ws := []) hc (fun _ h => by cases h)
section FC
variable {M M' : am_M} {d d' mc ms : Nat} {SC : Option (Nat × (Nat → Int32))} {Q : Option am_V → Nat → am_H → Prop} {pc : Nat} {L : Nat → Option am_V} {rest st As : List am_V} {I : fm_I} {uc us : Nat}
theorem f_callV {b ci N index : Nat} {C : String} {T : u_T} {fs : List (Option Nat)} {Q' : Option am_V → fm_I → Prop} (hM : fM M' d' (vR b :: As) I Q') (hst : st = As.reverse ++ vR b :: rest) (hd : decode M.2.2.1 pc = .ok (.invokevirtual index, 3))
    (hcw : Cond.code M'.2.1 M'.2.2.1 M'.2.2.2.1 M'.2.2.2.2 ∈ am_all) (hws : ∀ w ∈ ([.methodLink M.1 index M'.2.1, .instanceMethod M'.2.1, .selects C M'.2.1 M'.2.1, .initialized C] : List Cond), w ∈ am_all)
    (hy : M'.2.1.cls = C ∧ M'.2.1.cls ≠ "java/lang/invoke/MethodHandle" ∧ M'.2.1.cls ≠ "java/lang/invoke/VarHandle" ∧ (parseMethodDescriptor M'.2.1.desc).map (fun d => d.parameters.length) = some As.length)
    (hdd : d' + 1 ≤ d) (hnl : M'.2.2.2.1 ≤ 21) (hb : b < fm_N) (hs : fm_sh b = .inr (.inr (ci, fs))) (hc : classes[ci]? = some (C, T, N)) (hrs : rest.length ≤ 8) (hcc : uc ≤ mc) (hss : us ≤ ms)
    (kk : ∀ v I', Q' v I' → am_AW M d mc ms SC Q (pc + 3) L (v.toList ++ rest) fm_N (fm_hp I') uc us) : am_AW M d mc ms SC Q pc L st fm_N (fm_hp I) uc us :=
  am_callV (mc' := 0) (ms' := 0) hM hst hd (am_good hcw hws) hy hdd hnl hb (fs := fm_fs (I b) 0 fs) (by show fm_c (fm_sh b) (I b) = _; rw [hs]; rfl) hc hrs hcc hss (fun v n' h' q => by obtain ⟨e, -⟩ := q; rw [e]; exact am_sc.same f_sp) (fun v n' h' q _ => by obtain ⟨e, I', e2, q⟩ := q; subst e; subst e2; exact kk v I' q)
theorem f_callS {index : Nat} {Q' : Option am_V → fm_I → Prop} (hM : fM M' d' As I Q') (hst : st = As.reverse ++ rest) (hd : decode M.2.2.1 pc = .ok (.invokestatic index, 3))
    (hcw : Cond.code M'.2.1 M'.2.2.1 M'.2.2.2.1 M'.2.2.2.2 ∈ am_all) (hws : ∀ w ∈ ([.methodLink M.1 index M'.2.1, .static M'.2.1, .initialized M.1] : List Cond), w ∈ am_all)
    (hy : M'.2.1.cls = M.1 ∧ M'.2.1.cls ≠ "java/lang/invoke/MethodHandle" ∧ M'.2.1.cls ≠ "java/lang/invoke/VarHandle" ∧ (parseMethodDescriptor M'.2.1.desc).map (fun d => d.parameters.length) = some As.length)
    (hdd : d' + 1 ≤ d) (hnl : M'.2.2.2.1 ≤ 21) (hrs : rest.length ≤ 8) (hcc : uc ≤ mc) (hss : us ≤ ms)
    (kk : ∀ v I', Q' v I' → am_AW M d mc ms SC Q (pc + 3) L (v.toList ++ rest) fm_N (fm_hp I') uc us) : am_AW M d mc ms SC Q pc L st fm_N (fm_hp I) uc us :=
  am_callS (mc' := 0) (ms' := 0) hM hst hd (am_good hcw hws) hy hdd hnl hrs hcc hss (fun v n' h' q => by obtain ⟨e, -⟩ := q; rw [e]; exact am_sc.same f_sp) (fun v n' h' q _ => by obtain ⟨e, I', e2, q⟩ := q; subst e; subst e2; exact kk v I' q)
theorem f_callSN {index : Nat} {host : String} {Q' : Option am_V → fm_I → Prop} (hM : fM M' d' As I Q') (hst : st = As.reverse ++ rest) (hd : decode M.2.2.1 pc = .ok (.invokestatic index, 3))
    (hcw : Cond.code M'.2.1 M'.2.2.1 M'.2.2.2.1 M'.2.2.2.2 ∈ am_all) (hnw : Cond.methodLinkNest M.1 index M'.2.1 host ∈ am_nest) (hini : Cond.initialized M'.2.1.cls ∈ am_all) (hstt : Cond.static M'.2.1 ∈ am_all)
    (hy : M'.2.1.cls ≠ "java/lang/invoke/MethodHandle" ∧ M'.2.1.cls ≠ "java/lang/invoke/VarHandle" ∧ (parseMethodDescriptor M'.2.1.desc).map (fun d => d.parameters.length) = some As.length)
    (hdd : d' + 1 ≤ d) (hnl : M'.2.2.2.1 ≤ 21) (hrs : rest.length ≤ 8) (hcc : uc ≤ mc) (hss : us ≤ ms)
    (kk : ∀ v I', Q' v I' → am_AW M d mc ms SC Q (pc + 3) L (v.toList ++ rest) fm_N (fm_hp I') uc us) : am_AW M d mc ms SC Q pc L st fm_N (fm_hp I) uc us :=
  am_callSN (mc' := 0) (ms' := 0) hM hst hd (am_good0 hcw) hnw hini hstt hy hdd hnl hrs hcc hss (fun v n' h' q => by obtain ⟨e, -⟩ := q; rw [e]; exact am_sc.same f_sp) (fun v n' h' q _ => by obtain ⟨e, I', e2, q⟩ := q; subst e; subst e2; exact kk v I' q)
end FC
-- from a general end to an int's or to none: behind a call 'fun v I2 q => by obtain ⟨x, rfl, q⟩ := q; ..'
end
section
-- new cells: the position n is the new one
def am_so (n : Nat) (h : am_H) (L : Nat → Option am_V) (rest : List am_V) : Prop := (∀ k, k < n → am_oke n (h k)) ∧ (∀ i k, L i = some (vR k) → k < n ∨ k = am_SP) ∧ (∀ k, vR k ∈ rest → k < n ∨ k = am_SP) ∧ n < am_SP
section AL
variable {M : am_M} {d mc ms : Nat} {SC : Option (Nat × (Nat → Int32))} {Q : Option am_V → Nat → am_H → Prop} {pc : Nat} {L : Nat → Option am_V} {rest : List am_V} {n : Nat} {h : am_H} {uc us : Nat}
theorem am_grow {e : am_E} {q pc' uc' us' : Nat} {p : Program} {l : Launch} {e0 : Env} {R : Room} {s : State} {m : MethodId} {args : Array Value} {below : List Frame} {meth : Method} {c : Code} {D : va_G} {tc : Nat → ClassId} {A : Nat → Prop} {Qm : State → Prop} {ad : Nat → Nat} {H1 : Heap} {locs : List Loc} {ls : Array Slot}
    (hso : am_so n h L rest) (F : am_F M d mc ms p R s m args meth c D tc A) (X : am_X SC ad A s) (hP1 : va_P D classes (am_ws tc ad n h ++ [(q, am_ce tc (va_up ad n q) e)]) H1) (hD1 : va_D A (am_ws tc ad n h ++ [(q, am_ce tc (va_up ad n q) e)])) (hS1 : va_S A s.heap H1 locs) (hl : am_has ls M.2.2.2.1 ad L)
    (hret : ∀ (v : Option am_V) (n' : Nat) (h' : am_H) (ad' : Nat → Nat) (H' : Heap) (locs' : List Loc) (ls' : Array Slot) (pc' : Nat), Q v n' h' → n ≤ n' → (∀ k, k < n ∨ n' ≤ k → ad' k = ad k) → va_P D classes (am_ws tc ad' n' h') H' → va_D A (am_ws tc ad' n' h') → va_S A s.heap H' locs' → am_rd M pc' v →
      W p l e0 R s m args below meth c H' locs' mc ms Qm (F0 m pc' ls' (v.toList.map (am_cv ad'))))
    (kk : am_AW M d mc ms SC Q pc' L (vR n :: rest) (n + 1) (va_up h n e) uc' us') : W p l e0 R s m args below meth c H1 locs uc' us' Qm (F0 m pc' ls (.ref q :: rest.map (am_cv ad))) := by
  obtain ⟨hs, hL, hr, hn⟩ := hso
  rw [am_push hs] at hP1 hD1
  have hcv : ∀ v : am_V, (∀ k, v = vR k → k < n ∨ k = am_SP) → am_cv (va_up ad n q) v = am_cv ad v := by
    intro v hv
    rcases v with x | r
    · rfl
    · cases r with
      | none => rfl
      | some k =>
        show Value.ref (va_up ad n q k) = Value.ref (ad k)
        rw [va_up_ne ad q (by rcases hv k rfl with h1 | h1 <;> omega)]
  have hl' : am_has ls M.2.2.2.1 (va_up ad n q) L := hl.re (fun i v hv => hcv v (fun k e9 => hL i k (by rw [hv, e9])))
  have hX' : am_X SC (va_up ad n q) A s := fun L0 xs hs9 => by
    rw [va_up_ne ad q (Nat.ne_of_gt hn)]
    exact X L0 xs hs9
  have est : (vR n :: rest).map (am_cv (va_up ad n q)) = .ref q :: rest.map (am_cv ad) := by
    rw [List.map_cons, List.map_congr_left (fun v hv => hcv v (fun k e9 => hr k (e9 ▸ hv)))]
    show Value.ref (va_up ad n q n) :: _ = _
    rw [va_up_self]
  have := kk p l e0 R s m args below meth c D tc A Qm (va_up ad n q) H1 locs ls F hX' hP1 hD1 hS1 hl' (fun v2 n2 h2 ad2 H2 locs2 ls2 pc2 q1 q2 q3 => hret v2 n2 h2 ad2 H2 locs2 ls2 pc2 q1 (by omega) (fun k hk => by
    rw [q3 k (by omega)]
    exact va_up_ne ad q (by omega)))
  rw [est] at this
  exact this
theorem i_new {C : String} {T : u_T} {N ci index : Nat} {fs : List am_V} (ty0 : Nat → FieldType) (hty : ∀ k, k < N → parseFieldDescriptor (T k).2.2.1 = some (ty0 k)) (hd : decode M.2.2.1 pc = .ok (.new index, 3)) (hc : classes[ci]? = some (C, T, N)) (hin : ∀ w ∈ u_ws C T N, w ∈ am_all) (hcl : Cond.classLink M.1 index C ∈ am_all) (hinst : Cond.instantiable C N ∈ am_all) (hini : Cond.initialized C ∈ am_all)
    (hfs : ∀ j, j < N → defaultValue (ty0 j) = vp_V (fs.map (am_cv id)) j) (hok : ∀ v ∈ fs, am_okv 0 v) (hcc : uc + 1 ≤ mc) (hss : us + N ≤ ms) (hso : am_so n h L rest) (kk : am_AW M d mc ms SC Q (pc + 3) L (vR n :: rest) (n + 1) (va_up h n (.inr (ci, fs))) (uc + 1) (us + N)) : am_AW M d mc ms SC Q pc L rest n h uc us := by
  intro p l e R s m args below meth c D tc A Qm ad H locs ls F X hP hD hS hl hret
  have F2 := F
  obtain ⟨⟨hx, hbb, hml, hown, hts⟩, -, -, -, hR, hK, hA⟩ := F2
  have hcg : ∀ a b : Nat → Nat, fs.map (am_cv a) = fs.map (am_cv b) := fun a b => List.map_congr_left fun v hv => am_cv_congr (n := 0) (fun k hk => absurd hk (Nat.not_lt_zero k)) (hok v hv)
  obtain ⟨hR1, hR2, hR3, hR4⟩ := hR
  subst hR2; subst hR3
  refine va_new (ci := ci) (fs := fs.map (am_cv ad)) hx hbb hts hin ty0 hty hown (hts _ hcl) (hts _ hinst) (hts _ hini) hK.1 hP hD hS hA hc (fun j hj => by rw [hcg ad id]; exact hfs j hj) hcc hss hd (fun q H1 hP1 hD1 hS1 => ?_)
  have e1 : (Sum.inr (ci, fs.map (am_cv ad)) : va_E) = am_ce tc (va_up ad n q) (.inr (ci, fs)) := by
    show _ = (Sum.inr (ci, fs.map (am_cv (va_up ad n q))) : va_E)
    rw [hcg ad (va_up ad n q)]
  rw [e1] at hP1 hD1
  exact am_grow hso F X hP1 hD1 hS1 hl hret kk
theorem i_newa {atype : ArrayType} {t N : Nat} {ty : FieldType} {x : Int32} (hd : decode M.2.2.1 pc = .ok (.newarray atype, 2)) (hty : newarray.typeOf atype = ty) (ht : ∀ tc : Nat → ClassId, (am_tl tc)[t]? = some (tc t, ty)) (hpr : ∀ (U : State) (cA : ClassId), va_RA U cA ty → U.vm.findClass ("[" ++ ty.toString) = some cA) (hdf : defaultValue ty = .int 0) (hw : Cond.arrayClass ty ∈ am_all)
    (hx0 : ¬ x < 0) (hN : x.toNatClampNeg = N) (hby : N * componentBytes ty ≤ 536870912) (hcc : uc + 1 ≤ mc) (hss : us + N ≤ ms) (hso : am_so n h L rest) (kk : am_AW M d mc ms SC Q (pc + 2) L (vR n :: rest) (n + 1) (va_up h n (.inl (t, N, .inl (fun _ => 0)))) (uc + 1) (us + N)) : am_AW M d mc ms SC Q pc L (vI x :: rest) n h uc us := by
  intro p l e R s m args below meth c D tc A Qm ad H locs ls F X hP hD hS hl hret
  have F2 := F
  obtain ⟨⟨hx, hbb, hml, hown, hts⟩, -, -, -, hR, hK, hA⟩ := F2
  obtain ⟨hR1, hR2, hR3, hR4⟩ := hR; subst hR2; subst hR3; subst hty
  refine va_newaK hx hbb (hts _ hw) rfl hd rfl hx0 hN hby hcc hss rfl fun H1 cA e1 z1 o1 hAr hNm => ?_
  have hcA : cA = tc t := Option.some.inj (hNm.symm.trans (hpr s (tc t) (hK.1.2 t _ (ht tc)).2))
  subst hcA
  have hk : ∀ (k : Nat) (x : Nat × va_E), (am_ws tc ad n h)[k]? = some x → H1[x.1]? = H[x.1]? := fun k x hx => o1 x.1 ((hP k x hx).lt)
  refine am_grow (q := H.size) (pc' := pc + 2) (e := .inl (t, N, .inl (fun _ => 0))) hso F X ((hP.kept hk).app (fun k x hx => ?_)) (hD.push hP rfl (hA _ hS.1)) ⟨Nat.le_trans hS.1 (by omega), fun x h1 h2 => (o1 x (Nat.lt_of_lt_of_le h1 hS.1)).trans (hS.2.1 x h1 h2), hS.2.2⟩ hl hret kk
  have hz : k < 1 := (List.getElem?_eq_some_iff.mp hx).1
  rw [show k = 0 by omega] at hx
  cases hx
  show H1[H.size]? = some (vp_cell (tc t) (N, .inl (fun _ => 0)))
  rw [vp_cell_i, e1, hdf]
theorem i_anew {N index : Nat} {x : Int32} (hd : decode M.2.2.1 pc = .ok (.anewarray index, 3)) (hcl : Cond.classLink M.1 index "SpanLinker$SourceModule" ∈ am_all) (hov : ∀ (p : Program) (R : Room) (s : State) (m : MethodId) (args : Array Value) (meth : Method) (c : Code) (D : va_G) (tc : Nat → ClassId) (A : Nat → Prop), am_F M d mc ms p R s m args meth c D tc A → va_AO "SpanLinker$SourceModule" s)
    (hx0 : ¬ x < 0) (hN : x.toNatClampNeg = N) (hby : N * 4 ≤ 536870912) (hcc : uc + 1 ≤ mc) (hss : us + N ≤ ms) (hso : am_so n h L rest) (kk : am_AW M d mc ms SC Q (pc + 3) L (vR n :: rest) (n + 1) (va_up h n (.inl (2, N, .inr (fun _ => none)))) (uc + 1) (us + N)) : am_AW M d mc ms SC Q pc L (vI x :: rest) n h uc us := by
  intro p l e R s m args below meth c D tc A Qm ad H locs ls F X hP hD hS hl hret
  have F2 := F
  obtain ⟨⟨hx, hbb, hml, hown, hts⟩, -, -, -, hR, hK, hA⟩ := F2
  have ho := hov p R s m args meth c D tc A F
  obtain ⟨hR1, hR2, hR3, hR4⟩ := hR
  subst hR2; subst hR3
  refine va_newq hx hbb hown (hts _ hcl) ho hK.1 hP hD hS hA hx0 hN hby hcc hss hd (fun q cA H1 hK1 hP1 hD1 hS1 => ?_)
  have hcA : cA = tc 2 := by
    have h1 := (hK1.2 4 (cA, .object "SpanLinker$SourceModule") rfl).2
    have h2 := (hK.1.2 2 (tc 2, .object "SpanLinker$SourceModule") rfl).2
    obtain ⟨-, -, -, -, -, h1⟩ := h1
    obtain ⟨-, -, -, -, -, h2⟩ := h2
    exact Option.some.inj (h1.symm.trans h2)
  subst hcA
  exact am_grow (q := q) (pc' := pc + 3) (e := .inl (2, N, .inr (fun _ => none))) hso F X hP1 hD1 hS1 hl hret kk
theorem i_aast {b N y ci : Nat} {g : Nat → Option Nat} {i : Int32} {T : u_T} {NN : Nat} {fs : List am_V} (hd : decode M.2.2.1 pc = .ok (.aastore, 1)) (hb : b < n) (ho : h b = .inl (2, N, .inr g)) (hy : y < n) (hoy : h y = .inr (ci, fs)) (hc : classes[ci]? = some ("SpanLinker$SourceModule", T, NN)) (hi : vp_in i N) (kk : am_AW M d mc ms SC Q (pc + 1) L rest n (va_up h b (.inl (2, N, .inr (va_up g i.toNatClampNeg (some y))))) uc us) : am_AW M d mc ms SC Q pc L (vR y :: vI i :: vR b :: rest) n h uc us := by
  intro p l e R s m args below meth c D tc A Qm ad H locs ls F X hP hD hS hl hret
  have F2 := F
  obtain ⟨⟨hx, hbb, hml, hown, hts⟩, -, -, -, hR, hK, hA⟩ := F2
  refine va_astq (r := ("SpanLinker$SourceModule", T, NN)) hx hbb hK.1 hP hD hS b 2 y ci (am_get hb ho) rfl (am_get hy hoy) hc hi hd (fun H1 locs1 hP1 hD1 hS1 => ?_)
  have e1 : (am_ws tc ad n h).set b (ad b, .inl (tc 2, N, .inr (.inr (.inr (.inr (va_up (fun j => (g j).map ad) i.toNatClampNeg (some (ad y)))))))) = am_ws tc ad n (va_up h b (.inl (2, N, .inr (va_up g i.toNatClampNeg (some y))))) := by
    rw [← am_set _ hb]
    congr 2
    show (Sum.inl (tc 2, N, .inr (.inr (.inr (.inr (va_up (fun j => (g j).map ad) i.toNatClampNeg (some (ad y))))))) : va_E) = Sum.inl (tc 2, N, .inr (.inr (.inr (.inr (fun j => (va_up g i.toNatClampNeg (some y) j).map ad)))))
    have : va_up (fun j => (g j).map ad) i.toNatClampNeg (some (ad y)) = fun j => (va_up g i.toNatClampNeg (some y) j).map ad := funext fun j => by
      by_cases hj : j = i.toNatClampNeg
      · subst hj; rw [va_up_self, va_up_self]; rfl
      · rw [va_up_ne _ _ hj, va_up_ne _ _ hj]
    rw [this]
  rw [e1] at hP1 hD1
  exact kk p l e R s m args below meth c D tc A Qm ad H1 locs1 ls F X hP1 hD1 hS1 hl hret
theorem i_obj {index b : Nat} (hd : decode M.2.2.1 pc = .ok (.invokespecial index, 3)) (h1 : Cond.methodLink M.1 index Lib.objectInit ∈ am_all) (h2 : Cond.instanceMethod Lib.objectInit ∈ am_all) (h3 : Cond.code Lib.objectInit ⟨#[0xb1]⟩ 1 none ∈ am_all) (hdd : 1 ≤ d) (hrs : rest.length ≤ 8) (kk : am_AW M d mc ms SC Q (pc + 3) L rest n h uc us) : am_AW M d mc ms SC Q pc L (vR b :: rest) n h uc us := by
  intro p l e R s m args below meth c D tc A Qm ad H locs ls F X hP hD hS hl hret
  have F2 := F
  obtain ⟨⟨hx, hbb, hml, hown, hts⟩, -, -, -, hR, hK, hA⟩ := F2
  obtain ⟨hR1, hR2, hR3, hR4⟩ := hR
  subst hR2; subst hR3
  exact W.objInit (a := ad b) (rest := rest.map (am_cv ad)) hx hbb hown (hts _ h1) (hts _ h2) (hts _ h3) rfl (by rw [hml]; exact hl.1) rfl hd (by omega) (by rw [am_cats]; show 2 * 0 + rest.length + 12 ≤ R.locals; omega) (kk p l e _ s m args below meth c D tc A Qm ad H locs ls F X hP hD hS hl hret)
theorem i_aald3 {b N y : Nat} {g : Nat → Option Nat} {i : Int32} (hd : decode M.2.2.1 pc = .ok (.aaload, 1)) (hb : b < n) (ho : h b = .inl (3, N, .inr g)) (hi : vp_in i N) (hy : g i.toNatClampNeg = some y) (kk : am_AW M d mc ms SC Q (pc + 1) L (vR y :: rest) n h uc us) : am_AW M d mc ms SC Q pc L (vI i :: vR b :: rest) n h uc us := by
  intro p l e R s m args below meth c D tc A Qm ad H locs ls F X hP hD hS hl hret
  have hlt : i.toNatClampNeg < N := Nat.not_le.mp fun q => hi (Or.inr q)
  refine W.aald (v := va_rf ((g i.toNatClampNeg).map ad)) (ty := .array .int) F.1.1 F.1.2.1 (hP b _ (am_get hb ho)) ((F.2.2.2.2.2.1.1.2 3 (tc 3, .array .int) rfl).1 N (fun j => va_rf ((g j).map ad))) rfl (fun q => by cases q) (by show ¬ (i < 0 ∨ (arrV _ _ _).slots.size ≤ _); rw [arrV_size]; exact hi) (by show (arrV _ _ _).slots[_]? = _; rw [arrV_read _ _ hlt]) rfl rfl hd ?_
  rw [hy]
  exact kk p l e R s m args below meth c D tc A Qm ad H locs ls F X hP hD hS hl hret
theorem i_mmax {index : Nat} {x y : Int32} (hd : decode M.2.2.1 pc = .ok (.invokestatic index, 3)) (h1 : Cond.methodLink M.1 index Lib.Math.max.name ∈ am_all) (h2 : Cond.static Lib.Math.max.name ∈ am_all) (h3 : Cond.initialized "java/lang/Math" ∈ am_all) (h4 : Cond.code Lib.Math.max.name Lib.Math.max.code 2 (some .int) ∈ am_all) (hf : 1 ≤ d) (hr : rest.length ≤ 8) (hc : uc ≤ mc) (hs : us ≤ ms) (kk : am_AW M d mc ms SC Q (pc + 3) L (vI (if x < y then y else x) :: rest) n h uc us) : am_AW M d mc ms SC Q pc L (vI y :: vI x :: rest) n h uc us := by
  intro p l e R s m args below meth c D tc A Qm ad H locs ls F X hP hD hS hl hret
  have F2 := F
  obtain ⟨⟨hx, hbb, hml, hown, hts⟩, -, -, -, hR, hK, hA⟩ := F2
  obtain ⟨hR1, hR2, hR3, hR4⟩ := hR
  subst hR2; subst hR3
  exact va_mmax hx hbb (hml.trans hl.1.symm) hown (hts _ h1) (hts _ h2) (hts _ h3) (hts _ h4) (by omega) (by rw [am_cats]; show rest.length + 13 ≤ R.locals; omega) hc hs hd (kk p l e _ s m args below meth c D tc A Qm ad H locs ls F X hP hD hS hl hret)
end AL
theorem am_fitz (x : Int32) : fits .boolean (.int (x &&& 1)) = true := by
  obtain ⟨j, hj, e⟩ := pk_andE x (m := 1) 1 (by decide)
  rw [e]
  rcases (show j = 0 ∨ j = 1 by omega) with rfl | rfl <;> decide
end
section
-- printed by wip/whole/gen/gen_pg.py: what a method answers, as a function of its arguments and of the table of ints
abbrev pR : Type := Option (Option am_V × fm_I)
abbrev ri (x : Int32) (I : fm_I) : pR := some (some (vI x), I)
abbrev rv (I : fm_I) : pR := some (none, I)
def bi (r : pR) (k : Int32 → fm_I → pR) : pR := match r with
  | some (some (.inl x), I) => k x I
  | _ => none
def bv (r : pR) (k : fm_I → pR) : pR := match r with
  | some (none, I) => k I
  | _ => none
def bn (x : Int32) (k : Int32 → pR) : pR := k x
def rz (x : Int32) (I : fm_I) : pR := if x &&& 1 = x then ri x I else none
def sh_o (ci b : Nat) : Bool := match fm_sh b with
  | .inr (.inr (c, _)) => decide (c = ci) && decide (b < fm_N)
  | _ => false
def sh_i (ci b k : Nat) : Bool := match fm_sh b with
  | .inr (.inr (c, fs)) => decide (c = ci) && decide (b < fm_N) && decide (fs[k]? = some none)
  | _ => false
def sh_r (ci b k : Nat) : Option Nat := match fm_sh b with
  | .inr (.inr (c, fs)) => if c = ci ∧ b < fm_N then (fs[k]?).join else none
  | _ => none
def sh_n (t b : Nat) : Option Nat := match fm_sh b with
  | .inl (u, N) => if u = t ∧ b < fm_N ∧ N < 2147483648 then some N else none
  | _ => none
def sh_a (t b j : Nat) : Option Nat := match fm_sh b with
  | .inr (.inl (u, N, g)) => if u = t ∧ b < fm_N ∧ N < 2147483648 ∧ j < N then g j else none
  | _ => none
def gi (ci b k : Nat) (I : fm_I) (kk : Int32 → pR) : pR := if sh_i ci b k = true then kk (I b k) else none
def gr (ci b k : Nat) (kk : Nat → pR) : pR := match sh_r ci b k with
  | some q => kk q
  | none => none
def pI (ci b k : Nat) (x : Int32) (I : fm_I) (kk : fm_I → pR) : pR := if sh_i ci b k = true then kk (fm_up I b k x) else none
def pZ (ci b k : Nat) (x : Int32) (I : fm_I) (kk : fm_I → pR) : pR := if sh_i ci b k = true ∧ x &&& 1 = x then kk (fm_up I b k x) else none
def ld (t b : Nat) (i : Int32) (I : fm_I) (kk : Int32 → pR) : pR := match sh_n t b with
  | some N => if i < 0 ∨ N ≤ i.toNatClampNeg then none else kk (I b i.toNatClampNeg)
  | none => none
def sI (b : Nat) (i x : Int32) (I : fm_I) (kk : fm_I → pR) : pR := match sh_n 0 b with
  | some N => if i < 0 ∨ N ≤ i.toNatClampNeg then none else kk (fm_up I b i.toNatClampNeg x)
  | none => none
def sZ (b : Nat) (i x : Int32) (I : fm_I) (kk : fm_I → pR) : pR := match sh_n 1 b with
  | some N => if i < 0 ∨ N ≤ i.toNatClampNeg then none else kk (fm_up I b i.toNatClampNeg (vp_nar .boolean x))
  | none => none
def la (t b : Nat) (i : Int32) (kk : Nat → pR) : pR := if i < 0 then none else match sh_a t b i.toNatClampNeg with
  | some q => kk q
  | none => none
def ln (b : Nat) (kk : Int32 → pR) : pR := match sh_n 0 b with
  | some N => kk (Int32.ofNat N)
  | none => none
def vi (ci b : Nat) (f : pR) (kk : Int32 → fm_I → pR) : pR := if sh_o ci b = true then bi f kk else none
def vv (ci b : Nat) (f : pR) (kk : fm_I → pR) : pR := if sh_o ci b = true then bv f kk else none
def sl (S : Nat × (Nat → Int32)) (i : Int32) (kk : Int32 → pR) : pR := if i < 0 ∨ S.1 ≤ i.toNatClampNeg then none else kk (S.2 i.toNatClampNeg)
def FU : Nat := 4096
-- what is looked up of the tables, for a place in the constant pool
def fk (own : String) (index ci k : Nat) : Prop := ∃ (Cn : String) (T : u_T) (N : Nat), classes[ci]? = some (Cn, T, N) ∧ (∀ w ∈ u_ws Cn T N, w ∈ am_all) ∧ k < N ∧ Cond.fieldLink own index (T k).1 (T k).2.1 (T k).2.2.1 ∈ am_all
def fp (own : String) (index ci k : Nat) (ty : FieldType) : Prop := ∃ (Cn : String) (T : u_T) (N : Nat) (ty0 : Nat → FieldType), classes[ci]? = some (Cn, T, N) ∧ (∀ w ∈ u_ws Cn T N, w ∈ am_all) ∧ k < N ∧ Cond.fieldLink own index (T k).1 (T k).2.1 (T k).2.2.1 ∈ am_all ∧ (∀ k, k < N → parseFieldDescriptor (T k).2.2.1 = some (ty0 k)) ∧ (∀ a, a < N → ∀ b, b < N → a ≠ b → (T a).2.1 ≠ (T b).2.1) ∧ (T k).2.2.2 = false ∧ parseFieldDescriptor (T k).2.2.1 = some ty
def ckV (own : String) (index ci na : Nat) (M' : am_M) : Prop := Cond.code M'.2.1 M'.2.2.1 M'.2.2.2.1 M'.2.2.2.2 ∈ am_all ∧ (∀ w ∈ ([.methodLink own index M'.2.1, .instanceMethod M'.2.1, .selects M'.2.1.cls M'.2.1 M'.2.1, .initialized M'.2.1.cls] : List Cond), w ∈ am_all) ∧ (M'.2.1.cls ≠ "java/lang/invoke/MethodHandle" ∧ M'.2.1.cls ≠ "java/lang/invoke/VarHandle" ∧ (parseMethodDescriptor M'.2.1.desc).map (fun d => d.parameters.length) = some na) ∧ M'.2.2.2.1 ≤ 21 ∧ ∃ (T : u_T) (N : Nat), classes[ci]? = some (M'.2.1.cls, T, N)
def ckS (own : String) (index na : Nat) (M' : am_M) : Prop := Cond.code M'.2.1 M'.2.2.1 M'.2.2.2.1 M'.2.2.2.2 ∈ am_all ∧ (∀ w ∈ ([.methodLink own index M'.2.1, .static M'.2.1, .initialized own] : List Cond), w ∈ am_all) ∧ (M'.2.1.cls = own ∧ M'.2.1.cls ≠ "java/lang/invoke/MethodHandle" ∧ M'.2.1.cls ≠ "java/lang/invoke/VarHandle" ∧ (parseMethodDescriptor M'.2.1.desc).map (fun d => d.parameters.length) = some na) ∧ M'.2.2.2.1 ≤ 21
def ckN (own : String) (index na : Nat) (M' : am_M) : Prop := Cond.code M'.2.1 M'.2.2.1 M'.2.2.2.1 M'.2.2.2.2 ∈ am_all ∧ (∃ host, Cond.methodLinkNest own index M'.2.1 host ∈ am_nest) ∧ Cond.initialized M'.2.1.cls ∈ am_all ∧ Cond.static M'.2.1 ∈ am_all ∧ (M'.2.1.cls ≠ "java/lang/invoke/MethodHandle" ∧ M'.2.1.cls ≠ "java/lang/invoke/VarHandle" ∧ (parseMethodDescriptor M'.2.1.desc).map (fun d => d.parameters.length) = some na) ∧ M'.2.2.2.1 ≤ 21
-- method, depth, cells, slots, script, cells and slots so far
abbrev gC : Type := am_M × Nat × Nat × Nat × Option (Nat × (Nat → Int32)) × Nat × Nat
def gW (C : gC) (r : pR) (pc : Nat) (L : Nat → Option am_V) (st : List am_V) (I : fm_I) : Prop := ∀ (Q : Option am_V → fm_I → Prop) (v : Option am_V) (J : fm_I), r = some (v, J) → Q v J → am_AW C.1 C.2.1 C.2.2.1 C.2.2.2.1 C.2.2.2.2.1 (fm_Q Q) pc L st fm_N (fm_hp I) C.2.2.2.2.2.1 C.2.2.2.2.2.2
def gM (M : am_M) (d : Nat) (r : pR) (av : List am_V) (I : fm_I) : Prop := ∀ (v : Option am_V) (J : fm_I), r = some (v, J) → fM M d av I (fun w K => w = v ∧ K = J)
theorem gM_of {M : am_M} {d : Nat} {r : pR} {av : List am_V} {I : fm_I} (hy : plainName M.2.1.cls = true) (how : M.1 = M.2.1.cls) (hlen : av.length ≤ M.2.2.2.1) (hw : gW (M, d, 0, 0, none, 0, 0) r 0 (fun i => av[i]?) [] I) : gM M d r av I := fun v J e => f_met hy how hlen (hw _ v J e ⟨rfl, rfl⟩)
theorem bi_some {f : pR} {kk : Int32 → fm_I → pR} {v : Option am_V} {J : fm_I} (e : bi f kk = some (v, J)) : ∃ x K, f = some (some (vI x), K) ∧ kk x K = some (v, J) := by
  unfold bi at e
  split at e
  · exact ⟨_, _, rfl, e⟩
  · cases e
theorem bv_some {f : pR} {kk : fm_I → pR} {v : Option am_V} {J : fm_I} (e : bv f kk = some (v, J)) : ∃ K, f = some (none, K) ∧ kk K = some (v, J) := by
  unfold bv at e
  split at e
  · exact ⟨_, rfl, e⟩
  · cases e
theorem sh_o_some {ci b : Nat} (h : sh_o ci b = true) : b < fm_N ∧ ∃ fs, fm_sh b = .inr (.inr (ci, fs)) := by
  unfold sh_o at h
  split at h
  · rename_i c fs e
    simp only [Bool.and_eq_true, decide_eq_true_eq] at h
    obtain ⟨rfl, h2⟩ := h
    exact ⟨h2, fs, e⟩
  · cases h
theorem sh_i_some {ci b k : Nat} (h : sh_i ci b k = true) : b < fm_N ∧ ∃ fs, fm_sh b = .inr (.inr (ci, fs)) ∧ fs[k]? = some none := by
  unfold sh_i at h
  split at h
  · rename_i c fs e
    simp only [Bool.and_eq_true, decide_eq_true_eq] at h
    obtain ⟨⟨rfl, h2⟩, h3⟩ := h
    exact ⟨h2, fs, e, h3⟩
  · cases h
theorem sh_r_some {ci b k q : Nat} (h : sh_r ci b k = some q) : b < fm_N ∧ ∃ fs, fm_sh b = .inr (.inr (ci, fs)) ∧ fs[k]? = some (some q) := by
  unfold sh_r at h
  split at h
  · rename_i c fs e
    split at h
    · rename_i h1
      obtain ⟨rfl, h2⟩ := h1
      refine ⟨h2, fs, e, ?_⟩
      cases hf : fs[k]? with
      | none => rw [hf] at h; cases h
      | some o => rw [hf] at h; exact congrArg some h
    · cases h
  · cases h
theorem sh_n_some {t b N : Nat} (h : sh_n t b = some N) : b < fm_N ∧ N < 2147483648 ∧ fm_sh b = .inl (t, N) := by
  unfold sh_n at h
  split at h
  · rename_i u N' e
    split at h
    · rename_i h1
      obtain ⟨rfl, h2, h3⟩ := h1
      cases h
      exact ⟨h2, h3, e⟩
    · cases h
  · cases h
theorem sh_a_some {t b j q : Nat} (h : sh_a t b j = some q) : b < fm_N ∧ ∃ N g, N < 2147483648 ∧ j < N ∧ fm_sh b = .inr (.inl (t, N, g)) ∧ g j = some q := by
  unfold sh_a at h
  split at h
  · rename_i u N g e
    split at h
    · rename_i h1
      obtain ⟨rfl, h2, h3, h4⟩ := h1
      exact ⟨h2, N, g, h3, h4, e, h⟩
    · cases h
  · cases h
theorem am_ni {x c : Int32} {z : Int} (h : ¬ x = c) (e : c.toInt = z) : x.toInt ≠ z := fun q => h (Int32.toInt_inj.mp (q.trans e.symm))
section PG
variable {C : gC} {r : pR} {pc : Nat} {L : Nat → Option am_V} {rest st As : List am_V} {I : fm_I}
theorem g_none : gW C none pc L st I := fun _ _ _ e => by cases e
theorem g_bn {x : Int32} {kk : Int32 → pR} (k : ∀ y, gW C (kk y) pc L (vI y :: rest) I) : gW C (bn x kk) pc L (vI x :: rest) I := k x
theorem g_iconst {z : Int} {x : Int32} (hd : decode C.1.2.2.1 pc = .ok (.iconst z, 1)) (hv : Int32.ofInt z = x) (kk : gW C r (pc + 1) L (vI x :: rest) I) : gW C r pc L rest I := fun Q v J e q => i_iconst hd hv (kk Q v J e q)
theorem g_bipush {z : Int} {x : Int32} (hd : decode C.1.2.2.1 pc = .ok (.bipush z, 2)) (hv : (Int8.ofInt z).toInt32 = x) (kk : gW C r (pc + 2) L (vI x :: rest) I) : gW C r pc L rest I := fun Q v J e q => i_bipush hd hv (kk Q v J e q)
theorem g_sipush {z : Int} {x : Int32} (hd : decode C.1.2.2.1 pc = .ok (.sipush z, 3)) (hv : (Int16.ofInt z).toInt32 = x) (kk : gW C r (pc + 3) L (vI x :: rest) I) : gW C r pc L rest I := fun Q v J e q => i_sipush hd hv (kk Q v J e q)
theorem g_ldc {index : Nat} {x : Int32} (hd : decode C.1.2.2.1 pc = .ok (.ldc index, 2)) (hw : Cond.constant C.1.1 index x ∈ am_all) (kk : gW C r (pc + 2) L (vI x :: rest) I) : gW C r pc L rest I := fun Q v J e q => i_ldc hd hw (kk Q v J e q)
theorem g_iload_n {k : Fin 4} {i : Nat} {x : Int32} (hd : decode C.1.2.2.1 pc = .ok (.iload_n k, 1)) (hi : (k : Nat) = i) (hL : L i = some (vI x)) (kk : gW C r (pc + 1) L (vI x :: rest) I) : gW C r pc L rest I := fun Q v J e q => i_iload_n hd hi hL (kk Q v J e q)
theorem g_iload {i : Nat} {x : Int32} (hd : decode C.1.2.2.1 pc = .ok (.iload i, 2)) (hL : L i = some (vI x)) (kk : gW C r (pc + 2) L (vI x :: rest) I) : gW C r pc L rest I := fun Q v J e q => i_iload hd hL (kk Q v J e q)
theorem g_istore_n {k : Fin 4} {i : Nat} {x : Int32} (hd : decode C.1.2.2.1 pc = .ok (.istore_n k, 1)) (hi : (k : Nat) = i) (hn : i < C.1.2.2.2.1) (kk : gW C r (pc + 1) (va_up L i (some (vI x))) rest I) : gW C r pc L (vI x :: rest) I := fun Q v J e q => i_istore_n hd hi hn (kk Q v J e q)
theorem g_istore {i : Nat} {x : Int32} (hd : decode C.1.2.2.1 pc = .ok (.istore i, 2)) (hn : i < C.1.2.2.2.1) (kk : gW C r (pc + 2) (va_up L i (some (vI x))) rest I) : gW C r pc L (vI x :: rest) I := fun Q v J e q => i_istore hd hn (kk Q v J e q)
theorem g_aload_n {k : Fin 4} {i : Nat} {x : Nat} (hd : decode C.1.2.2.1 pc = .ok (.aload_n k, 1)) (hi : (k : Nat) = i) (hL : L i = some (vR x)) (kk : gW C r (pc + 1) L (vR x :: rest) I) : gW C r pc L rest I := fun Q v J e q => i_aload_n hd hi hL (kk Q v J e q)
theorem g_aload {i : Nat} {x : Nat} (hd : decode C.1.2.2.1 pc = .ok (.aload i, 2)) (hL : L i = some (vR x)) (kk : gW C r (pc + 2) L (vR x :: rest) I) : gW C r pc L rest I := fun Q v J e q => i_aload hd hL (kk Q v J e q)
theorem g_astore_n {k : Fin 4} {i : Nat} {x : Nat} (hd : decode C.1.2.2.1 pc = .ok (.astore_n k, 1)) (hi : (k : Nat) = i) (hn : i < C.1.2.2.2.1) (kk : gW C r (pc + 1) (va_up L i (some (vR x))) rest I) : gW C r pc L (vR x :: rest) I := fun Q v J e q => i_astore_n hd hi hn (kk Q v J e q)
theorem g_astore {i : Nat} {x : Nat} (hd : decode C.1.2.2.1 pc = .ok (.astore i, 2)) (hn : i < C.1.2.2.2.1) (kk : gW C r (pc + 2) (va_up L i (some (vR x))) rest I) : gW C r pc L (vR x :: rest) I := fun Q v J e q => i_astore hd hn (kk Q v J e q)
theorem g_iinc {i : Nat} {z : Int} {x w : Int32} (hd : decode C.1.2.2.1 pc = .ok (.iinc i z, 3)) (hL : L i = some (vI x)) (hw : Int32.ofInt z = w) (hn : i < C.1.2.2.2.1) (kk : gW C r (pc + 3) (va_up L i (some (vI (x + w)))) rest I) : gW C r pc L rest I := fun Q v J e q => i_iinc hd hL hw rfl hn (kk Q v J e q)
theorem g_iadd {x y : Int32} (hd : decode C.1.2.2.1 pc = .ok (.iadd, 1)) (kk : gW C r (pc + 1) L (vI (x + y) :: rest) I) : gW C r pc L (vI y :: vI x :: rest) I := fun Q v J e q => i_iadd hd rfl (kk Q v J e q)
theorem g_isub {x y : Int32} (hd : decode C.1.2.2.1 pc = .ok (.isub, 1)) (kk : gW C r (pc + 1) L (vI (x - y) :: rest) I) : gW C r pc L (vI y :: vI x :: rest) I := fun Q v J e q => i_isub hd rfl (kk Q v J e q)
theorem g_imul {x y : Int32} (hd : decode C.1.2.2.1 pc = .ok (.imul, 1)) (kk : gW C r (pc + 1) L (vI (x * y) :: rest) I) : gW C r pc L (vI y :: vI x :: rest) I := fun Q v J e q => i_imul hd rfl (kk Q v J e q)
theorem g_iand {x y : Int32} (hd : decode C.1.2.2.1 pc = .ok (.iand, 1)) (kk : gW C r (pc + 1) L (vI (x &&& y) :: rest) I) : gW C r pc L (vI y :: vI x :: rest) I := fun Q v J e q => i_iand hd rfl (kk Q v J e q)
theorem g_ior {x y : Int32} (hd : decode C.1.2.2.1 pc = .ok (.ior, 1)) (kk : gW C r (pc + 1) L (vI (x ||| y) :: rest) I) : gW C r pc L (vI y :: vI x :: rest) I := fun Q v J e q => i_ior hd rfl (kk Q v J e q)
theorem g_ixor {x y : Int32} (hd : decode C.1.2.2.1 pc = .ok (.ixor, 1)) (kk : gW C r (pc + 1) L (vI (x ^^^ y) :: rest) I) : gW C r pc L (vI y :: vI x :: rest) I := fun Q v J e q => i_ixor hd rfl (kk Q v J e q)
theorem g_ishl {x y : Int32} (hd : decode C.1.2.2.1 pc = .ok (.ishl, 1)) (kk : gW C r (pc + 1) L (vI (x <<< (y &&& 31)) :: rest) I) : gW C r pc L (vI y :: vI x :: rest) I := fun Q v J e q => i_ishl hd rfl (kk Q v J e q)
theorem g_ishr {x y : Int32} (hd : decode C.1.2.2.1 pc = .ok (.ishr, 1)) (kk : gW C r (pc + 1) L (vI (x >>> (y &&& 31)) :: rest) I) : gW C r pc L (vI y :: vI x :: rest) I := fun Q v J e q => i_ishr hd rfl (kk Q v J e q)
theorem g_iushr {x y : Int32} (hd : decode C.1.2.2.1 pc = .ok (.iushr, 1)) (kk : gW C r (pc + 1) L (vI ((x.toUInt32 >>> (y.toUInt32 &&& Int32.toUInt32 31)).toInt32) :: rest) I) : gW C r pc L (vI y :: vI x :: rest) I := fun Q v J e q => i_iushr hd rfl (kk Q v J e q)
theorem g_idiv {x y : Int32} (hd : decode C.1.2.2.1 pc = .ok (.idiv, 1)) (hne : ¬ y = 0) (kk : gW C r (pc + 1) L (vI (x / y) :: rest) I) : gW C r pc L (vI y :: vI x :: rest) I := fun Q v J e q => i_idiv hd hne rfl (kk Q v J e q)
theorem g_irem {x y : Int32} (hd : decode C.1.2.2.1 pc = .ok (.irem, 1)) (hne : ¬ y = 0) (kk : gW C r (pc + 1) L (vI (x - x / y * y) :: rest) I) : gW C r pc L (vI y :: vI x :: rest) I := fun Q v J e q => i_irem hd hne rfl (kk Q v J e q)
theorem g_ineg {x : Int32} (hd : decode C.1.2.2.1 pc = .ok (.ineg, 1)) (kk : gW C r (pc + 1) L (vI (-x) :: rest) I) : gW C r pc L (vI x :: rest) I := fun Q v J e q => i_ineg hd rfl (kk Q v J e q)
theorem g_dup {a : am_V} (hd : decode C.1.2.2.1 pc = .ok (.dup, 1)) (kk : gW C r (pc + 1) L (a :: a :: rest) I) : gW C r pc L (a :: rest) I := fun Q v J e q => i_dup hd (kk Q v J e q)
theorem g_pop {a : am_V} (hd : decode C.1.2.2.1 pc = .ok (.pop, 1)) (kk : gW C r (pc + 1) L rest I) : gW C r pc L (a :: rest) I := fun Q v J e q => i_pop hd (kk Q v J e q)
theorem g_dup_x1 {a b : am_V} (hd : decode C.1.2.2.1 pc = .ok (.dup_x1, 1)) (kk : gW C r (pc + 1) L (a :: b :: a :: rest) I) : gW C r pc L (a :: b :: rest) I := fun Q v J e q => i_dup_x1 hd (kk Q v J e q)
theorem g_dup2 {a b : am_V} (hd : decode C.1.2.2.1 pc = .ok (.dup2, 1)) (kk : gW C r (pc + 1) L (a :: b :: a :: b :: rest) I) : gW C r pc L (a :: b :: rest) I := fun Q v J e q => i_dup2 hd (kk Q v J e q)
theorem g_goto {off : Int} {tgt : Nat} (hd : decode C.1.2.2.1 pc = .ok (.goto off, 3)) (ht : (pc : Int) + off = (tgt : Int)) (kk : gW C r tgt L rest I) : gW C r pc L rest I := fun Q v J e q => i_goto hd ht (kk Q v J e q)
theorem g_ifeq {x : Int32} {off : Int} {tgt : Nat} {a b : pR} (hd : decode C.1.2.2.1 pc = .ok (.ifCond .eq off, 3)) (ht : (pc : Int) + off = (tgt : Int)) (kt : gW C a tgt L rest I) (kf : gW C b (pc + 3) L rest I) : gW C (if x = 0 then a else b) pc L (vI x :: rest) I := fun Q v J e q => i_ifeq hd ht (fun c => kt Q v J (by rw [if_pos c] at e; exact e) q) (fun c => kf Q v J (by rw [if_neg c] at e; exact e) q)
theorem g_icmpeq {x y : Int32} {off : Int} {tgt : Nat} {a b : pR} (hd : decode C.1.2.2.1 pc = .ok (.if_icmp .eq off, 3)) (ht : (pc : Int) + off = (tgt : Int)) (kt : gW C a tgt L rest I) (kf : gW C b (pc + 3) L rest I) : gW C (if x = y then a else b) pc L (vI y :: vI x :: rest) I := fun Q v J e q => i_icmpeq hd ht (fun c => kt Q v J (by rw [if_pos c] at e; exact e) q) (fun c => kf Q v J (by rw [if_neg c] at e; exact e) q)
theorem g_ifne {x : Int32} {off : Int} {tgt : Nat} {a b : pR} (hd : decode C.1.2.2.1 pc = .ok (.ifCond .ne off, 3)) (ht : (pc : Int) + off = (tgt : Int)) (kt : gW C a tgt L rest I) (kf : gW C b (pc + 3) L rest I) : gW C (if x = 0 then b else a) pc L (vI x :: rest) I := fun Q v J e q => i_ifne hd ht (fun c => kt Q v J (by rw [if_neg c] at e; exact e) q) (fun c => kf Q v J (by rw [if_pos c] at e; exact e) q)
theorem g_icmpne {x y : Int32} {off : Int} {tgt : Nat} {a b : pR} (hd : decode C.1.2.2.1 pc = .ok (.if_icmp .ne off, 3)) (ht : (pc : Int) + off = (tgt : Int)) (kt : gW C a tgt L rest I) (kf : gW C b (pc + 3) L rest I) : gW C (if x = y then b else a) pc L (vI y :: vI x :: rest) I := fun Q v J e q => i_icmpne hd ht (fun c => kt Q v J (by rw [if_neg c] at e; exact e) q) (fun c => kf Q v J (by rw [if_pos c] at e; exact e) q)
theorem g_iflt {x : Int32} {off : Int} {tgt : Nat} {a b : pR} (hd : decode C.1.2.2.1 pc = .ok (.ifCond .lt off, 3)) (ht : (pc : Int) + off = (tgt : Int)) (kt : gW C a tgt L rest I) (kf : gW C b (pc + 3) L rest I) : gW C (if x < 0 then a else b) pc L (vI x :: rest) I := fun Q v J e q => i_iflt hd ht (fun c => kt Q v J (by rw [if_pos c] at e; exact e) q) (fun c => kf Q v J (by rw [if_neg c] at e; exact e) q)
theorem g_icmplt {x y : Int32} {off : Int} {tgt : Nat} {a b : pR} (hd : decode C.1.2.2.1 pc = .ok (.if_icmp .lt off, 3)) (ht : (pc : Int) + off = (tgt : Int)) (kt : gW C a tgt L rest I) (kf : gW C b (pc + 3) L rest I) : gW C (if x < y then a else b) pc L (vI y :: vI x :: rest) I := fun Q v J e q => i_icmplt hd ht (fun c => kt Q v J (by rw [if_pos c] at e; exact e) q) (fun c => kf Q v J (by rw [if_neg c] at e; exact e) q)
theorem g_ifge {x : Int32} {off : Int} {tgt : Nat} {a b : pR} (hd : decode C.1.2.2.1 pc = .ok (.ifCond .ge off, 3)) (ht : (pc : Int) + off = (tgt : Int)) (kt : gW C a tgt L rest I) (kf : gW C b (pc + 3) L rest I) : gW C (if 0 ≤ x then a else b) pc L (vI x :: rest) I := fun Q v J e q => i_ifge hd ht (fun c => kt Q v J (by rw [if_pos c] at e; exact e) q) (fun c => kf Q v J (by rw [if_neg c] at e; exact e) q)
theorem g_icmpge {x y : Int32} {off : Int} {tgt : Nat} {a b : pR} (hd : decode C.1.2.2.1 pc = .ok (.if_icmp .ge off, 3)) (ht : (pc : Int) + off = (tgt : Int)) (kt : gW C a tgt L rest I) (kf : gW C b (pc + 3) L rest I) : gW C (if y ≤ x then a else b) pc L (vI y :: vI x :: rest) I := fun Q v J e q => i_icmpge hd ht (fun c => kt Q v J (by rw [if_pos c] at e; exact e) q) (fun c => kf Q v J (by rw [if_neg c] at e; exact e) q)
theorem g_ifgt {x : Int32} {off : Int} {tgt : Nat} {a b : pR} (hd : decode C.1.2.2.1 pc = .ok (.ifCond .gt off, 3)) (ht : (pc : Int) + off = (tgt : Int)) (kt : gW C a tgt L rest I) (kf : gW C b (pc + 3) L rest I) : gW C (if 0 < x then a else b) pc L (vI x :: rest) I := fun Q v J e q => i_ifgt hd ht (fun c => kt Q v J (by rw [if_pos c] at e; exact e) q) (fun c => kf Q v J (by rw [if_neg c] at e; exact e) q)
theorem g_icmpgt {x y : Int32} {off : Int} {tgt : Nat} {a b : pR} (hd : decode C.1.2.2.1 pc = .ok (.if_icmp .gt off, 3)) (ht : (pc : Int) + off = (tgt : Int)) (kt : gW C a tgt L rest I) (kf : gW C b (pc + 3) L rest I) : gW C (if y < x then a else b) pc L (vI y :: vI x :: rest) I := fun Q v J e q => i_icmpgt hd ht (fun c => kt Q v J (by rw [if_pos c] at e; exact e) q) (fun c => kf Q v J (by rw [if_neg c] at e; exact e) q)
theorem g_ifle {x : Int32} {off : Int} {tgt : Nat} {a b : pR} (hd : decode C.1.2.2.1 pc = .ok (.ifCond .le off, 3)) (ht : (pc : Int) + off = (tgt : Int)) (kt : gW C a tgt L rest I) (kf : gW C b (pc + 3) L rest I) : gW C (if x ≤ 0 then a else b) pc L (vI x :: rest) I := fun Q v J e q => i_ifle hd ht (fun c => kt Q v J (by rw [if_pos c] at e; exact e) q) (fun c => kf Q v J (by rw [if_neg c] at e; exact e) q)
theorem g_icmple {x y : Int32} {off : Int} {tgt : Nat} {a b : pR} (hd : decode C.1.2.2.1 pc = .ok (.if_icmp .le off, 3)) (ht : (pc : Int) + off = (tgt : Int)) (kt : gW C a tgt L rest I) (kf : gW C b (pc + 3) L rest I) : gW C (if x ≤ y then a else b) pc L (vI y :: vI x :: rest) I := fun Q v J e q => i_icmple hd ht (fun c => kt Q v J (by rw [if_pos c] at e; exact e) q) (fun c => kf Q v J (by rw [if_neg c] at e; exact e) q)
theorem g_sw {x c : Int32} {a b : pR} (k1 : x = c → gW C a pc L (vI x :: rest) I) (k2 : ¬ x = c → gW C b pc L (vI x :: rest) I) : gW C (if x = c then a else b) pc L (vI x :: rest) I := by
  by_cases h : x = c
  · rw [if_pos h]; exact k1 h
  · rw [if_neg h]; exact k2 h
theorem g_tin {dflt lo hi : Int} {offs : Array Int} {len : Nat} {x c : Int32} {off : Int} {tgt : Nat} (hx : x = c) (hd : decode C.1.2.2.1 pc = .ok (.tableswitch dflt lo hi offs, len)) (h1 : ¬ c.toInt < lo) (h2 : ¬ hi < c.toInt) (ho : offs[(c.toInt - lo).toNat]? = some off) (ht : (pc : Int) + off = (tgt : Int)) (kk : gW C r tgt L rest I) : gW C r pc L (vI x :: rest) I := by
  subst hx
  exact fun Q v J e q => i_tableIn hd h1 h2 ho ht (kk Q v J e q)
theorem g_tout {dflt lo hi : Int} {offs : Array Int} {len : Nat} {x : Int32} {tgt : Nat} (hd : decode C.1.2.2.1 pc = .ok (.tableswitch dflt lo hi offs, len)) (hx : x.toInt < lo ∨ hi < x.toInt) (ht : (pc : Int) + dflt = (tgt : Int)) (kk : gW C r tgt L rest I) : gW C r pc L (vI x :: rest) I := fun Q v J e q => i_tableOut hd hx ht (kk Q v J e q)
theorem g_iret {x : Int32} (hd : decode C.1.2.2.1 pc = .ok (.ireturn, 1)) (hty : C.1.2.2.2.2 = some .int) (hc : C.2.2.2.2.2.1 ≤ C.2.2.1) (hs : C.2.2.2.2.2.2 ≤ C.2.2.2.1) : gW C (ri x I) pc L [vI x] I := fun Q v J e q => by
  cases e
  exact i_iret hd hty (vp_nar_int x) hc hs ⟨rfl, I, rfl, q⟩
theorem g_zret {x : Int32} (hd : decode C.1.2.2.1 pc = .ok (.ireturn, 1)) (hty : C.1.2.2.2.2 = some .boolean) (hc : C.2.2.2.2.2.1 ≤ C.2.2.1) (hs : C.2.2.2.2.2.2 ≤ C.2.2.2.1) : gW C (rz x I) pc L [vI x] I := fun Q v J e q => by
  unfold rz at e
  split at e
  · rename_i hx
    cases e
    exact i_iret hd hty (congrArg Value.int hx) hc hs ⟨rfl, I, rfl, q⟩
  · cases e
theorem g_ret (hd : decode C.1.2.2.1 pc = .ok (.return_, 1)) (hty : C.1.2.2.2.2 = none) (hc : C.2.2.2.2.2.1 ≤ C.2.2.1) (hs : C.2.2.2.2.2.2 ≤ C.2.2.2.1) : gW C (rv I) pc L [] I := fun Q v J e q => by
  cases e
  exact i_ret hd hty hc hs ⟨rfl, I, rfl, q⟩
theorem g_gi {ci index b k : Nat} {kk : Int32 → pR} (hd : decode C.1.2.2.1 pc = .ok (.getfield index, 3)) (hf : fk C.1.1 index ci k) (h : ∀ x, gW C (kk x) (pc + 3) L (vI x :: rest) I) : gW C (gi ci b k I kk) pc L (vR b :: rest) I := fun Q v J e q => by
  obtain ⟨Cn, T, N, h1, h2, h3, h4⟩ := hf
  unfold gi at e
  split at e
  · rename_i hs
    obtain ⟨hb, fs, hs, hk⟩ := sh_i_some hs
    exact f_geti hd h1 h2 h3 h4 hk hb hs rfl (h _ Q v J e q)
  · cases e
theorem g_gr {ci index b k : Nat} {kk : Nat → pR} (hd : decode C.1.2.2.1 pc = .ok (.getfield index, 3)) (hf : fk C.1.1 index ci k) (h : ∀ x, gW C (kk x) (pc + 3) L (vR x :: rest) I) : gW C (gr ci b k kk) pc L (vR b :: rest) I := fun Q v J e q => by
  obtain ⟨Cn, T, N, h1, h2, h3, h4⟩ := hf
  unfold gr at e
  split at e
  · rename_i y hs
    obtain ⟨hb, fs, hs, hk⟩ := sh_r_some hs
    exact f_getr hd h1 h2 h3 h4 hk hb hs (h _ Q v J e q)
  · cases e
theorem g_pI {ci index b k : Nat} {x : Int32} {kk : fm_I → pR} (hd : decode C.1.2.2.1 pc = .ok (.putfield index, 3)) (hf : fp C.1.1 index ci k .int) (h : ∀ J, gW C (kk J) (pc + 3) L rest J) : gW C (pI ci b k x I kk) pc L (vI x :: vR b :: rest) I := fun Q v J e q => by
  obtain ⟨Cn, T, N, ty0, h1, h2, h3, h4, h5, h6, h7, h8⟩ := hf
  unfold pI at e
  split at e
  · rename_i hs
    obtain ⟨hb, fs, hs, hk⟩ := sh_i_some hs
    exact f_puti ty0 h5 h6 hd h1 h2 h3 h4 h7 h8 hk (vp_nar_int x) rfl hb hs (h _ Q v J e q)
  · cases e
theorem g_pZ {ci index b k : Nat} {x : Int32} {kk : fm_I → pR} (hd : decode C.1.2.2.1 pc = .ok (.putfield index, 3)) (hf : fp C.1.1 index ci k .boolean) (h : ∀ J, gW C (kk J) (pc + 3) L rest J) : gW C (pZ ci b k x I kk) pc L (vI x :: vR b :: rest) I := fun Q v J e q => by
  obtain ⟨Cn, T, N, ty0, h1, h2, h3, h4, h5, h6, h7, h8⟩ := hf
  unfold pZ at e
  split at e
  · rename_i hs
    obtain ⟨hs, hx⟩ := hs
    obtain ⟨hb, fs, hs, hk⟩ := sh_i_some hs
    exact f_puti ty0 h5 h6 hd h1 h2 h3 h4 h7 h8 hk (congrArg Value.int hx) (by rw [← hx]; exact am_fitz x) hb hs (h _ Q v J e q)
  · cases e
theorem g_ldI {b : Nat} {i : Int32} {kk : Int32 → pR} (hd : decode C.1.2.2.1 pc = .ok (.iaload, 1)) (h : ∀ x, gW C (kk x) (pc + 1) L (vI x :: rest) I) : gW C (ld 0 b i I kk) pc L (vI i :: vR b :: rest) I := fun Q v J e q => by
  unfold ld at e
  split at e
  · rename_i N hs
    obtain ⟨hb, hN, hs⟩ := sh_n_some hs
    split at e
    · cases e
    · rename_i hi
      exact i_iald (f := I b) hd hb (by show fm_c (fm_sh b) (I b) = _; rw [hs]; rfl) hi (h _ Q v J e q)
  · cases e
theorem g_ldZ {b : Nat} {i : Int32} {kk : Int32 → pR} (hd : decode C.1.2.2.1 pc = .ok (.baload, 1)) (h : ∀ x, gW C (kk x) (pc + 1) L (vI x :: rest) I) : gW C (ld 1 b i I kk) pc L (vI i :: vR b :: rest) I := fun Q v J e q => by
  unfold ld at e
  split at e
  · rename_i N hs
    obtain ⟨hb, hN, hs⟩ := sh_n_some hs
    split at e
    · cases e
    · rename_i hi
      exact i_zald (f := I b) hd hb (by show fm_c (fm_sh b) (I b) = _; rw [hs]; rfl) hi (h _ Q v J e q)
  · cases e
theorem g_sI {b : Nat} {i x : Int32} {kk : fm_I → pR} (hd : decode C.1.2.2.1 pc = .ok (.iastore, 1)) (h : ∀ J, gW C (kk J) (pc + 1) L rest J) : gW C (sI b i x I kk) pc L (vI x :: vI i :: vR b :: rest) I := fun Q v J e q => by
  unfold sI at e
  split at e
  · rename_i N hs
    obtain ⟨hb, hN, hs⟩ := sh_n_some hs
    split at e
    · cases e
    · rename_i hi
      have hi2 : vp_in i N := hi
      obtain ⟨j, hj, rfl⟩ := vp_in_of hi2 hN
      rw [nI_clamp (Nat.lt_trans hj hN)] at e
      exact f_iast hd hb hs hN rfl hj (h _ Q v J e q)
  · cases e
theorem g_sZ {b : Nat} {i x : Int32} {kk : fm_I → pR} (hd : decode C.1.2.2.1 pc = .ok (.bastore, 1)) (h : ∀ J, gW C (kk J) (pc + 1) L rest J) : gW C (sZ b i x I kk) pc L (vI x :: vI i :: vR b :: rest) I := fun Q v J e q => by
  unfold sZ at e
  split at e
  · rename_i N hs
    obtain ⟨hb, hN, hs⟩ := sh_n_some hs
    split at e
    · cases e
    · rename_i hi
      have hi2 : vp_in i N := hi
      obtain ⟨j, hj, rfl⟩ := vp_in_of hi2 hN
      rw [nI_clamp (Nat.lt_trans hj hN)] at e
      exact f_zast hd hb hs hN rfl hj rfl (h _ Q v J e q)
  · cases e
theorem g_la2 {b : Nat} {i : Int32} {kk : Nat → pR} (hd : decode C.1.2.2.1 pc = .ok (.aaload, 1)) (h : ∀ x, gW C (kk x) (pc + 1) L (vR x :: rest) I) : gW C (la 2 b i kk) pc L (vI i :: vR b :: rest) I := fun Q v J e q => by
  unfold la at e
  split at e
  · cases e
  · rename_i h0
    split at e
    · rename_i y hs
      obtain ⟨hb, N, g, hN, hj, hs, hy⟩ := sh_a_some hs
      exact i_aald (g := g) hd hb (by show fm_c (fm_sh b) (I b) = _; rw [hs]; rfl) (fun z => z.elim h0 (fun z => absurd hj (by omega))) hy (h _ Q v J e q)
    · cases e
theorem g_la3 {b : Nat} {i : Int32} {kk : Nat → pR} (hd : decode C.1.2.2.1 pc = .ok (.aaload, 1)) (h : ∀ x, gW C (kk x) (pc + 1) L (vR x :: rest) I) : gW C (la 3 b i kk) pc L (vI i :: vR b :: rest) I := fun Q v J e q => by
  unfold la at e
  split at e
  · cases e
  · rename_i h0
    split at e
    · rename_i y hs
      obtain ⟨hb, N, g, hN, hj, hs, hy⟩ := sh_a_some hs
      exact i_aald3 (g := g) hd hb (by show fm_c (fm_sh b) (I b) = _; rw [hs]; rfl) (fun z => z.elim h0 (fun z => absurd hj (by omega))) hy (h _ Q v J e q)
    · cases e
theorem g_ln {b : Nat} {kk : Int32 → pR} (hd : decode C.1.2.2.1 pc = .ok (.arraylength, 1)) (h : ∀ x, gW C (kk x) (pc + 1) L (vI x :: rest) I) : gW C (ln b kk) pc L (vR b :: rest) I := fun Q v J e q => by
  unfold ln at e
  split at e
  · rename_i N hs
    obtain ⟨hb, hN, hs⟩ := sh_n_some hs
    exact f_alen hd hb hs rfl (h _ Q v J e q)
  · cases e
theorem g_sl {S : Nat × (Nat → Int32)} {i : Int32} {kk : Int32 → pR} (hS : C.2.2.2.2.1 = some S) (hd : decode C.1.2.2.1 pc = .ok (.iaload, 1)) (h : ∀ x, gW C (kk x) (pc + 1) L (vI x :: rest) I) : gW C (sl S i kk) pc L (vI i :: vR am_SP :: rest) I := fun Q v J e q => by
  unfold sl at e
  split at e
  · cases e
  · rename_i hi
    exact i_sald (Ln := S.1) (xs := S.2) hS hd hi (h _ Q v J e q)
theorem g_sn {S : Nat × (Nat → Int32)} (hS : C.2.2.2.2.1 = some S) (hd : decode C.1.2.2.1 pc = .ok (.arraylength, 1)) (h : gW C r (pc + 1) L (vI (Int32.ofNat S.1) :: rest) I) : gW C r pc L (vR am_SP :: rest) I := fun Q v J e q => i_slen (Ln := S.1) (xs := S.2) hS hd (h Q v J e q)
theorem g_mx {index : Nat} {x y : Int32} {kk : Int32 → pR} (hd : decode C.1.2.2.1 pc = .ok (.invokestatic index, 3)) (h1 : Cond.methodLink C.1.1 index Lib.Math.max.name ∈ am_all) (hf : 1 ≤ C.2.1) (hr : rest.length ≤ 8) (hc : C.2.2.2.2.2.1 ≤ C.2.2.1) (hs : C.2.2.2.2.2.2 ≤ C.2.2.2.1) (h : ∀ z, gW C (kk z) (pc + 3) L (vI z :: rest) I) : gW C (bn (if x < y then y else x) kk) pc L (vI y :: vI x :: rest) I := fun Q v J e q => i_mmax hd h1 am_mx1 am_mx2 am_mx3 hf hr hc hs (h _ Q v J e q)
variable {M' : am_M} {d' index ci b na : Nat} {f : pR}
theorem g_vi {kk : Int32 → fm_I → pR} (hM : gM M' d' f (vR b :: As) I) (hst : st = As.reverse ++ vR b :: rest) (hn : As.length = na) (hd : decode C.1.2.2.1 pc = .ok (.invokevirtual index, 3)) (hk : ckV C.1.1 index ci na M') (hdd : d' + 1 ≤ C.2.1) (hrs : rest.length ≤ 8) (hc : C.2.2.2.2.2.1 ≤ C.2.2.1) (hs : C.2.2.2.2.2.2 ≤ C.2.2.2.1) (h : ∀ x J, gW C (kk x J) (pc + 3) L (vI x :: rest) J) : gW C (vi ci b f kk) pc L st I := fun Q v J e q => by
  subst hn
  obtain ⟨h1, h2, ⟨h3, h4, h5⟩, h6, T, N, h7⟩ := hk
  unfold vi at e
  split at e
  · rename_i ho
    obtain ⟨hb, fs, ho⟩ := sh_o_some ho
    obtain ⟨x, K, e1, e2⟩ := bi_some e
    exact f_callV (hM _ _ e1) hst hd h1 h2 ⟨rfl, h3, h4, h5⟩ hdd h6 hb ho h7 hrs hc hs (fun w K2 z => by obtain ⟨rfl, rfl⟩ := z; exact h x K2 Q v J e2 q)
  · cases e
theorem g_vv {kk : fm_I → pR} (hM : gM M' d' f (vR b :: As) I) (hst : st = As.reverse ++ vR b :: rest) (hn : As.length = na) (hd : decode C.1.2.2.1 pc = .ok (.invokevirtual index, 3)) (hk : ckV C.1.1 index ci na M') (hdd : d' + 1 ≤ C.2.1) (hrs : rest.length ≤ 8) (hc : C.2.2.2.2.2.1 ≤ C.2.2.1) (hs : C.2.2.2.2.2.2 ≤ C.2.2.2.1) (h : ∀ J, gW C (kk J) (pc + 3) L rest J) : gW C (vv ci b f kk) pc L st I := fun Q v J e q => by
  subst hn
  obtain ⟨h1, h2, ⟨h3, h4, h5⟩, h6, T, N, h7⟩ := hk
  unfold vv at e
  split at e
  · rename_i ho
    obtain ⟨hb, fs, ho⟩ := sh_o_some ho
    obtain ⟨K, e1, e2⟩ := bv_some e
    exact f_callV (hM _ _ e1) hst hd h1 h2 ⟨rfl, h3, h4, h5⟩ hdd h6 hb ho h7 hrs hc hs (fun w K2 z => by obtain ⟨rfl, rfl⟩ := z; exact h K2 Q v J e2 q)
  · cases e
theorem g_si {kk : Int32 → fm_I → pR} (hM : gM M' d' f As I) (hst : st = As.reverse ++ rest) (hn : As.length = na) (hd : decode C.1.2.2.1 pc = .ok (.invokestatic index, 3)) (hk : ckS C.1.1 index na M') (hdd : d' + 1 ≤ C.2.1) (hrs : rest.length ≤ 8) (hc : C.2.2.2.2.2.1 ≤ C.2.2.1) (hs : C.2.2.2.2.2.2 ≤ C.2.2.2.1) (h : ∀ x J, gW C (kk x J) (pc + 3) L (vI x :: rest) J) : gW C (bi f kk) pc L st I := fun Q v J e q => by
  subst hn
  obtain ⟨h1, h2, h3, h6⟩ := hk
  obtain ⟨x, K, e1, e2⟩ := bi_some e
  exact f_callS (hM _ _ e1) hst hd h1 h2 h3 hdd h6 hrs hc hs (fun w K2 z => by obtain ⟨rfl, rfl⟩ := z; exact h x K2 Q v J e2 q)
theorem g_ni {kk : Int32 → fm_I → pR} (hM : gM M' d' f As I) (hst : st = As.reverse ++ rest) (hn : As.length = na) (hd : decode C.1.2.2.1 pc = .ok (.invokestatic index, 3)) (hk : ckN C.1.1 index na M') (hdd : d' + 1 ≤ C.2.1) (hrs : rest.length ≤ 8) (hc : C.2.2.2.2.2.1 ≤ C.2.2.1) (hs : C.2.2.2.2.2.2 ≤ C.2.2.2.1) (h : ∀ x J, gW C (kk x J) (pc + 3) L (vI x :: rest) J) : gW C (bi f kk) pc L st I := fun Q v J e q => by
  subst hn
  obtain ⟨h1, ⟨host, h2⟩, h3, h4, h5, h6⟩ := hk
  obtain ⟨x, K, e1, e2⟩ := bi_some e
  exact f_callSN (hM _ _ e1) hst hd h1 h2 h3 h4 h5 hdd h6 hrs hc hs (fun w K2 z => by obtain ⟨rfl, rfl⟩ := z; exact h x K2 Q v J e2 q)
end PG
end
